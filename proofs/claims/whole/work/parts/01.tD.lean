def t_X10_init : List (Nat × Instr × Nat) := [(0, .aload_n 0, 1), (1, .invokespecial 1, 3), (4, .aload_n 0, 1), (5, .sipush 161, 3), (8, .newarray .char, 2), (10, .putfield 7, 3), (13, .aload_n 0, 1), (14, .sipush 161, 3), (17, .newarray .int, 2), (19, .putfield 13, 3), (22, .aload_n 0, 1), (23, .bipush 20, 2), (25, .newarray .char, 2), (27, .putfield 17, 3), (30, .aload_n 0, 1), (31, .bipush 12, 2), (33, .newarray .int, 2), (35, .putfield 20, 3), (38, .aload_n 0, 1), (39, .sipush 720, 3), (42, .newarray .char, 2), (44, .putfield 23, 3), (47, .aload_n 0, 1), (48, .bipush 36, 2), (50, .newarray .int, 2), (52, .putfield 26, 3), (55, .aload_n 0, 1), (56, .bipush 36, 2), (58, .newarray .int, 2), (60, .putfield 29, 3), (63, .aload_n 0, 1), (64, .bipush 12, 2), (66, .newarray .char, 2), (68, .putfield 32, 3), (71, .aload_n 0, 1), (72, .bipush 12, 2), (74, .newarray .boolean, 2), (76, .putfield 35, 3), (79, .aload_n 0, 1), (80, .bipush 12, 2), (82, .newarray .int, 2), (84, .putfield 39, 3), (87, .aload_n 0, 1), (88, .bipush 12, 2), (90, .newarray .int, 2), (92, .putfield 42, 3), (95, .aload_n 0, 1), (96, .sipush 720, 3), (99, .newarray .char, 2), (101, .putfield 45, 3), (104, .aload_n 0, 1), (105, .bipush 36, 2), (107, .newarray .int, 2), (109, .putfield 48, 3), (112, .aload_n 0, 1), (113, .bipush 12, 2), (115, .newarray .int, 2), (117, .putfield 51, 3), (120, .aload_n 0, 1), (121, .sipush 480, 3), (124, .newarray .char, 2), (126, .putfield 54, 3), (129, .aload_n 0, 1), (130, .bipush 24, 2), (132, .newarray .int, 2), (134, .putfield 57, 3), (137, .aload_n 0, 1), (138, .sipush 160, 3), (141, .newarray .char, 2), (143, .putfield 60, 3), (146, .aload_n 0, 1), (147, .bipush 8, 2), (149, .newarray .int, 2), (151, .putfield 63, 3), (154, .aload_n 0, 1), (155, .bipush 48, 2), (157, .newarray .boolean, 2), (159, .putfield 66, 3), (162, .aload_n 0, 1), (163, .bipush 48, 2), (165, .newarray .int, 2), (167, .putfield 69, 3), (170, .aload_n 0, 1), (171, .iconst 4, 1), (172, .newarray .int, 2), (174, .putfield 72, 3), (177, .aload_n 0, 1), (178, .iconst 4, 1), (179, .newarray .int, 2), (181, .putfield 75, 3), (184, .aload_n 0, 1), (185, .bipush 80, 2), (187, .newarray .int, 2), (189, .putfield 78, 3), (192, .aload_n 0, 1), (193, .bipush 80, 2), (195, .newarray .int, 2), (197, .putfield 81, 3), (200, .aload_n 0, 1), (201, .bipush 80, 2), (203, .newarray .int, 2), (205, .putfield 84, 3), (208, .aload_n 0, 1), (209, .sipush 644, 3), (212, .newarray .boolean, 2), (214, .putfield 87, 3), (217, .aload_n 0, 1), (218, .sipush 160, 3), (221, .newarray .int, 2), (223, .putfield 90, 3), (226, .aload_n 0, 1), (227, .sipush 160, 3), (230, .newarray .int, 2), (232, .putfield 93, 3), (235, .aload_n 0, 1), (236, .sipush 160, 3), (239, .newarray .boolean, 2), (241, .putfield 96, 3), (244, .aload_n 0, 1), (245, .sipush 161, 3), (248, .newarray .int, 2), (250, .putfield 99, 3), (253, .aload_n 0, 1), (254, .sipush 161, 3), (257, .newarray .boolean, 2), (259, .putfield 102, 3), (262, .aload_n 0, 1), (263, .sipush 2800, 3), (266, .newarray .int, 2), (268, .putfield 105, 3), (271, .aload_n 0, 1), (272, .sipush 2800, 3), (275, .newarray .int, 2), (277, .putfield 108, 3), (280, .aload_n 0, 1), (281, .sipush 2800, 3), (284, .newarray .int, 2), (286, .putfield 111, 3), (289, .aload_n 0, 1), (290, .sipush 2800, 3), (293, .newarray .int, 2), (295, .putfield 114, 3), (298, .aload_n 0, 1), (299, .sipush 160, 3), (302, .newarray .int, 2), (304, .putfield 117, 3), (307, .aload_n 0, 1), (308, .sipush 200, 3), (311, .newarray .char, 2), (313, .putfield 120, 3), (316, .iconst 0, 1), (317, .istore_n 1, 1), (318, .iload_n 1, 1), (319, .iconst 4, 1), (320, .if_icmp .ge 20, 3), (323, .aload_n 0, 1), (324, .getfield 87, 3), (327, .iload_n 1, 1), (328, .sipush 161, 3), (331, .imul, 1), (332, .iconst 1, 1), (333, .bastore, 1), (334, .iinc 1 1, 3), (337, .goto (-19), 3), (340, .return_, 1)]
theorem t_X10_init_ok : dec_ok cX10_init t_X10_init = true := by decide +kernel
theorem dX10_init_0 : decode cX10_init 0 = .ok (.aload_n 0, 1) := dec_of t_X10_init_ok 0 rfl
theorem dX10_init_1 : decode cX10_init 1 = .ok (.invokespecial 1, 3) := dec_of t_X10_init_ok 1 rfl
theorem dX10_init_4 : decode cX10_init 4 = .ok (.aload_n 0, 1) := dec_of t_X10_init_ok 2 rfl
theorem dX10_init_5 : decode cX10_init 5 = .ok (.sipush 161, 3) := dec_of t_X10_init_ok 3 rfl
theorem dX10_init_8 : decode cX10_init 8 = .ok (.newarray .char, 2) := dec_of t_X10_init_ok 4 rfl
theorem dX10_init_10 : decode cX10_init 10 = .ok (.putfield 7, 3) := dec_of t_X10_init_ok 5 rfl
theorem dX10_init_13 : decode cX10_init 13 = .ok (.aload_n 0, 1) := dec_of t_X10_init_ok 6 rfl
theorem dX10_init_14 : decode cX10_init 14 = .ok (.sipush 161, 3) := dec_of t_X10_init_ok 7 rfl
theorem dX10_init_17 : decode cX10_init 17 = .ok (.newarray .int, 2) := dec_of t_X10_init_ok 8 rfl
theorem dX10_init_19 : decode cX10_init 19 = .ok (.putfield 13, 3) := dec_of t_X10_init_ok 9 rfl
theorem dX10_init_22 : decode cX10_init 22 = .ok (.aload_n 0, 1) := dec_of t_X10_init_ok 10 rfl
theorem dX10_init_23 : decode cX10_init 23 = .ok (.bipush 20, 2) := dec_of t_X10_init_ok 11 rfl
theorem dX10_init_25 : decode cX10_init 25 = .ok (.newarray .char, 2) := dec_of t_X10_init_ok 12 rfl
theorem dX10_init_27 : decode cX10_init 27 = .ok (.putfield 17, 3) := dec_of t_X10_init_ok 13 rfl
theorem dX10_init_30 : decode cX10_init 30 = .ok (.aload_n 0, 1) := dec_of t_X10_init_ok 14 rfl
theorem dX10_init_31 : decode cX10_init 31 = .ok (.bipush 12, 2) := dec_of t_X10_init_ok 15 rfl
theorem dX10_init_33 : decode cX10_init 33 = .ok (.newarray .int, 2) := dec_of t_X10_init_ok 16 rfl
theorem dX10_init_35 : decode cX10_init 35 = .ok (.putfield 20, 3) := dec_of t_X10_init_ok 17 rfl
theorem dX10_init_38 : decode cX10_init 38 = .ok (.aload_n 0, 1) := dec_of t_X10_init_ok 18 rfl
theorem dX10_init_39 : decode cX10_init 39 = .ok (.sipush 720, 3) := dec_of t_X10_init_ok 19 rfl
theorem dX10_init_42 : decode cX10_init 42 = .ok (.newarray .char, 2) := dec_of t_X10_init_ok 20 rfl
theorem dX10_init_44 : decode cX10_init 44 = .ok (.putfield 23, 3) := dec_of t_X10_init_ok 21 rfl
theorem dX10_init_47 : decode cX10_init 47 = .ok (.aload_n 0, 1) := dec_of t_X10_init_ok 22 rfl
theorem dX10_init_48 : decode cX10_init 48 = .ok (.bipush 36, 2) := dec_of t_X10_init_ok 23 rfl
theorem dX10_init_50 : decode cX10_init 50 = .ok (.newarray .int, 2) := dec_of t_X10_init_ok 24 rfl
theorem dX10_init_52 : decode cX10_init 52 = .ok (.putfield 26, 3) := dec_of t_X10_init_ok 25 rfl
theorem dX10_init_55 : decode cX10_init 55 = .ok (.aload_n 0, 1) := dec_of t_X10_init_ok 26 rfl
theorem dX10_init_56 : decode cX10_init 56 = .ok (.bipush 36, 2) := dec_of t_X10_init_ok 27 rfl
theorem dX10_init_58 : decode cX10_init 58 = .ok (.newarray .int, 2) := dec_of t_X10_init_ok 28 rfl
theorem dX10_init_60 : decode cX10_init 60 = .ok (.putfield 29, 3) := dec_of t_X10_init_ok 29 rfl
theorem dX10_init_63 : decode cX10_init 63 = .ok (.aload_n 0, 1) := dec_of t_X10_init_ok 30 rfl
theorem dX10_init_64 : decode cX10_init 64 = .ok (.bipush 12, 2) := dec_of t_X10_init_ok 31 rfl
theorem dX10_init_66 : decode cX10_init 66 = .ok (.newarray .char, 2) := dec_of t_X10_init_ok 32 rfl
theorem dX10_init_68 : decode cX10_init 68 = .ok (.putfield 32, 3) := dec_of t_X10_init_ok 33 rfl
theorem dX10_init_71 : decode cX10_init 71 = .ok (.aload_n 0, 1) := dec_of t_X10_init_ok 34 rfl
theorem dX10_init_72 : decode cX10_init 72 = .ok (.bipush 12, 2) := dec_of t_X10_init_ok 35 rfl
theorem dX10_init_74 : decode cX10_init 74 = .ok (.newarray .boolean, 2) := dec_of t_X10_init_ok 36 rfl
theorem dX10_init_76 : decode cX10_init 76 = .ok (.putfield 35, 3) := dec_of t_X10_init_ok 37 rfl
theorem dX10_init_79 : decode cX10_init 79 = .ok (.aload_n 0, 1) := dec_of t_X10_init_ok 38 rfl
theorem dX10_init_80 : decode cX10_init 80 = .ok (.bipush 12, 2) := dec_of t_X10_init_ok 39 rfl
theorem dX10_init_82 : decode cX10_init 82 = .ok (.newarray .int, 2) := dec_of t_X10_init_ok 40 rfl
theorem dX10_init_84 : decode cX10_init 84 = .ok (.putfield 39, 3) := dec_of t_X10_init_ok 41 rfl
theorem dX10_init_87 : decode cX10_init 87 = .ok (.aload_n 0, 1) := dec_of t_X10_init_ok 42 rfl
theorem dX10_init_88 : decode cX10_init 88 = .ok (.bipush 12, 2) := dec_of t_X10_init_ok 43 rfl
theorem dX10_init_90 : decode cX10_init 90 = .ok (.newarray .int, 2) := dec_of t_X10_init_ok 44 rfl
theorem dX10_init_92 : decode cX10_init 92 = .ok (.putfield 42, 3) := dec_of t_X10_init_ok 45 rfl
theorem dX10_init_95 : decode cX10_init 95 = .ok (.aload_n 0, 1) := dec_of t_X10_init_ok 46 rfl
theorem dX10_init_96 : decode cX10_init 96 = .ok (.sipush 720, 3) := dec_of t_X10_init_ok 47 rfl
theorem dX10_init_99 : decode cX10_init 99 = .ok (.newarray .char, 2) := dec_of t_X10_init_ok 48 rfl
theorem dX10_init_101 : decode cX10_init 101 = .ok (.putfield 45, 3) := dec_of t_X10_init_ok 49 rfl
theorem dX10_init_104 : decode cX10_init 104 = .ok (.aload_n 0, 1) := dec_of t_X10_init_ok 50 rfl
theorem dX10_init_105 : decode cX10_init 105 = .ok (.bipush 36, 2) := dec_of t_X10_init_ok 51 rfl
theorem dX10_init_107 : decode cX10_init 107 = .ok (.newarray .int, 2) := dec_of t_X10_init_ok 52 rfl
theorem dX10_init_109 : decode cX10_init 109 = .ok (.putfield 48, 3) := dec_of t_X10_init_ok 53 rfl
theorem dX10_init_112 : decode cX10_init 112 = .ok (.aload_n 0, 1) := dec_of t_X10_init_ok 54 rfl
theorem dX10_init_113 : decode cX10_init 113 = .ok (.bipush 12, 2) := dec_of t_X10_init_ok 55 rfl
theorem dX10_init_115 : decode cX10_init 115 = .ok (.newarray .int, 2) := dec_of t_X10_init_ok 56 rfl
theorem dX10_init_117 : decode cX10_init 117 = .ok (.putfield 51, 3) := dec_of t_X10_init_ok 57 rfl
theorem dX10_init_120 : decode cX10_init 120 = .ok (.aload_n 0, 1) := dec_of t_X10_init_ok 58 rfl
theorem dX10_init_121 : decode cX10_init 121 = .ok (.sipush 480, 3) := dec_of t_X10_init_ok 59 rfl
theorem dX10_init_124 : decode cX10_init 124 = .ok (.newarray .char, 2) := dec_of t_X10_init_ok 60 rfl
theorem dX10_init_126 : decode cX10_init 126 = .ok (.putfield 54, 3) := dec_of t_X10_init_ok 61 rfl
theorem dX10_init_129 : decode cX10_init 129 = .ok (.aload_n 0, 1) := dec_of t_X10_init_ok 62 rfl
theorem dX10_init_130 : decode cX10_init 130 = .ok (.bipush 24, 2) := dec_of t_X10_init_ok 63 rfl
theorem dX10_init_132 : decode cX10_init 132 = .ok (.newarray .int, 2) := dec_of t_X10_init_ok 64 rfl
theorem dX10_init_134 : decode cX10_init 134 = .ok (.putfield 57, 3) := dec_of t_X10_init_ok 65 rfl
theorem dX10_init_137 : decode cX10_init 137 = .ok (.aload_n 0, 1) := dec_of t_X10_init_ok 66 rfl
theorem dX10_init_138 : decode cX10_init 138 = .ok (.sipush 160, 3) := dec_of t_X10_init_ok 67 rfl
theorem dX10_init_141 : decode cX10_init 141 = .ok (.newarray .char, 2) := dec_of t_X10_init_ok 68 rfl
theorem dX10_init_143 : decode cX10_init 143 = .ok (.putfield 60, 3) := dec_of t_X10_init_ok 69 rfl
theorem dX10_init_146 : decode cX10_init 146 = .ok (.aload_n 0, 1) := dec_of t_X10_init_ok 70 rfl
theorem dX10_init_147 : decode cX10_init 147 = .ok (.bipush 8, 2) := dec_of t_X10_init_ok 71 rfl
theorem dX10_init_149 : decode cX10_init 149 = .ok (.newarray .int, 2) := dec_of t_X10_init_ok 72 rfl
theorem dX10_init_151 : decode cX10_init 151 = .ok (.putfield 63, 3) := dec_of t_X10_init_ok 73 rfl
theorem dX10_init_154 : decode cX10_init 154 = .ok (.aload_n 0, 1) := dec_of t_X10_init_ok 74 rfl
theorem dX10_init_155 : decode cX10_init 155 = .ok (.bipush 48, 2) := dec_of t_X10_init_ok 75 rfl
theorem dX10_init_157 : decode cX10_init 157 = .ok (.newarray .boolean, 2) := dec_of t_X10_init_ok 76 rfl
theorem dX10_init_159 : decode cX10_init 159 = .ok (.putfield 66, 3) := dec_of t_X10_init_ok 77 rfl
theorem dX10_init_162 : decode cX10_init 162 = .ok (.aload_n 0, 1) := dec_of t_X10_init_ok 78 rfl
theorem dX10_init_163 : decode cX10_init 163 = .ok (.bipush 48, 2) := dec_of t_X10_init_ok 79 rfl
theorem dX10_init_165 : decode cX10_init 165 = .ok (.newarray .int, 2) := dec_of t_X10_init_ok 80 rfl
theorem dX10_init_167 : decode cX10_init 167 = .ok (.putfield 69, 3) := dec_of t_X10_init_ok 81 rfl
theorem dX10_init_170 : decode cX10_init 170 = .ok (.aload_n 0, 1) := dec_of t_X10_init_ok 82 rfl
theorem dX10_init_171 : decode cX10_init 171 = .ok (.iconst 4, 1) := dec_of t_X10_init_ok 83 rfl
theorem dX10_init_172 : decode cX10_init 172 = .ok (.newarray .int, 2) := dec_of t_X10_init_ok 84 rfl
theorem dX10_init_174 : decode cX10_init 174 = .ok (.putfield 72, 3) := dec_of t_X10_init_ok 85 rfl
theorem dX10_init_177 : decode cX10_init 177 = .ok (.aload_n 0, 1) := dec_of t_X10_init_ok 86 rfl
theorem dX10_init_178 : decode cX10_init 178 = .ok (.iconst 4, 1) := dec_of t_X10_init_ok 87 rfl
theorem dX10_init_179 : decode cX10_init 179 = .ok (.newarray .int, 2) := dec_of t_X10_init_ok 88 rfl
theorem dX10_init_181 : decode cX10_init 181 = .ok (.putfield 75, 3) := dec_of t_X10_init_ok 89 rfl
theorem dX10_init_184 : decode cX10_init 184 = .ok (.aload_n 0, 1) := dec_of t_X10_init_ok 90 rfl
theorem dX10_init_185 : decode cX10_init 185 = .ok (.bipush 80, 2) := dec_of t_X10_init_ok 91 rfl
theorem dX10_init_187 : decode cX10_init 187 = .ok (.newarray .int, 2) := dec_of t_X10_init_ok 92 rfl
theorem dX10_init_189 : decode cX10_init 189 = .ok (.putfield 78, 3) := dec_of t_X10_init_ok 93 rfl
theorem dX10_init_192 : decode cX10_init 192 = .ok (.aload_n 0, 1) := dec_of t_X10_init_ok 94 rfl
theorem dX10_init_193 : decode cX10_init 193 = .ok (.bipush 80, 2) := dec_of t_X10_init_ok 95 rfl
theorem dX10_init_195 : decode cX10_init 195 = .ok (.newarray .int, 2) := dec_of t_X10_init_ok 96 rfl
theorem dX10_init_197 : decode cX10_init 197 = .ok (.putfield 81, 3) := dec_of t_X10_init_ok 97 rfl
theorem dX10_init_200 : decode cX10_init 200 = .ok (.aload_n 0, 1) := dec_of t_X10_init_ok 98 rfl
theorem dX10_init_201 : decode cX10_init 201 = .ok (.bipush 80, 2) := dec_of t_X10_init_ok 99 rfl
theorem dX10_init_203 : decode cX10_init 203 = .ok (.newarray .int, 2) := dec_of t_X10_init_ok 100 rfl
theorem dX10_init_205 : decode cX10_init 205 = .ok (.putfield 84, 3) := dec_of t_X10_init_ok 101 rfl
theorem dX10_init_208 : decode cX10_init 208 = .ok (.aload_n 0, 1) := dec_of t_X10_init_ok 102 rfl
theorem dX10_init_209 : decode cX10_init 209 = .ok (.sipush 644, 3) := dec_of t_X10_init_ok 103 rfl
theorem dX10_init_212 : decode cX10_init 212 = .ok (.newarray .boolean, 2) := dec_of t_X10_init_ok 104 rfl
theorem dX10_init_214 : decode cX10_init 214 = .ok (.putfield 87, 3) := dec_of t_X10_init_ok 105 rfl
theorem dX10_init_217 : decode cX10_init 217 = .ok (.aload_n 0, 1) := dec_of t_X10_init_ok 106 rfl
theorem dX10_init_218 : decode cX10_init 218 = .ok (.sipush 160, 3) := dec_of t_X10_init_ok 107 rfl
theorem dX10_init_221 : decode cX10_init 221 = .ok (.newarray .int, 2) := dec_of t_X10_init_ok 108 rfl
theorem dX10_init_223 : decode cX10_init 223 = .ok (.putfield 90, 3) := dec_of t_X10_init_ok 109 rfl
theorem dX10_init_226 : decode cX10_init 226 = .ok (.aload_n 0, 1) := dec_of t_X10_init_ok 110 rfl
theorem dX10_init_227 : decode cX10_init 227 = .ok (.sipush 160, 3) := dec_of t_X10_init_ok 111 rfl
theorem dX10_init_230 : decode cX10_init 230 = .ok (.newarray .int, 2) := dec_of t_X10_init_ok 112 rfl
theorem dX10_init_232 : decode cX10_init 232 = .ok (.putfield 93, 3) := dec_of t_X10_init_ok 113 rfl
theorem dX10_init_235 : decode cX10_init 235 = .ok (.aload_n 0, 1) := dec_of t_X10_init_ok 114 rfl
theorem dX10_init_236 : decode cX10_init 236 = .ok (.sipush 160, 3) := dec_of t_X10_init_ok 115 rfl
theorem dX10_init_239 : decode cX10_init 239 = .ok (.newarray .boolean, 2) := dec_of t_X10_init_ok 116 rfl
theorem dX10_init_241 : decode cX10_init 241 = .ok (.putfield 96, 3) := dec_of t_X10_init_ok 117 rfl
theorem dX10_init_244 : decode cX10_init 244 = .ok (.aload_n 0, 1) := dec_of t_X10_init_ok 118 rfl
theorem dX10_init_245 : decode cX10_init 245 = .ok (.sipush 161, 3) := dec_of t_X10_init_ok 119 rfl
theorem dX10_init_248 : decode cX10_init 248 = .ok (.newarray .int, 2) := dec_of t_X10_init_ok 120 rfl
theorem dX10_init_250 : decode cX10_init 250 = .ok (.putfield 99, 3) := dec_of t_X10_init_ok 121 rfl
theorem dX10_init_253 : decode cX10_init 253 = .ok (.aload_n 0, 1) := dec_of t_X10_init_ok 122 rfl
theorem dX10_init_254 : decode cX10_init 254 = .ok (.sipush 161, 3) := dec_of t_X10_init_ok 123 rfl
theorem dX10_init_257 : decode cX10_init 257 = .ok (.newarray .boolean, 2) := dec_of t_X10_init_ok 124 rfl
theorem dX10_init_259 : decode cX10_init 259 = .ok (.putfield 102, 3) := dec_of t_X10_init_ok 125 rfl
theorem dX10_init_262 : decode cX10_init 262 = .ok (.aload_n 0, 1) := dec_of t_X10_init_ok 126 rfl
theorem dX10_init_263 : decode cX10_init 263 = .ok (.sipush 2800, 3) := dec_of t_X10_init_ok 127 rfl
theorem dX10_init_266 : decode cX10_init 266 = .ok (.newarray .int, 2) := dec_of t_X10_init_ok 128 rfl
theorem dX10_init_268 : decode cX10_init 268 = .ok (.putfield 105, 3) := dec_of t_X10_init_ok 129 rfl
theorem dX10_init_271 : decode cX10_init 271 = .ok (.aload_n 0, 1) := dec_of t_X10_init_ok 130 rfl
theorem dX10_init_272 : decode cX10_init 272 = .ok (.sipush 2800, 3) := dec_of t_X10_init_ok 131 rfl
theorem dX10_init_275 : decode cX10_init 275 = .ok (.newarray .int, 2) := dec_of t_X10_init_ok 132 rfl
theorem dX10_init_277 : decode cX10_init 277 = .ok (.putfield 108, 3) := dec_of t_X10_init_ok 133 rfl
theorem dX10_init_280 : decode cX10_init 280 = .ok (.aload_n 0, 1) := dec_of t_X10_init_ok 134 rfl
theorem dX10_init_281 : decode cX10_init 281 = .ok (.sipush 2800, 3) := dec_of t_X10_init_ok 135 rfl
theorem dX10_init_284 : decode cX10_init 284 = .ok (.newarray .int, 2) := dec_of t_X10_init_ok 136 rfl
theorem dX10_init_286 : decode cX10_init 286 = .ok (.putfield 111, 3) := dec_of t_X10_init_ok 137 rfl
theorem dX10_init_289 : decode cX10_init 289 = .ok (.aload_n 0, 1) := dec_of t_X10_init_ok 138 rfl
theorem dX10_init_290 : decode cX10_init 290 = .ok (.sipush 2800, 3) := dec_of t_X10_init_ok 139 rfl
theorem dX10_init_293 : decode cX10_init 293 = .ok (.newarray .int, 2) := dec_of t_X10_init_ok 140 rfl
theorem dX10_init_295 : decode cX10_init 295 = .ok (.putfield 114, 3) := dec_of t_X10_init_ok 141 rfl
theorem dX10_init_298 : decode cX10_init 298 = .ok (.aload_n 0, 1) := dec_of t_X10_init_ok 142 rfl
theorem dX10_init_299 : decode cX10_init 299 = .ok (.sipush 160, 3) := dec_of t_X10_init_ok 143 rfl
theorem dX10_init_302 : decode cX10_init 302 = .ok (.newarray .int, 2) := dec_of t_X10_init_ok 144 rfl
theorem dX10_init_304 : decode cX10_init 304 = .ok (.putfield 117, 3) := dec_of t_X10_init_ok 145 rfl
theorem dX10_init_307 : decode cX10_init 307 = .ok (.aload_n 0, 1) := dec_of t_X10_init_ok 146 rfl
theorem dX10_init_308 : decode cX10_init 308 = .ok (.sipush 200, 3) := dec_of t_X10_init_ok 147 rfl
theorem dX10_init_311 : decode cX10_init 311 = .ok (.newarray .char, 2) := dec_of t_X10_init_ok 148 rfl
theorem dX10_init_313 : decode cX10_init 313 = .ok (.putfield 120, 3) := dec_of t_X10_init_ok 149 rfl
theorem dX10_init_316 : decode cX10_init 316 = .ok (.iconst 0, 1) := dec_of t_X10_init_ok 150 rfl
theorem dX10_init_317 : decode cX10_init 317 = .ok (.istore_n 1, 1) := dec_of t_X10_init_ok 151 rfl
theorem dX10_init_318 : decode cX10_init 318 = .ok (.iload_n 1, 1) := dec_of t_X10_init_ok 152 rfl
theorem dX10_init_319 : decode cX10_init 319 = .ok (.iconst 4, 1) := dec_of t_X10_init_ok 153 rfl
theorem dX10_init_320 : decode cX10_init 320 = .ok (.if_icmp .ge 20, 3) := dec_of t_X10_init_ok 154 rfl
theorem dX10_init_323 : decode cX10_init 323 = .ok (.aload_n 0, 1) := dec_of t_X10_init_ok 155 rfl
theorem dX10_init_324 : decode cX10_init 324 = .ok (.getfield 87, 3) := dec_of t_X10_init_ok 156 rfl
theorem dX10_init_327 : decode cX10_init 327 = .ok (.iload_n 1, 1) := dec_of t_X10_init_ok 157 rfl
theorem dX10_init_328 : decode cX10_init 328 = .ok (.sipush 161, 3) := dec_of t_X10_init_ok 158 rfl
theorem dX10_init_331 : decode cX10_init 331 = .ok (.imul, 1) := dec_of t_X10_init_ok 159 rfl
theorem dX10_init_332 : decode cX10_init 332 = .ok (.iconst 1, 1) := dec_of t_X10_init_ok 160 rfl
theorem dX10_init_333 : decode cX10_init 333 = .ok (.bastore, 1) := dec_of t_X10_init_ok 161 rfl
theorem dX10_init_334 : decode cX10_init 334 = .ok (.iinc 1 1, 3) := dec_of t_X10_init_ok 162 rfl
theorem dX10_init_337 : decode cX10_init 337 = .ok (.goto (-19), 3) := dec_of t_X10_init_ok 163 rfl
theorem dX10_init_340 : decode cX10_init 340 = .ok (.return_, 1) := dec_of t_X10_init_ok 164 rfl
def t_X10_thrown : List (Nat × Instr × Nat) := [(0, .aload_n 0, 1), (1, .getfield 123, 3), (4, .ireturn, 1)]
theorem t_X10_thrown_ok : dec_ok cX10_thrown t_X10_thrown = true := by decide +kernel
theorem dX10_thrown_0 : decode cX10_thrown 0 = .ok (.aload_n 0, 1) := dec_of t_X10_thrown_ok 0 rfl
theorem dX10_thrown_1 : decode cX10_thrown 1 = .ok (.getfield 123, 3) := dec_of t_X10_thrown_ok 1 rfl
theorem dX10_thrown_4 : decode cX10_thrown 4 = .ok (.ireturn, 1) := dec_of t_X10_thrown_ok 2 rfl
def t_X10_in : List (Nat × Instr × Nat) := [(0, .iload_n 0, 1), (1, .iload_n 1, 1), (2, .if_icmp .lt 12, 3), (5, .iload_n 0, 1), (6, .iload_n 2, 1), (7, .if_icmp .gt 7, 3), (10, .iconst 1, 1), (11, .goto 4, 3), (14, .iconst 0, 1), (15, .ireturn, 1)]
theorem t_X10_in_ok : dec_ok cX10_in t_X10_in = true := by decide +kernel
theorem dX10_in_0 : decode cX10_in 0 = .ok (.iload_n 0, 1) := dec_of t_X10_in_ok 0 rfl
theorem dX10_in_1 : decode cX10_in 1 = .ok (.iload_n 1, 1) := dec_of t_X10_in_ok 1 rfl
theorem dX10_in_2 : decode cX10_in 2 = .ok (.if_icmp .lt 12, 3) := dec_of t_X10_in_ok 2 rfl
theorem dX10_in_5 : decode cX10_in 5 = .ok (.iload_n 0, 1) := dec_of t_X10_in_ok 3 rfl
theorem dX10_in_6 : decode cX10_in 6 = .ok (.iload_n 2, 1) := dec_of t_X10_in_ok 4 rfl
theorem dX10_in_7 : decode cX10_in 7 = .ok (.if_icmp .gt 7, 3) := dec_of t_X10_in_ok 5 rfl
theorem dX10_in_10 : decode cX10_in 10 = .ok (.iconst 1, 1) := dec_of t_X10_in_ok 6 rfl
theorem dX10_in_11 : decode cX10_in 11 = .ok (.goto 4, 3) := dec_of t_X10_in_ok 7 rfl
theorem dX10_in_14 : decode cX10_in 14 = .ok (.iconst 0, 1) := dec_of t_X10_in_ok 8 rfl
theorem dX10_in_15 : decode cX10_in 15 = .ok (.ireturn, 1) := dec_of t_X10_in_ok 9 rfl
def t_X10_isLetter : List (Nat × Instr × Nat) := [(0, .iload_n 0, 1), (1, .bipush 97, 2), (3, .if_icmp .lt 13, 3), (6, .iload_n 0, 1), (7, .bipush 122, 2), (9, .if_icmp .gt 7, 3), (12, .iconst 1, 1), (13, .goto 4, 3), (16, .iconst 0, 1), (17, .ireturn, 1)]
theorem t_X10_isLetter_ok : dec_ok cX10_isLetter t_X10_isLetter = true := by decide +kernel
theorem dX10_isLetter_0 : decode cX10_isLetter 0 = .ok (.iload_n 0, 1) := dec_of t_X10_isLetter_ok 0 rfl
theorem dX10_isLetter_1 : decode cX10_isLetter 1 = .ok (.bipush 97, 2) := dec_of t_X10_isLetter_ok 1 rfl
theorem dX10_isLetter_3 : decode cX10_isLetter 3 = .ok (.if_icmp .lt 13, 3) := dec_of t_X10_isLetter_ok 2 rfl
theorem dX10_isLetter_6 : decode cX10_isLetter 6 = .ok (.iload_n 0, 1) := dec_of t_X10_isLetter_ok 3 rfl
theorem dX10_isLetter_7 : decode cX10_isLetter 7 = .ok (.bipush 122, 2) := dec_of t_X10_isLetter_ok 4 rfl
theorem dX10_isLetter_9 : decode cX10_isLetter 9 = .ok (.if_icmp .gt 7, 3) := dec_of t_X10_isLetter_ok 5 rfl
theorem dX10_isLetter_12 : decode cX10_isLetter 12 = .ok (.iconst 1, 1) := dec_of t_X10_isLetter_ok 6 rfl
theorem dX10_isLetter_13 : decode cX10_isLetter 13 = .ok (.goto 4, 3) := dec_of t_X10_isLetter_ok 7 rfl
theorem dX10_isLetter_16 : decode cX10_isLetter 16 = .ok (.iconst 0, 1) := dec_of t_X10_isLetter_ok 8 rfl
theorem dX10_isLetter_17 : decode cX10_isLetter 17 = .ok (.ireturn, 1) := dec_of t_X10_isLetter_ok 9 rfl
def t_X10_isDigit : List (Nat × Instr × Nat) := [(0, .iload_n 0, 1), (1, .bipush 48, 2), (3, .if_icmp .lt 13, 3), (6, .iload_n 0, 1), (7, .bipush 57, 2), (9, .if_icmp .gt 7, 3), (12, .iconst 1, 1), (13, .goto 4, 3), (16, .iconst 0, 1), (17, .ireturn, 1)]
theorem t_X10_isDigit_ok : dec_ok cX10_isDigit t_X10_isDigit = true := by decide +kernel
theorem dX10_isDigit_0 : decode cX10_isDigit 0 = .ok (.iload_n 0, 1) := dec_of t_X10_isDigit_ok 0 rfl
theorem dX10_isDigit_1 : decode cX10_isDigit 1 = .ok (.bipush 48, 2) := dec_of t_X10_isDigit_ok 1 rfl
theorem dX10_isDigit_3 : decode cX10_isDigit 3 = .ok (.if_icmp .lt 13, 3) := dec_of t_X10_isDigit_ok 2 rfl
theorem dX10_isDigit_6 : decode cX10_isDigit 6 = .ok (.iload_n 0, 1) := dec_of t_X10_isDigit_ok 3 rfl
theorem dX10_isDigit_7 : decode cX10_isDigit 7 = .ok (.bipush 57, 2) := dec_of t_X10_isDigit_ok 4 rfl
theorem dX10_isDigit_9 : decode cX10_isDigit 9 = .ok (.if_icmp .gt 7, 3) := dec_of t_X10_isDigit_ok 5 rfl
theorem dX10_isDigit_12 : decode cX10_isDigit 12 = .ok (.iconst 1, 1) := dec_of t_X10_isDigit_ok 6 rfl
theorem dX10_isDigit_13 : decode cX10_isDigit 13 = .ok (.goto 4, 3) := dec_of t_X10_isDigit_ok 7 rfl
theorem dX10_isDigit_16 : decode cX10_isDigit 16 = .ok (.iconst 0, 1) := dec_of t_X10_isDigit_ok 8 rfl
theorem dX10_isDigit_17 : decode cX10_isDigit 17 = .ok (.ireturn, 1) := dec_of t_X10_isDigit_ok 9 rfl
def t_X10_isDesk : List (Nat × Instr × Nat) := [(0, .iload_n 0, 1), (1, .iconst 0, 1), (2, .iconst 3, 1), (3, .invokestatic 127, 3), (6, .ireturn, 1)]
theorem t_X10_isDesk_ok : dec_ok cX10_isDesk t_X10_isDesk = true := by decide +kernel
theorem dX10_isDesk_0 : decode cX10_isDesk 0 = .ok (.iload_n 0, 1) := dec_of t_X10_isDesk_ok 0 rfl
theorem dX10_isDesk_1 : decode cX10_isDesk 1 = .ok (.iconst 0, 1) := dec_of t_X10_isDesk_ok 1 rfl
theorem dX10_isDesk_2 : decode cX10_isDesk 2 = .ok (.iconst 3, 1) := dec_of t_X10_isDesk_ok 2 rfl
theorem dX10_isDesk_3 : decode cX10_isDesk 3 = .ok (.invokestatic 127, 3) := dec_of t_X10_isDesk_ok 3 rfl
theorem dX10_isDesk_6 : decode cX10_isDesk 6 = .ok (.ireturn, 1) := dec_of t_X10_isDesk_ok 4 rfl
def t_X10_noDesk : List (Nat × Instr × Nat) := [(0, .aload_n 0, 1), (1, .iload_n 1, 1), (2, .invokestatic 131, 3), (5, .ifCond .eq 7, 3), (8, .iconst 0, 1), (9, .goto 4, 3), (12, .iconst 1, 1), (13, .putfield 123, 3), (16, .aload_n 0, 1), (17, .getfield 123, 3), (20, .ifCond .le 7, 3), (23, .iconst 1, 1), (24, .goto 4, 3), (27, .iconst 0, 1), (28, .ireturn, 1)]
theorem t_X10_noDesk_ok : dec_ok cX10_noDesk t_X10_noDesk = true := by decide +kernel
theorem dX10_noDesk_0 : decode cX10_noDesk 0 = .ok (.aload_n 0, 1) := dec_of t_X10_noDesk_ok 0 rfl
theorem dX10_noDesk_1 : decode cX10_noDesk 1 = .ok (.iload_n 1, 1) := dec_of t_X10_noDesk_ok 1 rfl
theorem dX10_noDesk_2 : decode cX10_noDesk 2 = .ok (.invokestatic 131, 3) := dec_of t_X10_noDesk_ok 2 rfl
theorem dX10_noDesk_5 : decode cX10_noDesk 5 = .ok (.ifCond .eq 7, 3) := dec_of t_X10_noDesk_ok 3 rfl
theorem dX10_noDesk_8 : decode cX10_noDesk 8 = .ok (.iconst 0, 1) := dec_of t_X10_noDesk_ok 4 rfl
theorem dX10_noDesk_9 : decode cX10_noDesk 9 = .ok (.goto 4, 3) := dec_of t_X10_noDesk_ok 5 rfl
theorem dX10_noDesk_12 : decode cX10_noDesk 12 = .ok (.iconst 1, 1) := dec_of t_X10_noDesk_ok 6 rfl
theorem dX10_noDesk_13 : decode cX10_noDesk 13 = .ok (.putfield 123, 3) := dec_of t_X10_noDesk_ok 7 rfl
theorem dX10_noDesk_16 : decode cX10_noDesk 16 = .ok (.aload_n 0, 1) := dec_of t_X10_noDesk_ok 8 rfl
theorem dX10_noDesk_17 : decode cX10_noDesk 17 = .ok (.getfield 123, 3) := dec_of t_X10_noDesk_ok 9 rfl
theorem dX10_noDesk_20 : decode cX10_noDesk 20 = .ok (.ifCond .le 7, 3) := dec_of t_X10_noDesk_ok 10 rfl
theorem dX10_noDesk_23 : decode cX10_noDesk 23 = .ok (.iconst 1, 1) := dec_of t_X10_noDesk_ok 11 rfl
theorem dX10_noDesk_24 : decode cX10_noDesk 24 = .ok (.goto 4, 3) := dec_of t_X10_noDesk_ok 12 rfl
theorem dX10_noDesk_27 : decode cX10_noDesk 27 = .ok (.iconst 0, 1) := dec_of t_X10_noDesk_ok 13 rfl
theorem dX10_noDesk_28 : decode cX10_noDesk 28 = .ok (.ireturn, 1) := dec_of t_X10_noDesk_ok 14 rfl
def t_X10_noRule : List (Nat × Instr × Nat) := [(0, .aload_n 0, 1), (1, .iload_n 1, 1), (2, .iconst 0, 1), (3, .aload_n 0, 1), (4, .getfield 135, 3), (7, .iconst 1, 1), (8, .isub, 1), (9, .invokestatic 127, 3), (12, .ifCond .eq 7, 3), (15, .iconst 0, 1), (16, .goto 4, 3), (19, .iconst 1, 1), (20, .putfield 123, 3), (23, .aload_n 0, 1), (24, .getfield 123, 3), (27, .ifCond .le 7, 3), (30, .iconst 1, 1), (31, .goto 4, 3), (34, .iconst 0, 1), (35, .ireturn, 1)]
theorem t_X10_noRule_ok : dec_ok cX10_noRule t_X10_noRule = true := by decide +kernel
theorem dX10_noRule_0 : decode cX10_noRule 0 = .ok (.aload_n 0, 1) := dec_of t_X10_noRule_ok 0 rfl
theorem dX10_noRule_1 : decode cX10_noRule 1 = .ok (.iload_n 1, 1) := dec_of t_X10_noRule_ok 1 rfl
theorem dX10_noRule_2 : decode cX10_noRule 2 = .ok (.iconst 0, 1) := dec_of t_X10_noRule_ok 2 rfl
theorem dX10_noRule_3 : decode cX10_noRule 3 = .ok (.aload_n 0, 1) := dec_of t_X10_noRule_ok 3 rfl
theorem dX10_noRule_4 : decode cX10_noRule 4 = .ok (.getfield 135, 3) := dec_of t_X10_noRule_ok 4 rfl
theorem dX10_noRule_7 : decode cX10_noRule 7 = .ok (.iconst 1, 1) := dec_of t_X10_noRule_ok 5 rfl
theorem dX10_noRule_8 : decode cX10_noRule 8 = .ok (.isub, 1) := dec_of t_X10_noRule_ok 6 rfl
theorem dX10_noRule_9 : decode cX10_noRule 9 = .ok (.invokestatic 127, 3) := dec_of t_X10_noRule_ok 7 rfl
theorem dX10_noRule_12 : decode cX10_noRule 12 = .ok (.ifCond .eq 7, 3) := dec_of t_X10_noRule_ok 8 rfl
theorem dX10_noRule_15 : decode cX10_noRule 15 = .ok (.iconst 0, 1) := dec_of t_X10_noRule_ok 9 rfl
theorem dX10_noRule_16 : decode cX10_noRule 16 = .ok (.goto 4, 3) := dec_of t_X10_noRule_ok 10 rfl
theorem dX10_noRule_19 : decode cX10_noRule 19 = .ok (.iconst 1, 1) := dec_of t_X10_noRule_ok 11 rfl
theorem dX10_noRule_20 : decode cX10_noRule 20 = .ok (.putfield 123, 3) := dec_of t_X10_noRule_ok 12 rfl
theorem dX10_noRule_23 : decode cX10_noRule 23 = .ok (.aload_n 0, 1) := dec_of t_X10_noRule_ok 13 rfl
theorem dX10_noRule_24 : decode cX10_noRule 24 = .ok (.getfield 123, 3) := dec_of t_X10_noRule_ok 14 rfl
theorem dX10_noRule_27 : decode cX10_noRule 27 = .ok (.ifCond .le 7, 3) := dec_of t_X10_noRule_ok 15 rfl
theorem dX10_noRule_30 : decode cX10_noRule 30 = .ok (.iconst 1, 1) := dec_of t_X10_noRule_ok 16 rfl
theorem dX10_noRule_31 : decode cX10_noRule 31 = .ok (.goto 4, 3) := dec_of t_X10_noRule_ok 17 rfl
theorem dX10_noRule_34 : decode cX10_noRule 34 = .ok (.iconst 0, 1) := dec_of t_X10_noRule_ok 18 rfl
theorem dX10_noRule_35 : decode cX10_noRule 35 = .ok (.ireturn, 1) := dec_of t_X10_noRule_ok 19 rfl
def t_X10_type : List (Nat × Instr × Nat) := [(0, .iload_n 1, 1), (1, .invokestatic 138, 3), (4, .ifCond .ne 34, 3), (7, .iload_n 1, 1), (8, .invokestatic 142, 3), (11, .ifCond .ne 27, 3), (14, .iload_n 1, 1), (15, .bipush 32, 2), (17, .if_icmp .eq 21, 3), (20, .iload_n 1, 1), (21, .bipush 42, 2), (23, .if_icmp .eq 15, 3), (26, .iload_n 1, 1), (27, .bipush 35, 2), (29, .if_icmp .eq 9, 3), (32, .iload_n 1, 1), (33, .bipush 45, 2), (35, .if_icmp .ne 7, 3), (38, .iconst 1, 1), (39, .goto 4, 3), (42, .iconst 0, 1), (43, .istore_n 2, 1), (44, .aload_n 0, 1), (45, .iload_n 2, 1), (46, .ifCond .ne 7, 3), (49, .iconst 1, 1), (50, .goto 17, 3), (53, .aload_n 0, 1), (54, .getfield 145, 3), (57, .bipush 20, 2), (59, .if_icmp .ne 7, 3), (62, .iconst 2, 1), (63, .goto 4, 3), (66, .iconst 0, 1), (67, .putfield 123, 3), (70, .aload_n 0, 1), (71, .getfield 123, 3), (74, .ifCond .le 5, 3), (77, .iconst 0, 1), (78, .ireturn, 1), (79, .aload_n 0, 1), (80, .getfield 17, 3), (83, .aload_n 0, 1), (84, .getfield 145, 3), (87, .iload_n 1, 1), (88, .castore, 1), (89, .aload_n 0, 1), (90, .dup, 1), (91, .getfield 145, 3), (94, .iconst 1, 1), (95, .iadd, 1), (96, .putfield 145, 3), (99, .aload_n 0, 1), (100, .getfield 145, 3), (103, .ireturn, 1)]
theorem t_X10_type_ok : dec_ok cX10_type t_X10_type = true := by decide +kernel
theorem dX10_type_0 : decode cX10_type 0 = .ok (.iload_n 1, 1) := dec_of t_X10_type_ok 0 rfl
theorem dX10_type_1 : decode cX10_type 1 = .ok (.invokestatic 138, 3) := dec_of t_X10_type_ok 1 rfl
theorem dX10_type_4 : decode cX10_type 4 = .ok (.ifCond .ne 34, 3) := dec_of t_X10_type_ok 2 rfl
theorem dX10_type_7 : decode cX10_type 7 = .ok (.iload_n 1, 1) := dec_of t_X10_type_ok 3 rfl
theorem dX10_type_8 : decode cX10_type 8 = .ok (.invokestatic 142, 3) := dec_of t_X10_type_ok 4 rfl
theorem dX10_type_11 : decode cX10_type 11 = .ok (.ifCond .ne 27, 3) := dec_of t_X10_type_ok 5 rfl
theorem dX10_type_14 : decode cX10_type 14 = .ok (.iload_n 1, 1) := dec_of t_X10_type_ok 6 rfl
theorem dX10_type_15 : decode cX10_type 15 = .ok (.bipush 32, 2) := dec_of t_X10_type_ok 7 rfl
theorem dX10_type_17 : decode cX10_type 17 = .ok (.if_icmp .eq 21, 3) := dec_of t_X10_type_ok 8 rfl
theorem dX10_type_20 : decode cX10_type 20 = .ok (.iload_n 1, 1) := dec_of t_X10_type_ok 9 rfl
theorem dX10_type_21 : decode cX10_type 21 = .ok (.bipush 42, 2) := dec_of t_X10_type_ok 10 rfl
theorem dX10_type_23 : decode cX10_type 23 = .ok (.if_icmp .eq 15, 3) := dec_of t_X10_type_ok 11 rfl
theorem dX10_type_26 : decode cX10_type 26 = .ok (.iload_n 1, 1) := dec_of t_X10_type_ok 12 rfl
theorem dX10_type_27 : decode cX10_type 27 = .ok (.bipush 35, 2) := dec_of t_X10_type_ok 13 rfl
theorem dX10_type_29 : decode cX10_type 29 = .ok (.if_icmp .eq 9, 3) := dec_of t_X10_type_ok 14 rfl
theorem dX10_type_32 : decode cX10_type 32 = .ok (.iload_n 1, 1) := dec_of t_X10_type_ok 15 rfl
theorem dX10_type_33 : decode cX10_type 33 = .ok (.bipush 45, 2) := dec_of t_X10_type_ok 16 rfl
theorem dX10_type_35 : decode cX10_type 35 = .ok (.if_icmp .ne 7, 3) := dec_of t_X10_type_ok 17 rfl
theorem dX10_type_38 : decode cX10_type 38 = .ok (.iconst 1, 1) := dec_of t_X10_type_ok 18 rfl
theorem dX10_type_39 : decode cX10_type 39 = .ok (.goto 4, 3) := dec_of t_X10_type_ok 19 rfl
theorem dX10_type_42 : decode cX10_type 42 = .ok (.iconst 0, 1) := dec_of t_X10_type_ok 20 rfl
theorem dX10_type_43 : decode cX10_type 43 = .ok (.istore_n 2, 1) := dec_of t_X10_type_ok 21 rfl
theorem dX10_type_44 : decode cX10_type 44 = .ok (.aload_n 0, 1) := dec_of t_X10_type_ok 22 rfl
theorem dX10_type_45 : decode cX10_type 45 = .ok (.iload_n 2, 1) := dec_of t_X10_type_ok 23 rfl
theorem dX10_type_46 : decode cX10_type 46 = .ok (.ifCond .ne 7, 3) := dec_of t_X10_type_ok 24 rfl
theorem dX10_type_49 : decode cX10_type 49 = .ok (.iconst 1, 1) := dec_of t_X10_type_ok 25 rfl
theorem dX10_type_50 : decode cX10_type 50 = .ok (.goto 17, 3) := dec_of t_X10_type_ok 26 rfl
theorem dX10_type_53 : decode cX10_type 53 = .ok (.aload_n 0, 1) := dec_of t_X10_type_ok 27 rfl
theorem dX10_type_54 : decode cX10_type 54 = .ok (.getfield 145, 3) := dec_of t_X10_type_ok 28 rfl
theorem dX10_type_57 : decode cX10_type 57 = .ok (.bipush 20, 2) := dec_of t_X10_type_ok 29 rfl
theorem dX10_type_59 : decode cX10_type 59 = .ok (.if_icmp .ne 7, 3) := dec_of t_X10_type_ok 30 rfl
theorem dX10_type_62 : decode cX10_type 62 = .ok (.iconst 2, 1) := dec_of t_X10_type_ok 31 rfl
theorem dX10_type_63 : decode cX10_type 63 = .ok (.goto 4, 3) := dec_of t_X10_type_ok 32 rfl
theorem dX10_type_66 : decode cX10_type 66 = .ok (.iconst 0, 1) := dec_of t_X10_type_ok 33 rfl
theorem dX10_type_67 : decode cX10_type 67 = .ok (.putfield 123, 3) := dec_of t_X10_type_ok 34 rfl
theorem dX10_type_70 : decode cX10_type 70 = .ok (.aload_n 0, 1) := dec_of t_X10_type_ok 35 rfl
theorem dX10_type_71 : decode cX10_type 71 = .ok (.getfield 123, 3) := dec_of t_X10_type_ok 36 rfl
theorem dX10_type_74 : decode cX10_type 74 = .ok (.ifCond .le 5, 3) := dec_of t_X10_type_ok 37 rfl
theorem dX10_type_77 : decode cX10_type 77 = .ok (.iconst 0, 1) := dec_of t_X10_type_ok 38 rfl
theorem dX10_type_78 : decode cX10_type 78 = .ok (.ireturn, 1) := dec_of t_X10_type_ok 39 rfl
theorem dX10_type_79 : decode cX10_type 79 = .ok (.aload_n 0, 1) := dec_of t_X10_type_ok 40 rfl
theorem dX10_type_80 : decode cX10_type 80 = .ok (.getfield 17, 3) := dec_of t_X10_type_ok 41 rfl
theorem dX10_type_83 : decode cX10_type 83 = .ok (.aload_n 0, 1) := dec_of t_X10_type_ok 42 rfl
theorem dX10_type_84 : decode cX10_type 84 = .ok (.getfield 145, 3) := dec_of t_X10_type_ok 43 rfl
theorem dX10_type_87 : decode cX10_type 87 = .ok (.iload_n 1, 1) := dec_of t_X10_type_ok 44 rfl
theorem dX10_type_88 : decode cX10_type 88 = .ok (.castore, 1) := dec_of t_X10_type_ok 45 rfl
theorem dX10_type_89 : decode cX10_type 89 = .ok (.aload_n 0, 1) := dec_of t_X10_type_ok 46 rfl
theorem dX10_type_90 : decode cX10_type 90 = .ok (.dup, 1) := dec_of t_X10_type_ok 47 rfl
theorem dX10_type_91 : decode cX10_type 91 = .ok (.getfield 145, 3) := dec_of t_X10_type_ok 48 rfl
theorem dX10_type_94 : decode cX10_type 94 = .ok (.iconst 1, 1) := dec_of t_X10_type_ok 49 rfl
theorem dX10_type_95 : decode cX10_type 95 = .ok (.iadd, 1) := dec_of t_X10_type_ok 50 rfl
theorem dX10_type_96 : decode cX10_type 96 = .ok (.putfield 145, 3) := dec_of t_X10_type_ok 51 rfl
theorem dX10_type_99 : decode cX10_type 99 = .ok (.aload_n 0, 1) := dec_of t_X10_type_ok 52 rfl
theorem dX10_type_100 : decode cX10_type 100 = .ok (.getfield 145, 3) := dec_of t_X10_type_ok 53 rfl
theorem dX10_type_103 : decode cX10_type 103 = .ok (.ireturn, 1) := dec_of t_X10_type_ok 54 rfl
def t_X10_wipe : List (Nat × Instr × Nat) := [(0, .aload_n 0, 1), (1, .iconst 0, 1), (2, .putfield 123, 3), (5, .aload_n 0, 1), (6, .getfield 145, 3), (9, .istore_n 1, 1), (10, .aload_n 0, 1), (11, .iconst 0, 1), (12, .putfield 145, 3), (15, .iload_n 1, 1), (16, .ireturn, 1)]
theorem t_X10_wipe_ok : dec_ok cX10_wipe t_X10_wipe = true := by decide +kernel
theorem dX10_wipe_0 : decode cX10_wipe 0 = .ok (.aload_n 0, 1) := dec_of t_X10_wipe_ok 0 rfl
theorem dX10_wipe_1 : decode cX10_wipe 1 = .ok (.iconst 0, 1) := dec_of t_X10_wipe_ok 1 rfl
theorem dX10_wipe_2 : decode cX10_wipe 2 = .ok (.putfield 123, 3) := dec_of t_X10_wipe_ok 2 rfl
theorem dX10_wipe_5 : decode cX10_wipe 5 = .ok (.aload_n 0, 1) := dec_of t_X10_wipe_ok 3 rfl
theorem dX10_wipe_6 : decode cX10_wipe 6 = .ok (.getfield 145, 3) := dec_of t_X10_wipe_ok 4 rfl
theorem dX10_wipe_9 : decode cX10_wipe 9 = .ok (.istore_n 1, 1) := dec_of t_X10_wipe_ok 5 rfl
theorem dX10_wipe_10 : decode cX10_wipe 10 = .ok (.aload_n 0, 1) := dec_of t_X10_wipe_ok 6 rfl
theorem dX10_wipe_11 : decode cX10_wipe 11 = .ok (.iconst 0, 1) := dec_of t_X10_wipe_ok 7 rfl
theorem dX10_wipe_12 : decode cX10_wipe 12 = .ok (.putfield 145, 3) := dec_of t_X10_wipe_ok 8 rfl
theorem dX10_wipe_15 : decode cX10_wipe 15 = .ok (.iload_n 1, 1) := dec_of t_X10_wipe_ok 9 rfl
theorem dX10_wipe_16 : decode cX10_wipe 16 = .ok (.ireturn, 1) := dec_of t_X10_wipe_ok 10 rfl
def t_X10_lettersFrom : List (Nat × Instr × Nat) := [(0, .iconst 0, 1), (1, .istore_n 2, 1), (2, .iload_n 1, 1), (3, .iload_n 2, 1), (4, .iadd, 1), (5, .aload_n 0, 1), (6, .getfield 145, 3), (9, .if_icmp .ge 23, 3), (12, .aload_n 0, 1), (13, .getfield 17, 3), (16, .iload_n 1, 1), (17, .iload_n 2, 1), (18, .iadd, 1), (19, .caload, 1), (20, .invokestatic 138, 3), (23, .ifCond .eq 9, 3), (26, .iinc 2 1, 3), (29, .goto (-27), 3), (32, .iload_n 2, 1), (33, .ireturn, 1)]
theorem t_X10_lettersFrom_ok : dec_ok cX10_lettersFrom t_X10_lettersFrom = true := by decide +kernel
theorem dX10_lettersFrom_0 : decode cX10_lettersFrom 0 = .ok (.iconst 0, 1) := dec_of t_X10_lettersFrom_ok 0 rfl
theorem dX10_lettersFrom_1 : decode cX10_lettersFrom 1 = .ok (.istore_n 2, 1) := dec_of t_X10_lettersFrom_ok 1 rfl
theorem dX10_lettersFrom_2 : decode cX10_lettersFrom 2 = .ok (.iload_n 1, 1) := dec_of t_X10_lettersFrom_ok 2 rfl
theorem dX10_lettersFrom_3 : decode cX10_lettersFrom 3 = .ok (.iload_n 2, 1) := dec_of t_X10_lettersFrom_ok 3 rfl
theorem dX10_lettersFrom_4 : decode cX10_lettersFrom 4 = .ok (.iadd, 1) := dec_of t_X10_lettersFrom_ok 4 rfl
theorem dX10_lettersFrom_5 : decode cX10_lettersFrom 5 = .ok (.aload_n 0, 1) := dec_of t_X10_lettersFrom_ok 5 rfl
theorem dX10_lettersFrom_6 : decode cX10_lettersFrom 6 = .ok (.getfield 145, 3) := dec_of t_X10_lettersFrom_ok 6 rfl
theorem dX10_lettersFrom_9 : decode cX10_lettersFrom 9 = .ok (.if_icmp .ge 23, 3) := dec_of t_X10_lettersFrom_ok 7 rfl
theorem dX10_lettersFrom_12 : decode cX10_lettersFrom 12 = .ok (.aload_n 0, 1) := dec_of t_X10_lettersFrom_ok 8 rfl
theorem dX10_lettersFrom_13 : decode cX10_lettersFrom 13 = .ok (.getfield 17, 3) := dec_of t_X10_lettersFrom_ok 9 rfl
theorem dX10_lettersFrom_16 : decode cX10_lettersFrom 16 = .ok (.iload_n 1, 1) := dec_of t_X10_lettersFrom_ok 10 rfl
theorem dX10_lettersFrom_17 : decode cX10_lettersFrom 17 = .ok (.iload_n 2, 1) := dec_of t_X10_lettersFrom_ok 11 rfl
theorem dX10_lettersFrom_18 : decode cX10_lettersFrom 18 = .ok (.iadd, 1) := dec_of t_X10_lettersFrom_ok 12 rfl
theorem dX10_lettersFrom_19 : decode cX10_lettersFrom 19 = .ok (.caload, 1) := dec_of t_X10_lettersFrom_ok 13 rfl
theorem dX10_lettersFrom_20 : decode cX10_lettersFrom 20 = .ok (.invokestatic 138, 3) := dec_of t_X10_lettersFrom_ok 14 rfl
theorem dX10_lettersFrom_23 : decode cX10_lettersFrom 23 = .ok (.ifCond .eq 9, 3) := dec_of t_X10_lettersFrom_ok 15 rfl
theorem dX10_lettersFrom_26 : decode cX10_lettersFrom 26 = .ok (.iinc 2 1, 3) := dec_of t_X10_lettersFrom_ok 16 rfl
theorem dX10_lettersFrom_29 : decode cX10_lettersFrom 29 = .ok (.goto (-27), 3) := dec_of t_X10_lettersFrom_ok 17 rfl
theorem dX10_lettersFrom_32 : decode cX10_lettersFrom 32 = .ok (.iload_n 2, 1) := dec_of t_X10_lettersFrom_ok 18 rfl
theorem dX10_lettersFrom_33 : decode cX10_lettersFrom 33 = .ok (.ireturn, 1) := dec_of t_X10_lettersFrom_ok 19 rfl
def t_X10_marks : List (Nat × Instr × Nat) := [(0, .iconst 0, 1), (1, .istore_n 2, 1), (2, .iload_n 2, 1), (3, .aload_n 0, 1), (4, .invokevirtual 148, 3), (7, .if_icmp .ge 22, 3), (10, .aload_n 0, 1), (11, .getfield 87, 3), (14, .iload_n 1, 1), (15, .sipush 161, 3), (18, .imul, 1), (19, .iload_n 2, 1), (20, .iadd, 1), (21, .iconst 1, 1), (22, .bastore, 1), (23, .iinc 2 1, 3), (26, .goto (-24), 3), (29, .return_, 1)]
theorem t_X10_marks_ok : dec_ok cX10_marks t_X10_marks = true := by decide +kernel
theorem dX10_marks_0 : decode cX10_marks 0 = .ok (.iconst 0, 1) := dec_of t_X10_marks_ok 0 rfl
theorem dX10_marks_1 : decode cX10_marks 1 = .ok (.istore_n 2, 1) := dec_of t_X10_marks_ok 1 rfl
theorem dX10_marks_2 : decode cX10_marks 2 = .ok (.iload_n 2, 1) := dec_of t_X10_marks_ok 2 rfl
theorem dX10_marks_3 : decode cX10_marks 3 = .ok (.aload_n 0, 1) := dec_of t_X10_marks_ok 3 rfl
theorem dX10_marks_4 : decode cX10_marks 4 = .ok (.invokevirtual 148, 3) := dec_of t_X10_marks_ok 4 rfl
theorem dX10_marks_7 : decode cX10_marks 7 = .ok (.if_icmp .ge 22, 3) := dec_of t_X10_marks_ok 5 rfl
theorem dX10_marks_10 : decode cX10_marks 10 = .ok (.aload_n 0, 1) := dec_of t_X10_marks_ok 6 rfl
theorem dX10_marks_11 : decode cX10_marks 11 = .ok (.getfield 87, 3) := dec_of t_X10_marks_ok 7 rfl
theorem dX10_marks_14 : decode cX10_marks 14 = .ok (.iload_n 1, 1) := dec_of t_X10_marks_ok 8 rfl
theorem dX10_marks_15 : decode cX10_marks 15 = .ok (.sipush 161, 3) := dec_of t_X10_marks_ok 9 rfl
theorem dX10_marks_18 : decode cX10_marks 18 = .ok (.imul, 1) := dec_of t_X10_marks_ok 10 rfl
theorem dX10_marks_19 : decode cX10_marks 19 = .ok (.iload_n 2, 1) := dec_of t_X10_marks_ok 11 rfl
theorem dX10_marks_20 : decode cX10_marks 20 = .ok (.iadd, 1) := dec_of t_X10_marks_ok 12 rfl
theorem dX10_marks_21 : decode cX10_marks 21 = .ok (.iconst 1, 1) := dec_of t_X10_marks_ok 13 rfl
theorem dX10_marks_22 : decode cX10_marks 22 = .ok (.bastore, 1) := dec_of t_X10_marks_ok 14 rfl
theorem dX10_marks_23 : decode cX10_marks 23 = .ok (.iinc 2 1, 3) := dec_of t_X10_marks_ok 15 rfl
theorem dX10_marks_26 : decode cX10_marks 26 = .ok (.goto (-24), 3) := dec_of t_X10_marks_ok 16 rfl
theorem dX10_marks_29 : decode cX10_marks 29 = .ok (.return_, 1) := dec_of t_X10_marks_ok 17 rfl
def t_X10_marksAll : List (Nat × Instr × Nat) := [(0, .iconst 0, 1), (1, .istore_n 1, 1), (2, .iload_n 1, 1), (3, .iconst 4, 1), (4, .if_icmp .ge 14, 3), (7, .aload_n 0, 1), (8, .iload_n 1, 1), (9, .invokevirtual 152, 3), (12, .iinc 1 1, 3), (15, .goto (-13), 3), (18, .return_, 1)]
theorem t_X10_marksAll_ok : dec_ok cX10_marksAll t_X10_marksAll = true := by decide +kernel
theorem dX10_marksAll_0 : decode cX10_marksAll 0 = .ok (.iconst 0, 1) := dec_of t_X10_marksAll_ok 0 rfl
theorem dX10_marksAll_1 : decode cX10_marksAll 1 = .ok (.istore_n 1, 1) := dec_of t_X10_marksAll_ok 1 rfl
theorem dX10_marksAll_2 : decode cX10_marksAll 2 = .ok (.iload_n 1, 1) := dec_of t_X10_marksAll_ok 2 rfl
theorem dX10_marksAll_3 : decode cX10_marksAll 3 = .ok (.iconst 4, 1) := dec_of t_X10_marksAll_ok 3 rfl
theorem dX10_marksAll_4 : decode cX10_marksAll 4 = .ok (.if_icmp .ge 14, 3) := dec_of t_X10_marksAll_ok 4 rfl
theorem dX10_marksAll_7 : decode cX10_marksAll 7 = .ok (.aload_n 0, 1) := dec_of t_X10_marksAll_ok 5 rfl
theorem dX10_marksAll_8 : decode cX10_marksAll 8 = .ok (.iload_n 1, 1) := dec_of t_X10_marksAll_ok 6 rfl
theorem dX10_marksAll_9 : decode cX10_marksAll 9 = .ok (.invokevirtual 152, 3) := dec_of t_X10_marksAll_ok 7 rfl
theorem dX10_marksAll_12 : decode cX10_marksAll 12 = .ok (.iinc 1 1, 3) := dec_of t_X10_marksAll_ok 8 rfl
theorem dX10_marksAll_15 : decode cX10_marksAll 15 = .ok (.goto (-13), 3) := dec_of t_X10_marksAll_ok 9 rfl
theorem dX10_marksAll_18 : decode cX10_marksAll 18 = .ok (.return_, 1) := dec_of t_X10_marksAll_ok 10 rfl
def t_X10_paragraphsNow : List (Nat × Instr × Nat) := [(0, .aload_n 0, 1), (1, .aload_n 0, 1), (2, .getfield 156, 3), (5, .invokevirtual 159, 3), (8, .iconst 1, 1), (9, .iadd, 1), (10, .ireturn, 1)]
theorem t_X10_paragraphsNow_ok : dec_ok cX10_paragraphsNow t_X10_paragraphsNow = true := by decide +kernel
theorem dX10_paragraphsNow_0 : decode cX10_paragraphsNow 0 = .ok (.aload_n 0, 1) := dec_of t_X10_paragraphsNow_ok 0 rfl
theorem dX10_paragraphsNow_1 : decode cX10_paragraphsNow 1 = .ok (.aload_n 0, 1) := dec_of t_X10_paragraphsNow_ok 1 rfl
theorem dX10_paragraphsNow_2 : decode cX10_paragraphsNow 2 = .ok (.getfield 156, 3) := dec_of t_X10_paragraphsNow_ok 2 rfl
theorem dX10_paragraphsNow_5 : decode cX10_paragraphsNow 5 = .ok (.invokevirtual 159, 3) := dec_of t_X10_paragraphsNow_ok 3 rfl
theorem dX10_paragraphsNow_8 : decode cX10_paragraphsNow 8 = .ok (.iconst 1, 1) := dec_of t_X10_paragraphsNow_ok 4 rfl
theorem dX10_paragraphsNow_9 : decode cX10_paragraphsNow 9 = .ok (.iadd, 1) := dec_of t_X10_paragraphsNow_ok 5 rfl
theorem dX10_paragraphsNow_10 : decode cX10_paragraphsNow 10 = .ok (.ireturn, 1) := dec_of t_X10_paragraphsNow_ok 6 rfl
def t_X10_puts : List (Nat × Instr × Nat) := [(0, .aload_n 0, 1), (1, .iload_n 1, 1), (2, .invokevirtual 159, 3), (5, .istore 4, 2), (7, .aload_n 0, 1), (8, .invokevirtual 148, 3), (11, .istore 5, 2), (13, .aload_n 0, 1), (14, .getfield 156, 3), (17, .istore 6, 2), (19, .iload 6, 2), (21, .iload_n 1, 1), (22, .if_icmp .le 41, 3), (25, .aload_n 0, 1), (26, .getfield 7, 3), (29, .iload 6, 2), (31, .aload_n 0, 1), (32, .getfield 7, 3), (35, .iload 6, 2), (37, .iconst 1, 1), (38, .isub, 1), (39, .caload, 1), (40, .castore, 1), (41, .aload_n 0, 1), (42, .getfield 13, 3), (45, .iload 6, 2), (47, .aload_n 0, 1), (48, .getfield 13, 3), (51, .iload 6, 2), (53, .iconst 1, 1), (54, .isub, 1), (55, .iaload, 1), (56, .iastore, 1), (57, .iinc 6 (-1), 3), (60, .goto (-41), 3), (63, .aload_n 0, 1), (64, .getfield 7, 3), (67, .iload_n 1, 1), (68, .iload_n 2, 1), (69, .castore, 1), (70, .aload_n 0, 1), (71, .getfield 13, 3), (74, .iload_n 1, 1), (75, .iload_n 3, 1), (76, .iastore, 1), (77, .aload_n 0, 1), (78, .dup, 1), (79, .getfield 156, 3), (82, .iconst 1, 1), (83, .iadd, 1), (84, .putfield 156, 3), (87, .iconst 0, 1), (88, .istore 6, 2), (90, .iload 6, 2), (92, .iconst 4, 1), (93, .if_icmp .ge 96, 3), (96, .iload 6, 2), (98, .sipush 161, 3), (101, .imul, 1), (102, .istore 7, 2), (104, .iload_n 2, 1), (105, .bipush 47, 2), (107, .if_icmp .ne 57, 3), (110, .iload 5, 2), (112, .istore 8, 2), (114, .iload 8, 2), (116, .iload 4, 2), (118, .iconst 1, 1), (119, .iadd, 1), (120, .if_icmp .le 31, 3), (123, .aload_n 0, 1), (124, .getfield 87, 3), (127, .iload 7, 2), (129, .iload 8, 2), (131, .iadd, 1), (132, .aload_n 0, 1), (133, .getfield 87, 3), (136, .iload 7, 2), (138, .iload 8, 2), (140, .iadd, 1), (141, .iconst 1, 1), (142, .isub, 1), (143, .baload, 1), (144, .bastore, 1), (145, .iinc 8 (-1), 3), (148, .goto (-34), 3), (151, .aload_n 0, 1), (152, .getfield 87, 3), (155, .iload 7, 2), (157, .iload 4, 2), (159, .iadd, 1), (160, .iconst 1, 1), (161, .iadd, 1), (162, .iconst 1, 1), (163, .bastore, 1), (164, .aload_n 0, 1), (165, .getfield 87, 3), (168, .iload 7, 2), (170, .iload 4, 2), (172, .iadd, 1), (173, .iconst 1, 1), (174, .bastore, 1), (175, .aload_n 0, 1), (176, .iload 6, 2), (178, .iload_n 1, 1), (179, .iconst 1, 1), (180, .invokevirtual 163, 3), (183, .iinc 6 1, 3), (186, .goto (-96), 3), (189, .return_, 1)]
theorem t_X10_puts_ok : dec_ok cX10_puts t_X10_puts = true := by decide +kernel
theorem dX10_puts_0 : decode cX10_puts 0 = .ok (.aload_n 0, 1) := dec_of t_X10_puts_ok 0 rfl
theorem dX10_puts_1 : decode cX10_puts 1 = .ok (.iload_n 1, 1) := dec_of t_X10_puts_ok 1 rfl
theorem dX10_puts_2 : decode cX10_puts 2 = .ok (.invokevirtual 159, 3) := dec_of t_X10_puts_ok 2 rfl
theorem dX10_puts_5 : decode cX10_puts 5 = .ok (.istore 4, 2) := dec_of t_X10_puts_ok 3 rfl
theorem dX10_puts_7 : decode cX10_puts 7 = .ok (.aload_n 0, 1) := dec_of t_X10_puts_ok 4 rfl
theorem dX10_puts_8 : decode cX10_puts 8 = .ok (.invokevirtual 148, 3) := dec_of t_X10_puts_ok 5 rfl
theorem dX10_puts_11 : decode cX10_puts 11 = .ok (.istore 5, 2) := dec_of t_X10_puts_ok 6 rfl
theorem dX10_puts_13 : decode cX10_puts 13 = .ok (.aload_n 0, 1) := dec_of t_X10_puts_ok 7 rfl
theorem dX10_puts_14 : decode cX10_puts 14 = .ok (.getfield 156, 3) := dec_of t_X10_puts_ok 8 rfl
theorem dX10_puts_17 : decode cX10_puts 17 = .ok (.istore 6, 2) := dec_of t_X10_puts_ok 9 rfl
theorem dX10_puts_19 : decode cX10_puts 19 = .ok (.iload 6, 2) := dec_of t_X10_puts_ok 10 rfl
theorem dX10_puts_21 : decode cX10_puts 21 = .ok (.iload_n 1, 1) := dec_of t_X10_puts_ok 11 rfl
theorem dX10_puts_22 : decode cX10_puts 22 = .ok (.if_icmp .le 41, 3) := dec_of t_X10_puts_ok 12 rfl
theorem dX10_puts_25 : decode cX10_puts 25 = .ok (.aload_n 0, 1) := dec_of t_X10_puts_ok 13 rfl
theorem dX10_puts_26 : decode cX10_puts 26 = .ok (.getfield 7, 3) := dec_of t_X10_puts_ok 14 rfl
theorem dX10_puts_29 : decode cX10_puts 29 = .ok (.iload 6, 2) := dec_of t_X10_puts_ok 15 rfl
theorem dX10_puts_31 : decode cX10_puts 31 = .ok (.aload_n 0, 1) := dec_of t_X10_puts_ok 16 rfl
theorem dX10_puts_32 : decode cX10_puts 32 = .ok (.getfield 7, 3) := dec_of t_X10_puts_ok 17 rfl
theorem dX10_puts_35 : decode cX10_puts 35 = .ok (.iload 6, 2) := dec_of t_X10_puts_ok 18 rfl
theorem dX10_puts_37 : decode cX10_puts 37 = .ok (.iconst 1, 1) := dec_of t_X10_puts_ok 19 rfl
theorem dX10_puts_38 : decode cX10_puts 38 = .ok (.isub, 1) := dec_of t_X10_puts_ok 20 rfl
theorem dX10_puts_39 : decode cX10_puts 39 = .ok (.caload, 1) := dec_of t_X10_puts_ok 21 rfl
theorem dX10_puts_40 : decode cX10_puts 40 = .ok (.castore, 1) := dec_of t_X10_puts_ok 22 rfl
theorem dX10_puts_41 : decode cX10_puts 41 = .ok (.aload_n 0, 1) := dec_of t_X10_puts_ok 23 rfl
theorem dX10_puts_42 : decode cX10_puts 42 = .ok (.getfield 13, 3) := dec_of t_X10_puts_ok 24 rfl
theorem dX10_puts_45 : decode cX10_puts 45 = .ok (.iload 6, 2) := dec_of t_X10_puts_ok 25 rfl
theorem dX10_puts_47 : decode cX10_puts 47 = .ok (.aload_n 0, 1) := dec_of t_X10_puts_ok 26 rfl
theorem dX10_puts_48 : decode cX10_puts 48 = .ok (.getfield 13, 3) := dec_of t_X10_puts_ok 27 rfl
theorem dX10_puts_51 : decode cX10_puts 51 = .ok (.iload 6, 2) := dec_of t_X10_puts_ok 28 rfl
theorem dX10_puts_53 : decode cX10_puts 53 = .ok (.iconst 1, 1) := dec_of t_X10_puts_ok 29 rfl
theorem dX10_puts_54 : decode cX10_puts 54 = .ok (.isub, 1) := dec_of t_X10_puts_ok 30 rfl
theorem dX10_puts_55 : decode cX10_puts 55 = .ok (.iaload, 1) := dec_of t_X10_puts_ok 31 rfl
theorem dX10_puts_56 : decode cX10_puts 56 = .ok (.iastore, 1) := dec_of t_X10_puts_ok 32 rfl
theorem dX10_puts_57 : decode cX10_puts 57 = .ok (.iinc 6 (-1), 3) := dec_of t_X10_puts_ok 33 rfl
theorem dX10_puts_60 : decode cX10_puts 60 = .ok (.goto (-41), 3) := dec_of t_X10_puts_ok 34 rfl
theorem dX10_puts_63 : decode cX10_puts 63 = .ok (.aload_n 0, 1) := dec_of t_X10_puts_ok 35 rfl
theorem dX10_puts_64 : decode cX10_puts 64 = .ok (.getfield 7, 3) := dec_of t_X10_puts_ok 36 rfl
theorem dX10_puts_67 : decode cX10_puts 67 = .ok (.iload_n 1, 1) := dec_of t_X10_puts_ok 37 rfl
theorem dX10_puts_68 : decode cX10_puts 68 = .ok (.iload_n 2, 1) := dec_of t_X10_puts_ok 38 rfl
theorem dX10_puts_69 : decode cX10_puts 69 = .ok (.castore, 1) := dec_of t_X10_puts_ok 39 rfl
theorem dX10_puts_70 : decode cX10_puts 70 = .ok (.aload_n 0, 1) := dec_of t_X10_puts_ok 40 rfl
theorem dX10_puts_71 : decode cX10_puts 71 = .ok (.getfield 13, 3) := dec_of t_X10_puts_ok 41 rfl
theorem dX10_puts_74 : decode cX10_puts 74 = .ok (.iload_n 1, 1) := dec_of t_X10_puts_ok 42 rfl
theorem dX10_puts_75 : decode cX10_puts 75 = .ok (.iload_n 3, 1) := dec_of t_X10_puts_ok 43 rfl
theorem dX10_puts_76 : decode cX10_puts 76 = .ok (.iastore, 1) := dec_of t_X10_puts_ok 44 rfl
theorem dX10_puts_77 : decode cX10_puts 77 = .ok (.aload_n 0, 1) := dec_of t_X10_puts_ok 45 rfl
theorem dX10_puts_78 : decode cX10_puts 78 = .ok (.dup, 1) := dec_of t_X10_puts_ok 46 rfl
theorem dX10_puts_79 : decode cX10_puts 79 = .ok (.getfield 156, 3) := dec_of t_X10_puts_ok 47 rfl
theorem dX10_puts_82 : decode cX10_puts 82 = .ok (.iconst 1, 1) := dec_of t_X10_puts_ok 48 rfl
theorem dX10_puts_83 : decode cX10_puts 83 = .ok (.iadd, 1) := dec_of t_X10_puts_ok 49 rfl
theorem dX10_puts_84 : decode cX10_puts 84 = .ok (.putfield 156, 3) := dec_of t_X10_puts_ok 50 rfl
theorem dX10_puts_87 : decode cX10_puts 87 = .ok (.iconst 0, 1) := dec_of t_X10_puts_ok 51 rfl
theorem dX10_puts_88 : decode cX10_puts 88 = .ok (.istore 6, 2) := dec_of t_X10_puts_ok 52 rfl
theorem dX10_puts_90 : decode cX10_puts 90 = .ok (.iload 6, 2) := dec_of t_X10_puts_ok 53 rfl
theorem dX10_puts_92 : decode cX10_puts 92 = .ok (.iconst 4, 1) := dec_of t_X10_puts_ok 54 rfl
theorem dX10_puts_93 : decode cX10_puts 93 = .ok (.if_icmp .ge 96, 3) := dec_of t_X10_puts_ok 55 rfl
theorem dX10_puts_96 : decode cX10_puts 96 = .ok (.iload 6, 2) := dec_of t_X10_puts_ok 56 rfl
theorem dX10_puts_98 : decode cX10_puts 98 = .ok (.sipush 161, 3) := dec_of t_X10_puts_ok 57 rfl
theorem dX10_puts_101 : decode cX10_puts 101 = .ok (.imul, 1) := dec_of t_X10_puts_ok 58 rfl
theorem dX10_puts_102 : decode cX10_puts 102 = .ok (.istore 7, 2) := dec_of t_X10_puts_ok 59 rfl
theorem dX10_puts_104 : decode cX10_puts 104 = .ok (.iload_n 2, 1) := dec_of t_X10_puts_ok 60 rfl
theorem dX10_puts_105 : decode cX10_puts 105 = .ok (.bipush 47, 2) := dec_of t_X10_puts_ok 61 rfl
theorem dX10_puts_107 : decode cX10_puts 107 = .ok (.if_icmp .ne 57, 3) := dec_of t_X10_puts_ok 62 rfl
theorem dX10_puts_110 : decode cX10_puts 110 = .ok (.iload 5, 2) := dec_of t_X10_puts_ok 63 rfl
theorem dX10_puts_112 : decode cX10_puts 112 = .ok (.istore 8, 2) := dec_of t_X10_puts_ok 64 rfl
theorem dX10_puts_114 : decode cX10_puts 114 = .ok (.iload 8, 2) := dec_of t_X10_puts_ok 65 rfl
theorem dX10_puts_116 : decode cX10_puts 116 = .ok (.iload 4, 2) := dec_of t_X10_puts_ok 66 rfl
theorem dX10_puts_118 : decode cX10_puts 118 = .ok (.iconst 1, 1) := dec_of t_X10_puts_ok 67 rfl
theorem dX10_puts_119 : decode cX10_puts 119 = .ok (.iadd, 1) := dec_of t_X10_puts_ok 68 rfl
theorem dX10_puts_120 : decode cX10_puts 120 = .ok (.if_icmp .le 31, 3) := dec_of t_X10_puts_ok 69 rfl
theorem dX10_puts_123 : decode cX10_puts 123 = .ok (.aload_n 0, 1) := dec_of t_X10_puts_ok 70 rfl
theorem dX10_puts_124 : decode cX10_puts 124 = .ok (.getfield 87, 3) := dec_of t_X10_puts_ok 71 rfl
theorem dX10_puts_127 : decode cX10_puts 127 = .ok (.iload 7, 2) := dec_of t_X10_puts_ok 72 rfl
theorem dX10_puts_129 : decode cX10_puts 129 = .ok (.iload 8, 2) := dec_of t_X10_puts_ok 73 rfl
theorem dX10_puts_131 : decode cX10_puts 131 = .ok (.iadd, 1) := dec_of t_X10_puts_ok 74 rfl
theorem dX10_puts_132 : decode cX10_puts 132 = .ok (.aload_n 0, 1) := dec_of t_X10_puts_ok 75 rfl
theorem dX10_puts_133 : decode cX10_puts 133 = .ok (.getfield 87, 3) := dec_of t_X10_puts_ok 76 rfl
theorem dX10_puts_136 : decode cX10_puts 136 = .ok (.iload 7, 2) := dec_of t_X10_puts_ok 77 rfl
theorem dX10_puts_138 : decode cX10_puts 138 = .ok (.iload 8, 2) := dec_of t_X10_puts_ok 78 rfl
theorem dX10_puts_140 : decode cX10_puts 140 = .ok (.iadd, 1) := dec_of t_X10_puts_ok 79 rfl
theorem dX10_puts_141 : decode cX10_puts 141 = .ok (.iconst 1, 1) := dec_of t_X10_puts_ok 80 rfl
theorem dX10_puts_142 : decode cX10_puts 142 = .ok (.isub, 1) := dec_of t_X10_puts_ok 81 rfl
theorem dX10_puts_143 : decode cX10_puts 143 = .ok (.baload, 1) := dec_of t_X10_puts_ok 82 rfl
theorem dX10_puts_144 : decode cX10_puts 144 = .ok (.bastore, 1) := dec_of t_X10_puts_ok 83 rfl
theorem dX10_puts_145 : decode cX10_puts 145 = .ok (.iinc 8 (-1), 3) := dec_of t_X10_puts_ok 84 rfl
theorem dX10_puts_148 : decode cX10_puts 148 = .ok (.goto (-34), 3) := dec_of t_X10_puts_ok 85 rfl
theorem dX10_puts_151 : decode cX10_puts 151 = .ok (.aload_n 0, 1) := dec_of t_X10_puts_ok 86 rfl
theorem dX10_puts_152 : decode cX10_puts 152 = .ok (.getfield 87, 3) := dec_of t_X10_puts_ok 87 rfl
theorem dX10_puts_155 : decode cX10_puts 155 = .ok (.iload 7, 2) := dec_of t_X10_puts_ok 88 rfl
theorem dX10_puts_157 : decode cX10_puts 157 = .ok (.iload 4, 2) := dec_of t_X10_puts_ok 89 rfl
theorem dX10_puts_159 : decode cX10_puts 159 = .ok (.iadd, 1) := dec_of t_X10_puts_ok 90 rfl
theorem dX10_puts_160 : decode cX10_puts 160 = .ok (.iconst 1, 1) := dec_of t_X10_puts_ok 91 rfl
theorem dX10_puts_161 : decode cX10_puts 161 = .ok (.iadd, 1) := dec_of t_X10_puts_ok 92 rfl
theorem dX10_puts_162 : decode cX10_puts 162 = .ok (.iconst 1, 1) := dec_of t_X10_puts_ok 93 rfl
theorem dX10_puts_163 : decode cX10_puts 163 = .ok (.bastore, 1) := dec_of t_X10_puts_ok 94 rfl
theorem dX10_puts_164 : decode cX10_puts 164 = .ok (.aload_n 0, 1) := dec_of t_X10_puts_ok 95 rfl
theorem dX10_puts_165 : decode cX10_puts 165 = .ok (.getfield 87, 3) := dec_of t_X10_puts_ok 96 rfl
theorem dX10_puts_168 : decode cX10_puts 168 = .ok (.iload 7, 2) := dec_of t_X10_puts_ok 97 rfl
theorem dX10_puts_170 : decode cX10_puts 170 = .ok (.iload 4, 2) := dec_of t_X10_puts_ok 98 rfl
theorem dX10_puts_172 : decode cX10_puts 172 = .ok (.iadd, 1) := dec_of t_X10_puts_ok 99 rfl
theorem dX10_puts_173 : decode cX10_puts 173 = .ok (.iconst 1, 1) := dec_of t_X10_puts_ok 100 rfl
theorem dX10_puts_174 : decode cX10_puts 174 = .ok (.bastore, 1) := dec_of t_X10_puts_ok 101 rfl
theorem dX10_puts_175 : decode cX10_puts 175 = .ok (.aload_n 0, 1) := dec_of t_X10_puts_ok 102 rfl
theorem dX10_puts_176 : decode cX10_puts 176 = .ok (.iload 6, 2) := dec_of t_X10_puts_ok 103 rfl
theorem dX10_puts_178 : decode cX10_puts 178 = .ok (.iload_n 1, 1) := dec_of t_X10_puts_ok 104 rfl
theorem dX10_puts_179 : decode cX10_puts 179 = .ok (.iconst 1, 1) := dec_of t_X10_puts_ok 105 rfl
theorem dX10_puts_180 : decode cX10_puts 180 = .ok (.invokevirtual 163, 3) := dec_of t_X10_puts_ok 106 rfl
theorem dX10_puts_183 : decode cX10_puts 183 = .ok (.iinc 6 1, 3) := dec_of t_X10_puts_ok 107 rfl
theorem dX10_puts_186 : decode cX10_puts 186 = .ok (.goto (-96), 3) := dec_of t_X10_puts_ok 108 rfl
theorem dX10_puts_189 : decode cX10_puts 189 = .ok (.return_, 1) := dec_of t_X10_puts_ok 109 rfl
def t_X10_takesOut : List (Nat × Instr × Nat) := [(0, .aload_n 0, 1), (1, .iload_n 1, 1), (2, .invokevirtual 159, 3), (5, .istore_n 2, 1), (6, .aload_n 0, 1), (7, .invokevirtual 148, 3), (10, .istore_n 3, 1), (11, .aload_n 0, 1), (12, .getfield 7, 3), (15, .iload_n 1, 1), (16, .caload, 1), (17, .istore 4, 2), (19, .iload_n 1, 1), (20, .istore 5, 2), (22, .iload 5, 2), (24, .aload_n 0, 1), (25, .getfield 156, 3), (28, .iconst 1, 1), (29, .isub, 1), (30, .if_icmp .ge 41, 3), (33, .aload_n 0, 1), (34, .getfield 7, 3), (37, .iload 5, 2), (39, .aload_n 0, 1), (40, .getfield 7, 3), (43, .iload 5, 2), (45, .iconst 1, 1), (46, .iadd, 1), (47, .caload, 1), (48, .castore, 1), (49, .aload_n 0, 1), (50, .getfield 13, 3), (53, .iload 5, 2), (55, .aload_n 0, 1), (56, .getfield 13, 3), (59, .iload 5, 2), (61, .iconst 1, 1), (62, .iadd, 1), (63, .iaload, 1), (64, .iastore, 1), (65, .iinc 5 1, 3), (68, .goto (-46), 3), (71, .aload_n 0, 1), (72, .dup, 1), (73, .getfield 156, 3), (76, .iconst 1, 1), (77, .isub, 1), (78, .putfield 156, 3), (81, .iconst 0, 1), (82, .istore 5, 2), (84, .iload 5, 2), (86, .iconst 4, 1), (87, .if_icmp .ge 95, 3), (90, .iload 5, 2), (92, .sipush 161, 3), (95, .imul, 1), (96, .istore 6, 2), (98, .iload 4, 2), (100, .bipush 47, 2), (102, .if_icmp .ne 56, 3), (105, .iload_n 2, 1), (106, .iconst 1, 1), (107, .iadd, 1), (108, .istore 7, 2), (110, .iload 7, 2), (112, .iload_n 3, 1), (113, .iconst 1, 1), (114, .isub, 1), (115, .if_icmp .ge 31, 3), (118, .aload_n 0, 1), (119, .getfield 87, 3), (122, .iload 6, 2), (124, .iload 7, 2), (126, .iadd, 1), (127, .aload_n 0, 1), (128, .getfield 87, 3), (131, .iload 6, 2), (133, .iload 7, 2), (135, .iadd, 1), (136, .iconst 1, 1), (137, .iadd, 1), (138, .baload, 1), (139, .bastore, 1), (140, .iinc 7 1, 3), (143, .goto (-33), 3), (146, .aload_n 0, 1), (147, .getfield 87, 3), (150, .iload 6, 2), (152, .iload_n 3, 1), (153, .iadd, 1), (154, .iconst 1, 1), (155, .isub, 1), (156, .iconst 0, 1), (157, .bastore, 1), (158, .aload_n 0, 1), (159, .getfield 87, 3), (162, .iload 6, 2), (164, .iload_n 2, 1), (165, .iadd, 1), (166, .iconst 1, 1), (167, .bastore, 1), (168, .aload_n 0, 1), (169, .iload 5, 2), (171, .iload_n 1, 1), (172, .iconst (-1), 1), (173, .invokevirtual 163, 3), (176, .iinc 5 1, 3), (179, .goto (-95), 3), (182, .return_, 1)]
theorem t_X10_takesOut_ok : dec_ok cX10_takesOut t_X10_takesOut = true := by decide +kernel
theorem dX10_takesOut_0 : decode cX10_takesOut 0 = .ok (.aload_n 0, 1) := dec_of t_X10_takesOut_ok 0 rfl
theorem dX10_takesOut_1 : decode cX10_takesOut 1 = .ok (.iload_n 1, 1) := dec_of t_X10_takesOut_ok 1 rfl
theorem dX10_takesOut_2 : decode cX10_takesOut 2 = .ok (.invokevirtual 159, 3) := dec_of t_X10_takesOut_ok 2 rfl
theorem dX10_takesOut_5 : decode cX10_takesOut 5 = .ok (.istore_n 2, 1) := dec_of t_X10_takesOut_ok 3 rfl
theorem dX10_takesOut_6 : decode cX10_takesOut 6 = .ok (.aload_n 0, 1) := dec_of t_X10_takesOut_ok 4 rfl
theorem dX10_takesOut_7 : decode cX10_takesOut 7 = .ok (.invokevirtual 148, 3) := dec_of t_X10_takesOut_ok 5 rfl
theorem dX10_takesOut_10 : decode cX10_takesOut 10 = .ok (.istore_n 3, 1) := dec_of t_X10_takesOut_ok 6 rfl
theorem dX10_takesOut_11 : decode cX10_takesOut 11 = .ok (.aload_n 0, 1) := dec_of t_X10_takesOut_ok 7 rfl
theorem dX10_takesOut_12 : decode cX10_takesOut 12 = .ok (.getfield 7, 3) := dec_of t_X10_takesOut_ok 8 rfl
theorem dX10_takesOut_15 : decode cX10_takesOut 15 = .ok (.iload_n 1, 1) := dec_of t_X10_takesOut_ok 9 rfl
theorem dX10_takesOut_16 : decode cX10_takesOut 16 = .ok (.caload, 1) := dec_of t_X10_takesOut_ok 10 rfl
theorem dX10_takesOut_17 : decode cX10_takesOut 17 = .ok (.istore 4, 2) := dec_of t_X10_takesOut_ok 11 rfl
theorem dX10_takesOut_19 : decode cX10_takesOut 19 = .ok (.iload_n 1, 1) := dec_of t_X10_takesOut_ok 12 rfl
theorem dX10_takesOut_20 : decode cX10_takesOut 20 = .ok (.istore 5, 2) := dec_of t_X10_takesOut_ok 13 rfl
theorem dX10_takesOut_22 : decode cX10_takesOut 22 = .ok (.iload 5, 2) := dec_of t_X10_takesOut_ok 14 rfl
theorem dX10_takesOut_24 : decode cX10_takesOut 24 = .ok (.aload_n 0, 1) := dec_of t_X10_takesOut_ok 15 rfl
theorem dX10_takesOut_25 : decode cX10_takesOut 25 = .ok (.getfield 156, 3) := dec_of t_X10_takesOut_ok 16 rfl
theorem dX10_takesOut_28 : decode cX10_takesOut 28 = .ok (.iconst 1, 1) := dec_of t_X10_takesOut_ok 17 rfl
theorem dX10_takesOut_29 : decode cX10_takesOut 29 = .ok (.isub, 1) := dec_of t_X10_takesOut_ok 18 rfl
theorem dX10_takesOut_30 : decode cX10_takesOut 30 = .ok (.if_icmp .ge 41, 3) := dec_of t_X10_takesOut_ok 19 rfl
theorem dX10_takesOut_33 : decode cX10_takesOut 33 = .ok (.aload_n 0, 1) := dec_of t_X10_takesOut_ok 20 rfl
theorem dX10_takesOut_34 : decode cX10_takesOut 34 = .ok (.getfield 7, 3) := dec_of t_X10_takesOut_ok 21 rfl
theorem dX10_takesOut_37 : decode cX10_takesOut 37 = .ok (.iload 5, 2) := dec_of t_X10_takesOut_ok 22 rfl
theorem dX10_takesOut_39 : decode cX10_takesOut 39 = .ok (.aload_n 0, 1) := dec_of t_X10_takesOut_ok 23 rfl
theorem dX10_takesOut_40 : decode cX10_takesOut 40 = .ok (.getfield 7, 3) := dec_of t_X10_takesOut_ok 24 rfl
theorem dX10_takesOut_43 : decode cX10_takesOut 43 = .ok (.iload 5, 2) := dec_of t_X10_takesOut_ok 25 rfl
theorem dX10_takesOut_45 : decode cX10_takesOut 45 = .ok (.iconst 1, 1) := dec_of t_X10_takesOut_ok 26 rfl
theorem dX10_takesOut_46 : decode cX10_takesOut 46 = .ok (.iadd, 1) := dec_of t_X10_takesOut_ok 27 rfl
theorem dX10_takesOut_47 : decode cX10_takesOut 47 = .ok (.caload, 1) := dec_of t_X10_takesOut_ok 28 rfl
theorem dX10_takesOut_48 : decode cX10_takesOut 48 = .ok (.castore, 1) := dec_of t_X10_takesOut_ok 29 rfl
theorem dX10_takesOut_49 : decode cX10_takesOut 49 = .ok (.aload_n 0, 1) := dec_of t_X10_takesOut_ok 30 rfl
theorem dX10_takesOut_50 : decode cX10_takesOut 50 = .ok (.getfield 13, 3) := dec_of t_X10_takesOut_ok 31 rfl
theorem dX10_takesOut_53 : decode cX10_takesOut 53 = .ok (.iload 5, 2) := dec_of t_X10_takesOut_ok 32 rfl
theorem dX10_takesOut_55 : decode cX10_takesOut 55 = .ok (.aload_n 0, 1) := dec_of t_X10_takesOut_ok 33 rfl
theorem dX10_takesOut_56 : decode cX10_takesOut 56 = .ok (.getfield 13, 3) := dec_of t_X10_takesOut_ok 34 rfl
theorem dX10_takesOut_59 : decode cX10_takesOut 59 = .ok (.iload 5, 2) := dec_of t_X10_takesOut_ok 35 rfl
theorem dX10_takesOut_61 : decode cX10_takesOut 61 = .ok (.iconst 1, 1) := dec_of t_X10_takesOut_ok 36 rfl
theorem dX10_takesOut_62 : decode cX10_takesOut 62 = .ok (.iadd, 1) := dec_of t_X10_takesOut_ok 37 rfl
theorem dX10_takesOut_63 : decode cX10_takesOut 63 = .ok (.iaload, 1) := dec_of t_X10_takesOut_ok 38 rfl
theorem dX10_takesOut_64 : decode cX10_takesOut 64 = .ok (.iastore, 1) := dec_of t_X10_takesOut_ok 39 rfl
theorem dX10_takesOut_65 : decode cX10_takesOut 65 = .ok (.iinc 5 1, 3) := dec_of t_X10_takesOut_ok 40 rfl
theorem dX10_takesOut_68 : decode cX10_takesOut 68 = .ok (.goto (-46), 3) := dec_of t_X10_takesOut_ok 41 rfl
theorem dX10_takesOut_71 : decode cX10_takesOut 71 = .ok (.aload_n 0, 1) := dec_of t_X10_takesOut_ok 42 rfl
theorem dX10_takesOut_72 : decode cX10_takesOut 72 = .ok (.dup, 1) := dec_of t_X10_takesOut_ok 43 rfl
theorem dX10_takesOut_73 : decode cX10_takesOut 73 = .ok (.getfield 156, 3) := dec_of t_X10_takesOut_ok 44 rfl
theorem dX10_takesOut_76 : decode cX10_takesOut 76 = .ok (.iconst 1, 1) := dec_of t_X10_takesOut_ok 45 rfl
theorem dX10_takesOut_77 : decode cX10_takesOut 77 = .ok (.isub, 1) := dec_of t_X10_takesOut_ok 46 rfl
theorem dX10_takesOut_78 : decode cX10_takesOut 78 = .ok (.putfield 156, 3) := dec_of t_X10_takesOut_ok 47 rfl
theorem dX10_takesOut_81 : decode cX10_takesOut 81 = .ok (.iconst 0, 1) := dec_of t_X10_takesOut_ok 48 rfl
theorem dX10_takesOut_82 : decode cX10_takesOut 82 = .ok (.istore 5, 2) := dec_of t_X10_takesOut_ok 49 rfl
theorem dX10_takesOut_84 : decode cX10_takesOut 84 = .ok (.iload 5, 2) := dec_of t_X10_takesOut_ok 50 rfl
theorem dX10_takesOut_86 : decode cX10_takesOut 86 = .ok (.iconst 4, 1) := dec_of t_X10_takesOut_ok 51 rfl
theorem dX10_takesOut_87 : decode cX10_takesOut 87 = .ok (.if_icmp .ge 95, 3) := dec_of t_X10_takesOut_ok 52 rfl
theorem dX10_takesOut_90 : decode cX10_takesOut 90 = .ok (.iload 5, 2) := dec_of t_X10_takesOut_ok 53 rfl
theorem dX10_takesOut_92 : decode cX10_takesOut 92 = .ok (.sipush 161, 3) := dec_of t_X10_takesOut_ok 54 rfl
theorem dX10_takesOut_95 : decode cX10_takesOut 95 = .ok (.imul, 1) := dec_of t_X10_takesOut_ok 55 rfl
theorem dX10_takesOut_96 : decode cX10_takesOut 96 = .ok (.istore 6, 2) := dec_of t_X10_takesOut_ok 56 rfl
theorem dX10_takesOut_98 : decode cX10_takesOut 98 = .ok (.iload 4, 2) := dec_of t_X10_takesOut_ok 57 rfl
theorem dX10_takesOut_100 : decode cX10_takesOut 100 = .ok (.bipush 47, 2) := dec_of t_X10_takesOut_ok 58 rfl
theorem dX10_takesOut_102 : decode cX10_takesOut 102 = .ok (.if_icmp .ne 56, 3) := dec_of t_X10_takesOut_ok 59 rfl
theorem dX10_takesOut_105 : decode cX10_takesOut 105 = .ok (.iload_n 2, 1) := dec_of t_X10_takesOut_ok 60 rfl
theorem dX10_takesOut_106 : decode cX10_takesOut 106 = .ok (.iconst 1, 1) := dec_of t_X10_takesOut_ok 61 rfl
theorem dX10_takesOut_107 : decode cX10_takesOut 107 = .ok (.iadd, 1) := dec_of t_X10_takesOut_ok 62 rfl
theorem dX10_takesOut_108 : decode cX10_takesOut 108 = .ok (.istore 7, 2) := dec_of t_X10_takesOut_ok 63 rfl
theorem dX10_takesOut_110 : decode cX10_takesOut 110 = .ok (.iload 7, 2) := dec_of t_X10_takesOut_ok 64 rfl
theorem dX10_takesOut_112 : decode cX10_takesOut 112 = .ok (.iload_n 3, 1) := dec_of t_X10_takesOut_ok 65 rfl
theorem dX10_takesOut_113 : decode cX10_takesOut 113 = .ok (.iconst 1, 1) := dec_of t_X10_takesOut_ok 66 rfl
theorem dX10_takesOut_114 : decode cX10_takesOut 114 = .ok (.isub, 1) := dec_of t_X10_takesOut_ok 67 rfl
theorem dX10_takesOut_115 : decode cX10_takesOut 115 = .ok (.if_icmp .ge 31, 3) := dec_of t_X10_takesOut_ok 68 rfl
theorem dX10_takesOut_118 : decode cX10_takesOut 118 = .ok (.aload_n 0, 1) := dec_of t_X10_takesOut_ok 69 rfl
theorem dX10_takesOut_119 : decode cX10_takesOut 119 = .ok (.getfield 87, 3) := dec_of t_X10_takesOut_ok 70 rfl
theorem dX10_takesOut_122 : decode cX10_takesOut 122 = .ok (.iload 6, 2) := dec_of t_X10_takesOut_ok 71 rfl
theorem dX10_takesOut_124 : decode cX10_takesOut 124 = .ok (.iload 7, 2) := dec_of t_X10_takesOut_ok 72 rfl
theorem dX10_takesOut_126 : decode cX10_takesOut 126 = .ok (.iadd, 1) := dec_of t_X10_takesOut_ok 73 rfl
theorem dX10_takesOut_127 : decode cX10_takesOut 127 = .ok (.aload_n 0, 1) := dec_of t_X10_takesOut_ok 74 rfl
theorem dX10_takesOut_128 : decode cX10_takesOut 128 = .ok (.getfield 87, 3) := dec_of t_X10_takesOut_ok 75 rfl
theorem dX10_takesOut_131 : decode cX10_takesOut 131 = .ok (.iload 6, 2) := dec_of t_X10_takesOut_ok 76 rfl
theorem dX10_takesOut_133 : decode cX10_takesOut 133 = .ok (.iload 7, 2) := dec_of t_X10_takesOut_ok 77 rfl
theorem dX10_takesOut_135 : decode cX10_takesOut 135 = .ok (.iadd, 1) := dec_of t_X10_takesOut_ok 78 rfl
theorem dX10_takesOut_136 : decode cX10_takesOut 136 = .ok (.iconst 1, 1) := dec_of t_X10_takesOut_ok 79 rfl
theorem dX10_takesOut_137 : decode cX10_takesOut 137 = .ok (.iadd, 1) := dec_of t_X10_takesOut_ok 80 rfl
theorem dX10_takesOut_138 : decode cX10_takesOut 138 = .ok (.baload, 1) := dec_of t_X10_takesOut_ok 81 rfl
theorem dX10_takesOut_139 : decode cX10_takesOut 139 = .ok (.bastore, 1) := dec_of t_X10_takesOut_ok 82 rfl
theorem dX10_takesOut_140 : decode cX10_takesOut 140 = .ok (.iinc 7 1, 3) := dec_of t_X10_takesOut_ok 83 rfl
theorem dX10_takesOut_143 : decode cX10_takesOut 143 = .ok (.goto (-33), 3) := dec_of t_X10_takesOut_ok 84 rfl
theorem dX10_takesOut_146 : decode cX10_takesOut 146 = .ok (.aload_n 0, 1) := dec_of t_X10_takesOut_ok 85 rfl
theorem dX10_takesOut_147 : decode cX10_takesOut 147 = .ok (.getfield 87, 3) := dec_of t_X10_takesOut_ok 86 rfl
theorem dX10_takesOut_150 : decode cX10_takesOut 150 = .ok (.iload 6, 2) := dec_of t_X10_takesOut_ok 87 rfl
theorem dX10_takesOut_152 : decode cX10_takesOut 152 = .ok (.iload_n 3, 1) := dec_of t_X10_takesOut_ok 88 rfl
theorem dX10_takesOut_153 : decode cX10_takesOut 153 = .ok (.iadd, 1) := dec_of t_X10_takesOut_ok 89 rfl
theorem dX10_takesOut_154 : decode cX10_takesOut 154 = .ok (.iconst 1, 1) := dec_of t_X10_takesOut_ok 90 rfl
theorem dX10_takesOut_155 : decode cX10_takesOut 155 = .ok (.isub, 1) := dec_of t_X10_takesOut_ok 91 rfl
theorem dX10_takesOut_156 : decode cX10_takesOut 156 = .ok (.iconst 0, 1) := dec_of t_X10_takesOut_ok 92 rfl
theorem dX10_takesOut_157 : decode cX10_takesOut 157 = .ok (.bastore, 1) := dec_of t_X10_takesOut_ok 93 rfl
theorem dX10_takesOut_158 : decode cX10_takesOut 158 = .ok (.aload_n 0, 1) := dec_of t_X10_takesOut_ok 94 rfl
theorem dX10_takesOut_159 : decode cX10_takesOut 159 = .ok (.getfield 87, 3) := dec_of t_X10_takesOut_ok 95 rfl
theorem dX10_takesOut_162 : decode cX10_takesOut 162 = .ok (.iload 6, 2) := dec_of t_X10_takesOut_ok 96 rfl
theorem dX10_takesOut_164 : decode cX10_takesOut 164 = .ok (.iload_n 2, 1) := dec_of t_X10_takesOut_ok 97 rfl
theorem dX10_takesOut_165 : decode cX10_takesOut 165 = .ok (.iadd, 1) := dec_of t_X10_takesOut_ok 98 rfl
theorem dX10_takesOut_166 : decode cX10_takesOut 166 = .ok (.iconst 1, 1) := dec_of t_X10_takesOut_ok 99 rfl
theorem dX10_takesOut_167 : decode cX10_takesOut 167 = .ok (.bastore, 1) := dec_of t_X10_takesOut_ok 100 rfl
theorem dX10_takesOut_168 : decode cX10_takesOut 168 = .ok (.aload_n 0, 1) := dec_of t_X10_takesOut_ok 101 rfl
theorem dX10_takesOut_169 : decode cX10_takesOut 169 = .ok (.iload 5, 2) := dec_of t_X10_takesOut_ok 102 rfl
theorem dX10_takesOut_171 : decode cX10_takesOut 171 = .ok (.iload_n 1, 1) := dec_of t_X10_takesOut_ok 103 rfl
theorem dX10_takesOut_172 : decode cX10_takesOut 172 = .ok (.iconst (-1), 1) := dec_of t_X10_takesOut_ok 104 rfl
theorem dX10_takesOut_173 : decode cX10_takesOut 173 = .ok (.invokevirtual 163, 3) := dec_of t_X10_takesOut_ok 105 rfl
theorem dX10_takesOut_176 : decode cX10_takesOut 176 = .ok (.iinc 5 1, 3) := dec_of t_X10_takesOut_ok 106 rfl
theorem dX10_takesOut_179 : decode cX10_takesOut 179 = .ok (.goto (-95), 3) := dec_of t_X10_takesOut_ok 107 rfl
theorem dX10_takesOut_182 : decode cX10_takesOut 182 = .ok (.return_, 1) := dec_of t_X10_takesOut_ok 108 rfl
def t_X10_put : List (Nat × Instr × Nat) := [(0, .aload_n 0, 1), (1, .iload_n 1, 1), (2, .iconst 0, 1), (3, .aload_n 0, 1), (4, .getfield 156, 3), (7, .invokestatic 127, 3), (10, .ifCond .eq 7, 3), (13, .iconst 0, 1), (14, .goto 4, 3), (17, .iconst 1, 1), (18, .putfield 123, 3), (21, .aload_n 0, 1), (22, .getfield 123, 3), (25, .ifCond .le 5, 3), (28, .iconst 0, 1), (29, .ireturn, 1), (30, .iload_n 2, 1), (31, .invokestatic 138, 3), (34, .ifCond .ne 34, 3), (37, .iload_n 2, 1), (38, .invokestatic 142, 3), (41, .ifCond .ne 27, 3), (44, .iload_n 2, 1), (45, .bipush 32, 2), (47, .if_icmp .eq 21, 3), (50, .iload_n 2, 1), (51, .bipush 46, 2), (53, .if_icmp .eq 15, 3), (56, .iload_n 2, 1), (57, .bipush 34, 2), (59, .if_icmp .eq 9, 3), (62, .iload_n 2, 1), (63, .bipush 47, 2), (65, .if_icmp .ne 7, 3), (68, .iconst 1, 1), (69, .goto 4, 3), (72, .iconst 0, 1), (73, .istore 4, 2), (75, .aload_n 0, 1), (76, .iload 4, 2), (78, .ifCond .eq 12, 3), (81, .iload_n 3, 1), (82, .iconst 0, 1), (83, .iconst 3, 1), (84, .invokestatic 127, 3), (87, .ifCond .ne 7, 3), (90, .iconst 2, 1), (91, .goto 18, 3), (94, .aload_n 0, 1), (95, .getfield 156, 3), (98, .sipush 160, 3), (101, .if_icmp .ne 7, 3), (104, .iconst 3, 1), (105, .goto 4, 3), (108, .iconst 0, 1), (109, .putfield 123, 3), (112, .aload_n 0, 1), (113, .getfield 123, 3), (116, .ifCond .le 5, 3), (119, .iconst 0, 1), (120, .ireturn, 1), (121, .aload_n 0, 1), (122, .iload_n 1, 1), (123, .iload_n 2, 1), (124, .iload_n 3, 1), (125, .invokevirtual 167, 3), (128, .aload_n 0, 1), (129, .getfield 156, 3), (132, .ireturn, 1)]
theorem t_X10_put_ok : dec_ok cX10_put t_X10_put = true := by decide +kernel
theorem dX10_put_0 : decode cX10_put 0 = .ok (.aload_n 0, 1) := dec_of t_X10_put_ok 0 rfl
theorem dX10_put_1 : decode cX10_put 1 = .ok (.iload_n 1, 1) := dec_of t_X10_put_ok 1 rfl
theorem dX10_put_2 : decode cX10_put 2 = .ok (.iconst 0, 1) := dec_of t_X10_put_ok 2 rfl
theorem dX10_put_3 : decode cX10_put 3 = .ok (.aload_n 0, 1) := dec_of t_X10_put_ok 3 rfl
theorem dX10_put_4 : decode cX10_put 4 = .ok (.getfield 156, 3) := dec_of t_X10_put_ok 4 rfl
theorem dX10_put_7 : decode cX10_put 7 = .ok (.invokestatic 127, 3) := dec_of t_X10_put_ok 5 rfl
theorem dX10_put_10 : decode cX10_put 10 = .ok (.ifCond .eq 7, 3) := dec_of t_X10_put_ok 6 rfl
theorem dX10_put_13 : decode cX10_put 13 = .ok (.iconst 0, 1) := dec_of t_X10_put_ok 7 rfl
theorem dX10_put_14 : decode cX10_put 14 = .ok (.goto 4, 3) := dec_of t_X10_put_ok 8 rfl
theorem dX10_put_17 : decode cX10_put 17 = .ok (.iconst 1, 1) := dec_of t_X10_put_ok 9 rfl
theorem dX10_put_18 : decode cX10_put 18 = .ok (.putfield 123, 3) := dec_of t_X10_put_ok 10 rfl
theorem dX10_put_21 : decode cX10_put 21 = .ok (.aload_n 0, 1) := dec_of t_X10_put_ok 11 rfl
theorem dX10_put_22 : decode cX10_put 22 = .ok (.getfield 123, 3) := dec_of t_X10_put_ok 12 rfl
theorem dX10_put_25 : decode cX10_put 25 = .ok (.ifCond .le 5, 3) := dec_of t_X10_put_ok 13 rfl
theorem dX10_put_28 : decode cX10_put 28 = .ok (.iconst 0, 1) := dec_of t_X10_put_ok 14 rfl
theorem dX10_put_29 : decode cX10_put 29 = .ok (.ireturn, 1) := dec_of t_X10_put_ok 15 rfl
theorem dX10_put_30 : decode cX10_put 30 = .ok (.iload_n 2, 1) := dec_of t_X10_put_ok 16 rfl
theorem dX10_put_31 : decode cX10_put 31 = .ok (.invokestatic 138, 3) := dec_of t_X10_put_ok 17 rfl
theorem dX10_put_34 : decode cX10_put 34 = .ok (.ifCond .ne 34, 3) := dec_of t_X10_put_ok 18 rfl
theorem dX10_put_37 : decode cX10_put 37 = .ok (.iload_n 2, 1) := dec_of t_X10_put_ok 19 rfl
theorem dX10_put_38 : decode cX10_put 38 = .ok (.invokestatic 142, 3) := dec_of t_X10_put_ok 20 rfl
theorem dX10_put_41 : decode cX10_put 41 = .ok (.ifCond .ne 27, 3) := dec_of t_X10_put_ok 21 rfl
theorem dX10_put_44 : decode cX10_put 44 = .ok (.iload_n 2, 1) := dec_of t_X10_put_ok 22 rfl
theorem dX10_put_45 : decode cX10_put 45 = .ok (.bipush 32, 2) := dec_of t_X10_put_ok 23 rfl
theorem dX10_put_47 : decode cX10_put 47 = .ok (.if_icmp .eq 21, 3) := dec_of t_X10_put_ok 24 rfl
theorem dX10_put_50 : decode cX10_put 50 = .ok (.iload_n 2, 1) := dec_of t_X10_put_ok 25 rfl
theorem dX10_put_51 : decode cX10_put 51 = .ok (.bipush 46, 2) := dec_of t_X10_put_ok 26 rfl
theorem dX10_put_53 : decode cX10_put 53 = .ok (.if_icmp .eq 15, 3) := dec_of t_X10_put_ok 27 rfl
theorem dX10_put_56 : decode cX10_put 56 = .ok (.iload_n 2, 1) := dec_of t_X10_put_ok 28 rfl
theorem dX10_put_57 : decode cX10_put 57 = .ok (.bipush 34, 2) := dec_of t_X10_put_ok 29 rfl
theorem dX10_put_59 : decode cX10_put 59 = .ok (.if_icmp .eq 9, 3) := dec_of t_X10_put_ok 30 rfl
theorem dX10_put_62 : decode cX10_put 62 = .ok (.iload_n 2, 1) := dec_of t_X10_put_ok 31 rfl
theorem dX10_put_63 : decode cX10_put 63 = .ok (.bipush 47, 2) := dec_of t_X10_put_ok 32 rfl
theorem dX10_put_65 : decode cX10_put 65 = .ok (.if_icmp .ne 7, 3) := dec_of t_X10_put_ok 33 rfl
theorem dX10_put_68 : decode cX10_put 68 = .ok (.iconst 1, 1) := dec_of t_X10_put_ok 34 rfl
theorem dX10_put_69 : decode cX10_put 69 = .ok (.goto 4, 3) := dec_of t_X10_put_ok 35 rfl
theorem dX10_put_72 : decode cX10_put 72 = .ok (.iconst 0, 1) := dec_of t_X10_put_ok 36 rfl
theorem dX10_put_73 : decode cX10_put 73 = .ok (.istore 4, 2) := dec_of t_X10_put_ok 37 rfl
theorem dX10_put_75 : decode cX10_put 75 = .ok (.aload_n 0, 1) := dec_of t_X10_put_ok 38 rfl
theorem dX10_put_76 : decode cX10_put 76 = .ok (.iload 4, 2) := dec_of t_X10_put_ok 39 rfl
theorem dX10_put_78 : decode cX10_put 78 = .ok (.ifCond .eq 12, 3) := dec_of t_X10_put_ok 40 rfl
theorem dX10_put_81 : decode cX10_put 81 = .ok (.iload_n 3, 1) := dec_of t_X10_put_ok 41 rfl
theorem dX10_put_82 : decode cX10_put 82 = .ok (.iconst 0, 1) := dec_of t_X10_put_ok 42 rfl
theorem dX10_put_83 : decode cX10_put 83 = .ok (.iconst 3, 1) := dec_of t_X10_put_ok 43 rfl
theorem dX10_put_84 : decode cX10_put 84 = .ok (.invokestatic 127, 3) := dec_of t_X10_put_ok 44 rfl
theorem dX10_put_87 : decode cX10_put 87 = .ok (.ifCond .ne 7, 3) := dec_of t_X10_put_ok 45 rfl
theorem dX10_put_90 : decode cX10_put 90 = .ok (.iconst 2, 1) := dec_of t_X10_put_ok 46 rfl
theorem dX10_put_91 : decode cX10_put 91 = .ok (.goto 18, 3) := dec_of t_X10_put_ok 47 rfl
theorem dX10_put_94 : decode cX10_put 94 = .ok (.aload_n 0, 1) := dec_of t_X10_put_ok 48 rfl
theorem dX10_put_95 : decode cX10_put 95 = .ok (.getfield 156, 3) := dec_of t_X10_put_ok 49 rfl
theorem dX10_put_98 : decode cX10_put 98 = .ok (.sipush 160, 3) := dec_of t_X10_put_ok 50 rfl
theorem dX10_put_101 : decode cX10_put 101 = .ok (.if_icmp .ne 7, 3) := dec_of t_X10_put_ok 51 rfl
theorem dX10_put_104 : decode cX10_put 104 = .ok (.iconst 3, 1) := dec_of t_X10_put_ok 52 rfl
theorem dX10_put_105 : decode cX10_put 105 = .ok (.goto 4, 3) := dec_of t_X10_put_ok 53 rfl
theorem dX10_put_108 : decode cX10_put 108 = .ok (.iconst 0, 1) := dec_of t_X10_put_ok 54 rfl
theorem dX10_put_109 : decode cX10_put 109 = .ok (.putfield 123, 3) := dec_of t_X10_put_ok 55 rfl
theorem dX10_put_112 : decode cX10_put 112 = .ok (.aload_n 0, 1) := dec_of t_X10_put_ok 56 rfl
theorem dX10_put_113 : decode cX10_put 113 = .ok (.getfield 123, 3) := dec_of t_X10_put_ok 57 rfl
theorem dX10_put_116 : decode cX10_put 116 = .ok (.ifCond .le 5, 3) := dec_of t_X10_put_ok 58 rfl
theorem dX10_put_119 : decode cX10_put 119 = .ok (.iconst 0, 1) := dec_of t_X10_put_ok 59 rfl
theorem dX10_put_120 : decode cX10_put 120 = .ok (.ireturn, 1) := dec_of t_X10_put_ok 60 rfl
theorem dX10_put_121 : decode cX10_put 121 = .ok (.aload_n 0, 1) := dec_of t_X10_put_ok 61 rfl
theorem dX10_put_122 : decode cX10_put 122 = .ok (.iload_n 1, 1) := dec_of t_X10_put_ok 62 rfl
theorem dX10_put_123 : decode cX10_put 123 = .ok (.iload_n 2, 1) := dec_of t_X10_put_ok 63 rfl
theorem dX10_put_124 : decode cX10_put 124 = .ok (.iload_n 3, 1) := dec_of t_X10_put_ok 64 rfl
theorem dX10_put_125 : decode cX10_put 125 = .ok (.invokevirtual 167, 3) := dec_of t_X10_put_ok 65 rfl
theorem dX10_put_128 : decode cX10_put 128 = .ok (.aload_n 0, 1) := dec_of t_X10_put_ok 66 rfl
theorem dX10_put_129 : decode cX10_put 129 = .ok (.getfield 156, 3) := dec_of t_X10_put_ok 67 rfl
theorem dX10_put_132 : decode cX10_put 132 = .ok (.ireturn, 1) := dec_of t_X10_put_ok 68 rfl
def t_X10_take : List (Nat × Instr × Nat) := [(0, .aload_n 0, 1), (1, .iload_n 1, 1), (2, .iconst 0, 1), (3, .aload_n 0, 1), (4, .getfield 156, 3), (7, .iconst 1, 1), (8, .isub, 1), (9, .invokestatic 127, 3), (12, .ifCond .eq 7, 3), (15, .iconst 0, 1), (16, .goto 4, 3), (19, .iconst 1, 1), (20, .putfield 123, 3), (23, .aload_n 0, 1), (24, .getfield 123, 3), (27, .ifCond .le 6, 3), (30, .bipush 32, 2), (32, .ireturn, 1), (33, .aload_n 0, 1), (34, .getfield 7, 3), (37, .iload_n 1, 1), (38, .caload, 1), (39, .istore_n 2, 1), (40, .aload_n 0, 1), (41, .iload_n 1, 1), (42, .invokevirtual 171, 3), (45, .iload_n 2, 1), (46, .ireturn, 1)]
theorem t_X10_take_ok : dec_ok cX10_take t_X10_take = true := by decide +kernel
theorem dX10_take_0 : decode cX10_take 0 = .ok (.aload_n 0, 1) := dec_of t_X10_take_ok 0 rfl
theorem dX10_take_1 : decode cX10_take 1 = .ok (.iload_n 1, 1) := dec_of t_X10_take_ok 1 rfl
theorem dX10_take_2 : decode cX10_take 2 = .ok (.iconst 0, 1) := dec_of t_X10_take_ok 2 rfl
theorem dX10_take_3 : decode cX10_take 3 = .ok (.aload_n 0, 1) := dec_of t_X10_take_ok 3 rfl
theorem dX10_take_4 : decode cX10_take 4 = .ok (.getfield 156, 3) := dec_of t_X10_take_ok 4 rfl
theorem dX10_take_7 : decode cX10_take 7 = .ok (.iconst 1, 1) := dec_of t_X10_take_ok 5 rfl
theorem dX10_take_8 : decode cX10_take 8 = .ok (.isub, 1) := dec_of t_X10_take_ok 6 rfl
theorem dX10_take_9 : decode cX10_take 9 = .ok (.invokestatic 127, 3) := dec_of t_X10_take_ok 7 rfl
theorem dX10_take_12 : decode cX10_take 12 = .ok (.ifCond .eq 7, 3) := dec_of t_X10_take_ok 8 rfl
theorem dX10_take_15 : decode cX10_take 15 = .ok (.iconst 0, 1) := dec_of t_X10_take_ok 9 rfl
theorem dX10_take_16 : decode cX10_take 16 = .ok (.goto 4, 3) := dec_of t_X10_take_ok 10 rfl
theorem dX10_take_19 : decode cX10_take 19 = .ok (.iconst 1, 1) := dec_of t_X10_take_ok 11 rfl
theorem dX10_take_20 : decode cX10_take 20 = .ok (.putfield 123, 3) := dec_of t_X10_take_ok 12 rfl
theorem dX10_take_23 : decode cX10_take 23 = .ok (.aload_n 0, 1) := dec_of t_X10_take_ok 13 rfl
theorem dX10_take_24 : decode cX10_take 24 = .ok (.getfield 123, 3) := dec_of t_X10_take_ok 14 rfl
theorem dX10_take_27 : decode cX10_take 27 = .ok (.ifCond .le 6, 3) := dec_of t_X10_take_ok 15 rfl
theorem dX10_take_30 : decode cX10_take 30 = .ok (.bipush 32, 2) := dec_of t_X10_take_ok 16 rfl
theorem dX10_take_32 : decode cX10_take 32 = .ok (.ireturn, 1) := dec_of t_X10_take_ok 17 rfl
theorem dX10_take_33 : decode cX10_take 33 = .ok (.aload_n 0, 1) := dec_of t_X10_take_ok 18 rfl
theorem dX10_take_34 : decode cX10_take 34 = .ok (.getfield 7, 3) := dec_of t_X10_take_ok 19 rfl
theorem dX10_take_37 : decode cX10_take 37 = .ok (.iload_n 1, 1) := dec_of t_X10_take_ok 20 rfl
theorem dX10_take_38 : decode cX10_take 38 = .ok (.caload, 1) := dec_of t_X10_take_ok 21 rfl
theorem dX10_take_39 : decode cX10_take 39 = .ok (.istore_n 2, 1) := dec_of t_X10_take_ok 22 rfl
theorem dX10_take_40 : decode cX10_take 40 = .ok (.aload_n 0, 1) := dec_of t_X10_take_ok 23 rfl
theorem dX10_take_41 : decode cX10_take 41 = .ok (.iload_n 1, 1) := dec_of t_X10_take_ok 24 rfl
theorem dX10_take_42 : decode cX10_take 42 = .ok (.invokevirtual 171, 3) := dec_of t_X10_take_ok 25 rfl
theorem dX10_take_45 : decode cX10_take 45 = .ok (.iload_n 2, 1) := dec_of t_X10_take_ok 26 rfl
theorem dX10_take_46 : decode cX10_take 46 = .ok (.ireturn, 1) := dec_of t_X10_take_ok 27 rfl
def t_X10_length : List (Nat × Instr × Nat) := [(0, .aload_n 0, 1), (1, .iconst 0, 1), (2, .putfield 123, 3), (5, .aload_n 0, 1), (6, .getfield 156, 3), (9, .ireturn, 1)]
theorem t_X10_length_ok : dec_ok cX10_length t_X10_length = true := by decide +kernel
theorem dX10_length_0 : decode cX10_length 0 = .ok (.aload_n 0, 1) := dec_of t_X10_length_ok 0 rfl
theorem dX10_length_1 : decode cX10_length 1 = .ok (.iconst 0, 1) := dec_of t_X10_length_ok 1 rfl
theorem dX10_length_2 : decode cX10_length 2 = .ok (.putfield 123, 3) := dec_of t_X10_length_ok 2 rfl
theorem dX10_length_5 : decode cX10_length 5 = .ok (.aload_n 0, 1) := dec_of t_X10_length_ok 3 rfl
theorem dX10_length_6 : decode cX10_length 6 = .ok (.getfield 156, 3) := dec_of t_X10_length_ok 4 rfl
theorem dX10_length_9 : decode cX10_length 9 = .ok (.ireturn, 1) := dec_of t_X10_length_ok 5 rfl
def t_X10_isPattern : List (Nat × Instr × Nat) := [(0, .iconst 0, 1), (1, .istore_n 1, 1), (2, .iconst 0, 1), (3, .istore_n 2, 1), (4, .aload_n 0, 1), (5, .getfield 145, 3), (8, .ifCond .le 7, 3), (11, .iconst 1, 1), (12, .goto 4, 3), (15, .iconst 0, 1), (16, .istore_n 3, 1), (17, .iconst 1, 1), (18, .istore 4, 2), (20, .iload_n 3, 1), (21, .ifCond .eq 295, 3), (24, .iload 4, 2), (26, .ifCond .eq 290, 3), (29, .aload_n 0, 1), (30, .iload_n 1, 1), (31, .invokevirtual 174, 3), (34, .istore 5, 2), (36, .iload_n 1, 1), (37, .iload 5, 2), (39, .iadd, 1), (40, .istore 6, 2), (42, .iload 6, 2), (44, .aload_n 0, 1), (45, .getfield 145, 3), (48, .if_icmp .ge 19, 3), (51, .aload_n 0, 1), (52, .getfield 17, 3), (55, .iload 6, 2), (57, .caload, 1), (58, .bipush 42, 2), (60, .if_icmp .ne 7, 3), (63, .iconst 1, 1), (64, .goto 4, 3), (67, .iconst 0, 1), (68, .istore 7, 2), (70, .iload 5, 2), (72, .ifCond .ne 28, 3), (75, .iload 6, 2), (77, .aload_n 0, 1), (78, .getfield 145, 3), (81, .if_icmp .ge 19, 3), (84, .aload_n 0, 1), (85, .getfield 17, 3), (88, .iload 6, 2), (90, .caload, 1), (91, .bipush 35, 2), (93, .if_icmp .ne 7, 3), (96, .iconst 1, 1), (97, .goto 4, 3), (100, .iconst 0, 1), (101, .istore 8, 2), (103, .iload 6, 2), (105, .iload 7, 2), (107, .ifCond .ne 8, 3), (110, .iload 8, 2), (112, .ifCond .eq 7, 3), (115, .iconst 1, 1), (116, .goto 4, 3), (119, .iconst 0, 1), (120, .iadd, 1), (121, .istore 6, 2), (123, .iload_n 2, 1), (124, .iconst 3, 1), (125, .if_icmp .ge 45, 3), (128, .iload 6, 2), (130, .iload_n 1, 1), (131, .if_icmp .le 39, 3), (134, .iload 6, 2), (136, .aload_n 0, 1), (137, .getfield 145, 3), (140, .if_icmp .eq 26, 3), (143, .aload_n 0, 1), (144, .getfield 17, 3), (147, .iload 6, 2), (149, .caload, 1), (150, .bipush 45, 2), (152, .if_icmp .ne 18, 3), (155, .iload 6, 2), (157, .iconst 1, 1), (158, .iadd, 1), (159, .aload_n 0, 1), (160, .getfield 145, 3), (163, .if_icmp .ge 7, 3), (166, .iconst 1, 1), (167, .goto 4, 3), (170, .iconst 0, 1), (171, .istore_n 3, 1), (172, .iload_n 3, 1), (173, .ifCond .eq 116, 3), (176, .aload_n 0, 1), (177, .getfield 135, 3), (180, .bipush 12, 2), (182, .if_icmp .ge 107, 3), (185, .aload_n 0, 1), (186, .getfield 135, 3), (189, .iconst 3, 1), (190, .imul, 1), (191, .iload_n 2, 1), (192, .iadd, 1), (193, .istore 9, 2), (195, .iconst 0, 1), (196, .istore 10, 2), (198, .iload 10, 2), (200, .iload 5, 2), (202, .if_icmp .ge 31, 3), (205, .aload_n 0, 1), (206, .getfield 23, 3), (209, .iload 9, 2), (211, .bipush 20, 2), (213, .imul, 1), (214, .iload 10, 2), (216, .iadd, 1), (217, .aload_n 0, 1), (218, .getfield 17, 3), (221, .iload_n 1, 1), (222, .iload 10, 2), (224, .iadd, 1), (225, .caload, 1), (226, .castore, 1), (227, .iinc 10 1, 3), (230, .goto (-32), 3), (233, .aload_n 0, 1), (234, .getfield 26, 3), (237, .iload 9, 2), (239, .iload 5, 2), (241, .iastore, 1), (242, .aload_n 0, 1), (243, .getfield 29, 3), (246, .iload 9, 2), (248, .iload 8, 2), (250, .ifCond .eq 7, 3), (253, .iconst 3, 1), (254, .goto 22, 3), (257, .iload 7, 2), (259, .ifCond .ne 7, 3), (262, .iconst 0, 1), (263, .goto 13, 3), (266, .iload 5, 2), (268, .ifCond .le 7, 3), (271, .iconst 1, 1), (272, .goto 4, 3), (275, .iconst 2, 1), (276, .iastore, 1), (277, .aload_n 0, 1), (278, .getfield 20, 3), (281, .aload_n 0, 1), (282, .getfield 135, 3), (285, .iload_n 2, 1), (286, .iconst 1, 1), (287, .iadd, 1), (288, .iastore, 1), (289, .iinc 2 1, 3), (292, .iload 6, 2), (294, .aload_n 0, 1), (295, .getfield 145, 3), (298, .if_icmp .ge 7, 3), (301, .iconst 1, 1), (302, .goto 4, 3), (305, .iconst 0, 1), (306, .istore 4, 2), (308, .iload 6, 2), (310, .iconst 1, 1), (311, .iadd, 1), (312, .istore_n 1, 1), (313, .goto (-293), 3), (316, .iload_n 3, 1), (317, .ireturn, 1)]
theorem t_X10_isPattern_ok : dec_ok cX10_isPattern t_X10_isPattern = true := by decide +kernel
theorem dX10_isPattern_0 : decode cX10_isPattern 0 = .ok (.iconst 0, 1) := dec_of t_X10_isPattern_ok 0 rfl
theorem dX10_isPattern_1 : decode cX10_isPattern 1 = .ok (.istore_n 1, 1) := dec_of t_X10_isPattern_ok 1 rfl
theorem dX10_isPattern_2 : decode cX10_isPattern 2 = .ok (.iconst 0, 1) := dec_of t_X10_isPattern_ok 2 rfl
theorem dX10_isPattern_3 : decode cX10_isPattern 3 = .ok (.istore_n 2, 1) := dec_of t_X10_isPattern_ok 3 rfl
theorem dX10_isPattern_4 : decode cX10_isPattern 4 = .ok (.aload_n 0, 1) := dec_of t_X10_isPattern_ok 4 rfl
theorem dX10_isPattern_5 : decode cX10_isPattern 5 = .ok (.getfield 145, 3) := dec_of t_X10_isPattern_ok 5 rfl
theorem dX10_isPattern_8 : decode cX10_isPattern 8 = .ok (.ifCond .le 7, 3) := dec_of t_X10_isPattern_ok 6 rfl
theorem dX10_isPattern_11 : decode cX10_isPattern 11 = .ok (.iconst 1, 1) := dec_of t_X10_isPattern_ok 7 rfl
theorem dX10_isPattern_12 : decode cX10_isPattern 12 = .ok (.goto 4, 3) := dec_of t_X10_isPattern_ok 8 rfl
theorem dX10_isPattern_15 : decode cX10_isPattern 15 = .ok (.iconst 0, 1) := dec_of t_X10_isPattern_ok 9 rfl
theorem dX10_isPattern_16 : decode cX10_isPattern 16 = .ok (.istore_n 3, 1) := dec_of t_X10_isPattern_ok 10 rfl
theorem dX10_isPattern_17 : decode cX10_isPattern 17 = .ok (.iconst 1, 1) := dec_of t_X10_isPattern_ok 11 rfl
theorem dX10_isPattern_18 : decode cX10_isPattern 18 = .ok (.istore 4, 2) := dec_of t_X10_isPattern_ok 12 rfl
theorem dX10_isPattern_20 : decode cX10_isPattern 20 = .ok (.iload_n 3, 1) := dec_of t_X10_isPattern_ok 13 rfl
theorem dX10_isPattern_21 : decode cX10_isPattern 21 = .ok (.ifCond .eq 295, 3) := dec_of t_X10_isPattern_ok 14 rfl
theorem dX10_isPattern_24 : decode cX10_isPattern 24 = .ok (.iload 4, 2) := dec_of t_X10_isPattern_ok 15 rfl
theorem dX10_isPattern_26 : decode cX10_isPattern 26 = .ok (.ifCond .eq 290, 3) := dec_of t_X10_isPattern_ok 16 rfl
theorem dX10_isPattern_29 : decode cX10_isPattern 29 = .ok (.aload_n 0, 1) := dec_of t_X10_isPattern_ok 17 rfl
theorem dX10_isPattern_30 : decode cX10_isPattern 30 = .ok (.iload_n 1, 1) := dec_of t_X10_isPattern_ok 18 rfl
theorem dX10_isPattern_31 : decode cX10_isPattern 31 = .ok (.invokevirtual 174, 3) := dec_of t_X10_isPattern_ok 19 rfl
theorem dX10_isPattern_34 : decode cX10_isPattern 34 = .ok (.istore 5, 2) := dec_of t_X10_isPattern_ok 20 rfl
theorem dX10_isPattern_36 : decode cX10_isPattern 36 = .ok (.iload_n 1, 1) := dec_of t_X10_isPattern_ok 21 rfl
theorem dX10_isPattern_37 : decode cX10_isPattern 37 = .ok (.iload 5, 2) := dec_of t_X10_isPattern_ok 22 rfl
theorem dX10_isPattern_39 : decode cX10_isPattern 39 = .ok (.iadd, 1) := dec_of t_X10_isPattern_ok 23 rfl
theorem dX10_isPattern_40 : decode cX10_isPattern 40 = .ok (.istore 6, 2) := dec_of t_X10_isPattern_ok 24 rfl
theorem dX10_isPattern_42 : decode cX10_isPattern 42 = .ok (.iload 6, 2) := dec_of t_X10_isPattern_ok 25 rfl
theorem dX10_isPattern_44 : decode cX10_isPattern 44 = .ok (.aload_n 0, 1) := dec_of t_X10_isPattern_ok 26 rfl
theorem dX10_isPattern_45 : decode cX10_isPattern 45 = .ok (.getfield 145, 3) := dec_of t_X10_isPattern_ok 27 rfl
theorem dX10_isPattern_48 : decode cX10_isPattern 48 = .ok (.if_icmp .ge 19, 3) := dec_of t_X10_isPattern_ok 28 rfl
theorem dX10_isPattern_51 : decode cX10_isPattern 51 = .ok (.aload_n 0, 1) := dec_of t_X10_isPattern_ok 29 rfl
theorem dX10_isPattern_52 : decode cX10_isPattern 52 = .ok (.getfield 17, 3) := dec_of t_X10_isPattern_ok 30 rfl
theorem dX10_isPattern_55 : decode cX10_isPattern 55 = .ok (.iload 6, 2) := dec_of t_X10_isPattern_ok 31 rfl
theorem dX10_isPattern_57 : decode cX10_isPattern 57 = .ok (.caload, 1) := dec_of t_X10_isPattern_ok 32 rfl
theorem dX10_isPattern_58 : decode cX10_isPattern 58 = .ok (.bipush 42, 2) := dec_of t_X10_isPattern_ok 33 rfl
theorem dX10_isPattern_60 : decode cX10_isPattern 60 = .ok (.if_icmp .ne 7, 3) := dec_of t_X10_isPattern_ok 34 rfl
theorem dX10_isPattern_63 : decode cX10_isPattern 63 = .ok (.iconst 1, 1) := dec_of t_X10_isPattern_ok 35 rfl
theorem dX10_isPattern_64 : decode cX10_isPattern 64 = .ok (.goto 4, 3) := dec_of t_X10_isPattern_ok 36 rfl
theorem dX10_isPattern_67 : decode cX10_isPattern 67 = .ok (.iconst 0, 1) := dec_of t_X10_isPattern_ok 37 rfl
theorem dX10_isPattern_68 : decode cX10_isPattern 68 = .ok (.istore 7, 2) := dec_of t_X10_isPattern_ok 38 rfl
theorem dX10_isPattern_70 : decode cX10_isPattern 70 = .ok (.iload 5, 2) := dec_of t_X10_isPattern_ok 39 rfl
theorem dX10_isPattern_72 : decode cX10_isPattern 72 = .ok (.ifCond .ne 28, 3) := dec_of t_X10_isPattern_ok 40 rfl
theorem dX10_isPattern_75 : decode cX10_isPattern 75 = .ok (.iload 6, 2) := dec_of t_X10_isPattern_ok 41 rfl
theorem dX10_isPattern_77 : decode cX10_isPattern 77 = .ok (.aload_n 0, 1) := dec_of t_X10_isPattern_ok 42 rfl
theorem dX10_isPattern_78 : decode cX10_isPattern 78 = .ok (.getfield 145, 3) := dec_of t_X10_isPattern_ok 43 rfl
theorem dX10_isPattern_81 : decode cX10_isPattern 81 = .ok (.if_icmp .ge 19, 3) := dec_of t_X10_isPattern_ok 44 rfl
theorem dX10_isPattern_84 : decode cX10_isPattern 84 = .ok (.aload_n 0, 1) := dec_of t_X10_isPattern_ok 45 rfl
theorem dX10_isPattern_85 : decode cX10_isPattern 85 = .ok (.getfield 17, 3) := dec_of t_X10_isPattern_ok 46 rfl
theorem dX10_isPattern_88 : decode cX10_isPattern 88 = .ok (.iload 6, 2) := dec_of t_X10_isPattern_ok 47 rfl
theorem dX10_isPattern_90 : decode cX10_isPattern 90 = .ok (.caload, 1) := dec_of t_X10_isPattern_ok 48 rfl
theorem dX10_isPattern_91 : decode cX10_isPattern 91 = .ok (.bipush 35, 2) := dec_of t_X10_isPattern_ok 49 rfl
theorem dX10_isPattern_93 : decode cX10_isPattern 93 = .ok (.if_icmp .ne 7, 3) := dec_of t_X10_isPattern_ok 50 rfl
theorem dX10_isPattern_96 : decode cX10_isPattern 96 = .ok (.iconst 1, 1) := dec_of t_X10_isPattern_ok 51 rfl
theorem dX10_isPattern_97 : decode cX10_isPattern 97 = .ok (.goto 4, 3) := dec_of t_X10_isPattern_ok 52 rfl
theorem dX10_isPattern_100 : decode cX10_isPattern 100 = .ok (.iconst 0, 1) := dec_of t_X10_isPattern_ok 53 rfl
theorem dX10_isPattern_101 : decode cX10_isPattern 101 = .ok (.istore 8, 2) := dec_of t_X10_isPattern_ok 54 rfl
theorem dX10_isPattern_103 : decode cX10_isPattern 103 = .ok (.iload 6, 2) := dec_of t_X10_isPattern_ok 55 rfl
theorem dX10_isPattern_105 : decode cX10_isPattern 105 = .ok (.iload 7, 2) := dec_of t_X10_isPattern_ok 56 rfl
theorem dX10_isPattern_107 : decode cX10_isPattern 107 = .ok (.ifCond .ne 8, 3) := dec_of t_X10_isPattern_ok 57 rfl
theorem dX10_isPattern_110 : decode cX10_isPattern 110 = .ok (.iload 8, 2) := dec_of t_X10_isPattern_ok 58 rfl
theorem dX10_isPattern_112 : decode cX10_isPattern 112 = .ok (.ifCond .eq 7, 3) := dec_of t_X10_isPattern_ok 59 rfl
theorem dX10_isPattern_115 : decode cX10_isPattern 115 = .ok (.iconst 1, 1) := dec_of t_X10_isPattern_ok 60 rfl
theorem dX10_isPattern_116 : decode cX10_isPattern 116 = .ok (.goto 4, 3) := dec_of t_X10_isPattern_ok 61 rfl
theorem dX10_isPattern_119 : decode cX10_isPattern 119 = .ok (.iconst 0, 1) := dec_of t_X10_isPattern_ok 62 rfl
theorem dX10_isPattern_120 : decode cX10_isPattern 120 = .ok (.iadd, 1) := dec_of t_X10_isPattern_ok 63 rfl
theorem dX10_isPattern_121 : decode cX10_isPattern 121 = .ok (.istore 6, 2) := dec_of t_X10_isPattern_ok 64 rfl
theorem dX10_isPattern_123 : decode cX10_isPattern 123 = .ok (.iload_n 2, 1) := dec_of t_X10_isPattern_ok 65 rfl
theorem dX10_isPattern_124 : decode cX10_isPattern 124 = .ok (.iconst 3, 1) := dec_of t_X10_isPattern_ok 66 rfl
theorem dX10_isPattern_125 : decode cX10_isPattern 125 = .ok (.if_icmp .ge 45, 3) := dec_of t_X10_isPattern_ok 67 rfl
theorem dX10_isPattern_128 : decode cX10_isPattern 128 = .ok (.iload 6, 2) := dec_of t_X10_isPattern_ok 68 rfl
theorem dX10_isPattern_130 : decode cX10_isPattern 130 = .ok (.iload_n 1, 1) := dec_of t_X10_isPattern_ok 69 rfl
theorem dX10_isPattern_131 : decode cX10_isPattern 131 = .ok (.if_icmp .le 39, 3) := dec_of t_X10_isPattern_ok 70 rfl
theorem dX10_isPattern_134 : decode cX10_isPattern 134 = .ok (.iload 6, 2) := dec_of t_X10_isPattern_ok 71 rfl
theorem dX10_isPattern_136 : decode cX10_isPattern 136 = .ok (.aload_n 0, 1) := dec_of t_X10_isPattern_ok 72 rfl
theorem dX10_isPattern_137 : decode cX10_isPattern 137 = .ok (.getfield 145, 3) := dec_of t_X10_isPattern_ok 73 rfl
theorem dX10_isPattern_140 : decode cX10_isPattern 140 = .ok (.if_icmp .eq 26, 3) := dec_of t_X10_isPattern_ok 74 rfl
theorem dX10_isPattern_143 : decode cX10_isPattern 143 = .ok (.aload_n 0, 1) := dec_of t_X10_isPattern_ok 75 rfl
theorem dX10_isPattern_144 : decode cX10_isPattern 144 = .ok (.getfield 17, 3) := dec_of t_X10_isPattern_ok 76 rfl
theorem dX10_isPattern_147 : decode cX10_isPattern 147 = .ok (.iload 6, 2) := dec_of t_X10_isPattern_ok 77 rfl
theorem dX10_isPattern_149 : decode cX10_isPattern 149 = .ok (.caload, 1) := dec_of t_X10_isPattern_ok 78 rfl
theorem dX10_isPattern_150 : decode cX10_isPattern 150 = .ok (.bipush 45, 2) := dec_of t_X10_isPattern_ok 79 rfl
theorem dX10_isPattern_152 : decode cX10_isPattern 152 = .ok (.if_icmp .ne 18, 3) := dec_of t_X10_isPattern_ok 80 rfl
theorem dX10_isPattern_155 : decode cX10_isPattern 155 = .ok (.iload 6, 2) := dec_of t_X10_isPattern_ok 81 rfl
theorem dX10_isPattern_157 : decode cX10_isPattern 157 = .ok (.iconst 1, 1) := dec_of t_X10_isPattern_ok 82 rfl
theorem dX10_isPattern_158 : decode cX10_isPattern 158 = .ok (.iadd, 1) := dec_of t_X10_isPattern_ok 83 rfl
theorem dX10_isPattern_159 : decode cX10_isPattern 159 = .ok (.aload_n 0, 1) := dec_of t_X10_isPattern_ok 84 rfl
theorem dX10_isPattern_160 : decode cX10_isPattern 160 = .ok (.getfield 145, 3) := dec_of t_X10_isPattern_ok 85 rfl
theorem dX10_isPattern_163 : decode cX10_isPattern 163 = .ok (.if_icmp .ge 7, 3) := dec_of t_X10_isPattern_ok 86 rfl
theorem dX10_isPattern_166 : decode cX10_isPattern 166 = .ok (.iconst 1, 1) := dec_of t_X10_isPattern_ok 87 rfl
theorem dX10_isPattern_167 : decode cX10_isPattern 167 = .ok (.goto 4, 3) := dec_of t_X10_isPattern_ok 88 rfl
theorem dX10_isPattern_170 : decode cX10_isPattern 170 = .ok (.iconst 0, 1) := dec_of t_X10_isPattern_ok 89 rfl
theorem dX10_isPattern_171 : decode cX10_isPattern 171 = .ok (.istore_n 3, 1) := dec_of t_X10_isPattern_ok 90 rfl
theorem dX10_isPattern_172 : decode cX10_isPattern 172 = .ok (.iload_n 3, 1) := dec_of t_X10_isPattern_ok 91 rfl
theorem dX10_isPattern_173 : decode cX10_isPattern 173 = .ok (.ifCond .eq 116, 3) := dec_of t_X10_isPattern_ok 92 rfl
theorem dX10_isPattern_176 : decode cX10_isPattern 176 = .ok (.aload_n 0, 1) := dec_of t_X10_isPattern_ok 93 rfl
theorem dX10_isPattern_177 : decode cX10_isPattern 177 = .ok (.getfield 135, 3) := dec_of t_X10_isPattern_ok 94 rfl
theorem dX10_isPattern_180 : decode cX10_isPattern 180 = .ok (.bipush 12, 2) := dec_of t_X10_isPattern_ok 95 rfl
theorem dX10_isPattern_182 : decode cX10_isPattern 182 = .ok (.if_icmp .ge 107, 3) := dec_of t_X10_isPattern_ok 96 rfl
theorem dX10_isPattern_185 : decode cX10_isPattern 185 = .ok (.aload_n 0, 1) := dec_of t_X10_isPattern_ok 97 rfl
theorem dX10_isPattern_186 : decode cX10_isPattern 186 = .ok (.getfield 135, 3) := dec_of t_X10_isPattern_ok 98 rfl
theorem dX10_isPattern_189 : decode cX10_isPattern 189 = .ok (.iconst 3, 1) := dec_of t_X10_isPattern_ok 99 rfl
theorem dX10_isPattern_190 : decode cX10_isPattern 190 = .ok (.imul, 1) := dec_of t_X10_isPattern_ok 100 rfl
theorem dX10_isPattern_191 : decode cX10_isPattern 191 = .ok (.iload_n 2, 1) := dec_of t_X10_isPattern_ok 101 rfl
theorem dX10_isPattern_192 : decode cX10_isPattern 192 = .ok (.iadd, 1) := dec_of t_X10_isPattern_ok 102 rfl
theorem dX10_isPattern_193 : decode cX10_isPattern 193 = .ok (.istore 9, 2) := dec_of t_X10_isPattern_ok 103 rfl
theorem dX10_isPattern_195 : decode cX10_isPattern 195 = .ok (.iconst 0, 1) := dec_of t_X10_isPattern_ok 104 rfl
theorem dX10_isPattern_196 : decode cX10_isPattern 196 = .ok (.istore 10, 2) := dec_of t_X10_isPattern_ok 105 rfl
theorem dX10_isPattern_198 : decode cX10_isPattern 198 = .ok (.iload 10, 2) := dec_of t_X10_isPattern_ok 106 rfl
theorem dX10_isPattern_200 : decode cX10_isPattern 200 = .ok (.iload 5, 2) := dec_of t_X10_isPattern_ok 107 rfl
theorem dX10_isPattern_202 : decode cX10_isPattern 202 = .ok (.if_icmp .ge 31, 3) := dec_of t_X10_isPattern_ok 108 rfl
theorem dX10_isPattern_205 : decode cX10_isPattern 205 = .ok (.aload_n 0, 1) := dec_of t_X10_isPattern_ok 109 rfl
theorem dX10_isPattern_206 : decode cX10_isPattern 206 = .ok (.getfield 23, 3) := dec_of t_X10_isPattern_ok 110 rfl
theorem dX10_isPattern_209 : decode cX10_isPattern 209 = .ok (.iload 9, 2) := dec_of t_X10_isPattern_ok 111 rfl
theorem dX10_isPattern_211 : decode cX10_isPattern 211 = .ok (.bipush 20, 2) := dec_of t_X10_isPattern_ok 112 rfl
theorem dX10_isPattern_213 : decode cX10_isPattern 213 = .ok (.imul, 1) := dec_of t_X10_isPattern_ok 113 rfl
theorem dX10_isPattern_214 : decode cX10_isPattern 214 = .ok (.iload 10, 2) := dec_of t_X10_isPattern_ok 114 rfl
theorem dX10_isPattern_216 : decode cX10_isPattern 216 = .ok (.iadd, 1) := dec_of t_X10_isPattern_ok 115 rfl
theorem dX10_isPattern_217 : decode cX10_isPattern 217 = .ok (.aload_n 0, 1) := dec_of t_X10_isPattern_ok 116 rfl
theorem dX10_isPattern_218 : decode cX10_isPattern 218 = .ok (.getfield 17, 3) := dec_of t_X10_isPattern_ok 117 rfl
theorem dX10_isPattern_221 : decode cX10_isPattern 221 = .ok (.iload_n 1, 1) := dec_of t_X10_isPattern_ok 118 rfl
theorem dX10_isPattern_222 : decode cX10_isPattern 222 = .ok (.iload 10, 2) := dec_of t_X10_isPattern_ok 119 rfl
theorem dX10_isPattern_224 : decode cX10_isPattern 224 = .ok (.iadd, 1) := dec_of t_X10_isPattern_ok 120 rfl
theorem dX10_isPattern_225 : decode cX10_isPattern 225 = .ok (.caload, 1) := dec_of t_X10_isPattern_ok 121 rfl
theorem dX10_isPattern_226 : decode cX10_isPattern 226 = .ok (.castore, 1) := dec_of t_X10_isPattern_ok 122 rfl
theorem dX10_isPattern_227 : decode cX10_isPattern 227 = .ok (.iinc 10 1, 3) := dec_of t_X10_isPattern_ok 123 rfl
theorem dX10_isPattern_230 : decode cX10_isPattern 230 = .ok (.goto (-32), 3) := dec_of t_X10_isPattern_ok 124 rfl
theorem dX10_isPattern_233 : decode cX10_isPattern 233 = .ok (.aload_n 0, 1) := dec_of t_X10_isPattern_ok 125 rfl
theorem dX10_isPattern_234 : decode cX10_isPattern 234 = .ok (.getfield 26, 3) := dec_of t_X10_isPattern_ok 126 rfl
theorem dX10_isPattern_237 : decode cX10_isPattern 237 = .ok (.iload 9, 2) := dec_of t_X10_isPattern_ok 127 rfl
theorem dX10_isPattern_239 : decode cX10_isPattern 239 = .ok (.iload 5, 2) := dec_of t_X10_isPattern_ok 128 rfl
theorem dX10_isPattern_241 : decode cX10_isPattern 241 = .ok (.iastore, 1) := dec_of t_X10_isPattern_ok 129 rfl
theorem dX10_isPattern_242 : decode cX10_isPattern 242 = .ok (.aload_n 0, 1) := dec_of t_X10_isPattern_ok 130 rfl
theorem dX10_isPattern_243 : decode cX10_isPattern 243 = .ok (.getfield 29, 3) := dec_of t_X10_isPattern_ok 131 rfl
theorem dX10_isPattern_246 : decode cX10_isPattern 246 = .ok (.iload 9, 2) := dec_of t_X10_isPattern_ok 132 rfl
theorem dX10_isPattern_248 : decode cX10_isPattern 248 = .ok (.iload 8, 2) := dec_of t_X10_isPattern_ok 133 rfl
theorem dX10_isPattern_250 : decode cX10_isPattern 250 = .ok (.ifCond .eq 7, 3) := dec_of t_X10_isPattern_ok 134 rfl
theorem dX10_isPattern_253 : decode cX10_isPattern 253 = .ok (.iconst 3, 1) := dec_of t_X10_isPattern_ok 135 rfl
theorem dX10_isPattern_254 : decode cX10_isPattern 254 = .ok (.goto 22, 3) := dec_of t_X10_isPattern_ok 136 rfl
theorem dX10_isPattern_257 : decode cX10_isPattern 257 = .ok (.iload 7, 2) := dec_of t_X10_isPattern_ok 137 rfl
theorem dX10_isPattern_259 : decode cX10_isPattern 259 = .ok (.ifCond .ne 7, 3) := dec_of t_X10_isPattern_ok 138 rfl
theorem dX10_isPattern_262 : decode cX10_isPattern 262 = .ok (.iconst 0, 1) := dec_of t_X10_isPattern_ok 139 rfl
theorem dX10_isPattern_263 : decode cX10_isPattern 263 = .ok (.goto 13, 3) := dec_of t_X10_isPattern_ok 140 rfl
theorem dX10_isPattern_266 : decode cX10_isPattern 266 = .ok (.iload 5, 2) := dec_of t_X10_isPattern_ok 141 rfl
theorem dX10_isPattern_268 : decode cX10_isPattern 268 = .ok (.ifCond .le 7, 3) := dec_of t_X10_isPattern_ok 142 rfl
theorem dX10_isPattern_271 : decode cX10_isPattern 271 = .ok (.iconst 1, 1) := dec_of t_X10_isPattern_ok 143 rfl
theorem dX10_isPattern_272 : decode cX10_isPattern 272 = .ok (.goto 4, 3) := dec_of t_X10_isPattern_ok 144 rfl
theorem dX10_isPattern_275 : decode cX10_isPattern 275 = .ok (.iconst 2, 1) := dec_of t_X10_isPattern_ok 145 rfl
theorem dX10_isPattern_276 : decode cX10_isPattern 276 = .ok (.iastore, 1) := dec_of t_X10_isPattern_ok 146 rfl
theorem dX10_isPattern_277 : decode cX10_isPattern 277 = .ok (.aload_n 0, 1) := dec_of t_X10_isPattern_ok 147 rfl
theorem dX10_isPattern_278 : decode cX10_isPattern 278 = .ok (.getfield 20, 3) := dec_of t_X10_isPattern_ok 148 rfl
theorem dX10_isPattern_281 : decode cX10_isPattern 281 = .ok (.aload_n 0, 1) := dec_of t_X10_isPattern_ok 149 rfl
theorem dX10_isPattern_282 : decode cX10_isPattern 282 = .ok (.getfield 135, 3) := dec_of t_X10_isPattern_ok 150 rfl
theorem dX10_isPattern_285 : decode cX10_isPattern 285 = .ok (.iload_n 2, 1) := dec_of t_X10_isPattern_ok 151 rfl
theorem dX10_isPattern_286 : decode cX10_isPattern 286 = .ok (.iconst 1, 1) := dec_of t_X10_isPattern_ok 152 rfl
theorem dX10_isPattern_287 : decode cX10_isPattern 287 = .ok (.iadd, 1) := dec_of t_X10_isPattern_ok 153 rfl
theorem dX10_isPattern_288 : decode cX10_isPattern 288 = .ok (.iastore, 1) := dec_of t_X10_isPattern_ok 154 rfl
theorem dX10_isPattern_289 : decode cX10_isPattern 289 = .ok (.iinc 2 1, 3) := dec_of t_X10_isPattern_ok 155 rfl
theorem dX10_isPattern_292 : decode cX10_isPattern 292 = .ok (.iload 6, 2) := dec_of t_X10_isPattern_ok 156 rfl
theorem dX10_isPattern_294 : decode cX10_isPattern 294 = .ok (.aload_n 0, 1) := dec_of t_X10_isPattern_ok 157 rfl
theorem dX10_isPattern_295 : decode cX10_isPattern 295 = .ok (.getfield 145, 3) := dec_of t_X10_isPattern_ok 158 rfl
theorem dX10_isPattern_298 : decode cX10_isPattern 298 = .ok (.if_icmp .ge 7, 3) := dec_of t_X10_isPattern_ok 159 rfl
theorem dX10_isPattern_301 : decode cX10_isPattern 301 = .ok (.iconst 1, 1) := dec_of t_X10_isPattern_ok 160 rfl
theorem dX10_isPattern_302 : decode cX10_isPattern 302 = .ok (.goto 4, 3) := dec_of t_X10_isPattern_ok 161 rfl
theorem dX10_isPattern_305 : decode cX10_isPattern 305 = .ok (.iconst 0, 1) := dec_of t_X10_isPattern_ok 162 rfl
theorem dX10_isPattern_306 : decode cX10_isPattern 306 = .ok (.istore 4, 2) := dec_of t_X10_isPattern_ok 163 rfl
theorem dX10_isPattern_308 : decode cX10_isPattern 308 = .ok (.iload 6, 2) := dec_of t_X10_isPattern_ok 164 rfl
theorem dX10_isPattern_310 : decode cX10_isPattern 310 = .ok (.iconst 1, 1) := dec_of t_X10_isPattern_ok 165 rfl
theorem dX10_isPattern_311 : decode cX10_isPattern 311 = .ok (.iadd, 1) := dec_of t_X10_isPattern_ok 166 rfl
theorem dX10_isPattern_312 : decode cX10_isPattern 312 = .ok (.istore_n 1, 1) := dec_of t_X10_isPattern_ok 167 rfl
theorem dX10_isPattern_313 : decode cX10_isPattern 313 = .ok (.goto (-293), 3) := dec_of t_X10_isPattern_ok 168 rfl
theorem dX10_isPattern_316 : decode cX10_isPattern 316 = .ok (.iload_n 3, 1) := dec_of t_X10_isPattern_ok 169 rfl
theorem dX10_isPattern_317 : decode cX10_isPattern 317 = .ok (.ireturn, 1) := dec_of t_X10_isPattern_ok 170 rfl
def t_X10_rule : List (Nat × Instr × Nat) := [(0, .iload_n 1, 1), (1, .bipush 97, 2), (3, .if_icmp .eq 15, 3), (6, .iload_n 1, 1), (7, .bipush 115, 2), (9, .if_icmp .eq 9, 3), (12, .iload_n 1, 1), (13, .bipush 109, 2), (15, .if_icmp .ne 17, 3), (18, .iload_n 3, 1), (19, .iconst 1, 1), (20, .bipush 9, 2), (22, .invokestatic 127, 3), (25, .ifCond .eq 7, 3), (28, .iconst 1, 1), (29, .goto 4, 3), (32, .iconst 0, 1), (33, .istore 4, 2), (35, .aload_n 0, 1), (36, .iload 4, 2), (38, .ifCond .ne 7, 3), (41, .iconst 1, 1), (42, .goto 28, 3), (45, .aload_n 0, 1), (46, .invokevirtual 177, 3), (49, .ifCond .ne 7, 3), (52, .iconst 2, 1), (53, .goto 17, 3), (56, .aload_n 0, 1), (57, .getfield 135, 3), (60, .bipush 12, 2), (62, .if_icmp .ne 7, 3), (65, .iconst 3, 1), (66, .goto 4, 3), (69, .iconst 0, 1), (70, .putfield 123, 3), (73, .aload_n 0, 1), (74, .getfield 123, 3), (77, .ifCond .le 5, 3), (80, .iconst 0, 1), (81, .ireturn, 1), (82, .aload_n 0, 1), (83, .getfield 32, 3), (86, .aload_n 0, 1), (87, .getfield 135, 3), (90, .iload_n 1, 1), (91, .castore, 1), (92, .aload_n 0, 1), (93, .getfield 35, 3), (96, .aload_n 0, 1), (97, .getfield 135, 3), (100, .iload_n 2, 1), (101, .bastore, 1), (102, .aload_n 0, 1), (103, .getfield 39, 3), (106, .aload_n 0, 1), (107, .getfield 135, 3), (110, .iload_n 3, 1), (111, .iastore, 1), (112, .aload_n 0, 1), (113, .dup, 1), (114, .getfield 135, 3), (117, .iconst 1, 1), (118, .iadd, 1), (119, .putfield 135, 3), (122, .aload_n 0, 1), (123, .iconst 0, 1), (124, .putfield 145, 3), (127, .aload_n 0, 1), (128, .invokevirtual 181, 3), (131, .aload_n 0, 1), (132, .getfield 135, 3), (135, .iconst 1, 1), (136, .isub, 1), (137, .ireturn, 1)]
theorem t_X10_rule_ok : dec_ok cX10_rule t_X10_rule = true := by decide +kernel
theorem dX10_rule_0 : decode cX10_rule 0 = .ok (.iload_n 1, 1) := dec_of t_X10_rule_ok 0 rfl
theorem dX10_rule_1 : decode cX10_rule 1 = .ok (.bipush 97, 2) := dec_of t_X10_rule_ok 1 rfl
theorem dX10_rule_3 : decode cX10_rule 3 = .ok (.if_icmp .eq 15, 3) := dec_of t_X10_rule_ok 2 rfl
theorem dX10_rule_6 : decode cX10_rule 6 = .ok (.iload_n 1, 1) := dec_of t_X10_rule_ok 3 rfl
theorem dX10_rule_7 : decode cX10_rule 7 = .ok (.bipush 115, 2) := dec_of t_X10_rule_ok 4 rfl
theorem dX10_rule_9 : decode cX10_rule 9 = .ok (.if_icmp .eq 9, 3) := dec_of t_X10_rule_ok 5 rfl
theorem dX10_rule_12 : decode cX10_rule 12 = .ok (.iload_n 1, 1) := dec_of t_X10_rule_ok 6 rfl
theorem dX10_rule_13 : decode cX10_rule 13 = .ok (.bipush 109, 2) := dec_of t_X10_rule_ok 7 rfl
theorem dX10_rule_15 : decode cX10_rule 15 = .ok (.if_icmp .ne 17, 3) := dec_of t_X10_rule_ok 8 rfl
theorem dX10_rule_18 : decode cX10_rule 18 = .ok (.iload_n 3, 1) := dec_of t_X10_rule_ok 9 rfl
theorem dX10_rule_19 : decode cX10_rule 19 = .ok (.iconst 1, 1) := dec_of t_X10_rule_ok 10 rfl
theorem dX10_rule_20 : decode cX10_rule 20 = .ok (.bipush 9, 2) := dec_of t_X10_rule_ok 11 rfl
theorem dX10_rule_22 : decode cX10_rule 22 = .ok (.invokestatic 127, 3) := dec_of t_X10_rule_ok 12 rfl
theorem dX10_rule_25 : decode cX10_rule 25 = .ok (.ifCond .eq 7, 3) := dec_of t_X10_rule_ok 13 rfl
theorem dX10_rule_28 : decode cX10_rule 28 = .ok (.iconst 1, 1) := dec_of t_X10_rule_ok 14 rfl
theorem dX10_rule_29 : decode cX10_rule 29 = .ok (.goto 4, 3) := dec_of t_X10_rule_ok 15 rfl
theorem dX10_rule_32 : decode cX10_rule 32 = .ok (.iconst 0, 1) := dec_of t_X10_rule_ok 16 rfl
theorem dX10_rule_33 : decode cX10_rule 33 = .ok (.istore 4, 2) := dec_of t_X10_rule_ok 17 rfl
theorem dX10_rule_35 : decode cX10_rule 35 = .ok (.aload_n 0, 1) := dec_of t_X10_rule_ok 18 rfl
theorem dX10_rule_36 : decode cX10_rule 36 = .ok (.iload 4, 2) := dec_of t_X10_rule_ok 19 rfl
theorem dX10_rule_38 : decode cX10_rule 38 = .ok (.ifCond .ne 7, 3) := dec_of t_X10_rule_ok 20 rfl
theorem dX10_rule_41 : decode cX10_rule 41 = .ok (.iconst 1, 1) := dec_of t_X10_rule_ok 21 rfl
theorem dX10_rule_42 : decode cX10_rule 42 = .ok (.goto 28, 3) := dec_of t_X10_rule_ok 22 rfl
theorem dX10_rule_45 : decode cX10_rule 45 = .ok (.aload_n 0, 1) := dec_of t_X10_rule_ok 23 rfl
theorem dX10_rule_46 : decode cX10_rule 46 = .ok (.invokevirtual 177, 3) := dec_of t_X10_rule_ok 24 rfl
theorem dX10_rule_49 : decode cX10_rule 49 = .ok (.ifCond .ne 7, 3) := dec_of t_X10_rule_ok 25 rfl
theorem dX10_rule_52 : decode cX10_rule 52 = .ok (.iconst 2, 1) := dec_of t_X10_rule_ok 26 rfl
theorem dX10_rule_53 : decode cX10_rule 53 = .ok (.goto 17, 3) := dec_of t_X10_rule_ok 27 rfl
theorem dX10_rule_56 : decode cX10_rule 56 = .ok (.aload_n 0, 1) := dec_of t_X10_rule_ok 28 rfl
theorem dX10_rule_57 : decode cX10_rule 57 = .ok (.getfield 135, 3) := dec_of t_X10_rule_ok 29 rfl
theorem dX10_rule_60 : decode cX10_rule 60 = .ok (.bipush 12, 2) := dec_of t_X10_rule_ok 30 rfl
theorem dX10_rule_62 : decode cX10_rule 62 = .ok (.if_icmp .ne 7, 3) := dec_of t_X10_rule_ok 31 rfl
theorem dX10_rule_65 : decode cX10_rule 65 = .ok (.iconst 3, 1) := dec_of t_X10_rule_ok 32 rfl
theorem dX10_rule_66 : decode cX10_rule 66 = .ok (.goto 4, 3) := dec_of t_X10_rule_ok 33 rfl
theorem dX10_rule_69 : decode cX10_rule 69 = .ok (.iconst 0, 1) := dec_of t_X10_rule_ok 34 rfl
theorem dX10_rule_70 : decode cX10_rule 70 = .ok (.putfield 123, 3) := dec_of t_X10_rule_ok 35 rfl
theorem dX10_rule_73 : decode cX10_rule 73 = .ok (.aload_n 0, 1) := dec_of t_X10_rule_ok 36 rfl
theorem dX10_rule_74 : decode cX10_rule 74 = .ok (.getfield 123, 3) := dec_of t_X10_rule_ok 37 rfl
theorem dX10_rule_77 : decode cX10_rule 77 = .ok (.ifCond .le 5, 3) := dec_of t_X10_rule_ok 38 rfl
theorem dX10_rule_80 : decode cX10_rule 80 = .ok (.iconst 0, 1) := dec_of t_X10_rule_ok 39 rfl
theorem dX10_rule_81 : decode cX10_rule 81 = .ok (.ireturn, 1) := dec_of t_X10_rule_ok 40 rfl
theorem dX10_rule_82 : decode cX10_rule 82 = .ok (.aload_n 0, 1) := dec_of t_X10_rule_ok 41 rfl
theorem dX10_rule_83 : decode cX10_rule 83 = .ok (.getfield 32, 3) := dec_of t_X10_rule_ok 42 rfl
theorem dX10_rule_86 : decode cX10_rule 86 = .ok (.aload_n 0, 1) := dec_of t_X10_rule_ok 43 rfl
theorem dX10_rule_87 : decode cX10_rule 87 = .ok (.getfield 135, 3) := dec_of t_X10_rule_ok 44 rfl
theorem dX10_rule_90 : decode cX10_rule 90 = .ok (.iload_n 1, 1) := dec_of t_X10_rule_ok 45 rfl
theorem dX10_rule_91 : decode cX10_rule 91 = .ok (.castore, 1) := dec_of t_X10_rule_ok 46 rfl
theorem dX10_rule_92 : decode cX10_rule 92 = .ok (.aload_n 0, 1) := dec_of t_X10_rule_ok 47 rfl
theorem dX10_rule_93 : decode cX10_rule 93 = .ok (.getfield 35, 3) := dec_of t_X10_rule_ok 48 rfl
theorem dX10_rule_96 : decode cX10_rule 96 = .ok (.aload_n 0, 1) := dec_of t_X10_rule_ok 49 rfl
theorem dX10_rule_97 : decode cX10_rule 97 = .ok (.getfield 135, 3) := dec_of t_X10_rule_ok 50 rfl
theorem dX10_rule_100 : decode cX10_rule 100 = .ok (.iload_n 2, 1) := dec_of t_X10_rule_ok 51 rfl
theorem dX10_rule_101 : decode cX10_rule 101 = .ok (.bastore, 1) := dec_of t_X10_rule_ok 52 rfl
theorem dX10_rule_102 : decode cX10_rule 102 = .ok (.aload_n 0, 1) := dec_of t_X10_rule_ok 53 rfl
theorem dX10_rule_103 : decode cX10_rule 103 = .ok (.getfield 39, 3) := dec_of t_X10_rule_ok 54 rfl
theorem dX10_rule_106 : decode cX10_rule 106 = .ok (.aload_n 0, 1) := dec_of t_X10_rule_ok 55 rfl
theorem dX10_rule_107 : decode cX10_rule 107 = .ok (.getfield 135, 3) := dec_of t_X10_rule_ok 56 rfl
theorem dX10_rule_110 : decode cX10_rule 110 = .ok (.iload_n 3, 1) := dec_of t_X10_rule_ok 57 rfl
theorem dX10_rule_111 : decode cX10_rule 111 = .ok (.iastore, 1) := dec_of t_X10_rule_ok 58 rfl
theorem dX10_rule_112 : decode cX10_rule 112 = .ok (.aload_n 0, 1) := dec_of t_X10_rule_ok 59 rfl
theorem dX10_rule_113 : decode cX10_rule 113 = .ok (.dup, 1) := dec_of t_X10_rule_ok 60 rfl
theorem dX10_rule_114 : decode cX10_rule 114 = .ok (.getfield 135, 3) := dec_of t_X10_rule_ok 61 rfl
theorem dX10_rule_117 : decode cX10_rule 117 = .ok (.iconst 1, 1) := dec_of t_X10_rule_ok 62 rfl
theorem dX10_rule_118 : decode cX10_rule 118 = .ok (.iadd, 1) := dec_of t_X10_rule_ok 63 rfl
theorem dX10_rule_119 : decode cX10_rule 119 = .ok (.putfield 135, 3) := dec_of t_X10_rule_ok 64 rfl
theorem dX10_rule_122 : decode cX10_rule 122 = .ok (.aload_n 0, 1) := dec_of t_X10_rule_ok 65 rfl
theorem dX10_rule_123 : decode cX10_rule 123 = .ok (.iconst 0, 1) := dec_of t_X10_rule_ok 66 rfl
theorem dX10_rule_124 : decode cX10_rule 124 = .ok (.putfield 145, 3) := dec_of t_X10_rule_ok 67 rfl
theorem dX10_rule_127 : decode cX10_rule 127 = .ok (.aload_n 0, 1) := dec_of t_X10_rule_ok 68 rfl
theorem dX10_rule_128 : decode cX10_rule 128 = .ok (.invokevirtual 181, 3) := dec_of t_X10_rule_ok 69 rfl
theorem dX10_rule_131 : decode cX10_rule 131 = .ok (.aload_n 0, 1) := dec_of t_X10_rule_ok 70 rfl
theorem dX10_rule_132 : decode cX10_rule 132 = .ok (.getfield 135, 3) := dec_of t_X10_rule_ok 71 rfl
theorem dX10_rule_135 : decode cX10_rule 135 = .ok (.iconst 1, 1) := dec_of t_X10_rule_ok 72 rfl
theorem dX10_rule_136 : decode cX10_rule 136 = .ok (.isub, 1) := dec_of t_X10_rule_ok 73 rfl
theorem dX10_rule_137 : decode cX10_rule 137 = .ok (.ireturn, 1) := dec_of t_X10_rule_ok 74 rfl
def t_X10_suggest : List (Nat × Instr × Nat) := [(0, .aload_n 0, 1), (1, .iload_n 1, 1), (2, .invokevirtual 184, 3), (5, .ifCond .eq 5, 3), (8, .iconst 0, 1), (9, .ireturn, 1), (10, .aload_n 0, 1), (11, .getfield 145, 3), (14, .ifCond .le 7, 3), (17, .iconst 1, 1), (18, .goto 4, 3), (21, .iconst 0, 1), (22, .istore_n 2, 1), (23, .iconst 0, 1), (24, .istore_n 3, 1), (25, .iconst 0, 1), (26, .istore 4, 2), (28, .iload 4, 2), (30, .aload_n 0, 1), (31, .getfield 145, 3), (34, .if_icmp .ge 63, 3), (37, .iload_n 2, 1), (38, .ifCond .eq 31, 3), (41, .aload_n 0, 1), (42, .getfield 17, 3), (45, .iload 4, 2), (47, .caload, 1), (48, .bipush 35, 2), (50, .if_icmp .eq 19, 3), (53, .aload_n 0, 1), (54, .getfield 17, 3), (57, .iload 4, 2), (59, .caload, 1), (60, .bipush 45, 2), (62, .if_icmp .eq 7, 3), (65, .iconst 1, 1), (66, .goto 4, 3), (69, .iconst 0, 1), (70, .istore_n 2, 1), (71, .iload_n 3, 1), (72, .aload_n 0, 1), (73, .getfield 17, 3), (76, .iload 4, 2), (78, .caload, 1), (79, .bipush 42, 2), (81, .if_icmp .ne 7, 3), (84, .iconst 1, 1), (85, .goto 4, 3), (88, .iconst 0, 1), (89, .iadd, 1), (90, .istore_n 3, 1), (91, .iinc 4 1, 3), (94, .goto (-66), 3), (97, .aload_n 0, 1), (98, .iload_n 2, 1), (99, .ifCond .eq 8, 3), (102, .iload_n 3, 1), (103, .iconst 1, 1), (104, .if_icmp .le 7, 3), (107, .iconst 2, 1), (108, .goto 18, 3), (111, .aload_n 0, 1), (112, .getfield 51, 3), (115, .iload_n 1, 1), (116, .iaload, 1), (117, .iconst 2, 1), (118, .if_icmp .ne 7, 3), (121, .iconst 3, 1), (122, .goto 4, 3), (125, .iconst 0, 1), (126, .putfield 123, 3), (129, .aload_n 0, 1), (130, .getfield 123, 3), (133, .ifCond .le 5, 3), (136, .iconst 0, 1), (137, .ireturn, 1), (138, .iload_n 1, 1), (139, .iconst 2, 1), (140, .imul, 1), (141, .aload_n 0, 1), (142, .getfield 51, 3), (145, .iload_n 1, 1), (146, .iaload, 1), (147, .iadd, 1), (148, .istore 4, 2), (150, .iconst 0, 1), (151, .istore 5, 2), (153, .iload 5, 2), (155, .aload_n 0, 1), (156, .getfield 145, 3), (159, .if_icmp .ge 29, 3), (162, .aload_n 0, 1), (163, .getfield 54, 3), (166, .iload 4, 2), (168, .bipush 20, 2), (170, .imul, 1), (171, .iload 5, 2), (173, .iadd, 1), (174, .aload_n 0, 1), (175, .getfield 17, 3), (178, .iload 5, 2), (180, .caload, 1), (181, .castore, 1), (182, .iinc 5 1, 3), (185, .goto (-32), 3), (188, .aload_n 0, 1), (189, .getfield 57, 3), (192, .iload 4, 2), (194, .aload_n 0, 1), (195, .getfield 145, 3), (198, .iastore, 1), (199, .aload_n 0, 1), (200, .getfield 51, 3), (203, .iload_n 1, 1), (204, .dup2, 1), (205, .iaload, 1), (206, .iconst 1, 1), (207, .iadd, 1), (208, .iastore, 1), (209, .aload_n 0, 1), (210, .iconst 0, 1), (211, .putfield 145, 3), (214, .aload_n 0, 1), (215, .invokevirtual 181, 3), (218, .aload_n 0, 1), (219, .getfield 51, 3), (222, .iload_n 1, 1), (223, .iaload, 1), (224, .ireturn, 1)]
theorem t_X10_suggest_ok : dec_ok cX10_suggest t_X10_suggest = true := by decide +kernel
theorem dX10_suggest_0 : decode cX10_suggest 0 = .ok (.aload_n 0, 1) := dec_of t_X10_suggest_ok 0 rfl
theorem dX10_suggest_1 : decode cX10_suggest 1 = .ok (.iload_n 1, 1) := dec_of t_X10_suggest_ok 1 rfl
theorem dX10_suggest_2 : decode cX10_suggest 2 = .ok (.invokevirtual 184, 3) := dec_of t_X10_suggest_ok 2 rfl
theorem dX10_suggest_5 : decode cX10_suggest 5 = .ok (.ifCond .eq 5, 3) := dec_of t_X10_suggest_ok 3 rfl
theorem dX10_suggest_8 : decode cX10_suggest 8 = .ok (.iconst 0, 1) := dec_of t_X10_suggest_ok 4 rfl
theorem dX10_suggest_9 : decode cX10_suggest 9 = .ok (.ireturn, 1) := dec_of t_X10_suggest_ok 5 rfl
theorem dX10_suggest_10 : decode cX10_suggest 10 = .ok (.aload_n 0, 1) := dec_of t_X10_suggest_ok 6 rfl
theorem dX10_suggest_11 : decode cX10_suggest 11 = .ok (.getfield 145, 3) := dec_of t_X10_suggest_ok 7 rfl
theorem dX10_suggest_14 : decode cX10_suggest 14 = .ok (.ifCond .le 7, 3) := dec_of t_X10_suggest_ok 8 rfl
theorem dX10_suggest_17 : decode cX10_suggest 17 = .ok (.iconst 1, 1) := dec_of t_X10_suggest_ok 9 rfl
theorem dX10_suggest_18 : decode cX10_suggest 18 = .ok (.goto 4, 3) := dec_of t_X10_suggest_ok 10 rfl
theorem dX10_suggest_21 : decode cX10_suggest 21 = .ok (.iconst 0, 1) := dec_of t_X10_suggest_ok 11 rfl
theorem dX10_suggest_22 : decode cX10_suggest 22 = .ok (.istore_n 2, 1) := dec_of t_X10_suggest_ok 12 rfl
theorem dX10_suggest_23 : decode cX10_suggest 23 = .ok (.iconst 0, 1) := dec_of t_X10_suggest_ok 13 rfl
theorem dX10_suggest_24 : decode cX10_suggest 24 = .ok (.istore_n 3, 1) := dec_of t_X10_suggest_ok 14 rfl
theorem dX10_suggest_25 : decode cX10_suggest 25 = .ok (.iconst 0, 1) := dec_of t_X10_suggest_ok 15 rfl
theorem dX10_suggest_26 : decode cX10_suggest 26 = .ok (.istore 4, 2) := dec_of t_X10_suggest_ok 16 rfl
theorem dX10_suggest_28 : decode cX10_suggest 28 = .ok (.iload 4, 2) := dec_of t_X10_suggest_ok 17 rfl
theorem dX10_suggest_30 : decode cX10_suggest 30 = .ok (.aload_n 0, 1) := dec_of t_X10_suggest_ok 18 rfl
theorem dX10_suggest_31 : decode cX10_suggest 31 = .ok (.getfield 145, 3) := dec_of t_X10_suggest_ok 19 rfl
theorem dX10_suggest_34 : decode cX10_suggest 34 = .ok (.if_icmp .ge 63, 3) := dec_of t_X10_suggest_ok 20 rfl
theorem dX10_suggest_37 : decode cX10_suggest 37 = .ok (.iload_n 2, 1) := dec_of t_X10_suggest_ok 21 rfl
theorem dX10_suggest_38 : decode cX10_suggest 38 = .ok (.ifCond .eq 31, 3) := dec_of t_X10_suggest_ok 22 rfl
theorem dX10_suggest_41 : decode cX10_suggest 41 = .ok (.aload_n 0, 1) := dec_of t_X10_suggest_ok 23 rfl
theorem dX10_suggest_42 : decode cX10_suggest 42 = .ok (.getfield 17, 3) := dec_of t_X10_suggest_ok 24 rfl
theorem dX10_suggest_45 : decode cX10_suggest 45 = .ok (.iload 4, 2) := dec_of t_X10_suggest_ok 25 rfl
theorem dX10_suggest_47 : decode cX10_suggest 47 = .ok (.caload, 1) := dec_of t_X10_suggest_ok 26 rfl
theorem dX10_suggest_48 : decode cX10_suggest 48 = .ok (.bipush 35, 2) := dec_of t_X10_suggest_ok 27 rfl
theorem dX10_suggest_50 : decode cX10_suggest 50 = .ok (.if_icmp .eq 19, 3) := dec_of t_X10_suggest_ok 28 rfl
theorem dX10_suggest_53 : decode cX10_suggest 53 = .ok (.aload_n 0, 1) := dec_of t_X10_suggest_ok 29 rfl
theorem dX10_suggest_54 : decode cX10_suggest 54 = .ok (.getfield 17, 3) := dec_of t_X10_suggest_ok 30 rfl
theorem dX10_suggest_57 : decode cX10_suggest 57 = .ok (.iload 4, 2) := dec_of t_X10_suggest_ok 31 rfl
theorem dX10_suggest_59 : decode cX10_suggest 59 = .ok (.caload, 1) := dec_of t_X10_suggest_ok 32 rfl
theorem dX10_suggest_60 : decode cX10_suggest 60 = .ok (.bipush 45, 2) := dec_of t_X10_suggest_ok 33 rfl
theorem dX10_suggest_62 : decode cX10_suggest 62 = .ok (.if_icmp .eq 7, 3) := dec_of t_X10_suggest_ok 34 rfl
theorem dX10_suggest_65 : decode cX10_suggest 65 = .ok (.iconst 1, 1) := dec_of t_X10_suggest_ok 35 rfl
theorem dX10_suggest_66 : decode cX10_suggest 66 = .ok (.goto 4, 3) := dec_of t_X10_suggest_ok 36 rfl
theorem dX10_suggest_69 : decode cX10_suggest 69 = .ok (.iconst 0, 1) := dec_of t_X10_suggest_ok 37 rfl
theorem dX10_suggest_70 : decode cX10_suggest 70 = .ok (.istore_n 2, 1) := dec_of t_X10_suggest_ok 38 rfl
theorem dX10_suggest_71 : decode cX10_suggest 71 = .ok (.iload_n 3, 1) := dec_of t_X10_suggest_ok 39 rfl
theorem dX10_suggest_72 : decode cX10_suggest 72 = .ok (.aload_n 0, 1) := dec_of t_X10_suggest_ok 40 rfl
theorem dX10_suggest_73 : decode cX10_suggest 73 = .ok (.getfield 17, 3) := dec_of t_X10_suggest_ok 41 rfl
theorem dX10_suggest_76 : decode cX10_suggest 76 = .ok (.iload 4, 2) := dec_of t_X10_suggest_ok 42 rfl
theorem dX10_suggest_78 : decode cX10_suggest 78 = .ok (.caload, 1) := dec_of t_X10_suggest_ok 43 rfl
theorem dX10_suggest_79 : decode cX10_suggest 79 = .ok (.bipush 42, 2) := dec_of t_X10_suggest_ok 44 rfl
theorem dX10_suggest_81 : decode cX10_suggest 81 = .ok (.if_icmp .ne 7, 3) := dec_of t_X10_suggest_ok 45 rfl
theorem dX10_suggest_84 : decode cX10_suggest 84 = .ok (.iconst 1, 1) := dec_of t_X10_suggest_ok 46 rfl
theorem dX10_suggest_85 : decode cX10_suggest 85 = .ok (.goto 4, 3) := dec_of t_X10_suggest_ok 47 rfl
theorem dX10_suggest_88 : decode cX10_suggest 88 = .ok (.iconst 0, 1) := dec_of t_X10_suggest_ok 48 rfl
theorem dX10_suggest_89 : decode cX10_suggest 89 = .ok (.iadd, 1) := dec_of t_X10_suggest_ok 49 rfl
theorem dX10_suggest_90 : decode cX10_suggest 90 = .ok (.istore_n 3, 1) := dec_of t_X10_suggest_ok 50 rfl
theorem dX10_suggest_91 : decode cX10_suggest 91 = .ok (.iinc 4 1, 3) := dec_of t_X10_suggest_ok 51 rfl
theorem dX10_suggest_94 : decode cX10_suggest 94 = .ok (.goto (-66), 3) := dec_of t_X10_suggest_ok 52 rfl
theorem dX10_suggest_97 : decode cX10_suggest 97 = .ok (.aload_n 0, 1) := dec_of t_X10_suggest_ok 53 rfl
theorem dX10_suggest_98 : decode cX10_suggest 98 = .ok (.iload_n 2, 1) := dec_of t_X10_suggest_ok 54 rfl
theorem dX10_suggest_99 : decode cX10_suggest 99 = .ok (.ifCond .eq 8, 3) := dec_of t_X10_suggest_ok 55 rfl
theorem dX10_suggest_102 : decode cX10_suggest 102 = .ok (.iload_n 3, 1) := dec_of t_X10_suggest_ok 56 rfl
theorem dX10_suggest_103 : decode cX10_suggest 103 = .ok (.iconst 1, 1) := dec_of t_X10_suggest_ok 57 rfl
theorem dX10_suggest_104 : decode cX10_suggest 104 = .ok (.if_icmp .le 7, 3) := dec_of t_X10_suggest_ok 58 rfl
theorem dX10_suggest_107 : decode cX10_suggest 107 = .ok (.iconst 2, 1) := dec_of t_X10_suggest_ok 59 rfl
theorem dX10_suggest_108 : decode cX10_suggest 108 = .ok (.goto 18, 3) := dec_of t_X10_suggest_ok 60 rfl
theorem dX10_suggest_111 : decode cX10_suggest 111 = .ok (.aload_n 0, 1) := dec_of t_X10_suggest_ok 61 rfl
theorem dX10_suggest_112 : decode cX10_suggest 112 = .ok (.getfield 51, 3) := dec_of t_X10_suggest_ok 62 rfl
theorem dX10_suggest_115 : decode cX10_suggest 115 = .ok (.iload_n 1, 1) := dec_of t_X10_suggest_ok 63 rfl
theorem dX10_suggest_116 : decode cX10_suggest 116 = .ok (.iaload, 1) := dec_of t_X10_suggest_ok 64 rfl
theorem dX10_suggest_117 : decode cX10_suggest 117 = .ok (.iconst 2, 1) := dec_of t_X10_suggest_ok 65 rfl
theorem dX10_suggest_118 : decode cX10_suggest 118 = .ok (.if_icmp .ne 7, 3) := dec_of t_X10_suggest_ok 66 rfl
theorem dX10_suggest_121 : decode cX10_suggest 121 = .ok (.iconst 3, 1) := dec_of t_X10_suggest_ok 67 rfl
theorem dX10_suggest_122 : decode cX10_suggest 122 = .ok (.goto 4, 3) := dec_of t_X10_suggest_ok 68 rfl
theorem dX10_suggest_125 : decode cX10_suggest 125 = .ok (.iconst 0, 1) := dec_of t_X10_suggest_ok 69 rfl
theorem dX10_suggest_126 : decode cX10_suggest 126 = .ok (.putfield 123, 3) := dec_of t_X10_suggest_ok 70 rfl
theorem dX10_suggest_129 : decode cX10_suggest 129 = .ok (.aload_n 0, 1) := dec_of t_X10_suggest_ok 71 rfl
theorem dX10_suggest_130 : decode cX10_suggest 130 = .ok (.getfield 123, 3) := dec_of t_X10_suggest_ok 72 rfl
theorem dX10_suggest_133 : decode cX10_suggest 133 = .ok (.ifCond .le 5, 3) := dec_of t_X10_suggest_ok 73 rfl
theorem dX10_suggest_136 : decode cX10_suggest 136 = .ok (.iconst 0, 1) := dec_of t_X10_suggest_ok 74 rfl
theorem dX10_suggest_137 : decode cX10_suggest 137 = .ok (.ireturn, 1) := dec_of t_X10_suggest_ok 75 rfl
theorem dX10_suggest_138 : decode cX10_suggest 138 = .ok (.iload_n 1, 1) := dec_of t_X10_suggest_ok 76 rfl
theorem dX10_suggest_139 : decode cX10_suggest 139 = .ok (.iconst 2, 1) := dec_of t_X10_suggest_ok 77 rfl
theorem dX10_suggest_140 : decode cX10_suggest 140 = .ok (.imul, 1) := dec_of t_X10_suggest_ok 78 rfl
theorem dX10_suggest_141 : decode cX10_suggest 141 = .ok (.aload_n 0, 1) := dec_of t_X10_suggest_ok 79 rfl
theorem dX10_suggest_142 : decode cX10_suggest 142 = .ok (.getfield 51, 3) := dec_of t_X10_suggest_ok 80 rfl
theorem dX10_suggest_145 : decode cX10_suggest 145 = .ok (.iload_n 1, 1) := dec_of t_X10_suggest_ok 81 rfl
theorem dX10_suggest_146 : decode cX10_suggest 146 = .ok (.iaload, 1) := dec_of t_X10_suggest_ok 82 rfl
theorem dX10_suggest_147 : decode cX10_suggest 147 = .ok (.iadd, 1) := dec_of t_X10_suggest_ok 83 rfl
theorem dX10_suggest_148 : decode cX10_suggest 148 = .ok (.istore 4, 2) := dec_of t_X10_suggest_ok 84 rfl
theorem dX10_suggest_150 : decode cX10_suggest 150 = .ok (.iconst 0, 1) := dec_of t_X10_suggest_ok 85 rfl
theorem dX10_suggest_151 : decode cX10_suggest 151 = .ok (.istore 5, 2) := dec_of t_X10_suggest_ok 86 rfl
theorem dX10_suggest_153 : decode cX10_suggest 153 = .ok (.iload 5, 2) := dec_of t_X10_suggest_ok 87 rfl
theorem dX10_suggest_155 : decode cX10_suggest 155 = .ok (.aload_n 0, 1) := dec_of t_X10_suggest_ok 88 rfl
theorem dX10_suggest_156 : decode cX10_suggest 156 = .ok (.getfield 145, 3) := dec_of t_X10_suggest_ok 89 rfl
theorem dX10_suggest_159 : decode cX10_suggest 159 = .ok (.if_icmp .ge 29, 3) := dec_of t_X10_suggest_ok 90 rfl
theorem dX10_suggest_162 : decode cX10_suggest 162 = .ok (.aload_n 0, 1) := dec_of t_X10_suggest_ok 91 rfl
theorem dX10_suggest_163 : decode cX10_suggest 163 = .ok (.getfield 54, 3) := dec_of t_X10_suggest_ok 92 rfl
theorem dX10_suggest_166 : decode cX10_suggest 166 = .ok (.iload 4, 2) := dec_of t_X10_suggest_ok 93 rfl
theorem dX10_suggest_168 : decode cX10_suggest 168 = .ok (.bipush 20, 2) := dec_of t_X10_suggest_ok 94 rfl
theorem dX10_suggest_170 : decode cX10_suggest 170 = .ok (.imul, 1) := dec_of t_X10_suggest_ok 95 rfl
theorem dX10_suggest_171 : decode cX10_suggest 171 = .ok (.iload 5, 2) := dec_of t_X10_suggest_ok 96 rfl
theorem dX10_suggest_173 : decode cX10_suggest 173 = .ok (.iadd, 1) := dec_of t_X10_suggest_ok 97 rfl
theorem dX10_suggest_174 : decode cX10_suggest 174 = .ok (.aload_n 0, 1) := dec_of t_X10_suggest_ok 98 rfl
theorem dX10_suggest_175 : decode cX10_suggest 175 = .ok (.getfield 17, 3) := dec_of t_X10_suggest_ok 99 rfl
theorem dX10_suggest_178 : decode cX10_suggest 178 = .ok (.iload 5, 2) := dec_of t_X10_suggest_ok 100 rfl
theorem dX10_suggest_180 : decode cX10_suggest 180 = .ok (.caload, 1) := dec_of t_X10_suggest_ok 101 rfl
theorem dX10_suggest_181 : decode cX10_suggest 181 = .ok (.castore, 1) := dec_of t_X10_suggest_ok 102 rfl
theorem dX10_suggest_182 : decode cX10_suggest 182 = .ok (.iinc 5 1, 3) := dec_of t_X10_suggest_ok 103 rfl
theorem dX10_suggest_185 : decode cX10_suggest 185 = .ok (.goto (-32), 3) := dec_of t_X10_suggest_ok 104 rfl
theorem dX10_suggest_188 : decode cX10_suggest 188 = .ok (.aload_n 0, 1) := dec_of t_X10_suggest_ok 105 rfl
theorem dX10_suggest_189 : decode cX10_suggest 189 = .ok (.getfield 57, 3) := dec_of t_X10_suggest_ok 106 rfl
theorem dX10_suggest_192 : decode cX10_suggest 192 = .ok (.iload 4, 2) := dec_of t_X10_suggest_ok 107 rfl
theorem dX10_suggest_194 : decode cX10_suggest 194 = .ok (.aload_n 0, 1) := dec_of t_X10_suggest_ok 108 rfl
theorem dX10_suggest_195 : decode cX10_suggest 195 = .ok (.getfield 145, 3) := dec_of t_X10_suggest_ok 109 rfl
theorem dX10_suggest_198 : decode cX10_suggest 198 = .ok (.iastore, 1) := dec_of t_X10_suggest_ok 110 rfl
theorem dX10_suggest_199 : decode cX10_suggest 199 = .ok (.aload_n 0, 1) := dec_of t_X10_suggest_ok 111 rfl
theorem dX10_suggest_200 : decode cX10_suggest 200 = .ok (.getfield 51, 3) := dec_of t_X10_suggest_ok 112 rfl
theorem dX10_suggest_203 : decode cX10_suggest 203 = .ok (.iload_n 1, 1) := dec_of t_X10_suggest_ok 113 rfl
theorem dX10_suggest_204 : decode cX10_suggest 204 = .ok (.dup2, 1) := dec_of t_X10_suggest_ok 114 rfl
theorem dX10_suggest_205 : decode cX10_suggest 205 = .ok (.iaload, 1) := dec_of t_X10_suggest_ok 115 rfl
theorem dX10_suggest_206 : decode cX10_suggest 206 = .ok (.iconst 1, 1) := dec_of t_X10_suggest_ok 116 rfl
theorem dX10_suggest_207 : decode cX10_suggest 207 = .ok (.iadd, 1) := dec_of t_X10_suggest_ok 117 rfl
theorem dX10_suggest_208 : decode cX10_suggest 208 = .ok (.iastore, 1) := dec_of t_X10_suggest_ok 118 rfl
theorem dX10_suggest_209 : decode cX10_suggest 209 = .ok (.aload_n 0, 1) := dec_of t_X10_suggest_ok 119 rfl
theorem dX10_suggest_210 : decode cX10_suggest 210 = .ok (.iconst 0, 1) := dec_of t_X10_suggest_ok 120 rfl
theorem dX10_suggest_211 : decode cX10_suggest 211 = .ok (.putfield 145, 3) := dec_of t_X10_suggest_ok 121 rfl
theorem dX10_suggest_214 : decode cX10_suggest 214 = .ok (.aload_n 0, 1) := dec_of t_X10_suggest_ok 122 rfl
theorem dX10_suggest_215 : decode cX10_suggest 215 = .ok (.invokevirtual 181, 3) := dec_of t_X10_suggest_ok 123 rfl
theorem dX10_suggest_218 : decode cX10_suggest 218 = .ok (.aload_n 0, 1) := dec_of t_X10_suggest_ok 124 rfl
theorem dX10_suggest_219 : decode cX10_suggest 219 = .ok (.getfield 51, 3) := dec_of t_X10_suggest_ok 125 rfl
theorem dX10_suggest_222 : decode cX10_suggest 222 = .ok (.iload_n 1, 1) := dec_of t_X10_suggest_ok 126 rfl
theorem dX10_suggest_223 : decode cX10_suggest 223 = .ok (.iaload, 1) := dec_of t_X10_suggest_ok 127 rfl
theorem dX10_suggest_224 : decode cX10_suggest 224 = .ok (.ireturn, 1) := dec_of t_X10_suggest_ok 128 rfl
def t_X10_pair : List (Nat × Instr × Nat) := [(0, .aload_n 0, 1), (1, .iconst 0, 1), (2, .invokevirtual 174, 3), (5, .istore_n 1, 1), (6, .iload_n 1, 1), (7, .aload_n 0, 1), (8, .getfield 145, 3), (11, .if_icmp .ge 24, 3), (14, .aload_n 0, 1), (15, .getfield 17, 3), (18, .iload_n 1, 1), (19, .caload, 1), (20, .bipush 32, 2), (22, .if_icmp .ne 13, 3), (25, .aload_n 0, 1), (26, .iload_n 1, 1), (27, .iconst 1, 1), (28, .iadd, 1), (29, .invokevirtual 174, 3), (32, .goto 4, 3), (35, .iconst 0, 1), (36, .istore_n 2, 1), (37, .iload_n 1, 1), (38, .ifCond .le 23, 3), (41, .iload_n 2, 1), (42, .ifCond .le 19, 3), (45, .iload_n 1, 1), (46, .iconst 1, 1), (47, .iadd, 1), (48, .iload_n 2, 1), (49, .iadd, 1), (50, .aload_n 0, 1), (51, .getfield 145, 3), (54, .if_icmp .ne 7, 3), (57, .iconst 1, 1), (58, .goto 4, 3), (61, .iconst 0, 1), (62, .istore_n 3, 1), (63, .iload_n 1, 1), (64, .iload_n 2, 1), (65, .if_icmp .ne 7, 3), (68, .iconst 1, 1), (69, .goto 4, 3), (72, .iconst 0, 1), (73, .istore 4, 2), (75, .iconst 0, 1), (76, .istore 5, 2), (78, .iload 5, 2), (80, .iload_n 1, 1), (81, .if_icmp .ge 42, 3), (84, .iload 4, 2), (86, .ifCond .eq 37, 3), (89, .aload_n 0, 1), (90, .getfield 17, 3), (93, .iload 5, 2), (95, .caload, 1), (96, .aload_n 0, 1), (97, .getfield 17, 3), (100, .iload_n 1, 1), (101, .iconst 1, 1), (102, .iadd, 1), (103, .iload 5, 2), (105, .iadd, 1), (106, .caload, 1), (107, .if_icmp .ne 7, 3), (110, .iconst 1, 1), (111, .goto 4, 3), (114, .iconst 0, 1), (115, .istore 4, 2), (117, .iinc 5 1, 3), (120, .goto (-42), 3), (123, .aload_n 0, 1), (124, .iload_n 3, 1), (125, .ifCond .eq 8, 3), (128, .iload 4, 2), (130, .ifCond .eq 7, 3), (133, .iconst 1, 1), (134, .goto 16, 3), (137, .aload_n 0, 1), (138, .getfield 187, 3), (141, .iconst 4, 1), (142, .if_icmp .ne 7, 3), (145, .iconst 2, 1), (146, .goto 4, 3), (149, .iconst 0, 1), (150, .putfield 123, 3), (153, .aload_n 0, 1), (154, .getfield 123, 3), (157, .ifCond .le 5, 3), (160, .iconst 0, 1), (161, .ireturn, 1), (162, .iconst 0, 1), (163, .istore 5, 2), (165, .iload 5, 2), (167, .iload_n 1, 1), (168, .if_icmp .ge 33, 3), (171, .aload_n 0, 1), (172, .getfield 60, 3), (175, .iconst 2, 1), (176, .aload_n 0, 1), (177, .getfield 187, 3), (180, .imul, 1), (181, .bipush 20, 2), (183, .imul, 1), (184, .iload 5, 2), (186, .iadd, 1), (187, .aload_n 0, 1), (188, .getfield 17, 3), (191, .iload 5, 2), (193, .caload, 1), (194, .castore, 1), (195, .iinc 5 1, 3), (198, .goto (-33), 3), (201, .iconst 0, 1), (202, .istore 5, 2), (204, .iload 5, 2), (206, .iload_n 2, 1), (207, .if_icmp .ge 39, 3), (210, .aload_n 0, 1), (211, .getfield 60, 3), (214, .iconst 2, 1), (215, .aload_n 0, 1), (216, .getfield 187, 3), (219, .imul, 1), (220, .iconst 1, 1), (221, .iadd, 1), (222, .bipush 20, 2), (224, .imul, 1), (225, .iload 5, 2), (227, .iadd, 1), (228, .aload_n 0, 1), (229, .getfield 17, 3), (232, .iload_n 1, 1), (233, .iconst 1, 1), (234, .iadd, 1), (235, .iload 5, 2), (237, .iadd, 1), (238, .caload, 1), (239, .castore, 1), (240, .iinc 5 1, 3), (243, .goto (-39), 3), (246, .aload_n 0, 1), (247, .getfield 63, 3), (250, .iconst 2, 1), (251, .aload_n 0, 1), (252, .getfield 187, 3), (255, .imul, 1), (256, .iload_n 1, 1), (257, .iastore, 1), (258, .aload_n 0, 1), (259, .getfield 63, 3), (262, .iconst 2, 1), (263, .aload_n 0, 1), (264, .getfield 187, 3), (267, .imul, 1), (268, .iconst 1, 1), (269, .iadd, 1), (270, .iload_n 2, 1), (271, .iastore, 1), (272, .aload_n 0, 1), (273, .dup, 1), (274, .getfield 187, 3), (277, .iconst 1, 1), (278, .iadd, 1), (279, .putfield 187, 3), (282, .aload_n 0, 1), (283, .iconst 0, 1), (284, .putfield 145, 3), (287, .aload_n 0, 1), (288, .invokevirtual 181, 3), (291, .aload_n 0, 1), (292, .getfield 187, 3), (295, .iconst 1, 1), (296, .isub, 1), (297, .ireturn, 1)]
theorem t_X10_pair_ok : dec_ok cX10_pair t_X10_pair = true := by decide +kernel
theorem dX10_pair_0 : decode cX10_pair 0 = .ok (.aload_n 0, 1) := dec_of t_X10_pair_ok 0 rfl
theorem dX10_pair_1 : decode cX10_pair 1 = .ok (.iconst 0, 1) := dec_of t_X10_pair_ok 1 rfl
theorem dX10_pair_2 : decode cX10_pair 2 = .ok (.invokevirtual 174, 3) := dec_of t_X10_pair_ok 2 rfl
theorem dX10_pair_5 : decode cX10_pair 5 = .ok (.istore_n 1, 1) := dec_of t_X10_pair_ok 3 rfl
theorem dX10_pair_6 : decode cX10_pair 6 = .ok (.iload_n 1, 1) := dec_of t_X10_pair_ok 4 rfl
theorem dX10_pair_7 : decode cX10_pair 7 = .ok (.aload_n 0, 1) := dec_of t_X10_pair_ok 5 rfl
theorem dX10_pair_8 : decode cX10_pair 8 = .ok (.getfield 145, 3) := dec_of t_X10_pair_ok 6 rfl
theorem dX10_pair_11 : decode cX10_pair 11 = .ok (.if_icmp .ge 24, 3) := dec_of t_X10_pair_ok 7 rfl
theorem dX10_pair_14 : decode cX10_pair 14 = .ok (.aload_n 0, 1) := dec_of t_X10_pair_ok 8 rfl
theorem dX10_pair_15 : decode cX10_pair 15 = .ok (.getfield 17, 3) := dec_of t_X10_pair_ok 9 rfl
theorem dX10_pair_18 : decode cX10_pair 18 = .ok (.iload_n 1, 1) := dec_of t_X10_pair_ok 10 rfl
theorem dX10_pair_19 : decode cX10_pair 19 = .ok (.caload, 1) := dec_of t_X10_pair_ok 11 rfl
theorem dX10_pair_20 : decode cX10_pair 20 = .ok (.bipush 32, 2) := dec_of t_X10_pair_ok 12 rfl
theorem dX10_pair_22 : decode cX10_pair 22 = .ok (.if_icmp .ne 13, 3) := dec_of t_X10_pair_ok 13 rfl
theorem dX10_pair_25 : decode cX10_pair 25 = .ok (.aload_n 0, 1) := dec_of t_X10_pair_ok 14 rfl
theorem dX10_pair_26 : decode cX10_pair 26 = .ok (.iload_n 1, 1) := dec_of t_X10_pair_ok 15 rfl
theorem dX10_pair_27 : decode cX10_pair 27 = .ok (.iconst 1, 1) := dec_of t_X10_pair_ok 16 rfl
theorem dX10_pair_28 : decode cX10_pair 28 = .ok (.iadd, 1) := dec_of t_X10_pair_ok 17 rfl
theorem dX10_pair_29 : decode cX10_pair 29 = .ok (.invokevirtual 174, 3) := dec_of t_X10_pair_ok 18 rfl
theorem dX10_pair_32 : decode cX10_pair 32 = .ok (.goto 4, 3) := dec_of t_X10_pair_ok 19 rfl
theorem dX10_pair_35 : decode cX10_pair 35 = .ok (.iconst 0, 1) := dec_of t_X10_pair_ok 20 rfl
theorem dX10_pair_36 : decode cX10_pair 36 = .ok (.istore_n 2, 1) := dec_of t_X10_pair_ok 21 rfl
theorem dX10_pair_37 : decode cX10_pair 37 = .ok (.iload_n 1, 1) := dec_of t_X10_pair_ok 22 rfl
theorem dX10_pair_38 : decode cX10_pair 38 = .ok (.ifCond .le 23, 3) := dec_of t_X10_pair_ok 23 rfl
theorem dX10_pair_41 : decode cX10_pair 41 = .ok (.iload_n 2, 1) := dec_of t_X10_pair_ok 24 rfl
theorem dX10_pair_42 : decode cX10_pair 42 = .ok (.ifCond .le 19, 3) := dec_of t_X10_pair_ok 25 rfl
theorem dX10_pair_45 : decode cX10_pair 45 = .ok (.iload_n 1, 1) := dec_of t_X10_pair_ok 26 rfl
theorem dX10_pair_46 : decode cX10_pair 46 = .ok (.iconst 1, 1) := dec_of t_X10_pair_ok 27 rfl
theorem dX10_pair_47 : decode cX10_pair 47 = .ok (.iadd, 1) := dec_of t_X10_pair_ok 28 rfl
theorem dX10_pair_48 : decode cX10_pair 48 = .ok (.iload_n 2, 1) := dec_of t_X10_pair_ok 29 rfl
theorem dX10_pair_49 : decode cX10_pair 49 = .ok (.iadd, 1) := dec_of t_X10_pair_ok 30 rfl
theorem dX10_pair_50 : decode cX10_pair 50 = .ok (.aload_n 0, 1) := dec_of t_X10_pair_ok 31 rfl
theorem dX10_pair_51 : decode cX10_pair 51 = .ok (.getfield 145, 3) := dec_of t_X10_pair_ok 32 rfl
theorem dX10_pair_54 : decode cX10_pair 54 = .ok (.if_icmp .ne 7, 3) := dec_of t_X10_pair_ok 33 rfl
theorem dX10_pair_57 : decode cX10_pair 57 = .ok (.iconst 1, 1) := dec_of t_X10_pair_ok 34 rfl
theorem dX10_pair_58 : decode cX10_pair 58 = .ok (.goto 4, 3) := dec_of t_X10_pair_ok 35 rfl
theorem dX10_pair_61 : decode cX10_pair 61 = .ok (.iconst 0, 1) := dec_of t_X10_pair_ok 36 rfl
theorem dX10_pair_62 : decode cX10_pair 62 = .ok (.istore_n 3, 1) := dec_of t_X10_pair_ok 37 rfl
theorem dX10_pair_63 : decode cX10_pair 63 = .ok (.iload_n 1, 1) := dec_of t_X10_pair_ok 38 rfl
theorem dX10_pair_64 : decode cX10_pair 64 = .ok (.iload_n 2, 1) := dec_of t_X10_pair_ok 39 rfl
theorem dX10_pair_65 : decode cX10_pair 65 = .ok (.if_icmp .ne 7, 3) := dec_of t_X10_pair_ok 40 rfl
theorem dX10_pair_68 : decode cX10_pair 68 = .ok (.iconst 1, 1) := dec_of t_X10_pair_ok 41 rfl
theorem dX10_pair_69 : decode cX10_pair 69 = .ok (.goto 4, 3) := dec_of t_X10_pair_ok 42 rfl
theorem dX10_pair_72 : decode cX10_pair 72 = .ok (.iconst 0, 1) := dec_of t_X10_pair_ok 43 rfl
theorem dX10_pair_73 : decode cX10_pair 73 = .ok (.istore 4, 2) := dec_of t_X10_pair_ok 44 rfl
theorem dX10_pair_75 : decode cX10_pair 75 = .ok (.iconst 0, 1) := dec_of t_X10_pair_ok 45 rfl
theorem dX10_pair_76 : decode cX10_pair 76 = .ok (.istore 5, 2) := dec_of t_X10_pair_ok 46 rfl
theorem dX10_pair_78 : decode cX10_pair 78 = .ok (.iload 5, 2) := dec_of t_X10_pair_ok 47 rfl
theorem dX10_pair_80 : decode cX10_pair 80 = .ok (.iload_n 1, 1) := dec_of t_X10_pair_ok 48 rfl
theorem dX10_pair_81 : decode cX10_pair 81 = .ok (.if_icmp .ge 42, 3) := dec_of t_X10_pair_ok 49 rfl
theorem dX10_pair_84 : decode cX10_pair 84 = .ok (.iload 4, 2) := dec_of t_X10_pair_ok 50 rfl
theorem dX10_pair_86 : decode cX10_pair 86 = .ok (.ifCond .eq 37, 3) := dec_of t_X10_pair_ok 51 rfl
theorem dX10_pair_89 : decode cX10_pair 89 = .ok (.aload_n 0, 1) := dec_of t_X10_pair_ok 52 rfl
theorem dX10_pair_90 : decode cX10_pair 90 = .ok (.getfield 17, 3) := dec_of t_X10_pair_ok 53 rfl
theorem dX10_pair_93 : decode cX10_pair 93 = .ok (.iload 5, 2) := dec_of t_X10_pair_ok 54 rfl
theorem dX10_pair_95 : decode cX10_pair 95 = .ok (.caload, 1) := dec_of t_X10_pair_ok 55 rfl
theorem dX10_pair_96 : decode cX10_pair 96 = .ok (.aload_n 0, 1) := dec_of t_X10_pair_ok 56 rfl
theorem dX10_pair_97 : decode cX10_pair 97 = .ok (.getfield 17, 3) := dec_of t_X10_pair_ok 57 rfl
theorem dX10_pair_100 : decode cX10_pair 100 = .ok (.iload_n 1, 1) := dec_of t_X10_pair_ok 58 rfl
theorem dX10_pair_101 : decode cX10_pair 101 = .ok (.iconst 1, 1) := dec_of t_X10_pair_ok 59 rfl
theorem dX10_pair_102 : decode cX10_pair 102 = .ok (.iadd, 1) := dec_of t_X10_pair_ok 60 rfl
theorem dX10_pair_103 : decode cX10_pair 103 = .ok (.iload 5, 2) := dec_of t_X10_pair_ok 61 rfl
theorem dX10_pair_105 : decode cX10_pair 105 = .ok (.iadd, 1) := dec_of t_X10_pair_ok 62 rfl
theorem dX10_pair_106 : decode cX10_pair 106 = .ok (.caload, 1) := dec_of t_X10_pair_ok 63 rfl
theorem dX10_pair_107 : decode cX10_pair 107 = .ok (.if_icmp .ne 7, 3) := dec_of t_X10_pair_ok 64 rfl
theorem dX10_pair_110 : decode cX10_pair 110 = .ok (.iconst 1, 1) := dec_of t_X10_pair_ok 65 rfl
theorem dX10_pair_111 : decode cX10_pair 111 = .ok (.goto 4, 3) := dec_of t_X10_pair_ok 66 rfl
theorem dX10_pair_114 : decode cX10_pair 114 = .ok (.iconst 0, 1) := dec_of t_X10_pair_ok 67 rfl
theorem dX10_pair_115 : decode cX10_pair 115 = .ok (.istore 4, 2) := dec_of t_X10_pair_ok 68 rfl
theorem dX10_pair_117 : decode cX10_pair 117 = .ok (.iinc 5 1, 3) := dec_of t_X10_pair_ok 69 rfl
theorem dX10_pair_120 : decode cX10_pair 120 = .ok (.goto (-42), 3) := dec_of t_X10_pair_ok 70 rfl
theorem dX10_pair_123 : decode cX10_pair 123 = .ok (.aload_n 0, 1) := dec_of t_X10_pair_ok 71 rfl
theorem dX10_pair_124 : decode cX10_pair 124 = .ok (.iload_n 3, 1) := dec_of t_X10_pair_ok 72 rfl
theorem dX10_pair_125 : decode cX10_pair 125 = .ok (.ifCond .eq 8, 3) := dec_of t_X10_pair_ok 73 rfl
theorem dX10_pair_128 : decode cX10_pair 128 = .ok (.iload 4, 2) := dec_of t_X10_pair_ok 74 rfl
theorem dX10_pair_130 : decode cX10_pair 130 = .ok (.ifCond .eq 7, 3) := dec_of t_X10_pair_ok 75 rfl
theorem dX10_pair_133 : decode cX10_pair 133 = .ok (.iconst 1, 1) := dec_of t_X10_pair_ok 76 rfl
theorem dX10_pair_134 : decode cX10_pair 134 = .ok (.goto 16, 3) := dec_of t_X10_pair_ok 77 rfl
theorem dX10_pair_137 : decode cX10_pair 137 = .ok (.aload_n 0, 1) := dec_of t_X10_pair_ok 78 rfl
theorem dX10_pair_138 : decode cX10_pair 138 = .ok (.getfield 187, 3) := dec_of t_X10_pair_ok 79 rfl
theorem dX10_pair_141 : decode cX10_pair 141 = .ok (.iconst 4, 1) := dec_of t_X10_pair_ok 80 rfl
theorem dX10_pair_142 : decode cX10_pair 142 = .ok (.if_icmp .ne 7, 3) := dec_of t_X10_pair_ok 81 rfl
theorem dX10_pair_145 : decode cX10_pair 145 = .ok (.iconst 2, 1) := dec_of t_X10_pair_ok 82 rfl
theorem dX10_pair_146 : decode cX10_pair 146 = .ok (.goto 4, 3) := dec_of t_X10_pair_ok 83 rfl
theorem dX10_pair_149 : decode cX10_pair 149 = .ok (.iconst 0, 1) := dec_of t_X10_pair_ok 84 rfl
theorem dX10_pair_150 : decode cX10_pair 150 = .ok (.putfield 123, 3) := dec_of t_X10_pair_ok 85 rfl
theorem dX10_pair_153 : decode cX10_pair 153 = .ok (.aload_n 0, 1) := dec_of t_X10_pair_ok 86 rfl
theorem dX10_pair_154 : decode cX10_pair 154 = .ok (.getfield 123, 3) := dec_of t_X10_pair_ok 87 rfl
theorem dX10_pair_157 : decode cX10_pair 157 = .ok (.ifCond .le 5, 3) := dec_of t_X10_pair_ok 88 rfl
theorem dX10_pair_160 : decode cX10_pair 160 = .ok (.iconst 0, 1) := dec_of t_X10_pair_ok 89 rfl
theorem dX10_pair_161 : decode cX10_pair 161 = .ok (.ireturn, 1) := dec_of t_X10_pair_ok 90 rfl
theorem dX10_pair_162 : decode cX10_pair 162 = .ok (.iconst 0, 1) := dec_of t_X10_pair_ok 91 rfl
theorem dX10_pair_163 : decode cX10_pair 163 = .ok (.istore 5, 2) := dec_of t_X10_pair_ok 92 rfl
theorem dX10_pair_165 : decode cX10_pair 165 = .ok (.iload 5, 2) := dec_of t_X10_pair_ok 93 rfl
theorem dX10_pair_167 : decode cX10_pair 167 = .ok (.iload_n 1, 1) := dec_of t_X10_pair_ok 94 rfl
theorem dX10_pair_168 : decode cX10_pair 168 = .ok (.if_icmp .ge 33, 3) := dec_of t_X10_pair_ok 95 rfl
theorem dX10_pair_171 : decode cX10_pair 171 = .ok (.aload_n 0, 1) := dec_of t_X10_pair_ok 96 rfl
theorem dX10_pair_172 : decode cX10_pair 172 = .ok (.getfield 60, 3) := dec_of t_X10_pair_ok 97 rfl
theorem dX10_pair_175 : decode cX10_pair 175 = .ok (.iconst 2, 1) := dec_of t_X10_pair_ok 98 rfl
theorem dX10_pair_176 : decode cX10_pair 176 = .ok (.aload_n 0, 1) := dec_of t_X10_pair_ok 99 rfl
theorem dX10_pair_177 : decode cX10_pair 177 = .ok (.getfield 187, 3) := dec_of t_X10_pair_ok 100 rfl
theorem dX10_pair_180 : decode cX10_pair 180 = .ok (.imul, 1) := dec_of t_X10_pair_ok 101 rfl
theorem dX10_pair_181 : decode cX10_pair 181 = .ok (.bipush 20, 2) := dec_of t_X10_pair_ok 102 rfl
theorem dX10_pair_183 : decode cX10_pair 183 = .ok (.imul, 1) := dec_of t_X10_pair_ok 103 rfl
theorem dX10_pair_184 : decode cX10_pair 184 = .ok (.iload 5, 2) := dec_of t_X10_pair_ok 104 rfl
theorem dX10_pair_186 : decode cX10_pair 186 = .ok (.iadd, 1) := dec_of t_X10_pair_ok 105 rfl
theorem dX10_pair_187 : decode cX10_pair 187 = .ok (.aload_n 0, 1) := dec_of t_X10_pair_ok 106 rfl
theorem dX10_pair_188 : decode cX10_pair 188 = .ok (.getfield 17, 3) := dec_of t_X10_pair_ok 107 rfl
theorem dX10_pair_191 : decode cX10_pair 191 = .ok (.iload 5, 2) := dec_of t_X10_pair_ok 108 rfl
theorem dX10_pair_193 : decode cX10_pair 193 = .ok (.caload, 1) := dec_of t_X10_pair_ok 109 rfl
theorem dX10_pair_194 : decode cX10_pair 194 = .ok (.castore, 1) := dec_of t_X10_pair_ok 110 rfl
theorem dX10_pair_195 : decode cX10_pair 195 = .ok (.iinc 5 1, 3) := dec_of t_X10_pair_ok 111 rfl
theorem dX10_pair_198 : decode cX10_pair 198 = .ok (.goto (-33), 3) := dec_of t_X10_pair_ok 112 rfl
theorem dX10_pair_201 : decode cX10_pair 201 = .ok (.iconst 0, 1) := dec_of t_X10_pair_ok 113 rfl
theorem dX10_pair_202 : decode cX10_pair 202 = .ok (.istore 5, 2) := dec_of t_X10_pair_ok 114 rfl
theorem dX10_pair_204 : decode cX10_pair 204 = .ok (.iload 5, 2) := dec_of t_X10_pair_ok 115 rfl
theorem dX10_pair_206 : decode cX10_pair 206 = .ok (.iload_n 2, 1) := dec_of t_X10_pair_ok 116 rfl
theorem dX10_pair_207 : decode cX10_pair 207 = .ok (.if_icmp .ge 39, 3) := dec_of t_X10_pair_ok 117 rfl
theorem dX10_pair_210 : decode cX10_pair 210 = .ok (.aload_n 0, 1) := dec_of t_X10_pair_ok 118 rfl
theorem dX10_pair_211 : decode cX10_pair 211 = .ok (.getfield 60, 3) := dec_of t_X10_pair_ok 119 rfl
theorem dX10_pair_214 : decode cX10_pair 214 = .ok (.iconst 2, 1) := dec_of t_X10_pair_ok 120 rfl
theorem dX10_pair_215 : decode cX10_pair 215 = .ok (.aload_n 0, 1) := dec_of t_X10_pair_ok 121 rfl
theorem dX10_pair_216 : decode cX10_pair 216 = .ok (.getfield 187, 3) := dec_of t_X10_pair_ok 122 rfl
theorem dX10_pair_219 : decode cX10_pair 219 = .ok (.imul, 1) := dec_of t_X10_pair_ok 123 rfl
theorem dX10_pair_220 : decode cX10_pair 220 = .ok (.iconst 1, 1) := dec_of t_X10_pair_ok 124 rfl
theorem dX10_pair_221 : decode cX10_pair 221 = .ok (.iadd, 1) := dec_of t_X10_pair_ok 125 rfl
theorem dX10_pair_222 : decode cX10_pair 222 = .ok (.bipush 20, 2) := dec_of t_X10_pair_ok 126 rfl
theorem dX10_pair_224 : decode cX10_pair 224 = .ok (.imul, 1) := dec_of t_X10_pair_ok 127 rfl
theorem dX10_pair_225 : decode cX10_pair 225 = .ok (.iload 5, 2) := dec_of t_X10_pair_ok 128 rfl
theorem dX10_pair_227 : decode cX10_pair 227 = .ok (.iadd, 1) := dec_of t_X10_pair_ok 129 rfl
theorem dX10_pair_228 : decode cX10_pair 228 = .ok (.aload_n 0, 1) := dec_of t_X10_pair_ok 130 rfl
theorem dX10_pair_229 : decode cX10_pair 229 = .ok (.getfield 17, 3) := dec_of t_X10_pair_ok 131 rfl
theorem dX10_pair_232 : decode cX10_pair 232 = .ok (.iload_n 1, 1) := dec_of t_X10_pair_ok 132 rfl
theorem dX10_pair_233 : decode cX10_pair 233 = .ok (.iconst 1, 1) := dec_of t_X10_pair_ok 133 rfl
theorem dX10_pair_234 : decode cX10_pair 234 = .ok (.iadd, 1) := dec_of t_X10_pair_ok 134 rfl
theorem dX10_pair_235 : decode cX10_pair 235 = .ok (.iload 5, 2) := dec_of t_X10_pair_ok 135 rfl
theorem dX10_pair_237 : decode cX10_pair 237 = .ok (.iadd, 1) := dec_of t_X10_pair_ok 136 rfl
theorem dX10_pair_238 : decode cX10_pair 238 = .ok (.caload, 1) := dec_of t_X10_pair_ok 137 rfl
theorem dX10_pair_239 : decode cX10_pair 239 = .ok (.castore, 1) := dec_of t_X10_pair_ok 138 rfl
theorem dX10_pair_240 : decode cX10_pair 240 = .ok (.iinc 5 1, 3) := dec_of t_X10_pair_ok 139 rfl
theorem dX10_pair_243 : decode cX10_pair 243 = .ok (.goto (-39), 3) := dec_of t_X10_pair_ok 140 rfl
theorem dX10_pair_246 : decode cX10_pair 246 = .ok (.aload_n 0, 1) := dec_of t_X10_pair_ok 141 rfl
theorem dX10_pair_247 : decode cX10_pair 247 = .ok (.getfield 63, 3) := dec_of t_X10_pair_ok 142 rfl
theorem dX10_pair_250 : decode cX10_pair 250 = .ok (.iconst 2, 1) := dec_of t_X10_pair_ok 143 rfl
theorem dX10_pair_251 : decode cX10_pair 251 = .ok (.aload_n 0, 1) := dec_of t_X10_pair_ok 144 rfl
theorem dX10_pair_252 : decode cX10_pair 252 = .ok (.getfield 187, 3) := dec_of t_X10_pair_ok 145 rfl
theorem dX10_pair_255 : decode cX10_pair 255 = .ok (.imul, 1) := dec_of t_X10_pair_ok 146 rfl
theorem dX10_pair_256 : decode cX10_pair 256 = .ok (.iload_n 1, 1) := dec_of t_X10_pair_ok 147 rfl
theorem dX10_pair_257 : decode cX10_pair 257 = .ok (.iastore, 1) := dec_of t_X10_pair_ok 148 rfl
theorem dX10_pair_258 : decode cX10_pair 258 = .ok (.aload_n 0, 1) := dec_of t_X10_pair_ok 149 rfl
theorem dX10_pair_259 : decode cX10_pair 259 = .ok (.getfield 63, 3) := dec_of t_X10_pair_ok 150 rfl
theorem dX10_pair_262 : decode cX10_pair 262 = .ok (.iconst 2, 1) := dec_of t_X10_pair_ok 151 rfl
theorem dX10_pair_263 : decode cX10_pair 263 = .ok (.aload_n 0, 1) := dec_of t_X10_pair_ok 152 rfl
theorem dX10_pair_264 : decode cX10_pair 264 = .ok (.getfield 187, 3) := dec_of t_X10_pair_ok 153 rfl
theorem dX10_pair_267 : decode cX10_pair 267 = .ok (.imul, 1) := dec_of t_X10_pair_ok 154 rfl
theorem dX10_pair_268 : decode cX10_pair 268 = .ok (.iconst 1, 1) := dec_of t_X10_pair_ok 155 rfl
theorem dX10_pair_269 : decode cX10_pair 269 = .ok (.iadd, 1) := dec_of t_X10_pair_ok 156 rfl
theorem dX10_pair_270 : decode cX10_pair 270 = .ok (.iload_n 2, 1) := dec_of t_X10_pair_ok 157 rfl
theorem dX10_pair_271 : decode cX10_pair 271 = .ok (.iastore, 1) := dec_of t_X10_pair_ok 158 rfl
theorem dX10_pair_272 : decode cX10_pair 272 = .ok (.aload_n 0, 1) := dec_of t_X10_pair_ok 159 rfl
theorem dX10_pair_273 : decode cX10_pair 273 = .ok (.dup, 1) := dec_of t_X10_pair_ok 160 rfl
theorem dX10_pair_274 : decode cX10_pair 274 = .ok (.getfield 187, 3) := dec_of t_X10_pair_ok 161 rfl
theorem dX10_pair_277 : decode cX10_pair 277 = .ok (.iconst 1, 1) := dec_of t_X10_pair_ok 162 rfl
theorem dX10_pair_278 : decode cX10_pair 278 = .ok (.iadd, 1) := dec_of t_X10_pair_ok 163 rfl
theorem dX10_pair_279 : decode cX10_pair 279 = .ok (.putfield 187, 3) := dec_of t_X10_pair_ok 164 rfl
theorem dX10_pair_282 : decode cX10_pair 282 = .ok (.aload_n 0, 1) := dec_of t_X10_pair_ok 165 rfl
theorem dX10_pair_283 : decode cX10_pair 283 = .ok (.iconst 0, 1) := dec_of t_X10_pair_ok 166 rfl
theorem dX10_pair_284 : decode cX10_pair 284 = .ok (.putfield 145, 3) := dec_of t_X10_pair_ok 167 rfl
theorem dX10_pair_287 : decode cX10_pair 287 = .ok (.aload_n 0, 1) := dec_of t_X10_pair_ok 168 rfl
theorem dX10_pair_288 : decode cX10_pair 288 = .ok (.invokevirtual 181, 3) := dec_of t_X10_pair_ok 169 rfl
theorem dX10_pair_291 : decode cX10_pair 291 = .ok (.aload_n 0, 1) := dec_of t_X10_pair_ok 170 rfl
theorem dX10_pair_292 : decode cX10_pair 292 = .ok (.getfield 187, 3) := dec_of t_X10_pair_ok 171 rfl
theorem dX10_pair_295 : decode cX10_pair 295 = .ok (.iconst 1, 1) := dec_of t_X10_pair_ok 172 rfl
theorem dX10_pair_296 : decode cX10_pair 296 = .ok (.isub, 1) := dec_of t_X10_pair_ok 173 rfl
theorem dX10_pair_297 : decode cX10_pair 297 = .ok (.ireturn, 1) := dec_of t_X10_pair_ok 174 rfl
def t_X10_use : List (Nat × Instr × Nat) := [(0, .aload_n 0, 1), (1, .iload_n 2, 1), (2, .invokevirtual 184, 3), (5, .ifCond .eq 5, 3), (8, .iconst 0, 1), (9, .ireturn, 1), (10, .aload_n 0, 1), (11, .iload_n 1, 1), (12, .invokestatic 131, 3), (15, .ifCond .eq 7, 3), (18, .iconst 0, 1), (19, .goto 4, 3), (22, .iconst 2, 1), (23, .putfield 123, 3), (26, .aload_n 0, 1), (27, .getfield 123, 3), (30, .ifCond .le 5, 3), (33, .iconst 0, 1), (34, .ireturn, 1), (35, .aload_n 0, 1), (36, .getfield 66, 3), (39, .iload_n 1, 1), (40, .bipush 12, 2), (42, .imul, 1), (43, .iload_n 2, 1), (44, .iadd, 1), (45, .baload, 1), (46, .ifCond .ne 7, 3), (49, .iconst 1, 1), (50, .goto 4, 3), (53, .iconst 0, 1), (54, .istore 4, 2), (56, .aload_n 0, 1), (57, .getfield 66, 3), (60, .iload_n 1, 1), (61, .bipush 12, 2), (63, .imul, 1), (64, .iload_n 2, 1), (65, .iadd, 1), (66, .iload_n 3, 1), (67, .ifCond .ne 7, 3), (70, .iconst 1, 1), (71, .goto 4, 3), (74, .iconst 0, 1), (75, .bastore, 1), (76, .aload_n 0, 1), (77, .iload_n 1, 1), (78, .invokevirtual 152, 3), (81, .iload 4, 2), (83, .ireturn, 1)]
theorem t_X10_use_ok : dec_ok cX10_use t_X10_use = true := by decide +kernel
theorem dX10_use_0 : decode cX10_use 0 = .ok (.aload_n 0, 1) := dec_of t_X10_use_ok 0 rfl
theorem dX10_use_1 : decode cX10_use 1 = .ok (.iload_n 2, 1) := dec_of t_X10_use_ok 1 rfl
theorem dX10_use_2 : decode cX10_use 2 = .ok (.invokevirtual 184, 3) := dec_of t_X10_use_ok 2 rfl
theorem dX10_use_5 : decode cX10_use 5 = .ok (.ifCond .eq 5, 3) := dec_of t_X10_use_ok 3 rfl
theorem dX10_use_8 : decode cX10_use 8 = .ok (.iconst 0, 1) := dec_of t_X10_use_ok 4 rfl
theorem dX10_use_9 : decode cX10_use 9 = .ok (.ireturn, 1) := dec_of t_X10_use_ok 5 rfl
theorem dX10_use_10 : decode cX10_use 10 = .ok (.aload_n 0, 1) := dec_of t_X10_use_ok 6 rfl
theorem dX10_use_11 : decode cX10_use 11 = .ok (.iload_n 1, 1) := dec_of t_X10_use_ok 7 rfl
theorem dX10_use_12 : decode cX10_use 12 = .ok (.invokestatic 131, 3) := dec_of t_X10_use_ok 8 rfl
theorem dX10_use_15 : decode cX10_use 15 = .ok (.ifCond .eq 7, 3) := dec_of t_X10_use_ok 9 rfl
theorem dX10_use_18 : decode cX10_use 18 = .ok (.iconst 0, 1) := dec_of t_X10_use_ok 10 rfl
theorem dX10_use_19 : decode cX10_use 19 = .ok (.goto 4, 3) := dec_of t_X10_use_ok 11 rfl
theorem dX10_use_22 : decode cX10_use 22 = .ok (.iconst 2, 1) := dec_of t_X10_use_ok 12 rfl
theorem dX10_use_23 : decode cX10_use 23 = .ok (.putfield 123, 3) := dec_of t_X10_use_ok 13 rfl
theorem dX10_use_26 : decode cX10_use 26 = .ok (.aload_n 0, 1) := dec_of t_X10_use_ok 14 rfl
theorem dX10_use_27 : decode cX10_use 27 = .ok (.getfield 123, 3) := dec_of t_X10_use_ok 15 rfl
theorem dX10_use_30 : decode cX10_use 30 = .ok (.ifCond .le 5, 3) := dec_of t_X10_use_ok 16 rfl
theorem dX10_use_33 : decode cX10_use 33 = .ok (.iconst 0, 1) := dec_of t_X10_use_ok 17 rfl
theorem dX10_use_34 : decode cX10_use 34 = .ok (.ireturn, 1) := dec_of t_X10_use_ok 18 rfl
theorem dX10_use_35 : decode cX10_use 35 = .ok (.aload_n 0, 1) := dec_of t_X10_use_ok 19 rfl
theorem dX10_use_36 : decode cX10_use 36 = .ok (.getfield 66, 3) := dec_of t_X10_use_ok 20 rfl
theorem dX10_use_39 : decode cX10_use 39 = .ok (.iload_n 1, 1) := dec_of t_X10_use_ok 21 rfl
theorem dX10_use_40 : decode cX10_use 40 = .ok (.bipush 12, 2) := dec_of t_X10_use_ok 22 rfl
theorem dX10_use_42 : decode cX10_use 42 = .ok (.imul, 1) := dec_of t_X10_use_ok 23 rfl
theorem dX10_use_43 : decode cX10_use 43 = .ok (.iload_n 2, 1) := dec_of t_X10_use_ok 24 rfl
theorem dX10_use_44 : decode cX10_use 44 = .ok (.iadd, 1) := dec_of t_X10_use_ok 25 rfl
theorem dX10_use_45 : decode cX10_use 45 = .ok (.baload, 1) := dec_of t_X10_use_ok 26 rfl
theorem dX10_use_46 : decode cX10_use 46 = .ok (.ifCond .ne 7, 3) := dec_of t_X10_use_ok 27 rfl
theorem dX10_use_49 : decode cX10_use 49 = .ok (.iconst 1, 1) := dec_of t_X10_use_ok 28 rfl
theorem dX10_use_50 : decode cX10_use 50 = .ok (.goto 4, 3) := dec_of t_X10_use_ok 29 rfl
theorem dX10_use_53 : decode cX10_use 53 = .ok (.iconst 0, 1) := dec_of t_X10_use_ok 30 rfl
theorem dX10_use_54 : decode cX10_use 54 = .ok (.istore 4, 2) := dec_of t_X10_use_ok 31 rfl
theorem dX10_use_56 : decode cX10_use 56 = .ok (.aload_n 0, 1) := dec_of t_X10_use_ok 32 rfl
theorem dX10_use_57 : decode cX10_use 57 = .ok (.getfield 66, 3) := dec_of t_X10_use_ok 33 rfl
theorem dX10_use_60 : decode cX10_use 60 = .ok (.iload_n 1, 1) := dec_of t_X10_use_ok 34 rfl
theorem dX10_use_61 : decode cX10_use 61 = .ok (.bipush 12, 2) := dec_of t_X10_use_ok 35 rfl
theorem dX10_use_63 : decode cX10_use 63 = .ok (.imul, 1) := dec_of t_X10_use_ok 36 rfl
theorem dX10_use_64 : decode cX10_use 64 = .ok (.iload_n 2, 1) := dec_of t_X10_use_ok 37 rfl
theorem dX10_use_65 : decode cX10_use 65 = .ok (.iadd, 1) := dec_of t_X10_use_ok 38 rfl
theorem dX10_use_66 : decode cX10_use 66 = .ok (.iload_n 3, 1) := dec_of t_X10_use_ok 39 rfl
theorem dX10_use_67 : decode cX10_use 67 = .ok (.ifCond .ne 7, 3) := dec_of t_X10_use_ok 40 rfl
theorem dX10_use_70 : decode cX10_use 70 = .ok (.iconst 1, 1) := dec_of t_X10_use_ok 41 rfl
theorem dX10_use_71 : decode cX10_use 71 = .ok (.goto 4, 3) := dec_of t_X10_use_ok 42 rfl
theorem dX10_use_74 : decode cX10_use 74 = .ok (.iconst 0, 1) := dec_of t_X10_use_ok 43 rfl
theorem dX10_use_75 : decode cX10_use 75 = .ok (.bastore, 1) := dec_of t_X10_use_ok 44 rfl
theorem dX10_use_76 : decode cX10_use 76 = .ok (.aload_n 0, 1) := dec_of t_X10_use_ok 45 rfl
theorem dX10_use_77 : decode cX10_use 77 = .ok (.iload_n 1, 1) := dec_of t_X10_use_ok 46 rfl
theorem dX10_use_78 : decode cX10_use 78 = .ok (.invokevirtual 152, 3) := dec_of t_X10_use_ok 47 rfl
theorem dX10_use_81 : decode cX10_use 81 = .ok (.iload 4, 2) := dec_of t_X10_use_ok 48 rfl
theorem dX10_use_83 : decode cX10_use 83 = .ok (.ireturn, 1) := dec_of t_X10_use_ok 49 rfl
def t_X10_rankAt : List (Nat × Instr × Nat) := [(0, .aload_n 0, 1), (1, .getfield 69, 3), (4, .iload_n 1, 1), (5, .bipush 12, 2), (7, .imul, 1), (8, .iload_n 2, 1), (9, .iadd, 1), (10, .iaload, 1), (11, .istore_n 3, 1), (12, .iload_n 3, 1), (13, .ifCond .ne 12, 3), (16, .aload_n 0, 1), (17, .getfield 39, 3), (20, .iload_n 2, 1), (21, .iaload, 1), (22, .goto 4, 3), (25, .iload_n 3, 1), (26, .ireturn, 1)]
theorem t_X10_rankAt_ok : dec_ok cX10_rankAt t_X10_rankAt = true := by decide +kernel
theorem dX10_rankAt_0 : decode cX10_rankAt 0 = .ok (.aload_n 0, 1) := dec_of t_X10_rankAt_ok 0 rfl
theorem dX10_rankAt_1 : decode cX10_rankAt 1 = .ok (.getfield 69, 3) := dec_of t_X10_rankAt_ok 1 rfl
theorem dX10_rankAt_4 : decode cX10_rankAt 4 = .ok (.iload_n 1, 1) := dec_of t_X10_rankAt_ok 2 rfl
theorem dX10_rankAt_5 : decode cX10_rankAt 5 = .ok (.bipush 12, 2) := dec_of t_X10_rankAt_ok 3 rfl
theorem dX10_rankAt_7 : decode cX10_rankAt 7 = .ok (.imul, 1) := dec_of t_X10_rankAt_ok 4 rfl
theorem dX10_rankAt_8 : decode cX10_rankAt 8 = .ok (.iload_n 2, 1) := dec_of t_X10_rankAt_ok 5 rfl
theorem dX10_rankAt_9 : decode cX10_rankAt 9 = .ok (.iadd, 1) := dec_of t_X10_rankAt_ok 6 rfl
theorem dX10_rankAt_10 : decode cX10_rankAt 10 = .ok (.iaload, 1) := dec_of t_X10_rankAt_ok 7 rfl
theorem dX10_rankAt_11 : decode cX10_rankAt 11 = .ok (.istore_n 3, 1) := dec_of t_X10_rankAt_ok 8 rfl
theorem dX10_rankAt_12 : decode cX10_rankAt 12 = .ok (.iload_n 3, 1) := dec_of t_X10_rankAt_ok 9 rfl
theorem dX10_rankAt_13 : decode cX10_rankAt 13 = .ok (.ifCond .ne 12, 3) := dec_of t_X10_rankAt_ok 10 rfl
theorem dX10_rankAt_16 : decode cX10_rankAt 16 = .ok (.aload_n 0, 1) := dec_of t_X10_rankAt_ok 11 rfl
theorem dX10_rankAt_17 : decode cX10_rankAt 17 = .ok (.getfield 39, 3) := dec_of t_X10_rankAt_ok 12 rfl
theorem dX10_rankAt_20 : decode cX10_rankAt 20 = .ok (.iload_n 2, 1) := dec_of t_X10_rankAt_ok 13 rfl
theorem dX10_rankAt_21 : decode cX10_rankAt 21 = .ok (.iaload, 1) := dec_of t_X10_rankAt_ok 14 rfl
theorem dX10_rankAt_22 : decode cX10_rankAt 22 = .ok (.goto 4, 3) := dec_of t_X10_rankAt_ok 15 rfl
theorem dX10_rankAt_25 : decode cX10_rankAt 25 = .ok (.iload_n 3, 1) := dec_of t_X10_rankAt_ok 16 rfl
theorem dX10_rankAt_26 : decode cX10_rankAt 26 = .ok (.ireturn, 1) := dec_of t_X10_rankAt_ok 17 rfl
def t_X10_rank : List (Nat × Instr × Nat) := [(0, .aload_n 0, 1), (1, .iload_n 2, 1), (2, .invokevirtual 184, 3), (5, .ifCond .eq 5, 3), (8, .iconst 0, 1), (9, .ireturn, 1), (10, .aload_n 0, 1), (11, .iload_n 1, 1), (12, .invokestatic 131, 3), (15, .ifCond .eq 17, 3), (18, .iload_n 3, 1), (19, .iconst 0, 1), (20, .bipush 9, 2), (22, .invokestatic 127, 3), (25, .ifCond .eq 7, 3), (28, .iconst 0, 1), (29, .goto 4, 3), (32, .iconst 2, 1), (33, .putfield 123, 3), (36, .aload_n 0, 1), (37, .getfield 123, 3), (40, .ifCond .le 5, 3), (43, .iconst 0, 1), (44, .ireturn, 1), (45, .aload_n 0, 1), (46, .iload_n 1, 1), (47, .iload_n 2, 1), (48, .invokevirtual 190, 3), (51, .istore 4, 2), (53, .aload_n 0, 1), (54, .getfield 69, 3), (57, .iload_n 1, 1), (58, .bipush 12, 2), (60, .imul, 1), (61, .iload_n 2, 1), (62, .iadd, 1), (63, .iload_n 3, 1), (64, .iastore, 1), (65, .aload_n 0, 1), (66, .iload_n 1, 1), (67, .invokevirtual 152, 3), (70, .iload 4, 2), (72, .ireturn, 1)]
theorem t_X10_rank_ok : dec_ok cX10_rank t_X10_rank = true := by decide +kernel
theorem dX10_rank_0 : decode cX10_rank 0 = .ok (.aload_n 0, 1) := dec_of t_X10_rank_ok 0 rfl
theorem dX10_rank_1 : decode cX10_rank 1 = .ok (.iload_n 2, 1) := dec_of t_X10_rank_ok 1 rfl
theorem dX10_rank_2 : decode cX10_rank 2 = .ok (.invokevirtual 184, 3) := dec_of t_X10_rank_ok 2 rfl
theorem dX10_rank_5 : decode cX10_rank 5 = .ok (.ifCond .eq 5, 3) := dec_of t_X10_rank_ok 3 rfl
theorem dX10_rank_8 : decode cX10_rank 8 = .ok (.iconst 0, 1) := dec_of t_X10_rank_ok 4 rfl
theorem dX10_rank_9 : decode cX10_rank 9 = .ok (.ireturn, 1) := dec_of t_X10_rank_ok 5 rfl
theorem dX10_rank_10 : decode cX10_rank 10 = .ok (.aload_n 0, 1) := dec_of t_X10_rank_ok 6 rfl
theorem dX10_rank_11 : decode cX10_rank 11 = .ok (.iload_n 1, 1) := dec_of t_X10_rank_ok 7 rfl
theorem dX10_rank_12 : decode cX10_rank 12 = .ok (.invokestatic 131, 3) := dec_of t_X10_rank_ok 8 rfl
theorem dX10_rank_15 : decode cX10_rank 15 = .ok (.ifCond .eq 17, 3) := dec_of t_X10_rank_ok 9 rfl
theorem dX10_rank_18 : decode cX10_rank 18 = .ok (.iload_n 3, 1) := dec_of t_X10_rank_ok 10 rfl
theorem dX10_rank_19 : decode cX10_rank 19 = .ok (.iconst 0, 1) := dec_of t_X10_rank_ok 11 rfl
theorem dX10_rank_20 : decode cX10_rank 20 = .ok (.bipush 9, 2) := dec_of t_X10_rank_ok 12 rfl
theorem dX10_rank_22 : decode cX10_rank 22 = .ok (.invokestatic 127, 3) := dec_of t_X10_rank_ok 13 rfl
theorem dX10_rank_25 : decode cX10_rank 25 = .ok (.ifCond .eq 7, 3) := dec_of t_X10_rank_ok 14 rfl
theorem dX10_rank_28 : decode cX10_rank 28 = .ok (.iconst 0, 1) := dec_of t_X10_rank_ok 15 rfl
theorem dX10_rank_29 : decode cX10_rank 29 = .ok (.goto 4, 3) := dec_of t_X10_rank_ok 16 rfl
theorem dX10_rank_32 : decode cX10_rank 32 = .ok (.iconst 2, 1) := dec_of t_X10_rank_ok 17 rfl
theorem dX10_rank_33 : decode cX10_rank 33 = .ok (.putfield 123, 3) := dec_of t_X10_rank_ok 18 rfl
theorem dX10_rank_36 : decode cX10_rank 36 = .ok (.aload_n 0, 1) := dec_of t_X10_rank_ok 19 rfl
theorem dX10_rank_37 : decode cX10_rank 37 = .ok (.getfield 123, 3) := dec_of t_X10_rank_ok 20 rfl
theorem dX10_rank_40 : decode cX10_rank 40 = .ok (.ifCond .le 5, 3) := dec_of t_X10_rank_ok 21 rfl
theorem dX10_rank_43 : decode cX10_rank 43 = .ok (.iconst 0, 1) := dec_of t_X10_rank_ok 22 rfl
theorem dX10_rank_44 : decode cX10_rank 44 = .ok (.ireturn, 1) := dec_of t_X10_rank_ok 23 rfl
theorem dX10_rank_45 : decode cX10_rank 45 = .ok (.aload_n 0, 1) := dec_of t_X10_rank_ok 24 rfl
theorem dX10_rank_46 : decode cX10_rank 46 = .ok (.iload_n 1, 1) := dec_of t_X10_rank_ok 25 rfl
theorem dX10_rank_47 : decode cX10_rank 47 = .ok (.iload_n 2, 1) := dec_of t_X10_rank_ok 26 rfl
theorem dX10_rank_48 : decode cX10_rank 48 = .ok (.invokevirtual 190, 3) := dec_of t_X10_rank_ok 27 rfl
theorem dX10_rank_51 : decode cX10_rank 51 = .ok (.istore 4, 2) := dec_of t_X10_rank_ok 28 rfl
theorem dX10_rank_53 : decode cX10_rank 53 = .ok (.aload_n 0, 1) := dec_of t_X10_rank_ok 29 rfl
theorem dX10_rank_54 : decode cX10_rank 54 = .ok (.getfield 69, 3) := dec_of t_X10_rank_ok 30 rfl
theorem dX10_rank_57 : decode cX10_rank 57 = .ok (.iload_n 1, 1) := dec_of t_X10_rank_ok 31 rfl
theorem dX10_rank_58 : decode cX10_rank 58 = .ok (.bipush 12, 2) := dec_of t_X10_rank_ok 32 rfl
theorem dX10_rank_60 : decode cX10_rank 60 = .ok (.imul, 1) := dec_of t_X10_rank_ok 33 rfl
theorem dX10_rank_61 : decode cX10_rank 61 = .ok (.iload_n 2, 1) := dec_of t_X10_rank_ok 34 rfl
theorem dX10_rank_62 : decode cX10_rank 62 = .ok (.iadd, 1) := dec_of t_X10_rank_ok 35 rfl
theorem dX10_rank_63 : decode cX10_rank 63 = .ok (.iload_n 3, 1) := dec_of t_X10_rank_ok 36 rfl
theorem dX10_rank_64 : decode cX10_rank 64 = .ok (.iastore, 1) := dec_of t_X10_rank_ok 37 rfl
theorem dX10_rank_65 : decode cX10_rank 65 = .ok (.aload_n 0, 1) := dec_of t_X10_rank_ok 38 rfl
theorem dX10_rank_66 : decode cX10_rank 66 = .ok (.iload_n 1, 1) := dec_of t_X10_rank_ok 39 rfl
theorem dX10_rank_67 : decode cX10_rank 67 = .ok (.invokevirtual 152, 3) := dec_of t_X10_rank_ok 40 rfl
theorem dX10_rank_70 : decode cX10_rank 70 = .ok (.iload 4, 2) := dec_of t_X10_rank_ok 41 rfl
theorem dX10_rank_72 : decode cX10_rank 72 = .ok (.ireturn, 1) := dec_of t_X10_rank_ok 42 rfl
def t_X10_limit : List (Nat × Instr × Nat) := [(0, .aload_n 0, 1), (1, .iload_n 1, 1), (2, .invokestatic 131, 3), (5, .ifCond .eq 17, 3), (8, .iload_n 2, 1), (9, .iconst 0, 1), (10, .bipush 20, 2), (12, .invokestatic 127, 3), (15, .ifCond .eq 7, 3), (18, .iconst 0, 1), (19, .goto 4, 3), (22, .iconst 1, 1), (23, .putfield 123, 3), (26, .aload_n 0, 1), (27, .getfield 123, 3), (30, .ifCond .le 5, 3), (33, .iconst 0, 1), (34, .ireturn, 1), (35, .aload_n 0, 1), (36, .getfield 72, 3), (39, .iload_n 1, 1), (40, .iaload, 1), (41, .istore_n 3, 1), (42, .aload_n 0, 1), (43, .getfield 72, 3), (46, .iload_n 1, 1), (47, .iload_n 2, 1), (48, .iastore, 1), (49, .aload_n 0, 1), (50, .iload_n 1, 1), (51, .invokevirtual 152, 3), (54, .iload_n 3, 1), (55, .ireturn, 1)]
theorem t_X10_limit_ok : dec_ok cX10_limit t_X10_limit = true := by decide +kernel
theorem dX10_limit_0 : decode cX10_limit 0 = .ok (.aload_n 0, 1) := dec_of t_X10_limit_ok 0 rfl
theorem dX10_limit_1 : decode cX10_limit 1 = .ok (.iload_n 1, 1) := dec_of t_X10_limit_ok 1 rfl
theorem dX10_limit_2 : decode cX10_limit 2 = .ok (.invokestatic 131, 3) := dec_of t_X10_limit_ok 2 rfl
theorem dX10_limit_5 : decode cX10_limit 5 = .ok (.ifCond .eq 17, 3) := dec_of t_X10_limit_ok 3 rfl
theorem dX10_limit_8 : decode cX10_limit 8 = .ok (.iload_n 2, 1) := dec_of t_X10_limit_ok 4 rfl
theorem dX10_limit_9 : decode cX10_limit 9 = .ok (.iconst 0, 1) := dec_of t_X10_limit_ok 5 rfl
theorem dX10_limit_10 : decode cX10_limit 10 = .ok (.bipush 20, 2) := dec_of t_X10_limit_ok 6 rfl
theorem dX10_limit_12 : decode cX10_limit 12 = .ok (.invokestatic 127, 3) := dec_of t_X10_limit_ok 7 rfl
theorem dX10_limit_15 : decode cX10_limit 15 = .ok (.ifCond .eq 7, 3) := dec_of t_X10_limit_ok 8 rfl
theorem dX10_limit_18 : decode cX10_limit 18 = .ok (.iconst 0, 1) := dec_of t_X10_limit_ok 9 rfl
theorem dX10_limit_19 : decode cX10_limit 19 = .ok (.goto 4, 3) := dec_of t_X10_limit_ok 10 rfl
theorem dX10_limit_22 : decode cX10_limit 22 = .ok (.iconst 1, 1) := dec_of t_X10_limit_ok 11 rfl
theorem dX10_limit_23 : decode cX10_limit 23 = .ok (.putfield 123, 3) := dec_of t_X10_limit_ok 12 rfl
theorem dX10_limit_26 : decode cX10_limit 26 = .ok (.aload_n 0, 1) := dec_of t_X10_limit_ok 13 rfl
theorem dX10_limit_27 : decode cX10_limit 27 = .ok (.getfield 123, 3) := dec_of t_X10_limit_ok 14 rfl
theorem dX10_limit_30 : decode cX10_limit 30 = .ok (.ifCond .le 5, 3) := dec_of t_X10_limit_ok 15 rfl
theorem dX10_limit_33 : decode cX10_limit 33 = .ok (.iconst 0, 1) := dec_of t_X10_limit_ok 16 rfl
theorem dX10_limit_34 : decode cX10_limit 34 = .ok (.ireturn, 1) := dec_of t_X10_limit_ok 17 rfl
theorem dX10_limit_35 : decode cX10_limit 35 = .ok (.aload_n 0, 1) := dec_of t_X10_limit_ok 18 rfl
theorem dX10_limit_36 : decode cX10_limit 36 = .ok (.getfield 72, 3) := dec_of t_X10_limit_ok 19 rfl
theorem dX10_limit_39 : decode cX10_limit 39 = .ok (.iload_n 1, 1) := dec_of t_X10_limit_ok 20 rfl
theorem dX10_limit_40 : decode cX10_limit 40 = .ok (.iaload, 1) := dec_of t_X10_limit_ok 21 rfl
theorem dX10_limit_41 : decode cX10_limit 41 = .ok (.istore_n 3, 1) := dec_of t_X10_limit_ok 22 rfl
theorem dX10_limit_42 : decode cX10_limit 42 = .ok (.aload_n 0, 1) := dec_of t_X10_limit_ok 23 rfl
theorem dX10_limit_43 : decode cX10_limit 43 = .ok (.getfield 72, 3) := dec_of t_X10_limit_ok 24 rfl
theorem dX10_limit_46 : decode cX10_limit 46 = .ok (.iload_n 1, 1) := dec_of t_X10_limit_ok 25 rfl
theorem dX10_limit_47 : decode cX10_limit 47 = .ok (.iload_n 2, 1) := dec_of t_X10_limit_ok 26 rfl
theorem dX10_limit_48 : decode cX10_limit 48 = .ok (.iastore, 1) := dec_of t_X10_limit_ok 27 rfl
theorem dX10_limit_49 : decode cX10_limit 49 = .ok (.aload_n 0, 1) := dec_of t_X10_limit_ok 28 rfl
theorem dX10_limit_50 : decode cX10_limit 50 = .ok (.iload_n 1, 1) := dec_of t_X10_limit_ok 29 rfl
theorem dX10_limit_51 : decode cX10_limit 51 = .ok (.invokevirtual 152, 3) := dec_of t_X10_limit_ok 30 rfl
theorem dX10_limit_54 : decode cX10_limit 54 = .ok (.iload_n 3, 1) := dec_of t_X10_limit_ok 31 rfl
theorem dX10_limit_55 : decode cX10_limit 55 = .ok (.ireturn, 1) := dec_of t_X10_limit_ok 32 rfl
def t_X10_scan : List (Nat × Instr × Nat) := [(0, .aload_n 0, 1), (1, .iconst 0, 1), (2, .putfield 194, 3), (5, .iconst 0, 1), (6, .istore_n 1, 1), (7, .iconst 0, 1), (8, .istore_n 2, 1), (9, .iconst 0, 1), (10, .istore_n 3, 1), (11, .iconst 0, 1), (12, .istore 4, 2), (14, .iload 4, 2), (16, .aload_n 0, 1), (17, .getfield 156, 3), (20, .if_icmp .ge 220, 3), (23, .aload_n 0, 1), (24, .getfield 7, 3), (27, .iload 4, 2), (29, .caload, 1), (30, .istore 5, 2), (32, .aload_n 0, 1), (33, .getfield 99, 3), (36, .iload 4, 2), (38, .iload_n 1, 1), (39, .iastore, 1), (40, .iload_n 2, 1), (41, .ifCond .eq 14, 3), (44, .iload 5, 2), (46, .bipush 47, 2), (48, .if_icmp .eq 7, 3), (51, .iconst 1, 1), (52, .goto 4, 3), (55, .iconst 0, 1), (56, .istore_n 2, 1), (57, .aload_n 0, 1), (58, .getfield 102, 3), (61, .iload 4, 2), (63, .iload_n 2, 1), (64, .ifCond .ne 10, 3), (67, .iload 5, 2), (69, .bipush 34, 2), (71, .if_icmp .ne 7, 3), (74, .iconst 1, 1), (75, .goto 4, 3), (78, .iconst 0, 1), (79, .bastore, 1), (80, .iload 5, 2), (82, .bipush 34, 2), (84, .if_icmp .ne 15, 3), (87, .iload_n 2, 1), (88, .ifCond .ne 7, 3), (91, .iconst 1, 1), (92, .goto 8, 3), (95, .iconst 0, 1), (96, .goto 4, 3), (99, .iload_n 2, 1), (100, .istore_n 2, 1), (101, .iload_n 1, 1), (102, .iload 5, 2), (104, .bipush 47, 2), (106, .if_icmp .ne 7, 3), (109, .iconst 1, 1), (110, .goto 4, 3), (113, .iconst 0, 1), (114, .iadd, 1), (115, .istore_n 1, 1), (116, .iload 5, 2), (118, .invokestatic 138, 3), (121, .ifCond .eq 7, 3), (124, .iconst 1, 1), (125, .goto 16, 3), (128, .iload 5, 2), (130, .invokestatic 142, 3), (133, .ifCond .eq 7, 3), (136, .iconst 2, 1), (137, .goto 4, 3), (140, .iconst 0, 1), (141, .istore 6, 2), (143, .iload 6, 2), (145, .ifCond .le 27, 3), (148, .iload 6, 2), (150, .iload_n 3, 1), (151, .if_icmp .ne 21, 3), (154, .aload_n 0, 1), (155, .getfield 93, 3), (158, .aload_n 0, 1), (159, .getfield 194, 3), (162, .iconst 1, 1), (163, .isub, 1), (164, .iload 4, 2), (166, .iconst 1, 1), (167, .iadd, 1), (168, .iastore, 1), (169, .goto 62, 3), (172, .iload 6, 2), (174, .ifCond .le 57, 3), (177, .aload_n 0, 1), (178, .getfield 90, 3), (181, .aload_n 0, 1), (182, .getfield 194, 3), (185, .iload 4, 2), (187, .iastore, 1), (188, .aload_n 0, 1), (189, .getfield 93, 3), (192, .aload_n 0, 1), (193, .getfield 194, 3), (196, .iload 4, 2), (198, .iconst 1, 1), (199, .iadd, 1), (200, .iastore, 1), (201, .aload_n 0, 1), (202, .getfield 96, 3), (205, .aload_n 0, 1), (206, .getfield 194, 3), (209, .iload 6, 2), (211, .iconst 1, 1), (212, .if_icmp .ne 7, 3), (215, .iconst 1, 1), (216, .goto 4, 3), (219, .iconst 0, 1), (220, .bastore, 1), (221, .aload_n 0, 1), (222, .dup, 1), (223, .getfield 194, 3), (226, .iconst 1, 1), (227, .iadd, 1), (228, .putfield 194, 3), (231, .iload 6, 2), (233, .istore_n 3, 1), (234, .iinc 4 1, 3), (237, .goto (-223), 3), (240, .return_, 1)]
theorem t_X10_scan_ok : dec_ok cX10_scan t_X10_scan = true := by decide +kernel
theorem dX10_scan_0 : decode cX10_scan 0 = .ok (.aload_n 0, 1) := dec_of t_X10_scan_ok 0 rfl
theorem dX10_scan_1 : decode cX10_scan 1 = .ok (.iconst 0, 1) := dec_of t_X10_scan_ok 1 rfl
theorem dX10_scan_2 : decode cX10_scan 2 = .ok (.putfield 194, 3) := dec_of t_X10_scan_ok 2 rfl
theorem dX10_scan_5 : decode cX10_scan 5 = .ok (.iconst 0, 1) := dec_of t_X10_scan_ok 3 rfl
theorem dX10_scan_6 : decode cX10_scan 6 = .ok (.istore_n 1, 1) := dec_of t_X10_scan_ok 4 rfl
theorem dX10_scan_7 : decode cX10_scan 7 = .ok (.iconst 0, 1) := dec_of t_X10_scan_ok 5 rfl
theorem dX10_scan_8 : decode cX10_scan 8 = .ok (.istore_n 2, 1) := dec_of t_X10_scan_ok 6 rfl
theorem dX10_scan_9 : decode cX10_scan 9 = .ok (.iconst 0, 1) := dec_of t_X10_scan_ok 7 rfl
theorem dX10_scan_10 : decode cX10_scan 10 = .ok (.istore_n 3, 1) := dec_of t_X10_scan_ok 8 rfl
theorem dX10_scan_11 : decode cX10_scan 11 = .ok (.iconst 0, 1) := dec_of t_X10_scan_ok 9 rfl
theorem dX10_scan_12 : decode cX10_scan 12 = .ok (.istore 4, 2) := dec_of t_X10_scan_ok 10 rfl
theorem dX10_scan_14 : decode cX10_scan 14 = .ok (.iload 4, 2) := dec_of t_X10_scan_ok 11 rfl
theorem dX10_scan_16 : decode cX10_scan 16 = .ok (.aload_n 0, 1) := dec_of t_X10_scan_ok 12 rfl
theorem dX10_scan_17 : decode cX10_scan 17 = .ok (.getfield 156, 3) := dec_of t_X10_scan_ok 13 rfl
theorem dX10_scan_20 : decode cX10_scan 20 = .ok (.if_icmp .ge 220, 3) := dec_of t_X10_scan_ok 14 rfl
theorem dX10_scan_23 : decode cX10_scan 23 = .ok (.aload_n 0, 1) := dec_of t_X10_scan_ok 15 rfl
theorem dX10_scan_24 : decode cX10_scan 24 = .ok (.getfield 7, 3) := dec_of t_X10_scan_ok 16 rfl
theorem dX10_scan_27 : decode cX10_scan 27 = .ok (.iload 4, 2) := dec_of t_X10_scan_ok 17 rfl
theorem dX10_scan_29 : decode cX10_scan 29 = .ok (.caload, 1) := dec_of t_X10_scan_ok 18 rfl
theorem dX10_scan_30 : decode cX10_scan 30 = .ok (.istore 5, 2) := dec_of t_X10_scan_ok 19 rfl
theorem dX10_scan_32 : decode cX10_scan 32 = .ok (.aload_n 0, 1) := dec_of t_X10_scan_ok 20 rfl
theorem dX10_scan_33 : decode cX10_scan 33 = .ok (.getfield 99, 3) := dec_of t_X10_scan_ok 21 rfl
theorem dX10_scan_36 : decode cX10_scan 36 = .ok (.iload 4, 2) := dec_of t_X10_scan_ok 22 rfl
theorem dX10_scan_38 : decode cX10_scan 38 = .ok (.iload_n 1, 1) := dec_of t_X10_scan_ok 23 rfl
theorem dX10_scan_39 : decode cX10_scan 39 = .ok (.iastore, 1) := dec_of t_X10_scan_ok 24 rfl
theorem dX10_scan_40 : decode cX10_scan 40 = .ok (.iload_n 2, 1) := dec_of t_X10_scan_ok 25 rfl
theorem dX10_scan_41 : decode cX10_scan 41 = .ok (.ifCond .eq 14, 3) := dec_of t_X10_scan_ok 26 rfl
theorem dX10_scan_44 : decode cX10_scan 44 = .ok (.iload 5, 2) := dec_of t_X10_scan_ok 27 rfl
theorem dX10_scan_46 : decode cX10_scan 46 = .ok (.bipush 47, 2) := dec_of t_X10_scan_ok 28 rfl
theorem dX10_scan_48 : decode cX10_scan 48 = .ok (.if_icmp .eq 7, 3) := dec_of t_X10_scan_ok 29 rfl
theorem dX10_scan_51 : decode cX10_scan 51 = .ok (.iconst 1, 1) := dec_of t_X10_scan_ok 30 rfl
theorem dX10_scan_52 : decode cX10_scan 52 = .ok (.goto 4, 3) := dec_of t_X10_scan_ok 31 rfl
theorem dX10_scan_55 : decode cX10_scan 55 = .ok (.iconst 0, 1) := dec_of t_X10_scan_ok 32 rfl
theorem dX10_scan_56 : decode cX10_scan 56 = .ok (.istore_n 2, 1) := dec_of t_X10_scan_ok 33 rfl
theorem dX10_scan_57 : decode cX10_scan 57 = .ok (.aload_n 0, 1) := dec_of t_X10_scan_ok 34 rfl
theorem dX10_scan_58 : decode cX10_scan 58 = .ok (.getfield 102, 3) := dec_of t_X10_scan_ok 35 rfl
theorem dX10_scan_61 : decode cX10_scan 61 = .ok (.iload 4, 2) := dec_of t_X10_scan_ok 36 rfl
theorem dX10_scan_63 : decode cX10_scan 63 = .ok (.iload_n 2, 1) := dec_of t_X10_scan_ok 37 rfl
theorem dX10_scan_64 : decode cX10_scan 64 = .ok (.ifCond .ne 10, 3) := dec_of t_X10_scan_ok 38 rfl
theorem dX10_scan_67 : decode cX10_scan 67 = .ok (.iload 5, 2) := dec_of t_X10_scan_ok 39 rfl
theorem dX10_scan_69 : decode cX10_scan 69 = .ok (.bipush 34, 2) := dec_of t_X10_scan_ok 40 rfl
theorem dX10_scan_71 : decode cX10_scan 71 = .ok (.if_icmp .ne 7, 3) := dec_of t_X10_scan_ok 41 rfl
theorem dX10_scan_74 : decode cX10_scan 74 = .ok (.iconst 1, 1) := dec_of t_X10_scan_ok 42 rfl
theorem dX10_scan_75 : decode cX10_scan 75 = .ok (.goto 4, 3) := dec_of t_X10_scan_ok 43 rfl
theorem dX10_scan_78 : decode cX10_scan 78 = .ok (.iconst 0, 1) := dec_of t_X10_scan_ok 44 rfl
theorem dX10_scan_79 : decode cX10_scan 79 = .ok (.bastore, 1) := dec_of t_X10_scan_ok 45 rfl
theorem dX10_scan_80 : decode cX10_scan 80 = .ok (.iload 5, 2) := dec_of t_X10_scan_ok 46 rfl
theorem dX10_scan_82 : decode cX10_scan 82 = .ok (.bipush 34, 2) := dec_of t_X10_scan_ok 47 rfl
theorem dX10_scan_84 : decode cX10_scan 84 = .ok (.if_icmp .ne 15, 3) := dec_of t_X10_scan_ok 48 rfl
theorem dX10_scan_87 : decode cX10_scan 87 = .ok (.iload_n 2, 1) := dec_of t_X10_scan_ok 49 rfl
theorem dX10_scan_88 : decode cX10_scan 88 = .ok (.ifCond .ne 7, 3) := dec_of t_X10_scan_ok 50 rfl
theorem dX10_scan_91 : decode cX10_scan 91 = .ok (.iconst 1, 1) := dec_of t_X10_scan_ok 51 rfl
theorem dX10_scan_92 : decode cX10_scan 92 = .ok (.goto 8, 3) := dec_of t_X10_scan_ok 52 rfl
theorem dX10_scan_95 : decode cX10_scan 95 = .ok (.iconst 0, 1) := dec_of t_X10_scan_ok 53 rfl
theorem dX10_scan_96 : decode cX10_scan 96 = .ok (.goto 4, 3) := dec_of t_X10_scan_ok 54 rfl
theorem dX10_scan_99 : decode cX10_scan 99 = .ok (.iload_n 2, 1) := dec_of t_X10_scan_ok 55 rfl
theorem dX10_scan_100 : decode cX10_scan 100 = .ok (.istore_n 2, 1) := dec_of t_X10_scan_ok 56 rfl
theorem dX10_scan_101 : decode cX10_scan 101 = .ok (.iload_n 1, 1) := dec_of t_X10_scan_ok 57 rfl
theorem dX10_scan_102 : decode cX10_scan 102 = .ok (.iload 5, 2) := dec_of t_X10_scan_ok 58 rfl
theorem dX10_scan_104 : decode cX10_scan 104 = .ok (.bipush 47, 2) := dec_of t_X10_scan_ok 59 rfl
theorem dX10_scan_106 : decode cX10_scan 106 = .ok (.if_icmp .ne 7, 3) := dec_of t_X10_scan_ok 60 rfl
theorem dX10_scan_109 : decode cX10_scan 109 = .ok (.iconst 1, 1) := dec_of t_X10_scan_ok 61 rfl
theorem dX10_scan_110 : decode cX10_scan 110 = .ok (.goto 4, 3) := dec_of t_X10_scan_ok 62 rfl
theorem dX10_scan_113 : decode cX10_scan 113 = .ok (.iconst 0, 1) := dec_of t_X10_scan_ok 63 rfl
theorem dX10_scan_114 : decode cX10_scan 114 = .ok (.iadd, 1) := dec_of t_X10_scan_ok 64 rfl
theorem dX10_scan_115 : decode cX10_scan 115 = .ok (.istore_n 1, 1) := dec_of t_X10_scan_ok 65 rfl
theorem dX10_scan_116 : decode cX10_scan 116 = .ok (.iload 5, 2) := dec_of t_X10_scan_ok 66 rfl
theorem dX10_scan_118 : decode cX10_scan 118 = .ok (.invokestatic 138, 3) := dec_of t_X10_scan_ok 67 rfl
theorem dX10_scan_121 : decode cX10_scan 121 = .ok (.ifCond .eq 7, 3) := dec_of t_X10_scan_ok 68 rfl
theorem dX10_scan_124 : decode cX10_scan 124 = .ok (.iconst 1, 1) := dec_of t_X10_scan_ok 69 rfl
theorem dX10_scan_125 : decode cX10_scan 125 = .ok (.goto 16, 3) := dec_of t_X10_scan_ok 70 rfl
theorem dX10_scan_128 : decode cX10_scan 128 = .ok (.iload 5, 2) := dec_of t_X10_scan_ok 71 rfl
theorem dX10_scan_130 : decode cX10_scan 130 = .ok (.invokestatic 142, 3) := dec_of t_X10_scan_ok 72 rfl
theorem dX10_scan_133 : decode cX10_scan 133 = .ok (.ifCond .eq 7, 3) := dec_of t_X10_scan_ok 73 rfl
theorem dX10_scan_136 : decode cX10_scan 136 = .ok (.iconst 2, 1) := dec_of t_X10_scan_ok 74 rfl
theorem dX10_scan_137 : decode cX10_scan 137 = .ok (.goto 4, 3) := dec_of t_X10_scan_ok 75 rfl
theorem dX10_scan_140 : decode cX10_scan 140 = .ok (.iconst 0, 1) := dec_of t_X10_scan_ok 76 rfl
theorem dX10_scan_141 : decode cX10_scan 141 = .ok (.istore 6, 2) := dec_of t_X10_scan_ok 77 rfl
theorem dX10_scan_143 : decode cX10_scan 143 = .ok (.iload 6, 2) := dec_of t_X10_scan_ok 78 rfl
theorem dX10_scan_145 : decode cX10_scan 145 = .ok (.ifCond .le 27, 3) := dec_of t_X10_scan_ok 79 rfl
theorem dX10_scan_148 : decode cX10_scan 148 = .ok (.iload 6, 2) := dec_of t_X10_scan_ok 80 rfl
theorem dX10_scan_150 : decode cX10_scan 150 = .ok (.iload_n 3, 1) := dec_of t_X10_scan_ok 81 rfl
theorem dX10_scan_151 : decode cX10_scan 151 = .ok (.if_icmp .ne 21, 3) := dec_of t_X10_scan_ok 82 rfl
theorem dX10_scan_154 : decode cX10_scan 154 = .ok (.aload_n 0, 1) := dec_of t_X10_scan_ok 83 rfl
theorem dX10_scan_155 : decode cX10_scan 155 = .ok (.getfield 93, 3) := dec_of t_X10_scan_ok 84 rfl
theorem dX10_scan_158 : decode cX10_scan 158 = .ok (.aload_n 0, 1) := dec_of t_X10_scan_ok 85 rfl
theorem dX10_scan_159 : decode cX10_scan 159 = .ok (.getfield 194, 3) := dec_of t_X10_scan_ok 86 rfl
theorem dX10_scan_162 : decode cX10_scan 162 = .ok (.iconst 1, 1) := dec_of t_X10_scan_ok 87 rfl
theorem dX10_scan_163 : decode cX10_scan 163 = .ok (.isub, 1) := dec_of t_X10_scan_ok 88 rfl
theorem dX10_scan_164 : decode cX10_scan 164 = .ok (.iload 4, 2) := dec_of t_X10_scan_ok 89 rfl
theorem dX10_scan_166 : decode cX10_scan 166 = .ok (.iconst 1, 1) := dec_of t_X10_scan_ok 90 rfl
theorem dX10_scan_167 : decode cX10_scan 167 = .ok (.iadd, 1) := dec_of t_X10_scan_ok 91 rfl
theorem dX10_scan_168 : decode cX10_scan 168 = .ok (.iastore, 1) := dec_of t_X10_scan_ok 92 rfl
theorem dX10_scan_169 : decode cX10_scan 169 = .ok (.goto 62, 3) := dec_of t_X10_scan_ok 93 rfl
theorem dX10_scan_172 : decode cX10_scan 172 = .ok (.iload 6, 2) := dec_of t_X10_scan_ok 94 rfl
theorem dX10_scan_174 : decode cX10_scan 174 = .ok (.ifCond .le 57, 3) := dec_of t_X10_scan_ok 95 rfl
theorem dX10_scan_177 : decode cX10_scan 177 = .ok (.aload_n 0, 1) := dec_of t_X10_scan_ok 96 rfl
theorem dX10_scan_178 : decode cX10_scan 178 = .ok (.getfield 90, 3) := dec_of t_X10_scan_ok 97 rfl
theorem dX10_scan_181 : decode cX10_scan 181 = .ok (.aload_n 0, 1) := dec_of t_X10_scan_ok 98 rfl
theorem dX10_scan_182 : decode cX10_scan 182 = .ok (.getfield 194, 3) := dec_of t_X10_scan_ok 99 rfl
theorem dX10_scan_185 : decode cX10_scan 185 = .ok (.iload 4, 2) := dec_of t_X10_scan_ok 100 rfl
theorem dX10_scan_187 : decode cX10_scan 187 = .ok (.iastore, 1) := dec_of t_X10_scan_ok 101 rfl
theorem dX10_scan_188 : decode cX10_scan 188 = .ok (.aload_n 0, 1) := dec_of t_X10_scan_ok 102 rfl
theorem dX10_scan_189 : decode cX10_scan 189 = .ok (.getfield 93, 3) := dec_of t_X10_scan_ok 103 rfl
theorem dX10_scan_192 : decode cX10_scan 192 = .ok (.aload_n 0, 1) := dec_of t_X10_scan_ok 104 rfl
theorem dX10_scan_193 : decode cX10_scan 193 = .ok (.getfield 194, 3) := dec_of t_X10_scan_ok 105 rfl
theorem dX10_scan_196 : decode cX10_scan 196 = .ok (.iload 4, 2) := dec_of t_X10_scan_ok 106 rfl
theorem dX10_scan_198 : decode cX10_scan 198 = .ok (.iconst 1, 1) := dec_of t_X10_scan_ok 107 rfl
theorem dX10_scan_199 : decode cX10_scan 199 = .ok (.iadd, 1) := dec_of t_X10_scan_ok 108 rfl
theorem dX10_scan_200 : decode cX10_scan 200 = .ok (.iastore, 1) := dec_of t_X10_scan_ok 109 rfl
theorem dX10_scan_201 : decode cX10_scan 201 = .ok (.aload_n 0, 1) := dec_of t_X10_scan_ok 110 rfl
theorem dX10_scan_202 : decode cX10_scan 202 = .ok (.getfield 96, 3) := dec_of t_X10_scan_ok 111 rfl
theorem dX10_scan_205 : decode cX10_scan 205 = .ok (.aload_n 0, 1) := dec_of t_X10_scan_ok 112 rfl
theorem dX10_scan_206 : decode cX10_scan 206 = .ok (.getfield 194, 3) := dec_of t_X10_scan_ok 113 rfl
theorem dX10_scan_209 : decode cX10_scan 209 = .ok (.iload 6, 2) := dec_of t_X10_scan_ok 114 rfl
theorem dX10_scan_211 : decode cX10_scan 211 = .ok (.iconst 1, 1) := dec_of t_X10_scan_ok 115 rfl
theorem dX10_scan_212 : decode cX10_scan 212 = .ok (.if_icmp .ne 7, 3) := dec_of t_X10_scan_ok 116 rfl
theorem dX10_scan_215 : decode cX10_scan 215 = .ok (.iconst 1, 1) := dec_of t_X10_scan_ok 117 rfl
theorem dX10_scan_216 : decode cX10_scan 216 = .ok (.goto 4, 3) := dec_of t_X10_scan_ok 118 rfl
theorem dX10_scan_219 : decode cX10_scan 219 = .ok (.iconst 0, 1) := dec_of t_X10_scan_ok 119 rfl
theorem dX10_scan_220 : decode cX10_scan 220 = .ok (.bastore, 1) := dec_of t_X10_scan_ok 120 rfl
theorem dX10_scan_221 : decode cX10_scan 221 = .ok (.aload_n 0, 1) := dec_of t_X10_scan_ok 121 rfl
theorem dX10_scan_222 : decode cX10_scan 222 = .ok (.dup, 1) := dec_of t_X10_scan_ok 122 rfl
theorem dX10_scan_223 : decode cX10_scan 223 = .ok (.getfield 194, 3) := dec_of t_X10_scan_ok 123 rfl
theorem dX10_scan_226 : decode cX10_scan 226 = .ok (.iconst 1, 1) := dec_of t_X10_scan_ok 124 rfl
theorem dX10_scan_227 : decode cX10_scan 227 = .ok (.iadd, 1) := dec_of t_X10_scan_ok 125 rfl
theorem dX10_scan_228 : decode cX10_scan 228 = .ok (.putfield 194, 3) := dec_of t_X10_scan_ok 126 rfl
theorem dX10_scan_231 : decode cX10_scan 231 = .ok (.iload 6, 2) := dec_of t_X10_scan_ok 127 rfl
theorem dX10_scan_233 : decode cX10_scan 233 = .ok (.istore_n 3, 1) := dec_of t_X10_scan_ok 128 rfl
theorem dX10_scan_234 : decode cX10_scan 234 = .ok (.iinc 4 1, 3) := dec_of t_X10_scan_ok 129 rfl
theorem dX10_scan_237 : decode cX10_scan 237 = .ok (.goto (-223), 3) := dec_of t_X10_scan_ok 130 rfl
theorem dX10_scan_240 : decode cX10_scan 240 = .ok (.return_, 1) := dec_of t_X10_scan_ok 131 rfl
def t_X10_isAnyQuoted : List (Nat × Instr × Nat) := [(0, .iconst 0, 1), (1, .istore_n 3, 1), (2, .iload_n 1, 1), (3, .istore 4, 2), (5, .iload 4, 2), (7, .iload_n 2, 1), (8, .if_icmp .ge 29, 3), (11, .iload_n 3, 1), (12, .ifCond .ne 13, 3), (15, .aload_n 0, 1), (16, .getfield 102, 3), (19, .iload 4, 2), (21, .baload, 1), (22, .ifCond .eq 7, 3), (25, .iconst 1, 1), (26, .goto 4, 3), (29, .iconst 0, 1), (30, .istore_n 3, 1), (31, .iinc 4 1, 3), (34, .goto (-29), 3), (37, .iload_n 3, 1), (38, .ireturn, 1)]
theorem t_X10_isAnyQuoted_ok : dec_ok cX10_isAnyQuoted t_X10_isAnyQuoted = true := by decide +kernel
theorem dX10_isAnyQuoted_0 : decode cX10_isAnyQuoted 0 = .ok (.iconst 0, 1) := dec_of t_X10_isAnyQuoted_ok 0 rfl
theorem dX10_isAnyQuoted_1 : decode cX10_isAnyQuoted 1 = .ok (.istore_n 3, 1) := dec_of t_X10_isAnyQuoted_ok 1 rfl
theorem dX10_isAnyQuoted_2 : decode cX10_isAnyQuoted 2 = .ok (.iload_n 1, 1) := dec_of t_X10_isAnyQuoted_ok 2 rfl
theorem dX10_isAnyQuoted_3 : decode cX10_isAnyQuoted 3 = .ok (.istore 4, 2) := dec_of t_X10_isAnyQuoted_ok 3 rfl
theorem dX10_isAnyQuoted_5 : decode cX10_isAnyQuoted 5 = .ok (.iload 4, 2) := dec_of t_X10_isAnyQuoted_ok 4 rfl
theorem dX10_isAnyQuoted_7 : decode cX10_isAnyQuoted 7 = .ok (.iload_n 2, 1) := dec_of t_X10_isAnyQuoted_ok 5 rfl
theorem dX10_isAnyQuoted_8 : decode cX10_isAnyQuoted 8 = .ok (.if_icmp .ge 29, 3) := dec_of t_X10_isAnyQuoted_ok 6 rfl
theorem dX10_isAnyQuoted_11 : decode cX10_isAnyQuoted 11 = .ok (.iload_n 3, 1) := dec_of t_X10_isAnyQuoted_ok 7 rfl
theorem dX10_isAnyQuoted_12 : decode cX10_isAnyQuoted 12 = .ok (.ifCond .ne 13, 3) := dec_of t_X10_isAnyQuoted_ok 8 rfl
theorem dX10_isAnyQuoted_15 : decode cX10_isAnyQuoted 15 = .ok (.aload_n 0, 1) := dec_of t_X10_isAnyQuoted_ok 9 rfl
theorem dX10_isAnyQuoted_16 : decode cX10_isAnyQuoted 16 = .ok (.getfield 102, 3) := dec_of t_X10_isAnyQuoted_ok 10 rfl
theorem dX10_isAnyQuoted_19 : decode cX10_isAnyQuoted 19 = .ok (.iload 4, 2) := dec_of t_X10_isAnyQuoted_ok 11 rfl
theorem dX10_isAnyQuoted_21 : decode cX10_isAnyQuoted 21 = .ok (.baload, 1) := dec_of t_X10_isAnyQuoted_ok 12 rfl
theorem dX10_isAnyQuoted_22 : decode cX10_isAnyQuoted 22 = .ok (.ifCond .eq 7, 3) := dec_of t_X10_isAnyQuoted_ok 13 rfl
theorem dX10_isAnyQuoted_25 : decode cX10_isAnyQuoted 25 = .ok (.iconst 1, 1) := dec_of t_X10_isAnyQuoted_ok 14 rfl
theorem dX10_isAnyQuoted_26 : decode cX10_isAnyQuoted 26 = .ok (.goto 4, 3) := dec_of t_X10_isAnyQuoted_ok 15 rfl
theorem dX10_isAnyQuoted_29 : decode cX10_isAnyQuoted 29 = .ok (.iconst 0, 1) := dec_of t_X10_isAnyQuoted_ok 16 rfl
theorem dX10_isAnyQuoted_30 : decode cX10_isAnyQuoted 30 = .ok (.istore_n 3, 1) := dec_of t_X10_isAnyQuoted_ok 17 rfl
theorem dX10_isAnyQuoted_31 : decode cX10_isAnyQuoted 31 = .ok (.iinc 4 1, 3) := dec_of t_X10_isAnyQuoted_ok 18 rfl
theorem dX10_isAnyQuoted_34 : decode cX10_isAnyQuoted 34 = .ok (.goto (-29), 3) := dec_of t_X10_isAnyQuoted_ok 19 rfl
theorem dX10_isAnyQuoted_37 : decode cX10_isAnyQuoted 37 = .ok (.iload_n 3, 1) := dec_of t_X10_isAnyQuoted_ok 20 rfl
theorem dX10_isAnyQuoted_38 : decode cX10_isAnyQuoted 38 = .ok (.ireturn, 1) := dec_of t_X10_isAnyQuoted_ok 21 rfl
def t_X10_isFirstOfSentence : List (Nat × Instr × Nat) := [(0, .iload_n 1, 1), (1, .ifCond .eq 30, 3), (4, .aload_n 0, 1), (5, .getfield 99, 3), (8, .aload_n 0, 1), (9, .getfield 90, 3), (12, .iload_n 1, 1), (13, .iconst 1, 1), (14, .isub, 1), (15, .iaload, 1), (16, .iaload, 1), (17, .aload_n 0, 1), (18, .getfield 99, 3), (21, .aload_n 0, 1), (22, .getfield 90, 3), (25, .iload_n 1, 1), (26, .iaload, 1), (27, .iaload, 1), (28, .if_icmp .eq 5, 3), (31, .iconst 1, 1), (32, .ireturn, 1), (33, .iconst 0, 1), (34, .istore_n 2, 1), (35, .aload_n 0, 1), (36, .getfield 93, 3), (39, .iload_n 1, 1), (40, .iconst 1, 1), (41, .isub, 1), (42, .iaload, 1), (43, .istore_n 3, 1), (44, .iload_n 3, 1), (45, .aload_n 0, 1), (46, .getfield 90, 3), (49, .iload_n 1, 1), (50, .iaload, 1), (51, .if_icmp .ge 30, 3), (54, .iload_n 2, 1), (55, .ifCond .ne 14, 3), (58, .aload_n 0, 1), (59, .getfield 7, 3), (62, .iload_n 3, 1), (63, .caload, 1), (64, .bipush 46, 2), (66, .if_icmp .ne 7, 3), (69, .iconst 1, 1), (70, .goto 4, 3), (73, .iconst 0, 1), (74, .istore_n 2, 1), (75, .iinc 3 1, 3), (78, .goto (-34), 3), (81, .iload_n 2, 1), (82, .ireturn, 1)]
theorem t_X10_isFirstOfSentence_ok : dec_ok cX10_isFirstOfSentence t_X10_isFirstOfSentence = true := by decide +kernel
theorem dX10_isFirstOfSentence_0 : decode cX10_isFirstOfSentence 0 = .ok (.iload_n 1, 1) := dec_of t_X10_isFirstOfSentence_ok 0 rfl
theorem dX10_isFirstOfSentence_1 : decode cX10_isFirstOfSentence 1 = .ok (.ifCond .eq 30, 3) := dec_of t_X10_isFirstOfSentence_ok 1 rfl
theorem dX10_isFirstOfSentence_4 : decode cX10_isFirstOfSentence 4 = .ok (.aload_n 0, 1) := dec_of t_X10_isFirstOfSentence_ok 2 rfl
theorem dX10_isFirstOfSentence_5 : decode cX10_isFirstOfSentence 5 = .ok (.getfield 99, 3) := dec_of t_X10_isFirstOfSentence_ok 3 rfl
theorem dX10_isFirstOfSentence_8 : decode cX10_isFirstOfSentence 8 = .ok (.aload_n 0, 1) := dec_of t_X10_isFirstOfSentence_ok 4 rfl
theorem dX10_isFirstOfSentence_9 : decode cX10_isFirstOfSentence 9 = .ok (.getfield 90, 3) := dec_of t_X10_isFirstOfSentence_ok 5 rfl
theorem dX10_isFirstOfSentence_12 : decode cX10_isFirstOfSentence 12 = .ok (.iload_n 1, 1) := dec_of t_X10_isFirstOfSentence_ok 6 rfl
theorem dX10_isFirstOfSentence_13 : decode cX10_isFirstOfSentence 13 = .ok (.iconst 1, 1) := dec_of t_X10_isFirstOfSentence_ok 7 rfl
theorem dX10_isFirstOfSentence_14 : decode cX10_isFirstOfSentence 14 = .ok (.isub, 1) := dec_of t_X10_isFirstOfSentence_ok 8 rfl
theorem dX10_isFirstOfSentence_15 : decode cX10_isFirstOfSentence 15 = .ok (.iaload, 1) := dec_of t_X10_isFirstOfSentence_ok 9 rfl
theorem dX10_isFirstOfSentence_16 : decode cX10_isFirstOfSentence 16 = .ok (.iaload, 1) := dec_of t_X10_isFirstOfSentence_ok 10 rfl
theorem dX10_isFirstOfSentence_17 : decode cX10_isFirstOfSentence 17 = .ok (.aload_n 0, 1) := dec_of t_X10_isFirstOfSentence_ok 11 rfl
theorem dX10_isFirstOfSentence_18 : decode cX10_isFirstOfSentence 18 = .ok (.getfield 99, 3) := dec_of t_X10_isFirstOfSentence_ok 12 rfl
theorem dX10_isFirstOfSentence_21 : decode cX10_isFirstOfSentence 21 = .ok (.aload_n 0, 1) := dec_of t_X10_isFirstOfSentence_ok 13 rfl
theorem dX10_isFirstOfSentence_22 : decode cX10_isFirstOfSentence 22 = .ok (.getfield 90, 3) := dec_of t_X10_isFirstOfSentence_ok 14 rfl
theorem dX10_isFirstOfSentence_25 : decode cX10_isFirstOfSentence 25 = .ok (.iload_n 1, 1) := dec_of t_X10_isFirstOfSentence_ok 15 rfl
theorem dX10_isFirstOfSentence_26 : decode cX10_isFirstOfSentence 26 = .ok (.iaload, 1) := dec_of t_X10_isFirstOfSentence_ok 16 rfl
theorem dX10_isFirstOfSentence_27 : decode cX10_isFirstOfSentence 27 = .ok (.iaload, 1) := dec_of t_X10_isFirstOfSentence_ok 17 rfl
theorem dX10_isFirstOfSentence_28 : decode cX10_isFirstOfSentence 28 = .ok (.if_icmp .eq 5, 3) := dec_of t_X10_isFirstOfSentence_ok 18 rfl
theorem dX10_isFirstOfSentence_31 : decode cX10_isFirstOfSentence 31 = .ok (.iconst 1, 1) := dec_of t_X10_isFirstOfSentence_ok 19 rfl
theorem dX10_isFirstOfSentence_32 : decode cX10_isFirstOfSentence 32 = .ok (.ireturn, 1) := dec_of t_X10_isFirstOfSentence_ok 20 rfl
theorem dX10_isFirstOfSentence_33 : decode cX10_isFirstOfSentence 33 = .ok (.iconst 0, 1) := dec_of t_X10_isFirstOfSentence_ok 21 rfl
theorem dX10_isFirstOfSentence_34 : decode cX10_isFirstOfSentence 34 = .ok (.istore_n 2, 1) := dec_of t_X10_isFirstOfSentence_ok 22 rfl
theorem dX10_isFirstOfSentence_35 : decode cX10_isFirstOfSentence 35 = .ok (.aload_n 0, 1) := dec_of t_X10_isFirstOfSentence_ok 23 rfl
theorem dX10_isFirstOfSentence_36 : decode cX10_isFirstOfSentence 36 = .ok (.getfield 93, 3) := dec_of t_X10_isFirstOfSentence_ok 24 rfl
theorem dX10_isFirstOfSentence_39 : decode cX10_isFirstOfSentence 39 = .ok (.iload_n 1, 1) := dec_of t_X10_isFirstOfSentence_ok 25 rfl
theorem dX10_isFirstOfSentence_40 : decode cX10_isFirstOfSentence 40 = .ok (.iconst 1, 1) := dec_of t_X10_isFirstOfSentence_ok 26 rfl
theorem dX10_isFirstOfSentence_41 : decode cX10_isFirstOfSentence 41 = .ok (.isub, 1) := dec_of t_X10_isFirstOfSentence_ok 27 rfl
theorem dX10_isFirstOfSentence_42 : decode cX10_isFirstOfSentence 42 = .ok (.iaload, 1) := dec_of t_X10_isFirstOfSentence_ok 28 rfl
theorem dX10_isFirstOfSentence_43 : decode cX10_isFirstOfSentence 43 = .ok (.istore_n 3, 1) := dec_of t_X10_isFirstOfSentence_ok 29 rfl
theorem dX10_isFirstOfSentence_44 : decode cX10_isFirstOfSentence 44 = .ok (.iload_n 3, 1) := dec_of t_X10_isFirstOfSentence_ok 30 rfl
theorem dX10_isFirstOfSentence_45 : decode cX10_isFirstOfSentence 45 = .ok (.aload_n 0, 1) := dec_of t_X10_isFirstOfSentence_ok 31 rfl
theorem dX10_isFirstOfSentence_46 : decode cX10_isFirstOfSentence 46 = .ok (.getfield 90, 3) := dec_of t_X10_isFirstOfSentence_ok 32 rfl
theorem dX10_isFirstOfSentence_49 : decode cX10_isFirstOfSentence 49 = .ok (.iload_n 1, 1) := dec_of t_X10_isFirstOfSentence_ok 33 rfl
theorem dX10_isFirstOfSentence_50 : decode cX10_isFirstOfSentence 50 = .ok (.iaload, 1) := dec_of t_X10_isFirstOfSentence_ok 34 rfl
theorem dX10_isFirstOfSentence_51 : decode cX10_isFirstOfSentence 51 = .ok (.if_icmp .ge 30, 3) := dec_of t_X10_isFirstOfSentence_ok 35 rfl
theorem dX10_isFirstOfSentence_54 : decode cX10_isFirstOfSentence 54 = .ok (.iload_n 2, 1) := dec_of t_X10_isFirstOfSentence_ok 36 rfl
theorem dX10_isFirstOfSentence_55 : decode cX10_isFirstOfSentence 55 = .ok (.ifCond .ne 14, 3) := dec_of t_X10_isFirstOfSentence_ok 37 rfl
theorem dX10_isFirstOfSentence_58 : decode cX10_isFirstOfSentence 58 = .ok (.aload_n 0, 1) := dec_of t_X10_isFirstOfSentence_ok 38 rfl
theorem dX10_isFirstOfSentence_59 : decode cX10_isFirstOfSentence 59 = .ok (.getfield 7, 3) := dec_of t_X10_isFirstOfSentence_ok 39 rfl
theorem dX10_isFirstOfSentence_62 : decode cX10_isFirstOfSentence 62 = .ok (.iload_n 3, 1) := dec_of t_X10_isFirstOfSentence_ok 40 rfl
theorem dX10_isFirstOfSentence_63 : decode cX10_isFirstOfSentence 63 = .ok (.caload, 1) := dec_of t_X10_isFirstOfSentence_ok 41 rfl
theorem dX10_isFirstOfSentence_64 : decode cX10_isFirstOfSentence 64 = .ok (.bipush 46, 2) := dec_of t_X10_isFirstOfSentence_ok 42 rfl
theorem dX10_isFirstOfSentence_66 : decode cX10_isFirstOfSentence 66 = .ok (.if_icmp .ne 7, 3) := dec_of t_X10_isFirstOfSentence_ok 43 rfl
theorem dX10_isFirstOfSentence_69 : decode cX10_isFirstOfSentence 69 = .ok (.iconst 1, 1) := dec_of t_X10_isFirstOfSentence_ok 44 rfl
theorem dX10_isFirstOfSentence_70 : decode cX10_isFirstOfSentence 70 = .ok (.goto 4, 3) := dec_of t_X10_isFirstOfSentence_ok 45 rfl
theorem dX10_isFirstOfSentence_73 : decode cX10_isFirstOfSentence 73 = .ok (.iconst 0, 1) := dec_of t_X10_isFirstOfSentence_ok 46 rfl
theorem dX10_isFirstOfSentence_74 : decode cX10_isFirstOfSentence 74 = .ok (.istore_n 2, 1) := dec_of t_X10_isFirstOfSentence_ok 47 rfl
theorem dX10_isFirstOfSentence_75 : decode cX10_isFirstOfSentence 75 = .ok (.iinc 3 1, 3) := dec_of t_X10_isFirstOfSentence_ok 48 rfl
theorem dX10_isFirstOfSentence_78 : decode cX10_isFirstOfSentence 78 = .ok (.goto (-34), 3) := dec_of t_X10_isFirstOfSentence_ok 49 rfl
theorem dX10_isFirstOfSentence_81 : decode cX10_isFirstOfSentence 81 = .ok (.iload_n 2, 1) := dec_of t_X10_isFirstOfSentence_ok 50 rfl
theorem dX10_isFirstOfSentence_82 : decode cX10_isFirstOfSentence 82 = .ok (.ireturn, 1) := dec_of t_X10_isFirstOfSentence_ok 51 rfl
def t_X10_isAt : List (Nat × Instr × Nat) := [(0, .iload_n 2, 1), (1, .aload_n 0, 1), (2, .getfield 20, 3), (5, .iload_n 1, 1), (6, .iaload, 1), (7, .iadd, 1), (8, .aload_n 0, 1), (9, .getfield 194, 3), (12, .if_icmp .gt 7, 3), (15, .iconst 1, 1), (16, .goto 4, 3), (19, .iconst 0, 1), (20, .istore_n 3, 1), (21, .iconst 0, 1), (22, .istore 4, 2), (24, .iload 4, 2), (26, .aload_n 0, 1), (27, .getfield 20, 3), (30, .iload_n 1, 1), (31, .iaload, 1), (32, .if_icmp .ge 89, 3), (35, .iload_n 3, 1), (36, .ifCond .eq 85, 3), (39, .aload_n 0, 1), (40, .iload_n 2, 1), (41, .iload 4, 2), (43, .iadd, 1), (44, .iload_n 1, 1), (45, .iconst 3, 1), (46, .imul, 1), (47, .iload 4, 2), (49, .iadd, 1), (50, .invokevirtual 197, 3), (53, .istore_n 3, 1), (54, .iload_n 3, 1), (55, .ifCond .eq 58, 3), (58, .iload 4, 2), (60, .ifCond .eq 49, 3), (63, .aload_n 0, 1), (64, .getfield 90, 3), (67, .iload_n 2, 1), (68, .iload 4, 2), (70, .iadd, 1), (71, .iaload, 1), (72, .aload_n 0, 1), (73, .getfield 93, 3), (76, .iload_n 2, 1), (77, .iload 4, 2), (79, .iadd, 1), (80, .iconst 1, 1), (81, .isub, 1), (82, .iaload, 1), (83, .iconst 1, 1), (84, .iadd, 1), (85, .if_icmp .ne 28, 3), (88, .aload_n 0, 1), (89, .getfield 7, 3), (92, .aload_n 0, 1), (93, .getfield 93, 3), (96, .iload_n 2, 1), (97, .iload 4, 2), (99, .iadd, 1), (100, .iconst 1, 1), (101, .isub, 1), (102, .iaload, 1), (103, .caload, 1), (104, .bipush 32, 2), (106, .if_icmp .ne 7, 3), (109, .iconst 1, 1), (110, .goto 4, 3), (113, .iconst 0, 1), (114, .istore_n 3, 1), (115, .iinc 4 1, 3), (118, .goto (-94), 3), (121, .iload_n 3, 1), (122, .ireturn, 1)]
theorem t_X10_isAt_ok : dec_ok cX10_isAt t_X10_isAt = true := by decide +kernel
theorem dX10_isAt_0 : decode cX10_isAt 0 = .ok (.iload_n 2, 1) := dec_of t_X10_isAt_ok 0 rfl
theorem dX10_isAt_1 : decode cX10_isAt 1 = .ok (.aload_n 0, 1) := dec_of t_X10_isAt_ok 1 rfl
theorem dX10_isAt_2 : decode cX10_isAt 2 = .ok (.getfield 20, 3) := dec_of t_X10_isAt_ok 2 rfl
theorem dX10_isAt_5 : decode cX10_isAt 5 = .ok (.iload_n 1, 1) := dec_of t_X10_isAt_ok 3 rfl
theorem dX10_isAt_6 : decode cX10_isAt 6 = .ok (.iaload, 1) := dec_of t_X10_isAt_ok 4 rfl
theorem dX10_isAt_7 : decode cX10_isAt 7 = .ok (.iadd, 1) := dec_of t_X10_isAt_ok 5 rfl
theorem dX10_isAt_8 : decode cX10_isAt 8 = .ok (.aload_n 0, 1) := dec_of t_X10_isAt_ok 6 rfl
theorem dX10_isAt_9 : decode cX10_isAt 9 = .ok (.getfield 194, 3) := dec_of t_X10_isAt_ok 7 rfl
theorem dX10_isAt_12 : decode cX10_isAt 12 = .ok (.if_icmp .gt 7, 3) := dec_of t_X10_isAt_ok 8 rfl
theorem dX10_isAt_15 : decode cX10_isAt 15 = .ok (.iconst 1, 1) := dec_of t_X10_isAt_ok 9 rfl
theorem dX10_isAt_16 : decode cX10_isAt 16 = .ok (.goto 4, 3) := dec_of t_X10_isAt_ok 10 rfl
theorem dX10_isAt_19 : decode cX10_isAt 19 = .ok (.iconst 0, 1) := dec_of t_X10_isAt_ok 11 rfl
theorem dX10_isAt_20 : decode cX10_isAt 20 = .ok (.istore_n 3, 1) := dec_of t_X10_isAt_ok 12 rfl
theorem dX10_isAt_21 : decode cX10_isAt 21 = .ok (.iconst 0, 1) := dec_of t_X10_isAt_ok 13 rfl
theorem dX10_isAt_22 : decode cX10_isAt 22 = .ok (.istore 4, 2) := dec_of t_X10_isAt_ok 14 rfl
theorem dX10_isAt_24 : decode cX10_isAt 24 = .ok (.iload 4, 2) := dec_of t_X10_isAt_ok 15 rfl
theorem dX10_isAt_26 : decode cX10_isAt 26 = .ok (.aload_n 0, 1) := dec_of t_X10_isAt_ok 16 rfl
theorem dX10_isAt_27 : decode cX10_isAt 27 = .ok (.getfield 20, 3) := dec_of t_X10_isAt_ok 17 rfl
theorem dX10_isAt_30 : decode cX10_isAt 30 = .ok (.iload_n 1, 1) := dec_of t_X10_isAt_ok 18 rfl
theorem dX10_isAt_31 : decode cX10_isAt 31 = .ok (.iaload, 1) := dec_of t_X10_isAt_ok 19 rfl
theorem dX10_isAt_32 : decode cX10_isAt 32 = .ok (.if_icmp .ge 89, 3) := dec_of t_X10_isAt_ok 20 rfl
theorem dX10_isAt_35 : decode cX10_isAt 35 = .ok (.iload_n 3, 1) := dec_of t_X10_isAt_ok 21 rfl
theorem dX10_isAt_36 : decode cX10_isAt 36 = .ok (.ifCond .eq 85, 3) := dec_of t_X10_isAt_ok 22 rfl
theorem dX10_isAt_39 : decode cX10_isAt 39 = .ok (.aload_n 0, 1) := dec_of t_X10_isAt_ok 23 rfl
theorem dX10_isAt_40 : decode cX10_isAt 40 = .ok (.iload_n 2, 1) := dec_of t_X10_isAt_ok 24 rfl
theorem dX10_isAt_41 : decode cX10_isAt 41 = .ok (.iload 4, 2) := dec_of t_X10_isAt_ok 25 rfl
theorem dX10_isAt_43 : decode cX10_isAt 43 = .ok (.iadd, 1) := dec_of t_X10_isAt_ok 26 rfl
theorem dX10_isAt_44 : decode cX10_isAt 44 = .ok (.iload_n 1, 1) := dec_of t_X10_isAt_ok 27 rfl
theorem dX10_isAt_45 : decode cX10_isAt 45 = .ok (.iconst 3, 1) := dec_of t_X10_isAt_ok 28 rfl
theorem dX10_isAt_46 : decode cX10_isAt 46 = .ok (.imul, 1) := dec_of t_X10_isAt_ok 29 rfl
theorem dX10_isAt_47 : decode cX10_isAt 47 = .ok (.iload 4, 2) := dec_of t_X10_isAt_ok 30 rfl
theorem dX10_isAt_49 : decode cX10_isAt 49 = .ok (.iadd, 1) := dec_of t_X10_isAt_ok 31 rfl
theorem dX10_isAt_50 : decode cX10_isAt 50 = .ok (.invokevirtual 197, 3) := dec_of t_X10_isAt_ok 32 rfl
theorem dX10_isAt_53 : decode cX10_isAt 53 = .ok (.istore_n 3, 1) := dec_of t_X10_isAt_ok 33 rfl
theorem dX10_isAt_54 : decode cX10_isAt 54 = .ok (.iload_n 3, 1) := dec_of t_X10_isAt_ok 34 rfl
theorem dX10_isAt_55 : decode cX10_isAt 55 = .ok (.ifCond .eq 58, 3) := dec_of t_X10_isAt_ok 35 rfl
theorem dX10_isAt_58 : decode cX10_isAt 58 = .ok (.iload 4, 2) := dec_of t_X10_isAt_ok 36 rfl
theorem dX10_isAt_60 : decode cX10_isAt 60 = .ok (.ifCond .eq 49, 3) := dec_of t_X10_isAt_ok 37 rfl
theorem dX10_isAt_63 : decode cX10_isAt 63 = .ok (.aload_n 0, 1) := dec_of t_X10_isAt_ok 38 rfl
theorem dX10_isAt_64 : decode cX10_isAt 64 = .ok (.getfield 90, 3) := dec_of t_X10_isAt_ok 39 rfl
theorem dX10_isAt_67 : decode cX10_isAt 67 = .ok (.iload_n 2, 1) := dec_of t_X10_isAt_ok 40 rfl
theorem dX10_isAt_68 : decode cX10_isAt 68 = .ok (.iload 4, 2) := dec_of t_X10_isAt_ok 41 rfl
theorem dX10_isAt_70 : decode cX10_isAt 70 = .ok (.iadd, 1) := dec_of t_X10_isAt_ok 42 rfl
theorem dX10_isAt_71 : decode cX10_isAt 71 = .ok (.iaload, 1) := dec_of t_X10_isAt_ok 43 rfl
theorem dX10_isAt_72 : decode cX10_isAt 72 = .ok (.aload_n 0, 1) := dec_of t_X10_isAt_ok 44 rfl
theorem dX10_isAt_73 : decode cX10_isAt 73 = .ok (.getfield 93, 3) := dec_of t_X10_isAt_ok 45 rfl
theorem dX10_isAt_76 : decode cX10_isAt 76 = .ok (.iload_n 2, 1) := dec_of t_X10_isAt_ok 46 rfl
theorem dX10_isAt_77 : decode cX10_isAt 77 = .ok (.iload 4, 2) := dec_of t_X10_isAt_ok 47 rfl
theorem dX10_isAt_79 : decode cX10_isAt 79 = .ok (.iadd, 1) := dec_of t_X10_isAt_ok 48 rfl
theorem dX10_isAt_80 : decode cX10_isAt 80 = .ok (.iconst 1, 1) := dec_of t_X10_isAt_ok 49 rfl
theorem dX10_isAt_81 : decode cX10_isAt 81 = .ok (.isub, 1) := dec_of t_X10_isAt_ok 50 rfl
theorem dX10_isAt_82 : decode cX10_isAt 82 = .ok (.iaload, 1) := dec_of t_X10_isAt_ok 51 rfl
theorem dX10_isAt_83 : decode cX10_isAt 83 = .ok (.iconst 1, 1) := dec_of t_X10_isAt_ok 52 rfl
theorem dX10_isAt_84 : decode cX10_isAt 84 = .ok (.iadd, 1) := dec_of t_X10_isAt_ok 53 rfl
theorem dX10_isAt_85 : decode cX10_isAt 85 = .ok (.if_icmp .ne 28, 3) := dec_of t_X10_isAt_ok 54 rfl
theorem dX10_isAt_88 : decode cX10_isAt 88 = .ok (.aload_n 0, 1) := dec_of t_X10_isAt_ok 55 rfl
theorem dX10_isAt_89 : decode cX10_isAt 89 = .ok (.getfield 7, 3) := dec_of t_X10_isAt_ok 56 rfl
theorem dX10_isAt_92 : decode cX10_isAt 92 = .ok (.aload_n 0, 1) := dec_of t_X10_isAt_ok 57 rfl
theorem dX10_isAt_93 : decode cX10_isAt 93 = .ok (.getfield 93, 3) := dec_of t_X10_isAt_ok 58 rfl
theorem dX10_isAt_96 : decode cX10_isAt 96 = .ok (.iload_n 2, 1) := dec_of t_X10_isAt_ok 59 rfl
theorem dX10_isAt_97 : decode cX10_isAt 97 = .ok (.iload 4, 2) := dec_of t_X10_isAt_ok 60 rfl
theorem dX10_isAt_99 : decode cX10_isAt 99 = .ok (.iadd, 1) := dec_of t_X10_isAt_ok 61 rfl
theorem dX10_isAt_100 : decode cX10_isAt 100 = .ok (.iconst 1, 1) := dec_of t_X10_isAt_ok 62 rfl
theorem dX10_isAt_101 : decode cX10_isAt 101 = .ok (.isub, 1) := dec_of t_X10_isAt_ok 63 rfl
theorem dX10_isAt_102 : decode cX10_isAt 102 = .ok (.iaload, 1) := dec_of t_X10_isAt_ok 64 rfl
theorem dX10_isAt_103 : decode cX10_isAt 103 = .ok (.caload, 1) := dec_of t_X10_isAt_ok 65 rfl
theorem dX10_isAt_104 : decode cX10_isAt 104 = .ok (.bipush 32, 2) := dec_of t_X10_isAt_ok 66 rfl
theorem dX10_isAt_106 : decode cX10_isAt 106 = .ok (.if_icmp .ne 7, 3) := dec_of t_X10_isAt_ok 67 rfl
theorem dX10_isAt_109 : decode cX10_isAt 109 = .ok (.iconst 1, 1) := dec_of t_X10_isAt_ok 68 rfl
theorem dX10_isAt_110 : decode cX10_isAt 110 = .ok (.goto 4, 3) := dec_of t_X10_isAt_ok 69 rfl
theorem dX10_isAt_113 : decode cX10_isAt 113 = .ok (.iconst 0, 1) := dec_of t_X10_isAt_ok 70 rfl
theorem dX10_isAt_114 : decode cX10_isAt 114 = .ok (.istore_n 3, 1) := dec_of t_X10_isAt_ok 71 rfl
theorem dX10_isAt_115 : decode cX10_isAt 115 = .ok (.iinc 4 1, 3) := dec_of t_X10_isAt_ok 72 rfl
theorem dX10_isAt_118 : decode cX10_isAt 118 = .ok (.goto (-94), 3) := dec_of t_X10_isAt_ok 73 rfl
theorem dX10_isAt_121 : decode cX10_isAt 121 = .ok (.iload_n 3, 1) := dec_of t_X10_isAt_ok 74 rfl
theorem dX10_isAt_122 : decode cX10_isAt 122 = .ok (.ireturn, 1) := dec_of t_X10_isAt_ok 75 rfl
def t_X10_isExcepted : List (Nat × Instr × Nat) := [(0, .iload_n 2, 1), (1, .ifCond .eq 41, 3), (4, .aload_n 0, 1), (5, .getfield 96, 3), (8, .iload_n 2, 1), (9, .iconst 1, 1), (10, .isub, 1), (11, .baload, 1), (12, .ifCond .eq 30, 3), (15, .aload_n 0, 1), (16, .getfield 99, 3), (19, .aload_n 0, 1), (20, .getfield 90, 3), (23, .iload_n 2, 1), (24, .iconst 1, 1), (25, .isub, 1), (26, .iaload, 1), (27, .iaload, 1), (28, .aload_n 0, 1), (29, .getfield 99, 3), (32, .aload_n 0, 1), (33, .getfield 90, 3), (36, .iload_n 2, 1), (37, .iaload, 1), (38, .iaload, 1), (39, .if_icmp .eq 5, 3), (42, .iconst 0, 1), (43, .ireturn, 1), (44, .iconst 0, 1), (45, .istore_n 3, 1), (46, .iload_n 1, 1), (47, .iconst 3, 1), (48, .imul, 1), (49, .istore 4, 2), (51, .iload 4, 2), (53, .iload_n 1, 1), (54, .iconst 3, 1), (55, .imul, 1), (56, .aload_n 0, 1), (57, .getfield 42, 3), (60, .iload_n 1, 1), (61, .iaload, 1), (62, .iadd, 1), (63, .if_icmp .ge 123, 3), (66, .aload_n 0, 1), (67, .getfield 93, 3), (70, .iload_n 2, 1), (71, .iconst 1, 1), (72, .isub, 1), (73, .iaload, 1), (74, .aload_n 0, 1), (75, .getfield 90, 3), (78, .iload_n 2, 1), (79, .iconst 1, 1), (80, .isub, 1), (81, .iaload, 1), (82, .isub, 1), (83, .aload_n 0, 1), (84, .getfield 48, 3), (87, .iload 4, 2), (89, .iaload, 1), (90, .if_icmp .ne 7, 3), (93, .iconst 1, 1), (94, .goto 4, 3), (97, .iconst 0, 1), (98, .istore 5, 2), (100, .iconst 0, 1), (101, .istore 6, 2), (103, .iload 6, 2), (105, .aload_n 0, 1), (106, .getfield 48, 3), (109, .iload 4, 2), (111, .iaload, 1), (112, .if_icmp .ge 53, 3), (115, .iload 5, 2), (117, .ifCond .eq 48, 3), (120, .aload_n 0, 1), (121, .getfield 7, 3), (124, .aload_n 0, 1), (125, .getfield 90, 3), (128, .iload_n 2, 1), (129, .iconst 1, 1), (130, .isub, 1), (131, .iaload, 1), (132, .iload 6, 2), (134, .iadd, 1), (135, .caload, 1), (136, .aload_n 0, 1), (137, .getfield 45, 3), (140, .iload 4, 2), (142, .bipush 20, 2), (144, .imul, 1), (145, .iload 6, 2), (147, .iadd, 1), (148, .caload, 1), (149, .if_icmp .ne 7, 3), (152, .iconst 1, 1), (153, .goto 4, 3), (156, .iconst 0, 1), (157, .istore 5, 2), (159, .iinc 6 1, 3), (162, .goto (-59), 3), (165, .iload_n 3, 1), (166, .ifCond .ne 8, 3), (169, .iload 5, 2), (171, .ifCond .eq 7, 3), (174, .iconst 1, 1), (175, .goto 4, 3), (178, .iconst 0, 1), (179, .istore_n 3, 1), (180, .iinc 4 1, 3), (183, .goto (-132), 3), (186, .iload_n 3, 1), (187, .ireturn, 1)]
theorem t_X10_isExcepted_ok : dec_ok cX10_isExcepted t_X10_isExcepted = true := by decide +kernel
theorem dX10_isExcepted_0 : decode cX10_isExcepted 0 = .ok (.iload_n 2, 1) := dec_of t_X10_isExcepted_ok 0 rfl
theorem dX10_isExcepted_1 : decode cX10_isExcepted 1 = .ok (.ifCond .eq 41, 3) := dec_of t_X10_isExcepted_ok 1 rfl
theorem dX10_isExcepted_4 : decode cX10_isExcepted 4 = .ok (.aload_n 0, 1) := dec_of t_X10_isExcepted_ok 2 rfl
theorem dX10_isExcepted_5 : decode cX10_isExcepted 5 = .ok (.getfield 96, 3) := dec_of t_X10_isExcepted_ok 3 rfl
theorem dX10_isExcepted_8 : decode cX10_isExcepted 8 = .ok (.iload_n 2, 1) := dec_of t_X10_isExcepted_ok 4 rfl
theorem dX10_isExcepted_9 : decode cX10_isExcepted 9 = .ok (.iconst 1, 1) := dec_of t_X10_isExcepted_ok 5 rfl
theorem dX10_isExcepted_10 : decode cX10_isExcepted 10 = .ok (.isub, 1) := dec_of t_X10_isExcepted_ok 6 rfl
theorem dX10_isExcepted_11 : decode cX10_isExcepted 11 = .ok (.baload, 1) := dec_of t_X10_isExcepted_ok 7 rfl
theorem dX10_isExcepted_12 : decode cX10_isExcepted 12 = .ok (.ifCond .eq 30, 3) := dec_of t_X10_isExcepted_ok 8 rfl
theorem dX10_isExcepted_15 : decode cX10_isExcepted 15 = .ok (.aload_n 0, 1) := dec_of t_X10_isExcepted_ok 9 rfl
theorem dX10_isExcepted_16 : decode cX10_isExcepted 16 = .ok (.getfield 99, 3) := dec_of t_X10_isExcepted_ok 10 rfl
theorem dX10_isExcepted_19 : decode cX10_isExcepted 19 = .ok (.aload_n 0, 1) := dec_of t_X10_isExcepted_ok 11 rfl
theorem dX10_isExcepted_20 : decode cX10_isExcepted 20 = .ok (.getfield 90, 3) := dec_of t_X10_isExcepted_ok 12 rfl
theorem dX10_isExcepted_23 : decode cX10_isExcepted 23 = .ok (.iload_n 2, 1) := dec_of t_X10_isExcepted_ok 13 rfl
theorem dX10_isExcepted_24 : decode cX10_isExcepted 24 = .ok (.iconst 1, 1) := dec_of t_X10_isExcepted_ok 14 rfl
theorem dX10_isExcepted_25 : decode cX10_isExcepted 25 = .ok (.isub, 1) := dec_of t_X10_isExcepted_ok 15 rfl
theorem dX10_isExcepted_26 : decode cX10_isExcepted 26 = .ok (.iaload, 1) := dec_of t_X10_isExcepted_ok 16 rfl
theorem dX10_isExcepted_27 : decode cX10_isExcepted 27 = .ok (.iaload, 1) := dec_of t_X10_isExcepted_ok 17 rfl
theorem dX10_isExcepted_28 : decode cX10_isExcepted 28 = .ok (.aload_n 0, 1) := dec_of t_X10_isExcepted_ok 18 rfl
theorem dX10_isExcepted_29 : decode cX10_isExcepted 29 = .ok (.getfield 99, 3) := dec_of t_X10_isExcepted_ok 19 rfl
theorem dX10_isExcepted_32 : decode cX10_isExcepted 32 = .ok (.aload_n 0, 1) := dec_of t_X10_isExcepted_ok 20 rfl
theorem dX10_isExcepted_33 : decode cX10_isExcepted 33 = .ok (.getfield 90, 3) := dec_of t_X10_isExcepted_ok 21 rfl
theorem dX10_isExcepted_36 : decode cX10_isExcepted 36 = .ok (.iload_n 2, 1) := dec_of t_X10_isExcepted_ok 22 rfl
theorem dX10_isExcepted_37 : decode cX10_isExcepted 37 = .ok (.iaload, 1) := dec_of t_X10_isExcepted_ok 23 rfl
theorem dX10_isExcepted_38 : decode cX10_isExcepted 38 = .ok (.iaload, 1) := dec_of t_X10_isExcepted_ok 24 rfl
theorem dX10_isExcepted_39 : decode cX10_isExcepted 39 = .ok (.if_icmp .eq 5, 3) := dec_of t_X10_isExcepted_ok 25 rfl
theorem dX10_isExcepted_42 : decode cX10_isExcepted 42 = .ok (.iconst 0, 1) := dec_of t_X10_isExcepted_ok 26 rfl
theorem dX10_isExcepted_43 : decode cX10_isExcepted 43 = .ok (.ireturn, 1) := dec_of t_X10_isExcepted_ok 27 rfl
theorem dX10_isExcepted_44 : decode cX10_isExcepted 44 = .ok (.iconst 0, 1) := dec_of t_X10_isExcepted_ok 28 rfl
theorem dX10_isExcepted_45 : decode cX10_isExcepted 45 = .ok (.istore_n 3, 1) := dec_of t_X10_isExcepted_ok 29 rfl
theorem dX10_isExcepted_46 : decode cX10_isExcepted 46 = .ok (.iload_n 1, 1) := dec_of t_X10_isExcepted_ok 30 rfl
theorem dX10_isExcepted_47 : decode cX10_isExcepted 47 = .ok (.iconst 3, 1) := dec_of t_X10_isExcepted_ok 31 rfl
theorem dX10_isExcepted_48 : decode cX10_isExcepted 48 = .ok (.imul, 1) := dec_of t_X10_isExcepted_ok 32 rfl
theorem dX10_isExcepted_49 : decode cX10_isExcepted 49 = .ok (.istore 4, 2) := dec_of t_X10_isExcepted_ok 33 rfl
theorem dX10_isExcepted_51 : decode cX10_isExcepted 51 = .ok (.iload 4, 2) := dec_of t_X10_isExcepted_ok 34 rfl
theorem dX10_isExcepted_53 : decode cX10_isExcepted 53 = .ok (.iload_n 1, 1) := dec_of t_X10_isExcepted_ok 35 rfl
theorem dX10_isExcepted_54 : decode cX10_isExcepted 54 = .ok (.iconst 3, 1) := dec_of t_X10_isExcepted_ok 36 rfl
theorem dX10_isExcepted_55 : decode cX10_isExcepted 55 = .ok (.imul, 1) := dec_of t_X10_isExcepted_ok 37 rfl
theorem dX10_isExcepted_56 : decode cX10_isExcepted 56 = .ok (.aload_n 0, 1) := dec_of t_X10_isExcepted_ok 38 rfl
theorem dX10_isExcepted_57 : decode cX10_isExcepted 57 = .ok (.getfield 42, 3) := dec_of t_X10_isExcepted_ok 39 rfl
theorem dX10_isExcepted_60 : decode cX10_isExcepted 60 = .ok (.iload_n 1, 1) := dec_of t_X10_isExcepted_ok 40 rfl
theorem dX10_isExcepted_61 : decode cX10_isExcepted 61 = .ok (.iaload, 1) := dec_of t_X10_isExcepted_ok 41 rfl
theorem dX10_isExcepted_62 : decode cX10_isExcepted 62 = .ok (.iadd, 1) := dec_of t_X10_isExcepted_ok 42 rfl
theorem dX10_isExcepted_63 : decode cX10_isExcepted 63 = .ok (.if_icmp .ge 123, 3) := dec_of t_X10_isExcepted_ok 43 rfl
theorem dX10_isExcepted_66 : decode cX10_isExcepted 66 = .ok (.aload_n 0, 1) := dec_of t_X10_isExcepted_ok 44 rfl
theorem dX10_isExcepted_67 : decode cX10_isExcepted 67 = .ok (.getfield 93, 3) := dec_of t_X10_isExcepted_ok 45 rfl
theorem dX10_isExcepted_70 : decode cX10_isExcepted 70 = .ok (.iload_n 2, 1) := dec_of t_X10_isExcepted_ok 46 rfl
theorem dX10_isExcepted_71 : decode cX10_isExcepted 71 = .ok (.iconst 1, 1) := dec_of t_X10_isExcepted_ok 47 rfl
theorem dX10_isExcepted_72 : decode cX10_isExcepted 72 = .ok (.isub, 1) := dec_of t_X10_isExcepted_ok 48 rfl
theorem dX10_isExcepted_73 : decode cX10_isExcepted 73 = .ok (.iaload, 1) := dec_of t_X10_isExcepted_ok 49 rfl
theorem dX10_isExcepted_74 : decode cX10_isExcepted 74 = .ok (.aload_n 0, 1) := dec_of t_X10_isExcepted_ok 50 rfl
theorem dX10_isExcepted_75 : decode cX10_isExcepted 75 = .ok (.getfield 90, 3) := dec_of t_X10_isExcepted_ok 51 rfl
theorem dX10_isExcepted_78 : decode cX10_isExcepted 78 = .ok (.iload_n 2, 1) := dec_of t_X10_isExcepted_ok 52 rfl
theorem dX10_isExcepted_79 : decode cX10_isExcepted 79 = .ok (.iconst 1, 1) := dec_of t_X10_isExcepted_ok 53 rfl
theorem dX10_isExcepted_80 : decode cX10_isExcepted 80 = .ok (.isub, 1) := dec_of t_X10_isExcepted_ok 54 rfl
theorem dX10_isExcepted_81 : decode cX10_isExcepted 81 = .ok (.iaload, 1) := dec_of t_X10_isExcepted_ok 55 rfl
theorem dX10_isExcepted_82 : decode cX10_isExcepted 82 = .ok (.isub, 1) := dec_of t_X10_isExcepted_ok 56 rfl
theorem dX10_isExcepted_83 : decode cX10_isExcepted 83 = .ok (.aload_n 0, 1) := dec_of t_X10_isExcepted_ok 57 rfl
theorem dX10_isExcepted_84 : decode cX10_isExcepted 84 = .ok (.getfield 48, 3) := dec_of t_X10_isExcepted_ok 58 rfl
theorem dX10_isExcepted_87 : decode cX10_isExcepted 87 = .ok (.iload 4, 2) := dec_of t_X10_isExcepted_ok 59 rfl
theorem dX10_isExcepted_89 : decode cX10_isExcepted 89 = .ok (.iaload, 1) := dec_of t_X10_isExcepted_ok 60 rfl
theorem dX10_isExcepted_90 : decode cX10_isExcepted 90 = .ok (.if_icmp .ne 7, 3) := dec_of t_X10_isExcepted_ok 61 rfl
theorem dX10_isExcepted_93 : decode cX10_isExcepted 93 = .ok (.iconst 1, 1) := dec_of t_X10_isExcepted_ok 62 rfl
theorem dX10_isExcepted_94 : decode cX10_isExcepted 94 = .ok (.goto 4, 3) := dec_of t_X10_isExcepted_ok 63 rfl
theorem dX10_isExcepted_97 : decode cX10_isExcepted 97 = .ok (.iconst 0, 1) := dec_of t_X10_isExcepted_ok 64 rfl
theorem dX10_isExcepted_98 : decode cX10_isExcepted 98 = .ok (.istore 5, 2) := dec_of t_X10_isExcepted_ok 65 rfl
theorem dX10_isExcepted_100 : decode cX10_isExcepted 100 = .ok (.iconst 0, 1) := dec_of t_X10_isExcepted_ok 66 rfl
theorem dX10_isExcepted_101 : decode cX10_isExcepted 101 = .ok (.istore 6, 2) := dec_of t_X10_isExcepted_ok 67 rfl
theorem dX10_isExcepted_103 : decode cX10_isExcepted 103 = .ok (.iload 6, 2) := dec_of t_X10_isExcepted_ok 68 rfl
theorem dX10_isExcepted_105 : decode cX10_isExcepted 105 = .ok (.aload_n 0, 1) := dec_of t_X10_isExcepted_ok 69 rfl
theorem dX10_isExcepted_106 : decode cX10_isExcepted 106 = .ok (.getfield 48, 3) := dec_of t_X10_isExcepted_ok 70 rfl
theorem dX10_isExcepted_109 : decode cX10_isExcepted 109 = .ok (.iload 4, 2) := dec_of t_X10_isExcepted_ok 71 rfl
theorem dX10_isExcepted_111 : decode cX10_isExcepted 111 = .ok (.iaload, 1) := dec_of t_X10_isExcepted_ok 72 rfl
theorem dX10_isExcepted_112 : decode cX10_isExcepted 112 = .ok (.if_icmp .ge 53, 3) := dec_of t_X10_isExcepted_ok 73 rfl
theorem dX10_isExcepted_115 : decode cX10_isExcepted 115 = .ok (.iload 5, 2) := dec_of t_X10_isExcepted_ok 74 rfl
theorem dX10_isExcepted_117 : decode cX10_isExcepted 117 = .ok (.ifCond .eq 48, 3) := dec_of t_X10_isExcepted_ok 75 rfl
theorem dX10_isExcepted_120 : decode cX10_isExcepted 120 = .ok (.aload_n 0, 1) := dec_of t_X10_isExcepted_ok 76 rfl
theorem dX10_isExcepted_121 : decode cX10_isExcepted 121 = .ok (.getfield 7, 3) := dec_of t_X10_isExcepted_ok 77 rfl
theorem dX10_isExcepted_124 : decode cX10_isExcepted 124 = .ok (.aload_n 0, 1) := dec_of t_X10_isExcepted_ok 78 rfl
theorem dX10_isExcepted_125 : decode cX10_isExcepted 125 = .ok (.getfield 90, 3) := dec_of t_X10_isExcepted_ok 79 rfl
theorem dX10_isExcepted_128 : decode cX10_isExcepted 128 = .ok (.iload_n 2, 1) := dec_of t_X10_isExcepted_ok 80 rfl
theorem dX10_isExcepted_129 : decode cX10_isExcepted 129 = .ok (.iconst 1, 1) := dec_of t_X10_isExcepted_ok 81 rfl
theorem dX10_isExcepted_130 : decode cX10_isExcepted 130 = .ok (.isub, 1) := dec_of t_X10_isExcepted_ok 82 rfl
theorem dX10_isExcepted_131 : decode cX10_isExcepted 131 = .ok (.iaload, 1) := dec_of t_X10_isExcepted_ok 83 rfl
theorem dX10_isExcepted_132 : decode cX10_isExcepted 132 = .ok (.iload 6, 2) := dec_of t_X10_isExcepted_ok 84 rfl
theorem dX10_isExcepted_134 : decode cX10_isExcepted 134 = .ok (.iadd, 1) := dec_of t_X10_isExcepted_ok 85 rfl
theorem dX10_isExcepted_135 : decode cX10_isExcepted 135 = .ok (.caload, 1) := dec_of t_X10_isExcepted_ok 86 rfl
theorem dX10_isExcepted_136 : decode cX10_isExcepted 136 = .ok (.aload_n 0, 1) := dec_of t_X10_isExcepted_ok 87 rfl
theorem dX10_isExcepted_137 : decode cX10_isExcepted 137 = .ok (.getfield 45, 3) := dec_of t_X10_isExcepted_ok 88 rfl
theorem dX10_isExcepted_140 : decode cX10_isExcepted 140 = .ok (.iload 4, 2) := dec_of t_X10_isExcepted_ok 89 rfl
theorem dX10_isExcepted_142 : decode cX10_isExcepted 142 = .ok (.bipush 20, 2) := dec_of t_X10_isExcepted_ok 90 rfl
theorem dX10_isExcepted_144 : decode cX10_isExcepted 144 = .ok (.imul, 1) := dec_of t_X10_isExcepted_ok 91 rfl
theorem dX10_isExcepted_145 : decode cX10_isExcepted 145 = .ok (.iload 6, 2) := dec_of t_X10_isExcepted_ok 92 rfl
theorem dX10_isExcepted_147 : decode cX10_isExcepted 147 = .ok (.iadd, 1) := dec_of t_X10_isExcepted_ok 93 rfl
theorem dX10_isExcepted_148 : decode cX10_isExcepted 148 = .ok (.caload, 1) := dec_of t_X10_isExcepted_ok 94 rfl
theorem dX10_isExcepted_149 : decode cX10_isExcepted 149 = .ok (.if_icmp .ne 7, 3) := dec_of t_X10_isExcepted_ok 95 rfl
theorem dX10_isExcepted_152 : decode cX10_isExcepted 152 = .ok (.iconst 1, 1) := dec_of t_X10_isExcepted_ok 96 rfl
theorem dX10_isExcepted_153 : decode cX10_isExcepted 153 = .ok (.goto 4, 3) := dec_of t_X10_isExcepted_ok 97 rfl
theorem dX10_isExcepted_156 : decode cX10_isExcepted 156 = .ok (.iconst 0, 1) := dec_of t_X10_isExcepted_ok 98 rfl
theorem dX10_isExcepted_157 : decode cX10_isExcepted 157 = .ok (.istore 5, 2) := dec_of t_X10_isExcepted_ok 99 rfl
theorem dX10_isExcepted_159 : decode cX10_isExcepted 159 = .ok (.iinc 6 1, 3) := dec_of t_X10_isExcepted_ok 100 rfl
theorem dX10_isExcepted_162 : decode cX10_isExcepted 162 = .ok (.goto (-59), 3) := dec_of t_X10_isExcepted_ok 101 rfl
theorem dX10_isExcepted_165 : decode cX10_isExcepted 165 = .ok (.iload_n 3, 1) := dec_of t_X10_isExcepted_ok 102 rfl
theorem dX10_isExcepted_166 : decode cX10_isExcepted 166 = .ok (.ifCond .ne 8, 3) := dec_of t_X10_isExcepted_ok 103 rfl
theorem dX10_isExcepted_169 : decode cX10_isExcepted 169 = .ok (.iload 5, 2) := dec_of t_X10_isExcepted_ok 104 rfl
theorem dX10_isExcepted_171 : decode cX10_isExcepted 171 = .ok (.ifCond .eq 7, 3) := dec_of t_X10_isExcepted_ok 105 rfl
theorem dX10_isExcepted_174 : decode cX10_isExcepted 174 = .ok (.iconst 1, 1) := dec_of t_X10_isExcepted_ok 106 rfl
theorem dX10_isExcepted_175 : decode cX10_isExcepted 175 = .ok (.goto 4, 3) := dec_of t_X10_isExcepted_ok 107 rfl
theorem dX10_isExcepted_178 : decode cX10_isExcepted 178 = .ok (.iconst 0, 1) := dec_of t_X10_isExcepted_ok 108 rfl
theorem dX10_isExcepted_179 : decode cX10_isExcepted 179 = .ok (.istore_n 3, 1) := dec_of t_X10_isExcepted_ok 109 rfl
theorem dX10_isExcepted_180 : decode cX10_isExcepted 180 = .ok (.iinc 4 1, 3) := dec_of t_X10_isExcepted_ok 110 rfl
theorem dX10_isExcepted_183 : decode cX10_isExcepted 183 = .ok (.goto (-132), 3) := dec_of t_X10_isExcepted_ok 111 rfl
theorem dX10_isExcepted_186 : decode cX10_isExcepted 186 = .ok (.iload_n 3, 1) := dec_of t_X10_isExcepted_ok 112 rfl
theorem dX10_isExcepted_187 : decode cX10_isExcepted 187 = .ok (.ireturn, 1) := dec_of t_X10_isExcepted_ok 113 rfl
def t_X10_valueOf : List (Nat × Instr × Nat) := [(0, .iconst 0, 1), (1, .istore_n 2, 1), (2, .aload_n 0, 1), (3, .getfield 90, 3), (6, .iload_n 1, 1), (7, .iaload, 1), (8, .istore_n 3, 1), (9, .iload_n 3, 1), (10, .aload_n 0, 1), (11, .getfield 93, 3), (14, .iload_n 1, 1), (15, .iaload, 1), (16, .if_icmp .ge 35, 3), (19, .iload_n 2, 1), (20, .sipush 999, 3), (23, .if_icmp .le 7, 3), (26, .iload_n 2, 1), (27, .goto 17, 3), (30, .bipush 10, 2), (32, .iload_n 2, 1), (33, .imul, 1), (34, .aload_n 0, 1), (35, .getfield 7, 3), (38, .iload_n 3, 1), (39, .caload, 1), (40, .iadd, 1), (41, .bipush 48, 2), (43, .isub, 1), (44, .istore_n 2, 1), (45, .iinc 3 1, 3), (48, .goto (-39), 3), (51, .iload_n 2, 1), (52, .ireturn, 1)]
theorem t_X10_valueOf_ok : dec_ok cX10_valueOf t_X10_valueOf = true := by decide +kernel
theorem dX10_valueOf_0 : decode cX10_valueOf 0 = .ok (.iconst 0, 1) := dec_of t_X10_valueOf_ok 0 rfl
theorem dX10_valueOf_1 : decode cX10_valueOf 1 = .ok (.istore_n 2, 1) := dec_of t_X10_valueOf_ok 1 rfl
theorem dX10_valueOf_2 : decode cX10_valueOf 2 = .ok (.aload_n 0, 1) := dec_of t_X10_valueOf_ok 2 rfl
theorem dX10_valueOf_3 : decode cX10_valueOf 3 = .ok (.getfield 90, 3) := dec_of t_X10_valueOf_ok 3 rfl
theorem dX10_valueOf_6 : decode cX10_valueOf 6 = .ok (.iload_n 1, 1) := dec_of t_X10_valueOf_ok 4 rfl
theorem dX10_valueOf_7 : decode cX10_valueOf 7 = .ok (.iaload, 1) := dec_of t_X10_valueOf_ok 5 rfl
theorem dX10_valueOf_8 : decode cX10_valueOf 8 = .ok (.istore_n 3, 1) := dec_of t_X10_valueOf_ok 6 rfl
theorem dX10_valueOf_9 : decode cX10_valueOf 9 = .ok (.iload_n 3, 1) := dec_of t_X10_valueOf_ok 7 rfl
theorem dX10_valueOf_10 : decode cX10_valueOf 10 = .ok (.aload_n 0, 1) := dec_of t_X10_valueOf_ok 8 rfl
theorem dX10_valueOf_11 : decode cX10_valueOf 11 = .ok (.getfield 93, 3) := dec_of t_X10_valueOf_ok 9 rfl
theorem dX10_valueOf_14 : decode cX10_valueOf 14 = .ok (.iload_n 1, 1) := dec_of t_X10_valueOf_ok 10 rfl
theorem dX10_valueOf_15 : decode cX10_valueOf 15 = .ok (.iaload, 1) := dec_of t_X10_valueOf_ok 11 rfl
theorem dX10_valueOf_16 : decode cX10_valueOf 16 = .ok (.if_icmp .ge 35, 3) := dec_of t_X10_valueOf_ok 12 rfl
theorem dX10_valueOf_19 : decode cX10_valueOf 19 = .ok (.iload_n 2, 1) := dec_of t_X10_valueOf_ok 13 rfl
theorem dX10_valueOf_20 : decode cX10_valueOf 20 = .ok (.sipush 999, 3) := dec_of t_X10_valueOf_ok 14 rfl
theorem dX10_valueOf_23 : decode cX10_valueOf 23 = .ok (.if_icmp .le 7, 3) := dec_of t_X10_valueOf_ok 15 rfl
theorem dX10_valueOf_26 : decode cX10_valueOf 26 = .ok (.iload_n 2, 1) := dec_of t_X10_valueOf_ok 16 rfl
theorem dX10_valueOf_27 : decode cX10_valueOf 27 = .ok (.goto 17, 3) := dec_of t_X10_valueOf_ok 17 rfl
theorem dX10_valueOf_30 : decode cX10_valueOf 30 = .ok (.bipush 10, 2) := dec_of t_X10_valueOf_ok 18 rfl
theorem dX10_valueOf_32 : decode cX10_valueOf 32 = .ok (.iload_n 2, 1) := dec_of t_X10_valueOf_ok 19 rfl
theorem dX10_valueOf_33 : decode cX10_valueOf 33 = .ok (.imul, 1) := dec_of t_X10_valueOf_ok 20 rfl
theorem dX10_valueOf_34 : decode cX10_valueOf 34 = .ok (.aload_n 0, 1) := dec_of t_X10_valueOf_ok 21 rfl
theorem dX10_valueOf_35 : decode cX10_valueOf 35 = .ok (.getfield 7, 3) := dec_of t_X10_valueOf_ok 22 rfl
theorem dX10_valueOf_38 : decode cX10_valueOf 38 = .ok (.iload_n 3, 1) := dec_of t_X10_valueOf_ok 23 rfl
theorem dX10_valueOf_39 : decode cX10_valueOf 39 = .ok (.caload, 1) := dec_of t_X10_valueOf_ok 24 rfl
theorem dX10_valueOf_40 : decode cX10_valueOf 40 = .ok (.iadd, 1) := dec_of t_X10_valueOf_ok 25 rfl
theorem dX10_valueOf_41 : decode cX10_valueOf 41 = .ok (.bipush 48, 2) := dec_of t_X10_valueOf_ok 26 rfl
theorem dX10_valueOf_43 : decode cX10_valueOf 43 = .ok (.isub, 1) := dec_of t_X10_valueOf_ok 27 rfl
theorem dX10_valueOf_44 : decode cX10_valueOf 44 = .ok (.istore_n 2, 1) := dec_of t_X10_valueOf_ok 28 rfl
theorem dX10_valueOf_45 : decode cX10_valueOf 45 = .ok (.iinc 3 1, 3) := dec_of t_X10_valueOf_ok 29 rfl
theorem dX10_valueOf_48 : decode cX10_valueOf 48 = .ok (.goto (-39), 3) := dec_of t_X10_valueOf_ok 30 rfl
theorem dX10_valueOf_51 : decode cX10_valueOf 51 = .ok (.iload_n 2, 1) := dec_of t_X10_valueOf_ok 31 rfl
theorem dX10_valueOf_52 : decode cX10_valueOf 52 = .ok (.ireturn, 1) := dec_of t_X10_valueOf_ok 32 rfl
def t_X10_wordOf : List (Nat × Instr × Nat) := [(0, .iconst 2, 1), (1, .istore_n 3, 1), (2, .iconst 0, 1), (3, .istore 4, 2), (5, .iload 4, 2), (7, .iconst 2, 1), (8, .if_icmp .ge 135, 3), (11, .aload_n 0, 1), (12, .getfield 96, 3), (15, .iload_n 2, 1), (16, .baload, 1), (17, .ifCond .eq 126, 3), (20, .aload_n 0, 1), (21, .getfield 93, 3), (24, .iload_n 2, 1), (25, .iaload, 1), (26, .aload_n 0, 1), (27, .getfield 90, 3), (30, .iload_n 2, 1), (31, .iaload, 1), (32, .isub, 1), (33, .aload_n 0, 1), (34, .getfield 63, 3), (37, .iconst 2, 1), (38, .iload_n 1, 1), (39, .imul, 1), (40, .iload 4, 2), (42, .iadd, 1), (43, .iaload, 1), (44, .if_icmp .ne 7, 3), (47, .iconst 1, 1), (48, .goto 4, 3), (51, .iconst 0, 1), (52, .istore 5, 2), (54, .iconst 0, 1), (55, .istore 6, 2), (57, .iload 6, 2), (59, .aload_n 0, 1), (60, .getfield 63, 3), (63, .iconst 2, 1), (64, .iload_n 1, 1), (65, .imul, 1), (66, .iload 4, 2), (68, .iadd, 1), (69, .iaload, 1), (70, .if_icmp .ge 55, 3), (73, .iload 5, 2), (75, .ifCond .eq 50, 3), (78, .aload_n 0, 1), (79, .getfield 7, 3), (82, .aload_n 0, 1), (83, .getfield 90, 3), (86, .iload_n 2, 1), (87, .iaload, 1), (88, .iload 6, 2), (90, .iadd, 1), (91, .caload, 1), (92, .aload_n 0, 1), (93, .getfield 60, 3), (96, .iconst 2, 1), (97, .iload_n 1, 1), (98, .imul, 1), (99, .iload 4, 2), (101, .iadd, 1), (102, .bipush 20, 2), (104, .imul, 1), (105, .iload 6, 2), (107, .iadd, 1), (108, .caload, 1), (109, .if_icmp .ne 7, 3), (112, .iconst 1, 1), (113, .goto 4, 3), (116, .iconst 0, 1), (117, .istore 5, 2), (119, .iinc 6 1, 3), (122, .goto (-65), 3), (125, .iload 5, 2), (127, .ifCond .eq 8, 3), (130, .iload 4, 2), (132, .goto 4, 3), (135, .iload_n 3, 1), (136, .istore_n 3, 1), (137, .iinc 4 1, 3), (140, .goto (-135), 3), (143, .iload_n 3, 1), (144, .ireturn, 1)]
theorem t_X10_wordOf_ok : dec_ok cX10_wordOf t_X10_wordOf = true := by decide +kernel
theorem dX10_wordOf_0 : decode cX10_wordOf 0 = .ok (.iconst 2, 1) := dec_of t_X10_wordOf_ok 0 rfl
theorem dX10_wordOf_1 : decode cX10_wordOf 1 = .ok (.istore_n 3, 1) := dec_of t_X10_wordOf_ok 1 rfl
theorem dX10_wordOf_2 : decode cX10_wordOf 2 = .ok (.iconst 0, 1) := dec_of t_X10_wordOf_ok 2 rfl
theorem dX10_wordOf_3 : decode cX10_wordOf 3 = .ok (.istore 4, 2) := dec_of t_X10_wordOf_ok 3 rfl
theorem dX10_wordOf_5 : decode cX10_wordOf 5 = .ok (.iload 4, 2) := dec_of t_X10_wordOf_ok 4 rfl
theorem dX10_wordOf_7 : decode cX10_wordOf 7 = .ok (.iconst 2, 1) := dec_of t_X10_wordOf_ok 5 rfl
theorem dX10_wordOf_8 : decode cX10_wordOf 8 = .ok (.if_icmp .ge 135, 3) := dec_of t_X10_wordOf_ok 6 rfl
theorem dX10_wordOf_11 : decode cX10_wordOf 11 = .ok (.aload_n 0, 1) := dec_of t_X10_wordOf_ok 7 rfl
theorem dX10_wordOf_12 : decode cX10_wordOf 12 = .ok (.getfield 96, 3) := dec_of t_X10_wordOf_ok 8 rfl
theorem dX10_wordOf_15 : decode cX10_wordOf 15 = .ok (.iload_n 2, 1) := dec_of t_X10_wordOf_ok 9 rfl
theorem dX10_wordOf_16 : decode cX10_wordOf 16 = .ok (.baload, 1) := dec_of t_X10_wordOf_ok 10 rfl
theorem dX10_wordOf_17 : decode cX10_wordOf 17 = .ok (.ifCond .eq 126, 3) := dec_of t_X10_wordOf_ok 11 rfl
theorem dX10_wordOf_20 : decode cX10_wordOf 20 = .ok (.aload_n 0, 1) := dec_of t_X10_wordOf_ok 12 rfl
theorem dX10_wordOf_21 : decode cX10_wordOf 21 = .ok (.getfield 93, 3) := dec_of t_X10_wordOf_ok 13 rfl
theorem dX10_wordOf_24 : decode cX10_wordOf 24 = .ok (.iload_n 2, 1) := dec_of t_X10_wordOf_ok 14 rfl
theorem dX10_wordOf_25 : decode cX10_wordOf 25 = .ok (.iaload, 1) := dec_of t_X10_wordOf_ok 15 rfl
theorem dX10_wordOf_26 : decode cX10_wordOf 26 = .ok (.aload_n 0, 1) := dec_of t_X10_wordOf_ok 16 rfl
theorem dX10_wordOf_27 : decode cX10_wordOf 27 = .ok (.getfield 90, 3) := dec_of t_X10_wordOf_ok 17 rfl
theorem dX10_wordOf_30 : decode cX10_wordOf 30 = .ok (.iload_n 2, 1) := dec_of t_X10_wordOf_ok 18 rfl
theorem dX10_wordOf_31 : decode cX10_wordOf 31 = .ok (.iaload, 1) := dec_of t_X10_wordOf_ok 19 rfl
theorem dX10_wordOf_32 : decode cX10_wordOf 32 = .ok (.isub, 1) := dec_of t_X10_wordOf_ok 20 rfl
theorem dX10_wordOf_33 : decode cX10_wordOf 33 = .ok (.aload_n 0, 1) := dec_of t_X10_wordOf_ok 21 rfl
theorem dX10_wordOf_34 : decode cX10_wordOf 34 = .ok (.getfield 63, 3) := dec_of t_X10_wordOf_ok 22 rfl
theorem dX10_wordOf_37 : decode cX10_wordOf 37 = .ok (.iconst 2, 1) := dec_of t_X10_wordOf_ok 23 rfl
theorem dX10_wordOf_38 : decode cX10_wordOf 38 = .ok (.iload_n 1, 1) := dec_of t_X10_wordOf_ok 24 rfl
theorem dX10_wordOf_39 : decode cX10_wordOf 39 = .ok (.imul, 1) := dec_of t_X10_wordOf_ok 25 rfl
theorem dX10_wordOf_40 : decode cX10_wordOf 40 = .ok (.iload 4, 2) := dec_of t_X10_wordOf_ok 26 rfl
theorem dX10_wordOf_42 : decode cX10_wordOf 42 = .ok (.iadd, 1) := dec_of t_X10_wordOf_ok 27 rfl
theorem dX10_wordOf_43 : decode cX10_wordOf 43 = .ok (.iaload, 1) := dec_of t_X10_wordOf_ok 28 rfl
theorem dX10_wordOf_44 : decode cX10_wordOf 44 = .ok (.if_icmp .ne 7, 3) := dec_of t_X10_wordOf_ok 29 rfl
theorem dX10_wordOf_47 : decode cX10_wordOf 47 = .ok (.iconst 1, 1) := dec_of t_X10_wordOf_ok 30 rfl
theorem dX10_wordOf_48 : decode cX10_wordOf 48 = .ok (.goto 4, 3) := dec_of t_X10_wordOf_ok 31 rfl
theorem dX10_wordOf_51 : decode cX10_wordOf 51 = .ok (.iconst 0, 1) := dec_of t_X10_wordOf_ok 32 rfl
theorem dX10_wordOf_52 : decode cX10_wordOf 52 = .ok (.istore 5, 2) := dec_of t_X10_wordOf_ok 33 rfl
theorem dX10_wordOf_54 : decode cX10_wordOf 54 = .ok (.iconst 0, 1) := dec_of t_X10_wordOf_ok 34 rfl
theorem dX10_wordOf_55 : decode cX10_wordOf 55 = .ok (.istore 6, 2) := dec_of t_X10_wordOf_ok 35 rfl
theorem dX10_wordOf_57 : decode cX10_wordOf 57 = .ok (.iload 6, 2) := dec_of t_X10_wordOf_ok 36 rfl
theorem dX10_wordOf_59 : decode cX10_wordOf 59 = .ok (.aload_n 0, 1) := dec_of t_X10_wordOf_ok 37 rfl
theorem dX10_wordOf_60 : decode cX10_wordOf 60 = .ok (.getfield 63, 3) := dec_of t_X10_wordOf_ok 38 rfl
theorem dX10_wordOf_63 : decode cX10_wordOf 63 = .ok (.iconst 2, 1) := dec_of t_X10_wordOf_ok 39 rfl
theorem dX10_wordOf_64 : decode cX10_wordOf 64 = .ok (.iload_n 1, 1) := dec_of t_X10_wordOf_ok 40 rfl
theorem dX10_wordOf_65 : decode cX10_wordOf 65 = .ok (.imul, 1) := dec_of t_X10_wordOf_ok 41 rfl
theorem dX10_wordOf_66 : decode cX10_wordOf 66 = .ok (.iload 4, 2) := dec_of t_X10_wordOf_ok 42 rfl
theorem dX10_wordOf_68 : decode cX10_wordOf 68 = .ok (.iadd, 1) := dec_of t_X10_wordOf_ok 43 rfl
theorem dX10_wordOf_69 : decode cX10_wordOf 69 = .ok (.iaload, 1) := dec_of t_X10_wordOf_ok 44 rfl
theorem dX10_wordOf_70 : decode cX10_wordOf 70 = .ok (.if_icmp .ge 55, 3) := dec_of t_X10_wordOf_ok 45 rfl
theorem dX10_wordOf_73 : decode cX10_wordOf 73 = .ok (.iload 5, 2) := dec_of t_X10_wordOf_ok 46 rfl
theorem dX10_wordOf_75 : decode cX10_wordOf 75 = .ok (.ifCond .eq 50, 3) := dec_of t_X10_wordOf_ok 47 rfl
theorem dX10_wordOf_78 : decode cX10_wordOf 78 = .ok (.aload_n 0, 1) := dec_of t_X10_wordOf_ok 48 rfl
theorem dX10_wordOf_79 : decode cX10_wordOf 79 = .ok (.getfield 7, 3) := dec_of t_X10_wordOf_ok 49 rfl
theorem dX10_wordOf_82 : decode cX10_wordOf 82 = .ok (.aload_n 0, 1) := dec_of t_X10_wordOf_ok 50 rfl
theorem dX10_wordOf_83 : decode cX10_wordOf 83 = .ok (.getfield 90, 3) := dec_of t_X10_wordOf_ok 51 rfl
theorem dX10_wordOf_86 : decode cX10_wordOf 86 = .ok (.iload_n 2, 1) := dec_of t_X10_wordOf_ok 52 rfl
theorem dX10_wordOf_87 : decode cX10_wordOf 87 = .ok (.iaload, 1) := dec_of t_X10_wordOf_ok 53 rfl
theorem dX10_wordOf_88 : decode cX10_wordOf 88 = .ok (.iload 6, 2) := dec_of t_X10_wordOf_ok 54 rfl
theorem dX10_wordOf_90 : decode cX10_wordOf 90 = .ok (.iadd, 1) := dec_of t_X10_wordOf_ok 55 rfl
theorem dX10_wordOf_91 : decode cX10_wordOf 91 = .ok (.caload, 1) := dec_of t_X10_wordOf_ok 56 rfl
theorem dX10_wordOf_92 : decode cX10_wordOf 92 = .ok (.aload_n 0, 1) := dec_of t_X10_wordOf_ok 57 rfl
theorem dX10_wordOf_93 : decode cX10_wordOf 93 = .ok (.getfield 60, 3) := dec_of t_X10_wordOf_ok 58 rfl
theorem dX10_wordOf_96 : decode cX10_wordOf 96 = .ok (.iconst 2, 1) := dec_of t_X10_wordOf_ok 59 rfl
theorem dX10_wordOf_97 : decode cX10_wordOf 97 = .ok (.iload_n 1, 1) := dec_of t_X10_wordOf_ok 60 rfl
theorem dX10_wordOf_98 : decode cX10_wordOf 98 = .ok (.imul, 1) := dec_of t_X10_wordOf_ok 61 rfl
theorem dX10_wordOf_99 : decode cX10_wordOf 99 = .ok (.iload 4, 2) := dec_of t_X10_wordOf_ok 62 rfl
theorem dX10_wordOf_101 : decode cX10_wordOf 101 = .ok (.iadd, 1) := dec_of t_X10_wordOf_ok 63 rfl
theorem dX10_wordOf_102 : decode cX10_wordOf 102 = .ok (.bipush 20, 2) := dec_of t_X10_wordOf_ok 64 rfl
theorem dX10_wordOf_104 : decode cX10_wordOf 104 = .ok (.imul, 1) := dec_of t_X10_wordOf_ok 65 rfl
theorem dX10_wordOf_105 : decode cX10_wordOf 105 = .ok (.iload 6, 2) := dec_of t_X10_wordOf_ok 66 rfl
theorem dX10_wordOf_107 : decode cX10_wordOf 107 = .ok (.iadd, 1) := dec_of t_X10_wordOf_ok 67 rfl
theorem dX10_wordOf_108 : decode cX10_wordOf 108 = .ok (.caload, 1) := dec_of t_X10_wordOf_ok 68 rfl
theorem dX10_wordOf_109 : decode cX10_wordOf 109 = .ok (.if_icmp .ne 7, 3) := dec_of t_X10_wordOf_ok 69 rfl
theorem dX10_wordOf_112 : decode cX10_wordOf 112 = .ok (.iconst 1, 1) := dec_of t_X10_wordOf_ok 70 rfl
theorem dX10_wordOf_113 : decode cX10_wordOf 113 = .ok (.goto 4, 3) := dec_of t_X10_wordOf_ok 71 rfl
theorem dX10_wordOf_116 : decode cX10_wordOf 116 = .ok (.iconst 0, 1) := dec_of t_X10_wordOf_ok 72 rfl
theorem dX10_wordOf_117 : decode cX10_wordOf 117 = .ok (.istore 5, 2) := dec_of t_X10_wordOf_ok 73 rfl
theorem dX10_wordOf_119 : decode cX10_wordOf 119 = .ok (.iinc 6 1, 3) := dec_of t_X10_wordOf_ok 74 rfl
theorem dX10_wordOf_122 : decode cX10_wordOf 122 = .ok (.goto (-65), 3) := dec_of t_X10_wordOf_ok 75 rfl
theorem dX10_wordOf_125 : decode cX10_wordOf 125 = .ok (.iload 5, 2) := dec_of t_X10_wordOf_ok 76 rfl
theorem dX10_wordOf_127 : decode cX10_wordOf 127 = .ok (.ifCond .eq 8, 3) := dec_of t_X10_wordOf_ok 77 rfl
theorem dX10_wordOf_130 : decode cX10_wordOf 130 = .ok (.iload 4, 2) := dec_of t_X10_wordOf_ok 78 rfl
theorem dX10_wordOf_132 : decode cX10_wordOf 132 = .ok (.goto 4, 3) := dec_of t_X10_wordOf_ok 79 rfl
theorem dX10_wordOf_135 : decode cX10_wordOf 135 = .ok (.iload_n 3, 1) := dec_of t_X10_wordOf_ok 80 rfl
theorem dX10_wordOf_136 : decode cX10_wordOf 136 = .ok (.istore_n 3, 1) := dec_of t_X10_wordOf_ok 81 rfl
theorem dX10_wordOf_137 : decode cX10_wordOf 137 = .ok (.iinc 4 1, 3) := dec_of t_X10_wordOf_ok 82 rfl
theorem dX10_wordOf_140 : decode cX10_wordOf 140 = .ok (.goto (-135), 3) := dec_of t_X10_wordOf_ok 83 rfl
theorem dX10_wordOf_143 : decode cX10_wordOf 143 = .ok (.iload_n 3, 1) := dec_of t_X10_wordOf_ok 84 rfl
theorem dX10_wordOf_144 : decode cX10_wordOf 144 = .ok (.ireturn, 1) := dec_of t_X10_wordOf_ok 85 rfl
def t_X10_isIgnored : List (Nat × Instr × Nat) := [(0, .iconst 0, 1), (1, .istore 5, 2), (3, .iload_n 1, 1), (4, .bipush 20, 2), (6, .imul, 1), (7, .istore 6, 2), (9, .iload 6, 2), (11, .iload_n 1, 1), (12, .bipush 20, 2), (14, .imul, 1), (15, .aload_n 0, 1), (16, .getfield 75, 3), (19, .iload_n 1, 1), (20, .iaload, 1), (21, .iadd, 1), (22, .if_icmp .ge 55, 3), (25, .iload 5, 2), (27, .ifCond .ne 37, 3), (30, .aload_n 0, 1), (31, .getfield 78, 3), (34, .iload 6, 2), (36, .iaload, 1), (37, .iload_n 2, 1), (38, .if_icmp .ne 30, 3), (41, .aload_n 0, 1), (42, .getfield 81, 3), (45, .iload 6, 2), (47, .iaload, 1), (48, .iload_n 3, 1), (49, .if_icmp .ne 19, 3), (52, .aload_n 0, 1), (53, .getfield 84, 3), (56, .iload 6, 2), (58, .iaload, 1), (59, .iload 4, 2), (61, .if_icmp .ne 7, 3), (64, .iconst 1, 1), (65, .goto 4, 3), (68, .iconst 0, 1), (69, .istore 5, 2), (71, .iinc 6 1, 3), (74, .goto (-65), 3), (77, .iload 5, 2), (79, .ireturn, 1)]
theorem t_X10_isIgnored_ok : dec_ok cX10_isIgnored t_X10_isIgnored = true := by decide +kernel
theorem dX10_isIgnored_0 : decode cX10_isIgnored 0 = .ok (.iconst 0, 1) := dec_of t_X10_isIgnored_ok 0 rfl
theorem dX10_isIgnored_1 : decode cX10_isIgnored 1 = .ok (.istore 5, 2) := dec_of t_X10_isIgnored_ok 1 rfl
theorem dX10_isIgnored_3 : decode cX10_isIgnored 3 = .ok (.iload_n 1, 1) := dec_of t_X10_isIgnored_ok 2 rfl
theorem dX10_isIgnored_4 : decode cX10_isIgnored 4 = .ok (.bipush 20, 2) := dec_of t_X10_isIgnored_ok 3 rfl
theorem dX10_isIgnored_6 : decode cX10_isIgnored 6 = .ok (.imul, 1) := dec_of t_X10_isIgnored_ok 4 rfl
theorem dX10_isIgnored_7 : decode cX10_isIgnored 7 = .ok (.istore 6, 2) := dec_of t_X10_isIgnored_ok 5 rfl
theorem dX10_isIgnored_9 : decode cX10_isIgnored 9 = .ok (.iload 6, 2) := dec_of t_X10_isIgnored_ok 6 rfl
theorem dX10_isIgnored_11 : decode cX10_isIgnored 11 = .ok (.iload_n 1, 1) := dec_of t_X10_isIgnored_ok 7 rfl
theorem dX10_isIgnored_12 : decode cX10_isIgnored 12 = .ok (.bipush 20, 2) := dec_of t_X10_isIgnored_ok 8 rfl
theorem dX10_isIgnored_14 : decode cX10_isIgnored 14 = .ok (.imul, 1) := dec_of t_X10_isIgnored_ok 9 rfl
theorem dX10_isIgnored_15 : decode cX10_isIgnored 15 = .ok (.aload_n 0, 1) := dec_of t_X10_isIgnored_ok 10 rfl
theorem dX10_isIgnored_16 : decode cX10_isIgnored 16 = .ok (.getfield 75, 3) := dec_of t_X10_isIgnored_ok 11 rfl
theorem dX10_isIgnored_19 : decode cX10_isIgnored 19 = .ok (.iload_n 1, 1) := dec_of t_X10_isIgnored_ok 12 rfl
theorem dX10_isIgnored_20 : decode cX10_isIgnored 20 = .ok (.iaload, 1) := dec_of t_X10_isIgnored_ok 13 rfl
theorem dX10_isIgnored_21 : decode cX10_isIgnored 21 = .ok (.iadd, 1) := dec_of t_X10_isIgnored_ok 14 rfl
theorem dX10_isIgnored_22 : decode cX10_isIgnored 22 = .ok (.if_icmp .ge 55, 3) := dec_of t_X10_isIgnored_ok 15 rfl
theorem dX10_isIgnored_25 : decode cX10_isIgnored 25 = .ok (.iload 5, 2) := dec_of t_X10_isIgnored_ok 16 rfl
theorem dX10_isIgnored_27 : decode cX10_isIgnored 27 = .ok (.ifCond .ne 37, 3) := dec_of t_X10_isIgnored_ok 17 rfl
theorem dX10_isIgnored_30 : decode cX10_isIgnored 30 = .ok (.aload_n 0, 1) := dec_of t_X10_isIgnored_ok 18 rfl
theorem dX10_isIgnored_31 : decode cX10_isIgnored 31 = .ok (.getfield 78, 3) := dec_of t_X10_isIgnored_ok 19 rfl
theorem dX10_isIgnored_34 : decode cX10_isIgnored 34 = .ok (.iload 6, 2) := dec_of t_X10_isIgnored_ok 20 rfl
theorem dX10_isIgnored_36 : decode cX10_isIgnored 36 = .ok (.iaload, 1) := dec_of t_X10_isIgnored_ok 21 rfl
theorem dX10_isIgnored_37 : decode cX10_isIgnored 37 = .ok (.iload_n 2, 1) := dec_of t_X10_isIgnored_ok 22 rfl
theorem dX10_isIgnored_38 : decode cX10_isIgnored 38 = .ok (.if_icmp .ne 30, 3) := dec_of t_X10_isIgnored_ok 23 rfl
theorem dX10_isIgnored_41 : decode cX10_isIgnored 41 = .ok (.aload_n 0, 1) := dec_of t_X10_isIgnored_ok 24 rfl
theorem dX10_isIgnored_42 : decode cX10_isIgnored 42 = .ok (.getfield 81, 3) := dec_of t_X10_isIgnored_ok 25 rfl
theorem dX10_isIgnored_45 : decode cX10_isIgnored 45 = .ok (.iload 6, 2) := dec_of t_X10_isIgnored_ok 26 rfl
theorem dX10_isIgnored_47 : decode cX10_isIgnored 47 = .ok (.iaload, 1) := dec_of t_X10_isIgnored_ok 27 rfl
theorem dX10_isIgnored_48 : decode cX10_isIgnored 48 = .ok (.iload_n 3, 1) := dec_of t_X10_isIgnored_ok 28 rfl
theorem dX10_isIgnored_49 : decode cX10_isIgnored 49 = .ok (.if_icmp .ne 19, 3) := dec_of t_X10_isIgnored_ok 29 rfl
theorem dX10_isIgnored_52 : decode cX10_isIgnored 52 = .ok (.aload_n 0, 1) := dec_of t_X10_isIgnored_ok 30 rfl
theorem dX10_isIgnored_53 : decode cX10_isIgnored 53 = .ok (.getfield 84, 3) := dec_of t_X10_isIgnored_ok 31 rfl
theorem dX10_isIgnored_56 : decode cX10_isIgnored 56 = .ok (.iload 6, 2) := dec_of t_X10_isIgnored_ok 32 rfl
theorem dX10_isIgnored_58 : decode cX10_isIgnored 58 = .ok (.iaload, 1) := dec_of t_X10_isIgnored_ok 33 rfl
theorem dX10_isIgnored_59 : decode cX10_isIgnored 59 = .ok (.iload 4, 2) := dec_of t_X10_isIgnored_ok 34 rfl
theorem dX10_isIgnored_61 : decode cX10_isIgnored 61 = .ok (.if_icmp .ne 7, 3) := dec_of t_X10_isIgnored_ok 35 rfl
theorem dX10_isIgnored_64 : decode cX10_isIgnored 64 = .ok (.iconst 1, 1) := dec_of t_X10_isIgnored_ok 36 rfl
theorem dX10_isIgnored_65 : decode cX10_isIgnored 65 = .ok (.goto 4, 3) := dec_of t_X10_isIgnored_ok 37 rfl
theorem dX10_isIgnored_68 : decode cX10_isIgnored 68 = .ok (.iconst 0, 1) := dec_of t_X10_isIgnored_ok 38 rfl
theorem dX10_isIgnored_69 : decode cX10_isIgnored 69 = .ok (.istore 5, 2) := dec_of t_X10_isIgnored_ok 39 rfl
theorem dX10_isIgnored_71 : decode cX10_isIgnored 71 = .ok (.iinc 6 1, 3) := dec_of t_X10_isIgnored_ok 40 rfl
theorem dX10_isIgnored_74 : decode cX10_isIgnored 74 = .ok (.goto (-65), 3) := dec_of t_X10_isIgnored_ok 41 rfl
theorem dX10_isIgnored_77 : decode cX10_isIgnored 77 = .ok (.iload 5, 2) := dec_of t_X10_isIgnored_ok 42 rfl
theorem dX10_isIgnored_79 : decode cX10_isIgnored 79 = .ok (.ireturn, 1) := dec_of t_X10_isIgnored_ok 43 rfl
def t_X10_placeOf : List (Nat × Instr × Nat) := [(0, .aload_n 0, 1), (1, .getfield 90, 3), (4, .aload_n 0, 1), (5, .getfield 105, 3), (8, .iload_n 1, 1), (9, .iaload, 1), (10, .iaload, 1), (11, .ireturn, 1)]
theorem t_X10_placeOf_ok : dec_ok cX10_placeOf t_X10_placeOf = true := by decide +kernel
theorem dX10_placeOf_0 : decode cX10_placeOf 0 = .ok (.aload_n 0, 1) := dec_of t_X10_placeOf_ok 0 rfl
theorem dX10_placeOf_1 : decode cX10_placeOf 1 = .ok (.getfield 90, 3) := dec_of t_X10_placeOf_ok 1 rfl
theorem dX10_placeOf_4 : decode cX10_placeOf 4 = .ok (.aload_n 0, 1) := dec_of t_X10_placeOf_ok 2 rfl
theorem dX10_placeOf_5 : decode cX10_placeOf 5 = .ok (.getfield 105, 3) := dec_of t_X10_placeOf_ok 3 rfl
theorem dX10_placeOf_8 : decode cX10_placeOf 8 = .ok (.iload_n 1, 1) := dec_of t_X10_placeOf_ok 4 rfl
theorem dX10_placeOf_9 : decode cX10_placeOf 9 = .ok (.iaload, 1) := dec_of t_X10_placeOf_ok 5 rfl
theorem dX10_placeOf_10 : decode cX10_placeOf 10 = .ok (.iaload, 1) := dec_of t_X10_placeOf_ok 6 rfl
theorem dX10_placeOf_11 : decode cX10_placeOf 11 = .ok (.ireturn, 1) := dec_of t_X10_placeOf_ok 7 rfl
def t_X10_isAhead : List (Nat × Instr × Nat) := [(0, .aload_n 0, 1), (1, .getfield 114, 3), (4, .iload_n 1, 1), (5, .iaload, 1), (6, .aload_n 0, 1), (7, .getfield 114, 3), (10, .iload_n 2, 1), (11, .iaload, 1), (12, .if_icmp .eq 24, 3), (15, .aload_n 0, 1), (16, .getfield 114, 3), (19, .iload_n 1, 1), (20, .iaload, 1), (21, .aload_n 0, 1), (22, .getfield 114, 3), (25, .iload_n 2, 1), (26, .iaload, 1), (27, .if_icmp .le 7, 3), (30, .iconst 1, 1), (31, .goto 4, 3), (34, .iconst 0, 1), (35, .ireturn, 1), (36, .aload_n 0, 1), (37, .iload_n 1, 1), (38, .invokevirtual 233, 3), (41, .aload_n 0, 1), (42, .iload_n 2, 1), (43, .invokevirtual 233, 3), (46, .if_icmp .eq 22, 3), (49, .aload_n 0, 1), (50, .iload_n 1, 1), (51, .invokevirtual 233, 3), (54, .aload_n 0, 1), (55, .iload_n 2, 1), (56, .invokevirtual 233, 3), (59, .if_icmp .ge 7, 3), (62, .iconst 1, 1), (63, .goto 4, 3), (66, .iconst 0, 1), (67, .ireturn, 1), (68, .aload_n 0, 1), (69, .getfield 108, 3), (72, .iload_n 1, 1), (73, .iaload, 1), (74, .aload_n 0, 1), (75, .getfield 108, 3), (78, .iload_n 2, 1), (79, .iaload, 1), (80, .if_icmp .eq 24, 3), (83, .aload_n 0, 1), (84, .getfield 108, 3), (87, .iload_n 1, 1), (88, .iaload, 1), (89, .aload_n 0, 1), (90, .getfield 108, 3), (93, .iload_n 2, 1), (94, .iaload, 1), (95, .if_icmp .le 7, 3), (98, .iconst 1, 1), (99, .goto 4, 3), (102, .iconst 0, 1), (103, .ireturn, 1), (104, .aload_n 0, 1), (105, .getfield 111, 3), (108, .iload_n 1, 1), (109, .iaload, 1), (110, .aload_n 0, 1), (111, .getfield 111, 3), (114, .iload_n 2, 1), (115, .iaload, 1), (116, .if_icmp .ge 7, 3), (119, .iconst 1, 1), (120, .goto 4, 3), (123, .iconst 0, 1), (124, .ireturn, 1)]
theorem t_X10_isAhead_ok : dec_ok cX10_isAhead t_X10_isAhead = true := by decide +kernel
theorem dX10_isAhead_0 : decode cX10_isAhead 0 = .ok (.aload_n 0, 1) := dec_of t_X10_isAhead_ok 0 rfl
theorem dX10_isAhead_1 : decode cX10_isAhead 1 = .ok (.getfield 114, 3) := dec_of t_X10_isAhead_ok 1 rfl
theorem dX10_isAhead_4 : decode cX10_isAhead 4 = .ok (.iload_n 1, 1) := dec_of t_X10_isAhead_ok 2 rfl
theorem dX10_isAhead_5 : decode cX10_isAhead 5 = .ok (.iaload, 1) := dec_of t_X10_isAhead_ok 3 rfl
theorem dX10_isAhead_6 : decode cX10_isAhead 6 = .ok (.aload_n 0, 1) := dec_of t_X10_isAhead_ok 4 rfl
theorem dX10_isAhead_7 : decode cX10_isAhead 7 = .ok (.getfield 114, 3) := dec_of t_X10_isAhead_ok 5 rfl
theorem dX10_isAhead_10 : decode cX10_isAhead 10 = .ok (.iload_n 2, 1) := dec_of t_X10_isAhead_ok 6 rfl
theorem dX10_isAhead_11 : decode cX10_isAhead 11 = .ok (.iaload, 1) := dec_of t_X10_isAhead_ok 7 rfl
theorem dX10_isAhead_12 : decode cX10_isAhead 12 = .ok (.if_icmp .eq 24, 3) := dec_of t_X10_isAhead_ok 8 rfl
theorem dX10_isAhead_15 : decode cX10_isAhead 15 = .ok (.aload_n 0, 1) := dec_of t_X10_isAhead_ok 9 rfl
theorem dX10_isAhead_16 : decode cX10_isAhead 16 = .ok (.getfield 114, 3) := dec_of t_X10_isAhead_ok 10 rfl
theorem dX10_isAhead_19 : decode cX10_isAhead 19 = .ok (.iload_n 1, 1) := dec_of t_X10_isAhead_ok 11 rfl
theorem dX10_isAhead_20 : decode cX10_isAhead 20 = .ok (.iaload, 1) := dec_of t_X10_isAhead_ok 12 rfl
theorem dX10_isAhead_21 : decode cX10_isAhead 21 = .ok (.aload_n 0, 1) := dec_of t_X10_isAhead_ok 13 rfl
theorem dX10_isAhead_22 : decode cX10_isAhead 22 = .ok (.getfield 114, 3) := dec_of t_X10_isAhead_ok 14 rfl
theorem dX10_isAhead_25 : decode cX10_isAhead 25 = .ok (.iload_n 2, 1) := dec_of t_X10_isAhead_ok 15 rfl
theorem dX10_isAhead_26 : decode cX10_isAhead 26 = .ok (.iaload, 1) := dec_of t_X10_isAhead_ok 16 rfl
theorem dX10_isAhead_27 : decode cX10_isAhead 27 = .ok (.if_icmp .le 7, 3) := dec_of t_X10_isAhead_ok 17 rfl
theorem dX10_isAhead_30 : decode cX10_isAhead 30 = .ok (.iconst 1, 1) := dec_of t_X10_isAhead_ok 18 rfl
theorem dX10_isAhead_31 : decode cX10_isAhead 31 = .ok (.goto 4, 3) := dec_of t_X10_isAhead_ok 19 rfl
theorem dX10_isAhead_34 : decode cX10_isAhead 34 = .ok (.iconst 0, 1) := dec_of t_X10_isAhead_ok 20 rfl
theorem dX10_isAhead_35 : decode cX10_isAhead 35 = .ok (.ireturn, 1) := dec_of t_X10_isAhead_ok 21 rfl
theorem dX10_isAhead_36 : decode cX10_isAhead 36 = .ok (.aload_n 0, 1) := dec_of t_X10_isAhead_ok 22 rfl
theorem dX10_isAhead_37 : decode cX10_isAhead 37 = .ok (.iload_n 1, 1) := dec_of t_X10_isAhead_ok 23 rfl
theorem dX10_isAhead_38 : decode cX10_isAhead 38 = .ok (.invokevirtual 233, 3) := dec_of t_X10_isAhead_ok 24 rfl
theorem dX10_isAhead_41 : decode cX10_isAhead 41 = .ok (.aload_n 0, 1) := dec_of t_X10_isAhead_ok 25 rfl
theorem dX10_isAhead_42 : decode cX10_isAhead 42 = .ok (.iload_n 2, 1) := dec_of t_X10_isAhead_ok 26 rfl
theorem dX10_isAhead_43 : decode cX10_isAhead 43 = .ok (.invokevirtual 233, 3) := dec_of t_X10_isAhead_ok 27 rfl
theorem dX10_isAhead_46 : decode cX10_isAhead 46 = .ok (.if_icmp .eq 22, 3) := dec_of t_X10_isAhead_ok 28 rfl
theorem dX10_isAhead_49 : decode cX10_isAhead 49 = .ok (.aload_n 0, 1) := dec_of t_X10_isAhead_ok 29 rfl
theorem dX10_isAhead_50 : decode cX10_isAhead 50 = .ok (.iload_n 1, 1) := dec_of t_X10_isAhead_ok 30 rfl
theorem dX10_isAhead_51 : decode cX10_isAhead 51 = .ok (.invokevirtual 233, 3) := dec_of t_X10_isAhead_ok 31 rfl
theorem dX10_isAhead_54 : decode cX10_isAhead 54 = .ok (.aload_n 0, 1) := dec_of t_X10_isAhead_ok 32 rfl
theorem dX10_isAhead_55 : decode cX10_isAhead 55 = .ok (.iload_n 2, 1) := dec_of t_X10_isAhead_ok 33 rfl
theorem dX10_isAhead_56 : decode cX10_isAhead 56 = .ok (.invokevirtual 233, 3) := dec_of t_X10_isAhead_ok 34 rfl
theorem dX10_isAhead_59 : decode cX10_isAhead 59 = .ok (.if_icmp .ge 7, 3) := dec_of t_X10_isAhead_ok 35 rfl
theorem dX10_isAhead_62 : decode cX10_isAhead 62 = .ok (.iconst 1, 1) := dec_of t_X10_isAhead_ok 36 rfl
theorem dX10_isAhead_63 : decode cX10_isAhead 63 = .ok (.goto 4, 3) := dec_of t_X10_isAhead_ok 37 rfl
theorem dX10_isAhead_66 : decode cX10_isAhead 66 = .ok (.iconst 0, 1) := dec_of t_X10_isAhead_ok 38 rfl
theorem dX10_isAhead_67 : decode cX10_isAhead 67 = .ok (.ireturn, 1) := dec_of t_X10_isAhead_ok 39 rfl
theorem dX10_isAhead_68 : decode cX10_isAhead 68 = .ok (.aload_n 0, 1) := dec_of t_X10_isAhead_ok 40 rfl
theorem dX10_isAhead_69 : decode cX10_isAhead 69 = .ok (.getfield 108, 3) := dec_of t_X10_isAhead_ok 41 rfl
theorem dX10_isAhead_72 : decode cX10_isAhead 72 = .ok (.iload_n 1, 1) := dec_of t_X10_isAhead_ok 42 rfl
theorem dX10_isAhead_73 : decode cX10_isAhead 73 = .ok (.iaload, 1) := dec_of t_X10_isAhead_ok 43 rfl
theorem dX10_isAhead_74 : decode cX10_isAhead 74 = .ok (.aload_n 0, 1) := dec_of t_X10_isAhead_ok 44 rfl
theorem dX10_isAhead_75 : decode cX10_isAhead 75 = .ok (.getfield 108, 3) := dec_of t_X10_isAhead_ok 45 rfl
theorem dX10_isAhead_78 : decode cX10_isAhead 78 = .ok (.iload_n 2, 1) := dec_of t_X10_isAhead_ok 46 rfl
theorem dX10_isAhead_79 : decode cX10_isAhead 79 = .ok (.iaload, 1) := dec_of t_X10_isAhead_ok 47 rfl
theorem dX10_isAhead_80 : decode cX10_isAhead 80 = .ok (.if_icmp .eq 24, 3) := dec_of t_X10_isAhead_ok 48 rfl
theorem dX10_isAhead_83 : decode cX10_isAhead 83 = .ok (.aload_n 0, 1) := dec_of t_X10_isAhead_ok 49 rfl
theorem dX10_isAhead_84 : decode cX10_isAhead 84 = .ok (.getfield 108, 3) := dec_of t_X10_isAhead_ok 50 rfl
theorem dX10_isAhead_87 : decode cX10_isAhead 87 = .ok (.iload_n 1, 1) := dec_of t_X10_isAhead_ok 51 rfl
theorem dX10_isAhead_88 : decode cX10_isAhead 88 = .ok (.iaload, 1) := dec_of t_X10_isAhead_ok 52 rfl
theorem dX10_isAhead_89 : decode cX10_isAhead 89 = .ok (.aload_n 0, 1) := dec_of t_X10_isAhead_ok 53 rfl
theorem dX10_isAhead_90 : decode cX10_isAhead 90 = .ok (.getfield 108, 3) := dec_of t_X10_isAhead_ok 54 rfl
theorem dX10_isAhead_93 : decode cX10_isAhead 93 = .ok (.iload_n 2, 1) := dec_of t_X10_isAhead_ok 55 rfl
theorem dX10_isAhead_94 : decode cX10_isAhead 94 = .ok (.iaload, 1) := dec_of t_X10_isAhead_ok 56 rfl
theorem dX10_isAhead_95 : decode cX10_isAhead 95 = .ok (.if_icmp .le 7, 3) := dec_of t_X10_isAhead_ok 57 rfl
theorem dX10_isAhead_98 : decode cX10_isAhead 98 = .ok (.iconst 1, 1) := dec_of t_X10_isAhead_ok 58 rfl
theorem dX10_isAhead_99 : decode cX10_isAhead 99 = .ok (.goto 4, 3) := dec_of t_X10_isAhead_ok 59 rfl
theorem dX10_isAhead_102 : decode cX10_isAhead 102 = .ok (.iconst 0, 1) := dec_of t_X10_isAhead_ok 60 rfl
theorem dX10_isAhead_103 : decode cX10_isAhead 103 = .ok (.ireturn, 1) := dec_of t_X10_isAhead_ok 61 rfl
theorem dX10_isAhead_104 : decode cX10_isAhead 104 = .ok (.aload_n 0, 1) := dec_of t_X10_isAhead_ok 62 rfl
theorem dX10_isAhead_105 : decode cX10_isAhead 105 = .ok (.getfield 111, 3) := dec_of t_X10_isAhead_ok 63 rfl
theorem dX10_isAhead_108 : decode cX10_isAhead 108 = .ok (.iload_n 1, 1) := dec_of t_X10_isAhead_ok 64 rfl
theorem dX10_isAhead_109 : decode cX10_isAhead 109 = .ok (.iaload, 1) := dec_of t_X10_isAhead_ok 65 rfl
theorem dX10_isAhead_110 : decode cX10_isAhead 110 = .ok (.aload_n 0, 1) := dec_of t_X10_isAhead_ok 66 rfl
theorem dX10_isAhead_111 : decode cX10_isAhead 111 = .ok (.getfield 111, 3) := dec_of t_X10_isAhead_ok 67 rfl
theorem dX10_isAhead_114 : decode cX10_isAhead 114 = .ok (.iload_n 2, 1) := dec_of t_X10_isAhead_ok 68 rfl
theorem dX10_isAhead_115 : decode cX10_isAhead 115 = .ok (.iaload, 1) := dec_of t_X10_isAhead_ok 69 rfl
theorem dX10_isAhead_116 : decode cX10_isAhead 116 = .ok (.if_icmp .ge 7, 3) := dec_of t_X10_isAhead_ok 70 rfl
theorem dX10_isAhead_119 : decode cX10_isAhead 119 = .ok (.iconst 1, 1) := dec_of t_X10_isAhead_ok 71 rfl
theorem dX10_isAhead_120 : decode cX10_isAhead 120 = .ok (.goto 4, 3) := dec_of t_X10_isAhead_ok 72 rfl
theorem dX10_isAhead_123 : decode cX10_isAhead 123 = .ok (.iconst 0, 1) := dec_of t_X10_isAhead_ok 73 rfl
theorem dX10_isAhead_124 : decode cX10_isAhead 124 = .ok (.ireturn, 1) := dec_of t_X10_isAhead_ok 74 rfl
def t_X10_isFree : List (Nat × Instr × Nat) := [(0, .iconst 1, 1), (1, .istore_n 2, 1), (2, .iconst 0, 1), (3, .istore_n 3, 1), (4, .iload_n 3, 1), (5, .aload_n 0, 1), (6, .getfield 236, 3), (9, .if_icmp .ge 57, 3), (12, .iload_n 2, 1), (13, .ifCond .eq 45, 3), (16, .aload_n 0, 1), (17, .getfield 108, 3), (20, .iload_n 1, 1), (21, .iaload, 1), (22, .aload_n 0, 1), (23, .aload_n 0, 1), (24, .getfield 117, 3), (27, .iload_n 3, 1), (28, .iaload, 1), (29, .invokevirtual 233, 3), (32, .if_icmp .le 22, 3), (35, .aload_n 0, 1), (36, .iload_n 1, 1), (37, .invokevirtual 233, 3), (40, .aload_n 0, 1), (41, .getfield 108, 3), (44, .aload_n 0, 1), (45, .getfield 117, 3), (48, .iload_n 3, 1), (49, .iaload, 1), (50, .iaload, 1), (51, .if_icmp .lt 7, 3), (54, .iconst 1, 1), (55, .goto 4, 3), (58, .iconst 0, 1), (59, .istore_n 2, 1), (60, .iinc 3 1, 3), (63, .goto (-59), 3), (66, .iload_n 2, 1), (67, .ireturn, 1)]
theorem t_X10_isFree_ok : dec_ok cX10_isFree t_X10_isFree = true := by decide +kernel
theorem dX10_isFree_0 : decode cX10_isFree 0 = .ok (.iconst 1, 1) := dec_of t_X10_isFree_ok 0 rfl
theorem dX10_isFree_1 : decode cX10_isFree 1 = .ok (.istore_n 2, 1) := dec_of t_X10_isFree_ok 1 rfl
theorem dX10_isFree_2 : decode cX10_isFree 2 = .ok (.iconst 0, 1) := dec_of t_X10_isFree_ok 2 rfl
theorem dX10_isFree_3 : decode cX10_isFree 3 = .ok (.istore_n 3, 1) := dec_of t_X10_isFree_ok 3 rfl
theorem dX10_isFree_4 : decode cX10_isFree 4 = .ok (.iload_n 3, 1) := dec_of t_X10_isFree_ok 4 rfl
theorem dX10_isFree_5 : decode cX10_isFree 5 = .ok (.aload_n 0, 1) := dec_of t_X10_isFree_ok 5 rfl
theorem dX10_isFree_6 : decode cX10_isFree 6 = .ok (.getfield 236, 3) := dec_of t_X10_isFree_ok 6 rfl
theorem dX10_isFree_9 : decode cX10_isFree 9 = .ok (.if_icmp .ge 57, 3) := dec_of t_X10_isFree_ok 7 rfl
theorem dX10_isFree_12 : decode cX10_isFree 12 = .ok (.iload_n 2, 1) := dec_of t_X10_isFree_ok 8 rfl
theorem dX10_isFree_13 : decode cX10_isFree 13 = .ok (.ifCond .eq 45, 3) := dec_of t_X10_isFree_ok 9 rfl
theorem dX10_isFree_16 : decode cX10_isFree 16 = .ok (.aload_n 0, 1) := dec_of t_X10_isFree_ok 10 rfl
theorem dX10_isFree_17 : decode cX10_isFree 17 = .ok (.getfield 108, 3) := dec_of t_X10_isFree_ok 11 rfl
theorem dX10_isFree_20 : decode cX10_isFree 20 = .ok (.iload_n 1, 1) := dec_of t_X10_isFree_ok 12 rfl
theorem dX10_isFree_21 : decode cX10_isFree 21 = .ok (.iaload, 1) := dec_of t_X10_isFree_ok 13 rfl
theorem dX10_isFree_22 : decode cX10_isFree 22 = .ok (.aload_n 0, 1) := dec_of t_X10_isFree_ok 14 rfl
theorem dX10_isFree_23 : decode cX10_isFree 23 = .ok (.aload_n 0, 1) := dec_of t_X10_isFree_ok 15 rfl
theorem dX10_isFree_24 : decode cX10_isFree 24 = .ok (.getfield 117, 3) := dec_of t_X10_isFree_ok 16 rfl
theorem dX10_isFree_27 : decode cX10_isFree 27 = .ok (.iload_n 3, 1) := dec_of t_X10_isFree_ok 17 rfl
theorem dX10_isFree_28 : decode cX10_isFree 28 = .ok (.iaload, 1) := dec_of t_X10_isFree_ok 18 rfl
theorem dX10_isFree_29 : decode cX10_isFree 29 = .ok (.invokevirtual 233, 3) := dec_of t_X10_isFree_ok 19 rfl
theorem dX10_isFree_32 : decode cX10_isFree 32 = .ok (.if_icmp .le 22, 3) := dec_of t_X10_isFree_ok 20 rfl
theorem dX10_isFree_35 : decode cX10_isFree 35 = .ok (.aload_n 0, 1) := dec_of t_X10_isFree_ok 21 rfl
theorem dX10_isFree_36 : decode cX10_isFree 36 = .ok (.iload_n 1, 1) := dec_of t_X10_isFree_ok 22 rfl
theorem dX10_isFree_37 : decode cX10_isFree 37 = .ok (.invokevirtual 233, 3) := dec_of t_X10_isFree_ok 23 rfl
theorem dX10_isFree_40 : decode cX10_isFree 40 = .ok (.aload_n 0, 1) := dec_of t_X10_isFree_ok 24 rfl
theorem dX10_isFree_41 : decode cX10_isFree 41 = .ok (.getfield 108, 3) := dec_of t_X10_isFree_ok 25 rfl
theorem dX10_isFree_44 : decode cX10_isFree 44 = .ok (.aload_n 0, 1) := dec_of t_X10_isFree_ok 26 rfl
theorem dX10_isFree_45 : decode cX10_isFree 45 = .ok (.getfield 117, 3) := dec_of t_X10_isFree_ok 27 rfl
theorem dX10_isFree_48 : decode cX10_isFree 48 = .ok (.iload_n 3, 1) := dec_of t_X10_isFree_ok 28 rfl
theorem dX10_isFree_49 : decode cX10_isFree 49 = .ok (.iaload, 1) := dec_of t_X10_isFree_ok 29 rfl
theorem dX10_isFree_50 : decode cX10_isFree 50 = .ok (.iaload, 1) := dec_of t_X10_isFree_ok 30 rfl
theorem dX10_isFree_51 : decode cX10_isFree 51 = .ok (.if_icmp .lt 7, 3) := dec_of t_X10_isFree_ok 31 rfl
theorem dX10_isFree_54 : decode cX10_isFree 54 = .ok (.iconst 1, 1) := dec_of t_X10_isFree_ok 32 rfl
theorem dX10_isFree_55 : decode cX10_isFree 55 = .ok (.goto 4, 3) := dec_of t_X10_isFree_ok 33 rfl
theorem dX10_isFree_58 : decode cX10_isFree 58 = .ok (.iconst 0, 1) := dec_of t_X10_isFree_ok 34 rfl
theorem dX10_isFree_59 : decode cX10_isFree 59 = .ok (.istore_n 2, 1) := dec_of t_X10_isFree_ok 35 rfl
theorem dX10_isFree_60 : decode cX10_isFree 60 = .ok (.iinc 3 1, 3) := dec_of t_X10_isFree_ok 36 rfl
theorem dX10_isFree_63 : decode cX10_isFree 63 = .ok (.goto (-59), 3) := dec_of t_X10_isFree_ok 37 rfl
theorem dX10_isFree_66 : decode cX10_isFree 66 = .ok (.iload_n 2, 1) := dec_of t_X10_isFree_ok 38 rfl
theorem dX10_isFree_67 : decode cX10_isFree 67 = .ok (.ireturn, 1) := dec_of t_X10_isFree_ok 39 rfl
def t_X10_look : List (Nat × Instr × Nat) := [(0, .aload_n 0, 1), (1, .iload_n 1, 1), (2, .invokevirtual 239, 3), (5, .aload_n 0, 1), (6, .iconst 0, 1), (7, .putfield 236, 3), (10, .iconst 1, 1), (11, .istore_n 2, 1), (12, .iload_n 2, 1), (13, .ifCond .eq 142, 3), (16, .iconst (-1), 1), (17, .istore_n 3, 1), (18, .iconst 0, 1), (19, .istore 4, 2), (21, .iload 4, 2), (23, .aload_n 0, 1), (24, .getfield 205, 3), (27, .if_icmp .ge 39, 3), (30, .aload_n 0, 1), (31, .iload 4, 2), (33, .invokevirtual 242, 3), (36, .ifCond .eq 22, 3), (39, .iload_n 3, 1), (40, .ifCond .lt 13, 3), (43, .aload_n 0, 1), (44, .iload 4, 2), (46, .iload_n 3, 1), (47, .invokevirtual 245, 3), (50, .ifCond .eq 8, 3), (53, .iload 4, 2), (55, .goto 4, 3), (58, .iload_n 3, 1), (59, .istore_n 3, 1), (60, .iinc 4 1, 3), (63, .goto (-42), 3), (66, .iload_n 3, 1), (67, .ifCond .lt 7, 3), (70, .iconst 1, 1), (71, .goto 4, 3), (74, .iconst 0, 1), (75, .istore_n 2, 1), (76, .iload_n 2, 1), (77, .ifCond .eq 75, 3), (80, .aload_n 0, 1), (81, .getfield 236, 3), (84, .istore 4, 2), (86, .iload 4, 2), (88, .ifCond .le 46, 3), (91, .aload_n 0, 1), (92, .aload_n 0, 1), (93, .getfield 117, 3), (96, .iload 4, 2), (98, .iconst 1, 1), (99, .isub, 1), (100, .iaload, 1), (101, .invokevirtual 233, 3), (104, .aload_n 0, 1), (105, .iload_n 3, 1), (106, .invokevirtual 233, 3), (109, .if_icmp .le 25, 3), (112, .aload_n 0, 1), (113, .getfield 117, 3), (116, .iload 4, 2), (118, .aload_n 0, 1), (119, .getfield 117, 3), (122, .iload 4, 2), (124, .iconst 1, 1), (125, .isub, 1), (126, .iaload, 1), (127, .iastore, 1), (128, .iinc 4 (-1), 3), (131, .goto (-45), 3), (134, .aload_n 0, 1), (135, .getfield 117, 3), (138, .iload 4, 2), (140, .iload_n 3, 1), (141, .iastore, 1), (142, .aload_n 0, 1), (143, .dup, 1), (144, .getfield 236, 3), (147, .iconst 1, 1), (148, .iadd, 1), (149, .putfield 236, 3), (152, .goto (-140), 3), (155, .return_, 1)]
theorem t_X10_look_ok : dec_ok cX10_look t_X10_look = true := by decide +kernel
theorem dX10_look_0 : decode cX10_look 0 = .ok (.aload_n 0, 1) := dec_of t_X10_look_ok 0 rfl
theorem dX10_look_1 : decode cX10_look 1 = .ok (.iload_n 1, 1) := dec_of t_X10_look_ok 1 rfl
theorem dX10_look_2 : decode cX10_look 2 = .ok (.invokevirtual 239, 3) := dec_of t_X10_look_ok 2 rfl
theorem dX10_look_5 : decode cX10_look 5 = .ok (.aload_n 0, 1) := dec_of t_X10_look_ok 3 rfl
theorem dX10_look_6 : decode cX10_look 6 = .ok (.iconst 0, 1) := dec_of t_X10_look_ok 4 rfl
theorem dX10_look_7 : decode cX10_look 7 = .ok (.putfield 236, 3) := dec_of t_X10_look_ok 5 rfl
theorem dX10_look_10 : decode cX10_look 10 = .ok (.iconst 1, 1) := dec_of t_X10_look_ok 6 rfl
theorem dX10_look_11 : decode cX10_look 11 = .ok (.istore_n 2, 1) := dec_of t_X10_look_ok 7 rfl
theorem dX10_look_12 : decode cX10_look 12 = .ok (.iload_n 2, 1) := dec_of t_X10_look_ok 8 rfl
theorem dX10_look_13 : decode cX10_look 13 = .ok (.ifCond .eq 142, 3) := dec_of t_X10_look_ok 9 rfl
theorem dX10_look_16 : decode cX10_look 16 = .ok (.iconst (-1), 1) := dec_of t_X10_look_ok 10 rfl
theorem dX10_look_17 : decode cX10_look 17 = .ok (.istore_n 3, 1) := dec_of t_X10_look_ok 11 rfl
theorem dX10_look_18 : decode cX10_look 18 = .ok (.iconst 0, 1) := dec_of t_X10_look_ok 12 rfl
theorem dX10_look_19 : decode cX10_look 19 = .ok (.istore 4, 2) := dec_of t_X10_look_ok 13 rfl
theorem dX10_look_21 : decode cX10_look 21 = .ok (.iload 4, 2) := dec_of t_X10_look_ok 14 rfl
theorem dX10_look_23 : decode cX10_look 23 = .ok (.aload_n 0, 1) := dec_of t_X10_look_ok 15 rfl
theorem dX10_look_24 : decode cX10_look 24 = .ok (.getfield 205, 3) := dec_of t_X10_look_ok 16 rfl
theorem dX10_look_27 : decode cX10_look 27 = .ok (.if_icmp .ge 39, 3) := dec_of t_X10_look_ok 17 rfl
theorem dX10_look_30 : decode cX10_look 30 = .ok (.aload_n 0, 1) := dec_of t_X10_look_ok 18 rfl
theorem dX10_look_31 : decode cX10_look 31 = .ok (.iload 4, 2) := dec_of t_X10_look_ok 19 rfl
theorem dX10_look_33 : decode cX10_look 33 = .ok (.invokevirtual 242, 3) := dec_of t_X10_look_ok 20 rfl
theorem dX10_look_36 : decode cX10_look 36 = .ok (.ifCond .eq 22, 3) := dec_of t_X10_look_ok 21 rfl
theorem dX10_look_39 : decode cX10_look 39 = .ok (.iload_n 3, 1) := dec_of t_X10_look_ok 22 rfl
theorem dX10_look_40 : decode cX10_look 40 = .ok (.ifCond .lt 13, 3) := dec_of t_X10_look_ok 23 rfl
theorem dX10_look_43 : decode cX10_look 43 = .ok (.aload_n 0, 1) := dec_of t_X10_look_ok 24 rfl
theorem dX10_look_44 : decode cX10_look 44 = .ok (.iload 4, 2) := dec_of t_X10_look_ok 25 rfl
theorem dX10_look_46 : decode cX10_look 46 = .ok (.iload_n 3, 1) := dec_of t_X10_look_ok 26 rfl
theorem dX10_look_47 : decode cX10_look 47 = .ok (.invokevirtual 245, 3) := dec_of t_X10_look_ok 27 rfl
theorem dX10_look_50 : decode cX10_look 50 = .ok (.ifCond .eq 8, 3) := dec_of t_X10_look_ok 28 rfl
theorem dX10_look_53 : decode cX10_look 53 = .ok (.iload 4, 2) := dec_of t_X10_look_ok 29 rfl
theorem dX10_look_55 : decode cX10_look 55 = .ok (.goto 4, 3) := dec_of t_X10_look_ok 30 rfl
theorem dX10_look_58 : decode cX10_look 58 = .ok (.iload_n 3, 1) := dec_of t_X10_look_ok 31 rfl
theorem dX10_look_59 : decode cX10_look 59 = .ok (.istore_n 3, 1) := dec_of t_X10_look_ok 32 rfl
theorem dX10_look_60 : decode cX10_look 60 = .ok (.iinc 4 1, 3) := dec_of t_X10_look_ok 33 rfl
theorem dX10_look_63 : decode cX10_look 63 = .ok (.goto (-42), 3) := dec_of t_X10_look_ok 34 rfl
theorem dX10_look_66 : decode cX10_look 66 = .ok (.iload_n 3, 1) := dec_of t_X10_look_ok 35 rfl
theorem dX10_look_67 : decode cX10_look 67 = .ok (.ifCond .lt 7, 3) := dec_of t_X10_look_ok 36 rfl
theorem dX10_look_70 : decode cX10_look 70 = .ok (.iconst 1, 1) := dec_of t_X10_look_ok 37 rfl
theorem dX10_look_71 : decode cX10_look 71 = .ok (.goto 4, 3) := dec_of t_X10_look_ok 38 rfl
theorem dX10_look_74 : decode cX10_look 74 = .ok (.iconst 0, 1) := dec_of t_X10_look_ok 39 rfl
theorem dX10_look_75 : decode cX10_look 75 = .ok (.istore_n 2, 1) := dec_of t_X10_look_ok 40 rfl
theorem dX10_look_76 : decode cX10_look 76 = .ok (.iload_n 2, 1) := dec_of t_X10_look_ok 41 rfl
theorem dX10_look_77 : decode cX10_look 77 = .ok (.ifCond .eq 75, 3) := dec_of t_X10_look_ok 42 rfl
theorem dX10_look_80 : decode cX10_look 80 = .ok (.aload_n 0, 1) := dec_of t_X10_look_ok 43 rfl
theorem dX10_look_81 : decode cX10_look 81 = .ok (.getfield 236, 3) := dec_of t_X10_look_ok 44 rfl
theorem dX10_look_84 : decode cX10_look 84 = .ok (.istore 4, 2) := dec_of t_X10_look_ok 45 rfl
theorem dX10_look_86 : decode cX10_look 86 = .ok (.iload 4, 2) := dec_of t_X10_look_ok 46 rfl
theorem dX10_look_88 : decode cX10_look 88 = .ok (.ifCond .le 46, 3) := dec_of t_X10_look_ok 47 rfl
theorem dX10_look_91 : decode cX10_look 91 = .ok (.aload_n 0, 1) := dec_of t_X10_look_ok 48 rfl
theorem dX10_look_92 : decode cX10_look 92 = .ok (.aload_n 0, 1) := dec_of t_X10_look_ok 49 rfl
theorem dX10_look_93 : decode cX10_look 93 = .ok (.getfield 117, 3) := dec_of t_X10_look_ok 50 rfl
theorem dX10_look_96 : decode cX10_look 96 = .ok (.iload 4, 2) := dec_of t_X10_look_ok 51 rfl
theorem dX10_look_98 : decode cX10_look 98 = .ok (.iconst 1, 1) := dec_of t_X10_look_ok 52 rfl
theorem dX10_look_99 : decode cX10_look 99 = .ok (.isub, 1) := dec_of t_X10_look_ok 53 rfl
theorem dX10_look_100 : decode cX10_look 100 = .ok (.iaload, 1) := dec_of t_X10_look_ok 54 rfl
theorem dX10_look_101 : decode cX10_look 101 = .ok (.invokevirtual 233, 3) := dec_of t_X10_look_ok 55 rfl
theorem dX10_look_104 : decode cX10_look 104 = .ok (.aload_n 0, 1) := dec_of t_X10_look_ok 56 rfl
theorem dX10_look_105 : decode cX10_look 105 = .ok (.iload_n 3, 1) := dec_of t_X10_look_ok 57 rfl
theorem dX10_look_106 : decode cX10_look 106 = .ok (.invokevirtual 233, 3) := dec_of t_X10_look_ok 58 rfl
theorem dX10_look_109 : decode cX10_look 109 = .ok (.if_icmp .le 25, 3) := dec_of t_X10_look_ok 59 rfl
theorem dX10_look_112 : decode cX10_look 112 = .ok (.aload_n 0, 1) := dec_of t_X10_look_ok 60 rfl
theorem dX10_look_113 : decode cX10_look 113 = .ok (.getfield 117, 3) := dec_of t_X10_look_ok 61 rfl
theorem dX10_look_116 : decode cX10_look 116 = .ok (.iload 4, 2) := dec_of t_X10_look_ok 62 rfl
theorem dX10_look_118 : decode cX10_look 118 = .ok (.aload_n 0, 1) := dec_of t_X10_look_ok 63 rfl
theorem dX10_look_119 : decode cX10_look 119 = .ok (.getfield 117, 3) := dec_of t_X10_look_ok 64 rfl
theorem dX10_look_122 : decode cX10_look 122 = .ok (.iload 4, 2) := dec_of t_X10_look_ok 65 rfl
theorem dX10_look_124 : decode cX10_look 124 = .ok (.iconst 1, 1) := dec_of t_X10_look_ok 66 rfl
theorem dX10_look_125 : decode cX10_look 125 = .ok (.isub, 1) := dec_of t_X10_look_ok 67 rfl
theorem dX10_look_126 : decode cX10_look 126 = .ok (.iaload, 1) := dec_of t_X10_look_ok 68 rfl
theorem dX10_look_127 : decode cX10_look 127 = .ok (.iastore, 1) := dec_of t_X10_look_ok 69 rfl
theorem dX10_look_128 : decode cX10_look 128 = .ok (.iinc 4 (-1), 3) := dec_of t_X10_look_ok 70 rfl
theorem dX10_look_131 : decode cX10_look 131 = .ok (.goto (-45), 3) := dec_of t_X10_look_ok 71 rfl
theorem dX10_look_134 : decode cX10_look 134 = .ok (.aload_n 0, 1) := dec_of t_X10_look_ok 72 rfl
theorem dX10_look_135 : decode cX10_look 135 = .ok (.getfield 117, 3) := dec_of t_X10_look_ok 73 rfl
theorem dX10_look_138 : decode cX10_look 138 = .ok (.iload 4, 2) := dec_of t_X10_look_ok 74 rfl
theorem dX10_look_140 : decode cX10_look 140 = .ok (.iload_n 3, 1) := dec_of t_X10_look_ok 75 rfl
theorem dX10_look_141 : decode cX10_look 141 = .ok (.iastore, 1) := dec_of t_X10_look_ok 76 rfl
theorem dX10_look_142 : decode cX10_look 142 = .ok (.aload_n 0, 1) := dec_of t_X10_look_ok 77 rfl
theorem dX10_look_143 : decode cX10_look 143 = .ok (.dup, 1) := dec_of t_X10_look_ok 78 rfl
theorem dX10_look_144 : decode cX10_look 144 = .ok (.getfield 236, 3) := dec_of t_X10_look_ok 79 rfl
theorem dX10_look_147 : decode cX10_look 147 = .ok (.iconst 1, 1) := dec_of t_X10_look_ok 80 rfl
theorem dX10_look_148 : decode cX10_look 148 = .ok (.iadd, 1) := dec_of t_X10_look_ok 81 rfl
theorem dX10_look_149 : decode cX10_look 149 = .ok (.putfield 236, 3) := dec_of t_X10_look_ok 82 rfl
theorem dX10_look_152 : decode cX10_look 152 = .ok (.goto (-140), 3) := dec_of t_X10_look_ok 83 rfl
theorem dX10_look_155 : decode cX10_look 155 = .ok (.return_, 1) := dec_of t_X10_look_ok 84 rfl
def t_X10_suggestionsOf : List (Nat × Instr × Nat) := [(0, .aload_n 0, 1), (1, .getfield 111, 3), (4, .iload_n 1, 1), (5, .iaload, 1), (6, .istore_n 2, 1), (7, .iload_n 2, 1), (8, .bipush 20, 2), (10, .if_icmp .ne 7, 3), (13, .iconst 0, 1), (14, .goto 19, 3), (17, .iload_n 2, 1), (18, .bipush 12, 2), (20, .if_icmp .lt 7, 3), (23, .iconst 1, 1), (24, .goto 9, 3), (27, .aload_n 0, 1), (28, .getfield 51, 3), (31, .iload_n 2, 1), (32, .iaload, 1), (33, .ireturn, 1)]
theorem t_X10_suggestionsOf_ok : dec_ok cX10_suggestionsOf t_X10_suggestionsOf = true := by decide +kernel
theorem dX10_suggestionsOf_0 : decode cX10_suggestionsOf 0 = .ok (.aload_n 0, 1) := dec_of t_X10_suggestionsOf_ok 0 rfl
theorem dX10_suggestionsOf_1 : decode cX10_suggestionsOf 1 = .ok (.getfield 111, 3) := dec_of t_X10_suggestionsOf_ok 1 rfl
theorem dX10_suggestionsOf_4 : decode cX10_suggestionsOf 4 = .ok (.iload_n 1, 1) := dec_of t_X10_suggestionsOf_ok 2 rfl
theorem dX10_suggestionsOf_5 : decode cX10_suggestionsOf 5 = .ok (.iaload, 1) := dec_of t_X10_suggestionsOf_ok 3 rfl
theorem dX10_suggestionsOf_6 : decode cX10_suggestionsOf 6 = .ok (.istore_n 2, 1) := dec_of t_X10_suggestionsOf_ok 4 rfl
theorem dX10_suggestionsOf_7 : decode cX10_suggestionsOf 7 = .ok (.iload_n 2, 1) := dec_of t_X10_suggestionsOf_ok 5 rfl
theorem dX10_suggestionsOf_8 : decode cX10_suggestionsOf 8 = .ok (.bipush 20, 2) := dec_of t_X10_suggestionsOf_ok 6 rfl
theorem dX10_suggestionsOf_10 : decode cX10_suggestionsOf 10 = .ok (.if_icmp .ne 7, 3) := dec_of t_X10_suggestionsOf_ok 7 rfl
theorem dX10_suggestionsOf_13 : decode cX10_suggestionsOf 13 = .ok (.iconst 0, 1) := dec_of t_X10_suggestionsOf_ok 8 rfl
theorem dX10_suggestionsOf_14 : decode cX10_suggestionsOf 14 = .ok (.goto 19, 3) := dec_of t_X10_suggestionsOf_ok 9 rfl
theorem dX10_suggestionsOf_17 : decode cX10_suggestionsOf 17 = .ok (.iload_n 2, 1) := dec_of t_X10_suggestionsOf_ok 10 rfl
theorem dX10_suggestionsOf_18 : decode cX10_suggestionsOf 18 = .ok (.bipush 12, 2) := dec_of t_X10_suggestionsOf_ok 11 rfl
theorem dX10_suggestionsOf_20 : decode cX10_suggestionsOf 20 = .ok (.if_icmp .lt 7, 3) := dec_of t_X10_suggestionsOf_ok 12 rfl
theorem dX10_suggestionsOf_23 : decode cX10_suggestionsOf 23 = .ok (.iconst 1, 1) := dec_of t_X10_suggestionsOf_ok 13 rfl
theorem dX10_suggestionsOf_24 : decode cX10_suggestionsOf 24 = .ok (.goto 9, 3) := dec_of t_X10_suggestionsOf_ok 14 rfl
theorem dX10_suggestionsOf_27 : decode cX10_suggestionsOf 27 = .ok (.aload_n 0, 1) := dec_of t_X10_suggestionsOf_ok 15 rfl
theorem dX10_suggestionsOf_28 : decode cX10_suggestionsOf 28 = .ok (.getfield 51, 3) := dec_of t_X10_suggestionsOf_ok 16 rfl
theorem dX10_suggestionsOf_31 : decode cX10_suggestionsOf 31 = .ok (.iload_n 2, 1) := dec_of t_X10_suggestionsOf_ok 17 rfl
theorem dX10_suggestionsOf_32 : decode cX10_suggestionsOf 32 = .ok (.iaload, 1) := dec_of t_X10_suggestionsOf_ok 18 rfl
theorem dX10_suggestionsOf_33 : decode cX10_suggestionsOf 33 = .ok (.ireturn, 1) := dec_of t_X10_suggestionsOf_ok 19 rfl
def t_X10_isThing : List (Nat × Instr × Nat) := [(0, .iload_n 0, 1), (1, .bipush 102, 2), (3, .if_icmp .eq 33, 3), (6, .iload_n 0, 1), (7, .bipush 108, 2), (9, .if_icmp .eq 27, 3), (12, .iload_n 0, 1), (13, .bipush 114, 2), (15, .if_icmp .eq 21, 3), (18, .iload_n 0, 1), (19, .bipush 107, 2), (21, .if_icmp .eq 15, 3), (24, .iload_n 0, 1), (25, .bipush 119, 2), (27, .if_icmp .eq 9, 3), (30, .iload_n 0, 1), (31, .bipush 115, 2), (33, .if_icmp .ne 7, 3), (36, .iconst 1, 1), (37, .goto 4, 3), (40, .iconst 0, 1), (41, .ireturn, 1)]
theorem t_X10_isThing_ok : dec_ok cX10_isThing t_X10_isThing = true := by decide +kernel
theorem dX10_isThing_0 : decode cX10_isThing 0 = .ok (.iload_n 0, 1) := dec_of t_X10_isThing_ok 0 rfl
theorem dX10_isThing_1 : decode cX10_isThing 1 = .ok (.bipush 102, 2) := dec_of t_X10_isThing_ok 1 rfl
theorem dX10_isThing_3 : decode cX10_isThing 3 = .ok (.if_icmp .eq 33, 3) := dec_of t_X10_isThing_ok 2 rfl
theorem dX10_isThing_6 : decode cX10_isThing 6 = .ok (.iload_n 0, 1) := dec_of t_X10_isThing_ok 3 rfl
theorem dX10_isThing_7 : decode cX10_isThing 7 = .ok (.bipush 108, 2) := dec_of t_X10_isThing_ok 4 rfl
theorem dX10_isThing_9 : decode cX10_isThing 9 = .ok (.if_icmp .eq 27, 3) := dec_of t_X10_isThing_ok 5 rfl
theorem dX10_isThing_12 : decode cX10_isThing 12 = .ok (.iload_n 0, 1) := dec_of t_X10_isThing_ok 6 rfl
theorem dX10_isThing_13 : decode cX10_isThing 13 = .ok (.bipush 114, 2) := dec_of t_X10_isThing_ok 7 rfl
theorem dX10_isThing_15 : decode cX10_isThing 15 = .ok (.if_icmp .eq 21, 3) := dec_of t_X10_isThing_ok 8 rfl
theorem dX10_isThing_18 : decode cX10_isThing 18 = .ok (.iload_n 0, 1) := dec_of t_X10_isThing_ok 9 rfl
theorem dX10_isThing_19 : decode cX10_isThing 19 = .ok (.bipush 107, 2) := dec_of t_X10_isThing_ok 10 rfl
theorem dX10_isThing_21 : decode cX10_isThing 21 = .ok (.if_icmp .eq 15, 3) := dec_of t_X10_isThing_ok 11 rfl
theorem dX10_isThing_24 : decode cX10_isThing 24 = .ok (.iload_n 0, 1) := dec_of t_X10_isThing_ok 12 rfl
theorem dX10_isThing_25 : decode cX10_isThing 25 = .ok (.bipush 119, 2) := dec_of t_X10_isThing_ok 13 rfl
theorem dX10_isThing_27 : decode cX10_isThing 27 = .ok (.if_icmp .eq 9, 3) := dec_of t_X10_isThing_ok 14 rfl
theorem dX10_isThing_30 : decode cX10_isThing 30 = .ok (.iload_n 0, 1) := dec_of t_X10_isThing_ok 15 rfl
theorem dX10_isThing_31 : decode cX10_isThing 31 = .ok (.bipush 115, 2) := dec_of t_X10_isThing_ok 16 rfl
theorem dX10_isThing_33 : decode cX10_isThing 33 = .ok (.if_icmp .ne 7, 3) := dec_of t_X10_isThing_ok 17 rfl
theorem dX10_isThing_36 : decode cX10_isThing 36 = .ok (.iconst 1, 1) := dec_of t_X10_isThing_ok 18 rfl
theorem dX10_isThing_37 : decode cX10_isThing 37 = .ok (.goto 4, 3) := dec_of t_X10_isThing_ok 19 rfl
theorem dX10_isThing_40 : decode cX10_isThing 40 = .ok (.iconst 0, 1) := dec_of t_X10_isThing_ok 20 rfl
theorem dX10_isThing_41 : decode cX10_isThing 41 = .ok (.ireturn, 1) := dec_of t_X10_isThing_ok 21 rfl
def t_X10_of : List (Nat × Instr × Nat) := [(0, .aload_n 0, 1), (1, .iload_n 1, 1), (2, .invokestatic 131, 3), (5, .ifCond .eq 14, 3), (8, .iload_n 3, 1), (9, .invokestatic 254, 3), (12, .ifCond .eq 7, 3), (15, .iconst 0, 1), (16, .goto 4, 3), (19, .iconst 1, 1), (20, .putfield 123, 3), (23, .aload_n 0, 1), (24, .getfield 123, 3), (27, .ifCond .le 5, 3), (30, .iconst 0, 1), (31, .ireturn, 1), (32, .aload_n 0, 1), (33, .iload_n 1, 1), (34, .invokevirtual 251, 3), (37, .aload_n 0, 1), (38, .iload_n 2, 1), (39, .iconst 0, 1), (40, .aload_n 0, 1), (41, .getfield 236, 3), (44, .iconst 1, 1), (45, .isub, 1), (46, .invokestatic 127, 3), (49, .ifCond .eq 7, 3), (52, .iconst 0, 1), (53, .goto 4, 3), (56, .iconst 2, 1), (57, .putfield 123, 3), (60, .aload_n 0, 1), (61, .getfield 123, 3), (64, .ifCond .le 5, 3), (67, .iconst 0, 1), (68, .ireturn, 1), (69, .aload_n 0, 1), (70, .getfield 117, 3), (73, .iload_n 2, 1), (74, .iaload, 1), (75, .istore 4, 2), (77, .aload_n 0, 1), (78, .iload 4, 2), (80, .invokevirtual 233, 3), (83, .istore 5, 2), (85, .iload_n 3, 1), (86, .bipush 102, 2), (88, .if_icmp .ne 8, 3), (91, .iload 5, 2), (93, .goto 76, 3), (96, .iload_n 3, 1), (97, .bipush 108, 2), (99, .if_icmp .ne 16, 3), (102, .aload_n 0, 1), (103, .getfield 108, 3), (106, .iload 4, 2), (108, .iaload, 1), (109, .iload 5, 2), (111, .isub, 1), (112, .goto 57, 3), (115, .iload_n 3, 1), (116, .bipush 114, 2), (118, .if_icmp .ne 13, 3), (121, .aload_n 0, 1), (122, .getfield 111, 3), (125, .iload 4, 2), (127, .iaload, 1), (128, .goto 41, 3), (131, .iload_n 3, 1), (132, .bipush 107, 2), (134, .if_icmp .ne 13, 3), (137, .aload_n 0, 1), (138, .getfield 114, 3), (141, .iload 4, 2), (143, .iaload, 1), (144, .goto 25, 3), (147, .iload_n 3, 1), (148, .bipush 119, 2), (150, .if_icmp .ne 13, 3), (153, .aload_n 0, 1), (154, .getfield 13, 3), (157, .iload 5, 2), (159, .iaload, 1), (160, .goto 9, 3), (163, .aload_n 0, 1), (164, .iload 4, 2), (166, .invokevirtual 257, 3), (169, .ireturn, 1)]
theorem t_X10_of_ok : dec_ok cX10_of t_X10_of = true := by decide +kernel
theorem dX10_of_0 : decode cX10_of 0 = .ok (.aload_n 0, 1) := dec_of t_X10_of_ok 0 rfl
theorem dX10_of_1 : decode cX10_of 1 = .ok (.iload_n 1, 1) := dec_of t_X10_of_ok 1 rfl
theorem dX10_of_2 : decode cX10_of 2 = .ok (.invokestatic 131, 3) := dec_of t_X10_of_ok 2 rfl
theorem dX10_of_5 : decode cX10_of 5 = .ok (.ifCond .eq 14, 3) := dec_of t_X10_of_ok 3 rfl
theorem dX10_of_8 : decode cX10_of 8 = .ok (.iload_n 3, 1) := dec_of t_X10_of_ok 4 rfl
theorem dX10_of_9 : decode cX10_of 9 = .ok (.invokestatic 254, 3) := dec_of t_X10_of_ok 5 rfl
theorem dX10_of_12 : decode cX10_of 12 = .ok (.ifCond .eq 7, 3) := dec_of t_X10_of_ok 6 rfl
theorem dX10_of_15 : decode cX10_of 15 = .ok (.iconst 0, 1) := dec_of t_X10_of_ok 7 rfl
theorem dX10_of_16 : decode cX10_of 16 = .ok (.goto 4, 3) := dec_of t_X10_of_ok 8 rfl
theorem dX10_of_19 : decode cX10_of 19 = .ok (.iconst 1, 1) := dec_of t_X10_of_ok 9 rfl
theorem dX10_of_20 : decode cX10_of 20 = .ok (.putfield 123, 3) := dec_of t_X10_of_ok 10 rfl
theorem dX10_of_23 : decode cX10_of 23 = .ok (.aload_n 0, 1) := dec_of t_X10_of_ok 11 rfl
theorem dX10_of_24 : decode cX10_of 24 = .ok (.getfield 123, 3) := dec_of t_X10_of_ok 12 rfl
theorem dX10_of_27 : decode cX10_of 27 = .ok (.ifCond .le 5, 3) := dec_of t_X10_of_ok 13 rfl
theorem dX10_of_30 : decode cX10_of 30 = .ok (.iconst 0, 1) := dec_of t_X10_of_ok 14 rfl
theorem dX10_of_31 : decode cX10_of 31 = .ok (.ireturn, 1) := dec_of t_X10_of_ok 15 rfl
theorem dX10_of_32 : decode cX10_of 32 = .ok (.aload_n 0, 1) := dec_of t_X10_of_ok 16 rfl
theorem dX10_of_33 : decode cX10_of 33 = .ok (.iload_n 1, 1) := dec_of t_X10_of_ok 17 rfl
theorem dX10_of_34 : decode cX10_of 34 = .ok (.invokevirtual 251, 3) := dec_of t_X10_of_ok 18 rfl
theorem dX10_of_37 : decode cX10_of 37 = .ok (.aload_n 0, 1) := dec_of t_X10_of_ok 19 rfl
theorem dX10_of_38 : decode cX10_of 38 = .ok (.iload_n 2, 1) := dec_of t_X10_of_ok 20 rfl
theorem dX10_of_39 : decode cX10_of 39 = .ok (.iconst 0, 1) := dec_of t_X10_of_ok 21 rfl
theorem dX10_of_40 : decode cX10_of 40 = .ok (.aload_n 0, 1) := dec_of t_X10_of_ok 22 rfl
theorem dX10_of_41 : decode cX10_of 41 = .ok (.getfield 236, 3) := dec_of t_X10_of_ok 23 rfl
theorem dX10_of_44 : decode cX10_of 44 = .ok (.iconst 1, 1) := dec_of t_X10_of_ok 24 rfl
theorem dX10_of_45 : decode cX10_of 45 = .ok (.isub, 1) := dec_of t_X10_of_ok 25 rfl
theorem dX10_of_46 : decode cX10_of 46 = .ok (.invokestatic 127, 3) := dec_of t_X10_of_ok 26 rfl
theorem dX10_of_49 : decode cX10_of 49 = .ok (.ifCond .eq 7, 3) := dec_of t_X10_of_ok 27 rfl
theorem dX10_of_52 : decode cX10_of 52 = .ok (.iconst 0, 1) := dec_of t_X10_of_ok 28 rfl
theorem dX10_of_53 : decode cX10_of 53 = .ok (.goto 4, 3) := dec_of t_X10_of_ok 29 rfl
theorem dX10_of_56 : decode cX10_of 56 = .ok (.iconst 2, 1) := dec_of t_X10_of_ok 30 rfl
theorem dX10_of_57 : decode cX10_of 57 = .ok (.putfield 123, 3) := dec_of t_X10_of_ok 31 rfl
theorem dX10_of_60 : decode cX10_of 60 = .ok (.aload_n 0, 1) := dec_of t_X10_of_ok 32 rfl
theorem dX10_of_61 : decode cX10_of 61 = .ok (.getfield 123, 3) := dec_of t_X10_of_ok 33 rfl
theorem dX10_of_64 : decode cX10_of 64 = .ok (.ifCond .le 5, 3) := dec_of t_X10_of_ok 34 rfl
theorem dX10_of_67 : decode cX10_of 67 = .ok (.iconst 0, 1) := dec_of t_X10_of_ok 35 rfl
theorem dX10_of_68 : decode cX10_of 68 = .ok (.ireturn, 1) := dec_of t_X10_of_ok 36 rfl
theorem dX10_of_69 : decode cX10_of 69 = .ok (.aload_n 0, 1) := dec_of t_X10_of_ok 37 rfl
theorem dX10_of_70 : decode cX10_of 70 = .ok (.getfield 117, 3) := dec_of t_X10_of_ok 38 rfl
theorem dX10_of_73 : decode cX10_of 73 = .ok (.iload_n 2, 1) := dec_of t_X10_of_ok 39 rfl
theorem dX10_of_74 : decode cX10_of 74 = .ok (.iaload, 1) := dec_of t_X10_of_ok 40 rfl
theorem dX10_of_75 : decode cX10_of 75 = .ok (.istore 4, 2) := dec_of t_X10_of_ok 41 rfl
theorem dX10_of_77 : decode cX10_of 77 = .ok (.aload_n 0, 1) := dec_of t_X10_of_ok 42 rfl
theorem dX10_of_78 : decode cX10_of 78 = .ok (.iload 4, 2) := dec_of t_X10_of_ok 43 rfl
theorem dX10_of_80 : decode cX10_of 80 = .ok (.invokevirtual 233, 3) := dec_of t_X10_of_ok 44 rfl
theorem dX10_of_83 : decode cX10_of 83 = .ok (.istore 5, 2) := dec_of t_X10_of_ok 45 rfl
theorem dX10_of_85 : decode cX10_of 85 = .ok (.iload_n 3, 1) := dec_of t_X10_of_ok 46 rfl
theorem dX10_of_86 : decode cX10_of 86 = .ok (.bipush 102, 2) := dec_of t_X10_of_ok 47 rfl
theorem dX10_of_88 : decode cX10_of 88 = .ok (.if_icmp .ne 8, 3) := dec_of t_X10_of_ok 48 rfl
theorem dX10_of_91 : decode cX10_of 91 = .ok (.iload 5, 2) := dec_of t_X10_of_ok 49 rfl
theorem dX10_of_93 : decode cX10_of 93 = .ok (.goto 76, 3) := dec_of t_X10_of_ok 50 rfl
theorem dX10_of_96 : decode cX10_of 96 = .ok (.iload_n 3, 1) := dec_of t_X10_of_ok 51 rfl
theorem dX10_of_97 : decode cX10_of 97 = .ok (.bipush 108, 2) := dec_of t_X10_of_ok 52 rfl
theorem dX10_of_99 : decode cX10_of 99 = .ok (.if_icmp .ne 16, 3) := dec_of t_X10_of_ok 53 rfl
theorem dX10_of_102 : decode cX10_of 102 = .ok (.aload_n 0, 1) := dec_of t_X10_of_ok 54 rfl
theorem dX10_of_103 : decode cX10_of 103 = .ok (.getfield 108, 3) := dec_of t_X10_of_ok 55 rfl
theorem dX10_of_106 : decode cX10_of 106 = .ok (.iload 4, 2) := dec_of t_X10_of_ok 56 rfl
theorem dX10_of_108 : decode cX10_of 108 = .ok (.iaload, 1) := dec_of t_X10_of_ok 57 rfl
theorem dX10_of_109 : decode cX10_of 109 = .ok (.iload 5, 2) := dec_of t_X10_of_ok 58 rfl
theorem dX10_of_111 : decode cX10_of 111 = .ok (.isub, 1) := dec_of t_X10_of_ok 59 rfl
theorem dX10_of_112 : decode cX10_of 112 = .ok (.goto 57, 3) := dec_of t_X10_of_ok 60 rfl
theorem dX10_of_115 : decode cX10_of 115 = .ok (.iload_n 3, 1) := dec_of t_X10_of_ok 61 rfl
theorem dX10_of_116 : decode cX10_of 116 = .ok (.bipush 114, 2) := dec_of t_X10_of_ok 62 rfl
theorem dX10_of_118 : decode cX10_of 118 = .ok (.if_icmp .ne 13, 3) := dec_of t_X10_of_ok 63 rfl
theorem dX10_of_121 : decode cX10_of 121 = .ok (.aload_n 0, 1) := dec_of t_X10_of_ok 64 rfl
theorem dX10_of_122 : decode cX10_of 122 = .ok (.getfield 111, 3) := dec_of t_X10_of_ok 65 rfl
theorem dX10_of_125 : decode cX10_of 125 = .ok (.iload 4, 2) := dec_of t_X10_of_ok 66 rfl
theorem dX10_of_127 : decode cX10_of 127 = .ok (.iaload, 1) := dec_of t_X10_of_ok 67 rfl
theorem dX10_of_128 : decode cX10_of 128 = .ok (.goto 41, 3) := dec_of t_X10_of_ok 68 rfl
theorem dX10_of_131 : decode cX10_of 131 = .ok (.iload_n 3, 1) := dec_of t_X10_of_ok 69 rfl
theorem dX10_of_132 : decode cX10_of 132 = .ok (.bipush 107, 2) := dec_of t_X10_of_ok 70 rfl
theorem dX10_of_134 : decode cX10_of 134 = .ok (.if_icmp .ne 13, 3) := dec_of t_X10_of_ok 71 rfl
theorem dX10_of_137 : decode cX10_of 137 = .ok (.aload_n 0, 1) := dec_of t_X10_of_ok 72 rfl
theorem dX10_of_138 : decode cX10_of 138 = .ok (.getfield 114, 3) := dec_of t_X10_of_ok 73 rfl
theorem dX10_of_141 : decode cX10_of 141 = .ok (.iload 4, 2) := dec_of t_X10_of_ok 74 rfl
theorem dX10_of_143 : decode cX10_of 143 = .ok (.iaload, 1) := dec_of t_X10_of_ok 75 rfl
theorem dX10_of_144 : decode cX10_of 144 = .ok (.goto 25, 3) := dec_of t_X10_of_ok 76 rfl
theorem dX10_of_147 : decode cX10_of 147 = .ok (.iload_n 3, 1) := dec_of t_X10_of_ok 77 rfl
theorem dX10_of_148 : decode cX10_of 148 = .ok (.bipush 119, 2) := dec_of t_X10_of_ok 78 rfl
theorem dX10_of_150 : decode cX10_of 150 = .ok (.if_icmp .ne 13, 3) := dec_of t_X10_of_ok 79 rfl
theorem dX10_of_153 : decode cX10_of 153 = .ok (.aload_n 0, 1) := dec_of t_X10_of_ok 80 rfl
theorem dX10_of_154 : decode cX10_of 154 = .ok (.getfield 13, 3) := dec_of t_X10_of_ok 81 rfl
theorem dX10_of_157 : decode cX10_of 157 = .ok (.iload 5, 2) := dec_of t_X10_of_ok 82 rfl
theorem dX10_of_159 : decode cX10_of 159 = .ok (.iaload, 1) := dec_of t_X10_of_ok 83 rfl
theorem dX10_of_160 : decode cX10_of 160 = .ok (.goto 9, 3) := dec_of t_X10_of_ok 84 rfl
theorem dX10_of_163 : decode cX10_of 163 = .ok (.aload_n 0, 1) := dec_of t_X10_of_ok 85 rfl
theorem dX10_of_164 : decode cX10_of 164 = .ok (.iload 4, 2) := dec_of t_X10_of_ok 86 rfl
theorem dX10_of_166 : decode cX10_of 166 = .ok (.invokevirtual 257, 3) := dec_of t_X10_of_ok 87 rfl
theorem dX10_of_169 : decode cX10_of 169 = .ok (.ireturn, 1) := dec_of t_X10_of_ok 88 rfl
def t_X10_outs : List (Nat × Instr × Nat) := [(0, .aload_n 0, 1), (1, .getfield 120, 3), (4, .aload_n 0, 1), (5, .getfield 260, 3), (8, .iload_n 1, 1), (9, .castore, 1), (10, .aload_n 0, 1), (11, .dup, 1), (12, .getfield 260, 3), (15, .iconst 1, 1), (16, .iadd, 1), (17, .putfield 260, 3), (20, .return_, 1)]
theorem t_X10_outs_ok : dec_ok cX10_outs t_X10_outs = true := by decide +kernel
theorem dX10_outs_0 : decode cX10_outs 0 = .ok (.aload_n 0, 1) := dec_of t_X10_outs_ok 0 rfl
theorem dX10_outs_1 : decode cX10_outs 1 = .ok (.getfield 120, 3) := dec_of t_X10_outs_ok 1 rfl
theorem dX10_outs_4 : decode cX10_outs 4 = .ok (.aload_n 0, 1) := dec_of t_X10_outs_ok 2 rfl
theorem dX10_outs_5 : decode cX10_outs 5 = .ok (.getfield 260, 3) := dec_of t_X10_outs_ok 3 rfl
theorem dX10_outs_8 : decode cX10_outs 8 = .ok (.iload_n 1, 1) := dec_of t_X10_outs_ok 4 rfl
theorem dX10_outs_9 : decode cX10_outs 9 = .ok (.castore, 1) := dec_of t_X10_outs_ok 5 rfl
theorem dX10_outs_10 : decode cX10_outs 10 = .ok (.aload_n 0, 1) := dec_of t_X10_outs_ok 6 rfl
theorem dX10_outs_11 : decode cX10_outs 11 = .ok (.dup, 1) := dec_of t_X10_outs_ok 7 rfl
theorem dX10_outs_12 : decode cX10_outs 12 = .ok (.getfield 260, 3) := dec_of t_X10_outs_ok 8 rfl
theorem dX10_outs_15 : decode cX10_outs 15 = .ok (.iconst 1, 1) := dec_of t_X10_outs_ok 9 rfl
theorem dX10_outs_16 : decode cX10_outs 16 = .ok (.iadd, 1) := dec_of t_X10_outs_ok 10 rfl
theorem dX10_outs_17 : decode cX10_outs 17 = .ok (.putfield 260, 3) := dec_of t_X10_outs_ok 11 rfl
theorem dX10_outs_20 : decode cX10_outs 20 = .ok (.return_, 1) := dec_of t_X10_outs_ok 12 rfl
def t_X10_star : List (Nat × Instr × Nat) := [(0, .aload_n 0, 1), (1, .getfield 111, 3), (4, .iload_n 1, 1), (5, .iaload, 1), (6, .istore_n 2, 1), (7, .iconst 0, 1), (8, .istore_n 3, 1), (9, .iconst 0, 1), (10, .istore 4, 2), (12, .iload 4, 2), (14, .aload_n 0, 1), (15, .getfield 20, 3), (18, .iload_n 2, 1), (19, .iaload, 1), (20, .if_icmp .ge 102, 3), (23, .iload_n 2, 1), (24, .iconst 3, 1), (25, .imul, 1), (26, .iload 4, 2), (28, .iadd, 1), (29, .istore 5, 2), (31, .iload_n 3, 1), (32, .ifCond .ne 84, 3), (35, .aload_n 0, 1), (36, .getfield 29, 3), (39, .iload 5, 2), (41, .iaload, 1), (42, .iconst 1, 1), (43, .if_icmp .eq 14, 3), (46, .aload_n 0, 1), (47, .getfield 29, 3), (50, .iload 5, 2), (52, .iaload, 1), (53, .iconst 2, 1), (54, .if_icmp .ne 62, 3), (57, .iconst 1, 1), (58, .istore_n 3, 1), (59, .aload_n 0, 1), (60, .getfield 105, 3), (63, .iload_n 1, 1), (64, .iaload, 1), (65, .iload 4, 2), (67, .iadd, 1), (68, .istore 6, 2), (70, .aload_n 0, 1), (71, .getfield 90, 3), (74, .iload 6, 2), (76, .iaload, 1), (77, .aload_n 0, 1), (78, .getfield 26, 3), (81, .iload 5, 2), (83, .iaload, 1), (84, .iadd, 1), (85, .istore 7, 2), (87, .iload 7, 2), (89, .aload_n 0, 1), (90, .getfield 93, 3), (93, .iload 6, 2), (95, .iaload, 1), (96, .if_icmp .ge 20, 3), (99, .aload_n 0, 1), (100, .aload_n 0, 1), (101, .getfield 7, 3), (104, .iload 7, 2), (106, .caload, 1), (107, .invokevirtual 263, 3), (110, .iinc 7 1, 3), (113, .goto (-26), 3), (116, .iinc 4 1, 3), (119, .goto (-107), 3), (122, .return_, 1)]
theorem t_X10_star_ok : dec_ok cX10_star t_X10_star = true := by decide +kernel
theorem dX10_star_0 : decode cX10_star 0 = .ok (.aload_n 0, 1) := dec_of t_X10_star_ok 0 rfl
theorem dX10_star_1 : decode cX10_star 1 = .ok (.getfield 111, 3) := dec_of t_X10_star_ok 1 rfl
theorem dX10_star_4 : decode cX10_star 4 = .ok (.iload_n 1, 1) := dec_of t_X10_star_ok 2 rfl
theorem dX10_star_5 : decode cX10_star 5 = .ok (.iaload, 1) := dec_of t_X10_star_ok 3 rfl
theorem dX10_star_6 : decode cX10_star 6 = .ok (.istore_n 2, 1) := dec_of t_X10_star_ok 4 rfl
theorem dX10_star_7 : decode cX10_star 7 = .ok (.iconst 0, 1) := dec_of t_X10_star_ok 5 rfl
theorem dX10_star_8 : decode cX10_star 8 = .ok (.istore_n 3, 1) := dec_of t_X10_star_ok 6 rfl
theorem dX10_star_9 : decode cX10_star 9 = .ok (.iconst 0, 1) := dec_of t_X10_star_ok 7 rfl
theorem dX10_star_10 : decode cX10_star 10 = .ok (.istore 4, 2) := dec_of t_X10_star_ok 8 rfl
theorem dX10_star_12 : decode cX10_star 12 = .ok (.iload 4, 2) := dec_of t_X10_star_ok 9 rfl
theorem dX10_star_14 : decode cX10_star 14 = .ok (.aload_n 0, 1) := dec_of t_X10_star_ok 10 rfl
theorem dX10_star_15 : decode cX10_star 15 = .ok (.getfield 20, 3) := dec_of t_X10_star_ok 11 rfl
theorem dX10_star_18 : decode cX10_star 18 = .ok (.iload_n 2, 1) := dec_of t_X10_star_ok 12 rfl
theorem dX10_star_19 : decode cX10_star 19 = .ok (.iaload, 1) := dec_of t_X10_star_ok 13 rfl
theorem dX10_star_20 : decode cX10_star 20 = .ok (.if_icmp .ge 102, 3) := dec_of t_X10_star_ok 14 rfl
theorem dX10_star_23 : decode cX10_star 23 = .ok (.iload_n 2, 1) := dec_of t_X10_star_ok 15 rfl
theorem dX10_star_24 : decode cX10_star 24 = .ok (.iconst 3, 1) := dec_of t_X10_star_ok 16 rfl
theorem dX10_star_25 : decode cX10_star 25 = .ok (.imul, 1) := dec_of t_X10_star_ok 17 rfl
theorem dX10_star_26 : decode cX10_star 26 = .ok (.iload 4, 2) := dec_of t_X10_star_ok 18 rfl
theorem dX10_star_28 : decode cX10_star 28 = .ok (.iadd, 1) := dec_of t_X10_star_ok 19 rfl
theorem dX10_star_29 : decode cX10_star 29 = .ok (.istore 5, 2) := dec_of t_X10_star_ok 20 rfl
theorem dX10_star_31 : decode cX10_star 31 = .ok (.iload_n 3, 1) := dec_of t_X10_star_ok 21 rfl
theorem dX10_star_32 : decode cX10_star 32 = .ok (.ifCond .ne 84, 3) := dec_of t_X10_star_ok 22 rfl
theorem dX10_star_35 : decode cX10_star 35 = .ok (.aload_n 0, 1) := dec_of t_X10_star_ok 23 rfl
theorem dX10_star_36 : decode cX10_star 36 = .ok (.getfield 29, 3) := dec_of t_X10_star_ok 24 rfl
theorem dX10_star_39 : decode cX10_star 39 = .ok (.iload 5, 2) := dec_of t_X10_star_ok 25 rfl
theorem dX10_star_41 : decode cX10_star 41 = .ok (.iaload, 1) := dec_of t_X10_star_ok 26 rfl
theorem dX10_star_42 : decode cX10_star 42 = .ok (.iconst 1, 1) := dec_of t_X10_star_ok 27 rfl
theorem dX10_star_43 : decode cX10_star 43 = .ok (.if_icmp .eq 14, 3) := dec_of t_X10_star_ok 28 rfl
theorem dX10_star_46 : decode cX10_star 46 = .ok (.aload_n 0, 1) := dec_of t_X10_star_ok 29 rfl
theorem dX10_star_47 : decode cX10_star 47 = .ok (.getfield 29, 3) := dec_of t_X10_star_ok 30 rfl
theorem dX10_star_50 : decode cX10_star 50 = .ok (.iload 5, 2) := dec_of t_X10_star_ok 31 rfl
theorem dX10_star_52 : decode cX10_star 52 = .ok (.iaload, 1) := dec_of t_X10_star_ok 32 rfl
theorem dX10_star_53 : decode cX10_star 53 = .ok (.iconst 2, 1) := dec_of t_X10_star_ok 33 rfl
theorem dX10_star_54 : decode cX10_star 54 = .ok (.if_icmp .ne 62, 3) := dec_of t_X10_star_ok 34 rfl
theorem dX10_star_57 : decode cX10_star 57 = .ok (.iconst 1, 1) := dec_of t_X10_star_ok 35 rfl
theorem dX10_star_58 : decode cX10_star 58 = .ok (.istore_n 3, 1) := dec_of t_X10_star_ok 36 rfl
theorem dX10_star_59 : decode cX10_star 59 = .ok (.aload_n 0, 1) := dec_of t_X10_star_ok 37 rfl
theorem dX10_star_60 : decode cX10_star 60 = .ok (.getfield 105, 3) := dec_of t_X10_star_ok 38 rfl
theorem dX10_star_63 : decode cX10_star 63 = .ok (.iload_n 1, 1) := dec_of t_X10_star_ok 39 rfl
theorem dX10_star_64 : decode cX10_star 64 = .ok (.iaload, 1) := dec_of t_X10_star_ok 40 rfl
theorem dX10_star_65 : decode cX10_star 65 = .ok (.iload 4, 2) := dec_of t_X10_star_ok 41 rfl
theorem dX10_star_67 : decode cX10_star 67 = .ok (.iadd, 1) := dec_of t_X10_star_ok 42 rfl
theorem dX10_star_68 : decode cX10_star 68 = .ok (.istore 6, 2) := dec_of t_X10_star_ok 43 rfl
theorem dX10_star_70 : decode cX10_star 70 = .ok (.aload_n 0, 1) := dec_of t_X10_star_ok 44 rfl
theorem dX10_star_71 : decode cX10_star 71 = .ok (.getfield 90, 3) := dec_of t_X10_star_ok 45 rfl
theorem dX10_star_74 : decode cX10_star 74 = .ok (.iload 6, 2) := dec_of t_X10_star_ok 46 rfl
theorem dX10_star_76 : decode cX10_star 76 = .ok (.iaload, 1) := dec_of t_X10_star_ok 47 rfl
theorem dX10_star_77 : decode cX10_star 77 = .ok (.aload_n 0, 1) := dec_of t_X10_star_ok 48 rfl
theorem dX10_star_78 : decode cX10_star 78 = .ok (.getfield 26, 3) := dec_of t_X10_star_ok 49 rfl
theorem dX10_star_81 : decode cX10_star 81 = .ok (.iload 5, 2) := dec_of t_X10_star_ok 50 rfl
theorem dX10_star_83 : decode cX10_star 83 = .ok (.iaload, 1) := dec_of t_X10_star_ok 51 rfl
theorem dX10_star_84 : decode cX10_star 84 = .ok (.iadd, 1) := dec_of t_X10_star_ok 52 rfl
theorem dX10_star_85 : decode cX10_star 85 = .ok (.istore 7, 2) := dec_of t_X10_star_ok 53 rfl
theorem dX10_star_87 : decode cX10_star 87 = .ok (.iload 7, 2) := dec_of t_X10_star_ok 54 rfl
theorem dX10_star_89 : decode cX10_star 89 = .ok (.aload_n 0, 1) := dec_of t_X10_star_ok 55 rfl
theorem dX10_star_90 : decode cX10_star 90 = .ok (.getfield 93, 3) := dec_of t_X10_star_ok 56 rfl
theorem dX10_star_93 : decode cX10_star 93 = .ok (.iload 6, 2) := dec_of t_X10_star_ok 57 rfl
theorem dX10_star_95 : decode cX10_star 95 = .ok (.iaload, 1) := dec_of t_X10_star_ok 58 rfl
theorem dX10_star_96 : decode cX10_star 96 = .ok (.if_icmp .ge 20, 3) := dec_of t_X10_star_ok 59 rfl
theorem dX10_star_99 : decode cX10_star 99 = .ok (.aload_n 0, 1) := dec_of t_X10_star_ok 60 rfl
theorem dX10_star_100 : decode cX10_star 100 = .ok (.aload_n 0, 1) := dec_of t_X10_star_ok 61 rfl
theorem dX10_star_101 : decode cX10_star 101 = .ok (.getfield 7, 3) := dec_of t_X10_star_ok 62 rfl
theorem dX10_star_104 : decode cX10_star 104 = .ok (.iload 7, 2) := dec_of t_X10_star_ok 63 rfl
theorem dX10_star_106 : decode cX10_star 106 = .ok (.caload, 1) := dec_of t_X10_star_ok 64 rfl
theorem dX10_star_107 : decode cX10_star 107 = .ok (.invokevirtual 263, 3) := dec_of t_X10_star_ok 65 rfl
theorem dX10_star_110 : decode cX10_star 110 = .ok (.iinc 7 1, 3) := dec_of t_X10_star_ok 66 rfl
theorem dX10_star_113 : decode cX10_star 113 = .ok (.goto (-26), 3) := dec_of t_X10_star_ok 67 rfl
theorem dX10_star_116 : decode cX10_star 116 = .ok (.iinc 4 1, 3) := dec_of t_X10_star_ok 68 rfl
theorem dX10_star_119 : decode cX10_star 119 = .ok (.goto (-107), 3) := dec_of t_X10_star_ok 69 rfl
theorem dX10_star_122 : decode cX10_star 122 = .ok (.return_, 1) := dec_of t_X10_star_ok 70 rfl
def t_X10_isMade : List (Nat × Instr × Nat) := [(0, .aload_n 0, 1), (1, .iload_n 1, 1), (2, .invokevirtual 251, 3), (5, .aload_n 0, 1), (6, .iconst 0, 1), (7, .putfield 260, 3), (10, .iload_n 2, 1), (11, .iconst 0, 1), (12, .aload_n 0, 1), (13, .getfield 236, 3), (16, .iconst 1, 1), (17, .isub, 1), (18, .invokestatic 127, 3), (21, .ifCond .eq 23, 3), (24, .iload_n 3, 1), (25, .iconst 0, 1), (26, .aload_n 0, 1), (27, .aload_n 0, 1), (28, .getfield 117, 3), (31, .iload_n 2, 1), (32, .iaload, 1), (33, .invokevirtual 257, 3), (36, .iconst 1, 1), (37, .isub, 1), (38, .invokestatic 127, 3), (41, .ifCond .ne 5, 3), (44, .iconst 0, 1), (45, .ireturn, 1), (46, .aload_n 0, 1), (47, .getfield 117, 3), (50, .iload_n 2, 1), (51, .iaload, 1), (52, .istore 4, 2), (54, .aload_n 0, 1), (55, .getfield 111, 3), (58, .iload 4, 2), (60, .iaload, 1), (61, .istore 5, 2), (63, .iload 5, 2), (65, .bipush 12, 2), (67, .if_icmp .lt 71, 3), (70, .iconst 2, 1), (71, .iload 5, 2), (73, .bipush 12, 2), (75, .isub, 1), (76, .imul, 1), (77, .iconst 1, 1), (78, .iadd, 1), (79, .aload_n 0, 1), (80, .iload 5, 2), (82, .bipush 12, 2), (84, .isub, 1), (85, .aload_n 0, 1), (86, .getfield 105, 3), (89, .iload 4, 2), (91, .iaload, 1), (92, .invokevirtual 230, 3), (95, .isub, 1), (96, .istore 6, 2), (98, .iconst 0, 1), (99, .istore 7, 2), (101, .iload 7, 2), (103, .aload_n 0, 1), (104, .getfield 63, 3), (107, .iload 6, 2), (109, .iaload, 1), (110, .if_icmp .ge 26, 3), (113, .aload_n 0, 1), (114, .aload_n 0, 1), (115, .getfield 60, 3), (118, .iload 6, 2), (120, .bipush 20, 2), (122, .imul, 1), (123, .iload 7, 2), (125, .iadd, 1), (126, .caload, 1), (127, .invokevirtual 263, 3), (130, .iinc 7 1, 3), (133, .goto (-32), 3), (136, .iconst 1, 1), (137, .ireturn, 1), (138, .iload 5, 2), (140, .iconst 2, 1), (141, .imul, 1), (142, .iload_n 3, 1), (143, .iadd, 1), (144, .istore 6, 2), (146, .iconst 0, 1), (147, .istore 7, 2), (149, .iload 7, 2), (151, .aload_n 0, 1), (152, .getfield 57, 3), (155, .iload 6, 2), (157, .iaload, 1), (158, .if_icmp .ge 53, 3), (161, .aload_n 0, 1), (162, .getfield 54, 3), (165, .iload 6, 2), (167, .bipush 20, 2), (169, .imul, 1), (170, .iload 7, 2), (172, .iadd, 1), (173, .caload, 1), (174, .bipush 42, 2), (176, .if_icmp .ne 12, 3), (179, .aload_n 0, 1), (180, .iload 4, 2), (182, .invokevirtual 267, 3), (185, .goto 20, 3), (188, .aload_n 0, 1), (189, .aload_n 0, 1), (190, .getfield 54, 3), (193, .iload 6, 2), (195, .bipush 20, 2), (197, .imul, 1), (198, .iload 7, 2), (200, .iadd, 1), (201, .caload, 1), (202, .invokevirtual 263, 3), (205, .iinc 7 1, 3), (208, .goto (-59), 3), (211, .iconst 1, 1), (212, .ireturn, 1)]
theorem t_X10_isMade_ok : dec_ok cX10_isMade t_X10_isMade = true := by decide +kernel
theorem dX10_isMade_0 : decode cX10_isMade 0 = .ok (.aload_n 0, 1) := dec_of t_X10_isMade_ok 0 rfl
theorem dX10_isMade_1 : decode cX10_isMade 1 = .ok (.iload_n 1, 1) := dec_of t_X10_isMade_ok 1 rfl
theorem dX10_isMade_2 : decode cX10_isMade 2 = .ok (.invokevirtual 251, 3) := dec_of t_X10_isMade_ok 2 rfl
theorem dX10_isMade_5 : decode cX10_isMade 5 = .ok (.aload_n 0, 1) := dec_of t_X10_isMade_ok 3 rfl
theorem dX10_isMade_6 : decode cX10_isMade 6 = .ok (.iconst 0, 1) := dec_of t_X10_isMade_ok 4 rfl
theorem dX10_isMade_7 : decode cX10_isMade 7 = .ok (.putfield 260, 3) := dec_of t_X10_isMade_ok 5 rfl
theorem dX10_isMade_10 : decode cX10_isMade 10 = .ok (.iload_n 2, 1) := dec_of t_X10_isMade_ok 6 rfl
theorem dX10_isMade_11 : decode cX10_isMade 11 = .ok (.iconst 0, 1) := dec_of t_X10_isMade_ok 7 rfl
theorem dX10_isMade_12 : decode cX10_isMade 12 = .ok (.aload_n 0, 1) := dec_of t_X10_isMade_ok 8 rfl
theorem dX10_isMade_13 : decode cX10_isMade 13 = .ok (.getfield 236, 3) := dec_of t_X10_isMade_ok 9 rfl
theorem dX10_isMade_16 : decode cX10_isMade 16 = .ok (.iconst 1, 1) := dec_of t_X10_isMade_ok 10 rfl
theorem dX10_isMade_17 : decode cX10_isMade 17 = .ok (.isub, 1) := dec_of t_X10_isMade_ok 11 rfl
theorem dX10_isMade_18 : decode cX10_isMade 18 = .ok (.invokestatic 127, 3) := dec_of t_X10_isMade_ok 12 rfl
theorem dX10_isMade_21 : decode cX10_isMade 21 = .ok (.ifCond .eq 23, 3) := dec_of t_X10_isMade_ok 13 rfl
theorem dX10_isMade_24 : decode cX10_isMade 24 = .ok (.iload_n 3, 1) := dec_of t_X10_isMade_ok 14 rfl
theorem dX10_isMade_25 : decode cX10_isMade 25 = .ok (.iconst 0, 1) := dec_of t_X10_isMade_ok 15 rfl
theorem dX10_isMade_26 : decode cX10_isMade 26 = .ok (.aload_n 0, 1) := dec_of t_X10_isMade_ok 16 rfl
theorem dX10_isMade_27 : decode cX10_isMade 27 = .ok (.aload_n 0, 1) := dec_of t_X10_isMade_ok 17 rfl
theorem dX10_isMade_28 : decode cX10_isMade 28 = .ok (.getfield 117, 3) := dec_of t_X10_isMade_ok 18 rfl
theorem dX10_isMade_31 : decode cX10_isMade 31 = .ok (.iload_n 2, 1) := dec_of t_X10_isMade_ok 19 rfl
theorem dX10_isMade_32 : decode cX10_isMade 32 = .ok (.iaload, 1) := dec_of t_X10_isMade_ok 20 rfl
theorem dX10_isMade_33 : decode cX10_isMade 33 = .ok (.invokevirtual 257, 3) := dec_of t_X10_isMade_ok 21 rfl
theorem dX10_isMade_36 : decode cX10_isMade 36 = .ok (.iconst 1, 1) := dec_of t_X10_isMade_ok 22 rfl
theorem dX10_isMade_37 : decode cX10_isMade 37 = .ok (.isub, 1) := dec_of t_X10_isMade_ok 23 rfl
theorem dX10_isMade_38 : decode cX10_isMade 38 = .ok (.invokestatic 127, 3) := dec_of t_X10_isMade_ok 24 rfl
theorem dX10_isMade_41 : decode cX10_isMade 41 = .ok (.ifCond .ne 5, 3) := dec_of t_X10_isMade_ok 25 rfl
theorem dX10_isMade_44 : decode cX10_isMade 44 = .ok (.iconst 0, 1) := dec_of t_X10_isMade_ok 26 rfl
theorem dX10_isMade_45 : decode cX10_isMade 45 = .ok (.ireturn, 1) := dec_of t_X10_isMade_ok 27 rfl
theorem dX10_isMade_46 : decode cX10_isMade 46 = .ok (.aload_n 0, 1) := dec_of t_X10_isMade_ok 28 rfl
theorem dX10_isMade_47 : decode cX10_isMade 47 = .ok (.getfield 117, 3) := dec_of t_X10_isMade_ok 29 rfl
theorem dX10_isMade_50 : decode cX10_isMade 50 = .ok (.iload_n 2, 1) := dec_of t_X10_isMade_ok 30 rfl
theorem dX10_isMade_51 : decode cX10_isMade 51 = .ok (.iaload, 1) := dec_of t_X10_isMade_ok 31 rfl
theorem dX10_isMade_52 : decode cX10_isMade 52 = .ok (.istore 4, 2) := dec_of t_X10_isMade_ok 32 rfl
theorem dX10_isMade_54 : decode cX10_isMade 54 = .ok (.aload_n 0, 1) := dec_of t_X10_isMade_ok 33 rfl
theorem dX10_isMade_55 : decode cX10_isMade 55 = .ok (.getfield 111, 3) := dec_of t_X10_isMade_ok 34 rfl
theorem dX10_isMade_58 : decode cX10_isMade 58 = .ok (.iload 4, 2) := dec_of t_X10_isMade_ok 35 rfl
theorem dX10_isMade_60 : decode cX10_isMade 60 = .ok (.iaload, 1) := dec_of t_X10_isMade_ok 36 rfl
theorem dX10_isMade_61 : decode cX10_isMade 61 = .ok (.istore 5, 2) := dec_of t_X10_isMade_ok 37 rfl
theorem dX10_isMade_63 : decode cX10_isMade 63 = .ok (.iload 5, 2) := dec_of t_X10_isMade_ok 38 rfl
theorem dX10_isMade_65 : decode cX10_isMade 65 = .ok (.bipush 12, 2) := dec_of t_X10_isMade_ok 39 rfl
theorem dX10_isMade_67 : decode cX10_isMade 67 = .ok (.if_icmp .lt 71, 3) := dec_of t_X10_isMade_ok 40 rfl
theorem dX10_isMade_70 : decode cX10_isMade 70 = .ok (.iconst 2, 1) := dec_of t_X10_isMade_ok 41 rfl
theorem dX10_isMade_71 : decode cX10_isMade 71 = .ok (.iload 5, 2) := dec_of t_X10_isMade_ok 42 rfl
theorem dX10_isMade_73 : decode cX10_isMade 73 = .ok (.bipush 12, 2) := dec_of t_X10_isMade_ok 43 rfl
theorem dX10_isMade_75 : decode cX10_isMade 75 = .ok (.isub, 1) := dec_of t_X10_isMade_ok 44 rfl
theorem dX10_isMade_76 : decode cX10_isMade 76 = .ok (.imul, 1) := dec_of t_X10_isMade_ok 45 rfl
theorem dX10_isMade_77 : decode cX10_isMade 77 = .ok (.iconst 1, 1) := dec_of t_X10_isMade_ok 46 rfl
theorem dX10_isMade_78 : decode cX10_isMade 78 = .ok (.iadd, 1) := dec_of t_X10_isMade_ok 47 rfl
theorem dX10_isMade_79 : decode cX10_isMade 79 = .ok (.aload_n 0, 1) := dec_of t_X10_isMade_ok 48 rfl
theorem dX10_isMade_80 : decode cX10_isMade 80 = .ok (.iload 5, 2) := dec_of t_X10_isMade_ok 49 rfl
theorem dX10_isMade_82 : decode cX10_isMade 82 = .ok (.bipush 12, 2) := dec_of t_X10_isMade_ok 50 rfl
theorem dX10_isMade_84 : decode cX10_isMade 84 = .ok (.isub, 1) := dec_of t_X10_isMade_ok 51 rfl
theorem dX10_isMade_85 : decode cX10_isMade 85 = .ok (.aload_n 0, 1) := dec_of t_X10_isMade_ok 52 rfl
theorem dX10_isMade_86 : decode cX10_isMade 86 = .ok (.getfield 105, 3) := dec_of t_X10_isMade_ok 53 rfl
theorem dX10_isMade_89 : decode cX10_isMade 89 = .ok (.iload 4, 2) := dec_of t_X10_isMade_ok 54 rfl
theorem dX10_isMade_91 : decode cX10_isMade 91 = .ok (.iaload, 1) := dec_of t_X10_isMade_ok 55 rfl
theorem dX10_isMade_92 : decode cX10_isMade 92 = .ok (.invokevirtual 230, 3) := dec_of t_X10_isMade_ok 56 rfl
theorem dX10_isMade_95 : decode cX10_isMade 95 = .ok (.isub, 1) := dec_of t_X10_isMade_ok 57 rfl
theorem dX10_isMade_96 : decode cX10_isMade 96 = .ok (.istore 6, 2) := dec_of t_X10_isMade_ok 58 rfl
theorem dX10_isMade_98 : decode cX10_isMade 98 = .ok (.iconst 0, 1) := dec_of t_X10_isMade_ok 59 rfl
theorem dX10_isMade_99 : decode cX10_isMade 99 = .ok (.istore 7, 2) := dec_of t_X10_isMade_ok 60 rfl
theorem dX10_isMade_101 : decode cX10_isMade 101 = .ok (.iload 7, 2) := dec_of t_X10_isMade_ok 61 rfl
theorem dX10_isMade_103 : decode cX10_isMade 103 = .ok (.aload_n 0, 1) := dec_of t_X10_isMade_ok 62 rfl
theorem dX10_isMade_104 : decode cX10_isMade 104 = .ok (.getfield 63, 3) := dec_of t_X10_isMade_ok 63 rfl
theorem dX10_isMade_107 : decode cX10_isMade 107 = .ok (.iload 6, 2) := dec_of t_X10_isMade_ok 64 rfl
theorem dX10_isMade_109 : decode cX10_isMade 109 = .ok (.iaload, 1) := dec_of t_X10_isMade_ok 65 rfl
theorem dX10_isMade_110 : decode cX10_isMade 110 = .ok (.if_icmp .ge 26, 3) := dec_of t_X10_isMade_ok 66 rfl
theorem dX10_isMade_113 : decode cX10_isMade 113 = .ok (.aload_n 0, 1) := dec_of t_X10_isMade_ok 67 rfl
theorem dX10_isMade_114 : decode cX10_isMade 114 = .ok (.aload_n 0, 1) := dec_of t_X10_isMade_ok 68 rfl
theorem dX10_isMade_115 : decode cX10_isMade 115 = .ok (.getfield 60, 3) := dec_of t_X10_isMade_ok 69 rfl
theorem dX10_isMade_118 : decode cX10_isMade 118 = .ok (.iload 6, 2) := dec_of t_X10_isMade_ok 70 rfl
theorem dX10_isMade_120 : decode cX10_isMade 120 = .ok (.bipush 20, 2) := dec_of t_X10_isMade_ok 71 rfl
theorem dX10_isMade_122 : decode cX10_isMade 122 = .ok (.imul, 1) := dec_of t_X10_isMade_ok 72 rfl
theorem dX10_isMade_123 : decode cX10_isMade 123 = .ok (.iload 7, 2) := dec_of t_X10_isMade_ok 73 rfl
theorem dX10_isMade_125 : decode cX10_isMade 125 = .ok (.iadd, 1) := dec_of t_X10_isMade_ok 74 rfl
theorem dX10_isMade_126 : decode cX10_isMade 126 = .ok (.caload, 1) := dec_of t_X10_isMade_ok 75 rfl
theorem dX10_isMade_127 : decode cX10_isMade 127 = .ok (.invokevirtual 263, 3) := dec_of t_X10_isMade_ok 76 rfl
theorem dX10_isMade_130 : decode cX10_isMade 130 = .ok (.iinc 7 1, 3) := dec_of t_X10_isMade_ok 77 rfl
theorem dX10_isMade_133 : decode cX10_isMade 133 = .ok (.goto (-32), 3) := dec_of t_X10_isMade_ok 78 rfl
theorem dX10_isMade_136 : decode cX10_isMade 136 = .ok (.iconst 1, 1) := dec_of t_X10_isMade_ok 79 rfl
theorem dX10_isMade_137 : decode cX10_isMade 137 = .ok (.ireturn, 1) := dec_of t_X10_isMade_ok 80 rfl
theorem dX10_isMade_138 : decode cX10_isMade 138 = .ok (.iload 5, 2) := dec_of t_X10_isMade_ok 81 rfl
theorem dX10_isMade_140 : decode cX10_isMade 140 = .ok (.iconst 2, 1) := dec_of t_X10_isMade_ok 82 rfl
theorem dX10_isMade_141 : decode cX10_isMade 141 = .ok (.imul, 1) := dec_of t_X10_isMade_ok 83 rfl
theorem dX10_isMade_142 : decode cX10_isMade 142 = .ok (.iload_n 3, 1) := dec_of t_X10_isMade_ok 84 rfl
theorem dX10_isMade_143 : decode cX10_isMade 143 = .ok (.iadd, 1) := dec_of t_X10_isMade_ok 85 rfl
theorem dX10_isMade_144 : decode cX10_isMade 144 = .ok (.istore 6, 2) := dec_of t_X10_isMade_ok 86 rfl
theorem dX10_isMade_146 : decode cX10_isMade 146 = .ok (.iconst 0, 1) := dec_of t_X10_isMade_ok 87 rfl
theorem dX10_isMade_147 : decode cX10_isMade 147 = .ok (.istore 7, 2) := dec_of t_X10_isMade_ok 88 rfl
theorem dX10_isMade_149 : decode cX10_isMade 149 = .ok (.iload 7, 2) := dec_of t_X10_isMade_ok 89 rfl
theorem dX10_isMade_151 : decode cX10_isMade 151 = .ok (.aload_n 0, 1) := dec_of t_X10_isMade_ok 90 rfl
theorem dX10_isMade_152 : decode cX10_isMade 152 = .ok (.getfield 57, 3) := dec_of t_X10_isMade_ok 91 rfl
theorem dX10_isMade_155 : decode cX10_isMade 155 = .ok (.iload 6, 2) := dec_of t_X10_isMade_ok 92 rfl
theorem dX10_isMade_157 : decode cX10_isMade 157 = .ok (.iaload, 1) := dec_of t_X10_isMade_ok 93 rfl
theorem dX10_isMade_158 : decode cX10_isMade 158 = .ok (.if_icmp .ge 53, 3) := dec_of t_X10_isMade_ok 94 rfl
theorem dX10_isMade_161 : decode cX10_isMade 161 = .ok (.aload_n 0, 1) := dec_of t_X10_isMade_ok 95 rfl
theorem dX10_isMade_162 : decode cX10_isMade 162 = .ok (.getfield 54, 3) := dec_of t_X10_isMade_ok 96 rfl
theorem dX10_isMade_165 : decode cX10_isMade 165 = .ok (.iload 6, 2) := dec_of t_X10_isMade_ok 97 rfl
theorem dX10_isMade_167 : decode cX10_isMade 167 = .ok (.bipush 20, 2) := dec_of t_X10_isMade_ok 98 rfl
theorem dX10_isMade_169 : decode cX10_isMade 169 = .ok (.imul, 1) := dec_of t_X10_isMade_ok 99 rfl
theorem dX10_isMade_170 : decode cX10_isMade 170 = .ok (.iload 7, 2) := dec_of t_X10_isMade_ok 100 rfl
theorem dX10_isMade_172 : decode cX10_isMade 172 = .ok (.iadd, 1) := dec_of t_X10_isMade_ok 101 rfl
theorem dX10_isMade_173 : decode cX10_isMade 173 = .ok (.caload, 1) := dec_of t_X10_isMade_ok 102 rfl
theorem dX10_isMade_174 : decode cX10_isMade 174 = .ok (.bipush 42, 2) := dec_of t_X10_isMade_ok 103 rfl
theorem dX10_isMade_176 : decode cX10_isMade 176 = .ok (.if_icmp .ne 12, 3) := dec_of t_X10_isMade_ok 104 rfl
theorem dX10_isMade_179 : decode cX10_isMade 179 = .ok (.aload_n 0, 1) := dec_of t_X10_isMade_ok 105 rfl
theorem dX10_isMade_180 : decode cX10_isMade 180 = .ok (.iload 4, 2) := dec_of t_X10_isMade_ok 106 rfl
theorem dX10_isMade_182 : decode cX10_isMade 182 = .ok (.invokevirtual 267, 3) := dec_of t_X10_isMade_ok 107 rfl
theorem dX10_isMade_185 : decode cX10_isMade 185 = .ok (.goto 20, 3) := dec_of t_X10_isMade_ok 108 rfl
theorem dX10_isMade_188 : decode cX10_isMade 188 = .ok (.aload_n 0, 1) := dec_of t_X10_isMade_ok 109 rfl
theorem dX10_isMade_189 : decode cX10_isMade 189 = .ok (.aload_n 0, 1) := dec_of t_X10_isMade_ok 110 rfl
theorem dX10_isMade_190 : decode cX10_isMade 190 = .ok (.getfield 54, 3) := dec_of t_X10_isMade_ok 111 rfl
theorem dX10_isMade_193 : decode cX10_isMade 193 = .ok (.iload 6, 2) := dec_of t_X10_isMade_ok 112 rfl
theorem dX10_isMade_195 : decode cX10_isMade 195 = .ok (.bipush 20, 2) := dec_of t_X10_isMade_ok 113 rfl
theorem dX10_isMade_197 : decode cX10_isMade 197 = .ok (.imul, 1) := dec_of t_X10_isMade_ok 114 rfl
theorem dX10_isMade_198 : decode cX10_isMade 198 = .ok (.iload 7, 2) := dec_of t_X10_isMade_ok 115 rfl
theorem dX10_isMade_200 : decode cX10_isMade 200 = .ok (.iadd, 1) := dec_of t_X10_isMade_ok 116 rfl
theorem dX10_isMade_201 : decode cX10_isMade 201 = .ok (.caload, 1) := dec_of t_X10_isMade_ok 117 rfl
theorem dX10_isMade_202 : decode cX10_isMade 202 = .ok (.invokevirtual 263, 3) := dec_of t_X10_isMade_ok 118 rfl
theorem dX10_isMade_205 : decode cX10_isMade 205 = .ok (.iinc 7 1, 3) := dec_of t_X10_isMade_ok 119 rfl
theorem dX10_isMade_208 : decode cX10_isMade 208 = .ok (.goto (-59), 3) := dec_of t_X10_isMade_ok 120 rfl
theorem dX10_isMade_211 : decode cX10_isMade 211 = .ok (.iconst 1, 1) := dec_of t_X10_isMade_ok 121 rfl
theorem dX10_isMade_212 : decode cX10_isMade 212 = .ok (.ireturn, 1) := dec_of t_X10_isMade_ok 122 rfl
def t_X10_size : List (Nat × Instr × Nat) := [(0, .aload_n 0, 1), (1, .iload_n 1, 1), (2, .invokevirtual 248, 3), (5, .ifCond .eq 5, 3), (8, .iconst 0, 1), (9, .ireturn, 1), (10, .aload_n 0, 1), (11, .aload_n 0, 1), (12, .iload_n 1, 1), (13, .iload_n 2, 1), (14, .iload_n 3, 1), (15, .invokevirtual 270, 3), (18, .ifCond .eq 7, 3), (21, .iconst 0, 1), (22, .goto 4, 3), (25, .iconst 2, 1), (26, .putfield 123, 3), (29, .aload_n 0, 1), (30, .getfield 123, 3), (33, .ifCond .le 7, 3), (36, .iconst 0, 1), (37, .goto 7, 3), (40, .aload_n 0, 1), (41, .getfield 260, 3), (44, .ireturn, 1)]
theorem t_X10_size_ok : dec_ok cX10_size t_X10_size = true := by decide +kernel
theorem dX10_size_0 : decode cX10_size 0 = .ok (.aload_n 0, 1) := dec_of t_X10_size_ok 0 rfl
theorem dX10_size_1 : decode cX10_size 1 = .ok (.iload_n 1, 1) := dec_of t_X10_size_ok 1 rfl
theorem dX10_size_2 : decode cX10_size 2 = .ok (.invokevirtual 248, 3) := dec_of t_X10_size_ok 2 rfl
theorem dX10_size_5 : decode cX10_size 5 = .ok (.ifCond .eq 5, 3) := dec_of t_X10_size_ok 3 rfl
theorem dX10_size_8 : decode cX10_size 8 = .ok (.iconst 0, 1) := dec_of t_X10_size_ok 4 rfl
theorem dX10_size_9 : decode cX10_size 9 = .ok (.ireturn, 1) := dec_of t_X10_size_ok 5 rfl
theorem dX10_size_10 : decode cX10_size 10 = .ok (.aload_n 0, 1) := dec_of t_X10_size_ok 6 rfl
theorem dX10_size_11 : decode cX10_size 11 = .ok (.aload_n 0, 1) := dec_of t_X10_size_ok 7 rfl
theorem dX10_size_12 : decode cX10_size 12 = .ok (.iload_n 1, 1) := dec_of t_X10_size_ok 8 rfl
theorem dX10_size_13 : decode cX10_size 13 = .ok (.iload_n 2, 1) := dec_of t_X10_size_ok 9 rfl
theorem dX10_size_14 : decode cX10_size 14 = .ok (.iload_n 3, 1) := dec_of t_X10_size_ok 10 rfl
theorem dX10_size_15 : decode cX10_size 15 = .ok (.invokevirtual 270, 3) := dec_of t_X10_size_ok 11 rfl
theorem dX10_size_18 : decode cX10_size 18 = .ok (.ifCond .eq 7, 3) := dec_of t_X10_size_ok 12 rfl
theorem dX10_size_21 : decode cX10_size 21 = .ok (.iconst 0, 1) := dec_of t_X10_size_ok 13 rfl
theorem dX10_size_22 : decode cX10_size 22 = .ok (.goto 4, 3) := dec_of t_X10_size_ok 14 rfl
theorem dX10_size_25 : decode cX10_size 25 = .ok (.iconst 2, 1) := dec_of t_X10_size_ok 15 rfl
theorem dX10_size_26 : decode cX10_size 26 = .ok (.putfield 123, 3) := dec_of t_X10_size_ok 16 rfl
theorem dX10_size_29 : decode cX10_size 29 = .ok (.aload_n 0, 1) := dec_of t_X10_size_ok 17 rfl
theorem dX10_size_30 : decode cX10_size 30 = .ok (.getfield 123, 3) := dec_of t_X10_size_ok 18 rfl
theorem dX10_size_33 : decode cX10_size 33 = .ok (.ifCond .le 7, 3) := dec_of t_X10_size_ok 19 rfl
theorem dX10_size_36 : decode cX10_size 36 = .ok (.iconst 0, 1) := dec_of t_X10_size_ok 20 rfl
theorem dX10_size_37 : decode cX10_size 37 = .ok (.goto 7, 3) := dec_of t_X10_size_ok 21 rfl
theorem dX10_size_40 : decode cX10_size 40 = .ok (.aload_n 0, 1) := dec_of t_X10_size_ok 22 rfl
theorem dX10_size_41 : decode cX10_size 41 = .ok (.getfield 260, 3) := dec_of t_X10_size_ok 23 rfl
theorem dX10_size_44 : decode cX10_size 44 = .ok (.ireturn, 1) := dec_of t_X10_size_ok 24 rfl
def t_X10_sign : List (Nat × Instr × Nat) := [(0, .aload_n 0, 1), (1, .iload_n 1, 1), (2, .invokevirtual 248, 3), (5, .ifCond .eq 6, 3), (8, .bipush 32, 2), (10, .ireturn, 1), (11, .aload_n 0, 1), (12, .aload_n 0, 1), (13, .iload_n 1, 1), (14, .iload_n 2, 1), (15, .iload_n 3, 1), (16, .invokevirtual 270, 3), (19, .ifCond .eq 22, 3), (22, .iload 4, 2), (24, .iconst 0, 1), (25, .aload_n 0, 1), (26, .getfield 260, 3), (29, .iconst 1, 1), (30, .isub, 1), (31, .invokestatic 127, 3), (34, .ifCond .eq 7, 3), (37, .iconst 0, 1), (38, .goto 4, 3), (41, .iconst 2, 1), (42, .putfield 123, 3), (45, .aload_n 0, 1), (46, .getfield 123, 3), (49, .ifCond .le 8, 3), (52, .bipush 32, 2), (54, .goto 10, 3), (57, .aload_n 0, 1), (58, .getfield 120, 3), (61, .iload 4, 2), (63, .caload, 1), (64, .ireturn, 1)]
theorem t_X10_sign_ok : dec_ok cX10_sign t_X10_sign = true := by decide +kernel
theorem dX10_sign_0 : decode cX10_sign 0 = .ok (.aload_n 0, 1) := dec_of t_X10_sign_ok 0 rfl
theorem dX10_sign_1 : decode cX10_sign 1 = .ok (.iload_n 1, 1) := dec_of t_X10_sign_ok 1 rfl
theorem dX10_sign_2 : decode cX10_sign 2 = .ok (.invokevirtual 248, 3) := dec_of t_X10_sign_ok 2 rfl
theorem dX10_sign_5 : decode cX10_sign 5 = .ok (.ifCond .eq 6, 3) := dec_of t_X10_sign_ok 3 rfl
theorem dX10_sign_8 : decode cX10_sign 8 = .ok (.bipush 32, 2) := dec_of t_X10_sign_ok 4 rfl
theorem dX10_sign_10 : decode cX10_sign 10 = .ok (.ireturn, 1) := dec_of t_X10_sign_ok 5 rfl
theorem dX10_sign_11 : decode cX10_sign 11 = .ok (.aload_n 0, 1) := dec_of t_X10_sign_ok 6 rfl
theorem dX10_sign_12 : decode cX10_sign 12 = .ok (.aload_n 0, 1) := dec_of t_X10_sign_ok 7 rfl
theorem dX10_sign_13 : decode cX10_sign 13 = .ok (.iload_n 1, 1) := dec_of t_X10_sign_ok 8 rfl
theorem dX10_sign_14 : decode cX10_sign 14 = .ok (.iload_n 2, 1) := dec_of t_X10_sign_ok 9 rfl
theorem dX10_sign_15 : decode cX10_sign 15 = .ok (.iload_n 3, 1) := dec_of t_X10_sign_ok 10 rfl
theorem dX10_sign_16 : decode cX10_sign 16 = .ok (.invokevirtual 270, 3) := dec_of t_X10_sign_ok 11 rfl
theorem dX10_sign_19 : decode cX10_sign 19 = .ok (.ifCond .eq 22, 3) := dec_of t_X10_sign_ok 12 rfl
theorem dX10_sign_22 : decode cX10_sign 22 = .ok (.iload 4, 2) := dec_of t_X10_sign_ok 13 rfl
theorem dX10_sign_24 : decode cX10_sign 24 = .ok (.iconst 0, 1) := dec_of t_X10_sign_ok 14 rfl
theorem dX10_sign_25 : decode cX10_sign 25 = .ok (.aload_n 0, 1) := dec_of t_X10_sign_ok 15 rfl
theorem dX10_sign_26 : decode cX10_sign 26 = .ok (.getfield 260, 3) := dec_of t_X10_sign_ok 16 rfl
theorem dX10_sign_29 : decode cX10_sign 29 = .ok (.iconst 1, 1) := dec_of t_X10_sign_ok 17 rfl
theorem dX10_sign_30 : decode cX10_sign 30 = .ok (.isub, 1) := dec_of t_X10_sign_ok 18 rfl
theorem dX10_sign_31 : decode cX10_sign 31 = .ok (.invokestatic 127, 3) := dec_of t_X10_sign_ok 19 rfl
theorem dX10_sign_34 : decode cX10_sign 34 = .ok (.ifCond .eq 7, 3) := dec_of t_X10_sign_ok 20 rfl
theorem dX10_sign_37 : decode cX10_sign 37 = .ok (.iconst 0, 1) := dec_of t_X10_sign_ok 21 rfl
theorem dX10_sign_38 : decode cX10_sign 38 = .ok (.goto 4, 3) := dec_of t_X10_sign_ok 22 rfl
theorem dX10_sign_41 : decode cX10_sign 41 = .ok (.iconst 2, 1) := dec_of t_X10_sign_ok 23 rfl
theorem dX10_sign_42 : decode cX10_sign 42 = .ok (.putfield 123, 3) := dec_of t_X10_sign_ok 24 rfl
theorem dX10_sign_45 : decode cX10_sign 45 = .ok (.aload_n 0, 1) := dec_of t_X10_sign_ok 25 rfl
theorem dX10_sign_46 : decode cX10_sign 46 = .ok (.getfield 123, 3) := dec_of t_X10_sign_ok 26 rfl
theorem dX10_sign_49 : decode cX10_sign 49 = .ok (.ifCond .le 8, 3) := dec_of t_X10_sign_ok 27 rfl
theorem dX10_sign_52 : decode cX10_sign 52 = .ok (.bipush 32, 2) := dec_of t_X10_sign_ok 28 rfl
theorem dX10_sign_54 : decode cX10_sign 54 = .ok (.goto 10, 3) := dec_of t_X10_sign_ok 29 rfl
theorem dX10_sign_57 : decode cX10_sign 57 = .ok (.aload_n 0, 1) := dec_of t_X10_sign_ok 30 rfl
theorem dX10_sign_58 : decode cX10_sign 58 = .ok (.getfield 120, 3) := dec_of t_X10_sign_ok 31 rfl
theorem dX10_sign_61 : decode cX10_sign 61 = .ok (.iload 4, 2) := dec_of t_X10_sign_ok 32 rfl
theorem dX10_sign_63 : decode cX10_sign 63 = .ok (.caload, 1) := dec_of t_X10_sign_ok 33 rfl
theorem dX10_sign_64 : decode cX10_sign 64 = .ok (.ireturn, 1) := dec_of t_X10_sign_ok 34 rfl
def t_X10_ignore : List (Nat × Instr × Nat) := [(0, .aload_n 0, 1), (1, .iload_n 1, 1), (2, .invokevirtual 248, 3), (5, .ifCond .eq 5, 3), (8, .iconst 0, 1), (9, .ireturn, 1), (10, .aload_n 0, 1), (11, .iload_n 1, 1), (12, .invokevirtual 251, 3), (15, .aload_n 0, 1), (16, .iload_n 2, 1), (17, .iconst 0, 1), (18, .aload_n 0, 1), (19, .getfield 236, 3), (22, .iconst 1, 1), (23, .isub, 1), (24, .invokestatic 127, 3), (27, .ifCond .ne 7, 3), (30, .iconst 2, 1), (31, .goto 19, 3), (34, .aload_n 0, 1), (35, .getfield 75, 3), (38, .iload_n 1, 1), (39, .iaload, 1), (40, .bipush 20, 2), (42, .if_icmp .ne 7, 3), (45, .iconst 3, 1), (46, .goto 4, 3), (49, .iconst 0, 1), (50, .putfield 123, 3), (53, .aload_n 0, 1), (54, .getfield 123, 3), (57, .ifCond .le 5, 3), (60, .iconst 0, 1), (61, .ireturn, 1), (62, .iload_n 1, 1), (63, .bipush 20, 2), (65, .imul, 1), (66, .aload_n 0, 1), (67, .getfield 75, 3), (70, .iload_n 1, 1), (71, .iaload, 1), (72, .iadd, 1), (73, .istore_n 3, 1), (74, .aload_n 0, 1), (75, .getfield 78, 3), (78, .iload_n 3, 1), (79, .aload_n 0, 1), (80, .getfield 111, 3), (83, .aload_n 0, 1), (84, .getfield 117, 3), (87, .iload_n 2, 1), (88, .iaload, 1), (89, .iaload, 1), (90, .iastore, 1), (91, .aload_n 0, 1), (92, .getfield 81, 3), (95, .iload_n 3, 1), (96, .aload_n 0, 1), (97, .aload_n 0, 1), (98, .getfield 117, 3), (101, .iload_n 2, 1), (102, .iaload, 1), (103, .invokevirtual 233, 3), (106, .iastore, 1), (107, .aload_n 0, 1), (108, .getfield 84, 3), (111, .iload_n 3, 1), (112, .aload_n 0, 1), (113, .getfield 108, 3), (116, .aload_n 0, 1), (117, .getfield 117, 3), (120, .iload_n 2, 1), (121, .iaload, 1), (122, .iaload, 1), (123, .iastore, 1), (124, .aload_n 0, 1), (125, .getfield 75, 3), (128, .iload_n 1, 1), (129, .dup2, 1), (130, .iaload, 1), (131, .iconst 1, 1), (132, .iadd, 1), (133, .iastore, 1), (134, .aload_n 0, 1), (135, .getfield 75, 3), (138, .iload_n 1, 1), (139, .iaload, 1), (140, .ireturn, 1)]
theorem t_X10_ignore_ok : dec_ok cX10_ignore t_X10_ignore = true := by decide +kernel
theorem dX10_ignore_0 : decode cX10_ignore 0 = .ok (.aload_n 0, 1) := dec_of t_X10_ignore_ok 0 rfl
theorem dX10_ignore_1 : decode cX10_ignore 1 = .ok (.iload_n 1, 1) := dec_of t_X10_ignore_ok 1 rfl
theorem dX10_ignore_2 : decode cX10_ignore 2 = .ok (.invokevirtual 248, 3) := dec_of t_X10_ignore_ok 2 rfl
theorem dX10_ignore_5 : decode cX10_ignore 5 = .ok (.ifCond .eq 5, 3) := dec_of t_X10_ignore_ok 3 rfl
theorem dX10_ignore_8 : decode cX10_ignore 8 = .ok (.iconst 0, 1) := dec_of t_X10_ignore_ok 4 rfl
theorem dX10_ignore_9 : decode cX10_ignore 9 = .ok (.ireturn, 1) := dec_of t_X10_ignore_ok 5 rfl
theorem dX10_ignore_10 : decode cX10_ignore 10 = .ok (.aload_n 0, 1) := dec_of t_X10_ignore_ok 6 rfl
theorem dX10_ignore_11 : decode cX10_ignore 11 = .ok (.iload_n 1, 1) := dec_of t_X10_ignore_ok 7 rfl
theorem dX10_ignore_12 : decode cX10_ignore 12 = .ok (.invokevirtual 251, 3) := dec_of t_X10_ignore_ok 8 rfl
theorem dX10_ignore_15 : decode cX10_ignore 15 = .ok (.aload_n 0, 1) := dec_of t_X10_ignore_ok 9 rfl
theorem dX10_ignore_16 : decode cX10_ignore 16 = .ok (.iload_n 2, 1) := dec_of t_X10_ignore_ok 10 rfl
theorem dX10_ignore_17 : decode cX10_ignore 17 = .ok (.iconst 0, 1) := dec_of t_X10_ignore_ok 11 rfl
theorem dX10_ignore_18 : decode cX10_ignore 18 = .ok (.aload_n 0, 1) := dec_of t_X10_ignore_ok 12 rfl
theorem dX10_ignore_19 : decode cX10_ignore 19 = .ok (.getfield 236, 3) := dec_of t_X10_ignore_ok 13 rfl
theorem dX10_ignore_22 : decode cX10_ignore 22 = .ok (.iconst 1, 1) := dec_of t_X10_ignore_ok 14 rfl
theorem dX10_ignore_23 : decode cX10_ignore 23 = .ok (.isub, 1) := dec_of t_X10_ignore_ok 15 rfl
theorem dX10_ignore_24 : decode cX10_ignore 24 = .ok (.invokestatic 127, 3) := dec_of t_X10_ignore_ok 16 rfl
theorem dX10_ignore_27 : decode cX10_ignore 27 = .ok (.ifCond .ne 7, 3) := dec_of t_X10_ignore_ok 17 rfl
theorem dX10_ignore_30 : decode cX10_ignore 30 = .ok (.iconst 2, 1) := dec_of t_X10_ignore_ok 18 rfl
theorem dX10_ignore_31 : decode cX10_ignore 31 = .ok (.goto 19, 3) := dec_of t_X10_ignore_ok 19 rfl
theorem dX10_ignore_34 : decode cX10_ignore 34 = .ok (.aload_n 0, 1) := dec_of t_X10_ignore_ok 20 rfl
theorem dX10_ignore_35 : decode cX10_ignore 35 = .ok (.getfield 75, 3) := dec_of t_X10_ignore_ok 21 rfl
theorem dX10_ignore_38 : decode cX10_ignore 38 = .ok (.iload_n 1, 1) := dec_of t_X10_ignore_ok 22 rfl
theorem dX10_ignore_39 : decode cX10_ignore 39 = .ok (.iaload, 1) := dec_of t_X10_ignore_ok 23 rfl
theorem dX10_ignore_40 : decode cX10_ignore 40 = .ok (.bipush 20, 2) := dec_of t_X10_ignore_ok 24 rfl
theorem dX10_ignore_42 : decode cX10_ignore 42 = .ok (.if_icmp .ne 7, 3) := dec_of t_X10_ignore_ok 25 rfl
theorem dX10_ignore_45 : decode cX10_ignore 45 = .ok (.iconst 3, 1) := dec_of t_X10_ignore_ok 26 rfl
theorem dX10_ignore_46 : decode cX10_ignore 46 = .ok (.goto 4, 3) := dec_of t_X10_ignore_ok 27 rfl
theorem dX10_ignore_49 : decode cX10_ignore 49 = .ok (.iconst 0, 1) := dec_of t_X10_ignore_ok 28 rfl
theorem dX10_ignore_50 : decode cX10_ignore 50 = .ok (.putfield 123, 3) := dec_of t_X10_ignore_ok 29 rfl
theorem dX10_ignore_53 : decode cX10_ignore 53 = .ok (.aload_n 0, 1) := dec_of t_X10_ignore_ok 30 rfl
theorem dX10_ignore_54 : decode cX10_ignore 54 = .ok (.getfield 123, 3) := dec_of t_X10_ignore_ok 31 rfl
theorem dX10_ignore_57 : decode cX10_ignore 57 = .ok (.ifCond .le 5, 3) := dec_of t_X10_ignore_ok 32 rfl
theorem dX10_ignore_60 : decode cX10_ignore 60 = .ok (.iconst 0, 1) := dec_of t_X10_ignore_ok 33 rfl
theorem dX10_ignore_61 : decode cX10_ignore 61 = .ok (.ireturn, 1) := dec_of t_X10_ignore_ok 34 rfl
theorem dX10_ignore_62 : decode cX10_ignore 62 = .ok (.iload_n 1, 1) := dec_of t_X10_ignore_ok 35 rfl
theorem dX10_ignore_63 : decode cX10_ignore 63 = .ok (.bipush 20, 2) := dec_of t_X10_ignore_ok 36 rfl
theorem dX10_ignore_65 : decode cX10_ignore 65 = .ok (.imul, 1) := dec_of t_X10_ignore_ok 37 rfl
theorem dX10_ignore_66 : decode cX10_ignore 66 = .ok (.aload_n 0, 1) := dec_of t_X10_ignore_ok 38 rfl
theorem dX10_ignore_67 : decode cX10_ignore 67 = .ok (.getfield 75, 3) := dec_of t_X10_ignore_ok 39 rfl
theorem dX10_ignore_70 : decode cX10_ignore 70 = .ok (.iload_n 1, 1) := dec_of t_X10_ignore_ok 40 rfl
theorem dX10_ignore_71 : decode cX10_ignore 71 = .ok (.iaload, 1) := dec_of t_X10_ignore_ok 41 rfl
theorem dX10_ignore_72 : decode cX10_ignore 72 = .ok (.iadd, 1) := dec_of t_X10_ignore_ok 42 rfl
theorem dX10_ignore_73 : decode cX10_ignore 73 = .ok (.istore_n 3, 1) := dec_of t_X10_ignore_ok 43 rfl
theorem dX10_ignore_74 : decode cX10_ignore 74 = .ok (.aload_n 0, 1) := dec_of t_X10_ignore_ok 44 rfl
theorem dX10_ignore_75 : decode cX10_ignore 75 = .ok (.getfield 78, 3) := dec_of t_X10_ignore_ok 45 rfl
theorem dX10_ignore_78 : decode cX10_ignore 78 = .ok (.iload_n 3, 1) := dec_of t_X10_ignore_ok 46 rfl
theorem dX10_ignore_79 : decode cX10_ignore 79 = .ok (.aload_n 0, 1) := dec_of t_X10_ignore_ok 47 rfl
theorem dX10_ignore_80 : decode cX10_ignore 80 = .ok (.getfield 111, 3) := dec_of t_X10_ignore_ok 48 rfl
theorem dX10_ignore_83 : decode cX10_ignore 83 = .ok (.aload_n 0, 1) := dec_of t_X10_ignore_ok 49 rfl
theorem dX10_ignore_84 : decode cX10_ignore 84 = .ok (.getfield 117, 3) := dec_of t_X10_ignore_ok 50 rfl
theorem dX10_ignore_87 : decode cX10_ignore 87 = .ok (.iload_n 2, 1) := dec_of t_X10_ignore_ok 51 rfl
theorem dX10_ignore_88 : decode cX10_ignore 88 = .ok (.iaload, 1) := dec_of t_X10_ignore_ok 52 rfl
theorem dX10_ignore_89 : decode cX10_ignore 89 = .ok (.iaload, 1) := dec_of t_X10_ignore_ok 53 rfl
theorem dX10_ignore_90 : decode cX10_ignore 90 = .ok (.iastore, 1) := dec_of t_X10_ignore_ok 54 rfl
theorem dX10_ignore_91 : decode cX10_ignore 91 = .ok (.aload_n 0, 1) := dec_of t_X10_ignore_ok 55 rfl
theorem dX10_ignore_92 : decode cX10_ignore 92 = .ok (.getfield 81, 3) := dec_of t_X10_ignore_ok 56 rfl
theorem dX10_ignore_95 : decode cX10_ignore 95 = .ok (.iload_n 3, 1) := dec_of t_X10_ignore_ok 57 rfl
theorem dX10_ignore_96 : decode cX10_ignore 96 = .ok (.aload_n 0, 1) := dec_of t_X10_ignore_ok 58 rfl
theorem dX10_ignore_97 : decode cX10_ignore 97 = .ok (.aload_n 0, 1) := dec_of t_X10_ignore_ok 59 rfl
theorem dX10_ignore_98 : decode cX10_ignore 98 = .ok (.getfield 117, 3) := dec_of t_X10_ignore_ok 60 rfl
theorem dX10_ignore_101 : decode cX10_ignore 101 = .ok (.iload_n 2, 1) := dec_of t_X10_ignore_ok 61 rfl
theorem dX10_ignore_102 : decode cX10_ignore 102 = .ok (.iaload, 1) := dec_of t_X10_ignore_ok 62 rfl
theorem dX10_ignore_103 : decode cX10_ignore 103 = .ok (.invokevirtual 233, 3) := dec_of t_X10_ignore_ok 63 rfl
theorem dX10_ignore_106 : decode cX10_ignore 106 = .ok (.iastore, 1) := dec_of t_X10_ignore_ok 64 rfl
theorem dX10_ignore_107 : decode cX10_ignore 107 = .ok (.aload_n 0, 1) := dec_of t_X10_ignore_ok 65 rfl
theorem dX10_ignore_108 : decode cX10_ignore 108 = .ok (.getfield 84, 3) := dec_of t_X10_ignore_ok 66 rfl
theorem dX10_ignore_111 : decode cX10_ignore 111 = .ok (.iload_n 3, 1) := dec_of t_X10_ignore_ok 67 rfl
theorem dX10_ignore_112 : decode cX10_ignore 112 = .ok (.aload_n 0, 1) := dec_of t_X10_ignore_ok 68 rfl
theorem dX10_ignore_113 : decode cX10_ignore 113 = .ok (.getfield 108, 3) := dec_of t_X10_ignore_ok 69 rfl
theorem dX10_ignore_116 : decode cX10_ignore 116 = .ok (.aload_n 0, 1) := dec_of t_X10_ignore_ok 70 rfl
theorem dX10_ignore_117 : decode cX10_ignore 117 = .ok (.getfield 117, 3) := dec_of t_X10_ignore_ok 71 rfl
theorem dX10_ignore_120 : decode cX10_ignore 120 = .ok (.iload_n 2, 1) := dec_of t_X10_ignore_ok 72 rfl
theorem dX10_ignore_121 : decode cX10_ignore 121 = .ok (.iaload, 1) := dec_of t_X10_ignore_ok 73 rfl
theorem dX10_ignore_122 : decode cX10_ignore 122 = .ok (.iaload, 1) := dec_of t_X10_ignore_ok 74 rfl
theorem dX10_ignore_123 : decode cX10_ignore 123 = .ok (.iastore, 1) := dec_of t_X10_ignore_ok 75 rfl
theorem dX10_ignore_124 : decode cX10_ignore 124 = .ok (.aload_n 0, 1) := dec_of t_X10_ignore_ok 76 rfl
theorem dX10_ignore_125 : decode cX10_ignore 125 = .ok (.getfield 75, 3) := dec_of t_X10_ignore_ok 77 rfl
theorem dX10_ignore_128 : decode cX10_ignore 128 = .ok (.iload_n 1, 1) := dec_of t_X10_ignore_ok 78 rfl
theorem dX10_ignore_129 : decode cX10_ignore 129 = .ok (.dup2, 1) := dec_of t_X10_ignore_ok 79 rfl
theorem dX10_ignore_130 : decode cX10_ignore 130 = .ok (.iaload, 1) := dec_of t_X10_ignore_ok 80 rfl
theorem dX10_ignore_131 : decode cX10_ignore 131 = .ok (.iconst 1, 1) := dec_of t_X10_ignore_ok 81 rfl
theorem dX10_ignore_132 : decode cX10_ignore 132 = .ok (.iadd, 1) := dec_of t_X10_ignore_ok 82 rfl
theorem dX10_ignore_133 : decode cX10_ignore 133 = .ok (.iastore, 1) := dec_of t_X10_ignore_ok 83 rfl
theorem dX10_ignore_134 : decode cX10_ignore 134 = .ok (.aload_n 0, 1) := dec_of t_X10_ignore_ok 84 rfl
theorem dX10_ignore_135 : decode cX10_ignore 135 = .ok (.getfield 75, 3) := dec_of t_X10_ignore_ok 85 rfl
theorem dX10_ignore_138 : decode cX10_ignore 138 = .ok (.iload_n 1, 1) := dec_of t_X10_ignore_ok 86 rfl
theorem dX10_ignore_139 : decode cX10_ignore 139 = .ok (.iaload, 1) := dec_of t_X10_ignore_ok 87 rfl
theorem dX10_ignore_140 : decode cX10_ignore 140 = .ok (.ireturn, 1) := dec_of t_X10_ignore_ok 88 rfl
def t_X10_ignored : List (Nat × Instr × Nat) := [(0, .aload_n 0, 1), (1, .iload_n 1, 1), (2, .invokevirtual 248, 3), (5, .ifCond .eq 7, 3), (8, .iconst 0, 1), (9, .goto 9, 3), (12, .aload_n 0, 1), (13, .getfield 75, 3), (16, .iload_n 1, 1), (17, .iaload, 1), (18, .ireturn, 1)]
theorem t_X10_ignored_ok : dec_ok cX10_ignored t_X10_ignored = true := by decide +kernel
theorem dX10_ignored_0 : decode cX10_ignored 0 = .ok (.aload_n 0, 1) := dec_of t_X10_ignored_ok 0 rfl
theorem dX10_ignored_1 : decode cX10_ignored 1 = .ok (.iload_n 1, 1) := dec_of t_X10_ignored_ok 1 rfl
theorem dX10_ignored_2 : decode cX10_ignored 2 = .ok (.invokevirtual 248, 3) := dec_of t_X10_ignored_ok 2 rfl
theorem dX10_ignored_5 : decode cX10_ignored 5 = .ok (.ifCond .eq 7, 3) := dec_of t_X10_ignored_ok 3 rfl
theorem dX10_ignored_8 : decode cX10_ignored 8 = .ok (.iconst 0, 1) := dec_of t_X10_ignored_ok 4 rfl
theorem dX10_ignored_9 : decode cX10_ignored 9 = .ok (.goto 9, 3) := dec_of t_X10_ignored_ok 5 rfl
theorem dX10_ignored_12 : decode cX10_ignored 12 = .ok (.aload_n 0, 1) := dec_of t_X10_ignored_ok 6 rfl
theorem dX10_ignored_13 : decode cX10_ignored 13 = .ok (.getfield 75, 3) := dec_of t_X10_ignored_ok 7 rfl
theorem dX10_ignored_16 : decode cX10_ignored 16 = .ok (.iload_n 1, 1) := dec_of t_X10_ignored_ok 8 rfl
theorem dX10_ignored_17 : decode cX10_ignored 17 = .ok (.iaload, 1) := dec_of t_X10_ignored_ok 9 rfl
theorem dX10_ignored_18 : decode cX10_ignored 18 = .ok (.ireturn, 1) := dec_of t_X10_ignored_ok 10 rfl
def t_X10_tokens : List (Nat × Instr × Nat) := [(0, .aload_n 0, 1), (1, .iconst 0, 1), (2, .putfield 123, 3), (5, .aload_n 0, 1), (6, .invokevirtual 208, 3), (9, .iconst 0, 1), (10, .istore_n 2, 1), (11, .iconst 0, 1), (12, .istore_n 3, 1), (13, .iload_n 3, 1), (14, .aload_n 0, 1), (15, .getfield 194, 3), (18, .if_icmp .ge 37, 3), (21, .iload_n 2, 1), (22, .aload_n 0, 1), (23, .aload_n 0, 1), (24, .getfield 90, 3), (27, .iload_n 3, 1), (28, .iaload, 1), (29, .aload_n 0, 1), (30, .getfield 93, 3), (33, .iload_n 3, 1), (34, .iaload, 1), (35, .invokevirtual 217, 3), (38, .iload_n 1, 1), (39, .if_icmp .ne 7, 3), (42, .iconst 1, 1), (43, .goto 4, 3), (46, .iconst 0, 1), (47, .iadd, 1), (48, .istore_n 2, 1), (49, .iinc 3 1, 3), (52, .goto (-39), 3), (55, .iload_n 2, 1), (56, .ireturn, 1)]
theorem t_X10_tokens_ok : dec_ok cX10_tokens t_X10_tokens = true := by decide +kernel
theorem dX10_tokens_0 : decode cX10_tokens 0 = .ok (.aload_n 0, 1) := dec_of t_X10_tokens_ok 0 rfl
theorem dX10_tokens_1 : decode cX10_tokens 1 = .ok (.iconst 0, 1) := dec_of t_X10_tokens_ok 1 rfl
theorem dX10_tokens_2 : decode cX10_tokens 2 = .ok (.putfield 123, 3) := dec_of t_X10_tokens_ok 2 rfl
theorem dX10_tokens_5 : decode cX10_tokens 5 = .ok (.aload_n 0, 1) := dec_of t_X10_tokens_ok 3 rfl
theorem dX10_tokens_6 : decode cX10_tokens 6 = .ok (.invokevirtual 208, 3) := dec_of t_X10_tokens_ok 4 rfl
theorem dX10_tokens_9 : decode cX10_tokens 9 = .ok (.iconst 0, 1) := dec_of t_X10_tokens_ok 5 rfl
theorem dX10_tokens_10 : decode cX10_tokens 10 = .ok (.istore_n 2, 1) := dec_of t_X10_tokens_ok 6 rfl
theorem dX10_tokens_11 : decode cX10_tokens 11 = .ok (.iconst 0, 1) := dec_of t_X10_tokens_ok 7 rfl
theorem dX10_tokens_12 : decode cX10_tokens 12 = .ok (.istore_n 3, 1) := dec_of t_X10_tokens_ok 8 rfl
theorem dX10_tokens_13 : decode cX10_tokens 13 = .ok (.iload_n 3, 1) := dec_of t_X10_tokens_ok 9 rfl
theorem dX10_tokens_14 : decode cX10_tokens 14 = .ok (.aload_n 0, 1) := dec_of t_X10_tokens_ok 10 rfl
theorem dX10_tokens_15 : decode cX10_tokens 15 = .ok (.getfield 194, 3) := dec_of t_X10_tokens_ok 11 rfl
theorem dX10_tokens_18 : decode cX10_tokens 18 = .ok (.if_icmp .ge 37, 3) := dec_of t_X10_tokens_ok 12 rfl
theorem dX10_tokens_21 : decode cX10_tokens 21 = .ok (.iload_n 2, 1) := dec_of t_X10_tokens_ok 13 rfl
theorem dX10_tokens_22 : decode cX10_tokens 22 = .ok (.aload_n 0, 1) := dec_of t_X10_tokens_ok 14 rfl
theorem dX10_tokens_23 : decode cX10_tokens 23 = .ok (.aload_n 0, 1) := dec_of t_X10_tokens_ok 15 rfl
theorem dX10_tokens_24 : decode cX10_tokens 24 = .ok (.getfield 90, 3) := dec_of t_X10_tokens_ok 16 rfl
theorem dX10_tokens_27 : decode cX10_tokens 27 = .ok (.iload_n 3, 1) := dec_of t_X10_tokens_ok 17 rfl
theorem dX10_tokens_28 : decode cX10_tokens 28 = .ok (.iaload, 1) := dec_of t_X10_tokens_ok 18 rfl
theorem dX10_tokens_29 : decode cX10_tokens 29 = .ok (.aload_n 0, 1) := dec_of t_X10_tokens_ok 19 rfl
theorem dX10_tokens_30 : decode cX10_tokens 30 = .ok (.getfield 93, 3) := dec_of t_X10_tokens_ok 20 rfl
theorem dX10_tokens_33 : decode cX10_tokens 33 = .ok (.iload_n 3, 1) := dec_of t_X10_tokens_ok 21 rfl
theorem dX10_tokens_34 : decode cX10_tokens 34 = .ok (.iaload, 1) := dec_of t_X10_tokens_ok 22 rfl
theorem dX10_tokens_35 : decode cX10_tokens 35 = .ok (.invokevirtual 217, 3) := dec_of t_X10_tokens_ok 23 rfl
theorem dX10_tokens_38 : decode cX10_tokens 38 = .ok (.iload_n 1, 1) := dec_of t_X10_tokens_ok 24 rfl
theorem dX10_tokens_39 : decode cX10_tokens 39 = .ok (.if_icmp .ne 7, 3) := dec_of t_X10_tokens_ok 25 rfl
theorem dX10_tokens_42 : decode cX10_tokens 42 = .ok (.iconst 1, 1) := dec_of t_X10_tokens_ok 26 rfl
theorem dX10_tokens_43 : decode cX10_tokens 43 = .ok (.goto 4, 3) := dec_of t_X10_tokens_ok 27 rfl
theorem dX10_tokens_46 : decode cX10_tokens 46 = .ok (.iconst 0, 1) := dec_of t_X10_tokens_ok 28 rfl
theorem dX10_tokens_47 : decode cX10_tokens 47 = .ok (.iadd, 1) := dec_of t_X10_tokens_ok 29 rfl
theorem dX10_tokens_48 : decode cX10_tokens 48 = .ok (.istore_n 2, 1) := dec_of t_X10_tokens_ok 30 rfl
theorem dX10_tokens_49 : decode cX10_tokens 49 = .ok (.iinc 3 1, 3) := dec_of t_X10_tokens_ok 31 rfl
theorem dX10_tokens_52 : decode cX10_tokens 52 = .ok (.goto (-39), 3) := dec_of t_X10_tokens_ok 32 rfl
theorem dX10_tokens_55 : decode cX10_tokens 55 = .ok (.iload_n 2, 1) := dec_of t_X10_tokens_ok 33 rfl
theorem dX10_tokens_56 : decode cX10_tokens 56 = .ok (.ireturn, 1) := dec_of t_X10_tokens_ok 34 rfl
def t_X10_paragraphs : List (Nat × Instr × Nat) := [(0, .aload_n 0, 1), (1, .iconst 0, 1), (2, .putfield 123, 3), (5, .aload_n 0, 1), (6, .invokevirtual 148, 3), (9, .ireturn, 1)]
theorem t_X10_paragraphs_ok : dec_ok cX10_paragraphs t_X10_paragraphs = true := by decide +kernel
theorem dX10_paragraphs_0 : decode cX10_paragraphs 0 = .ok (.aload_n 0, 1) := dec_of t_X10_paragraphs_ok 0 rfl
theorem dX10_paragraphs_1 : decode cX10_paragraphs 1 = .ok (.iconst 0, 1) := dec_of t_X10_paragraphs_ok 1 rfl
theorem dX10_paragraphs_2 : decode cX10_paragraphs 2 = .ok (.putfield 123, 3) := dec_of t_X10_paragraphs_ok 2 rfl
theorem dX10_paragraphs_5 : decode cX10_paragraphs 5 = .ok (.aload_n 0, 1) := dec_of t_X10_paragraphs_ok 3 rfl
theorem dX10_paragraphs_6 : decode cX10_paragraphs 6 = .ok (.invokevirtual 148, 3) := dec_of t_X10_paragraphs_ok 4 rfl
theorem dX10_paragraphs_9 : decode cX10_paragraphs 9 = .ok (.ireturn, 1) := dec_of t_X10_paragraphs_ok 5 rfl
def t_X10_meanWord : List (Nat × Instr × Nat) := [(0, .aload_n 0, 1), (1, .iconst 0, 1), (2, .putfield 123, 3), (5, .aload_n 0, 1), (6, .invokevirtual 208, 3), (9, .iconst 0, 1), (10, .istore_n 1, 1), (11, .iconst 0, 1), (12, .istore_n 2, 1), (13, .iconst 0, 1), (14, .istore_n 3, 1), (15, .iload_n 3, 1), (16, .aload_n 0, 1), (17, .getfield 194, 3), (20, .if_icmp .ge 55, 3), (23, .iload_n 1, 1), (24, .aload_n 0, 1), (25, .getfield 96, 3), (28, .iload_n 3, 1), (29, .baload, 1), (30, .ifCond .eq 7, 3), (33, .iconst 1, 1), (34, .goto 4, 3), (37, .iconst 0, 1), (38, .iadd, 1), (39, .istore_n 1, 1), (40, .iload_n 2, 1), (41, .aload_n 0, 1), (42, .getfield 96, 3), (45, .iload_n 3, 1), (46, .baload, 1), (47, .ifCond .eq 19, 3), (50, .aload_n 0, 1), (51, .getfield 93, 3), (54, .iload_n 3, 1), (55, .iaload, 1), (56, .aload_n 0, 1), (57, .getfield 90, 3), (60, .iload_n 3, 1), (61, .iaload, 1), (62, .isub, 1), (63, .goto 4, 3), (66, .iconst 0, 1), (67, .iadd, 1), (68, .istore_n 2, 1), (69, .iinc 3 1, 3), (72, .goto (-57), 3), (75, .aload_n 0, 1), (76, .iload_n 1, 1), (77, .ifCond .ne 7, 3), (80, .iconst 1, 1), (81, .goto 4, 3), (84, .iconst 0, 1), (85, .putfield 123, 3), (88, .aload_n 0, 1), (89, .getfield 123, 3), (92, .ifCond .le 7, 3), (95, .dconst 0, 1), (96, .goto 8, 3), (99, .iload_n 2, 1), (100, .i2d, 1), (101, .iload_n 1, 1), (102, .i2d, 1), (103, .ddiv, 1), (104, .dreturn, 1)]
theorem t_X10_meanWord_ok : dec_ok cX10_meanWord t_X10_meanWord = true := by decide +kernel
theorem dX10_meanWord_0 : decode cX10_meanWord 0 = .ok (.aload_n 0, 1) := dec_of t_X10_meanWord_ok 0 rfl
theorem dX10_meanWord_1 : decode cX10_meanWord 1 = .ok (.iconst 0, 1) := dec_of t_X10_meanWord_ok 1 rfl
theorem dX10_meanWord_2 : decode cX10_meanWord 2 = .ok (.putfield 123, 3) := dec_of t_X10_meanWord_ok 2 rfl
theorem dX10_meanWord_5 : decode cX10_meanWord 5 = .ok (.aload_n 0, 1) := dec_of t_X10_meanWord_ok 3 rfl
theorem dX10_meanWord_6 : decode cX10_meanWord 6 = .ok (.invokevirtual 208, 3) := dec_of t_X10_meanWord_ok 4 rfl
theorem dX10_meanWord_9 : decode cX10_meanWord 9 = .ok (.iconst 0, 1) := dec_of t_X10_meanWord_ok 5 rfl
theorem dX10_meanWord_10 : decode cX10_meanWord 10 = .ok (.istore_n 1, 1) := dec_of t_X10_meanWord_ok 6 rfl
theorem dX10_meanWord_11 : decode cX10_meanWord 11 = .ok (.iconst 0, 1) := dec_of t_X10_meanWord_ok 7 rfl
theorem dX10_meanWord_12 : decode cX10_meanWord 12 = .ok (.istore_n 2, 1) := dec_of t_X10_meanWord_ok 8 rfl
theorem dX10_meanWord_13 : decode cX10_meanWord 13 = .ok (.iconst 0, 1) := dec_of t_X10_meanWord_ok 9 rfl
theorem dX10_meanWord_14 : decode cX10_meanWord 14 = .ok (.istore_n 3, 1) := dec_of t_X10_meanWord_ok 10 rfl
theorem dX10_meanWord_15 : decode cX10_meanWord 15 = .ok (.iload_n 3, 1) := dec_of t_X10_meanWord_ok 11 rfl
theorem dX10_meanWord_16 : decode cX10_meanWord 16 = .ok (.aload_n 0, 1) := dec_of t_X10_meanWord_ok 12 rfl
theorem dX10_meanWord_17 : decode cX10_meanWord 17 = .ok (.getfield 194, 3) := dec_of t_X10_meanWord_ok 13 rfl
theorem dX10_meanWord_20 : decode cX10_meanWord 20 = .ok (.if_icmp .ge 55, 3) := dec_of t_X10_meanWord_ok 14 rfl
theorem dX10_meanWord_23 : decode cX10_meanWord 23 = .ok (.iload_n 1, 1) := dec_of t_X10_meanWord_ok 15 rfl
theorem dX10_meanWord_24 : decode cX10_meanWord 24 = .ok (.aload_n 0, 1) := dec_of t_X10_meanWord_ok 16 rfl
theorem dX10_meanWord_25 : decode cX10_meanWord 25 = .ok (.getfield 96, 3) := dec_of t_X10_meanWord_ok 17 rfl
theorem dX10_meanWord_28 : decode cX10_meanWord 28 = .ok (.iload_n 3, 1) := dec_of t_X10_meanWord_ok 18 rfl
theorem dX10_meanWord_29 : decode cX10_meanWord 29 = .ok (.baload, 1) := dec_of t_X10_meanWord_ok 19 rfl
theorem dX10_meanWord_30 : decode cX10_meanWord 30 = .ok (.ifCond .eq 7, 3) := dec_of t_X10_meanWord_ok 20 rfl
theorem dX10_meanWord_33 : decode cX10_meanWord 33 = .ok (.iconst 1, 1) := dec_of t_X10_meanWord_ok 21 rfl
theorem dX10_meanWord_34 : decode cX10_meanWord 34 = .ok (.goto 4, 3) := dec_of t_X10_meanWord_ok 22 rfl
theorem dX10_meanWord_37 : decode cX10_meanWord 37 = .ok (.iconst 0, 1) := dec_of t_X10_meanWord_ok 23 rfl
theorem dX10_meanWord_38 : decode cX10_meanWord 38 = .ok (.iadd, 1) := dec_of t_X10_meanWord_ok 24 rfl
theorem dX10_meanWord_39 : decode cX10_meanWord 39 = .ok (.istore_n 1, 1) := dec_of t_X10_meanWord_ok 25 rfl
theorem dX10_meanWord_40 : decode cX10_meanWord 40 = .ok (.iload_n 2, 1) := dec_of t_X10_meanWord_ok 26 rfl
theorem dX10_meanWord_41 : decode cX10_meanWord 41 = .ok (.aload_n 0, 1) := dec_of t_X10_meanWord_ok 27 rfl
theorem dX10_meanWord_42 : decode cX10_meanWord 42 = .ok (.getfield 96, 3) := dec_of t_X10_meanWord_ok 28 rfl
theorem dX10_meanWord_45 : decode cX10_meanWord 45 = .ok (.iload_n 3, 1) := dec_of t_X10_meanWord_ok 29 rfl
theorem dX10_meanWord_46 : decode cX10_meanWord 46 = .ok (.baload, 1) := dec_of t_X10_meanWord_ok 30 rfl
theorem dX10_meanWord_47 : decode cX10_meanWord 47 = .ok (.ifCond .eq 19, 3) := dec_of t_X10_meanWord_ok 31 rfl
theorem dX10_meanWord_50 : decode cX10_meanWord 50 = .ok (.aload_n 0, 1) := dec_of t_X10_meanWord_ok 32 rfl
theorem dX10_meanWord_51 : decode cX10_meanWord 51 = .ok (.getfield 93, 3) := dec_of t_X10_meanWord_ok 33 rfl
theorem dX10_meanWord_54 : decode cX10_meanWord 54 = .ok (.iload_n 3, 1) := dec_of t_X10_meanWord_ok 34 rfl
theorem dX10_meanWord_55 : decode cX10_meanWord 55 = .ok (.iaload, 1) := dec_of t_X10_meanWord_ok 35 rfl
theorem dX10_meanWord_56 : decode cX10_meanWord 56 = .ok (.aload_n 0, 1) := dec_of t_X10_meanWord_ok 36 rfl
theorem dX10_meanWord_57 : decode cX10_meanWord 57 = .ok (.getfield 90, 3) := dec_of t_X10_meanWord_ok 37 rfl
theorem dX10_meanWord_60 : decode cX10_meanWord 60 = .ok (.iload_n 3, 1) := dec_of t_X10_meanWord_ok 38 rfl
theorem dX10_meanWord_61 : decode cX10_meanWord 61 = .ok (.iaload, 1) := dec_of t_X10_meanWord_ok 39 rfl
theorem dX10_meanWord_62 : decode cX10_meanWord 62 = .ok (.isub, 1) := dec_of t_X10_meanWord_ok 40 rfl
theorem dX10_meanWord_63 : decode cX10_meanWord 63 = .ok (.goto 4, 3) := dec_of t_X10_meanWord_ok 41 rfl
theorem dX10_meanWord_66 : decode cX10_meanWord 66 = .ok (.iconst 0, 1) := dec_of t_X10_meanWord_ok 42 rfl
theorem dX10_meanWord_67 : decode cX10_meanWord 67 = .ok (.iadd, 1) := dec_of t_X10_meanWord_ok 43 rfl
theorem dX10_meanWord_68 : decode cX10_meanWord 68 = .ok (.istore_n 2, 1) := dec_of t_X10_meanWord_ok 44 rfl
theorem dX10_meanWord_69 : decode cX10_meanWord 69 = .ok (.iinc 3 1, 3) := dec_of t_X10_meanWord_ok 45 rfl
theorem dX10_meanWord_72 : decode cX10_meanWord 72 = .ok (.goto (-57), 3) := dec_of t_X10_meanWord_ok 46 rfl
theorem dX10_meanWord_75 : decode cX10_meanWord 75 = .ok (.aload_n 0, 1) := dec_of t_X10_meanWord_ok 47 rfl
theorem dX10_meanWord_76 : decode cX10_meanWord 76 = .ok (.iload_n 1, 1) := dec_of t_X10_meanWord_ok 48 rfl
theorem dX10_meanWord_77 : decode cX10_meanWord 77 = .ok (.ifCond .ne 7, 3) := dec_of t_X10_meanWord_ok 49 rfl
theorem dX10_meanWord_80 : decode cX10_meanWord 80 = .ok (.iconst 1, 1) := dec_of t_X10_meanWord_ok 50 rfl
theorem dX10_meanWord_81 : decode cX10_meanWord 81 = .ok (.goto 4, 3) := dec_of t_X10_meanWord_ok 51 rfl
theorem dX10_meanWord_84 : decode cX10_meanWord 84 = .ok (.iconst 0, 1) := dec_of t_X10_meanWord_ok 52 rfl
theorem dX10_meanWord_85 : decode cX10_meanWord 85 = .ok (.putfield 123, 3) := dec_of t_X10_meanWord_ok 53 rfl
theorem dX10_meanWord_88 : decode cX10_meanWord 88 = .ok (.aload_n 0, 1) := dec_of t_X10_meanWord_ok 54 rfl
theorem dX10_meanWord_89 : decode cX10_meanWord 89 = .ok (.getfield 123, 3) := dec_of t_X10_meanWord_ok 55 rfl
theorem dX10_meanWord_92 : decode cX10_meanWord 92 = .ok (.ifCond .le 7, 3) := dec_of t_X10_meanWord_ok 56 rfl
theorem dX10_meanWord_95 : decode cX10_meanWord 95 = .ok (.dconst 0, 1) := dec_of t_X10_meanWord_ok 57 rfl
theorem dX10_meanWord_96 : decode cX10_meanWord 96 = .ok (.goto 8, 3) := dec_of t_X10_meanWord_ok 58 rfl
theorem dX10_meanWord_99 : decode cX10_meanWord 99 = .ok (.iload_n 2, 1) := dec_of t_X10_meanWord_ok 59 rfl
theorem dX10_meanWord_100 : decode cX10_meanWord 100 = .ok (.i2d, 1) := dec_of t_X10_meanWord_ok 60 rfl
theorem dX10_meanWord_101 : decode cX10_meanWord 101 = .ok (.iload_n 1, 1) := dec_of t_X10_meanWord_ok 61 rfl
theorem dX10_meanWord_102 : decode cX10_meanWord 102 = .ok (.i2d, 1) := dec_of t_X10_meanWord_ok 62 rfl
theorem dX10_meanWord_103 : decode cX10_meanWord 103 = .ok (.ddiv, 1) := dec_of t_X10_meanWord_ok 63 rfl
theorem dX10_meanWord_104 : decode cX10_meanWord 104 = .ok (.dreturn, 1) := dec_of t_X10_meanWord_ok 64 rfl
def t_X10_isSound : List (Nat × Instr × Nat) := [(0, .aload_n 0, 1), (1, .iconst 0, 1), (2, .putfield 123, 3), (5, .iconst 1, 1), (6, .ireturn, 1)]
theorem t_X10_isSound_ok : dec_ok cX10_isSound t_X10_isSound = true := by decide +kernel
theorem dX10_isSound_0 : decode cX10_isSound 0 = .ok (.aload_n 0, 1) := dec_of t_X10_isSound_ok 0 rfl
theorem dX10_isSound_1 : decode cX10_isSound 1 = .ok (.iconst 0, 1) := dec_of t_X10_isSound_ok 1 rfl
theorem dX10_isSound_2 : decode cX10_isSound 2 = .ok (.putfield 123, 3) := dec_of t_X10_isSound_ok 2 rfl
theorem dX10_isSound_5 : decode cX10_isSound 5 = .ok (.iconst 1, 1) := dec_of t_X10_isSound_ok 3 rfl
theorem dX10_isSound_6 : decode cX10_isSound 6 = .ok (.ireturn, 1) := dec_of t_X10_isSound_ok 4 rfl

def t_X10_endsAhead : List (Nat × Instr × Nat) := [(0, .iconst 0, 1), (1, .istore_n 2, 1), (2, .iconst 0, 1), (3, .istore_n 3, 1), (4, .iload_n 3, 1), (5, .iload_n 1, 1), (6, .if_icmp .ge 28, 3), (9, .iload_n 2, 1), (10, .aload_n 0, 1), (11, .getfield 7, 3), (14, .iload_n 3, 1), (15, .caload, 1), (16, .bipush 47, 2), (18, .if_icmp .ne 7, 3), (21, .iconst 1, 1), (22, .goto 4, 3), (25, .iconst 0, 1), (26, .iadd, 1), (27, .istore_n 2, 1), (28, .iinc 3 1, 3), (31, .goto (-27), 3), (34, .iload_n 2, 1), (35, .ireturn, 1)]
theorem t_X10_endsAhead_ok : dec_ok cX10_endsAhead t_X10_endsAhead = true := by decide +kernel
theorem dX10_endsAhead_0 : decode cX10_endsAhead 0 = .ok (.iconst 0, 1) := dec_of t_X10_endsAhead_ok 0 rfl
theorem dX10_endsAhead_1 : decode cX10_endsAhead 1 = .ok (.istore_n 2, 1) := dec_of t_X10_endsAhead_ok 1 rfl
theorem dX10_endsAhead_2 : decode cX10_endsAhead 2 = .ok (.iconst 0, 1) := dec_of t_X10_endsAhead_ok 2 rfl
theorem dX10_endsAhead_3 : decode cX10_endsAhead 3 = .ok (.istore_n 3, 1) := dec_of t_X10_endsAhead_ok 3 rfl
theorem dX10_endsAhead_4 : decode cX10_endsAhead 4 = .ok (.iload_n 3, 1) := dec_of t_X10_endsAhead_ok 4 rfl
theorem dX10_endsAhead_5 : decode cX10_endsAhead 5 = .ok (.iload_n 1, 1) := dec_of t_X10_endsAhead_ok 5 rfl
theorem dX10_endsAhead_6 : decode cX10_endsAhead 6 = .ok (.if_icmp .ge 28, 3) := dec_of t_X10_endsAhead_ok 6 rfl
theorem dX10_endsAhead_9 : decode cX10_endsAhead 9 = .ok (.iload_n 2, 1) := dec_of t_X10_endsAhead_ok 7 rfl
theorem dX10_endsAhead_10 : decode cX10_endsAhead 10 = .ok (.aload_n 0, 1) := dec_of t_X10_endsAhead_ok 8 rfl
theorem dX10_endsAhead_11 : decode cX10_endsAhead 11 = .ok (.getfield 7, 3) := dec_of t_X10_endsAhead_ok 9 rfl
theorem dX10_endsAhead_14 : decode cX10_endsAhead 14 = .ok (.iload_n 3, 1) := dec_of t_X10_endsAhead_ok 10 rfl
theorem dX10_endsAhead_15 : decode cX10_endsAhead 15 = .ok (.caload, 1) := dec_of t_X10_endsAhead_ok 11 rfl
theorem dX10_endsAhead_16 : decode cX10_endsAhead 16 = .ok (.bipush 47, 2) := dec_of t_X10_endsAhead_ok 12 rfl
theorem dX10_endsAhead_18 : decode cX10_endsAhead 18 = .ok (.if_icmp .ne 7, 3) := dec_of t_X10_endsAhead_ok 13 rfl
theorem dX10_endsAhead_21 : decode cX10_endsAhead 21 = .ok (.iconst 1, 1) := dec_of t_X10_endsAhead_ok 14 rfl
theorem dX10_endsAhead_22 : decode cX10_endsAhead 22 = .ok (.goto 4, 3) := dec_of t_X10_endsAhead_ok 15 rfl
theorem dX10_endsAhead_25 : decode cX10_endsAhead 25 = .ok (.iconst 0, 1) := dec_of t_X10_endsAhead_ok 16 rfl
theorem dX10_endsAhead_26 : decode cX10_endsAhead 26 = .ok (.iadd, 1) := dec_of t_X10_endsAhead_ok 17 rfl
theorem dX10_endsAhead_27 : decode cX10_endsAhead 27 = .ok (.istore_n 2, 1) := dec_of t_X10_endsAhead_ok 18 rfl
theorem dX10_endsAhead_28 : decode cX10_endsAhead 28 = .ok (.iinc 3 1, 3) := dec_of t_X10_endsAhead_ok 19 rfl
theorem dX10_endsAhead_31 : decode cX10_endsAhead 31 = .ok (.goto (-27), 3) := dec_of t_X10_endsAhead_ok 20 rfl
theorem dX10_endsAhead_34 : decode cX10_endsAhead 34 = .ok (.iload_n 2, 1) := dec_of t_X10_endsAhead_ok 21 rfl
theorem dX10_endsAhead_35 : decode cX10_endsAhead 35 = .ok (.ireturn, 1) := dec_of t_X10_endsAhead_ok 22 rfl
def t_X10_follows : List (Nat × Instr × Nat) := [(0, .iconst 0, 1), (1, .istore 4, 2), (3, .iconst 0, 1), (4, .istore 5, 2), (6, .iload 5, 2), (8, .aload_n 0, 1), (9, .getfield 75, 3), (12, .iload_n 1, 1), (13, .iaload, 1), (14, .if_icmp .ge 165, 3), (17, .iload_n 1, 1), (18, .bipush 20, 2), (20, .imul, 1), (21, .iload 5, 2), (23, .iadd, 1), (24, .istore 6, 2), (26, .aload_n 0, 1), (27, .getfield 81, 3), (30, .iload 6, 2), (32, .iaload, 1), (33, .istore 7, 2), (35, .aload_n 0, 1), (36, .getfield 84, 3), (39, .iload 6, 2), (41, .iaload, 1), (42, .istore 8, 2), (44, .iload_n 3, 1), (45, .ifCond .le 23, 3), (48, .iload_n 2, 1), (49, .iload 7, 2), (51, .if_icmp .le 13, 3), (54, .iload_n 2, 1), (55, .iload 8, 2), (57, .if_icmp .ge 7, 3), (60, .iconst 1, 1), (61, .goto 24, 3), (64, .iconst 0, 1), (65, .goto 20, 3), (68, .iload_n 2, 1), (69, .iload 7, 2), (71, .if_icmp .lt 13, 3), (74, .iload_n 2, 1), (75, .iload 8, 2), (77, .if_icmp .ge 7, 3), (80, .iconst 1, 1), (81, .goto 4, 3), (84, .iconst 0, 1), (85, .istore 9, 2), (87, .iload_n 3, 1), (88, .ifCond .le 17, 3), (91, .iload_n 2, 1), (92, .iload 7, 2), (94, .if_icmp .gt 7, 3), (97, .iconst 1, 1), (98, .goto 18, 3), (101, .iconst 0, 1), (102, .goto 14, 3), (105, .iload_n 2, 1), (106, .iload 7, 2), (108, .if_icmp .ge 7, 3), (111, .iconst (-1), 1), (112, .goto 4, 3), (115, .iconst 0, 1), (116, .istore 10, 2), (118, .iload 9, 2), (120, .ifCond .ne 53, 3), (123, .iload_n 1, 1), (124, .bipush 20, 2), (126, .imul, 1), (127, .iload 4, 2), (129, .iadd, 1), (130, .istore 11, 2), (132, .aload_n 0, 1), (133, .getfield 78, 3), (136, .iload 11, 2), (138, .aload_n 0, 1), (139, .getfield 78, 3), (142, .iload 6, 2), (144, .iaload, 1), (145, .iastore, 1), (146, .aload_n 0, 1), (147, .getfield 81, 3), (150, .iload 11, 2), (152, .iload 7, 2), (154, .iload 10, 2), (156, .iadd, 1), (157, .iastore, 1), (158, .aload_n 0, 1), (159, .getfield 84, 3), (162, .iload 11, 2), (164, .iload 8, 2), (166, .iload 10, 2), (168, .iadd, 1), (169, .iastore, 1), (170, .iinc 4 1, 3), (173, .iinc 5 1, 3), (176, .goto (-170), 3), (179, .aload_n 0, 1), (180, .getfield 75, 3), (183, .iload_n 1, 1), (184, .iload 4, 2), (186, .iastore, 1), (187, .return_, 1)]
theorem t_X10_follows_ok : dec_ok cX10_follows t_X10_follows = true := by decide +kernel
theorem dX10_follows_0 : decode cX10_follows 0 = .ok (.iconst 0, 1) := dec_of t_X10_follows_ok 0 rfl
theorem dX10_follows_1 : decode cX10_follows 1 = .ok (.istore 4, 2) := dec_of t_X10_follows_ok 1 rfl
theorem dX10_follows_3 : decode cX10_follows 3 = .ok (.iconst 0, 1) := dec_of t_X10_follows_ok 2 rfl
theorem dX10_follows_4 : decode cX10_follows 4 = .ok (.istore 5, 2) := dec_of t_X10_follows_ok 3 rfl
theorem dX10_follows_6 : decode cX10_follows 6 = .ok (.iload 5, 2) := dec_of t_X10_follows_ok 4 rfl
theorem dX10_follows_8 : decode cX10_follows 8 = .ok (.aload_n 0, 1) := dec_of t_X10_follows_ok 5 rfl
theorem dX10_follows_9 : decode cX10_follows 9 = .ok (.getfield 75, 3) := dec_of t_X10_follows_ok 6 rfl
theorem dX10_follows_12 : decode cX10_follows 12 = .ok (.iload_n 1, 1) := dec_of t_X10_follows_ok 7 rfl
theorem dX10_follows_13 : decode cX10_follows 13 = .ok (.iaload, 1) := dec_of t_X10_follows_ok 8 rfl
theorem dX10_follows_14 : decode cX10_follows 14 = .ok (.if_icmp .ge 165, 3) := dec_of t_X10_follows_ok 9 rfl
theorem dX10_follows_17 : decode cX10_follows 17 = .ok (.iload_n 1, 1) := dec_of t_X10_follows_ok 10 rfl
theorem dX10_follows_18 : decode cX10_follows 18 = .ok (.bipush 20, 2) := dec_of t_X10_follows_ok 11 rfl
theorem dX10_follows_20 : decode cX10_follows 20 = .ok (.imul, 1) := dec_of t_X10_follows_ok 12 rfl
theorem dX10_follows_21 : decode cX10_follows 21 = .ok (.iload 5, 2) := dec_of t_X10_follows_ok 13 rfl
theorem dX10_follows_23 : decode cX10_follows 23 = .ok (.iadd, 1) := dec_of t_X10_follows_ok 14 rfl
theorem dX10_follows_24 : decode cX10_follows 24 = .ok (.istore 6, 2) := dec_of t_X10_follows_ok 15 rfl
theorem dX10_follows_26 : decode cX10_follows 26 = .ok (.aload_n 0, 1) := dec_of t_X10_follows_ok 16 rfl
theorem dX10_follows_27 : decode cX10_follows 27 = .ok (.getfield 81, 3) := dec_of t_X10_follows_ok 17 rfl
theorem dX10_follows_30 : decode cX10_follows 30 = .ok (.iload 6, 2) := dec_of t_X10_follows_ok 18 rfl
theorem dX10_follows_32 : decode cX10_follows 32 = .ok (.iaload, 1) := dec_of t_X10_follows_ok 19 rfl
theorem dX10_follows_33 : decode cX10_follows 33 = .ok (.istore 7, 2) := dec_of t_X10_follows_ok 20 rfl
theorem dX10_follows_35 : decode cX10_follows 35 = .ok (.aload_n 0, 1) := dec_of t_X10_follows_ok 21 rfl
theorem dX10_follows_36 : decode cX10_follows 36 = .ok (.getfield 84, 3) := dec_of t_X10_follows_ok 22 rfl
theorem dX10_follows_39 : decode cX10_follows 39 = .ok (.iload 6, 2) := dec_of t_X10_follows_ok 23 rfl
theorem dX10_follows_41 : decode cX10_follows 41 = .ok (.iaload, 1) := dec_of t_X10_follows_ok 24 rfl
theorem dX10_follows_42 : decode cX10_follows 42 = .ok (.istore 8, 2) := dec_of t_X10_follows_ok 25 rfl
theorem dX10_follows_44 : decode cX10_follows 44 = .ok (.iload_n 3, 1) := dec_of t_X10_follows_ok 26 rfl
theorem dX10_follows_45 : decode cX10_follows 45 = .ok (.ifCond .le 23, 3) := dec_of t_X10_follows_ok 27 rfl
theorem dX10_follows_48 : decode cX10_follows 48 = .ok (.iload_n 2, 1) := dec_of t_X10_follows_ok 28 rfl
theorem dX10_follows_49 : decode cX10_follows 49 = .ok (.iload 7, 2) := dec_of t_X10_follows_ok 29 rfl
theorem dX10_follows_51 : decode cX10_follows 51 = .ok (.if_icmp .le 13, 3) := dec_of t_X10_follows_ok 30 rfl
theorem dX10_follows_54 : decode cX10_follows 54 = .ok (.iload_n 2, 1) := dec_of t_X10_follows_ok 31 rfl
theorem dX10_follows_55 : decode cX10_follows 55 = .ok (.iload 8, 2) := dec_of t_X10_follows_ok 32 rfl
theorem dX10_follows_57 : decode cX10_follows 57 = .ok (.if_icmp .ge 7, 3) := dec_of t_X10_follows_ok 33 rfl
theorem dX10_follows_60 : decode cX10_follows 60 = .ok (.iconst 1, 1) := dec_of t_X10_follows_ok 34 rfl
theorem dX10_follows_61 : decode cX10_follows 61 = .ok (.goto 24, 3) := dec_of t_X10_follows_ok 35 rfl
theorem dX10_follows_64 : decode cX10_follows 64 = .ok (.iconst 0, 1) := dec_of t_X10_follows_ok 36 rfl
theorem dX10_follows_65 : decode cX10_follows 65 = .ok (.goto 20, 3) := dec_of t_X10_follows_ok 37 rfl
theorem dX10_follows_68 : decode cX10_follows 68 = .ok (.iload_n 2, 1) := dec_of t_X10_follows_ok 38 rfl
theorem dX10_follows_69 : decode cX10_follows 69 = .ok (.iload 7, 2) := dec_of t_X10_follows_ok 39 rfl
theorem dX10_follows_71 : decode cX10_follows 71 = .ok (.if_icmp .lt 13, 3) := dec_of t_X10_follows_ok 40 rfl
theorem dX10_follows_74 : decode cX10_follows 74 = .ok (.iload_n 2, 1) := dec_of t_X10_follows_ok 41 rfl
theorem dX10_follows_75 : decode cX10_follows 75 = .ok (.iload 8, 2) := dec_of t_X10_follows_ok 42 rfl
theorem dX10_follows_77 : decode cX10_follows 77 = .ok (.if_icmp .ge 7, 3) := dec_of t_X10_follows_ok 43 rfl
theorem dX10_follows_80 : decode cX10_follows 80 = .ok (.iconst 1, 1) := dec_of t_X10_follows_ok 44 rfl
theorem dX10_follows_81 : decode cX10_follows 81 = .ok (.goto 4, 3) := dec_of t_X10_follows_ok 45 rfl
theorem dX10_follows_84 : decode cX10_follows 84 = .ok (.iconst 0, 1) := dec_of t_X10_follows_ok 46 rfl
theorem dX10_follows_85 : decode cX10_follows 85 = .ok (.istore 9, 2) := dec_of t_X10_follows_ok 47 rfl
theorem dX10_follows_87 : decode cX10_follows 87 = .ok (.iload_n 3, 1) := dec_of t_X10_follows_ok 48 rfl
theorem dX10_follows_88 : decode cX10_follows 88 = .ok (.ifCond .le 17, 3) := dec_of t_X10_follows_ok 49 rfl
theorem dX10_follows_91 : decode cX10_follows 91 = .ok (.iload_n 2, 1) := dec_of t_X10_follows_ok 50 rfl
theorem dX10_follows_92 : decode cX10_follows 92 = .ok (.iload 7, 2) := dec_of t_X10_follows_ok 51 rfl
theorem dX10_follows_94 : decode cX10_follows 94 = .ok (.if_icmp .gt 7, 3) := dec_of t_X10_follows_ok 52 rfl
theorem dX10_follows_97 : decode cX10_follows 97 = .ok (.iconst 1, 1) := dec_of t_X10_follows_ok 53 rfl
theorem dX10_follows_98 : decode cX10_follows 98 = .ok (.goto 18, 3) := dec_of t_X10_follows_ok 54 rfl
theorem dX10_follows_101 : decode cX10_follows 101 = .ok (.iconst 0, 1) := dec_of t_X10_follows_ok 55 rfl
theorem dX10_follows_102 : decode cX10_follows 102 = .ok (.goto 14, 3) := dec_of t_X10_follows_ok 56 rfl
theorem dX10_follows_105 : decode cX10_follows 105 = .ok (.iload_n 2, 1) := dec_of t_X10_follows_ok 57 rfl
theorem dX10_follows_106 : decode cX10_follows 106 = .ok (.iload 7, 2) := dec_of t_X10_follows_ok 58 rfl
theorem dX10_follows_108 : decode cX10_follows 108 = .ok (.if_icmp .ge 7, 3) := dec_of t_X10_follows_ok 59 rfl
theorem dX10_follows_111 : decode cX10_follows 111 = .ok (.iconst (-1), 1) := dec_of t_X10_follows_ok 60 rfl
theorem dX10_follows_112 : decode cX10_follows 112 = .ok (.goto 4, 3) := dec_of t_X10_follows_ok 61 rfl
theorem dX10_follows_115 : decode cX10_follows 115 = .ok (.iconst 0, 1) := dec_of t_X10_follows_ok 62 rfl
theorem dX10_follows_116 : decode cX10_follows 116 = .ok (.istore 10, 2) := dec_of t_X10_follows_ok 63 rfl
theorem dX10_follows_118 : decode cX10_follows 118 = .ok (.iload 9, 2) := dec_of t_X10_follows_ok 64 rfl
theorem dX10_follows_120 : decode cX10_follows 120 = .ok (.ifCond .ne 53, 3) := dec_of t_X10_follows_ok 65 rfl
theorem dX10_follows_123 : decode cX10_follows 123 = .ok (.iload_n 1, 1) := dec_of t_X10_follows_ok 66 rfl
theorem dX10_follows_124 : decode cX10_follows 124 = .ok (.bipush 20, 2) := dec_of t_X10_follows_ok 67 rfl
theorem dX10_follows_126 : decode cX10_follows 126 = .ok (.imul, 1) := dec_of t_X10_follows_ok 68 rfl
theorem dX10_follows_127 : decode cX10_follows 127 = .ok (.iload 4, 2) := dec_of t_X10_follows_ok 69 rfl
theorem dX10_follows_129 : decode cX10_follows 129 = .ok (.iadd, 1) := dec_of t_X10_follows_ok 70 rfl
theorem dX10_follows_130 : decode cX10_follows 130 = .ok (.istore 11, 2) := dec_of t_X10_follows_ok 71 rfl
theorem dX10_follows_132 : decode cX10_follows 132 = .ok (.aload_n 0, 1) := dec_of t_X10_follows_ok 72 rfl
theorem dX10_follows_133 : decode cX10_follows 133 = .ok (.getfield 78, 3) := dec_of t_X10_follows_ok 73 rfl
theorem dX10_follows_136 : decode cX10_follows 136 = .ok (.iload 11, 2) := dec_of t_X10_follows_ok 74 rfl
theorem dX10_follows_138 : decode cX10_follows 138 = .ok (.aload_n 0, 1) := dec_of t_X10_follows_ok 75 rfl
theorem dX10_follows_139 : decode cX10_follows 139 = .ok (.getfield 78, 3) := dec_of t_X10_follows_ok 76 rfl
theorem dX10_follows_142 : decode cX10_follows 142 = .ok (.iload 6, 2) := dec_of t_X10_follows_ok 77 rfl
theorem dX10_follows_144 : decode cX10_follows 144 = .ok (.iaload, 1) := dec_of t_X10_follows_ok 78 rfl
theorem dX10_follows_145 : decode cX10_follows 145 = .ok (.iastore, 1) := dec_of t_X10_follows_ok 79 rfl
theorem dX10_follows_146 : decode cX10_follows 146 = .ok (.aload_n 0, 1) := dec_of t_X10_follows_ok 80 rfl
theorem dX10_follows_147 : decode cX10_follows 147 = .ok (.getfield 81, 3) := dec_of t_X10_follows_ok 81 rfl
theorem dX10_follows_150 : decode cX10_follows 150 = .ok (.iload 11, 2) := dec_of t_X10_follows_ok 82 rfl
theorem dX10_follows_152 : decode cX10_follows 152 = .ok (.iload 7, 2) := dec_of t_X10_follows_ok 83 rfl
theorem dX10_follows_154 : decode cX10_follows 154 = .ok (.iload 10, 2) := dec_of t_X10_follows_ok 84 rfl
theorem dX10_follows_156 : decode cX10_follows 156 = .ok (.iadd, 1) := dec_of t_X10_follows_ok 85 rfl
theorem dX10_follows_157 : decode cX10_follows 157 = .ok (.iastore, 1) := dec_of t_X10_follows_ok 86 rfl
theorem dX10_follows_158 : decode cX10_follows 158 = .ok (.aload_n 0, 1) := dec_of t_X10_follows_ok 87 rfl
theorem dX10_follows_159 : decode cX10_follows 159 = .ok (.getfield 84, 3) := dec_of t_X10_follows_ok 88 rfl
theorem dX10_follows_162 : decode cX10_follows 162 = .ok (.iload 11, 2) := dec_of t_X10_follows_ok 89 rfl
theorem dX10_follows_164 : decode cX10_follows 164 = .ok (.iload 8, 2) := dec_of t_X10_follows_ok 90 rfl
theorem dX10_follows_166 : decode cX10_follows 166 = .ok (.iload 10, 2) := dec_of t_X10_follows_ok 91 rfl
theorem dX10_follows_168 : decode cX10_follows 168 = .ok (.iadd, 1) := dec_of t_X10_follows_ok 92 rfl
theorem dX10_follows_169 : decode cX10_follows 169 = .ok (.iastore, 1) := dec_of t_X10_follows_ok 93 rfl
theorem dX10_follows_170 : decode cX10_follows 170 = .ok (.iinc 4 1, 3) := dec_of t_X10_follows_ok 94 rfl
theorem dX10_follows_173 : decode cX10_follows 173 = .ok (.iinc 5 1, 3) := dec_of t_X10_follows_ok 95 rfl
theorem dX10_follows_176 : decode cX10_follows 176 = .ok (.goto (-170), 3) := dec_of t_X10_follows_ok 96 rfl
theorem dX10_follows_179 : decode cX10_follows 179 = .ok (.aload_n 0, 1) := dec_of t_X10_follows_ok 97 rfl
theorem dX10_follows_180 : decode cX10_follows 180 = .ok (.getfield 75, 3) := dec_of t_X10_follows_ok 98 rfl
theorem dX10_follows_183 : decode cX10_follows 183 = .ok (.iload_n 1, 1) := dec_of t_X10_follows_ok 99 rfl
theorem dX10_follows_184 : decode cX10_follows 184 = .ok (.iload 4, 2) := dec_of t_X10_follows_ok 100 rfl
theorem dX10_follows_186 : decode cX10_follows 186 = .ok (.iastore, 1) := dec_of t_X10_follows_ok 101 rfl
theorem dX10_follows_187 : decode cX10_follows 187 = .ok (.return_, 1) := dec_of t_X10_follows_ok 102 rfl
def t_X10_at : List (Nat × Instr × Nat) := [(0, .aload_n 0, 1), (1, .iload_n 1, 1), (2, .iconst 0, 1), (3, .aload_n 0, 1), (4, .getfield 156, 3), (7, .iconst 1, 1), (8, .isub, 1), (9, .invokestatic 127, 3), (12, .ifCond .eq 7, 3), (15, .iconst 0, 1), (16, .goto 4, 3), (19, .iconst 1, 1), (20, .putfield 123, 3), (23, .aload_n 0, 1), (24, .getfield 123, 3), (27, .ifCond .le 8, 3), (30, .bipush 32, 2), (32, .goto 9, 3), (35, .aload_n 0, 1), (36, .getfield 7, 3), (39, .iload_n 1, 1), (40, .caload, 1), (41, .ireturn, 1)]
theorem t_X10_at_ok : dec_ok cX10_at t_X10_at = true := by decide +kernel
theorem dX10_at_0 : decode cX10_at 0 = .ok (.aload_n 0, 1) := dec_of t_X10_at_ok 0 rfl
theorem dX10_at_1 : decode cX10_at 1 = .ok (.iload_n 1, 1) := dec_of t_X10_at_ok 1 rfl
theorem dX10_at_2 : decode cX10_at 2 = .ok (.iconst 0, 1) := dec_of t_X10_at_ok 2 rfl
theorem dX10_at_3 : decode cX10_at 3 = .ok (.aload_n 0, 1) := dec_of t_X10_at_ok 3 rfl
theorem dX10_at_4 : decode cX10_at 4 = .ok (.getfield 156, 3) := dec_of t_X10_at_ok 4 rfl
theorem dX10_at_7 : decode cX10_at 7 = .ok (.iconst 1, 1) := dec_of t_X10_at_ok 5 rfl
theorem dX10_at_8 : decode cX10_at 8 = .ok (.isub, 1) := dec_of t_X10_at_ok 6 rfl
theorem dX10_at_9 : decode cX10_at 9 = .ok (.invokestatic 127, 3) := dec_of t_X10_at_ok 7 rfl
theorem dX10_at_12 : decode cX10_at 12 = .ok (.ifCond .eq 7, 3) := dec_of t_X10_at_ok 8 rfl
theorem dX10_at_15 : decode cX10_at 15 = .ok (.iconst 0, 1) := dec_of t_X10_at_ok 9 rfl
theorem dX10_at_16 : decode cX10_at 16 = .ok (.goto 4, 3) := dec_of t_X10_at_ok 10 rfl
theorem dX10_at_19 : decode cX10_at 19 = .ok (.iconst 1, 1) := dec_of t_X10_at_ok 11 rfl
theorem dX10_at_20 : decode cX10_at 20 = .ok (.putfield 123, 3) := dec_of t_X10_at_ok 12 rfl
theorem dX10_at_23 : decode cX10_at 23 = .ok (.aload_n 0, 1) := dec_of t_X10_at_ok 13 rfl
theorem dX10_at_24 : decode cX10_at 24 = .ok (.getfield 123, 3) := dec_of t_X10_at_ok 14 rfl
theorem dX10_at_27 : decode cX10_at 27 = .ok (.ifCond .le 8, 3) := dec_of t_X10_at_ok 15 rfl
theorem dX10_at_30 : decode cX10_at 30 = .ok (.bipush 32, 2) := dec_of t_X10_at_ok 16 rfl
theorem dX10_at_32 : decode cX10_at 32 = .ok (.goto 9, 3) := dec_of t_X10_at_ok 17 rfl
theorem dX10_at_35 : decode cX10_at 35 = .ok (.aload_n 0, 1) := dec_of t_X10_at_ok 18 rfl
theorem dX10_at_36 : decode cX10_at 36 = .ok (.getfield 7, 3) := dec_of t_X10_at_ok 19 rfl
theorem dX10_at_39 : decode cX10_at 39 = .ok (.iload_n 1, 1) := dec_of t_X10_at_ok 20 rfl
theorem dX10_at_40 : decode cX10_at 40 = .ok (.caload, 1) := dec_of t_X10_at_ok 21 rfl
theorem dX10_at_41 : decode cX10_at 41 = .ok (.ireturn, 1) := dec_of t_X10_at_ok 22 rfl
def t_X10_except : List (Nat × Instr × Nat) := [(0, .aload_n 0, 1), (1, .iload_n 1, 1), (2, .invokevirtual 184, 3), (5, .ifCond .eq 5, 3), (8, .iconst 0, 1), (9, .ireturn, 1), (10, .aload_n 0, 1), (11, .getfield 145, 3), (14, .ifCond .le 19, 3), (17, .aload_n 0, 1), (18, .iconst 0, 1), (19, .invokevirtual 174, 3), (22, .aload_n 0, 1), (23, .getfield 145, 3), (26, .if_icmp .ne 7, 3), (29, .iconst 1, 1), (30, .goto 4, 3), (33, .iconst 0, 1), (34, .istore_n 2, 1), (35, .aload_n 0, 1), (36, .iload_n 2, 1), (37, .ifCond .ne 7, 3), (40, .iconst 2, 1), (41, .goto 18, 3), (44, .aload_n 0, 1), (45, .getfield 42, 3), (48, .iload_n 1, 1), (49, .iaload, 1), (50, .iconst 3, 1), (51, .if_icmp .ne 7, 3), (54, .iconst 3, 1), (55, .goto 4, 3), (58, .iconst 0, 1), (59, .putfield 123, 3), (62, .aload_n 0, 1), (63, .getfield 123, 3), (66, .ifCond .le 5, 3), (69, .iconst 0, 1), (70, .ireturn, 1), (71, .iload_n 1, 1), (72, .iconst 3, 1), (73, .imul, 1), (74, .aload_n 0, 1), (75, .getfield 42, 3), (78, .iload_n 1, 1), (79, .iaload, 1), (80, .iadd, 1), (81, .istore_n 3, 1), (82, .iconst 0, 1), (83, .istore 4, 2), (85, .iload 4, 2), (87, .aload_n 0, 1), (88, .getfield 145, 3), (91, .if_icmp .ge 28, 3), (94, .aload_n 0, 1), (95, .getfield 45, 3), (98, .iload_n 3, 1), (99, .bipush 20, 2), (101, .imul, 1), (102, .iload 4, 2), (104, .iadd, 1), (105, .aload_n 0, 1), (106, .getfield 17, 3), (109, .iload 4, 2), (111, .caload, 1), (112, .castore, 1), (113, .iinc 4 1, 3), (116, .goto (-31), 3), (119, .aload_n 0, 1), (120, .getfield 48, 3), (123, .iload_n 3, 1), (124, .aload_n 0, 1), (125, .getfield 145, 3), (128, .iastore, 1), (129, .aload_n 0, 1), (130, .getfield 42, 3), (133, .iload_n 1, 1), (134, .dup2, 1), (135, .iaload, 1), (136, .iconst 1, 1), (137, .iadd, 1), (138, .iastore, 1), (139, .aload_n 0, 1), (140, .iconst 0, 1), (141, .putfield 145, 3), (144, .aload_n 0, 1), (145, .invokevirtual 181, 3), (148, .aload_n 0, 1), (149, .getfield 42, 3), (152, .iload_n 1, 1), (153, .iaload, 1), (154, .ireturn, 1)]
theorem t_X10_except_ok : dec_ok cX10_except t_X10_except = true := by decide +kernel
theorem dX10_except_0 : decode cX10_except 0 = .ok (.aload_n 0, 1) := dec_of t_X10_except_ok 0 rfl
theorem dX10_except_1 : decode cX10_except 1 = .ok (.iload_n 1, 1) := dec_of t_X10_except_ok 1 rfl
theorem dX10_except_2 : decode cX10_except 2 = .ok (.invokevirtual 184, 3) := dec_of t_X10_except_ok 2 rfl
theorem dX10_except_5 : decode cX10_except 5 = .ok (.ifCond .eq 5, 3) := dec_of t_X10_except_ok 3 rfl
theorem dX10_except_8 : decode cX10_except 8 = .ok (.iconst 0, 1) := dec_of t_X10_except_ok 4 rfl
theorem dX10_except_9 : decode cX10_except 9 = .ok (.ireturn, 1) := dec_of t_X10_except_ok 5 rfl
theorem dX10_except_10 : decode cX10_except 10 = .ok (.aload_n 0, 1) := dec_of t_X10_except_ok 6 rfl
theorem dX10_except_11 : decode cX10_except 11 = .ok (.getfield 145, 3) := dec_of t_X10_except_ok 7 rfl
theorem dX10_except_14 : decode cX10_except 14 = .ok (.ifCond .le 19, 3) := dec_of t_X10_except_ok 8 rfl
theorem dX10_except_17 : decode cX10_except 17 = .ok (.aload_n 0, 1) := dec_of t_X10_except_ok 9 rfl
theorem dX10_except_18 : decode cX10_except 18 = .ok (.iconst 0, 1) := dec_of t_X10_except_ok 10 rfl
theorem dX10_except_19 : decode cX10_except 19 = .ok (.invokevirtual 174, 3) := dec_of t_X10_except_ok 11 rfl
theorem dX10_except_22 : decode cX10_except 22 = .ok (.aload_n 0, 1) := dec_of t_X10_except_ok 12 rfl
theorem dX10_except_23 : decode cX10_except 23 = .ok (.getfield 145, 3) := dec_of t_X10_except_ok 13 rfl
theorem dX10_except_26 : decode cX10_except 26 = .ok (.if_icmp .ne 7, 3) := dec_of t_X10_except_ok 14 rfl
theorem dX10_except_29 : decode cX10_except 29 = .ok (.iconst 1, 1) := dec_of t_X10_except_ok 15 rfl
theorem dX10_except_30 : decode cX10_except 30 = .ok (.goto 4, 3) := dec_of t_X10_except_ok 16 rfl
theorem dX10_except_33 : decode cX10_except 33 = .ok (.iconst 0, 1) := dec_of t_X10_except_ok 17 rfl
theorem dX10_except_34 : decode cX10_except 34 = .ok (.istore_n 2, 1) := dec_of t_X10_except_ok 18 rfl
theorem dX10_except_35 : decode cX10_except 35 = .ok (.aload_n 0, 1) := dec_of t_X10_except_ok 19 rfl
theorem dX10_except_36 : decode cX10_except 36 = .ok (.iload_n 2, 1) := dec_of t_X10_except_ok 20 rfl
theorem dX10_except_37 : decode cX10_except 37 = .ok (.ifCond .ne 7, 3) := dec_of t_X10_except_ok 21 rfl
theorem dX10_except_40 : decode cX10_except 40 = .ok (.iconst 2, 1) := dec_of t_X10_except_ok 22 rfl
theorem dX10_except_41 : decode cX10_except 41 = .ok (.goto 18, 3) := dec_of t_X10_except_ok 23 rfl
theorem dX10_except_44 : decode cX10_except 44 = .ok (.aload_n 0, 1) := dec_of t_X10_except_ok 24 rfl
theorem dX10_except_45 : decode cX10_except 45 = .ok (.getfield 42, 3) := dec_of t_X10_except_ok 25 rfl
theorem dX10_except_48 : decode cX10_except 48 = .ok (.iload_n 1, 1) := dec_of t_X10_except_ok 26 rfl
theorem dX10_except_49 : decode cX10_except 49 = .ok (.iaload, 1) := dec_of t_X10_except_ok 27 rfl
theorem dX10_except_50 : decode cX10_except 50 = .ok (.iconst 3, 1) := dec_of t_X10_except_ok 28 rfl
theorem dX10_except_51 : decode cX10_except 51 = .ok (.if_icmp .ne 7, 3) := dec_of t_X10_except_ok 29 rfl
theorem dX10_except_54 : decode cX10_except 54 = .ok (.iconst 3, 1) := dec_of t_X10_except_ok 30 rfl
theorem dX10_except_55 : decode cX10_except 55 = .ok (.goto 4, 3) := dec_of t_X10_except_ok 31 rfl
theorem dX10_except_58 : decode cX10_except 58 = .ok (.iconst 0, 1) := dec_of t_X10_except_ok 32 rfl
theorem dX10_except_59 : decode cX10_except 59 = .ok (.putfield 123, 3) := dec_of t_X10_except_ok 33 rfl
theorem dX10_except_62 : decode cX10_except 62 = .ok (.aload_n 0, 1) := dec_of t_X10_except_ok 34 rfl
theorem dX10_except_63 : decode cX10_except 63 = .ok (.getfield 123, 3) := dec_of t_X10_except_ok 35 rfl
theorem dX10_except_66 : decode cX10_except 66 = .ok (.ifCond .le 5, 3) := dec_of t_X10_except_ok 36 rfl
theorem dX10_except_69 : decode cX10_except 69 = .ok (.iconst 0, 1) := dec_of t_X10_except_ok 37 rfl
theorem dX10_except_70 : decode cX10_except 70 = .ok (.ireturn, 1) := dec_of t_X10_except_ok 38 rfl
theorem dX10_except_71 : decode cX10_except 71 = .ok (.iload_n 1, 1) := dec_of t_X10_except_ok 39 rfl
theorem dX10_except_72 : decode cX10_except 72 = .ok (.iconst 3, 1) := dec_of t_X10_except_ok 40 rfl
theorem dX10_except_73 : decode cX10_except 73 = .ok (.imul, 1) := dec_of t_X10_except_ok 41 rfl
theorem dX10_except_74 : decode cX10_except 74 = .ok (.aload_n 0, 1) := dec_of t_X10_except_ok 42 rfl
theorem dX10_except_75 : decode cX10_except 75 = .ok (.getfield 42, 3) := dec_of t_X10_except_ok 43 rfl
theorem dX10_except_78 : decode cX10_except 78 = .ok (.iload_n 1, 1) := dec_of t_X10_except_ok 44 rfl
theorem dX10_except_79 : decode cX10_except 79 = .ok (.iaload, 1) := dec_of t_X10_except_ok 45 rfl
theorem dX10_except_80 : decode cX10_except 80 = .ok (.iadd, 1) := dec_of t_X10_except_ok 46 rfl
theorem dX10_except_81 : decode cX10_except 81 = .ok (.istore_n 3, 1) := dec_of t_X10_except_ok 47 rfl
theorem dX10_except_82 : decode cX10_except 82 = .ok (.iconst 0, 1) := dec_of t_X10_except_ok 48 rfl
theorem dX10_except_83 : decode cX10_except 83 = .ok (.istore 4, 2) := dec_of t_X10_except_ok 49 rfl
theorem dX10_except_85 : decode cX10_except 85 = .ok (.iload 4, 2) := dec_of t_X10_except_ok 50 rfl
theorem dX10_except_87 : decode cX10_except 87 = .ok (.aload_n 0, 1) := dec_of t_X10_except_ok 51 rfl
theorem dX10_except_88 : decode cX10_except 88 = .ok (.getfield 145, 3) := dec_of t_X10_except_ok 52 rfl
theorem dX10_except_91 : decode cX10_except 91 = .ok (.if_icmp .ge 28, 3) := dec_of t_X10_except_ok 53 rfl
theorem dX10_except_94 : decode cX10_except 94 = .ok (.aload_n 0, 1) := dec_of t_X10_except_ok 54 rfl
theorem dX10_except_95 : decode cX10_except 95 = .ok (.getfield 45, 3) := dec_of t_X10_except_ok 55 rfl
theorem dX10_except_98 : decode cX10_except 98 = .ok (.iload_n 3, 1) := dec_of t_X10_except_ok 56 rfl
theorem dX10_except_99 : decode cX10_except 99 = .ok (.bipush 20, 2) := dec_of t_X10_except_ok 57 rfl
theorem dX10_except_101 : decode cX10_except 101 = .ok (.imul, 1) := dec_of t_X10_except_ok 58 rfl
theorem dX10_except_102 : decode cX10_except 102 = .ok (.iload 4, 2) := dec_of t_X10_except_ok 59 rfl
theorem dX10_except_104 : decode cX10_except 104 = .ok (.iadd, 1) := dec_of t_X10_except_ok 60 rfl
theorem dX10_except_105 : decode cX10_except 105 = .ok (.aload_n 0, 1) := dec_of t_X10_except_ok 61 rfl
theorem dX10_except_106 : decode cX10_except 106 = .ok (.getfield 17, 3) := dec_of t_X10_except_ok 62 rfl
theorem dX10_except_109 : decode cX10_except 109 = .ok (.iload 4, 2) := dec_of t_X10_except_ok 63 rfl
theorem dX10_except_111 : decode cX10_except 111 = .ok (.caload, 1) := dec_of t_X10_except_ok 64 rfl
theorem dX10_except_112 : decode cX10_except 112 = .ok (.castore, 1) := dec_of t_X10_except_ok 65 rfl
theorem dX10_except_113 : decode cX10_except 113 = .ok (.iinc 4 1, 3) := dec_of t_X10_except_ok 66 rfl
theorem dX10_except_116 : decode cX10_except 116 = .ok (.goto (-31), 3) := dec_of t_X10_except_ok 67 rfl
theorem dX10_except_119 : decode cX10_except 119 = .ok (.aload_n 0, 1) := dec_of t_X10_except_ok 68 rfl
theorem dX10_except_120 : decode cX10_except 120 = .ok (.getfield 48, 3) := dec_of t_X10_except_ok 69 rfl
theorem dX10_except_123 : decode cX10_except 123 = .ok (.iload_n 3, 1) := dec_of t_X10_except_ok 70 rfl
theorem dX10_except_124 : decode cX10_except 124 = .ok (.aload_n 0, 1) := dec_of t_X10_except_ok 71 rfl
theorem dX10_except_125 : decode cX10_except 125 = .ok (.getfield 145, 3) := dec_of t_X10_except_ok 72 rfl
theorem dX10_except_128 : decode cX10_except 128 = .ok (.iastore, 1) := dec_of t_X10_except_ok 73 rfl
theorem dX10_except_129 : decode cX10_except 129 = .ok (.aload_n 0, 1) := dec_of t_X10_except_ok 74 rfl
theorem dX10_except_130 : decode cX10_except 130 = .ok (.getfield 42, 3) := dec_of t_X10_except_ok 75 rfl
theorem dX10_except_133 : decode cX10_except 133 = .ok (.iload_n 1, 1) := dec_of t_X10_except_ok 76 rfl
theorem dX10_except_134 : decode cX10_except 134 = .ok (.dup2, 1) := dec_of t_X10_except_ok 77 rfl
theorem dX10_except_135 : decode cX10_except 135 = .ok (.iaload, 1) := dec_of t_X10_except_ok 78 rfl
theorem dX10_except_136 : decode cX10_except 136 = .ok (.iconst 1, 1) := dec_of t_X10_except_ok 79 rfl
theorem dX10_except_137 : decode cX10_except 137 = .ok (.iadd, 1) := dec_of t_X10_except_ok 80 rfl
theorem dX10_except_138 : decode cX10_except 138 = .ok (.iastore, 1) := dec_of t_X10_except_ok 81 rfl
theorem dX10_except_139 : decode cX10_except 139 = .ok (.aload_n 0, 1) := dec_of t_X10_except_ok 82 rfl
theorem dX10_except_140 : decode cX10_except 140 = .ok (.iconst 0, 1) := dec_of t_X10_except_ok 83 rfl
theorem dX10_except_141 : decode cX10_except 141 = .ok (.putfield 145, 3) := dec_of t_X10_except_ok 84 rfl
theorem dX10_except_144 : decode cX10_except 144 = .ok (.aload_n 0, 1) := dec_of t_X10_except_ok 85 rfl
theorem dX10_except_145 : decode cX10_except 145 = .ok (.invokevirtual 181, 3) := dec_of t_X10_except_ok 86 rfl
theorem dX10_except_148 : decode cX10_except 148 = .ok (.aload_n 0, 1) := dec_of t_X10_except_ok 87 rfl
theorem dX10_except_149 : decode cX10_except 149 = .ok (.getfield 42, 3) := dec_of t_X10_except_ok 88 rfl
theorem dX10_except_152 : decode cX10_except 152 = .ok (.iload_n 1, 1) := dec_of t_X10_except_ok 89 rfl
theorem dX10_except_153 : decode cX10_except 153 = .ok (.iaload, 1) := dec_of t_X10_except_ok 90 rfl
theorem dX10_except_154 : decode cX10_except 154 = .ok (.ireturn, 1) := dec_of t_X10_except_ok 91 rfl
def t_X10_fits : List (Nat × Instr × Nat) := [(0, .aload_n 0, 1), (1, .getfield 93, 3), (4, .iload_n 1, 1), (5, .iaload, 1), (6, .aload_n 0, 1), (7, .getfield 90, 3), (10, .iload_n 1, 1), (11, .iaload, 1), (12, .isub, 1), (13, .istore_n 3, 1), (14, .aload_n 0, 1), (15, .getfield 29, 3), (18, .iload_n 2, 1), (19, .iaload, 1), (20, .iconst 3, 1), (21, .if_icmp .eq 12, 3), (24, .aload_n 0, 1), (25, .getfield 96, 3), (28, .iload_n 1, 1), (29, .baload, 1), (30, .ifCond .ne 28, 3), (33, .aload_n 0, 1), (34, .getfield 29, 3), (37, .iload_n 2, 1), (38, .iaload, 1), (39, .iconst 3, 1), (40, .if_icmp .ne 16, 3), (43, .aload_n 0, 1), (44, .getfield 96, 3), (47, .iload_n 1, 1), (48, .baload, 1), (49, .ifCond .ne 7, 3), (52, .iconst 1, 1), (53, .goto 4, 3), (56, .iconst 0, 1), (57, .ireturn, 1), (58, .aload_n 0, 1), (59, .getfield 29, 3), (62, .iload_n 2, 1), (63, .iaload, 1), (64, .ifCond .ne 21, 3), (67, .iload_n 3, 1), (68, .aload_n 0, 1), (69, .getfield 26, 3), (72, .iload_n 2, 1), (73, .iaload, 1), (74, .if_icmp .ne 7, 3), (77, .iconst 1, 1), (78, .goto 22, 3), (81, .iconst 0, 1), (82, .goto 18, 3), (85, .iload_n 3, 1), (86, .aload_n 0, 1), (87, .getfield 26, 3), (90, .iload_n 2, 1), (91, .iaload, 1), (92, .if_icmp .lt 7, 3), (95, .iconst 1, 1), (96, .goto 4, 3), (99, .iconst 0, 1), (100, .istore 4, 2), (102, .iconst 0, 1), (103, .istore 5, 2), (105, .iload 5, 2), (107, .aload_n 0, 1), (108, .getfield 26, 3), (111, .iload_n 2, 1), (112, .iaload, 1), (113, .if_icmp .ge 50, 3), (116, .iload 4, 2), (118, .ifCond .eq 45, 3), (121, .aload_n 0, 1), (122, .getfield 7, 3), (125, .aload_n 0, 1), (126, .getfield 90, 3), (129, .iload_n 1, 1), (130, .iaload, 1), (131, .iload 5, 2), (133, .iadd, 1), (134, .caload, 1), (135, .aload_n 0, 1), (136, .getfield 23, 3), (139, .iload_n 2, 1), (140, .bipush 20, 2), (142, .imul, 1), (143, .iload 5, 2), (145, .iadd, 1), (146, .caload, 1), (147, .if_icmp .ne 7, 3), (150, .iconst 1, 1), (151, .goto 4, 3), (154, .iconst 0, 1), (155, .istore 4, 2), (157, .iinc 5 1, 3), (160, .goto (-55), 3), (163, .iload 4, 2), (165, .ireturn, 1)]
theorem t_X10_fits_ok : dec_ok cX10_fits t_X10_fits = true := by decide +kernel
theorem dX10_fits_0 : decode cX10_fits 0 = .ok (.aload_n 0, 1) := dec_of t_X10_fits_ok 0 rfl
theorem dX10_fits_1 : decode cX10_fits 1 = .ok (.getfield 93, 3) := dec_of t_X10_fits_ok 1 rfl
theorem dX10_fits_4 : decode cX10_fits 4 = .ok (.iload_n 1, 1) := dec_of t_X10_fits_ok 2 rfl
theorem dX10_fits_5 : decode cX10_fits 5 = .ok (.iaload, 1) := dec_of t_X10_fits_ok 3 rfl
theorem dX10_fits_6 : decode cX10_fits 6 = .ok (.aload_n 0, 1) := dec_of t_X10_fits_ok 4 rfl
theorem dX10_fits_7 : decode cX10_fits 7 = .ok (.getfield 90, 3) := dec_of t_X10_fits_ok 5 rfl
theorem dX10_fits_10 : decode cX10_fits 10 = .ok (.iload_n 1, 1) := dec_of t_X10_fits_ok 6 rfl
theorem dX10_fits_11 : decode cX10_fits 11 = .ok (.iaload, 1) := dec_of t_X10_fits_ok 7 rfl
theorem dX10_fits_12 : decode cX10_fits 12 = .ok (.isub, 1) := dec_of t_X10_fits_ok 8 rfl
theorem dX10_fits_13 : decode cX10_fits 13 = .ok (.istore_n 3, 1) := dec_of t_X10_fits_ok 9 rfl
theorem dX10_fits_14 : decode cX10_fits 14 = .ok (.aload_n 0, 1) := dec_of t_X10_fits_ok 10 rfl
theorem dX10_fits_15 : decode cX10_fits 15 = .ok (.getfield 29, 3) := dec_of t_X10_fits_ok 11 rfl
theorem dX10_fits_18 : decode cX10_fits 18 = .ok (.iload_n 2, 1) := dec_of t_X10_fits_ok 12 rfl
theorem dX10_fits_19 : decode cX10_fits 19 = .ok (.iaload, 1) := dec_of t_X10_fits_ok 13 rfl
theorem dX10_fits_20 : decode cX10_fits 20 = .ok (.iconst 3, 1) := dec_of t_X10_fits_ok 14 rfl
theorem dX10_fits_21 : decode cX10_fits 21 = .ok (.if_icmp .eq 12, 3) := dec_of t_X10_fits_ok 15 rfl
theorem dX10_fits_24 : decode cX10_fits 24 = .ok (.aload_n 0, 1) := dec_of t_X10_fits_ok 16 rfl
theorem dX10_fits_25 : decode cX10_fits 25 = .ok (.getfield 96, 3) := dec_of t_X10_fits_ok 17 rfl
theorem dX10_fits_28 : decode cX10_fits 28 = .ok (.iload_n 1, 1) := dec_of t_X10_fits_ok 18 rfl
theorem dX10_fits_29 : decode cX10_fits 29 = .ok (.baload, 1) := dec_of t_X10_fits_ok 19 rfl
theorem dX10_fits_30 : decode cX10_fits 30 = .ok (.ifCond .ne 28, 3) := dec_of t_X10_fits_ok 20 rfl
theorem dX10_fits_33 : decode cX10_fits 33 = .ok (.aload_n 0, 1) := dec_of t_X10_fits_ok 21 rfl
theorem dX10_fits_34 : decode cX10_fits 34 = .ok (.getfield 29, 3) := dec_of t_X10_fits_ok 22 rfl
theorem dX10_fits_37 : decode cX10_fits 37 = .ok (.iload_n 2, 1) := dec_of t_X10_fits_ok 23 rfl
theorem dX10_fits_38 : decode cX10_fits 38 = .ok (.iaload, 1) := dec_of t_X10_fits_ok 24 rfl
theorem dX10_fits_39 : decode cX10_fits 39 = .ok (.iconst 3, 1) := dec_of t_X10_fits_ok 25 rfl
theorem dX10_fits_40 : decode cX10_fits 40 = .ok (.if_icmp .ne 16, 3) := dec_of t_X10_fits_ok 26 rfl
theorem dX10_fits_43 : decode cX10_fits 43 = .ok (.aload_n 0, 1) := dec_of t_X10_fits_ok 27 rfl
theorem dX10_fits_44 : decode cX10_fits 44 = .ok (.getfield 96, 3) := dec_of t_X10_fits_ok 28 rfl
theorem dX10_fits_47 : decode cX10_fits 47 = .ok (.iload_n 1, 1) := dec_of t_X10_fits_ok 29 rfl
theorem dX10_fits_48 : decode cX10_fits 48 = .ok (.baload, 1) := dec_of t_X10_fits_ok 30 rfl
theorem dX10_fits_49 : decode cX10_fits 49 = .ok (.ifCond .ne 7, 3) := dec_of t_X10_fits_ok 31 rfl
theorem dX10_fits_52 : decode cX10_fits 52 = .ok (.iconst 1, 1) := dec_of t_X10_fits_ok 32 rfl
theorem dX10_fits_53 : decode cX10_fits 53 = .ok (.goto 4, 3) := dec_of t_X10_fits_ok 33 rfl
theorem dX10_fits_56 : decode cX10_fits 56 = .ok (.iconst 0, 1) := dec_of t_X10_fits_ok 34 rfl
theorem dX10_fits_57 : decode cX10_fits 57 = .ok (.ireturn, 1) := dec_of t_X10_fits_ok 35 rfl
theorem dX10_fits_58 : decode cX10_fits 58 = .ok (.aload_n 0, 1) := dec_of t_X10_fits_ok 36 rfl
theorem dX10_fits_59 : decode cX10_fits 59 = .ok (.getfield 29, 3) := dec_of t_X10_fits_ok 37 rfl
theorem dX10_fits_62 : decode cX10_fits 62 = .ok (.iload_n 2, 1) := dec_of t_X10_fits_ok 38 rfl
theorem dX10_fits_63 : decode cX10_fits 63 = .ok (.iaload, 1) := dec_of t_X10_fits_ok 39 rfl
theorem dX10_fits_64 : decode cX10_fits 64 = .ok (.ifCond .ne 21, 3) := dec_of t_X10_fits_ok 40 rfl
theorem dX10_fits_67 : decode cX10_fits 67 = .ok (.iload_n 3, 1) := dec_of t_X10_fits_ok 41 rfl
theorem dX10_fits_68 : decode cX10_fits 68 = .ok (.aload_n 0, 1) := dec_of t_X10_fits_ok 42 rfl
theorem dX10_fits_69 : decode cX10_fits 69 = .ok (.getfield 26, 3) := dec_of t_X10_fits_ok 43 rfl
theorem dX10_fits_72 : decode cX10_fits 72 = .ok (.iload_n 2, 1) := dec_of t_X10_fits_ok 44 rfl
theorem dX10_fits_73 : decode cX10_fits 73 = .ok (.iaload, 1) := dec_of t_X10_fits_ok 45 rfl
theorem dX10_fits_74 : decode cX10_fits 74 = .ok (.if_icmp .ne 7, 3) := dec_of t_X10_fits_ok 46 rfl
theorem dX10_fits_77 : decode cX10_fits 77 = .ok (.iconst 1, 1) := dec_of t_X10_fits_ok 47 rfl
theorem dX10_fits_78 : decode cX10_fits 78 = .ok (.goto 22, 3) := dec_of t_X10_fits_ok 48 rfl
theorem dX10_fits_81 : decode cX10_fits 81 = .ok (.iconst 0, 1) := dec_of t_X10_fits_ok 49 rfl
theorem dX10_fits_82 : decode cX10_fits 82 = .ok (.goto 18, 3) := dec_of t_X10_fits_ok 50 rfl
theorem dX10_fits_85 : decode cX10_fits 85 = .ok (.iload_n 3, 1) := dec_of t_X10_fits_ok 51 rfl
theorem dX10_fits_86 : decode cX10_fits 86 = .ok (.aload_n 0, 1) := dec_of t_X10_fits_ok 52 rfl
theorem dX10_fits_87 : decode cX10_fits 87 = .ok (.getfield 26, 3) := dec_of t_X10_fits_ok 53 rfl
theorem dX10_fits_90 : decode cX10_fits 90 = .ok (.iload_n 2, 1) := dec_of t_X10_fits_ok 54 rfl
theorem dX10_fits_91 : decode cX10_fits 91 = .ok (.iaload, 1) := dec_of t_X10_fits_ok 55 rfl
theorem dX10_fits_92 : decode cX10_fits 92 = .ok (.if_icmp .lt 7, 3) := dec_of t_X10_fits_ok 56 rfl
theorem dX10_fits_95 : decode cX10_fits 95 = .ok (.iconst 1, 1) := dec_of t_X10_fits_ok 57 rfl
theorem dX10_fits_96 : decode cX10_fits 96 = .ok (.goto 4, 3) := dec_of t_X10_fits_ok 58 rfl
theorem dX10_fits_99 : decode cX10_fits 99 = .ok (.iconst 0, 1) := dec_of t_X10_fits_ok 59 rfl
theorem dX10_fits_100 : decode cX10_fits 100 = .ok (.istore 4, 2) := dec_of t_X10_fits_ok 60 rfl
theorem dX10_fits_102 : decode cX10_fits 102 = .ok (.iconst 0, 1) := dec_of t_X10_fits_ok 61 rfl
theorem dX10_fits_103 : decode cX10_fits 103 = .ok (.istore 5, 2) := dec_of t_X10_fits_ok 62 rfl
theorem dX10_fits_105 : decode cX10_fits 105 = .ok (.iload 5, 2) := dec_of t_X10_fits_ok 63 rfl
theorem dX10_fits_107 : decode cX10_fits 107 = .ok (.aload_n 0, 1) := dec_of t_X10_fits_ok 64 rfl
theorem dX10_fits_108 : decode cX10_fits 108 = .ok (.getfield 26, 3) := dec_of t_X10_fits_ok 65 rfl
theorem dX10_fits_111 : decode cX10_fits 111 = .ok (.iload_n 2, 1) := dec_of t_X10_fits_ok 66 rfl
theorem dX10_fits_112 : decode cX10_fits 112 = .ok (.iaload, 1) := dec_of t_X10_fits_ok 67 rfl
theorem dX10_fits_113 : decode cX10_fits 113 = .ok (.if_icmp .ge 50, 3) := dec_of t_X10_fits_ok 68 rfl
theorem dX10_fits_116 : decode cX10_fits 116 = .ok (.iload 4, 2) := dec_of t_X10_fits_ok 69 rfl
theorem dX10_fits_118 : decode cX10_fits 118 = .ok (.ifCond .eq 45, 3) := dec_of t_X10_fits_ok 70 rfl
theorem dX10_fits_121 : decode cX10_fits 121 = .ok (.aload_n 0, 1) := dec_of t_X10_fits_ok 71 rfl
theorem dX10_fits_122 : decode cX10_fits 122 = .ok (.getfield 7, 3) := dec_of t_X10_fits_ok 72 rfl
theorem dX10_fits_125 : decode cX10_fits 125 = .ok (.aload_n 0, 1) := dec_of t_X10_fits_ok 73 rfl
theorem dX10_fits_126 : decode cX10_fits 126 = .ok (.getfield 90, 3) := dec_of t_X10_fits_ok 74 rfl
theorem dX10_fits_129 : decode cX10_fits 129 = .ok (.iload_n 1, 1) := dec_of t_X10_fits_ok 75 rfl
theorem dX10_fits_130 : decode cX10_fits 130 = .ok (.iaload, 1) := dec_of t_X10_fits_ok 76 rfl
theorem dX10_fits_131 : decode cX10_fits 131 = .ok (.iload 5, 2) := dec_of t_X10_fits_ok 77 rfl
theorem dX10_fits_133 : decode cX10_fits 133 = .ok (.iadd, 1) := dec_of t_X10_fits_ok 78 rfl
theorem dX10_fits_134 : decode cX10_fits 134 = .ok (.caload, 1) := dec_of t_X10_fits_ok 79 rfl
theorem dX10_fits_135 : decode cX10_fits 135 = .ok (.aload_n 0, 1) := dec_of t_X10_fits_ok 80 rfl
theorem dX10_fits_136 : decode cX10_fits 136 = .ok (.getfield 23, 3) := dec_of t_X10_fits_ok 81 rfl
theorem dX10_fits_139 : decode cX10_fits 139 = .ok (.iload_n 2, 1) := dec_of t_X10_fits_ok 82 rfl
theorem dX10_fits_140 : decode cX10_fits 140 = .ok (.bipush 20, 2) := dec_of t_X10_fits_ok 83 rfl
theorem dX10_fits_142 : decode cX10_fits 142 = .ok (.imul, 1) := dec_of t_X10_fits_ok 84 rfl
theorem dX10_fits_143 : decode cX10_fits 143 = .ok (.iload 5, 2) := dec_of t_X10_fits_ok 85 rfl
theorem dX10_fits_145 : decode cX10_fits 145 = .ok (.iadd, 1) := dec_of t_X10_fits_ok 86 rfl
theorem dX10_fits_146 : decode cX10_fits 146 = .ok (.caload, 1) := dec_of t_X10_fits_ok 87 rfl
theorem dX10_fits_147 : decode cX10_fits 147 = .ok (.if_icmp .ne 7, 3) := dec_of t_X10_fits_ok 88 rfl
theorem dX10_fits_150 : decode cX10_fits 150 = .ok (.iconst 1, 1) := dec_of t_X10_fits_ok 89 rfl
theorem dX10_fits_151 : decode cX10_fits 151 = .ok (.goto 4, 3) := dec_of t_X10_fits_ok 90 rfl
theorem dX10_fits_154 : decode cX10_fits 154 = .ok (.iconst 0, 1) := dec_of t_X10_fits_ok 91 rfl
theorem dX10_fits_155 : decode cX10_fits 155 = .ok (.istore 4, 2) := dec_of t_X10_fits_ok 92 rfl
theorem dX10_fits_157 : decode cX10_fits 157 = .ok (.iinc 5 1, 3) := dec_of t_X10_fits_ok 93 rfl
theorem dX10_fits_160 : decode cX10_fits 160 = .ok (.goto (-55), 3) := dec_of t_X10_fits_ok 94 rfl
theorem dX10_fits_163 : decode cX10_fits 163 = .ok (.iload 4, 2) := dec_of t_X10_fits_ok 95 rfl
theorem dX10_fits_165 : decode cX10_fits 165 = .ok (.ireturn, 1) := dec_of t_X10_fits_ok 96 rfl
def t_X10_finds : List (Nat × Instr × Nat) := [(0, .aload_n 0, 1), (1, .iload_n 1, 1), (2, .iload 4, 2), (4, .aload_n 0, 1), (5, .getfield 90, 3), (8, .iload_n 2, 1), (9, .iaload, 1), (10, .aload_n 0, 1), (11, .getfield 93, 3), (14, .iload_n 3, 1), (15, .iaload, 1), (16, .invokevirtual 201, 3), (19, .ifCond .ne 60, 3), (22, .aload_n 0, 1), (23, .getfield 105, 3), (26, .aload_n 0, 1), (27, .getfield 205, 3), (30, .iload_n 2, 1), (31, .iastore, 1), (32, .aload_n 0, 1), (33, .getfield 108, 3), (36, .aload_n 0, 1), (37, .getfield 205, 3), (40, .aload_n 0, 1), (41, .getfield 93, 3), (44, .iload_n 3, 1), (45, .iaload, 1), (46, .iastore, 1), (47, .aload_n 0, 1), (48, .getfield 111, 3), (51, .aload_n 0, 1), (52, .getfield 205, 3), (55, .iload 4, 2), (57, .iastore, 1), (58, .aload_n 0, 1), (59, .getfield 114, 3), (62, .aload_n 0, 1), (63, .getfield 205, 3), (66, .iload 5, 2), (68, .iastore, 1), (69, .aload_n 0, 1), (70, .dup, 1), (71, .getfield 205, 3), (74, .iconst 1, 1), (75, .iadd, 1), (76, .putfield 205, 3), (79, .return_, 1)]
theorem t_X10_finds_ok : dec_ok cX10_finds t_X10_finds = true := by decide +kernel
theorem dX10_finds_0 : decode cX10_finds 0 = .ok (.aload_n 0, 1) := dec_of t_X10_finds_ok 0 rfl
theorem dX10_finds_1 : decode cX10_finds 1 = .ok (.iload_n 1, 1) := dec_of t_X10_finds_ok 1 rfl
theorem dX10_finds_2 : decode cX10_finds 2 = .ok (.iload 4, 2) := dec_of t_X10_finds_ok 2 rfl
theorem dX10_finds_4 : decode cX10_finds 4 = .ok (.aload_n 0, 1) := dec_of t_X10_finds_ok 3 rfl
theorem dX10_finds_5 : decode cX10_finds 5 = .ok (.getfield 90, 3) := dec_of t_X10_finds_ok 4 rfl
theorem dX10_finds_8 : decode cX10_finds 8 = .ok (.iload_n 2, 1) := dec_of t_X10_finds_ok 5 rfl
theorem dX10_finds_9 : decode cX10_finds 9 = .ok (.iaload, 1) := dec_of t_X10_finds_ok 6 rfl
theorem dX10_finds_10 : decode cX10_finds 10 = .ok (.aload_n 0, 1) := dec_of t_X10_finds_ok 7 rfl
theorem dX10_finds_11 : decode cX10_finds 11 = .ok (.getfield 93, 3) := dec_of t_X10_finds_ok 8 rfl
theorem dX10_finds_14 : decode cX10_finds 14 = .ok (.iload_n 3, 1) := dec_of t_X10_finds_ok 9 rfl
theorem dX10_finds_15 : decode cX10_finds 15 = .ok (.iaload, 1) := dec_of t_X10_finds_ok 10 rfl
theorem dX10_finds_16 : decode cX10_finds 16 = .ok (.invokevirtual 201, 3) := dec_of t_X10_finds_ok 11 rfl
theorem dX10_finds_19 : decode cX10_finds 19 = .ok (.ifCond .ne 60, 3) := dec_of t_X10_finds_ok 12 rfl
theorem dX10_finds_22 : decode cX10_finds 22 = .ok (.aload_n 0, 1) := dec_of t_X10_finds_ok 13 rfl
theorem dX10_finds_23 : decode cX10_finds 23 = .ok (.getfield 105, 3) := dec_of t_X10_finds_ok 14 rfl
theorem dX10_finds_26 : decode cX10_finds 26 = .ok (.aload_n 0, 1) := dec_of t_X10_finds_ok 15 rfl
theorem dX10_finds_27 : decode cX10_finds 27 = .ok (.getfield 205, 3) := dec_of t_X10_finds_ok 16 rfl
theorem dX10_finds_30 : decode cX10_finds 30 = .ok (.iload_n 2, 1) := dec_of t_X10_finds_ok 17 rfl
theorem dX10_finds_31 : decode cX10_finds 31 = .ok (.iastore, 1) := dec_of t_X10_finds_ok 18 rfl
theorem dX10_finds_32 : decode cX10_finds 32 = .ok (.aload_n 0, 1) := dec_of t_X10_finds_ok 19 rfl
theorem dX10_finds_33 : decode cX10_finds 33 = .ok (.getfield 108, 3) := dec_of t_X10_finds_ok 20 rfl
theorem dX10_finds_36 : decode cX10_finds 36 = .ok (.aload_n 0, 1) := dec_of t_X10_finds_ok 21 rfl
theorem dX10_finds_37 : decode cX10_finds 37 = .ok (.getfield 205, 3) := dec_of t_X10_finds_ok 22 rfl
theorem dX10_finds_40 : decode cX10_finds 40 = .ok (.aload_n 0, 1) := dec_of t_X10_finds_ok 23 rfl
theorem dX10_finds_41 : decode cX10_finds 41 = .ok (.getfield 93, 3) := dec_of t_X10_finds_ok 24 rfl
theorem dX10_finds_44 : decode cX10_finds 44 = .ok (.iload_n 3, 1) := dec_of t_X10_finds_ok 25 rfl
theorem dX10_finds_45 : decode cX10_finds 45 = .ok (.iaload, 1) := dec_of t_X10_finds_ok 26 rfl
theorem dX10_finds_46 : decode cX10_finds 46 = .ok (.iastore, 1) := dec_of t_X10_finds_ok 27 rfl
theorem dX10_finds_47 : decode cX10_finds 47 = .ok (.aload_n 0, 1) := dec_of t_X10_finds_ok 28 rfl
theorem dX10_finds_48 : decode cX10_finds 48 = .ok (.getfield 111, 3) := dec_of t_X10_finds_ok 29 rfl
theorem dX10_finds_51 : decode cX10_finds 51 = .ok (.aload_n 0, 1) := dec_of t_X10_finds_ok 30 rfl
theorem dX10_finds_52 : decode cX10_finds 52 = .ok (.getfield 205, 3) := dec_of t_X10_finds_ok 31 rfl
theorem dX10_finds_55 : decode cX10_finds 55 = .ok (.iload 4, 2) := dec_of t_X10_finds_ok 32 rfl
theorem dX10_finds_57 : decode cX10_finds 57 = .ok (.iastore, 1) := dec_of t_X10_finds_ok 33 rfl
theorem dX10_finds_58 : decode cX10_finds 58 = .ok (.aload_n 0, 1) := dec_of t_X10_finds_ok 34 rfl
theorem dX10_finds_59 : decode cX10_finds 59 = .ok (.getfield 114, 3) := dec_of t_X10_finds_ok 35 rfl
theorem dX10_finds_62 : decode cX10_finds 62 = .ok (.aload_n 0, 1) := dec_of t_X10_finds_ok 36 rfl
theorem dX10_finds_63 : decode cX10_finds 63 = .ok (.getfield 205, 3) := dec_of t_X10_finds_ok 37 rfl
theorem dX10_finds_66 : decode cX10_finds 66 = .ok (.iload 5, 2) := dec_of t_X10_finds_ok 38 rfl
theorem dX10_finds_68 : decode cX10_finds 68 = .ok (.iastore, 1) := dec_of t_X10_finds_ok 39 rfl
theorem dX10_finds_69 : decode cX10_finds 69 = .ok (.aload_n 0, 1) := dec_of t_X10_finds_ok 40 rfl
theorem dX10_finds_70 : decode cX10_finds 70 = .ok (.dup, 1) := dec_of t_X10_finds_ok 41 rfl
theorem dX10_finds_71 : decode cX10_finds 71 = .ok (.getfield 205, 3) := dec_of t_X10_finds_ok 42 rfl
theorem dX10_finds_74 : decode cX10_finds 74 = .ok (.iconst 1, 1) := dec_of t_X10_finds_ok 43 rfl
theorem dX10_finds_75 : decode cX10_finds 75 = .ok (.iadd, 1) := dec_of t_X10_finds_ok 44 rfl
theorem dX10_finds_76 : decode cX10_finds 76 = .ok (.putfield 205, 3) := dec_of t_X10_finds_ok 45 rfl
theorem dX10_finds_79 : decode cX10_finds 79 = .ok (.return_, 1) := dec_of t_X10_finds_ok 46 rfl
def t_X10_findsAll : List (Nat × Instr × Nat) := [(0, .aload_n 0, 1), (1, .invokevirtual 208, 3), (4, .aload_n 0, 1), (5, .iconst 0, 1), (6, .putfield 205, 3), (9, .iconst 0, 1), (10, .istore_n 2, 1), (11, .iload_n 2, 1), (12, .aload_n 0, 1), (13, .getfield 135, 3), (16, .if_icmp .ge 172, 3), (19, .iconst 0, 1), (20, .istore_n 3, 1), (21, .iload_n 3, 1), (22, .aload_n 0, 1), (23, .getfield 194, 3), (26, .if_icmp .ge 156, 3), (29, .aload_n 0, 1), (30, .getfield 66, 3), (33, .iload_n 1, 1), (34, .bipush 12, 2), (36, .imul, 1), (37, .iload_n 2, 1), (38, .iadd, 1), (39, .baload, 1), (40, .ifCond .ne 142, 3), (43, .aload_n 0, 1), (44, .iload_n 2, 1), (45, .iload_n 3, 1), (46, .invokevirtual 211, 3), (49, .ifCond .eq 127, 3), (52, .iload_n 3, 1), (53, .aload_n 0, 1), (54, .getfield 20, 3), (57, .iload_n 2, 1), (58, .iaload, 1), (59, .iadd, 1), (60, .iconst 1, 1), (61, .isub, 1), (62, .istore 4, 2), (64, .aload_n 0, 1), (65, .getfield 32, 3), (68, .iload_n 2, 1), (69, .caload, 1), (70, .bipush 97, 2), (72, .if_icmp .eq 27, 3), (75, .aload_n 0, 1), (76, .iload_n 3, 1), (77, .invokevirtual 214, 3), (80, .aload_n 0, 1), (81, .getfield 32, 3), (84, .iload_n 2, 1), (85, .caload, 1), (86, .bipush 115, 2), (88, .if_icmp .ne 7, 3), (91, .iconst 1, 1), (92, .goto 4, 3), (95, .iconst 0, 1), (96, .if_icmp .ne 7, 3), (99, .iconst 1, 1), (100, .goto 4, 3), (103, .iconst 0, 1), (104, .istore 5, 2), (106, .iload 5, 2), (108, .ifCond .eq 36, 3), (111, .aload_n 0, 1), (112, .getfield 35, 3), (115, .iload_n 2, 1), (116, .baload, 1), (117, .ifCond .ne 23, 3), (120, .aload_n 0, 1), (121, .aload_n 0, 1), (122, .getfield 90, 3), (125, .iload_n 3, 1), (126, .iaload, 1), (127, .aload_n 0, 1), (128, .getfield 93, 3), (131, .iload 4, 2), (133, .iaload, 1), (134, .invokevirtual 217, 3), (137, .ifCond .ne 7, 3), (140, .iconst 1, 1), (141, .goto 4, 3), (144, .iconst 0, 1), (145, .istore 5, 2), (147, .iload 5, 2), (149, .ifCond .eq 27, 3), (152, .aload_n 0, 1), (153, .iload_n 2, 1), (154, .iload_n 3, 1), (155, .invokevirtual 220, 3), (158, .ifCond .ne 18, 3), (161, .aload_n 0, 1), (162, .iload_n 1, 1), (163, .iload_n 3, 1), (164, .iload 4, 2), (166, .iload_n 2, 1), (167, .aload_n 0, 1), (168, .iload_n 1, 1), (169, .iload_n 2, 1), (170, .invokevirtual 190, 3), (173, .invokevirtual 223, 3), (176, .iinc 3 1, 3), (179, .goto (-158), 3), (182, .iinc 2 1, 3), (185, .goto (-174), 3), (188, .iconst 0, 1), (189, .istore_n 2, 1), (190, .iload_n 2, 1), (191, .aload_n 0, 1), (192, .getfield 194, 3), (195, .if_icmp .ge 61, 3), (198, .aload_n 0, 1), (199, .getfield 96, 3), (202, .iload_n 2, 1), (203, .baload, 1), (204, .ifCond .ne 46, 3), (207, .aload_n 0, 1), (208, .iload_n 2, 1), (209, .invokevirtual 227, 3), (212, .aload_n 0, 1), (213, .getfield 72, 3), (216, .iload_n 1, 1), (217, .iaload, 1), (218, .if_icmp .ge 32, 3), (221, .aload_n 0, 1), (222, .aload_n 0, 1), (223, .getfield 90, 3), (226, .iload_n 2, 1), (227, .iaload, 1), (228, .aload_n 0, 1), (229, .getfield 93, 3), (232, .iload_n 2, 1), (233, .iaload, 1), (234, .invokevirtual 217, 3), (237, .ifCond .ne 13, 3), (240, .aload_n 0, 1), (241, .iload_n 1, 1), (242, .iload_n 2, 1), (243, .iload_n 2, 1), (244, .bipush 20, 2), (246, .iconst 1, 1), (247, .invokevirtual 223, 3), (250, .iinc 2 1, 3), (253, .goto (-63), 3), (256, .iconst 0, 1), (257, .istore_n 2, 1), (258, .iload_n 2, 1), (259, .aload_n 0, 1), (260, .getfield 187, 3), (263, .if_icmp .ge 101, 3), (266, .iconst 2, 1), (267, .istore_n 3, 1), (268, .iconst 0, 1), (269, .istore 4, 2), (271, .iload 4, 2), (273, .aload_n 0, 1), (274, .getfield 194, 3), (277, .if_icmp .ge 81, 3), (280, .aload_n 0, 1), (281, .aload_n 0, 1), (282, .getfield 90, 3), (285, .iload 4, 2), (287, .iaload, 1), (288, .aload_n 0, 1), (289, .getfield 93, 3), (292, .iload 4, 2), (294, .iaload, 1), (295, .invokevirtual 217, 3), (298, .ifCond .eq 7, 3), (301, .iconst 2, 1), (302, .goto 10, 3), (305, .aload_n 0, 1), (306, .iload_n 2, 1), (307, .iload 4, 2), (309, .invokevirtual 230, 3), (312, .istore 5, 2), (314, .iload_n 3, 1), (315, .iconst 2, 1), (316, .if_icmp .ne 8, 3), (319, .iload 5, 2), (321, .goto 4, 3), (324, .iload_n 3, 1), (325, .istore_n 3, 1), (326, .iload 5, 2), (328, .iconst 2, 1), (329, .if_icmp .eq 23, 3), (332, .iload 5, 2), (334, .iload_n 3, 1), (335, .if_icmp .eq 17, 3), (338, .aload_n 0, 1), (339, .iload_n 1, 1), (340, .iload 4, 2), (342, .iload 4, 2), (344, .bipush 12, 2), (346, .iload_n 2, 1), (347, .iadd, 1), (348, .iconst 5, 1), (349, .invokevirtual 223, 3), (352, .iinc 4 1, 3), (355, .goto (-84), 3), (358, .iinc 2 1, 3), (361, .goto (-103), 3), (364, .return_, 1)]
theorem t_X10_findsAll_ok : dec_ok cX10_findsAll t_X10_findsAll = true := by decide +kernel
theorem dX10_findsAll_0 : decode cX10_findsAll 0 = .ok (.aload_n 0, 1) := dec_of t_X10_findsAll_ok 0 rfl
theorem dX10_findsAll_1 : decode cX10_findsAll 1 = .ok (.invokevirtual 208, 3) := dec_of t_X10_findsAll_ok 1 rfl
theorem dX10_findsAll_4 : decode cX10_findsAll 4 = .ok (.aload_n 0, 1) := dec_of t_X10_findsAll_ok 2 rfl
theorem dX10_findsAll_5 : decode cX10_findsAll 5 = .ok (.iconst 0, 1) := dec_of t_X10_findsAll_ok 3 rfl
theorem dX10_findsAll_6 : decode cX10_findsAll 6 = .ok (.putfield 205, 3) := dec_of t_X10_findsAll_ok 4 rfl
theorem dX10_findsAll_9 : decode cX10_findsAll 9 = .ok (.iconst 0, 1) := dec_of t_X10_findsAll_ok 5 rfl
theorem dX10_findsAll_10 : decode cX10_findsAll 10 = .ok (.istore_n 2, 1) := dec_of t_X10_findsAll_ok 6 rfl
theorem dX10_findsAll_11 : decode cX10_findsAll 11 = .ok (.iload_n 2, 1) := dec_of t_X10_findsAll_ok 7 rfl
theorem dX10_findsAll_12 : decode cX10_findsAll 12 = .ok (.aload_n 0, 1) := dec_of t_X10_findsAll_ok 8 rfl
theorem dX10_findsAll_13 : decode cX10_findsAll 13 = .ok (.getfield 135, 3) := dec_of t_X10_findsAll_ok 9 rfl
theorem dX10_findsAll_16 : decode cX10_findsAll 16 = .ok (.if_icmp .ge 172, 3) := dec_of t_X10_findsAll_ok 10 rfl
theorem dX10_findsAll_19 : decode cX10_findsAll 19 = .ok (.iconst 0, 1) := dec_of t_X10_findsAll_ok 11 rfl
theorem dX10_findsAll_20 : decode cX10_findsAll 20 = .ok (.istore_n 3, 1) := dec_of t_X10_findsAll_ok 12 rfl
theorem dX10_findsAll_21 : decode cX10_findsAll 21 = .ok (.iload_n 3, 1) := dec_of t_X10_findsAll_ok 13 rfl
theorem dX10_findsAll_22 : decode cX10_findsAll 22 = .ok (.aload_n 0, 1) := dec_of t_X10_findsAll_ok 14 rfl
theorem dX10_findsAll_23 : decode cX10_findsAll 23 = .ok (.getfield 194, 3) := dec_of t_X10_findsAll_ok 15 rfl
theorem dX10_findsAll_26 : decode cX10_findsAll 26 = .ok (.if_icmp .ge 156, 3) := dec_of t_X10_findsAll_ok 16 rfl
theorem dX10_findsAll_29 : decode cX10_findsAll 29 = .ok (.aload_n 0, 1) := dec_of t_X10_findsAll_ok 17 rfl
theorem dX10_findsAll_30 : decode cX10_findsAll 30 = .ok (.getfield 66, 3) := dec_of t_X10_findsAll_ok 18 rfl
theorem dX10_findsAll_33 : decode cX10_findsAll 33 = .ok (.iload_n 1, 1) := dec_of t_X10_findsAll_ok 19 rfl
theorem dX10_findsAll_34 : decode cX10_findsAll 34 = .ok (.bipush 12, 2) := dec_of t_X10_findsAll_ok 20 rfl
theorem dX10_findsAll_36 : decode cX10_findsAll 36 = .ok (.imul, 1) := dec_of t_X10_findsAll_ok 21 rfl
theorem dX10_findsAll_37 : decode cX10_findsAll 37 = .ok (.iload_n 2, 1) := dec_of t_X10_findsAll_ok 22 rfl
theorem dX10_findsAll_38 : decode cX10_findsAll 38 = .ok (.iadd, 1) := dec_of t_X10_findsAll_ok 23 rfl
theorem dX10_findsAll_39 : decode cX10_findsAll 39 = .ok (.baload, 1) := dec_of t_X10_findsAll_ok 24 rfl
theorem dX10_findsAll_40 : decode cX10_findsAll 40 = .ok (.ifCond .ne 142, 3) := dec_of t_X10_findsAll_ok 25 rfl
theorem dX10_findsAll_43 : decode cX10_findsAll 43 = .ok (.aload_n 0, 1) := dec_of t_X10_findsAll_ok 26 rfl
theorem dX10_findsAll_44 : decode cX10_findsAll 44 = .ok (.iload_n 2, 1) := dec_of t_X10_findsAll_ok 27 rfl
theorem dX10_findsAll_45 : decode cX10_findsAll 45 = .ok (.iload_n 3, 1) := dec_of t_X10_findsAll_ok 28 rfl
theorem dX10_findsAll_46 : decode cX10_findsAll 46 = .ok (.invokevirtual 211, 3) := dec_of t_X10_findsAll_ok 29 rfl
theorem dX10_findsAll_49 : decode cX10_findsAll 49 = .ok (.ifCond .eq 127, 3) := dec_of t_X10_findsAll_ok 30 rfl
theorem dX10_findsAll_52 : decode cX10_findsAll 52 = .ok (.iload_n 3, 1) := dec_of t_X10_findsAll_ok 31 rfl
theorem dX10_findsAll_53 : decode cX10_findsAll 53 = .ok (.aload_n 0, 1) := dec_of t_X10_findsAll_ok 32 rfl
theorem dX10_findsAll_54 : decode cX10_findsAll 54 = .ok (.getfield 20, 3) := dec_of t_X10_findsAll_ok 33 rfl
theorem dX10_findsAll_57 : decode cX10_findsAll 57 = .ok (.iload_n 2, 1) := dec_of t_X10_findsAll_ok 34 rfl
theorem dX10_findsAll_58 : decode cX10_findsAll 58 = .ok (.iaload, 1) := dec_of t_X10_findsAll_ok 35 rfl
theorem dX10_findsAll_59 : decode cX10_findsAll 59 = .ok (.iadd, 1) := dec_of t_X10_findsAll_ok 36 rfl
theorem dX10_findsAll_60 : decode cX10_findsAll 60 = .ok (.iconst 1, 1) := dec_of t_X10_findsAll_ok 37 rfl
theorem dX10_findsAll_61 : decode cX10_findsAll 61 = .ok (.isub, 1) := dec_of t_X10_findsAll_ok 38 rfl
theorem dX10_findsAll_62 : decode cX10_findsAll 62 = .ok (.istore 4, 2) := dec_of t_X10_findsAll_ok 39 rfl
theorem dX10_findsAll_64 : decode cX10_findsAll 64 = .ok (.aload_n 0, 1) := dec_of t_X10_findsAll_ok 40 rfl
theorem dX10_findsAll_65 : decode cX10_findsAll 65 = .ok (.getfield 32, 3) := dec_of t_X10_findsAll_ok 41 rfl
theorem dX10_findsAll_68 : decode cX10_findsAll 68 = .ok (.iload_n 2, 1) := dec_of t_X10_findsAll_ok 42 rfl
theorem dX10_findsAll_69 : decode cX10_findsAll 69 = .ok (.caload, 1) := dec_of t_X10_findsAll_ok 43 rfl
theorem dX10_findsAll_70 : decode cX10_findsAll 70 = .ok (.bipush 97, 2) := dec_of t_X10_findsAll_ok 44 rfl
theorem dX10_findsAll_72 : decode cX10_findsAll 72 = .ok (.if_icmp .eq 27, 3) := dec_of t_X10_findsAll_ok 45 rfl
theorem dX10_findsAll_75 : decode cX10_findsAll 75 = .ok (.aload_n 0, 1) := dec_of t_X10_findsAll_ok 46 rfl
theorem dX10_findsAll_76 : decode cX10_findsAll 76 = .ok (.iload_n 3, 1) := dec_of t_X10_findsAll_ok 47 rfl
theorem dX10_findsAll_77 : decode cX10_findsAll 77 = .ok (.invokevirtual 214, 3) := dec_of t_X10_findsAll_ok 48 rfl
theorem dX10_findsAll_80 : decode cX10_findsAll 80 = .ok (.aload_n 0, 1) := dec_of t_X10_findsAll_ok 49 rfl
theorem dX10_findsAll_81 : decode cX10_findsAll 81 = .ok (.getfield 32, 3) := dec_of t_X10_findsAll_ok 50 rfl
theorem dX10_findsAll_84 : decode cX10_findsAll 84 = .ok (.iload_n 2, 1) := dec_of t_X10_findsAll_ok 51 rfl
theorem dX10_findsAll_85 : decode cX10_findsAll 85 = .ok (.caload, 1) := dec_of t_X10_findsAll_ok 52 rfl
theorem dX10_findsAll_86 : decode cX10_findsAll 86 = .ok (.bipush 115, 2) := dec_of t_X10_findsAll_ok 53 rfl
theorem dX10_findsAll_88 : decode cX10_findsAll 88 = .ok (.if_icmp .ne 7, 3) := dec_of t_X10_findsAll_ok 54 rfl
theorem dX10_findsAll_91 : decode cX10_findsAll 91 = .ok (.iconst 1, 1) := dec_of t_X10_findsAll_ok 55 rfl
theorem dX10_findsAll_92 : decode cX10_findsAll 92 = .ok (.goto 4, 3) := dec_of t_X10_findsAll_ok 56 rfl
theorem dX10_findsAll_95 : decode cX10_findsAll 95 = .ok (.iconst 0, 1) := dec_of t_X10_findsAll_ok 57 rfl
theorem dX10_findsAll_96 : decode cX10_findsAll 96 = .ok (.if_icmp .ne 7, 3) := dec_of t_X10_findsAll_ok 58 rfl
theorem dX10_findsAll_99 : decode cX10_findsAll 99 = .ok (.iconst 1, 1) := dec_of t_X10_findsAll_ok 59 rfl
theorem dX10_findsAll_100 : decode cX10_findsAll 100 = .ok (.goto 4, 3) := dec_of t_X10_findsAll_ok 60 rfl
theorem dX10_findsAll_103 : decode cX10_findsAll 103 = .ok (.iconst 0, 1) := dec_of t_X10_findsAll_ok 61 rfl
theorem dX10_findsAll_104 : decode cX10_findsAll 104 = .ok (.istore 5, 2) := dec_of t_X10_findsAll_ok 62 rfl
theorem dX10_findsAll_106 : decode cX10_findsAll 106 = .ok (.iload 5, 2) := dec_of t_X10_findsAll_ok 63 rfl
theorem dX10_findsAll_108 : decode cX10_findsAll 108 = .ok (.ifCond .eq 36, 3) := dec_of t_X10_findsAll_ok 64 rfl
theorem dX10_findsAll_111 : decode cX10_findsAll 111 = .ok (.aload_n 0, 1) := dec_of t_X10_findsAll_ok 65 rfl
theorem dX10_findsAll_112 : decode cX10_findsAll 112 = .ok (.getfield 35, 3) := dec_of t_X10_findsAll_ok 66 rfl
theorem dX10_findsAll_115 : decode cX10_findsAll 115 = .ok (.iload_n 2, 1) := dec_of t_X10_findsAll_ok 67 rfl
theorem dX10_findsAll_116 : decode cX10_findsAll 116 = .ok (.baload, 1) := dec_of t_X10_findsAll_ok 68 rfl
theorem dX10_findsAll_117 : decode cX10_findsAll 117 = .ok (.ifCond .ne 23, 3) := dec_of t_X10_findsAll_ok 69 rfl
theorem dX10_findsAll_120 : decode cX10_findsAll 120 = .ok (.aload_n 0, 1) := dec_of t_X10_findsAll_ok 70 rfl
theorem dX10_findsAll_121 : decode cX10_findsAll 121 = .ok (.aload_n 0, 1) := dec_of t_X10_findsAll_ok 71 rfl
theorem dX10_findsAll_122 : decode cX10_findsAll 122 = .ok (.getfield 90, 3) := dec_of t_X10_findsAll_ok 72 rfl
theorem dX10_findsAll_125 : decode cX10_findsAll 125 = .ok (.iload_n 3, 1) := dec_of t_X10_findsAll_ok 73 rfl
theorem dX10_findsAll_126 : decode cX10_findsAll 126 = .ok (.iaload, 1) := dec_of t_X10_findsAll_ok 74 rfl
theorem dX10_findsAll_127 : decode cX10_findsAll 127 = .ok (.aload_n 0, 1) := dec_of t_X10_findsAll_ok 75 rfl
theorem dX10_findsAll_128 : decode cX10_findsAll 128 = .ok (.getfield 93, 3) := dec_of t_X10_findsAll_ok 76 rfl
theorem dX10_findsAll_131 : decode cX10_findsAll 131 = .ok (.iload 4, 2) := dec_of t_X10_findsAll_ok 77 rfl
theorem dX10_findsAll_133 : decode cX10_findsAll 133 = .ok (.iaload, 1) := dec_of t_X10_findsAll_ok 78 rfl
theorem dX10_findsAll_134 : decode cX10_findsAll 134 = .ok (.invokevirtual 217, 3) := dec_of t_X10_findsAll_ok 79 rfl
theorem dX10_findsAll_137 : decode cX10_findsAll 137 = .ok (.ifCond .ne 7, 3) := dec_of t_X10_findsAll_ok 80 rfl
theorem dX10_findsAll_140 : decode cX10_findsAll 140 = .ok (.iconst 1, 1) := dec_of t_X10_findsAll_ok 81 rfl
theorem dX10_findsAll_141 : decode cX10_findsAll 141 = .ok (.goto 4, 3) := dec_of t_X10_findsAll_ok 82 rfl
theorem dX10_findsAll_144 : decode cX10_findsAll 144 = .ok (.iconst 0, 1) := dec_of t_X10_findsAll_ok 83 rfl
theorem dX10_findsAll_145 : decode cX10_findsAll 145 = .ok (.istore 5, 2) := dec_of t_X10_findsAll_ok 84 rfl
theorem dX10_findsAll_147 : decode cX10_findsAll 147 = .ok (.iload 5, 2) := dec_of t_X10_findsAll_ok 85 rfl
theorem dX10_findsAll_149 : decode cX10_findsAll 149 = .ok (.ifCond .eq 27, 3) := dec_of t_X10_findsAll_ok 86 rfl
theorem dX10_findsAll_152 : decode cX10_findsAll 152 = .ok (.aload_n 0, 1) := dec_of t_X10_findsAll_ok 87 rfl
theorem dX10_findsAll_153 : decode cX10_findsAll 153 = .ok (.iload_n 2, 1) := dec_of t_X10_findsAll_ok 88 rfl
theorem dX10_findsAll_154 : decode cX10_findsAll 154 = .ok (.iload_n 3, 1) := dec_of t_X10_findsAll_ok 89 rfl
theorem dX10_findsAll_155 : decode cX10_findsAll 155 = .ok (.invokevirtual 220, 3) := dec_of t_X10_findsAll_ok 90 rfl
theorem dX10_findsAll_158 : decode cX10_findsAll 158 = .ok (.ifCond .ne 18, 3) := dec_of t_X10_findsAll_ok 91 rfl
theorem dX10_findsAll_161 : decode cX10_findsAll 161 = .ok (.aload_n 0, 1) := dec_of t_X10_findsAll_ok 92 rfl
theorem dX10_findsAll_162 : decode cX10_findsAll 162 = .ok (.iload_n 1, 1) := dec_of t_X10_findsAll_ok 93 rfl
theorem dX10_findsAll_163 : decode cX10_findsAll 163 = .ok (.iload_n 3, 1) := dec_of t_X10_findsAll_ok 94 rfl
theorem dX10_findsAll_164 : decode cX10_findsAll 164 = .ok (.iload 4, 2) := dec_of t_X10_findsAll_ok 95 rfl
theorem dX10_findsAll_166 : decode cX10_findsAll 166 = .ok (.iload_n 2, 1) := dec_of t_X10_findsAll_ok 96 rfl
theorem dX10_findsAll_167 : decode cX10_findsAll 167 = .ok (.aload_n 0, 1) := dec_of t_X10_findsAll_ok 97 rfl
theorem dX10_findsAll_168 : decode cX10_findsAll 168 = .ok (.iload_n 1, 1) := dec_of t_X10_findsAll_ok 98 rfl
theorem dX10_findsAll_169 : decode cX10_findsAll 169 = .ok (.iload_n 2, 1) := dec_of t_X10_findsAll_ok 99 rfl
theorem dX10_findsAll_170 : decode cX10_findsAll 170 = .ok (.invokevirtual 190, 3) := dec_of t_X10_findsAll_ok 100 rfl
theorem dX10_findsAll_173 : decode cX10_findsAll 173 = .ok (.invokevirtual 223, 3) := dec_of t_X10_findsAll_ok 101 rfl
theorem dX10_findsAll_176 : decode cX10_findsAll 176 = .ok (.iinc 3 1, 3) := dec_of t_X10_findsAll_ok 102 rfl
theorem dX10_findsAll_179 : decode cX10_findsAll 179 = .ok (.goto (-158), 3) := dec_of t_X10_findsAll_ok 103 rfl
theorem dX10_findsAll_182 : decode cX10_findsAll 182 = .ok (.iinc 2 1, 3) := dec_of t_X10_findsAll_ok 104 rfl
theorem dX10_findsAll_185 : decode cX10_findsAll 185 = .ok (.goto (-174), 3) := dec_of t_X10_findsAll_ok 105 rfl
theorem dX10_findsAll_188 : decode cX10_findsAll 188 = .ok (.iconst 0, 1) := dec_of t_X10_findsAll_ok 106 rfl
theorem dX10_findsAll_189 : decode cX10_findsAll 189 = .ok (.istore_n 2, 1) := dec_of t_X10_findsAll_ok 107 rfl
theorem dX10_findsAll_190 : decode cX10_findsAll 190 = .ok (.iload_n 2, 1) := dec_of t_X10_findsAll_ok 108 rfl
theorem dX10_findsAll_191 : decode cX10_findsAll 191 = .ok (.aload_n 0, 1) := dec_of t_X10_findsAll_ok 109 rfl
theorem dX10_findsAll_192 : decode cX10_findsAll 192 = .ok (.getfield 194, 3) := dec_of t_X10_findsAll_ok 110 rfl
theorem dX10_findsAll_195 : decode cX10_findsAll 195 = .ok (.if_icmp .ge 61, 3) := dec_of t_X10_findsAll_ok 111 rfl
theorem dX10_findsAll_198 : decode cX10_findsAll 198 = .ok (.aload_n 0, 1) := dec_of t_X10_findsAll_ok 112 rfl
theorem dX10_findsAll_199 : decode cX10_findsAll 199 = .ok (.getfield 96, 3) := dec_of t_X10_findsAll_ok 113 rfl
theorem dX10_findsAll_202 : decode cX10_findsAll 202 = .ok (.iload_n 2, 1) := dec_of t_X10_findsAll_ok 114 rfl
theorem dX10_findsAll_203 : decode cX10_findsAll 203 = .ok (.baload, 1) := dec_of t_X10_findsAll_ok 115 rfl
theorem dX10_findsAll_204 : decode cX10_findsAll 204 = .ok (.ifCond .ne 46, 3) := dec_of t_X10_findsAll_ok 116 rfl
theorem dX10_findsAll_207 : decode cX10_findsAll 207 = .ok (.aload_n 0, 1) := dec_of t_X10_findsAll_ok 117 rfl
theorem dX10_findsAll_208 : decode cX10_findsAll 208 = .ok (.iload_n 2, 1) := dec_of t_X10_findsAll_ok 118 rfl
theorem dX10_findsAll_209 : decode cX10_findsAll 209 = .ok (.invokevirtual 227, 3) := dec_of t_X10_findsAll_ok 119 rfl
theorem dX10_findsAll_212 : decode cX10_findsAll 212 = .ok (.aload_n 0, 1) := dec_of t_X10_findsAll_ok 120 rfl
theorem dX10_findsAll_213 : decode cX10_findsAll 213 = .ok (.getfield 72, 3) := dec_of t_X10_findsAll_ok 121 rfl
theorem dX10_findsAll_216 : decode cX10_findsAll 216 = .ok (.iload_n 1, 1) := dec_of t_X10_findsAll_ok 122 rfl
theorem dX10_findsAll_217 : decode cX10_findsAll 217 = .ok (.iaload, 1) := dec_of t_X10_findsAll_ok 123 rfl
theorem dX10_findsAll_218 : decode cX10_findsAll 218 = .ok (.if_icmp .ge 32, 3) := dec_of t_X10_findsAll_ok 124 rfl
theorem dX10_findsAll_221 : decode cX10_findsAll 221 = .ok (.aload_n 0, 1) := dec_of t_X10_findsAll_ok 125 rfl
theorem dX10_findsAll_222 : decode cX10_findsAll 222 = .ok (.aload_n 0, 1) := dec_of t_X10_findsAll_ok 126 rfl
theorem dX10_findsAll_223 : decode cX10_findsAll 223 = .ok (.getfield 90, 3) := dec_of t_X10_findsAll_ok 127 rfl
theorem dX10_findsAll_226 : decode cX10_findsAll 226 = .ok (.iload_n 2, 1) := dec_of t_X10_findsAll_ok 128 rfl
theorem dX10_findsAll_227 : decode cX10_findsAll 227 = .ok (.iaload, 1) := dec_of t_X10_findsAll_ok 129 rfl
theorem dX10_findsAll_228 : decode cX10_findsAll 228 = .ok (.aload_n 0, 1) := dec_of t_X10_findsAll_ok 130 rfl
theorem dX10_findsAll_229 : decode cX10_findsAll 229 = .ok (.getfield 93, 3) := dec_of t_X10_findsAll_ok 131 rfl
theorem dX10_findsAll_232 : decode cX10_findsAll 232 = .ok (.iload_n 2, 1) := dec_of t_X10_findsAll_ok 132 rfl
theorem dX10_findsAll_233 : decode cX10_findsAll 233 = .ok (.iaload, 1) := dec_of t_X10_findsAll_ok 133 rfl
theorem dX10_findsAll_234 : decode cX10_findsAll 234 = .ok (.invokevirtual 217, 3) := dec_of t_X10_findsAll_ok 134 rfl
theorem dX10_findsAll_237 : decode cX10_findsAll 237 = .ok (.ifCond .ne 13, 3) := dec_of t_X10_findsAll_ok 135 rfl
theorem dX10_findsAll_240 : decode cX10_findsAll 240 = .ok (.aload_n 0, 1) := dec_of t_X10_findsAll_ok 136 rfl
theorem dX10_findsAll_241 : decode cX10_findsAll 241 = .ok (.iload_n 1, 1) := dec_of t_X10_findsAll_ok 137 rfl
theorem dX10_findsAll_242 : decode cX10_findsAll 242 = .ok (.iload_n 2, 1) := dec_of t_X10_findsAll_ok 138 rfl
theorem dX10_findsAll_243 : decode cX10_findsAll 243 = .ok (.iload_n 2, 1) := dec_of t_X10_findsAll_ok 139 rfl
theorem dX10_findsAll_244 : decode cX10_findsAll 244 = .ok (.bipush 20, 2) := dec_of t_X10_findsAll_ok 140 rfl
theorem dX10_findsAll_246 : decode cX10_findsAll 246 = .ok (.iconst 1, 1) := dec_of t_X10_findsAll_ok 141 rfl
theorem dX10_findsAll_247 : decode cX10_findsAll 247 = .ok (.invokevirtual 223, 3) := dec_of t_X10_findsAll_ok 142 rfl
theorem dX10_findsAll_250 : decode cX10_findsAll 250 = .ok (.iinc 2 1, 3) := dec_of t_X10_findsAll_ok 143 rfl
theorem dX10_findsAll_253 : decode cX10_findsAll 253 = .ok (.goto (-63), 3) := dec_of t_X10_findsAll_ok 144 rfl
theorem dX10_findsAll_256 : decode cX10_findsAll 256 = .ok (.iconst 0, 1) := dec_of t_X10_findsAll_ok 145 rfl
theorem dX10_findsAll_257 : decode cX10_findsAll 257 = .ok (.istore_n 2, 1) := dec_of t_X10_findsAll_ok 146 rfl
theorem dX10_findsAll_258 : decode cX10_findsAll 258 = .ok (.iload_n 2, 1) := dec_of t_X10_findsAll_ok 147 rfl
theorem dX10_findsAll_259 : decode cX10_findsAll 259 = .ok (.aload_n 0, 1) := dec_of t_X10_findsAll_ok 148 rfl
theorem dX10_findsAll_260 : decode cX10_findsAll 260 = .ok (.getfield 187, 3) := dec_of t_X10_findsAll_ok 149 rfl
theorem dX10_findsAll_263 : decode cX10_findsAll 263 = .ok (.if_icmp .ge 101, 3) := dec_of t_X10_findsAll_ok 150 rfl
theorem dX10_findsAll_266 : decode cX10_findsAll 266 = .ok (.iconst 2, 1) := dec_of t_X10_findsAll_ok 151 rfl
theorem dX10_findsAll_267 : decode cX10_findsAll 267 = .ok (.istore_n 3, 1) := dec_of t_X10_findsAll_ok 152 rfl
theorem dX10_findsAll_268 : decode cX10_findsAll 268 = .ok (.iconst 0, 1) := dec_of t_X10_findsAll_ok 153 rfl
theorem dX10_findsAll_269 : decode cX10_findsAll 269 = .ok (.istore 4, 2) := dec_of t_X10_findsAll_ok 154 rfl
theorem dX10_findsAll_271 : decode cX10_findsAll 271 = .ok (.iload 4, 2) := dec_of t_X10_findsAll_ok 155 rfl
theorem dX10_findsAll_273 : decode cX10_findsAll 273 = .ok (.aload_n 0, 1) := dec_of t_X10_findsAll_ok 156 rfl
theorem dX10_findsAll_274 : decode cX10_findsAll 274 = .ok (.getfield 194, 3) := dec_of t_X10_findsAll_ok 157 rfl
theorem dX10_findsAll_277 : decode cX10_findsAll 277 = .ok (.if_icmp .ge 81, 3) := dec_of t_X10_findsAll_ok 158 rfl
theorem dX10_findsAll_280 : decode cX10_findsAll 280 = .ok (.aload_n 0, 1) := dec_of t_X10_findsAll_ok 159 rfl
theorem dX10_findsAll_281 : decode cX10_findsAll 281 = .ok (.aload_n 0, 1) := dec_of t_X10_findsAll_ok 160 rfl
theorem dX10_findsAll_282 : decode cX10_findsAll 282 = .ok (.getfield 90, 3) := dec_of t_X10_findsAll_ok 161 rfl
theorem dX10_findsAll_285 : decode cX10_findsAll 285 = .ok (.iload 4, 2) := dec_of t_X10_findsAll_ok 162 rfl
theorem dX10_findsAll_287 : decode cX10_findsAll 287 = .ok (.iaload, 1) := dec_of t_X10_findsAll_ok 163 rfl
theorem dX10_findsAll_288 : decode cX10_findsAll 288 = .ok (.aload_n 0, 1) := dec_of t_X10_findsAll_ok 164 rfl
theorem dX10_findsAll_289 : decode cX10_findsAll 289 = .ok (.getfield 93, 3) := dec_of t_X10_findsAll_ok 165 rfl
theorem dX10_findsAll_292 : decode cX10_findsAll 292 = .ok (.iload 4, 2) := dec_of t_X10_findsAll_ok 166 rfl
theorem dX10_findsAll_294 : decode cX10_findsAll 294 = .ok (.iaload, 1) := dec_of t_X10_findsAll_ok 167 rfl
theorem dX10_findsAll_295 : decode cX10_findsAll 295 = .ok (.invokevirtual 217, 3) := dec_of t_X10_findsAll_ok 168 rfl
theorem dX10_findsAll_298 : decode cX10_findsAll 298 = .ok (.ifCond .eq 7, 3) := dec_of t_X10_findsAll_ok 169 rfl
theorem dX10_findsAll_301 : decode cX10_findsAll 301 = .ok (.iconst 2, 1) := dec_of t_X10_findsAll_ok 170 rfl
theorem dX10_findsAll_302 : decode cX10_findsAll 302 = .ok (.goto 10, 3) := dec_of t_X10_findsAll_ok 171 rfl
theorem dX10_findsAll_305 : decode cX10_findsAll 305 = .ok (.aload_n 0, 1) := dec_of t_X10_findsAll_ok 172 rfl
theorem dX10_findsAll_306 : decode cX10_findsAll 306 = .ok (.iload_n 2, 1) := dec_of t_X10_findsAll_ok 173 rfl
theorem dX10_findsAll_307 : decode cX10_findsAll 307 = .ok (.iload 4, 2) := dec_of t_X10_findsAll_ok 174 rfl
theorem dX10_findsAll_309 : decode cX10_findsAll 309 = .ok (.invokevirtual 230, 3) := dec_of t_X10_findsAll_ok 175 rfl
theorem dX10_findsAll_312 : decode cX10_findsAll 312 = .ok (.istore 5, 2) := dec_of t_X10_findsAll_ok 176 rfl
theorem dX10_findsAll_314 : decode cX10_findsAll 314 = .ok (.iload_n 3, 1) := dec_of t_X10_findsAll_ok 177 rfl
theorem dX10_findsAll_315 : decode cX10_findsAll 315 = .ok (.iconst 2, 1) := dec_of t_X10_findsAll_ok 178 rfl
theorem dX10_findsAll_316 : decode cX10_findsAll 316 = .ok (.if_icmp .ne 8, 3) := dec_of t_X10_findsAll_ok 179 rfl
theorem dX10_findsAll_319 : decode cX10_findsAll 319 = .ok (.iload 5, 2) := dec_of t_X10_findsAll_ok 180 rfl
theorem dX10_findsAll_321 : decode cX10_findsAll 321 = .ok (.goto 4, 3) := dec_of t_X10_findsAll_ok 181 rfl
theorem dX10_findsAll_324 : decode cX10_findsAll 324 = .ok (.iload_n 3, 1) := dec_of t_X10_findsAll_ok 182 rfl
theorem dX10_findsAll_325 : decode cX10_findsAll 325 = .ok (.istore_n 3, 1) := dec_of t_X10_findsAll_ok 183 rfl
theorem dX10_findsAll_326 : decode cX10_findsAll 326 = .ok (.iload 5, 2) := dec_of t_X10_findsAll_ok 184 rfl
theorem dX10_findsAll_328 : decode cX10_findsAll 328 = .ok (.iconst 2, 1) := dec_of t_X10_findsAll_ok 185 rfl
theorem dX10_findsAll_329 : decode cX10_findsAll 329 = .ok (.if_icmp .eq 23, 3) := dec_of t_X10_findsAll_ok 186 rfl
theorem dX10_findsAll_332 : decode cX10_findsAll 332 = .ok (.iload 5, 2) := dec_of t_X10_findsAll_ok 187 rfl
theorem dX10_findsAll_334 : decode cX10_findsAll 334 = .ok (.iload_n 3, 1) := dec_of t_X10_findsAll_ok 188 rfl
theorem dX10_findsAll_335 : decode cX10_findsAll 335 = .ok (.if_icmp .eq 17, 3) := dec_of t_X10_findsAll_ok 189 rfl
theorem dX10_findsAll_338 : decode cX10_findsAll 338 = .ok (.aload_n 0, 1) := dec_of t_X10_findsAll_ok 190 rfl
theorem dX10_findsAll_339 : decode cX10_findsAll 339 = .ok (.iload_n 1, 1) := dec_of t_X10_findsAll_ok 191 rfl
theorem dX10_findsAll_340 : decode cX10_findsAll 340 = .ok (.iload 4, 2) := dec_of t_X10_findsAll_ok 192 rfl
theorem dX10_findsAll_342 : decode cX10_findsAll 342 = .ok (.iload 4, 2) := dec_of t_X10_findsAll_ok 193 rfl
theorem dX10_findsAll_344 : decode cX10_findsAll 344 = .ok (.bipush 12, 2) := dec_of t_X10_findsAll_ok 194 rfl
theorem dX10_findsAll_346 : decode cX10_findsAll 346 = .ok (.iload_n 2, 1) := dec_of t_X10_findsAll_ok 195 rfl
theorem dX10_findsAll_347 : decode cX10_findsAll 347 = .ok (.iadd, 1) := dec_of t_X10_findsAll_ok 196 rfl
theorem dX10_findsAll_348 : decode cX10_findsAll 348 = .ok (.iconst 5, 1) := dec_of t_X10_findsAll_ok 197 rfl
theorem dX10_findsAll_349 : decode cX10_findsAll 349 = .ok (.invokevirtual 223, 3) := dec_of t_X10_findsAll_ok 198 rfl
theorem dX10_findsAll_352 : decode cX10_findsAll 352 = .ok (.iinc 4 1, 3) := dec_of t_X10_findsAll_ok 199 rfl
theorem dX10_findsAll_355 : decode cX10_findsAll 355 = .ok (.goto (-84), 3) := dec_of t_X10_findsAll_ok 200 rfl
theorem dX10_findsAll_358 : decode cX10_findsAll 358 = .ok (.iinc 2 1, 3) := dec_of t_X10_findsAll_ok 201 rfl
theorem dX10_findsAll_361 : decode cX10_findsAll 361 = .ok (.goto (-103), 3) := dec_of t_X10_findsAll_ok 202 rfl
theorem dX10_findsAll_364 : decode cX10_findsAll 364 = .ok (.return_, 1) := dec_of t_X10_findsAll_ok 203 rfl
def t_X10_findings : List (Nat × Instr × Nat) := [(0, .aload_n 0, 1), (1, .iload_n 1, 1), (2, .invokevirtual 248, 3), (5, .ifCond .eq 5, 3), (8, .iconst 0, 1), (9, .ireturn, 1), (10, .aload_n 0, 1), (11, .iload_n 1, 1), (12, .invokevirtual 251, 3), (15, .aload_n 0, 1), (16, .getfield 236, 3), (19, .ireturn, 1)]
theorem t_X10_findings_ok : dec_ok cX10_findings t_X10_findings = true := by decide +kernel
theorem dX10_findings_0 : decode cX10_findings 0 = .ok (.aload_n 0, 1) := dec_of t_X10_findings_ok 0 rfl
theorem dX10_findings_1 : decode cX10_findings 1 = .ok (.iload_n 1, 1) := dec_of t_X10_findings_ok 1 rfl
theorem dX10_findings_2 : decode cX10_findings 2 = .ok (.invokevirtual 248, 3) := dec_of t_X10_findings_ok 2 rfl
theorem dX10_findings_5 : decode cX10_findings 5 = .ok (.ifCond .eq 5, 3) := dec_of t_X10_findings_ok 3 rfl
theorem dX10_findings_8 : decode cX10_findings 8 = .ok (.iconst 0, 1) := dec_of t_X10_findings_ok 4 rfl
theorem dX10_findings_9 : decode cX10_findings 9 = .ok (.ireturn, 1) := dec_of t_X10_findings_ok 5 rfl
theorem dX10_findings_10 : decode cX10_findings 10 = .ok (.aload_n 0, 1) := dec_of t_X10_findings_ok 6 rfl
theorem dX10_findings_11 : decode cX10_findings 11 = .ok (.iload_n 1, 1) := dec_of t_X10_findings_ok 7 rfl
theorem dX10_findings_12 : decode cX10_findings 12 = .ok (.invokevirtual 251, 3) := dec_of t_X10_findings_ok 8 rfl
theorem dX10_findings_15 : decode cX10_findings 15 = .ok (.aload_n 0, 1) := dec_of t_X10_findings_ok 9 rfl
theorem dX10_findings_16 : decode cX10_findings 16 = .ok (.getfield 236, 3) := dec_of t_X10_findings_ok 10 rfl
theorem dX10_findings_19 : decode cX10_findings 19 = .ok (.ireturn, 1) := dec_of t_X10_findings_ok 11 rfl
def t_X10_apply : List (Nat × Instr × Nat) := [(0, .aload_n 0, 1), (1, .iload_n 1, 1), (2, .invokestatic 131, 3), (5, .ifCond .eq 17, 3), (8, .iload 4, 2), (10, .iconst 0, 1), (11, .iconst 3, 1), (12, .invokestatic 127, 3), (15, .ifCond .eq 7, 3), (18, .iconst 0, 1), (19, .goto 4, 3), (22, .iconst 1, 1), (23, .putfield 123, 3), (26, .aload_n 0, 1), (27, .getfield 123, 3), (30, .ifCond .le 5, 3), (33, .iconst 0, 1), (34, .ireturn, 1), (35, .aload_n 0, 1), (36, .aload_n 0, 1), (37, .iload_n 1, 1), (38, .iload_n 2, 1), (39, .iload_n 3, 1), (40, .invokevirtual 270, 3), (43, .ifCond .eq 7, 3), (46, .iconst 0, 1), (47, .goto 4, 3), (50, .iconst 2, 1), (51, .putfield 123, 3), (54, .aload_n 0, 1), (55, .getfield 123, 3), (58, .ifCond .le 5, 3), (61, .iconst 0, 1), (62, .ireturn, 1), (63, .aload_n 0, 1), (64, .aload_n 0, 1), (65, .getfield 117, 3), (68, .iload_n 2, 1), (69, .iaload, 1), (70, .invokevirtual 233, 3), (73, .istore 5, 2), (75, .aload_n 0, 1), (76, .getfield 108, 3), (79, .aload_n 0, 1), (80, .getfield 117, 3), (83, .iload_n 2, 1), (84, .iaload, 1), (85, .iaload, 1), (86, .iload 5, 2), (88, .isub, 1), (89, .istore 6, 2), (91, .aload_n 0, 1), (92, .aload_n 0, 1), (93, .getfield 156, 3), (96, .iload 6, 2), (98, .isub, 1), (99, .aload_n 0, 1), (100, .getfield 260, 3), (103, .iadd, 1), (104, .sipush 160, 3), (107, .if_icmp .le 7, 3), (110, .iconst 3, 1), (111, .goto 4, 3), (114, .iconst 0, 1), (115, .putfield 123, 3), (118, .aload_n 0, 1), (119, .getfield 123, 3), (122, .ifCond .le 5, 3), (125, .iconst 0, 1), (126, .ireturn, 1), (127, .iconst 0, 1), (128, .istore 7, 2), (130, .iload 7, 2), (132, .iload 6, 2), (134, .if_icmp .ge 15, 3), (137, .aload_n 0, 1), (138, .iload 5, 2), (140, .invokevirtual 171, 3), (143, .iinc 7 1, 3), (146, .goto (-16), 3), (149, .iconst 0, 1), (150, .istore 7, 2), (152, .iload 7, 2), (154, .aload_n 0, 1), (155, .getfield 260, 3), (158, .if_icmp .ge 27, 3), (161, .aload_n 0, 1), (162, .iload 5, 2), (164, .iload 7, 2), (166, .iadd, 1), (167, .aload_n 0, 1), (168, .getfield 120, 3), (171, .iload 7, 2), (173, .caload, 1), (174, .iload 4, 2), (176, .invokevirtual 167, 3), (179, .iinc 7 1, 3), (182, .goto (-30), 3), (185, .aload_n 0, 1), (186, .getfield 156, 3), (189, .ireturn, 1)]
theorem t_X10_apply_ok : dec_ok cX10_apply t_X10_apply = true := by decide +kernel
theorem dX10_apply_0 : decode cX10_apply 0 = .ok (.aload_n 0, 1) := dec_of t_X10_apply_ok 0 rfl
theorem dX10_apply_1 : decode cX10_apply 1 = .ok (.iload_n 1, 1) := dec_of t_X10_apply_ok 1 rfl
theorem dX10_apply_2 : decode cX10_apply 2 = .ok (.invokestatic 131, 3) := dec_of t_X10_apply_ok 2 rfl
theorem dX10_apply_5 : decode cX10_apply 5 = .ok (.ifCond .eq 17, 3) := dec_of t_X10_apply_ok 3 rfl
theorem dX10_apply_8 : decode cX10_apply 8 = .ok (.iload 4, 2) := dec_of t_X10_apply_ok 4 rfl
theorem dX10_apply_10 : decode cX10_apply 10 = .ok (.iconst 0, 1) := dec_of t_X10_apply_ok 5 rfl
theorem dX10_apply_11 : decode cX10_apply 11 = .ok (.iconst 3, 1) := dec_of t_X10_apply_ok 6 rfl
theorem dX10_apply_12 : decode cX10_apply 12 = .ok (.invokestatic 127, 3) := dec_of t_X10_apply_ok 7 rfl
theorem dX10_apply_15 : decode cX10_apply 15 = .ok (.ifCond .eq 7, 3) := dec_of t_X10_apply_ok 8 rfl
theorem dX10_apply_18 : decode cX10_apply 18 = .ok (.iconst 0, 1) := dec_of t_X10_apply_ok 9 rfl
theorem dX10_apply_19 : decode cX10_apply 19 = .ok (.goto 4, 3) := dec_of t_X10_apply_ok 10 rfl
theorem dX10_apply_22 : decode cX10_apply 22 = .ok (.iconst 1, 1) := dec_of t_X10_apply_ok 11 rfl
theorem dX10_apply_23 : decode cX10_apply 23 = .ok (.putfield 123, 3) := dec_of t_X10_apply_ok 12 rfl
theorem dX10_apply_26 : decode cX10_apply 26 = .ok (.aload_n 0, 1) := dec_of t_X10_apply_ok 13 rfl
theorem dX10_apply_27 : decode cX10_apply 27 = .ok (.getfield 123, 3) := dec_of t_X10_apply_ok 14 rfl
theorem dX10_apply_30 : decode cX10_apply 30 = .ok (.ifCond .le 5, 3) := dec_of t_X10_apply_ok 15 rfl
theorem dX10_apply_33 : decode cX10_apply 33 = .ok (.iconst 0, 1) := dec_of t_X10_apply_ok 16 rfl
theorem dX10_apply_34 : decode cX10_apply 34 = .ok (.ireturn, 1) := dec_of t_X10_apply_ok 17 rfl
theorem dX10_apply_35 : decode cX10_apply 35 = .ok (.aload_n 0, 1) := dec_of t_X10_apply_ok 18 rfl
theorem dX10_apply_36 : decode cX10_apply 36 = .ok (.aload_n 0, 1) := dec_of t_X10_apply_ok 19 rfl
theorem dX10_apply_37 : decode cX10_apply 37 = .ok (.iload_n 1, 1) := dec_of t_X10_apply_ok 20 rfl
theorem dX10_apply_38 : decode cX10_apply 38 = .ok (.iload_n 2, 1) := dec_of t_X10_apply_ok 21 rfl
theorem dX10_apply_39 : decode cX10_apply 39 = .ok (.iload_n 3, 1) := dec_of t_X10_apply_ok 22 rfl
theorem dX10_apply_40 : decode cX10_apply 40 = .ok (.invokevirtual 270, 3) := dec_of t_X10_apply_ok 23 rfl
theorem dX10_apply_43 : decode cX10_apply 43 = .ok (.ifCond .eq 7, 3) := dec_of t_X10_apply_ok 24 rfl
theorem dX10_apply_46 : decode cX10_apply 46 = .ok (.iconst 0, 1) := dec_of t_X10_apply_ok 25 rfl
theorem dX10_apply_47 : decode cX10_apply 47 = .ok (.goto 4, 3) := dec_of t_X10_apply_ok 26 rfl
theorem dX10_apply_50 : decode cX10_apply 50 = .ok (.iconst 2, 1) := dec_of t_X10_apply_ok 27 rfl
theorem dX10_apply_51 : decode cX10_apply 51 = .ok (.putfield 123, 3) := dec_of t_X10_apply_ok 28 rfl
theorem dX10_apply_54 : decode cX10_apply 54 = .ok (.aload_n 0, 1) := dec_of t_X10_apply_ok 29 rfl
theorem dX10_apply_55 : decode cX10_apply 55 = .ok (.getfield 123, 3) := dec_of t_X10_apply_ok 30 rfl
theorem dX10_apply_58 : decode cX10_apply 58 = .ok (.ifCond .le 5, 3) := dec_of t_X10_apply_ok 31 rfl
theorem dX10_apply_61 : decode cX10_apply 61 = .ok (.iconst 0, 1) := dec_of t_X10_apply_ok 32 rfl
theorem dX10_apply_62 : decode cX10_apply 62 = .ok (.ireturn, 1) := dec_of t_X10_apply_ok 33 rfl
theorem dX10_apply_63 : decode cX10_apply 63 = .ok (.aload_n 0, 1) := dec_of t_X10_apply_ok 34 rfl
theorem dX10_apply_64 : decode cX10_apply 64 = .ok (.aload_n 0, 1) := dec_of t_X10_apply_ok 35 rfl
theorem dX10_apply_65 : decode cX10_apply 65 = .ok (.getfield 117, 3) := dec_of t_X10_apply_ok 36 rfl
theorem dX10_apply_68 : decode cX10_apply 68 = .ok (.iload_n 2, 1) := dec_of t_X10_apply_ok 37 rfl
theorem dX10_apply_69 : decode cX10_apply 69 = .ok (.iaload, 1) := dec_of t_X10_apply_ok 38 rfl
theorem dX10_apply_70 : decode cX10_apply 70 = .ok (.invokevirtual 233, 3) := dec_of t_X10_apply_ok 39 rfl
theorem dX10_apply_73 : decode cX10_apply 73 = .ok (.istore 5, 2) := dec_of t_X10_apply_ok 40 rfl
theorem dX10_apply_75 : decode cX10_apply 75 = .ok (.aload_n 0, 1) := dec_of t_X10_apply_ok 41 rfl
theorem dX10_apply_76 : decode cX10_apply 76 = .ok (.getfield 108, 3) := dec_of t_X10_apply_ok 42 rfl
theorem dX10_apply_79 : decode cX10_apply 79 = .ok (.aload_n 0, 1) := dec_of t_X10_apply_ok 43 rfl
theorem dX10_apply_80 : decode cX10_apply 80 = .ok (.getfield 117, 3) := dec_of t_X10_apply_ok 44 rfl
theorem dX10_apply_83 : decode cX10_apply 83 = .ok (.iload_n 2, 1) := dec_of t_X10_apply_ok 45 rfl
theorem dX10_apply_84 : decode cX10_apply 84 = .ok (.iaload, 1) := dec_of t_X10_apply_ok 46 rfl
theorem dX10_apply_85 : decode cX10_apply 85 = .ok (.iaload, 1) := dec_of t_X10_apply_ok 47 rfl
theorem dX10_apply_86 : decode cX10_apply 86 = .ok (.iload 5, 2) := dec_of t_X10_apply_ok 48 rfl
theorem dX10_apply_88 : decode cX10_apply 88 = .ok (.isub, 1) := dec_of t_X10_apply_ok 49 rfl
theorem dX10_apply_89 : decode cX10_apply 89 = .ok (.istore 6, 2) := dec_of t_X10_apply_ok 50 rfl
theorem dX10_apply_91 : decode cX10_apply 91 = .ok (.aload_n 0, 1) := dec_of t_X10_apply_ok 51 rfl
theorem dX10_apply_92 : decode cX10_apply 92 = .ok (.aload_n 0, 1) := dec_of t_X10_apply_ok 52 rfl
theorem dX10_apply_93 : decode cX10_apply 93 = .ok (.getfield 156, 3) := dec_of t_X10_apply_ok 53 rfl
theorem dX10_apply_96 : decode cX10_apply 96 = .ok (.iload 6, 2) := dec_of t_X10_apply_ok 54 rfl
theorem dX10_apply_98 : decode cX10_apply 98 = .ok (.isub, 1) := dec_of t_X10_apply_ok 55 rfl
theorem dX10_apply_99 : decode cX10_apply 99 = .ok (.aload_n 0, 1) := dec_of t_X10_apply_ok 56 rfl
theorem dX10_apply_100 : decode cX10_apply 100 = .ok (.getfield 260, 3) := dec_of t_X10_apply_ok 57 rfl
theorem dX10_apply_103 : decode cX10_apply 103 = .ok (.iadd, 1) := dec_of t_X10_apply_ok 58 rfl
theorem dX10_apply_104 : decode cX10_apply 104 = .ok (.sipush 160, 3) := dec_of t_X10_apply_ok 59 rfl
theorem dX10_apply_107 : decode cX10_apply 107 = .ok (.if_icmp .le 7, 3) := dec_of t_X10_apply_ok 60 rfl
theorem dX10_apply_110 : decode cX10_apply 110 = .ok (.iconst 3, 1) := dec_of t_X10_apply_ok 61 rfl
theorem dX10_apply_111 : decode cX10_apply 111 = .ok (.goto 4, 3) := dec_of t_X10_apply_ok 62 rfl
theorem dX10_apply_114 : decode cX10_apply 114 = .ok (.iconst 0, 1) := dec_of t_X10_apply_ok 63 rfl
theorem dX10_apply_115 : decode cX10_apply 115 = .ok (.putfield 123, 3) := dec_of t_X10_apply_ok 64 rfl
theorem dX10_apply_118 : decode cX10_apply 118 = .ok (.aload_n 0, 1) := dec_of t_X10_apply_ok 65 rfl
theorem dX10_apply_119 : decode cX10_apply 119 = .ok (.getfield 123, 3) := dec_of t_X10_apply_ok 66 rfl
theorem dX10_apply_122 : decode cX10_apply 122 = .ok (.ifCond .le 5, 3) := dec_of t_X10_apply_ok 67 rfl
theorem dX10_apply_125 : decode cX10_apply 125 = .ok (.iconst 0, 1) := dec_of t_X10_apply_ok 68 rfl
theorem dX10_apply_126 : decode cX10_apply 126 = .ok (.ireturn, 1) := dec_of t_X10_apply_ok 69 rfl
theorem dX10_apply_127 : decode cX10_apply 127 = .ok (.iconst 0, 1) := dec_of t_X10_apply_ok 70 rfl
theorem dX10_apply_128 : decode cX10_apply 128 = .ok (.istore 7, 2) := dec_of t_X10_apply_ok 71 rfl
theorem dX10_apply_130 : decode cX10_apply 130 = .ok (.iload 7, 2) := dec_of t_X10_apply_ok 72 rfl
theorem dX10_apply_132 : decode cX10_apply 132 = .ok (.iload 6, 2) := dec_of t_X10_apply_ok 73 rfl
theorem dX10_apply_134 : decode cX10_apply 134 = .ok (.if_icmp .ge 15, 3) := dec_of t_X10_apply_ok 74 rfl
theorem dX10_apply_137 : decode cX10_apply 137 = .ok (.aload_n 0, 1) := dec_of t_X10_apply_ok 75 rfl
theorem dX10_apply_138 : decode cX10_apply 138 = .ok (.iload 5, 2) := dec_of t_X10_apply_ok 76 rfl
theorem dX10_apply_140 : decode cX10_apply 140 = .ok (.invokevirtual 171, 3) := dec_of t_X10_apply_ok 77 rfl
theorem dX10_apply_143 : decode cX10_apply 143 = .ok (.iinc 7 1, 3) := dec_of t_X10_apply_ok 78 rfl
theorem dX10_apply_146 : decode cX10_apply 146 = .ok (.goto (-16), 3) := dec_of t_X10_apply_ok 79 rfl
theorem dX10_apply_149 : decode cX10_apply 149 = .ok (.iconst 0, 1) := dec_of t_X10_apply_ok 80 rfl
theorem dX10_apply_150 : decode cX10_apply 150 = .ok (.istore 7, 2) := dec_of t_X10_apply_ok 81 rfl
theorem dX10_apply_152 : decode cX10_apply 152 = .ok (.iload 7, 2) := dec_of t_X10_apply_ok 82 rfl
theorem dX10_apply_154 : decode cX10_apply 154 = .ok (.aload_n 0, 1) := dec_of t_X10_apply_ok 83 rfl
theorem dX10_apply_155 : decode cX10_apply 155 = .ok (.getfield 260, 3) := dec_of t_X10_apply_ok 84 rfl
theorem dX10_apply_158 : decode cX10_apply 158 = .ok (.if_icmp .ge 27, 3) := dec_of t_X10_apply_ok 85 rfl
theorem dX10_apply_161 : decode cX10_apply 161 = .ok (.aload_n 0, 1) := dec_of t_X10_apply_ok 86 rfl
theorem dX10_apply_162 : decode cX10_apply 162 = .ok (.iload 5, 2) := dec_of t_X10_apply_ok 87 rfl
theorem dX10_apply_164 : decode cX10_apply 164 = .ok (.iload 7, 2) := dec_of t_X10_apply_ok 88 rfl
theorem dX10_apply_166 : decode cX10_apply 166 = .ok (.iadd, 1) := dec_of t_X10_apply_ok 89 rfl
theorem dX10_apply_167 : decode cX10_apply 167 = .ok (.aload_n 0, 1) := dec_of t_X10_apply_ok 90 rfl
theorem dX10_apply_168 : decode cX10_apply 168 = .ok (.getfield 120, 3) := dec_of t_X10_apply_ok 91 rfl
theorem dX10_apply_171 : decode cX10_apply 171 = .ok (.iload 7, 2) := dec_of t_X10_apply_ok 92 rfl
theorem dX10_apply_173 : decode cX10_apply 173 = .ok (.caload, 1) := dec_of t_X10_apply_ok 93 rfl
theorem dX10_apply_174 : decode cX10_apply 174 = .ok (.iload 4, 2) := dec_of t_X10_apply_ok 94 rfl
theorem dX10_apply_176 : decode cX10_apply 176 = .ok (.invokevirtual 167, 3) := dec_of t_X10_apply_ok 95 rfl
theorem dX10_apply_179 : decode cX10_apply 179 = .ok (.iinc 7 1, 3) := dec_of t_X10_apply_ok 96 rfl
theorem dX10_apply_182 : decode cX10_apply 182 = .ok (.goto (-30), 3) := dec_of t_X10_apply_ok 97 rfl
theorem dX10_apply_185 : decode cX10_apply 185 = .ok (.aload_n 0, 1) := dec_of t_X10_apply_ok 98 rfl
theorem dX10_apply_186 : decode cX10_apply 186 = .ok (.getfield 156, 3) := dec_of t_X10_apply_ok 99 rfl
theorem dX10_apply_189 : decode cX10_apply 189 = .ok (.ireturn, 1) := dec_of t_X10_apply_ok 100 rfl
def t_X10_heed : List (Nat × Instr × Nat) := [(0, .aload_n 0, 1), (1, .iload_n 1, 1), (2, .invokevirtual 248, 3), (5, .ifCond .eq 5, 3), (8, .iconst 0, 1), (9, .ireturn, 1), (10, .aload_n 0, 1), (11, .getfield 75, 3), (14, .iload_n 1, 1), (15, .iaload, 1), (16, .istore_n 2, 1), (17, .aload_n 0, 1), (18, .getfield 75, 3), (21, .iload_n 1, 1), (22, .iconst 0, 1), (23, .iastore, 1), (24, .iload_n 2, 1), (25, .ireturn, 1)]
theorem t_X10_heed_ok : dec_ok cX10_heed t_X10_heed = true := by decide +kernel
theorem dX10_heed_0 : decode cX10_heed 0 = .ok (.aload_n 0, 1) := dec_of t_X10_heed_ok 0 rfl
theorem dX10_heed_1 : decode cX10_heed 1 = .ok (.iload_n 1, 1) := dec_of t_X10_heed_ok 1 rfl
theorem dX10_heed_2 : decode cX10_heed 2 = .ok (.invokevirtual 248, 3) := dec_of t_X10_heed_ok 2 rfl
theorem dX10_heed_5 : decode cX10_heed 5 = .ok (.ifCond .eq 5, 3) := dec_of t_X10_heed_ok 3 rfl
theorem dX10_heed_8 : decode cX10_heed 8 = .ok (.iconst 0, 1) := dec_of t_X10_heed_ok 4 rfl
theorem dX10_heed_9 : decode cX10_heed 9 = .ok (.ireturn, 1) := dec_of t_X10_heed_ok 5 rfl
theorem dX10_heed_10 : decode cX10_heed 10 = .ok (.aload_n 0, 1) := dec_of t_X10_heed_ok 6 rfl
theorem dX10_heed_11 : decode cX10_heed 11 = .ok (.getfield 75, 3) := dec_of t_X10_heed_ok 7 rfl
theorem dX10_heed_14 : decode cX10_heed 14 = .ok (.iload_n 1, 1) := dec_of t_X10_heed_ok 8 rfl
theorem dX10_heed_15 : decode cX10_heed 15 = .ok (.iaload, 1) := dec_of t_X10_heed_ok 9 rfl
theorem dX10_heed_16 : decode cX10_heed 16 = .ok (.istore_n 2, 1) := dec_of t_X10_heed_ok 10 rfl
theorem dX10_heed_17 : decode cX10_heed 17 = .ok (.aload_n 0, 1) := dec_of t_X10_heed_ok 11 rfl
theorem dX10_heed_18 : decode cX10_heed 18 = .ok (.getfield 75, 3) := dec_of t_X10_heed_ok 12 rfl
theorem dX10_heed_21 : decode cX10_heed 21 = .ok (.iload_n 1, 1) := dec_of t_X10_heed_ok 13 rfl
theorem dX10_heed_22 : decode cX10_heed 22 = .ok (.iconst 0, 1) := dec_of t_X10_heed_ok 14 rfl
theorem dX10_heed_23 : decode cX10_heed 23 = .ok (.iastore, 1) := dec_of t_X10_heed_ok 15 rfl
theorem dX10_heed_24 : decode cX10_heed 24 = .ok (.iload_n 2, 1) := dec_of t_X10_heed_ok 16 rfl
theorem dX10_heed_25 : decode cX10_heed 25 = .ok (.ireturn, 1) := dec_of t_X10_heed_ok 17 rfl
def t_X10_check : List (Nat × Instr × Nat) := [(0, .aload_n 0, 1), (1, .iload_n 1, 1), (2, .invokevirtual 248, 3), (5, .ifCond .eq 5, 3), (8, .iconst 0, 1), (9, .ireturn, 1), (10, .iconst 0, 1), (11, .istore_n 2, 1), (12, .iconst 0, 1), (13, .istore_n 3, 1), (14, .iload_n 3, 1), (15, .aload_n 0, 1), (16, .invokevirtual 148, 3), (19, .if_icmp .ge 45, 3), (22, .iload_n 2, 1), (23, .aload_n 0, 1), (24, .getfield 87, 3), (27, .iload_n 1, 1), (28, .sipush 161, 3), (31, .imul, 1), (32, .iload_n 3, 1), (33, .iadd, 1), (34, .baload, 1), (35, .ifCond .eq 7, 3), (38, .iconst 1, 1), (39, .goto 4, 3), (42, .iconst 0, 1), (43, .iadd, 1), (44, .istore_n 2, 1), (45, .aload_n 0, 1), (46, .getfield 87, 3), (49, .iload_n 1, 1), (50, .sipush 161, 3), (53, .imul, 1), (54, .iload_n 3, 1), (55, .iadd, 1), (56, .iconst 0, 1), (57, .bastore, 1), (58, .iinc 3 1, 3), (61, .goto (-47), 3), (64, .iload_n 2, 1), (65, .ireturn, 1)]
theorem t_X10_check_ok : dec_ok cX10_check t_X10_check = true := by decide +kernel
theorem dX10_check_0 : decode cX10_check 0 = .ok (.aload_n 0, 1) := dec_of t_X10_check_ok 0 rfl
theorem dX10_check_1 : decode cX10_check 1 = .ok (.iload_n 1, 1) := dec_of t_X10_check_ok 1 rfl
theorem dX10_check_2 : decode cX10_check 2 = .ok (.invokevirtual 248, 3) := dec_of t_X10_check_ok 2 rfl
theorem dX10_check_5 : decode cX10_check 5 = .ok (.ifCond .eq 5, 3) := dec_of t_X10_check_ok 3 rfl
theorem dX10_check_8 : decode cX10_check 8 = .ok (.iconst 0, 1) := dec_of t_X10_check_ok 4 rfl
theorem dX10_check_9 : decode cX10_check 9 = .ok (.ireturn, 1) := dec_of t_X10_check_ok 5 rfl
theorem dX10_check_10 : decode cX10_check 10 = .ok (.iconst 0, 1) := dec_of t_X10_check_ok 6 rfl
theorem dX10_check_11 : decode cX10_check 11 = .ok (.istore_n 2, 1) := dec_of t_X10_check_ok 7 rfl
theorem dX10_check_12 : decode cX10_check 12 = .ok (.iconst 0, 1) := dec_of t_X10_check_ok 8 rfl
theorem dX10_check_13 : decode cX10_check 13 = .ok (.istore_n 3, 1) := dec_of t_X10_check_ok 9 rfl
theorem dX10_check_14 : decode cX10_check 14 = .ok (.iload_n 3, 1) := dec_of t_X10_check_ok 10 rfl
theorem dX10_check_15 : decode cX10_check 15 = .ok (.aload_n 0, 1) := dec_of t_X10_check_ok 11 rfl
theorem dX10_check_16 : decode cX10_check 16 = .ok (.invokevirtual 148, 3) := dec_of t_X10_check_ok 12 rfl
theorem dX10_check_19 : decode cX10_check 19 = .ok (.if_icmp .ge 45, 3) := dec_of t_X10_check_ok 13 rfl
theorem dX10_check_22 : decode cX10_check 22 = .ok (.iload_n 2, 1) := dec_of t_X10_check_ok 14 rfl
theorem dX10_check_23 : decode cX10_check 23 = .ok (.aload_n 0, 1) := dec_of t_X10_check_ok 15 rfl
theorem dX10_check_24 : decode cX10_check 24 = .ok (.getfield 87, 3) := dec_of t_X10_check_ok 16 rfl
theorem dX10_check_27 : decode cX10_check 27 = .ok (.iload_n 1, 1) := dec_of t_X10_check_ok 17 rfl
theorem dX10_check_28 : decode cX10_check 28 = .ok (.sipush 161, 3) := dec_of t_X10_check_ok 18 rfl
theorem dX10_check_31 : decode cX10_check 31 = .ok (.imul, 1) := dec_of t_X10_check_ok 19 rfl
theorem dX10_check_32 : decode cX10_check 32 = .ok (.iload_n 3, 1) := dec_of t_X10_check_ok 20 rfl
theorem dX10_check_33 : decode cX10_check 33 = .ok (.iadd, 1) := dec_of t_X10_check_ok 21 rfl
theorem dX10_check_34 : decode cX10_check 34 = .ok (.baload, 1) := dec_of t_X10_check_ok 22 rfl
theorem dX10_check_35 : decode cX10_check 35 = .ok (.ifCond .eq 7, 3) := dec_of t_X10_check_ok 23 rfl
theorem dX10_check_38 : decode cX10_check 38 = .ok (.iconst 1, 1) := dec_of t_X10_check_ok 24 rfl
theorem dX10_check_39 : decode cX10_check 39 = .ok (.goto 4, 3) := dec_of t_X10_check_ok 25 rfl
theorem dX10_check_42 : decode cX10_check 42 = .ok (.iconst 0, 1) := dec_of t_X10_check_ok 26 rfl
theorem dX10_check_43 : decode cX10_check 43 = .ok (.iadd, 1) := dec_of t_X10_check_ok 27 rfl
theorem dX10_check_44 : decode cX10_check 44 = .ok (.istore_n 2, 1) := dec_of t_X10_check_ok 28 rfl
theorem dX10_check_45 : decode cX10_check 45 = .ok (.aload_n 0, 1) := dec_of t_X10_check_ok 29 rfl
theorem dX10_check_46 : decode cX10_check 46 = .ok (.getfield 87, 3) := dec_of t_X10_check_ok 30 rfl
theorem dX10_check_49 : decode cX10_check 49 = .ok (.iload_n 1, 1) := dec_of t_X10_check_ok 31 rfl
theorem dX10_check_50 : decode cX10_check 50 = .ok (.sipush 161, 3) := dec_of t_X10_check_ok 32 rfl
theorem dX10_check_53 : decode cX10_check 53 = .ok (.imul, 1) := dec_of t_X10_check_ok 33 rfl
theorem dX10_check_54 : decode cX10_check 54 = .ok (.iload_n 3, 1) := dec_of t_X10_check_ok 34 rfl
theorem dX10_check_55 : decode cX10_check 55 = .ok (.iadd, 1) := dec_of t_X10_check_ok 35 rfl
theorem dX10_check_56 : decode cX10_check 56 = .ok (.iconst 0, 1) := dec_of t_X10_check_ok 36 rfl
theorem dX10_check_57 : decode cX10_check 57 = .ok (.bastore, 1) := dec_of t_X10_check_ok 37 rfl
theorem dX10_check_58 : decode cX10_check 58 = .ok (.iinc 3 1, 3) := dec_of t_X10_check_ok 38 rfl
theorem dX10_check_61 : decode cX10_check 61 = .ok (.goto (-47), 3) := dec_of t_X10_check_ok 39 rfl
theorem dX10_check_64 : decode cX10_check 64 = .ok (.iload_n 2, 1) := dec_of t_X10_check_ok 40 rfl
theorem dX10_check_65 : decode cX10_check 65 = .ok (.ireturn, 1) := dec_of t_X10_check_ok 41 rfl
def t_X10_byRule : List (Nat × Instr × Nat) := [(0, .aload_n 0, 1), (1, .iload_n 1, 1), (2, .invokestatic 131, 3), (5, .ifCond .eq 17, 3), (8, .iload_n 2, 1), (9, .iconst 0, 1), (10, .bipush 20, 2), (12, .invokestatic 127, 3), (15, .ifCond .eq 7, 3), (18, .iconst 0, 1), (19, .goto 4, 3), (22, .iconst 1, 1), (23, .putfield 123, 3), (26, .aload_n 0, 1), (27, .getfield 123, 3), (30, .ifCond .le 5, 3), (33, .iconst 0, 1), (34, .ireturn, 1), (35, .aload_n 0, 1), (36, .iload_n 1, 1), (37, .invokevirtual 251, 3), (40, .iconst 0, 1), (41, .istore_n 3, 1), (42, .iconst 0, 1), (43, .istore 4, 2), (45, .iload 4, 2), (47, .aload_n 0, 1), (48, .getfield 236, 3), (51, .if_icmp .ge 33, 3), (54, .iload_n 3, 1), (55, .aload_n 0, 1), (56, .getfield 111, 3), (59, .aload_n 0, 1), (60, .getfield 117, 3), (63, .iload 4, 2), (65, .iaload, 1), (66, .iaload, 1), (67, .iload_n 2, 1), (68, .if_icmp .ne 7, 3), (71, .iconst 1, 1), (72, .goto 4, 3), (75, .iconst 0, 1), (76, .iadd, 1), (77, .istore_n 3, 1), (78, .iinc 4 1, 3), (81, .goto (-36), 3), (84, .iload_n 3, 1), (85, .ireturn, 1)]
theorem t_X10_byRule_ok : dec_ok cX10_byRule t_X10_byRule = true := by decide +kernel
theorem dX10_byRule_0 : decode cX10_byRule 0 = .ok (.aload_n 0, 1) := dec_of t_X10_byRule_ok 0 rfl
theorem dX10_byRule_1 : decode cX10_byRule 1 = .ok (.iload_n 1, 1) := dec_of t_X10_byRule_ok 1 rfl
theorem dX10_byRule_2 : decode cX10_byRule 2 = .ok (.invokestatic 131, 3) := dec_of t_X10_byRule_ok 2 rfl
theorem dX10_byRule_5 : decode cX10_byRule 5 = .ok (.ifCond .eq 17, 3) := dec_of t_X10_byRule_ok 3 rfl
theorem dX10_byRule_8 : decode cX10_byRule 8 = .ok (.iload_n 2, 1) := dec_of t_X10_byRule_ok 4 rfl
theorem dX10_byRule_9 : decode cX10_byRule 9 = .ok (.iconst 0, 1) := dec_of t_X10_byRule_ok 5 rfl
theorem dX10_byRule_10 : decode cX10_byRule 10 = .ok (.bipush 20, 2) := dec_of t_X10_byRule_ok 6 rfl
theorem dX10_byRule_12 : decode cX10_byRule 12 = .ok (.invokestatic 127, 3) := dec_of t_X10_byRule_ok 7 rfl
theorem dX10_byRule_15 : decode cX10_byRule 15 = .ok (.ifCond .eq 7, 3) := dec_of t_X10_byRule_ok 8 rfl
theorem dX10_byRule_18 : decode cX10_byRule 18 = .ok (.iconst 0, 1) := dec_of t_X10_byRule_ok 9 rfl
theorem dX10_byRule_19 : decode cX10_byRule 19 = .ok (.goto 4, 3) := dec_of t_X10_byRule_ok 10 rfl
theorem dX10_byRule_22 : decode cX10_byRule 22 = .ok (.iconst 1, 1) := dec_of t_X10_byRule_ok 11 rfl
theorem dX10_byRule_23 : decode cX10_byRule 23 = .ok (.putfield 123, 3) := dec_of t_X10_byRule_ok 12 rfl
theorem dX10_byRule_26 : decode cX10_byRule 26 = .ok (.aload_n 0, 1) := dec_of t_X10_byRule_ok 13 rfl
theorem dX10_byRule_27 : decode cX10_byRule 27 = .ok (.getfield 123, 3) := dec_of t_X10_byRule_ok 14 rfl
theorem dX10_byRule_30 : decode cX10_byRule 30 = .ok (.ifCond .le 5, 3) := dec_of t_X10_byRule_ok 15 rfl
theorem dX10_byRule_33 : decode cX10_byRule 33 = .ok (.iconst 0, 1) := dec_of t_X10_byRule_ok 16 rfl
theorem dX10_byRule_34 : decode cX10_byRule 34 = .ok (.ireturn, 1) := dec_of t_X10_byRule_ok 17 rfl
theorem dX10_byRule_35 : decode cX10_byRule 35 = .ok (.aload_n 0, 1) := dec_of t_X10_byRule_ok 18 rfl
theorem dX10_byRule_36 : decode cX10_byRule 36 = .ok (.iload_n 1, 1) := dec_of t_X10_byRule_ok 19 rfl
theorem dX10_byRule_37 : decode cX10_byRule 37 = .ok (.invokevirtual 251, 3) := dec_of t_X10_byRule_ok 20 rfl
theorem dX10_byRule_40 : decode cX10_byRule 40 = .ok (.iconst 0, 1) := dec_of t_X10_byRule_ok 21 rfl
theorem dX10_byRule_41 : decode cX10_byRule 41 = .ok (.istore_n 3, 1) := dec_of t_X10_byRule_ok 22 rfl
theorem dX10_byRule_42 : decode cX10_byRule 42 = .ok (.iconst 0, 1) := dec_of t_X10_byRule_ok 23 rfl
theorem dX10_byRule_43 : decode cX10_byRule 43 = .ok (.istore 4, 2) := dec_of t_X10_byRule_ok 24 rfl
theorem dX10_byRule_45 : decode cX10_byRule 45 = .ok (.iload 4, 2) := dec_of t_X10_byRule_ok 25 rfl
theorem dX10_byRule_47 : decode cX10_byRule 47 = .ok (.aload_n 0, 1) := dec_of t_X10_byRule_ok 26 rfl
theorem dX10_byRule_48 : decode cX10_byRule 48 = .ok (.getfield 236, 3) := dec_of t_X10_byRule_ok 27 rfl
theorem dX10_byRule_51 : decode cX10_byRule 51 = .ok (.if_icmp .ge 33, 3) := dec_of t_X10_byRule_ok 28 rfl
theorem dX10_byRule_54 : decode cX10_byRule 54 = .ok (.iload_n 3, 1) := dec_of t_X10_byRule_ok 29 rfl
theorem dX10_byRule_55 : decode cX10_byRule 55 = .ok (.aload_n 0, 1) := dec_of t_X10_byRule_ok 30 rfl
theorem dX10_byRule_56 : decode cX10_byRule 56 = .ok (.getfield 111, 3) := dec_of t_X10_byRule_ok 31 rfl
theorem dX10_byRule_59 : decode cX10_byRule 59 = .ok (.aload_n 0, 1) := dec_of t_X10_byRule_ok 32 rfl
theorem dX10_byRule_60 : decode cX10_byRule 60 = .ok (.getfield 117, 3) := dec_of t_X10_byRule_ok 33 rfl
theorem dX10_byRule_63 : decode cX10_byRule 63 = .ok (.iload 4, 2) := dec_of t_X10_byRule_ok 34 rfl
theorem dX10_byRule_65 : decode cX10_byRule 65 = .ok (.iaload, 1) := dec_of t_X10_byRule_ok 35 rfl
theorem dX10_byRule_66 : decode cX10_byRule 66 = .ok (.iaload, 1) := dec_of t_X10_byRule_ok 36 rfl
theorem dX10_byRule_67 : decode cX10_byRule 67 = .ok (.iload_n 2, 1) := dec_of t_X10_byRule_ok 37 rfl
theorem dX10_byRule_68 : decode cX10_byRule 68 = .ok (.if_icmp .ne 7, 3) := dec_of t_X10_byRule_ok 38 rfl
theorem dX10_byRule_71 : decode cX10_byRule 71 = .ok (.iconst 1, 1) := dec_of t_X10_byRule_ok 39 rfl
theorem dX10_byRule_72 : decode cX10_byRule 72 = .ok (.goto 4, 3) := dec_of t_X10_byRule_ok 40 rfl
theorem dX10_byRule_75 : decode cX10_byRule 75 = .ok (.iconst 0, 1) := dec_of t_X10_byRule_ok 41 rfl
theorem dX10_byRule_76 : decode cX10_byRule 76 = .ok (.iadd, 1) := dec_of t_X10_byRule_ok 42 rfl
theorem dX10_byRule_77 : decode cX10_byRule 77 = .ok (.istore_n 3, 1) := dec_of t_X10_byRule_ok 43 rfl
theorem dX10_byRule_78 : decode cX10_byRule 78 = .ok (.iinc 4 1, 3) := dec_of t_X10_byRule_ok 44 rfl
theorem dX10_byRule_81 : decode cX10_byRule 81 = .ok (.goto (-36), 3) := dec_of t_X10_byRule_ok 45 rfl
theorem dX10_byRule_84 : decode cX10_byRule 84 = .ok (.iload_n 3, 1) := dec_of t_X10_byRule_ok 46 rfl
theorem dX10_byRule_85 : decode cX10_byRule 85 = .ok (.ireturn, 1) := dec_of t_X10_byRule_ok 47 rfl
def t_X10_byWriter : List (Nat × Instr × Nat) := [(0, .aload_n 0, 1), (1, .iload_n 1, 1), (2, .invokestatic 131, 3), (5, .ifCond .eq 16, 3), (8, .iload_n 2, 1), (9, .iconst 0, 1), (10, .iconst 3, 1), (11, .invokestatic 127, 3), (14, .ifCond .eq 7, 3), (17, .iconst 0, 1), (18, .goto 4, 3), (21, .iconst 1, 1), (22, .putfield 123, 3), (25, .aload_n 0, 1), (26, .getfield 123, 3), (29, .ifCond .le 5, 3), (32, .iconst 0, 1), (33, .ireturn, 1), (34, .aload_n 0, 1), (35, .iload_n 1, 1), (36, .invokevirtual 251, 3), (39, .iconst 0, 1), (40, .istore_n 3, 1), (41, .iconst 0, 1), (42, .istore 4, 2), (44, .iload 4, 2), (46, .aload_n 0, 1), (47, .getfield 236, 3), (50, .if_icmp .ge 37, 3), (53, .iload_n 3, 1), (54, .aload_n 0, 1), (55, .getfield 13, 3), (58, .aload_n 0, 1), (59, .aload_n 0, 1), (60, .getfield 117, 3), (63, .iload 4, 2), (65, .iaload, 1), (66, .invokevirtual 233, 3), (69, .iaload, 1), (70, .iload_n 2, 1), (71, .if_icmp .ne 7, 3), (74, .iconst 1, 1), (75, .goto 4, 3), (78, .iconst 0, 1), (79, .iadd, 1), (80, .istore_n 3, 1), (81, .iinc 4 1, 3), (84, .goto (-40), 3), (87, .iload_n 3, 1), (88, .ireturn, 1)]
theorem t_X10_byWriter_ok : dec_ok cX10_byWriter t_X10_byWriter = true := by decide +kernel
theorem dX10_byWriter_0 : decode cX10_byWriter 0 = .ok (.aload_n 0, 1) := dec_of t_X10_byWriter_ok 0 rfl
theorem dX10_byWriter_1 : decode cX10_byWriter 1 = .ok (.iload_n 1, 1) := dec_of t_X10_byWriter_ok 1 rfl
theorem dX10_byWriter_2 : decode cX10_byWriter 2 = .ok (.invokestatic 131, 3) := dec_of t_X10_byWriter_ok 2 rfl
theorem dX10_byWriter_5 : decode cX10_byWriter 5 = .ok (.ifCond .eq 16, 3) := dec_of t_X10_byWriter_ok 3 rfl
theorem dX10_byWriter_8 : decode cX10_byWriter 8 = .ok (.iload_n 2, 1) := dec_of t_X10_byWriter_ok 4 rfl
theorem dX10_byWriter_9 : decode cX10_byWriter 9 = .ok (.iconst 0, 1) := dec_of t_X10_byWriter_ok 5 rfl
theorem dX10_byWriter_10 : decode cX10_byWriter 10 = .ok (.iconst 3, 1) := dec_of t_X10_byWriter_ok 6 rfl
theorem dX10_byWriter_11 : decode cX10_byWriter 11 = .ok (.invokestatic 127, 3) := dec_of t_X10_byWriter_ok 7 rfl
theorem dX10_byWriter_14 : decode cX10_byWriter 14 = .ok (.ifCond .eq 7, 3) := dec_of t_X10_byWriter_ok 8 rfl
theorem dX10_byWriter_17 : decode cX10_byWriter 17 = .ok (.iconst 0, 1) := dec_of t_X10_byWriter_ok 9 rfl
theorem dX10_byWriter_18 : decode cX10_byWriter 18 = .ok (.goto 4, 3) := dec_of t_X10_byWriter_ok 10 rfl
theorem dX10_byWriter_21 : decode cX10_byWriter 21 = .ok (.iconst 1, 1) := dec_of t_X10_byWriter_ok 11 rfl
theorem dX10_byWriter_22 : decode cX10_byWriter 22 = .ok (.putfield 123, 3) := dec_of t_X10_byWriter_ok 12 rfl
theorem dX10_byWriter_25 : decode cX10_byWriter 25 = .ok (.aload_n 0, 1) := dec_of t_X10_byWriter_ok 13 rfl
theorem dX10_byWriter_26 : decode cX10_byWriter 26 = .ok (.getfield 123, 3) := dec_of t_X10_byWriter_ok 14 rfl
theorem dX10_byWriter_29 : decode cX10_byWriter 29 = .ok (.ifCond .le 5, 3) := dec_of t_X10_byWriter_ok 15 rfl
theorem dX10_byWriter_32 : decode cX10_byWriter 32 = .ok (.iconst 0, 1) := dec_of t_X10_byWriter_ok 16 rfl
theorem dX10_byWriter_33 : decode cX10_byWriter 33 = .ok (.ireturn, 1) := dec_of t_X10_byWriter_ok 17 rfl
theorem dX10_byWriter_34 : decode cX10_byWriter 34 = .ok (.aload_n 0, 1) := dec_of t_X10_byWriter_ok 18 rfl
theorem dX10_byWriter_35 : decode cX10_byWriter 35 = .ok (.iload_n 1, 1) := dec_of t_X10_byWriter_ok 19 rfl
theorem dX10_byWriter_36 : decode cX10_byWriter 36 = .ok (.invokevirtual 251, 3) := dec_of t_X10_byWriter_ok 20 rfl
theorem dX10_byWriter_39 : decode cX10_byWriter 39 = .ok (.iconst 0, 1) := dec_of t_X10_byWriter_ok 21 rfl
theorem dX10_byWriter_40 : decode cX10_byWriter 40 = .ok (.istore_n 3, 1) := dec_of t_X10_byWriter_ok 22 rfl
theorem dX10_byWriter_41 : decode cX10_byWriter 41 = .ok (.iconst 0, 1) := dec_of t_X10_byWriter_ok 23 rfl
theorem dX10_byWriter_42 : decode cX10_byWriter 42 = .ok (.istore 4, 2) := dec_of t_X10_byWriter_ok 24 rfl
theorem dX10_byWriter_44 : decode cX10_byWriter 44 = .ok (.iload 4, 2) := dec_of t_X10_byWriter_ok 25 rfl
theorem dX10_byWriter_46 : decode cX10_byWriter 46 = .ok (.aload_n 0, 1) := dec_of t_X10_byWriter_ok 26 rfl
theorem dX10_byWriter_47 : decode cX10_byWriter 47 = .ok (.getfield 236, 3) := dec_of t_X10_byWriter_ok 27 rfl
theorem dX10_byWriter_50 : decode cX10_byWriter 50 = .ok (.if_icmp .ge 37, 3) := dec_of t_X10_byWriter_ok 28 rfl
theorem dX10_byWriter_53 : decode cX10_byWriter 53 = .ok (.iload_n 3, 1) := dec_of t_X10_byWriter_ok 29 rfl
theorem dX10_byWriter_54 : decode cX10_byWriter 54 = .ok (.aload_n 0, 1) := dec_of t_X10_byWriter_ok 30 rfl
theorem dX10_byWriter_55 : decode cX10_byWriter 55 = .ok (.getfield 13, 3) := dec_of t_X10_byWriter_ok 31 rfl
theorem dX10_byWriter_58 : decode cX10_byWriter 58 = .ok (.aload_n 0, 1) := dec_of t_X10_byWriter_ok 32 rfl
theorem dX10_byWriter_59 : decode cX10_byWriter 59 = .ok (.aload_n 0, 1) := dec_of t_X10_byWriter_ok 33 rfl
theorem dX10_byWriter_60 : decode cX10_byWriter 60 = .ok (.getfield 117, 3) := dec_of t_X10_byWriter_ok 34 rfl
theorem dX10_byWriter_63 : decode cX10_byWriter 63 = .ok (.iload 4, 2) := dec_of t_X10_byWriter_ok 35 rfl
theorem dX10_byWriter_65 : decode cX10_byWriter 65 = .ok (.iaload, 1) := dec_of t_X10_byWriter_ok 36 rfl
theorem dX10_byWriter_66 : decode cX10_byWriter 66 = .ok (.invokevirtual 233, 3) := dec_of t_X10_byWriter_ok 37 rfl
theorem dX10_byWriter_69 : decode cX10_byWriter 69 = .ok (.iaload, 1) := dec_of t_X10_byWriter_ok 38 rfl
theorem dX10_byWriter_70 : decode cX10_byWriter 70 = .ok (.iload_n 2, 1) := dec_of t_X10_byWriter_ok 39 rfl
theorem dX10_byWriter_71 : decode cX10_byWriter 71 = .ok (.if_icmp .ne 7, 3) := dec_of t_X10_byWriter_ok 40 rfl
theorem dX10_byWriter_74 : decode cX10_byWriter 74 = .ok (.iconst 1, 1) := dec_of t_X10_byWriter_ok 41 rfl
theorem dX10_byWriter_75 : decode cX10_byWriter 75 = .ok (.goto 4, 3) := dec_of t_X10_byWriter_ok 42 rfl
theorem dX10_byWriter_78 : decode cX10_byWriter 78 = .ok (.iconst 0, 1) := dec_of t_X10_byWriter_ok 43 rfl
theorem dX10_byWriter_79 : decode cX10_byWriter 79 = .ok (.iadd, 1) := dec_of t_X10_byWriter_ok 44 rfl
theorem dX10_byWriter_80 : decode cX10_byWriter 80 = .ok (.istore_n 3, 1) := dec_of t_X10_byWriter_ok 45 rfl
theorem dX10_byWriter_81 : decode cX10_byWriter 81 = .ok (.iinc 4 1, 3) := dec_of t_X10_byWriter_ok 46 rfl
theorem dX10_byWriter_84 : decode cX10_byWriter 84 = .ok (.goto (-40), 3) := dec_of t_X10_byWriter_ok 47 rfl
theorem dX10_byWriter_87 : decode cX10_byWriter 87 = .ok (.iload_n 3, 1) := dec_of t_X10_byWriter_ok 48 rfl
theorem dX10_byWriter_88 : decode cX10_byWriter 88 = .ok (.ireturn, 1) := dec_of t_X10_byWriter_ok 49 rfl
def t_X10_checksum : List (Nat × Instr × Nat) := [(0, .aload_n 0, 1), (1, .iconst 0, 1), (2, .putfield 123, 3), (5, .ldc2_w 273, 3), (8, .lstore_n 1, 1), (9, .iconst 0, 1), (10, .istore_n 3, 1), (11, .iload_n 3, 1), (12, .aload_n 0, 1), (13, .getfield 156, 3), (16, .if_icmp .ge 23, 3), (19, .ldc2_w 275, 3), (22, .lload_n 1, 1), (23, .lmul, 1), (24, .aload_n 0, 1), (25, .getfield 7, 3), (28, .iload_n 3, 1), (29, .caload, 1), (30, .i2l, 1), (31, .ladd, 1), (32, .lstore_n 1, 1), (33, .iinc 3 1, 3), (36, .goto (-25), 3), (39, .aload_n 0, 1), (40, .iconst 0, 1), (41, .invokevirtual 251, 3), (44, .iconst 0, 1), (45, .istore_n 3, 1), (46, .iload_n 3, 1), (47, .aload_n 0, 1), (48, .getfield 236, 3), (51, .if_icmp .ge 46, 3), (54, .ldc2_w 275, 3), (57, .lload_n 1, 1), (58, .lmul, 1), (59, .aload_n 0, 1), (60, .aload_n 0, 1), (61, .getfield 117, 3), (64, .iload_n 3, 1), (65, .iaload, 1), (66, .invokevirtual 233, 3), (69, .i2l, 1), (70, .ladd, 1), (71, .lstore_n 1, 1), (72, .ldc2_w 275, 3), (75, .lload_n 1, 1), (76, .lmul, 1), (77, .aload_n 0, 1), (78, .getfield 111, 3), (81, .aload_n 0, 1), (82, .getfield 117, 3), (85, .iload_n 3, 1), (86, .iaload, 1), (87, .iaload, 1), (88, .i2l, 1), (89, .ladd, 1), (90, .lstore_n 1, 1), (91, .iinc 3 1, 3), (94, .goto (-48), 3), (97, .lload_n 1, 1), (98, .lreturn, 1)]
theorem t_X10_checksum_ok : dec_ok cX10_checksum t_X10_checksum = true := by decide +kernel
theorem dX10_checksum_0 : decode cX10_checksum 0 = .ok (.aload_n 0, 1) := dec_of t_X10_checksum_ok 0 rfl
theorem dX10_checksum_1 : decode cX10_checksum 1 = .ok (.iconst 0, 1) := dec_of t_X10_checksum_ok 1 rfl
theorem dX10_checksum_2 : decode cX10_checksum 2 = .ok (.putfield 123, 3) := dec_of t_X10_checksum_ok 2 rfl
theorem dX10_checksum_5 : decode cX10_checksum 5 = .ok (.ldc2_w 273, 3) := dec_of t_X10_checksum_ok 3 rfl
theorem dX10_checksum_8 : decode cX10_checksum 8 = .ok (.lstore_n 1, 1) := dec_of t_X10_checksum_ok 4 rfl
theorem dX10_checksum_9 : decode cX10_checksum 9 = .ok (.iconst 0, 1) := dec_of t_X10_checksum_ok 5 rfl
theorem dX10_checksum_10 : decode cX10_checksum 10 = .ok (.istore_n 3, 1) := dec_of t_X10_checksum_ok 6 rfl
theorem dX10_checksum_11 : decode cX10_checksum 11 = .ok (.iload_n 3, 1) := dec_of t_X10_checksum_ok 7 rfl
theorem dX10_checksum_12 : decode cX10_checksum 12 = .ok (.aload_n 0, 1) := dec_of t_X10_checksum_ok 8 rfl
theorem dX10_checksum_13 : decode cX10_checksum 13 = .ok (.getfield 156, 3) := dec_of t_X10_checksum_ok 9 rfl
theorem dX10_checksum_16 : decode cX10_checksum 16 = .ok (.if_icmp .ge 23, 3) := dec_of t_X10_checksum_ok 10 rfl
theorem dX10_checksum_19 : decode cX10_checksum 19 = .ok (.ldc2_w 275, 3) := dec_of t_X10_checksum_ok 11 rfl
theorem dX10_checksum_22 : decode cX10_checksum 22 = .ok (.lload_n 1, 1) := dec_of t_X10_checksum_ok 12 rfl
theorem dX10_checksum_23 : decode cX10_checksum 23 = .ok (.lmul, 1) := dec_of t_X10_checksum_ok 13 rfl
theorem dX10_checksum_24 : decode cX10_checksum 24 = .ok (.aload_n 0, 1) := dec_of t_X10_checksum_ok 14 rfl
theorem dX10_checksum_25 : decode cX10_checksum 25 = .ok (.getfield 7, 3) := dec_of t_X10_checksum_ok 15 rfl
theorem dX10_checksum_28 : decode cX10_checksum 28 = .ok (.iload_n 3, 1) := dec_of t_X10_checksum_ok 16 rfl
theorem dX10_checksum_29 : decode cX10_checksum 29 = .ok (.caload, 1) := dec_of t_X10_checksum_ok 17 rfl
theorem dX10_checksum_30 : decode cX10_checksum 30 = .ok (.i2l, 1) := dec_of t_X10_checksum_ok 18 rfl
theorem dX10_checksum_31 : decode cX10_checksum 31 = .ok (.ladd, 1) := dec_of t_X10_checksum_ok 19 rfl
theorem dX10_checksum_32 : decode cX10_checksum 32 = .ok (.lstore_n 1, 1) := dec_of t_X10_checksum_ok 20 rfl
theorem dX10_checksum_33 : decode cX10_checksum 33 = .ok (.iinc 3 1, 3) := dec_of t_X10_checksum_ok 21 rfl
theorem dX10_checksum_36 : decode cX10_checksum 36 = .ok (.goto (-25), 3) := dec_of t_X10_checksum_ok 22 rfl
theorem dX10_checksum_39 : decode cX10_checksum 39 = .ok (.aload_n 0, 1) := dec_of t_X10_checksum_ok 23 rfl
theorem dX10_checksum_40 : decode cX10_checksum 40 = .ok (.iconst 0, 1) := dec_of t_X10_checksum_ok 24 rfl
theorem dX10_checksum_41 : decode cX10_checksum 41 = .ok (.invokevirtual 251, 3) := dec_of t_X10_checksum_ok 25 rfl
theorem dX10_checksum_44 : decode cX10_checksum 44 = .ok (.iconst 0, 1) := dec_of t_X10_checksum_ok 26 rfl
theorem dX10_checksum_45 : decode cX10_checksum 45 = .ok (.istore_n 3, 1) := dec_of t_X10_checksum_ok 27 rfl
theorem dX10_checksum_46 : decode cX10_checksum 46 = .ok (.iload_n 3, 1) := dec_of t_X10_checksum_ok 28 rfl
theorem dX10_checksum_47 : decode cX10_checksum 47 = .ok (.aload_n 0, 1) := dec_of t_X10_checksum_ok 29 rfl
theorem dX10_checksum_48 : decode cX10_checksum 48 = .ok (.getfield 236, 3) := dec_of t_X10_checksum_ok 30 rfl
theorem dX10_checksum_51 : decode cX10_checksum 51 = .ok (.if_icmp .ge 46, 3) := dec_of t_X10_checksum_ok 31 rfl
theorem dX10_checksum_54 : decode cX10_checksum 54 = .ok (.ldc2_w 275, 3) := dec_of t_X10_checksum_ok 32 rfl
theorem dX10_checksum_57 : decode cX10_checksum 57 = .ok (.lload_n 1, 1) := dec_of t_X10_checksum_ok 33 rfl
theorem dX10_checksum_58 : decode cX10_checksum 58 = .ok (.lmul, 1) := dec_of t_X10_checksum_ok 34 rfl
theorem dX10_checksum_59 : decode cX10_checksum 59 = .ok (.aload_n 0, 1) := dec_of t_X10_checksum_ok 35 rfl
theorem dX10_checksum_60 : decode cX10_checksum 60 = .ok (.aload_n 0, 1) := dec_of t_X10_checksum_ok 36 rfl
theorem dX10_checksum_61 : decode cX10_checksum 61 = .ok (.getfield 117, 3) := dec_of t_X10_checksum_ok 37 rfl
theorem dX10_checksum_64 : decode cX10_checksum 64 = .ok (.iload_n 3, 1) := dec_of t_X10_checksum_ok 38 rfl
theorem dX10_checksum_65 : decode cX10_checksum 65 = .ok (.iaload, 1) := dec_of t_X10_checksum_ok 39 rfl
theorem dX10_checksum_66 : decode cX10_checksum 66 = .ok (.invokevirtual 233, 3) := dec_of t_X10_checksum_ok 40 rfl
theorem dX10_checksum_69 : decode cX10_checksum 69 = .ok (.i2l, 1) := dec_of t_X10_checksum_ok 41 rfl
theorem dX10_checksum_70 : decode cX10_checksum 70 = .ok (.ladd, 1) := dec_of t_X10_checksum_ok 42 rfl
theorem dX10_checksum_71 : decode cX10_checksum 71 = .ok (.lstore_n 1, 1) := dec_of t_X10_checksum_ok 43 rfl
theorem dX10_checksum_72 : decode cX10_checksum 72 = .ok (.ldc2_w 275, 3) := dec_of t_X10_checksum_ok 44 rfl
theorem dX10_checksum_75 : decode cX10_checksum 75 = .ok (.lload_n 1, 1) := dec_of t_X10_checksum_ok 45 rfl
theorem dX10_checksum_76 : decode cX10_checksum 76 = .ok (.lmul, 1) := dec_of t_X10_checksum_ok 46 rfl
theorem dX10_checksum_77 : decode cX10_checksum 77 = .ok (.aload_n 0, 1) := dec_of t_X10_checksum_ok 47 rfl
theorem dX10_checksum_78 : decode cX10_checksum 78 = .ok (.getfield 111, 3) := dec_of t_X10_checksum_ok 48 rfl
theorem dX10_checksum_81 : decode cX10_checksum 81 = .ok (.aload_n 0, 1) := dec_of t_X10_checksum_ok 49 rfl
theorem dX10_checksum_82 : decode cX10_checksum 82 = .ok (.getfield 117, 3) := dec_of t_X10_checksum_ok 50 rfl
theorem dX10_checksum_85 : decode cX10_checksum 85 = .ok (.iload_n 3, 1) := dec_of t_X10_checksum_ok 51 rfl
theorem dX10_checksum_86 : decode cX10_checksum 86 = .ok (.iaload, 1) := dec_of t_X10_checksum_ok 52 rfl
theorem dX10_checksum_87 : decode cX10_checksum 87 = .ok (.iaload, 1) := dec_of t_X10_checksum_ok 53 rfl
theorem dX10_checksum_88 : decode cX10_checksum 88 = .ok (.i2l, 1) := dec_of t_X10_checksum_ok 54 rfl
theorem dX10_checksum_89 : decode cX10_checksum 89 = .ok (.ladd, 1) := dec_of t_X10_checksum_ok 55 rfl
theorem dX10_checksum_90 : decode cX10_checksum 90 = .ok (.lstore_n 1, 1) := dec_of t_X10_checksum_ok 56 rfl
theorem dX10_checksum_91 : decode cX10_checksum 91 = .ok (.iinc 3 1, 3) := dec_of t_X10_checksum_ok 57 rfl
theorem dX10_checksum_94 : decode cX10_checksum 94 = .ok (.goto (-48), 3) := dec_of t_X10_checksum_ok 58 rfl
theorem dX10_checksum_97 : decode cX10_checksum 97 = .ok (.lload_n 1, 1) := dec_of t_X10_checksum_ok 59 rfl
theorem dX10_checksum_98 : decode cX10_checksum 98 = .ok (.lreturn, 1) := dec_of t_X10_checksum_ok 60 rfl
def t_X10_foundShare : List (Nat × Instr × Nat) := [(0, .aload_n 0, 1), (1, .iload_n 1, 1), (2, .invokestatic 131, 3), (5, .ifCond .ne 7, 3), (8, .iconst 1, 1), (9, .goto 15, 3), (12, .aload_n 0, 1), (13, .getfield 156, 3), (16, .ifCond .ne 7, 3), (19, .iconst 2, 1), (20, .goto 4, 3), (23, .iconst 0, 1), (24, .putfield 123, 3), (27, .aload_n 0, 1), (28, .getfield 123, 3), (31, .ifCond .le 5, 3), (34, .fconst 0, 1), (35, .freturn, 1), (36, .aload_n 0, 1), (37, .iload_n 1, 1), (38, .invokevirtual 251, 3), (41, .iconst 0, 1), (42, .istore_n 2, 1), (43, .iconst 0, 1), (44, .istore_n 3, 1), (45, .iload_n 3, 1), (46, .aload_n 0, 1), (47, .getfield 236, 3), (50, .if_icmp .ge 34, 3), (53, .iload_n 2, 1), (54, .aload_n 0, 1), (55, .getfield 108, 3), (58, .aload_n 0, 1), (59, .getfield 117, 3), (62, .iload_n 3, 1), (63, .iaload, 1), (64, .iaload, 1), (65, .aload_n 0, 1), (66, .aload_n 0, 1), (67, .getfield 117, 3), (70, .iload_n 3, 1), (71, .iaload, 1), (72, .invokevirtual 233, 3), (75, .isub, 1), (76, .iadd, 1), (77, .istore_n 2, 1), (78, .iinc 3 1, 3), (81, .goto (-36), 3), (84, .iload_n 2, 1), (85, .i2f, 1), (86, .aload_n 0, 1), (87, .getfield 156, 3), (90, .i2f, 1), (91, .fdiv, 1), (92, .freturn, 1)]
theorem t_X10_foundShare_ok : dec_ok cX10_foundShare t_X10_foundShare = true := by decide +kernel
theorem dX10_foundShare_0 : decode cX10_foundShare 0 = .ok (.aload_n 0, 1) := dec_of t_X10_foundShare_ok 0 rfl
theorem dX10_foundShare_1 : decode cX10_foundShare 1 = .ok (.iload_n 1, 1) := dec_of t_X10_foundShare_ok 1 rfl
theorem dX10_foundShare_2 : decode cX10_foundShare 2 = .ok (.invokestatic 131, 3) := dec_of t_X10_foundShare_ok 2 rfl
theorem dX10_foundShare_5 : decode cX10_foundShare 5 = .ok (.ifCond .ne 7, 3) := dec_of t_X10_foundShare_ok 3 rfl
theorem dX10_foundShare_8 : decode cX10_foundShare 8 = .ok (.iconst 1, 1) := dec_of t_X10_foundShare_ok 4 rfl
theorem dX10_foundShare_9 : decode cX10_foundShare 9 = .ok (.goto 15, 3) := dec_of t_X10_foundShare_ok 5 rfl
theorem dX10_foundShare_12 : decode cX10_foundShare 12 = .ok (.aload_n 0, 1) := dec_of t_X10_foundShare_ok 6 rfl
theorem dX10_foundShare_13 : decode cX10_foundShare 13 = .ok (.getfield 156, 3) := dec_of t_X10_foundShare_ok 7 rfl
theorem dX10_foundShare_16 : decode cX10_foundShare 16 = .ok (.ifCond .ne 7, 3) := dec_of t_X10_foundShare_ok 8 rfl
theorem dX10_foundShare_19 : decode cX10_foundShare 19 = .ok (.iconst 2, 1) := dec_of t_X10_foundShare_ok 9 rfl
theorem dX10_foundShare_20 : decode cX10_foundShare 20 = .ok (.goto 4, 3) := dec_of t_X10_foundShare_ok 10 rfl
theorem dX10_foundShare_23 : decode cX10_foundShare 23 = .ok (.iconst 0, 1) := dec_of t_X10_foundShare_ok 11 rfl
theorem dX10_foundShare_24 : decode cX10_foundShare 24 = .ok (.putfield 123, 3) := dec_of t_X10_foundShare_ok 12 rfl
theorem dX10_foundShare_27 : decode cX10_foundShare 27 = .ok (.aload_n 0, 1) := dec_of t_X10_foundShare_ok 13 rfl
theorem dX10_foundShare_28 : decode cX10_foundShare 28 = .ok (.getfield 123, 3) := dec_of t_X10_foundShare_ok 14 rfl
theorem dX10_foundShare_31 : decode cX10_foundShare 31 = .ok (.ifCond .le 5, 3) := dec_of t_X10_foundShare_ok 15 rfl
theorem dX10_foundShare_34 : decode cX10_foundShare 34 = .ok (.fconst 0, 1) := dec_of t_X10_foundShare_ok 16 rfl
theorem dX10_foundShare_35 : decode cX10_foundShare 35 = .ok (.freturn, 1) := dec_of t_X10_foundShare_ok 17 rfl
theorem dX10_foundShare_36 : decode cX10_foundShare 36 = .ok (.aload_n 0, 1) := dec_of t_X10_foundShare_ok 18 rfl
theorem dX10_foundShare_37 : decode cX10_foundShare 37 = .ok (.iload_n 1, 1) := dec_of t_X10_foundShare_ok 19 rfl
theorem dX10_foundShare_38 : decode cX10_foundShare 38 = .ok (.invokevirtual 251, 3) := dec_of t_X10_foundShare_ok 20 rfl
theorem dX10_foundShare_41 : decode cX10_foundShare 41 = .ok (.iconst 0, 1) := dec_of t_X10_foundShare_ok 21 rfl
theorem dX10_foundShare_42 : decode cX10_foundShare 42 = .ok (.istore_n 2, 1) := dec_of t_X10_foundShare_ok 22 rfl
theorem dX10_foundShare_43 : decode cX10_foundShare 43 = .ok (.iconst 0, 1) := dec_of t_X10_foundShare_ok 23 rfl
theorem dX10_foundShare_44 : decode cX10_foundShare 44 = .ok (.istore_n 3, 1) := dec_of t_X10_foundShare_ok 24 rfl
theorem dX10_foundShare_45 : decode cX10_foundShare 45 = .ok (.iload_n 3, 1) := dec_of t_X10_foundShare_ok 25 rfl
theorem dX10_foundShare_46 : decode cX10_foundShare 46 = .ok (.aload_n 0, 1) := dec_of t_X10_foundShare_ok 26 rfl
theorem dX10_foundShare_47 : decode cX10_foundShare 47 = .ok (.getfield 236, 3) := dec_of t_X10_foundShare_ok 27 rfl
theorem dX10_foundShare_50 : decode cX10_foundShare 50 = .ok (.if_icmp .ge 34, 3) := dec_of t_X10_foundShare_ok 28 rfl
theorem dX10_foundShare_53 : decode cX10_foundShare 53 = .ok (.iload_n 2, 1) := dec_of t_X10_foundShare_ok 29 rfl
theorem dX10_foundShare_54 : decode cX10_foundShare 54 = .ok (.aload_n 0, 1) := dec_of t_X10_foundShare_ok 30 rfl
theorem dX10_foundShare_55 : decode cX10_foundShare 55 = .ok (.getfield 108, 3) := dec_of t_X10_foundShare_ok 31 rfl
theorem dX10_foundShare_58 : decode cX10_foundShare 58 = .ok (.aload_n 0, 1) := dec_of t_X10_foundShare_ok 32 rfl
theorem dX10_foundShare_59 : decode cX10_foundShare 59 = .ok (.getfield 117, 3) := dec_of t_X10_foundShare_ok 33 rfl
theorem dX10_foundShare_62 : decode cX10_foundShare 62 = .ok (.iload_n 3, 1) := dec_of t_X10_foundShare_ok 34 rfl
theorem dX10_foundShare_63 : decode cX10_foundShare 63 = .ok (.iaload, 1) := dec_of t_X10_foundShare_ok 35 rfl
theorem dX10_foundShare_64 : decode cX10_foundShare 64 = .ok (.iaload, 1) := dec_of t_X10_foundShare_ok 36 rfl
theorem dX10_foundShare_65 : decode cX10_foundShare 65 = .ok (.aload_n 0, 1) := dec_of t_X10_foundShare_ok 37 rfl
theorem dX10_foundShare_66 : decode cX10_foundShare 66 = .ok (.aload_n 0, 1) := dec_of t_X10_foundShare_ok 38 rfl
theorem dX10_foundShare_67 : decode cX10_foundShare 67 = .ok (.getfield 117, 3) := dec_of t_X10_foundShare_ok 39 rfl
theorem dX10_foundShare_70 : decode cX10_foundShare 70 = .ok (.iload_n 3, 1) := dec_of t_X10_foundShare_ok 40 rfl
theorem dX10_foundShare_71 : decode cX10_foundShare 71 = .ok (.iaload, 1) := dec_of t_X10_foundShare_ok 41 rfl
theorem dX10_foundShare_72 : decode cX10_foundShare 72 = .ok (.invokevirtual 233, 3) := dec_of t_X10_foundShare_ok 42 rfl
theorem dX10_foundShare_75 : decode cX10_foundShare 75 = .ok (.isub, 1) := dec_of t_X10_foundShare_ok 43 rfl
theorem dX10_foundShare_76 : decode cX10_foundShare 76 = .ok (.iadd, 1) := dec_of t_X10_foundShare_ok 44 rfl
theorem dX10_foundShare_77 : decode cX10_foundShare 77 = .ok (.istore_n 2, 1) := dec_of t_X10_foundShare_ok 45 rfl
theorem dX10_foundShare_78 : decode cX10_foundShare 78 = .ok (.iinc 3 1, 3) := dec_of t_X10_foundShare_ok 46 rfl
theorem dX10_foundShare_81 : decode cX10_foundShare 81 = .ok (.goto (-36), 3) := dec_of t_X10_foundShare_ok 47 rfl
theorem dX10_foundShare_84 : decode cX10_foundShare 84 = .ok (.iload_n 2, 1) := dec_of t_X10_foundShare_ok 48 rfl
theorem dX10_foundShare_85 : decode cX10_foundShare 85 = .ok (.i2f, 1) := dec_of t_X10_foundShare_ok 49 rfl
theorem dX10_foundShare_86 : decode cX10_foundShare 86 = .ok (.aload_n 0, 1) := dec_of t_X10_foundShare_ok 50 rfl
theorem dX10_foundShare_87 : decode cX10_foundShare 87 = .ok (.getfield 156, 3) := dec_of t_X10_foundShare_ok 51 rfl
theorem dX10_foundShare_90 : decode cX10_foundShare 90 = .ok (.i2f, 1) := dec_of t_X10_foundShare_ok 52 rfl
theorem dX10_foundShare_91 : decode cX10_foundShare 91 = .ok (.fdiv, 1) := dec_of t_X10_foundShare_ok 53 rfl
theorem dX10_foundShare_92 : decode cX10_foundShare 92 = .ok (.freturn, 1) := dec_of t_X10_foundShare_ok 54 rfl

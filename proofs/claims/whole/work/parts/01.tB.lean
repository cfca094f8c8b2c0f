def t_X9_init : List (Nat × Instr × Nat) := [(0, .aload_n 0, 1), (1, .invokespecial 1, 3), (4, .aload_n 0, 1), (5, .new 7, 3), (8, .dup, 1), (9, .bipush 20, 2), (11, .invokespecial 11, 3), (14, .putfield 14, 3), (17, .aload_n 0, 1), (18, .new 18, 3), (21, .dup, 1), (22, .invokespecial 20, 3), (25, .putfield 21, 3), (28, .aload_n 0, 1), (29, .new 25, 3), (32, .dup, 1), (33, .aload_n 0, 1), (34, .getfield 21, 3), (37, .getfield 27, 3), (40, .invokespecial 30, 3), (43, .putfield 33, 3), (46, .aload_n 0, 1), (47, .new 37, 3), (50, .dup, 1), (51, .invokespecial 39, 3), (54, .putfield 40, 3), (57, .aload_n 0, 1), (58, .new 44, 3), (61, .dup, 1), (62, .invokespecial 46, 3), (65, .putfield 47, 3), (68, .iconst 0, 1), (69, .istore_n 1, 1), (70, .iload_n 1, 1), (71, .iconst 4, 1), (72, .if_icmp .ge 24, 3), (75, .aload_n 0, 1), (76, .getfield 47, 3), (79, .new 51, 3), (82, .dup, 1), (83, .invokespecial 53, 3), (86, .invokevirtual 54, 3), (89, .pop, 1), (90, .iinc 1 1, 3), (93, .goto (-23), 3), (96, .aload_n 0, 1), (97, .new 58, 3), (100, .dup, 1), (101, .aload_n 0, 1), (102, .getfield 40, 3), (105, .aload_n 0, 1), (106, .getfield 33, 3), (109, .invokespecial 60, 3), (112, .putfield 63, 3), (115, .aload_n 0, 1), (116, .new 7, 3), (119, .dup, 1), (120, .sipush 180, 3), (123, .invokespecial 11, 3), (126, .putfield 67, 3), (129, .aload_n 0, 1), (130, .iconst 0, 1), (131, .putfield 70, 3), (134, .aload_n 0, 1), (135, .iconst (-1), 1), (136, .putfield 74, 3), (139, .return_, 1)]
theorem t_X9_init_ok : dec_ok cX9_init t_X9_init = true := by decide +kernel
theorem dX9_init_0 : decode cX9_init 0 = .ok (.aload_n 0, 1) := dec_of t_X9_init_ok 0 rfl
theorem dX9_init_1 : decode cX9_init 1 = .ok (.invokespecial 1, 3) := dec_of t_X9_init_ok 1 rfl
theorem dX9_init_4 : decode cX9_init 4 = .ok (.aload_n 0, 1) := dec_of t_X9_init_ok 2 rfl
theorem dX9_init_5 : decode cX9_init 5 = .ok (.new 7, 3) := dec_of t_X9_init_ok 3 rfl
theorem dX9_init_8 : decode cX9_init 8 = .ok (.dup, 1) := dec_of t_X9_init_ok 4 rfl
theorem dX9_init_9 : decode cX9_init 9 = .ok (.bipush 20, 2) := dec_of t_X9_init_ok 5 rfl
theorem dX9_init_11 : decode cX9_init 11 = .ok (.invokespecial 11, 3) := dec_of t_X9_init_ok 6 rfl
theorem dX9_init_14 : decode cX9_init 14 = .ok (.putfield 14, 3) := dec_of t_X9_init_ok 7 rfl
theorem dX9_init_17 : decode cX9_init 17 = .ok (.aload_n 0, 1) := dec_of t_X9_init_ok 8 rfl
theorem dX9_init_18 : decode cX9_init 18 = .ok (.new 18, 3) := dec_of t_X9_init_ok 9 rfl
theorem dX9_init_21 : decode cX9_init 21 = .ok (.dup, 1) := dec_of t_X9_init_ok 10 rfl
theorem dX9_init_22 : decode cX9_init 22 = .ok (.invokespecial 20, 3) := dec_of t_X9_init_ok 11 rfl
theorem dX9_init_25 : decode cX9_init 25 = .ok (.putfield 21, 3) := dec_of t_X9_init_ok 12 rfl
theorem dX9_init_28 : decode cX9_init 28 = .ok (.aload_n 0, 1) := dec_of t_X9_init_ok 13 rfl
theorem dX9_init_29 : decode cX9_init 29 = .ok (.new 25, 3) := dec_of t_X9_init_ok 14 rfl
theorem dX9_init_32 : decode cX9_init 32 = .ok (.dup, 1) := dec_of t_X9_init_ok 15 rfl
theorem dX9_init_33 : decode cX9_init 33 = .ok (.aload_n 0, 1) := dec_of t_X9_init_ok 16 rfl
theorem dX9_init_34 : decode cX9_init 34 = .ok (.getfield 21, 3) := dec_of t_X9_init_ok 17 rfl
theorem dX9_init_37 : decode cX9_init 37 = .ok (.getfield 27, 3) := dec_of t_X9_init_ok 18 rfl
theorem dX9_init_40 : decode cX9_init 40 = .ok (.invokespecial 30, 3) := dec_of t_X9_init_ok 19 rfl
theorem dX9_init_43 : decode cX9_init 43 = .ok (.putfield 33, 3) := dec_of t_X9_init_ok 20 rfl
theorem dX9_init_46 : decode cX9_init 46 = .ok (.aload_n 0, 1) := dec_of t_X9_init_ok 21 rfl
theorem dX9_init_47 : decode cX9_init 47 = .ok (.new 37, 3) := dec_of t_X9_init_ok 22 rfl
theorem dX9_init_50 : decode cX9_init 50 = .ok (.dup, 1) := dec_of t_X9_init_ok 23 rfl
theorem dX9_init_51 : decode cX9_init 51 = .ok (.invokespecial 39, 3) := dec_of t_X9_init_ok 24 rfl
theorem dX9_init_54 : decode cX9_init 54 = .ok (.putfield 40, 3) := dec_of t_X9_init_ok 25 rfl
theorem dX9_init_57 : decode cX9_init 57 = .ok (.aload_n 0, 1) := dec_of t_X9_init_ok 26 rfl
theorem dX9_init_58 : decode cX9_init 58 = .ok (.new 44, 3) := dec_of t_X9_init_ok 27 rfl
theorem dX9_init_61 : decode cX9_init 61 = .ok (.dup, 1) := dec_of t_X9_init_ok 28 rfl
theorem dX9_init_62 : decode cX9_init 62 = .ok (.invokespecial 46, 3) := dec_of t_X9_init_ok 29 rfl
theorem dX9_init_65 : decode cX9_init 65 = .ok (.putfield 47, 3) := dec_of t_X9_init_ok 30 rfl
theorem dX9_init_68 : decode cX9_init 68 = .ok (.iconst 0, 1) := dec_of t_X9_init_ok 31 rfl
theorem dX9_init_69 : decode cX9_init 69 = .ok (.istore_n 1, 1) := dec_of t_X9_init_ok 32 rfl
theorem dX9_init_70 : decode cX9_init 70 = .ok (.iload_n 1, 1) := dec_of t_X9_init_ok 33 rfl
theorem dX9_init_71 : decode cX9_init 71 = .ok (.iconst 4, 1) := dec_of t_X9_init_ok 34 rfl
theorem dX9_init_72 : decode cX9_init 72 = .ok (.if_icmp .ge 24, 3) := dec_of t_X9_init_ok 35 rfl
theorem dX9_init_75 : decode cX9_init 75 = .ok (.aload_n 0, 1) := dec_of t_X9_init_ok 36 rfl
theorem dX9_init_76 : decode cX9_init 76 = .ok (.getfield 47, 3) := dec_of t_X9_init_ok 37 rfl
theorem dX9_init_79 : decode cX9_init 79 = .ok (.new 51, 3) := dec_of t_X9_init_ok 38 rfl
theorem dX9_init_82 : decode cX9_init 82 = .ok (.dup, 1) := dec_of t_X9_init_ok 39 rfl
theorem dX9_init_83 : decode cX9_init 83 = .ok (.invokespecial 53, 3) := dec_of t_X9_init_ok 40 rfl
theorem dX9_init_86 : decode cX9_init 86 = .ok (.invokevirtual 54, 3) := dec_of t_X9_init_ok 41 rfl
theorem dX9_init_89 : decode cX9_init 89 = .ok (.pop, 1) := dec_of t_X9_init_ok 42 rfl
theorem dX9_init_90 : decode cX9_init 90 = .ok (.iinc 1 1, 3) := dec_of t_X9_init_ok 43 rfl
theorem dX9_init_93 : decode cX9_init 93 = .ok (.goto (-23), 3) := dec_of t_X9_init_ok 44 rfl
theorem dX9_init_96 : decode cX9_init 96 = .ok (.aload_n 0, 1) := dec_of t_X9_init_ok 45 rfl
theorem dX9_init_97 : decode cX9_init 97 = .ok (.new 58, 3) := dec_of t_X9_init_ok 46 rfl
theorem dX9_init_100 : decode cX9_init 100 = .ok (.dup, 1) := dec_of t_X9_init_ok 47 rfl
theorem dX9_init_101 : decode cX9_init 101 = .ok (.aload_n 0, 1) := dec_of t_X9_init_ok 48 rfl
theorem dX9_init_102 : decode cX9_init 102 = .ok (.getfield 40, 3) := dec_of t_X9_init_ok 49 rfl
theorem dX9_init_105 : decode cX9_init 105 = .ok (.aload_n 0, 1) := dec_of t_X9_init_ok 50 rfl
theorem dX9_init_106 : decode cX9_init 106 = .ok (.getfield 33, 3) := dec_of t_X9_init_ok 51 rfl
theorem dX9_init_109 : decode cX9_init 109 = .ok (.invokespecial 60, 3) := dec_of t_X9_init_ok 52 rfl
theorem dX9_init_112 : decode cX9_init 112 = .ok (.putfield 63, 3) := dec_of t_X9_init_ok 53 rfl
theorem dX9_init_115 : decode cX9_init 115 = .ok (.aload_n 0, 1) := dec_of t_X9_init_ok 54 rfl
theorem dX9_init_116 : decode cX9_init 116 = .ok (.new 7, 3) := dec_of t_X9_init_ok 55 rfl
theorem dX9_init_119 : decode cX9_init 119 = .ok (.dup, 1) := dec_of t_X9_init_ok 56 rfl
theorem dX9_init_120 : decode cX9_init 120 = .ok (.sipush 180, 3) := dec_of t_X9_init_ok 57 rfl
theorem dX9_init_123 : decode cX9_init 123 = .ok (.invokespecial 11, 3) := dec_of t_X9_init_ok 58 rfl
theorem dX9_init_126 : decode cX9_init 126 = .ok (.putfield 67, 3) := dec_of t_X9_init_ok 59 rfl
theorem dX9_init_129 : decode cX9_init 129 = .ok (.aload_n 0, 1) := dec_of t_X9_init_ok 60 rfl
theorem dX9_init_130 : decode cX9_init 130 = .ok (.iconst 0, 1) := dec_of t_X9_init_ok 61 rfl
theorem dX9_init_131 : decode cX9_init 131 = .ok (.putfield 70, 3) := dec_of t_X9_init_ok 62 rfl
theorem dX9_init_134 : decode cX9_init 134 = .ok (.aload_n 0, 1) := dec_of t_X9_init_ok 63 rfl
theorem dX9_init_135 : decode cX9_init 135 = .ok (.iconst (-1), 1) := dec_of t_X9_init_ok 64 rfl
theorem dX9_init_136 : decode cX9_init 136 = .ok (.putfield 74, 3) := dec_of t_X9_init_ok 65 rfl
theorem dX9_init_139 : decode cX9_init 139 = .ok (.return_, 1) := dec_of t_X9_init_ok 66 rfl
def t_X9_type : List (Nat × Instr × Nat) := [(0, .iload_n 1, 1), (1, .invokestatic 78, 3), (4, .ifCond .ne 13, 3), (7, .new 82, 3), (10, .dup, 1), (11, .ldc 84, 2), (13, .invokespecial 86, 3), (16, .athrow, 1), (17, .aload_n 0, 1), (18, .getfield 14, 3), (21, .invokevirtual 89, 3), (24, .bipush 20, 2), (26, .if_icmp .lt 13, 3), (29, .new 93, 3), (32, .dup, 1), (33, .ldc 95, 2), (35, .invokespecial 97, 3), (38, .athrow, 1), (39, .aload_n 0, 1), (40, .getfield 14, 3), (43, .iload_n 1, 1), (44, .invokevirtual 98, 3), (47, .aload_n 0, 1), (48, .getfield 14, 3), (51, .invokevirtual 89, 3), (54, .ireturn, 1)]
theorem t_X9_type_ok : dec_ok cX9_type t_X9_type = true := by decide +kernel
theorem dX9_type_0 : decode cX9_type 0 = .ok (.iload_n 1, 1) := dec_of t_X9_type_ok 0 rfl
theorem dX9_type_1 : decode cX9_type 1 = .ok (.invokestatic 78, 3) := dec_of t_X9_type_ok 1 rfl
theorem dX9_type_4 : decode cX9_type 4 = .ok (.ifCond .ne 13, 3) := dec_of t_X9_type_ok 2 rfl
theorem dX9_type_7 : decode cX9_type 7 = .ok (.new 82, 3) := dec_of t_X9_type_ok 3 rfl
theorem dX9_type_10 : decode cX9_type 10 = .ok (.dup, 1) := dec_of t_X9_type_ok 4 rfl
theorem dX9_type_11 : decode cX9_type 11 = .ok (.ldc 84, 2) := dec_of t_X9_type_ok 5 rfl
theorem dX9_type_13 : decode cX9_type 13 = .ok (.invokespecial 86, 3) := dec_of t_X9_type_ok 6 rfl
theorem dX9_type_16 : decode cX9_type 16 = .ok (.athrow, 1) := dec_of t_X9_type_ok 7 rfl
theorem dX9_type_17 : decode cX9_type 17 = .ok (.aload_n 0, 1) := dec_of t_X9_type_ok 8 rfl
theorem dX9_type_18 : decode cX9_type 18 = .ok (.getfield 14, 3) := dec_of t_X9_type_ok 9 rfl
theorem dX9_type_21 : decode cX9_type 21 = .ok (.invokevirtual 89, 3) := dec_of t_X9_type_ok 10 rfl
theorem dX9_type_24 : decode cX9_type 24 = .ok (.bipush 20, 2) := dec_of t_X9_type_ok 11 rfl
theorem dX9_type_26 : decode cX9_type 26 = .ok (.if_icmp .lt 13, 3) := dec_of t_X9_type_ok 12 rfl
theorem dX9_type_29 : decode cX9_type 29 = .ok (.new 93, 3) := dec_of t_X9_type_ok 13 rfl
theorem dX9_type_32 : decode cX9_type 32 = .ok (.dup, 1) := dec_of t_X9_type_ok 14 rfl
theorem dX9_type_33 : decode cX9_type 33 = .ok (.ldc 95, 2) := dec_of t_X9_type_ok 15 rfl
theorem dX9_type_35 : decode cX9_type 35 = .ok (.invokespecial 97, 3) := dec_of t_X9_type_ok 16 rfl
theorem dX9_type_38 : decode cX9_type 38 = .ok (.athrow, 1) := dec_of t_X9_type_ok 17 rfl
theorem dX9_type_39 : decode cX9_type 39 = .ok (.aload_n 0, 1) := dec_of t_X9_type_ok 18 rfl
theorem dX9_type_40 : decode cX9_type 40 = .ok (.getfield 14, 3) := dec_of t_X9_type_ok 19 rfl
theorem dX9_type_43 : decode cX9_type 43 = .ok (.iload_n 1, 1) := dec_of t_X9_type_ok 20 rfl
theorem dX9_type_44 : decode cX9_type 44 = .ok (.invokevirtual 98, 3) := dec_of t_X9_type_ok 21 rfl
theorem dX9_type_47 : decode cX9_type 47 = .ok (.aload_n 0, 1) := dec_of t_X9_type_ok 22 rfl
theorem dX9_type_48 : decode cX9_type 48 = .ok (.getfield 14, 3) := dec_of t_X9_type_ok 23 rfl
theorem dX9_type_51 : decode cX9_type 51 = .ok (.invokevirtual 89, 3) := dec_of t_X9_type_ok 24 rfl
theorem dX9_type_54 : decode cX9_type 54 = .ok (.ireturn, 1) := dec_of t_X9_type_ok 25 rfl
def t_X9_wipe : List (Nat × Instr × Nat) := [(0, .aload_n 0, 1), (1, .getfield 14, 3), (4, .invokevirtual 89, 3), (7, .istore_n 1, 1), (8, .aload_n 0, 1), (9, .getfield 14, 3), (12, .invokevirtual 100, 3), (15, .iload_n 1, 1), (16, .ireturn, 1)]
theorem t_X9_wipe_ok : dec_ok cX9_wipe t_X9_wipe = true := by decide +kernel
theorem dX9_wipe_0 : decode cX9_wipe 0 = .ok (.aload_n 0, 1) := dec_of t_X9_wipe_ok 0 rfl
theorem dX9_wipe_1 : decode cX9_wipe 1 = .ok (.getfield 14, 3) := dec_of t_X9_wipe_ok 1 rfl
theorem dX9_wipe_4 : decode cX9_wipe 4 = .ok (.invokevirtual 89, 3) := dec_of t_X9_wipe_ok 2 rfl
theorem dX9_wipe_7 : decode cX9_wipe 7 = .ok (.istore_n 1, 1) := dec_of t_X9_wipe_ok 3 rfl
theorem dX9_wipe_8 : decode cX9_wipe 8 = .ok (.aload_n 0, 1) := dec_of t_X9_wipe_ok 4 rfl
theorem dX9_wipe_9 : decode cX9_wipe 9 = .ok (.getfield 14, 3) := dec_of t_X9_wipe_ok 5 rfl
theorem dX9_wipe_12 : decode cX9_wipe 12 = .ok (.invokevirtual 100, 3) := dec_of t_X9_wipe_ok 6 rfl
theorem dX9_wipe_15 : decode cX9_wipe 15 = .ok (.iload_n 1, 1) := dec_of t_X9_wipe_ok 7 rfl
theorem dX9_wipe_16 : decode cX9_wipe 16 = .ok (.ireturn, 1) := dec_of t_X9_wipe_ok 8 rfl
def t_X9_put : List (Nat × Instr × Nat) := [(0, .iload_n 1, 1), (1, .ifCond .lt 17, 3), (4, .iload_n 1, 1), (5, .aload_n 0, 1), (6, .getfield 21, 3), (9, .getfield 27, 3), (12, .invokevirtual 89, 3), (15, .if_icmp .le 13, 3), (18, .new 103, 3), (21, .dup, 1), (22, .ldc 105, 2), (24, .invokespecial 107, 3), (27, .athrow, 1), (28, .iload_n 2, 1), (29, .invokestatic 108, 3), (32, .ifCond .eq 10, 3), (35, .iload_n 3, 1), (36, .invokestatic 111, 3), (39, .ifCond .ne 13, 3), (42, .new 82, 3), (45, .dup, 1), (46, .ldc 115, 2), (48, .invokespecial 86, 3), (51, .athrow, 1), (52, .aload_n 0, 1), (53, .getfield 21, 3), (56, .getfield 27, 3), (59, .invokevirtual 89, 3), (62, .sipush 160, 3), (65, .if_icmp .lt 13, 3), (68, .new 93, 3), (71, .dup, 1), (72, .ldc 117, 2), (74, .invokespecial 97, 3), (77, .athrow, 1), (78, .aload_n 0, 1), (79, .iload_n 1, 1), (80, .iload_n 2, 1), (81, .iload_n 3, 1), (82, .invokevirtual 119, 3), (85, .aload_n 0, 1), (86, .getfield 21, 3), (89, .getfield 27, 3), (92, .invokevirtual 89, 3), (95, .ireturn, 1)]
theorem t_X9_put_ok : dec_ok cX9_put t_X9_put = true := by decide +kernel
theorem dX9_put_0 : decode cX9_put 0 = .ok (.iload_n 1, 1) := dec_of t_X9_put_ok 0 rfl
theorem dX9_put_1 : decode cX9_put 1 = .ok (.ifCond .lt 17, 3) := dec_of t_X9_put_ok 1 rfl
theorem dX9_put_4 : decode cX9_put 4 = .ok (.iload_n 1, 1) := dec_of t_X9_put_ok 2 rfl
theorem dX9_put_5 : decode cX9_put 5 = .ok (.aload_n 0, 1) := dec_of t_X9_put_ok 3 rfl
theorem dX9_put_6 : decode cX9_put 6 = .ok (.getfield 21, 3) := dec_of t_X9_put_ok 4 rfl
theorem dX9_put_9 : decode cX9_put 9 = .ok (.getfield 27, 3) := dec_of t_X9_put_ok 5 rfl
theorem dX9_put_12 : decode cX9_put 12 = .ok (.invokevirtual 89, 3) := dec_of t_X9_put_ok 6 rfl
theorem dX9_put_15 : decode cX9_put 15 = .ok (.if_icmp .le 13, 3) := dec_of t_X9_put_ok 7 rfl
theorem dX9_put_18 : decode cX9_put 18 = .ok (.new 103, 3) := dec_of t_X9_put_ok 8 rfl
theorem dX9_put_21 : decode cX9_put 21 = .ok (.dup, 1) := dec_of t_X9_put_ok 9 rfl
theorem dX9_put_22 : decode cX9_put 22 = .ok (.ldc 105, 2) := dec_of t_X9_put_ok 10 rfl
theorem dX9_put_24 : decode cX9_put 24 = .ok (.invokespecial 107, 3) := dec_of t_X9_put_ok 11 rfl
theorem dX9_put_27 : decode cX9_put 27 = .ok (.athrow, 1) := dec_of t_X9_put_ok 12 rfl
theorem dX9_put_28 : decode cX9_put 28 = .ok (.iload_n 2, 1) := dec_of t_X9_put_ok 13 rfl
theorem dX9_put_29 : decode cX9_put 29 = .ok (.invokestatic 108, 3) := dec_of t_X9_put_ok 14 rfl
theorem dX9_put_32 : decode cX9_put 32 = .ok (.ifCond .eq 10, 3) := dec_of t_X9_put_ok 15 rfl
theorem dX9_put_35 : decode cX9_put 35 = .ok (.iload_n 3, 1) := dec_of t_X9_put_ok 16 rfl
theorem dX9_put_36 : decode cX9_put 36 = .ok (.invokestatic 111, 3) := dec_of t_X9_put_ok 17 rfl
theorem dX9_put_39 : decode cX9_put 39 = .ok (.ifCond .ne 13, 3) := dec_of t_X9_put_ok 18 rfl
theorem dX9_put_42 : decode cX9_put 42 = .ok (.new 82, 3) := dec_of t_X9_put_ok 19 rfl
theorem dX9_put_45 : decode cX9_put 45 = .ok (.dup, 1) := dec_of t_X9_put_ok 20 rfl
theorem dX9_put_46 : decode cX9_put 46 = .ok (.ldc 115, 2) := dec_of t_X9_put_ok 21 rfl
theorem dX9_put_48 : decode cX9_put 48 = .ok (.invokespecial 86, 3) := dec_of t_X9_put_ok 22 rfl
theorem dX9_put_51 : decode cX9_put 51 = .ok (.athrow, 1) := dec_of t_X9_put_ok 23 rfl
theorem dX9_put_52 : decode cX9_put 52 = .ok (.aload_n 0, 1) := dec_of t_X9_put_ok 24 rfl
theorem dX9_put_53 : decode cX9_put 53 = .ok (.getfield 21, 3) := dec_of t_X9_put_ok 25 rfl
theorem dX9_put_56 : decode cX9_put 56 = .ok (.getfield 27, 3) := dec_of t_X9_put_ok 26 rfl
theorem dX9_put_59 : decode cX9_put 59 = .ok (.invokevirtual 89, 3) := dec_of t_X9_put_ok 27 rfl
theorem dX9_put_62 : decode cX9_put 62 = .ok (.sipush 160, 3) := dec_of t_X9_put_ok 28 rfl
theorem dX9_put_65 : decode cX9_put 65 = .ok (.if_icmp .lt 13, 3) := dec_of t_X9_put_ok 29 rfl
theorem dX9_put_68 : decode cX9_put 68 = .ok (.new 93, 3) := dec_of t_X9_put_ok 30 rfl
theorem dX9_put_71 : decode cX9_put 71 = .ok (.dup, 1) := dec_of t_X9_put_ok 31 rfl
theorem dX9_put_72 : decode cX9_put 72 = .ok (.ldc 117, 2) := dec_of t_X9_put_ok 32 rfl
theorem dX9_put_74 : decode cX9_put 74 = .ok (.invokespecial 97, 3) := dec_of t_X9_put_ok 33 rfl
theorem dX9_put_77 : decode cX9_put 77 = .ok (.athrow, 1) := dec_of t_X9_put_ok 34 rfl
theorem dX9_put_78 : decode cX9_put 78 = .ok (.aload_n 0, 1) := dec_of t_X9_put_ok 35 rfl
theorem dX9_put_79 : decode cX9_put 79 = .ok (.iload_n 1, 1) := dec_of t_X9_put_ok 36 rfl
theorem dX9_put_80 : decode cX9_put 80 = .ok (.iload_n 2, 1) := dec_of t_X9_put_ok 37 rfl
theorem dX9_put_81 : decode cX9_put 81 = .ok (.iload_n 3, 1) := dec_of t_X9_put_ok 38 rfl
theorem dX9_put_82 : decode cX9_put 82 = .ok (.invokevirtual 119, 3) := dec_of t_X9_put_ok 39 rfl
theorem dX9_put_85 : decode cX9_put 85 = .ok (.aload_n 0, 1) := dec_of t_X9_put_ok 40 rfl
theorem dX9_put_86 : decode cX9_put 86 = .ok (.getfield 21, 3) := dec_of t_X9_put_ok 41 rfl
theorem dX9_put_89 : decode cX9_put 89 = .ok (.getfield 27, 3) := dec_of t_X9_put_ok 42 rfl
theorem dX9_put_92 : decode cX9_put 92 = .ok (.invokevirtual 89, 3) := dec_of t_X9_put_ok 43 rfl
theorem dX9_put_95 : decode cX9_put 95 = .ok (.ireturn, 1) := dec_of t_X9_put_ok 44 rfl
def t_X9_take : List (Nat × Instr × Nat) := [(0, .aload_n 0, 1), (1, .iload_n 1, 1), (2, .invokevirtual 123, 3), (5, .aload_n 0, 1), (6, .iload_n 1, 1), (7, .invokevirtual 126, 3), (10, .ireturn, 1)]
theorem t_X9_take_ok : dec_ok cX9_take t_X9_take = true := by decide +kernel
theorem dX9_take_0 : decode cX9_take 0 = .ok (.aload_n 0, 1) := dec_of t_X9_take_ok 0 rfl
theorem dX9_take_1 : decode cX9_take 1 = .ok (.iload_n 1, 1) := dec_of t_X9_take_ok 1 rfl
theorem dX9_take_2 : decode cX9_take 2 = .ok (.invokevirtual 123, 3) := dec_of t_X9_take_ok 2 rfl
theorem dX9_take_5 : decode cX9_take 5 = .ok (.aload_n 0, 1) := dec_of t_X9_take_ok 3 rfl
theorem dX9_take_6 : decode cX9_take 6 = .ok (.iload_n 1, 1) := dec_of t_X9_take_ok 4 rfl
theorem dX9_take_7 : decode cX9_take 7 = .ok (.invokevirtual 126, 3) := dec_of t_X9_take_ok 5 rfl
theorem dX9_take_10 : decode cX9_take 10 = .ok (.ireturn, 1) := dec_of t_X9_take_ok 6 rfl
def t_X9_at : List (Nat × Instr × Nat) := [(0, .aload_n 0, 1), (1, .iload_n 1, 1), (2, .invokevirtual 123, 3), (5, .aload_n 0, 1), (6, .getfield 21, 3), (9, .getfield 27, 3), (12, .iload_n 1, 1), (13, .invokevirtual 130, 3), (16, .i2c, 1), (17, .ireturn, 1)]
theorem t_X9_at_ok : dec_ok cX9_at t_X9_at = true := by decide +kernel
theorem dX9_at_0 : decode cX9_at 0 = .ok (.aload_n 0, 1) := dec_of t_X9_at_ok 0 rfl
theorem dX9_at_1 : decode cX9_at 1 = .ok (.iload_n 1, 1) := dec_of t_X9_at_ok 1 rfl
theorem dX9_at_2 : decode cX9_at 2 = .ok (.invokevirtual 123, 3) := dec_of t_X9_at_ok 2 rfl
theorem dX9_at_5 : decode cX9_at 5 = .ok (.aload_n 0, 1) := dec_of t_X9_at_ok 3 rfl
theorem dX9_at_6 : decode cX9_at 6 = .ok (.getfield 21, 3) := dec_of t_X9_at_ok 4 rfl
theorem dX9_at_9 : decode cX9_at 9 = .ok (.getfield 27, 3) := dec_of t_X9_at_ok 5 rfl
theorem dX9_at_12 : decode cX9_at 12 = .ok (.iload_n 1, 1) := dec_of t_X9_at_ok 6 rfl
theorem dX9_at_13 : decode cX9_at 13 = .ok (.invokevirtual 130, 3) := dec_of t_X9_at_ok 7 rfl
theorem dX9_at_16 : decode cX9_at 16 = .ok (.i2c, 1) := dec_of t_X9_at_ok 8 rfl
theorem dX9_at_17 : decode cX9_at 17 = .ok (.ireturn, 1) := dec_of t_X9_at_ok 9 rfl
def t_X9_length : List (Nat × Instr × Nat) := [(0, .aload_n 0, 1), (1, .getfield 21, 3), (4, .getfield 27, 3), (7, .invokevirtual 89, 3), (10, .ireturn, 1)]
theorem t_X9_length_ok : dec_ok cX9_length t_X9_length = true := by decide +kernel
theorem dX9_length_0 : decode cX9_length 0 = .ok (.aload_n 0, 1) := dec_of t_X9_length_ok 0 rfl
theorem dX9_length_1 : decode cX9_length 1 = .ok (.getfield 21, 3) := dec_of t_X9_length_ok 1 rfl
theorem dX9_length_4 : decode cX9_length 4 = .ok (.getfield 27, 3) := dec_of t_X9_length_ok 2 rfl
theorem dX9_length_7 : decode cX9_length 7 = .ok (.invokevirtual 89, 3) := dec_of t_X9_length_ok 3 rfl
theorem dX9_length_10 : decode cX9_length 10 = .ok (.ireturn, 1) := dec_of t_X9_length_ok 4 rfl
def t_X9_rule : List (Nat × Instr × Nat) := [(0, .iload_n 1, 1), (1, .bipush 97, 2), (3, .if_icmp .eq 15, 3), (6, .iload_n 1, 1), (7, .bipush 115, 2), (9, .if_icmp .eq 9, 3), (12, .iload_n 1, 1), (13, .bipush 109, 2), (15, .if_icmp .ne 7, 3), (18, .iconst 1, 1), (19, .goto 4, 3), (22, .iconst 0, 1), (23, .istore 4, 2), (25, .iload 4, 2), (27, .ifCond .eq 14, 3), (30, .iload_n 3, 1), (31, .iconst 1, 1), (32, .if_icmp .lt 9, 3), (35, .iload_n 3, 1), (36, .bipush 9, 2), (38, .if_icmp .le 13, 3), (41, .new 82, 3), (44, .dup, 1), (45, .ldc 134, 2), (47, .invokespecial 86, 3), (50, .athrow, 1), (51, .aload_n 0, 1), (52, .getfield 14, 3), (55, .invokestatic 136, 3), (58, .ifCond .ne 13, 3), (61, .new 142, 3), (64, .dup, 1), (65, .ldc 144, 2), (67, .invokespecial 146, 3), (70, .athrow, 1), (71, .aload_n 0, 1), (72, .getfield 40, 3), (75, .getfield 147, 3), (78, .invokevirtual 150, 3), (81, .bipush 12, 2), (83, .if_icmp .lt 13, 3), (86, .new 93, 3), (89, .dup, 1), (90, .ldc 153, 2), (92, .invokespecial 97, 3), (95, .athrow, 1), (96, .aload_n 0, 1), (97, .getfield 40, 3), (100, .getfield 147, 3), (103, .new 137, 3), (106, .dup, 1), (107, .aload_n 0, 1), (108, .getfield 14, 3), (111, .iload_n 1, 1), (112, .iload_n 2, 1), (113, .iload_n 3, 1), (114, .invokespecial 155, 3), (117, .invokevirtual 54, 3), (120, .pop, 1), (121, .aload_n 0, 1), (122, .invokevirtual 158, 3), (125, .aload_n 0, 1), (126, .getfield 40, 3), (129, .getfield 147, 3), (132, .invokevirtual 150, 3), (135, .iconst 1, 1), (136, .isub, 1), (137, .ireturn, 1)]
theorem t_X9_rule_ok : dec_ok cX9_rule t_X9_rule = true := by decide +kernel
theorem dX9_rule_0 : decode cX9_rule 0 = .ok (.iload_n 1, 1) := dec_of t_X9_rule_ok 0 rfl
theorem dX9_rule_1 : decode cX9_rule 1 = .ok (.bipush 97, 2) := dec_of t_X9_rule_ok 1 rfl
theorem dX9_rule_3 : decode cX9_rule 3 = .ok (.if_icmp .eq 15, 3) := dec_of t_X9_rule_ok 2 rfl
theorem dX9_rule_6 : decode cX9_rule 6 = .ok (.iload_n 1, 1) := dec_of t_X9_rule_ok 3 rfl
theorem dX9_rule_7 : decode cX9_rule 7 = .ok (.bipush 115, 2) := dec_of t_X9_rule_ok 4 rfl
theorem dX9_rule_9 : decode cX9_rule 9 = .ok (.if_icmp .eq 9, 3) := dec_of t_X9_rule_ok 5 rfl
theorem dX9_rule_12 : decode cX9_rule 12 = .ok (.iload_n 1, 1) := dec_of t_X9_rule_ok 6 rfl
theorem dX9_rule_13 : decode cX9_rule 13 = .ok (.bipush 109, 2) := dec_of t_X9_rule_ok 7 rfl
theorem dX9_rule_15 : decode cX9_rule 15 = .ok (.if_icmp .ne 7, 3) := dec_of t_X9_rule_ok 8 rfl
theorem dX9_rule_18 : decode cX9_rule 18 = .ok (.iconst 1, 1) := dec_of t_X9_rule_ok 9 rfl
theorem dX9_rule_19 : decode cX9_rule 19 = .ok (.goto 4, 3) := dec_of t_X9_rule_ok 10 rfl
theorem dX9_rule_22 : decode cX9_rule 22 = .ok (.iconst 0, 1) := dec_of t_X9_rule_ok 11 rfl
theorem dX9_rule_23 : decode cX9_rule 23 = .ok (.istore 4, 2) := dec_of t_X9_rule_ok 12 rfl
theorem dX9_rule_25 : decode cX9_rule 25 = .ok (.iload 4, 2) := dec_of t_X9_rule_ok 13 rfl
theorem dX9_rule_27 : decode cX9_rule 27 = .ok (.ifCond .eq 14, 3) := dec_of t_X9_rule_ok 14 rfl
theorem dX9_rule_30 : decode cX9_rule 30 = .ok (.iload_n 3, 1) := dec_of t_X9_rule_ok 15 rfl
theorem dX9_rule_31 : decode cX9_rule 31 = .ok (.iconst 1, 1) := dec_of t_X9_rule_ok 16 rfl
theorem dX9_rule_32 : decode cX9_rule 32 = .ok (.if_icmp .lt 9, 3) := dec_of t_X9_rule_ok 17 rfl
theorem dX9_rule_35 : decode cX9_rule 35 = .ok (.iload_n 3, 1) := dec_of t_X9_rule_ok 18 rfl
theorem dX9_rule_36 : decode cX9_rule 36 = .ok (.bipush 9, 2) := dec_of t_X9_rule_ok 19 rfl
theorem dX9_rule_38 : decode cX9_rule 38 = .ok (.if_icmp .le 13, 3) := dec_of t_X9_rule_ok 20 rfl
theorem dX9_rule_41 : decode cX9_rule 41 = .ok (.new 82, 3) := dec_of t_X9_rule_ok 21 rfl
theorem dX9_rule_44 : decode cX9_rule 44 = .ok (.dup, 1) := dec_of t_X9_rule_ok 22 rfl
theorem dX9_rule_45 : decode cX9_rule 45 = .ok (.ldc 134, 2) := dec_of t_X9_rule_ok 23 rfl
theorem dX9_rule_47 : decode cX9_rule 47 = .ok (.invokespecial 86, 3) := dec_of t_X9_rule_ok 24 rfl
theorem dX9_rule_50 : decode cX9_rule 50 = .ok (.athrow, 1) := dec_of t_X9_rule_ok 25 rfl
theorem dX9_rule_51 : decode cX9_rule 51 = .ok (.aload_n 0, 1) := dec_of t_X9_rule_ok 26 rfl
theorem dX9_rule_52 : decode cX9_rule 52 = .ok (.getfield 14, 3) := dec_of t_X9_rule_ok 27 rfl
theorem dX9_rule_55 : decode cX9_rule 55 = .ok (.invokestatic 136, 3) := dec_of t_X9_rule_ok 28 rfl
theorem dX9_rule_58 : decode cX9_rule 58 = .ok (.ifCond .ne 13, 3) := dec_of t_X9_rule_ok 29 rfl
theorem dX9_rule_61 : decode cX9_rule 61 = .ok (.new 142, 3) := dec_of t_X9_rule_ok 30 rfl
theorem dX9_rule_64 : decode cX9_rule 64 = .ok (.dup, 1) := dec_of t_X9_rule_ok 31 rfl
theorem dX9_rule_65 : decode cX9_rule 65 = .ok (.ldc 144, 2) := dec_of t_X9_rule_ok 32 rfl
theorem dX9_rule_67 : decode cX9_rule 67 = .ok (.invokespecial 146, 3) := dec_of t_X9_rule_ok 33 rfl
theorem dX9_rule_70 : decode cX9_rule 70 = .ok (.athrow, 1) := dec_of t_X9_rule_ok 34 rfl
theorem dX9_rule_71 : decode cX9_rule 71 = .ok (.aload_n 0, 1) := dec_of t_X9_rule_ok 35 rfl
theorem dX9_rule_72 : decode cX9_rule 72 = .ok (.getfield 40, 3) := dec_of t_X9_rule_ok 36 rfl
theorem dX9_rule_75 : decode cX9_rule 75 = .ok (.getfield 147, 3) := dec_of t_X9_rule_ok 37 rfl
theorem dX9_rule_78 : decode cX9_rule 78 = .ok (.invokevirtual 150, 3) := dec_of t_X9_rule_ok 38 rfl
theorem dX9_rule_81 : decode cX9_rule 81 = .ok (.bipush 12, 2) := dec_of t_X9_rule_ok 39 rfl
theorem dX9_rule_83 : decode cX9_rule 83 = .ok (.if_icmp .lt 13, 3) := dec_of t_X9_rule_ok 40 rfl
theorem dX9_rule_86 : decode cX9_rule 86 = .ok (.new 93, 3) := dec_of t_X9_rule_ok 41 rfl
theorem dX9_rule_89 : decode cX9_rule 89 = .ok (.dup, 1) := dec_of t_X9_rule_ok 42 rfl
theorem dX9_rule_90 : decode cX9_rule 90 = .ok (.ldc 153, 2) := dec_of t_X9_rule_ok 43 rfl
theorem dX9_rule_92 : decode cX9_rule 92 = .ok (.invokespecial 97, 3) := dec_of t_X9_rule_ok 44 rfl
theorem dX9_rule_95 : decode cX9_rule 95 = .ok (.athrow, 1) := dec_of t_X9_rule_ok 45 rfl
theorem dX9_rule_96 : decode cX9_rule 96 = .ok (.aload_n 0, 1) := dec_of t_X9_rule_ok 46 rfl
theorem dX9_rule_97 : decode cX9_rule 97 = .ok (.getfield 40, 3) := dec_of t_X9_rule_ok 47 rfl
theorem dX9_rule_100 : decode cX9_rule 100 = .ok (.getfield 147, 3) := dec_of t_X9_rule_ok 48 rfl
theorem dX9_rule_103 : decode cX9_rule 103 = .ok (.new 137, 3) := dec_of t_X9_rule_ok 49 rfl
theorem dX9_rule_106 : decode cX9_rule 106 = .ok (.dup, 1) := dec_of t_X9_rule_ok 50 rfl
theorem dX9_rule_107 : decode cX9_rule 107 = .ok (.aload_n 0, 1) := dec_of t_X9_rule_ok 51 rfl
theorem dX9_rule_108 : decode cX9_rule 108 = .ok (.getfield 14, 3) := dec_of t_X9_rule_ok 52 rfl
theorem dX9_rule_111 : decode cX9_rule 111 = .ok (.iload_n 1, 1) := dec_of t_X9_rule_ok 53 rfl
theorem dX9_rule_112 : decode cX9_rule 112 = .ok (.iload_n 2, 1) := dec_of t_X9_rule_ok 54 rfl
theorem dX9_rule_113 : decode cX9_rule 113 = .ok (.iload_n 3, 1) := dec_of t_X9_rule_ok 55 rfl
theorem dX9_rule_114 : decode cX9_rule 114 = .ok (.invokespecial 155, 3) := dec_of t_X9_rule_ok 56 rfl
theorem dX9_rule_117 : decode cX9_rule 117 = .ok (.invokevirtual 54, 3) := dec_of t_X9_rule_ok 57 rfl
theorem dX9_rule_120 : decode cX9_rule 120 = .ok (.pop, 1) := dec_of t_X9_rule_ok 58 rfl
theorem dX9_rule_121 : decode cX9_rule 121 = .ok (.aload_n 0, 1) := dec_of t_X9_rule_ok 59 rfl
theorem dX9_rule_122 : decode cX9_rule 122 = .ok (.invokevirtual 158, 3) := dec_of t_X9_rule_ok 60 rfl
theorem dX9_rule_125 : decode cX9_rule 125 = .ok (.aload_n 0, 1) := dec_of t_X9_rule_ok 61 rfl
theorem dX9_rule_126 : decode cX9_rule 126 = .ok (.getfield 40, 3) := dec_of t_X9_rule_ok 62 rfl
theorem dX9_rule_129 : decode cX9_rule 129 = .ok (.getfield 147, 3) := dec_of t_X9_rule_ok 63 rfl
theorem dX9_rule_132 : decode cX9_rule 132 = .ok (.invokevirtual 150, 3) := dec_of t_X9_rule_ok 64 rfl
theorem dX9_rule_135 : decode cX9_rule 135 = .ok (.iconst 1, 1) := dec_of t_X9_rule_ok 65 rfl
theorem dX9_rule_136 : decode cX9_rule 136 = .ok (.isub, 1) := dec_of t_X9_rule_ok 66 rfl
theorem dX9_rule_137 : decode cX9_rule 137 = .ok (.ireturn, 1) := dec_of t_X9_rule_ok 67 rfl
def t_X9_except : List (Nat × Instr × Nat) := [(0, .aload_n 0, 1), (1, .iload_n 1, 1), (2, .invokevirtual 161, 3), (5, .astore_n 2, 1), (6, .aload_n 0, 1), (7, .getfield 14, 3), (10, .iconst 0, 1), (11, .aload_n 0, 1), (12, .getfield 14, 3), (15, .invokevirtual 89, 3), (18, .invokestatic 165, 3), (21, .ifCond .ne 13, 3), (24, .new 142, 3), (27, .dup, 1), (28, .ldc 169, 2), (30, .invokespecial 146, 3), (33, .athrow, 1), (34, .aload_n 2, 1), (35, .getfield 171, 3), (38, .invokevirtual 150, 3), (41, .iconst 3, 1), (42, .if_icmp .lt 13, 3), (45, .new 93, 3), (48, .dup, 1), (49, .ldc 174, 2), (51, .invokespecial 97, 3), (54, .athrow, 1), (55, .aload_n 2, 1), (56, .getfield 171, 3), (59, .aload_n 0, 1), (60, .getfield 14, 3), (63, .iconst 0, 1), (64, .aload_n 0, 1), (65, .getfield 14, 3), (68, .invokevirtual 89, 3), (71, .invokevirtual 176, 3), (74, .invokevirtual 54, 3), (77, .pop, 1), (78, .aload_n 0, 1), (79, .invokevirtual 158, 3), (82, .aload_n 2, 1), (83, .getfield 171, 3), (86, .invokevirtual 150, 3), (89, .ireturn, 1)]
theorem t_X9_except_ok : dec_ok cX9_except t_X9_except = true := by decide +kernel
theorem dX9_except_0 : decode cX9_except 0 = .ok (.aload_n 0, 1) := dec_of t_X9_except_ok 0 rfl
theorem dX9_except_1 : decode cX9_except 1 = .ok (.iload_n 1, 1) := dec_of t_X9_except_ok 1 rfl
theorem dX9_except_2 : decode cX9_except 2 = .ok (.invokevirtual 161, 3) := dec_of t_X9_except_ok 2 rfl
theorem dX9_except_5 : decode cX9_except 5 = .ok (.astore_n 2, 1) := dec_of t_X9_except_ok 3 rfl
theorem dX9_except_6 : decode cX9_except 6 = .ok (.aload_n 0, 1) := dec_of t_X9_except_ok 4 rfl
theorem dX9_except_7 : decode cX9_except 7 = .ok (.getfield 14, 3) := dec_of t_X9_except_ok 5 rfl
theorem dX9_except_10 : decode cX9_except 10 = .ok (.iconst 0, 1) := dec_of t_X9_except_ok 6 rfl
theorem dX9_except_11 : decode cX9_except 11 = .ok (.aload_n 0, 1) := dec_of t_X9_except_ok 7 rfl
theorem dX9_except_12 : decode cX9_except 12 = .ok (.getfield 14, 3) := dec_of t_X9_except_ok 8 rfl
theorem dX9_except_15 : decode cX9_except 15 = .ok (.invokevirtual 89, 3) := dec_of t_X9_except_ok 9 rfl
theorem dX9_except_18 : decode cX9_except 18 = .ok (.invokestatic 165, 3) := dec_of t_X9_except_ok 10 rfl
theorem dX9_except_21 : decode cX9_except 21 = .ok (.ifCond .ne 13, 3) := dec_of t_X9_except_ok 11 rfl
theorem dX9_except_24 : decode cX9_except 24 = .ok (.new 142, 3) := dec_of t_X9_except_ok 12 rfl
theorem dX9_except_27 : decode cX9_except 27 = .ok (.dup, 1) := dec_of t_X9_except_ok 13 rfl
theorem dX9_except_28 : decode cX9_except 28 = .ok (.ldc 169, 2) := dec_of t_X9_except_ok 14 rfl
theorem dX9_except_30 : decode cX9_except 30 = .ok (.invokespecial 146, 3) := dec_of t_X9_except_ok 15 rfl
theorem dX9_except_33 : decode cX9_except 33 = .ok (.athrow, 1) := dec_of t_X9_except_ok 16 rfl
theorem dX9_except_34 : decode cX9_except 34 = .ok (.aload_n 2, 1) := dec_of t_X9_except_ok 17 rfl
theorem dX9_except_35 : decode cX9_except 35 = .ok (.getfield 171, 3) := dec_of t_X9_except_ok 18 rfl
theorem dX9_except_38 : decode cX9_except 38 = .ok (.invokevirtual 150, 3) := dec_of t_X9_except_ok 19 rfl
theorem dX9_except_41 : decode cX9_except 41 = .ok (.iconst 3, 1) := dec_of t_X9_except_ok 20 rfl
theorem dX9_except_42 : decode cX9_except 42 = .ok (.if_icmp .lt 13, 3) := dec_of t_X9_except_ok 21 rfl
theorem dX9_except_45 : decode cX9_except 45 = .ok (.new 93, 3) := dec_of t_X9_except_ok 22 rfl
theorem dX9_except_48 : decode cX9_except 48 = .ok (.dup, 1) := dec_of t_X9_except_ok 23 rfl
theorem dX9_except_49 : decode cX9_except 49 = .ok (.ldc 174, 2) := dec_of t_X9_except_ok 24 rfl
theorem dX9_except_51 : decode cX9_except 51 = .ok (.invokespecial 97, 3) := dec_of t_X9_except_ok 25 rfl
theorem dX9_except_54 : decode cX9_except 54 = .ok (.athrow, 1) := dec_of t_X9_except_ok 26 rfl
theorem dX9_except_55 : decode cX9_except 55 = .ok (.aload_n 2, 1) := dec_of t_X9_except_ok 27 rfl
theorem dX9_except_56 : decode cX9_except 56 = .ok (.getfield 171, 3) := dec_of t_X9_except_ok 28 rfl
theorem dX9_except_59 : decode cX9_except 59 = .ok (.aload_n 0, 1) := dec_of t_X9_except_ok 29 rfl
theorem dX9_except_60 : decode cX9_except 60 = .ok (.getfield 14, 3) := dec_of t_X9_except_ok 30 rfl
theorem dX9_except_63 : decode cX9_except 63 = .ok (.iconst 0, 1) := dec_of t_X9_except_ok 31 rfl
theorem dX9_except_64 : decode cX9_except 64 = .ok (.aload_n 0, 1) := dec_of t_X9_except_ok 32 rfl
theorem dX9_except_65 : decode cX9_except 65 = .ok (.getfield 14, 3) := dec_of t_X9_except_ok 33 rfl
theorem dX9_except_68 : decode cX9_except 68 = .ok (.invokevirtual 89, 3) := dec_of t_X9_except_ok 34 rfl
theorem dX9_except_71 : decode cX9_except 71 = .ok (.invokevirtual 176, 3) := dec_of t_X9_except_ok 35 rfl
theorem dX9_except_74 : decode cX9_except 74 = .ok (.invokevirtual 54, 3) := dec_of t_X9_except_ok 36 rfl
theorem dX9_except_77 : decode cX9_except 77 = .ok (.pop, 1) := dec_of t_X9_except_ok 37 rfl
theorem dX9_except_78 : decode cX9_except 78 = .ok (.aload_n 0, 1) := dec_of t_X9_except_ok 38 rfl
theorem dX9_except_79 : decode cX9_except 79 = .ok (.invokevirtual 158, 3) := dec_of t_X9_except_ok 39 rfl
theorem dX9_except_82 : decode cX9_except 82 = .ok (.aload_n 2, 1) := dec_of t_X9_except_ok 40 rfl
theorem dX9_except_83 : decode cX9_except 83 = .ok (.getfield 171, 3) := dec_of t_X9_except_ok 41 rfl
theorem dX9_except_86 : decode cX9_except 86 = .ok (.invokevirtual 150, 3) := dec_of t_X9_except_ok 42 rfl
theorem dX9_except_89 : decode cX9_except 89 = .ok (.ireturn, 1) := dec_of t_X9_except_ok 43 rfl
def t_X9_suggest : List (Nat × Instr × Nat) := [(0, .aload_n 0, 1), (1, .iload_n 1, 1), (2, .invokevirtual 161, 3), (5, .astore_n 2, 1), (6, .aload_n 0, 1), (7, .getfield 14, 3), (10, .invokestatic 180, 3), (13, .ifCond .ne 13, 3), (16, .new 142, 3), (19, .dup, 1), (20, .ldc 183, 2), (22, .invokespecial 146, 3), (25, .athrow, 1), (26, .aload_n 2, 1), (27, .getfield 185, 3), (30, .invokevirtual 150, 3), (33, .iconst 2, 1), (34, .if_icmp .lt 13, 3), (37, .new 93, 3), (40, .dup, 1), (41, .ldc 188, 2), (43, .invokespecial 97, 3), (46, .athrow, 1), (47, .aload_n 2, 1), (48, .getfield 185, 3), (51, .aload_n 0, 1), (52, .getfield 14, 3), (55, .iconst 0, 1), (56, .aload_n 0, 1), (57, .getfield 14, 3), (60, .invokevirtual 89, 3), (63, .invokevirtual 176, 3), (66, .invokevirtual 54, 3), (69, .pop, 1), (70, .aload_n 0, 1), (71, .invokevirtual 158, 3), (74, .aload_n 2, 1), (75, .getfield 185, 3), (78, .invokevirtual 150, 3), (81, .ireturn, 1)]
theorem t_X9_suggest_ok : dec_ok cX9_suggest t_X9_suggest = true := by decide +kernel
theorem dX9_suggest_0 : decode cX9_suggest 0 = .ok (.aload_n 0, 1) := dec_of t_X9_suggest_ok 0 rfl
theorem dX9_suggest_1 : decode cX9_suggest 1 = .ok (.iload_n 1, 1) := dec_of t_X9_suggest_ok 1 rfl
theorem dX9_suggest_2 : decode cX9_suggest 2 = .ok (.invokevirtual 161, 3) := dec_of t_X9_suggest_ok 2 rfl
theorem dX9_suggest_5 : decode cX9_suggest 5 = .ok (.astore_n 2, 1) := dec_of t_X9_suggest_ok 3 rfl
theorem dX9_suggest_6 : decode cX9_suggest 6 = .ok (.aload_n 0, 1) := dec_of t_X9_suggest_ok 4 rfl
theorem dX9_suggest_7 : decode cX9_suggest 7 = .ok (.getfield 14, 3) := dec_of t_X9_suggest_ok 5 rfl
theorem dX9_suggest_10 : decode cX9_suggest 10 = .ok (.invokestatic 180, 3) := dec_of t_X9_suggest_ok 6 rfl
theorem dX9_suggest_13 : decode cX9_suggest 13 = .ok (.ifCond .ne 13, 3) := dec_of t_X9_suggest_ok 7 rfl
theorem dX9_suggest_16 : decode cX9_suggest 16 = .ok (.new 142, 3) := dec_of t_X9_suggest_ok 8 rfl
theorem dX9_suggest_19 : decode cX9_suggest 19 = .ok (.dup, 1) := dec_of t_X9_suggest_ok 9 rfl
theorem dX9_suggest_20 : decode cX9_suggest 20 = .ok (.ldc 183, 2) := dec_of t_X9_suggest_ok 10 rfl
theorem dX9_suggest_22 : decode cX9_suggest 22 = .ok (.invokespecial 146, 3) := dec_of t_X9_suggest_ok 11 rfl
theorem dX9_suggest_25 : decode cX9_suggest 25 = .ok (.athrow, 1) := dec_of t_X9_suggest_ok 12 rfl
theorem dX9_suggest_26 : decode cX9_suggest 26 = .ok (.aload_n 2, 1) := dec_of t_X9_suggest_ok 13 rfl
theorem dX9_suggest_27 : decode cX9_suggest 27 = .ok (.getfield 185, 3) := dec_of t_X9_suggest_ok 14 rfl
theorem dX9_suggest_30 : decode cX9_suggest 30 = .ok (.invokevirtual 150, 3) := dec_of t_X9_suggest_ok 15 rfl
theorem dX9_suggest_33 : decode cX9_suggest 33 = .ok (.iconst 2, 1) := dec_of t_X9_suggest_ok 16 rfl
theorem dX9_suggest_34 : decode cX9_suggest 34 = .ok (.if_icmp .lt 13, 3) := dec_of t_X9_suggest_ok 17 rfl
theorem dX9_suggest_37 : decode cX9_suggest 37 = .ok (.new 93, 3) := dec_of t_X9_suggest_ok 18 rfl
theorem dX9_suggest_40 : decode cX9_suggest 40 = .ok (.dup, 1) := dec_of t_X9_suggest_ok 19 rfl
theorem dX9_suggest_41 : decode cX9_suggest 41 = .ok (.ldc 188, 2) := dec_of t_X9_suggest_ok 20 rfl
theorem dX9_suggest_43 : decode cX9_suggest 43 = .ok (.invokespecial 97, 3) := dec_of t_X9_suggest_ok 21 rfl
theorem dX9_suggest_46 : decode cX9_suggest 46 = .ok (.athrow, 1) := dec_of t_X9_suggest_ok 22 rfl
theorem dX9_suggest_47 : decode cX9_suggest 47 = .ok (.aload_n 2, 1) := dec_of t_X9_suggest_ok 23 rfl
theorem dX9_suggest_48 : decode cX9_suggest 48 = .ok (.getfield 185, 3) := dec_of t_X9_suggest_ok 24 rfl
theorem dX9_suggest_51 : decode cX9_suggest 51 = .ok (.aload_n 0, 1) := dec_of t_X9_suggest_ok 25 rfl
theorem dX9_suggest_52 : decode cX9_suggest 52 = .ok (.getfield 14, 3) := dec_of t_X9_suggest_ok 26 rfl
theorem dX9_suggest_55 : decode cX9_suggest 55 = .ok (.iconst 0, 1) := dec_of t_X9_suggest_ok 27 rfl
theorem dX9_suggest_56 : decode cX9_suggest 56 = .ok (.aload_n 0, 1) := dec_of t_X9_suggest_ok 28 rfl
theorem dX9_suggest_57 : decode cX9_suggest 57 = .ok (.getfield 14, 3) := dec_of t_X9_suggest_ok 29 rfl
theorem dX9_suggest_60 : decode cX9_suggest 60 = .ok (.invokevirtual 89, 3) := dec_of t_X9_suggest_ok 30 rfl
theorem dX9_suggest_63 : decode cX9_suggest 63 = .ok (.invokevirtual 176, 3) := dec_of t_X9_suggest_ok 31 rfl
theorem dX9_suggest_66 : decode cX9_suggest 66 = .ok (.invokevirtual 54, 3) := dec_of t_X9_suggest_ok 32 rfl
theorem dX9_suggest_69 : decode cX9_suggest 69 = .ok (.pop, 1) := dec_of t_X9_suggest_ok 33 rfl
theorem dX9_suggest_70 : decode cX9_suggest 70 = .ok (.aload_n 0, 1) := dec_of t_X9_suggest_ok 34 rfl
theorem dX9_suggest_71 : decode cX9_suggest 71 = .ok (.invokevirtual 158, 3) := dec_of t_X9_suggest_ok 35 rfl
theorem dX9_suggest_74 : decode cX9_suggest 74 = .ok (.aload_n 2, 1) := dec_of t_X9_suggest_ok 36 rfl
theorem dX9_suggest_75 : decode cX9_suggest 75 = .ok (.getfield 185, 3) := dec_of t_X9_suggest_ok 37 rfl
theorem dX9_suggest_78 : decode cX9_suggest 78 = .ok (.invokevirtual 150, 3) := dec_of t_X9_suggest_ok 38 rfl
theorem dX9_suggest_81 : decode cX9_suggest 81 = .ok (.ireturn, 1) := dec_of t_X9_suggest_ok 39 rfl
def t_X9_pair : List (Nat × Instr × Nat) := [(0, .aload_n 0, 1), (1, .getfield 14, 3), (4, .bipush 32, 2), (6, .invokevirtual 190, 3), (9, .istore_n 1, 1), (10, .aload_n 0, 1), (11, .getfield 14, 3), (14, .iconst 0, 1), (15, .iload_n 1, 1), (16, .invokestatic 165, 3), (19, .ifCond .eq 23, 3), (22, .aload_n 0, 1), (23, .getfield 14, 3), (26, .iload_n 1, 1), (27, .iconst 1, 1), (28, .iadd, 1), (29, .aload_n 0, 1), (30, .getfield 14, 3), (33, .invokevirtual 89, 3), (36, .invokestatic 165, 3), (39, .ifCond .ne 13, 3), (42, .new 142, 3), (45, .dup, 1), (46, .ldc 193, 2), (48, .invokespecial 146, 3), (51, .athrow, 1), (52, .new 195, 3), (55, .dup, 1), (56, .aload_n 0, 1), (57, .getfield 14, 3), (60, .iconst 0, 1), (61, .iload_n 1, 1), (62, .invokevirtual 176, 3), (65, .aload_n 0, 1), (66, .getfield 14, 3), (69, .iload_n 1, 1), (70, .iconst 1, 1), (71, .iadd, 1), (72, .aload_n 0, 1), (73, .getfield 14, 3), (76, .invokevirtual 89, 3), (79, .invokevirtual 176, 3), (82, .invokespecial 197, 3), (85, .astore_n 2, 1), (86, .aload_n 2, 1), (87, .getfield 200, 3), (90, .aload_n 2, 1), (91, .getfield 203, 3), (94, .invokevirtual 206, 3), (97, .ifCond .eq 13, 3), (100, .new 142, 3), (103, .dup, 1), (104, .ldc 209, 2), (106, .invokespecial 146, 3), (109, .athrow, 1), (110, .aload_n 0, 1), (111, .getfield 40, 3), (114, .getfield 211, 3), (117, .invokevirtual 150, 3), (120, .iconst 4, 1), (121, .if_icmp .lt 13, 3), (124, .new 93, 3), (127, .dup, 1), (128, .ldc 214, 2), (130, .invokespecial 97, 3), (133, .athrow, 1), (134, .aload_n 0, 1), (135, .getfield 40, 3), (138, .getfield 211, 3), (141, .aload_n 2, 1), (142, .invokevirtual 54, 3), (145, .pop, 1), (146, .aload_n 0, 1), (147, .invokevirtual 158, 3), (150, .aload_n 0, 1), (151, .getfield 40, 3), (154, .getfield 211, 3), (157, .invokevirtual 150, 3), (160, .iconst 1, 1), (161, .isub, 1), (162, .ireturn, 1)]
theorem t_X9_pair_ok : dec_ok cX9_pair t_X9_pair = true := by decide +kernel
theorem dX9_pair_0 : decode cX9_pair 0 = .ok (.aload_n 0, 1) := dec_of t_X9_pair_ok 0 rfl
theorem dX9_pair_1 : decode cX9_pair 1 = .ok (.getfield 14, 3) := dec_of t_X9_pair_ok 1 rfl
theorem dX9_pair_4 : decode cX9_pair 4 = .ok (.bipush 32, 2) := dec_of t_X9_pair_ok 2 rfl
theorem dX9_pair_6 : decode cX9_pair 6 = .ok (.invokevirtual 190, 3) := dec_of t_X9_pair_ok 3 rfl
theorem dX9_pair_9 : decode cX9_pair 9 = .ok (.istore_n 1, 1) := dec_of t_X9_pair_ok 4 rfl
theorem dX9_pair_10 : decode cX9_pair 10 = .ok (.aload_n 0, 1) := dec_of t_X9_pair_ok 5 rfl
theorem dX9_pair_11 : decode cX9_pair 11 = .ok (.getfield 14, 3) := dec_of t_X9_pair_ok 6 rfl
theorem dX9_pair_14 : decode cX9_pair 14 = .ok (.iconst 0, 1) := dec_of t_X9_pair_ok 7 rfl
theorem dX9_pair_15 : decode cX9_pair 15 = .ok (.iload_n 1, 1) := dec_of t_X9_pair_ok 8 rfl
theorem dX9_pair_16 : decode cX9_pair 16 = .ok (.invokestatic 165, 3) := dec_of t_X9_pair_ok 9 rfl
theorem dX9_pair_19 : decode cX9_pair 19 = .ok (.ifCond .eq 23, 3) := dec_of t_X9_pair_ok 10 rfl
theorem dX9_pair_22 : decode cX9_pair 22 = .ok (.aload_n 0, 1) := dec_of t_X9_pair_ok 11 rfl
theorem dX9_pair_23 : decode cX9_pair 23 = .ok (.getfield 14, 3) := dec_of t_X9_pair_ok 12 rfl
theorem dX9_pair_26 : decode cX9_pair 26 = .ok (.iload_n 1, 1) := dec_of t_X9_pair_ok 13 rfl
theorem dX9_pair_27 : decode cX9_pair 27 = .ok (.iconst 1, 1) := dec_of t_X9_pair_ok 14 rfl
theorem dX9_pair_28 : decode cX9_pair 28 = .ok (.iadd, 1) := dec_of t_X9_pair_ok 15 rfl
theorem dX9_pair_29 : decode cX9_pair 29 = .ok (.aload_n 0, 1) := dec_of t_X9_pair_ok 16 rfl
theorem dX9_pair_30 : decode cX9_pair 30 = .ok (.getfield 14, 3) := dec_of t_X9_pair_ok 17 rfl
theorem dX9_pair_33 : decode cX9_pair 33 = .ok (.invokevirtual 89, 3) := dec_of t_X9_pair_ok 18 rfl
theorem dX9_pair_36 : decode cX9_pair 36 = .ok (.invokestatic 165, 3) := dec_of t_X9_pair_ok 19 rfl
theorem dX9_pair_39 : decode cX9_pair 39 = .ok (.ifCond .ne 13, 3) := dec_of t_X9_pair_ok 20 rfl
theorem dX9_pair_42 : decode cX9_pair 42 = .ok (.new 142, 3) := dec_of t_X9_pair_ok 21 rfl
theorem dX9_pair_45 : decode cX9_pair 45 = .ok (.dup, 1) := dec_of t_X9_pair_ok 22 rfl
theorem dX9_pair_46 : decode cX9_pair 46 = .ok (.ldc 193, 2) := dec_of t_X9_pair_ok 23 rfl
theorem dX9_pair_48 : decode cX9_pair 48 = .ok (.invokespecial 146, 3) := dec_of t_X9_pair_ok 24 rfl
theorem dX9_pair_51 : decode cX9_pair 51 = .ok (.athrow, 1) := dec_of t_X9_pair_ok 25 rfl
theorem dX9_pair_52 : decode cX9_pair 52 = .ok (.new 195, 3) := dec_of t_X9_pair_ok 26 rfl
theorem dX9_pair_55 : decode cX9_pair 55 = .ok (.dup, 1) := dec_of t_X9_pair_ok 27 rfl
theorem dX9_pair_56 : decode cX9_pair 56 = .ok (.aload_n 0, 1) := dec_of t_X9_pair_ok 28 rfl
theorem dX9_pair_57 : decode cX9_pair 57 = .ok (.getfield 14, 3) := dec_of t_X9_pair_ok 29 rfl
theorem dX9_pair_60 : decode cX9_pair 60 = .ok (.iconst 0, 1) := dec_of t_X9_pair_ok 30 rfl
theorem dX9_pair_61 : decode cX9_pair 61 = .ok (.iload_n 1, 1) := dec_of t_X9_pair_ok 31 rfl
theorem dX9_pair_62 : decode cX9_pair 62 = .ok (.invokevirtual 176, 3) := dec_of t_X9_pair_ok 32 rfl
theorem dX9_pair_65 : decode cX9_pair 65 = .ok (.aload_n 0, 1) := dec_of t_X9_pair_ok 33 rfl
theorem dX9_pair_66 : decode cX9_pair 66 = .ok (.getfield 14, 3) := dec_of t_X9_pair_ok 34 rfl
theorem dX9_pair_69 : decode cX9_pair 69 = .ok (.iload_n 1, 1) := dec_of t_X9_pair_ok 35 rfl
theorem dX9_pair_70 : decode cX9_pair 70 = .ok (.iconst 1, 1) := dec_of t_X9_pair_ok 36 rfl
theorem dX9_pair_71 : decode cX9_pair 71 = .ok (.iadd, 1) := dec_of t_X9_pair_ok 37 rfl
theorem dX9_pair_72 : decode cX9_pair 72 = .ok (.aload_n 0, 1) := dec_of t_X9_pair_ok 38 rfl
theorem dX9_pair_73 : decode cX9_pair 73 = .ok (.getfield 14, 3) := dec_of t_X9_pair_ok 39 rfl
theorem dX9_pair_76 : decode cX9_pair 76 = .ok (.invokevirtual 89, 3) := dec_of t_X9_pair_ok 40 rfl
theorem dX9_pair_79 : decode cX9_pair 79 = .ok (.invokevirtual 176, 3) := dec_of t_X9_pair_ok 41 rfl
theorem dX9_pair_82 : decode cX9_pair 82 = .ok (.invokespecial 197, 3) := dec_of t_X9_pair_ok 42 rfl
theorem dX9_pair_85 : decode cX9_pair 85 = .ok (.astore_n 2, 1) := dec_of t_X9_pair_ok 43 rfl
theorem dX9_pair_86 : decode cX9_pair 86 = .ok (.aload_n 2, 1) := dec_of t_X9_pair_ok 44 rfl
theorem dX9_pair_87 : decode cX9_pair 87 = .ok (.getfield 200, 3) := dec_of t_X9_pair_ok 45 rfl
theorem dX9_pair_90 : decode cX9_pair 90 = .ok (.aload_n 2, 1) := dec_of t_X9_pair_ok 46 rfl
theorem dX9_pair_91 : decode cX9_pair 91 = .ok (.getfield 203, 3) := dec_of t_X9_pair_ok 47 rfl
theorem dX9_pair_94 : decode cX9_pair 94 = .ok (.invokevirtual 206, 3) := dec_of t_X9_pair_ok 48 rfl
theorem dX9_pair_97 : decode cX9_pair 97 = .ok (.ifCond .eq 13, 3) := dec_of t_X9_pair_ok 49 rfl
theorem dX9_pair_100 : decode cX9_pair 100 = .ok (.new 142, 3) := dec_of t_X9_pair_ok 50 rfl
theorem dX9_pair_103 : decode cX9_pair 103 = .ok (.dup, 1) := dec_of t_X9_pair_ok 51 rfl
theorem dX9_pair_104 : decode cX9_pair 104 = .ok (.ldc 209, 2) := dec_of t_X9_pair_ok 52 rfl
theorem dX9_pair_106 : decode cX9_pair 106 = .ok (.invokespecial 146, 3) := dec_of t_X9_pair_ok 53 rfl
theorem dX9_pair_109 : decode cX9_pair 109 = .ok (.athrow, 1) := dec_of t_X9_pair_ok 54 rfl
theorem dX9_pair_110 : decode cX9_pair 110 = .ok (.aload_n 0, 1) := dec_of t_X9_pair_ok 55 rfl
theorem dX9_pair_111 : decode cX9_pair 111 = .ok (.getfield 40, 3) := dec_of t_X9_pair_ok 56 rfl
theorem dX9_pair_114 : decode cX9_pair 114 = .ok (.getfield 211, 3) := dec_of t_X9_pair_ok 57 rfl
theorem dX9_pair_117 : decode cX9_pair 117 = .ok (.invokevirtual 150, 3) := dec_of t_X9_pair_ok 58 rfl
theorem dX9_pair_120 : decode cX9_pair 120 = .ok (.iconst 4, 1) := dec_of t_X9_pair_ok 59 rfl
theorem dX9_pair_121 : decode cX9_pair 121 = .ok (.if_icmp .lt 13, 3) := dec_of t_X9_pair_ok 60 rfl
theorem dX9_pair_124 : decode cX9_pair 124 = .ok (.new 93, 3) := dec_of t_X9_pair_ok 61 rfl
theorem dX9_pair_127 : decode cX9_pair 127 = .ok (.dup, 1) := dec_of t_X9_pair_ok 62 rfl
theorem dX9_pair_128 : decode cX9_pair 128 = .ok (.ldc 214, 2) := dec_of t_X9_pair_ok 63 rfl
theorem dX9_pair_130 : decode cX9_pair 130 = .ok (.invokespecial 97, 3) := dec_of t_X9_pair_ok 64 rfl
theorem dX9_pair_133 : decode cX9_pair 133 = .ok (.athrow, 1) := dec_of t_X9_pair_ok 65 rfl
theorem dX9_pair_134 : decode cX9_pair 134 = .ok (.aload_n 0, 1) := dec_of t_X9_pair_ok 66 rfl
theorem dX9_pair_135 : decode cX9_pair 135 = .ok (.getfield 40, 3) := dec_of t_X9_pair_ok 67 rfl
theorem dX9_pair_138 : decode cX9_pair 138 = .ok (.getfield 211, 3) := dec_of t_X9_pair_ok 68 rfl
theorem dX9_pair_141 : decode cX9_pair 141 = .ok (.aload_n 2, 1) := dec_of t_X9_pair_ok 69 rfl
theorem dX9_pair_142 : decode cX9_pair 142 = .ok (.invokevirtual 54, 3) := dec_of t_X9_pair_ok 70 rfl
theorem dX9_pair_145 : decode cX9_pair 145 = .ok (.pop, 1) := dec_of t_X9_pair_ok 71 rfl
theorem dX9_pair_146 : decode cX9_pair 146 = .ok (.aload_n 0, 1) := dec_of t_X9_pair_ok 72 rfl
theorem dX9_pair_147 : decode cX9_pair 147 = .ok (.invokevirtual 158, 3) := dec_of t_X9_pair_ok 73 rfl
theorem dX9_pair_150 : decode cX9_pair 150 = .ok (.aload_n 0, 1) := dec_of t_X9_pair_ok 74 rfl
theorem dX9_pair_151 : decode cX9_pair 151 = .ok (.getfield 40, 3) := dec_of t_X9_pair_ok 75 rfl
theorem dX9_pair_154 : decode cX9_pair 154 = .ok (.getfield 211, 3) := dec_of t_X9_pair_ok 76 rfl
theorem dX9_pair_157 : decode cX9_pair 157 = .ok (.invokevirtual 150, 3) := dec_of t_X9_pair_ok 77 rfl
theorem dX9_pair_160 : decode cX9_pair 160 = .ok (.iconst 1, 1) := dec_of t_X9_pair_ok 78 rfl
theorem dX9_pair_161 : decode cX9_pair 161 = .ok (.isub, 1) := dec_of t_X9_pair_ok 79 rfl
theorem dX9_pair_162 : decode cX9_pair 162 = .ok (.ireturn, 1) := dec_of t_X9_pair_ok 80 rfl
def t_X9_use : List (Nat × Instr × Nat) := [(0, .aload_n 0, 1), (1, .iload_n 2, 1), (2, .invokevirtual 161, 3), (5, .pop, 1), (6, .aload_n 0, 1), (7, .iload_n 1, 1), (8, .invokevirtual 216, 3), (11, .astore 4, 2), (13, .aload 4, 2), (15, .iload_n 2, 1), (16, .invokevirtual 220, 3), (19, .istore 5, 2), (21, .aload 4, 2), (23, .iload_n 2, 1), (24, .iload_n 3, 1), (25, .invokevirtual 223, 3), (28, .aload_n 0, 1), (29, .iload_n 1, 1), (30, .invokevirtual 227, 3), (33, .iload 5, 2), (35, .ireturn, 1)]
theorem t_X9_use_ok : dec_ok cX9_use t_X9_use = true := by decide +kernel
theorem dX9_use_0 : decode cX9_use 0 = .ok (.aload_n 0, 1) := dec_of t_X9_use_ok 0 rfl
theorem dX9_use_1 : decode cX9_use 1 = .ok (.iload_n 2, 1) := dec_of t_X9_use_ok 1 rfl
theorem dX9_use_2 : decode cX9_use 2 = .ok (.invokevirtual 161, 3) := dec_of t_X9_use_ok 2 rfl
theorem dX9_use_5 : decode cX9_use 5 = .ok (.pop, 1) := dec_of t_X9_use_ok 3 rfl
theorem dX9_use_6 : decode cX9_use 6 = .ok (.aload_n 0, 1) := dec_of t_X9_use_ok 4 rfl
theorem dX9_use_7 : decode cX9_use 7 = .ok (.iload_n 1, 1) := dec_of t_X9_use_ok 5 rfl
theorem dX9_use_8 : decode cX9_use 8 = .ok (.invokevirtual 216, 3) := dec_of t_X9_use_ok 6 rfl
theorem dX9_use_11 : decode cX9_use 11 = .ok (.astore 4, 2) := dec_of t_X9_use_ok 7 rfl
theorem dX9_use_13 : decode cX9_use 13 = .ok (.aload 4, 2) := dec_of t_X9_use_ok 8 rfl
theorem dX9_use_15 : decode cX9_use 15 = .ok (.iload_n 2, 1) := dec_of t_X9_use_ok 9 rfl
theorem dX9_use_16 : decode cX9_use 16 = .ok (.invokevirtual 220, 3) := dec_of t_X9_use_ok 10 rfl
theorem dX9_use_19 : decode cX9_use 19 = .ok (.istore 5, 2) := dec_of t_X9_use_ok 11 rfl
theorem dX9_use_21 : decode cX9_use 21 = .ok (.aload 4, 2) := dec_of t_X9_use_ok 12 rfl
theorem dX9_use_23 : decode cX9_use 23 = .ok (.iload_n 2, 1) := dec_of t_X9_use_ok 13 rfl
theorem dX9_use_24 : decode cX9_use 24 = .ok (.iload_n 3, 1) := dec_of t_X9_use_ok 14 rfl
theorem dX9_use_25 : decode cX9_use 25 = .ok (.invokevirtual 223, 3) := dec_of t_X9_use_ok 15 rfl
theorem dX9_use_28 : decode cX9_use 28 = .ok (.aload_n 0, 1) := dec_of t_X9_use_ok 16 rfl
theorem dX9_use_29 : decode cX9_use 29 = .ok (.iload_n 1, 1) := dec_of t_X9_use_ok 17 rfl
theorem dX9_use_30 : decode cX9_use 30 = .ok (.invokevirtual 227, 3) := dec_of t_X9_use_ok 18 rfl
theorem dX9_use_33 : decode cX9_use 33 = .ok (.iload 5, 2) := dec_of t_X9_use_ok 19 rfl
theorem dX9_use_35 : decode cX9_use 35 = .ok (.ireturn, 1) := dec_of t_X9_use_ok 20 rfl
def t_X9_rank : List (Nat × Instr × Nat) := [(0, .aload_n 0, 1), (1, .iload_n 2, 1), (2, .invokevirtual 161, 3), (5, .pop, 1), (6, .aload_n 0, 1), (7, .iload_n 1, 1), (8, .invokevirtual 216, 3), (11, .astore 4, 2), (13, .iload_n 3, 1), (14, .ifCond .lt 9, 3), (17, .iload_n 3, 1), (18, .bipush 9, 2), (20, .if_icmp .le 13, 3), (23, .new 82, 3), (26, .dup, 1), (27, .ldc 230, 2), (29, .invokespecial 86, 3), (32, .athrow, 1), (33, .aload_n 0, 1), (34, .getfield 40, 3), (37, .aload 4, 2), (39, .iload_n 2, 1), (40, .invokevirtual 232, 3), (43, .istore 5, 2), (45, .aload 4, 2), (47, .getfield 236, 3), (50, .iload_n 2, 1), (51, .iload_n 3, 1), (52, .invokevirtual 239, 3), (55, .aload_n 0, 1), (56, .iload_n 1, 1), (57, .invokevirtual 227, 3), (60, .iload 5, 2), (62, .ireturn, 1)]
theorem t_X9_rank_ok : dec_ok cX9_rank t_X9_rank = true := by decide +kernel
theorem dX9_rank_0 : decode cX9_rank 0 = .ok (.aload_n 0, 1) := dec_of t_X9_rank_ok 0 rfl
theorem dX9_rank_1 : decode cX9_rank 1 = .ok (.iload_n 2, 1) := dec_of t_X9_rank_ok 1 rfl
theorem dX9_rank_2 : decode cX9_rank 2 = .ok (.invokevirtual 161, 3) := dec_of t_X9_rank_ok 2 rfl
theorem dX9_rank_5 : decode cX9_rank 5 = .ok (.pop, 1) := dec_of t_X9_rank_ok 3 rfl
theorem dX9_rank_6 : decode cX9_rank 6 = .ok (.aload_n 0, 1) := dec_of t_X9_rank_ok 4 rfl
theorem dX9_rank_7 : decode cX9_rank 7 = .ok (.iload_n 1, 1) := dec_of t_X9_rank_ok 5 rfl
theorem dX9_rank_8 : decode cX9_rank 8 = .ok (.invokevirtual 216, 3) := dec_of t_X9_rank_ok 6 rfl
theorem dX9_rank_11 : decode cX9_rank 11 = .ok (.astore 4, 2) := dec_of t_X9_rank_ok 7 rfl
theorem dX9_rank_13 : decode cX9_rank 13 = .ok (.iload_n 3, 1) := dec_of t_X9_rank_ok 8 rfl
theorem dX9_rank_14 : decode cX9_rank 14 = .ok (.ifCond .lt 9, 3) := dec_of t_X9_rank_ok 9 rfl
theorem dX9_rank_17 : decode cX9_rank 17 = .ok (.iload_n 3, 1) := dec_of t_X9_rank_ok 10 rfl
theorem dX9_rank_18 : decode cX9_rank 18 = .ok (.bipush 9, 2) := dec_of t_X9_rank_ok 11 rfl
theorem dX9_rank_20 : decode cX9_rank 20 = .ok (.if_icmp .le 13, 3) := dec_of t_X9_rank_ok 12 rfl
theorem dX9_rank_23 : decode cX9_rank 23 = .ok (.new 82, 3) := dec_of t_X9_rank_ok 13 rfl
theorem dX9_rank_26 : decode cX9_rank 26 = .ok (.dup, 1) := dec_of t_X9_rank_ok 14 rfl
theorem dX9_rank_27 : decode cX9_rank 27 = .ok (.ldc 230, 2) := dec_of t_X9_rank_ok 15 rfl
theorem dX9_rank_29 : decode cX9_rank 29 = .ok (.invokespecial 86, 3) := dec_of t_X9_rank_ok 16 rfl
theorem dX9_rank_32 : decode cX9_rank 32 = .ok (.athrow, 1) := dec_of t_X9_rank_ok 17 rfl
theorem dX9_rank_33 : decode cX9_rank 33 = .ok (.aload_n 0, 1) := dec_of t_X9_rank_ok 18 rfl
theorem dX9_rank_34 : decode cX9_rank 34 = .ok (.getfield 40, 3) := dec_of t_X9_rank_ok 19 rfl
theorem dX9_rank_37 : decode cX9_rank 37 = .ok (.aload 4, 2) := dec_of t_X9_rank_ok 20 rfl
theorem dX9_rank_39 : decode cX9_rank 39 = .ok (.iload_n 2, 1) := dec_of t_X9_rank_ok 21 rfl
theorem dX9_rank_40 : decode cX9_rank 40 = .ok (.invokevirtual 232, 3) := dec_of t_X9_rank_ok 22 rfl
theorem dX9_rank_43 : decode cX9_rank 43 = .ok (.istore 5, 2) := dec_of t_X9_rank_ok 23 rfl
theorem dX9_rank_45 : decode cX9_rank 45 = .ok (.aload 4, 2) := dec_of t_X9_rank_ok 24 rfl
theorem dX9_rank_47 : decode cX9_rank 47 = .ok (.getfield 236, 3) := dec_of t_X9_rank_ok 25 rfl
theorem dX9_rank_50 : decode cX9_rank 50 = .ok (.iload_n 2, 1) := dec_of t_X9_rank_ok 26 rfl
theorem dX9_rank_51 : decode cX9_rank 51 = .ok (.iload_n 3, 1) := dec_of t_X9_rank_ok 27 rfl
theorem dX9_rank_52 : decode cX9_rank 52 = .ok (.invokevirtual 239, 3) := dec_of t_X9_rank_ok 28 rfl
theorem dX9_rank_55 : decode cX9_rank 55 = .ok (.aload_n 0, 1) := dec_of t_X9_rank_ok 29 rfl
theorem dX9_rank_56 : decode cX9_rank 56 = .ok (.iload_n 1, 1) := dec_of t_X9_rank_ok 30 rfl
theorem dX9_rank_57 : decode cX9_rank 57 = .ok (.invokevirtual 227, 3) := dec_of t_X9_rank_ok 31 rfl
theorem dX9_rank_60 : decode cX9_rank 60 = .ok (.iload 5, 2) := dec_of t_X9_rank_ok 32 rfl
theorem dX9_rank_62 : decode cX9_rank 62 = .ok (.ireturn, 1) := dec_of t_X9_rank_ok 33 rfl
def t_X9_limit : List (Nat × Instr × Nat) := [(0, .aload_n 0, 1), (1, .iload_n 1, 1), (2, .invokevirtual 216, 3), (5, .astore_n 3, 1), (6, .iload_n 2, 1), (7, .ifCond .lt 9, 3), (10, .iload_n 2, 1), (11, .bipush 20, 2), (13, .if_icmp .le 13, 3), (16, .new 82, 3), (19, .dup, 1), (20, .ldc 243, 2), (22, .invokespecial 86, 3), (25, .athrow, 1), (26, .aload_n 3, 1), (27, .getfield 245, 3), (30, .istore 4, 2), (32, .aload_n 3, 1), (33, .iload_n 2, 1), (34, .putfield 245, 3), (37, .aload_n 0, 1), (38, .iload_n 1, 1), (39, .invokevirtual 227, 3), (42, .iload 4, 2), (44, .ireturn, 1)]
theorem t_X9_limit_ok : dec_ok cX9_limit t_X9_limit = true := by decide +kernel
theorem dX9_limit_0 : decode cX9_limit 0 = .ok (.aload_n 0, 1) := dec_of t_X9_limit_ok 0 rfl
theorem dX9_limit_1 : decode cX9_limit 1 = .ok (.iload_n 1, 1) := dec_of t_X9_limit_ok 1 rfl
theorem dX9_limit_2 : decode cX9_limit 2 = .ok (.invokevirtual 216, 3) := dec_of t_X9_limit_ok 2 rfl
theorem dX9_limit_5 : decode cX9_limit 5 = .ok (.astore_n 3, 1) := dec_of t_X9_limit_ok 3 rfl
theorem dX9_limit_6 : decode cX9_limit 6 = .ok (.iload_n 2, 1) := dec_of t_X9_limit_ok 4 rfl
theorem dX9_limit_7 : decode cX9_limit 7 = .ok (.ifCond .lt 9, 3) := dec_of t_X9_limit_ok 5 rfl
theorem dX9_limit_10 : decode cX9_limit 10 = .ok (.iload_n 2, 1) := dec_of t_X9_limit_ok 6 rfl
theorem dX9_limit_11 : decode cX9_limit 11 = .ok (.bipush 20, 2) := dec_of t_X9_limit_ok 7 rfl
theorem dX9_limit_13 : decode cX9_limit 13 = .ok (.if_icmp .le 13, 3) := dec_of t_X9_limit_ok 8 rfl
theorem dX9_limit_16 : decode cX9_limit 16 = .ok (.new 82, 3) := dec_of t_X9_limit_ok 9 rfl
theorem dX9_limit_19 : decode cX9_limit 19 = .ok (.dup, 1) := dec_of t_X9_limit_ok 10 rfl
theorem dX9_limit_20 : decode cX9_limit 20 = .ok (.ldc 243, 2) := dec_of t_X9_limit_ok 11 rfl
theorem dX9_limit_22 : decode cX9_limit 22 = .ok (.invokespecial 86, 3) := dec_of t_X9_limit_ok 12 rfl
theorem dX9_limit_25 : decode cX9_limit 25 = .ok (.athrow, 1) := dec_of t_X9_limit_ok 13 rfl
theorem dX9_limit_26 : decode cX9_limit 26 = .ok (.aload_n 3, 1) := dec_of t_X9_limit_ok 14 rfl
theorem dX9_limit_27 : decode cX9_limit 27 = .ok (.getfield 245, 3) := dec_of t_X9_limit_ok 15 rfl
theorem dX9_limit_30 : decode cX9_limit 30 = .ok (.istore 4, 2) := dec_of t_X9_limit_ok 16 rfl
theorem dX9_limit_32 : decode cX9_limit 32 = .ok (.aload_n 3, 1) := dec_of t_X9_limit_ok 17 rfl
theorem dX9_limit_33 : decode cX9_limit 33 = .ok (.iload_n 2, 1) := dec_of t_X9_limit_ok 18 rfl
theorem dX9_limit_34 : decode cX9_limit 34 = .ok (.putfield 245, 3) := dec_of t_X9_limit_ok 19 rfl
theorem dX9_limit_37 : decode cX9_limit 37 = .ok (.aload_n 0, 1) := dec_of t_X9_limit_ok 20 rfl
theorem dX9_limit_38 : decode cX9_limit 38 = .ok (.iload_n 1, 1) := dec_of t_X9_limit_ok 21 rfl
theorem dX9_limit_39 : decode cX9_limit 39 = .ok (.invokevirtual 227, 3) := dec_of t_X9_limit_ok 22 rfl
theorem dX9_limit_42 : decode cX9_limit 42 = .ok (.iload 4, 2) := dec_of t_X9_limit_ok 23 rfl
theorem dX9_limit_44 : decode cX9_limit 44 = .ok (.ireturn, 1) := dec_of t_X9_limit_ok 24 rfl
def t_X9_findings : List (Nat × Instr × Nat) := [(0, .aload_n 0, 1), (1, .iload_n 1, 1), (2, .invokevirtual 248, 3), (5, .pop, 1), (6, .aload_n 0, 1), (7, .getfield 63, 3), (10, .invokevirtual 251, 3), (13, .ireturn, 1)]
theorem t_X9_findings_ok : dec_ok cX9_findings t_X9_findings = true := by decide +kernel
theorem dX9_findings_0 : decode cX9_findings 0 = .ok (.aload_n 0, 1) := dec_of t_X9_findings_ok 0 rfl
theorem dX9_findings_1 : decode cX9_findings 1 = .ok (.iload_n 1, 1) := dec_of t_X9_findings_ok 1 rfl
theorem dX9_findings_2 : decode cX9_findings 2 = .ok (.invokevirtual 248, 3) := dec_of t_X9_findings_ok 2 rfl
theorem dX9_findings_5 : decode cX9_findings 5 = .ok (.pop, 1) := dec_of t_X9_findings_ok 3 rfl
theorem dX9_findings_6 : decode cX9_findings 6 = .ok (.aload_n 0, 1) := dec_of t_X9_findings_ok 4 rfl
theorem dX9_findings_7 : decode cX9_findings 7 = .ok (.getfield 63, 3) := dec_of t_X9_findings_ok 5 rfl
theorem dX9_findings_10 : decode cX9_findings 10 = .ok (.invokevirtual 251, 3) := dec_of t_X9_findings_ok 6 rfl
theorem dX9_findings_13 : decode cX9_findings 13 = .ok (.ireturn, 1) := dec_of t_X9_findings_ok 7 rfl
def t_X9_of : List (Nat × Instr × Nat) := [(0, .aload_n 0, 1), (1, .iload_n 1, 1), (2, .invokevirtual 248, 3), (5, .astore 4, 2), (7, .iload_n 3, 1), (8, .bipush 102, 2), (10, .if_icmp .eq 43, 3), (13, .iload_n 3, 1), (14, .bipush 108, 2), (16, .if_icmp .eq 37, 3), (19, .iload_n 3, 1), (20, .bipush 114, 2), (22, .if_icmp .eq 31, 3), (25, .iload_n 3, 1), (26, .bipush 107, 2), (28, .if_icmp .eq 25, 3), (31, .iload_n 3, 1), (32, .bipush 119, 2), (34, .if_icmp .eq 19, 3), (37, .iload_n 3, 1), (38, .bipush 115, 2), (40, .if_icmp .eq 13, 3), (43, .new 82, 3), (46, .dup, 1), (47, .ldc 252, 2), (49, .invokespecial 86, 3), (52, .athrow, 1), (53, .aload_n 0, 1), (54, .iload_n 2, 1), (55, .invokevirtual 254, 3), (58, .aload_n 0, 1), (59, .getfield 63, 3), (62, .iload_n 2, 1), (63, .invokevirtual 257, 3), (66, .istore 5, 2), (68, .iload_n 3, 1), (69, .bipush 102, 2), (71, .if_icmp .ne 12, 3), (74, .aload_n 0, 1), (75, .getfield 63, 3), (78, .iload_n 2, 1), (79, .invokevirtual 260, 3), (82, .ireturn, 1), (83, .iload_n 3, 1), (84, .bipush 108, 2), (86, .if_icmp .ne 12, 3), (89, .aload_n 0, 1), (90, .getfield 63, 3), (93, .iload_n 2, 1), (94, .invokevirtual 263, 3), (97, .ireturn, 1), (98, .iload_n 3, 1), (99, .bipush 114, 2), (101, .if_icmp .ne 6, 3), (104, .iload 5, 2), (106, .ireturn, 1), (107, .iload_n 3, 1), (108, .bipush 107, 2), (110, .if_icmp .ne 15, 3), (113, .aload_n 0, 1), (114, .getfield 40, 3), (117, .aload 4, 2), (119, .iload 5, 2), (121, .invokevirtual 232, 3), (124, .ireturn, 1), (125, .iload_n 3, 1), (126, .bipush 119, 2), (128, .if_icmp .ne 22, 3), (131, .aload_n 0, 1), (132, .getfield 21, 3), (135, .getfield 266, 3), (138, .aload_n 0, 1), (139, .getfield 63, 3), (142, .iload_n 2, 1), (143, .invokevirtual 260, 3), (146, .invokevirtual 130, 3), (149, .ireturn, 1), (150, .aload_n 0, 1), (151, .getfield 40, 3), (154, .iload 5, 2), (156, .invokevirtual 269, 3), (159, .ireturn, 1)]
theorem t_X9_of_ok : dec_ok cX9_of t_X9_of = true := by decide +kernel
theorem dX9_of_0 : decode cX9_of 0 = .ok (.aload_n 0, 1) := dec_of t_X9_of_ok 0 rfl
theorem dX9_of_1 : decode cX9_of 1 = .ok (.iload_n 1, 1) := dec_of t_X9_of_ok 1 rfl
theorem dX9_of_2 : decode cX9_of 2 = .ok (.invokevirtual 248, 3) := dec_of t_X9_of_ok 2 rfl
theorem dX9_of_5 : decode cX9_of 5 = .ok (.astore 4, 2) := dec_of t_X9_of_ok 3 rfl
theorem dX9_of_7 : decode cX9_of 7 = .ok (.iload_n 3, 1) := dec_of t_X9_of_ok 4 rfl
theorem dX9_of_8 : decode cX9_of 8 = .ok (.bipush 102, 2) := dec_of t_X9_of_ok 5 rfl
theorem dX9_of_10 : decode cX9_of 10 = .ok (.if_icmp .eq 43, 3) := dec_of t_X9_of_ok 6 rfl
theorem dX9_of_13 : decode cX9_of 13 = .ok (.iload_n 3, 1) := dec_of t_X9_of_ok 7 rfl
theorem dX9_of_14 : decode cX9_of 14 = .ok (.bipush 108, 2) := dec_of t_X9_of_ok 8 rfl
theorem dX9_of_16 : decode cX9_of 16 = .ok (.if_icmp .eq 37, 3) := dec_of t_X9_of_ok 9 rfl
theorem dX9_of_19 : decode cX9_of 19 = .ok (.iload_n 3, 1) := dec_of t_X9_of_ok 10 rfl
theorem dX9_of_20 : decode cX9_of 20 = .ok (.bipush 114, 2) := dec_of t_X9_of_ok 11 rfl
theorem dX9_of_22 : decode cX9_of 22 = .ok (.if_icmp .eq 31, 3) := dec_of t_X9_of_ok 12 rfl
theorem dX9_of_25 : decode cX9_of 25 = .ok (.iload_n 3, 1) := dec_of t_X9_of_ok 13 rfl
theorem dX9_of_26 : decode cX9_of 26 = .ok (.bipush 107, 2) := dec_of t_X9_of_ok 14 rfl
theorem dX9_of_28 : decode cX9_of 28 = .ok (.if_icmp .eq 25, 3) := dec_of t_X9_of_ok 15 rfl
theorem dX9_of_31 : decode cX9_of 31 = .ok (.iload_n 3, 1) := dec_of t_X9_of_ok 16 rfl
theorem dX9_of_32 : decode cX9_of 32 = .ok (.bipush 119, 2) := dec_of t_X9_of_ok 17 rfl
theorem dX9_of_34 : decode cX9_of 34 = .ok (.if_icmp .eq 19, 3) := dec_of t_X9_of_ok 18 rfl
theorem dX9_of_37 : decode cX9_of 37 = .ok (.iload_n 3, 1) := dec_of t_X9_of_ok 19 rfl
theorem dX9_of_38 : decode cX9_of 38 = .ok (.bipush 115, 2) := dec_of t_X9_of_ok 20 rfl
theorem dX9_of_40 : decode cX9_of 40 = .ok (.if_icmp .eq 13, 3) := dec_of t_X9_of_ok 21 rfl
theorem dX9_of_43 : decode cX9_of 43 = .ok (.new 82, 3) := dec_of t_X9_of_ok 22 rfl
theorem dX9_of_46 : decode cX9_of 46 = .ok (.dup, 1) := dec_of t_X9_of_ok 23 rfl
theorem dX9_of_47 : decode cX9_of 47 = .ok (.ldc 252, 2) := dec_of t_X9_of_ok 24 rfl
theorem dX9_of_49 : decode cX9_of 49 = .ok (.invokespecial 86, 3) := dec_of t_X9_of_ok 25 rfl
theorem dX9_of_52 : decode cX9_of 52 = .ok (.athrow, 1) := dec_of t_X9_of_ok 26 rfl
theorem dX9_of_53 : decode cX9_of 53 = .ok (.aload_n 0, 1) := dec_of t_X9_of_ok 27 rfl
theorem dX9_of_54 : decode cX9_of 54 = .ok (.iload_n 2, 1) := dec_of t_X9_of_ok 28 rfl
theorem dX9_of_55 : decode cX9_of 55 = .ok (.invokevirtual 254, 3) := dec_of t_X9_of_ok 29 rfl
theorem dX9_of_58 : decode cX9_of 58 = .ok (.aload_n 0, 1) := dec_of t_X9_of_ok 30 rfl
theorem dX9_of_59 : decode cX9_of 59 = .ok (.getfield 63, 3) := dec_of t_X9_of_ok 31 rfl
theorem dX9_of_62 : decode cX9_of 62 = .ok (.iload_n 2, 1) := dec_of t_X9_of_ok 32 rfl
theorem dX9_of_63 : decode cX9_of 63 = .ok (.invokevirtual 257, 3) := dec_of t_X9_of_ok 33 rfl
theorem dX9_of_66 : decode cX9_of 66 = .ok (.istore 5, 2) := dec_of t_X9_of_ok 34 rfl
theorem dX9_of_68 : decode cX9_of 68 = .ok (.iload_n 3, 1) := dec_of t_X9_of_ok 35 rfl
theorem dX9_of_69 : decode cX9_of 69 = .ok (.bipush 102, 2) := dec_of t_X9_of_ok 36 rfl
theorem dX9_of_71 : decode cX9_of 71 = .ok (.if_icmp .ne 12, 3) := dec_of t_X9_of_ok 37 rfl
theorem dX9_of_74 : decode cX9_of 74 = .ok (.aload_n 0, 1) := dec_of t_X9_of_ok 38 rfl
theorem dX9_of_75 : decode cX9_of 75 = .ok (.getfield 63, 3) := dec_of t_X9_of_ok 39 rfl
theorem dX9_of_78 : decode cX9_of 78 = .ok (.iload_n 2, 1) := dec_of t_X9_of_ok 40 rfl
theorem dX9_of_79 : decode cX9_of 79 = .ok (.invokevirtual 260, 3) := dec_of t_X9_of_ok 41 rfl
theorem dX9_of_82 : decode cX9_of 82 = .ok (.ireturn, 1) := dec_of t_X9_of_ok 42 rfl
theorem dX9_of_83 : decode cX9_of 83 = .ok (.iload_n 3, 1) := dec_of t_X9_of_ok 43 rfl
theorem dX9_of_84 : decode cX9_of 84 = .ok (.bipush 108, 2) := dec_of t_X9_of_ok 44 rfl
theorem dX9_of_86 : decode cX9_of 86 = .ok (.if_icmp .ne 12, 3) := dec_of t_X9_of_ok 45 rfl
theorem dX9_of_89 : decode cX9_of 89 = .ok (.aload_n 0, 1) := dec_of t_X9_of_ok 46 rfl
theorem dX9_of_90 : decode cX9_of 90 = .ok (.getfield 63, 3) := dec_of t_X9_of_ok 47 rfl
theorem dX9_of_93 : decode cX9_of 93 = .ok (.iload_n 2, 1) := dec_of t_X9_of_ok 48 rfl
theorem dX9_of_94 : decode cX9_of 94 = .ok (.invokevirtual 263, 3) := dec_of t_X9_of_ok 49 rfl
theorem dX9_of_97 : decode cX9_of 97 = .ok (.ireturn, 1) := dec_of t_X9_of_ok 50 rfl
theorem dX9_of_98 : decode cX9_of 98 = .ok (.iload_n 3, 1) := dec_of t_X9_of_ok 51 rfl
theorem dX9_of_99 : decode cX9_of 99 = .ok (.bipush 114, 2) := dec_of t_X9_of_ok 52 rfl
theorem dX9_of_101 : decode cX9_of 101 = .ok (.if_icmp .ne 6, 3) := dec_of t_X9_of_ok 53 rfl
theorem dX9_of_104 : decode cX9_of 104 = .ok (.iload 5, 2) := dec_of t_X9_of_ok 54 rfl
theorem dX9_of_106 : decode cX9_of 106 = .ok (.ireturn, 1) := dec_of t_X9_of_ok 55 rfl
theorem dX9_of_107 : decode cX9_of 107 = .ok (.iload_n 3, 1) := dec_of t_X9_of_ok 56 rfl
theorem dX9_of_108 : decode cX9_of 108 = .ok (.bipush 107, 2) := dec_of t_X9_of_ok 57 rfl
theorem dX9_of_110 : decode cX9_of 110 = .ok (.if_icmp .ne 15, 3) := dec_of t_X9_of_ok 58 rfl
theorem dX9_of_113 : decode cX9_of 113 = .ok (.aload_n 0, 1) := dec_of t_X9_of_ok 59 rfl
theorem dX9_of_114 : decode cX9_of 114 = .ok (.getfield 40, 3) := dec_of t_X9_of_ok 60 rfl
theorem dX9_of_117 : decode cX9_of 117 = .ok (.aload 4, 2) := dec_of t_X9_of_ok 61 rfl
theorem dX9_of_119 : decode cX9_of 119 = .ok (.iload 5, 2) := dec_of t_X9_of_ok 62 rfl
theorem dX9_of_121 : decode cX9_of 121 = .ok (.invokevirtual 232, 3) := dec_of t_X9_of_ok 63 rfl
theorem dX9_of_124 : decode cX9_of 124 = .ok (.ireturn, 1) := dec_of t_X9_of_ok 64 rfl
theorem dX9_of_125 : decode cX9_of 125 = .ok (.iload_n 3, 1) := dec_of t_X9_of_ok 65 rfl
theorem dX9_of_126 : decode cX9_of 126 = .ok (.bipush 119, 2) := dec_of t_X9_of_ok 66 rfl
theorem dX9_of_128 : decode cX9_of 128 = .ok (.if_icmp .ne 22, 3) := dec_of t_X9_of_ok 67 rfl
theorem dX9_of_131 : decode cX9_of 131 = .ok (.aload_n 0, 1) := dec_of t_X9_of_ok 68 rfl
theorem dX9_of_132 : decode cX9_of 132 = .ok (.getfield 21, 3) := dec_of t_X9_of_ok 69 rfl
theorem dX9_of_135 : decode cX9_of 135 = .ok (.getfield 266, 3) := dec_of t_X9_of_ok 70 rfl
theorem dX9_of_138 : decode cX9_of 138 = .ok (.aload_n 0, 1) := dec_of t_X9_of_ok 71 rfl
theorem dX9_of_139 : decode cX9_of 139 = .ok (.getfield 63, 3) := dec_of t_X9_of_ok 72 rfl
theorem dX9_of_142 : decode cX9_of 142 = .ok (.iload_n 2, 1) := dec_of t_X9_of_ok 73 rfl
theorem dX9_of_143 : decode cX9_of 143 = .ok (.invokevirtual 260, 3) := dec_of t_X9_of_ok 74 rfl
theorem dX9_of_146 : decode cX9_of 146 = .ok (.invokevirtual 130, 3) := dec_of t_X9_of_ok 75 rfl
theorem dX9_of_149 : decode cX9_of 149 = .ok (.ireturn, 1) := dec_of t_X9_of_ok 76 rfl
theorem dX9_of_150 : decode cX9_of 150 = .ok (.aload_n 0, 1) := dec_of t_X9_of_ok 77 rfl
theorem dX9_of_151 : decode cX9_of 151 = .ok (.getfield 40, 3) := dec_of t_X9_of_ok 78 rfl
theorem dX9_of_154 : decode cX9_of 154 = .ok (.iload 5, 2) := dec_of t_X9_of_ok 79 rfl
theorem dX9_of_156 : decode cX9_of 156 = .ok (.invokevirtual 269, 3) := dec_of t_X9_of_ok 80 rfl
theorem dX9_of_159 : decode cX9_of 159 = .ok (.ireturn, 1) := dec_of t_X9_of_ok 81 rfl
def t_X9_size : List (Nat × Instr × Nat) := [(0, .aload_n 0, 1), (1, .iload_n 1, 1), (2, .invokevirtual 248, 3), (5, .pop, 1), (6, .aload_n 0, 1), (7, .iload_n 2, 1), (8, .iload_n 3, 1), (9, .invokevirtual 272, 3), (12, .aload_n 0, 1), (13, .getfield 67, 3), (16, .invokevirtual 89, 3), (19, .ireturn, 1)]
theorem t_X9_size_ok : dec_ok cX9_size t_X9_size = true := by decide +kernel
theorem dX9_size_0 : decode cX9_size 0 = .ok (.aload_n 0, 1) := dec_of t_X9_size_ok 0 rfl
theorem dX9_size_1 : decode cX9_size 1 = .ok (.iload_n 1, 1) := dec_of t_X9_size_ok 1 rfl
theorem dX9_size_2 : decode cX9_size 2 = .ok (.invokevirtual 248, 3) := dec_of t_X9_size_ok 2 rfl
theorem dX9_size_5 : decode cX9_size 5 = .ok (.pop, 1) := dec_of t_X9_size_ok 3 rfl
theorem dX9_size_6 : decode cX9_size 6 = .ok (.aload_n 0, 1) := dec_of t_X9_size_ok 4 rfl
theorem dX9_size_7 : decode cX9_size 7 = .ok (.iload_n 2, 1) := dec_of t_X9_size_ok 5 rfl
theorem dX9_size_8 : decode cX9_size 8 = .ok (.iload_n 3, 1) := dec_of t_X9_size_ok 6 rfl
theorem dX9_size_9 : decode cX9_size 9 = .ok (.invokevirtual 272, 3) := dec_of t_X9_size_ok 7 rfl
theorem dX9_size_12 : decode cX9_size 12 = .ok (.aload_n 0, 1) := dec_of t_X9_size_ok 8 rfl
theorem dX9_size_13 : decode cX9_size 13 = .ok (.getfield 67, 3) := dec_of t_X9_size_ok 9 rfl
theorem dX9_size_16 : decode cX9_size 16 = .ok (.invokevirtual 89, 3) := dec_of t_X9_size_ok 10 rfl
theorem dX9_size_19 : decode cX9_size 19 = .ok (.ireturn, 1) := dec_of t_X9_size_ok 11 rfl
def t_X9_sign : List (Nat × Instr × Nat) := [(0, .aload_n 0, 1), (1, .iload_n 1, 1), (2, .invokevirtual 248, 3), (5, .pop, 1), (6, .aload_n 0, 1), (7, .iload_n 2, 1), (8, .iload_n 3, 1), (9, .invokevirtual 272, 3), (12, .iload 4, 2), (14, .ifCond .lt 15, 3), (17, .iload 4, 2), (19, .aload_n 0, 1), (20, .getfield 67, 3), (23, .invokevirtual 89, 3), (26, .if_icmp .lt 13, 3), (29, .new 275, 3), (32, .dup, 1), (33, .ldc 105, 2), (35, .invokespecial 277, 3), (38, .athrow, 1), (39, .aload_n 0, 1), (40, .getfield 67, 3), (43, .iload 4, 2), (45, .invokevirtual 130, 3), (48, .i2c, 1), (49, .ireturn, 1)]
theorem t_X9_sign_ok : dec_ok cX9_sign t_X9_sign = true := by decide +kernel
theorem dX9_sign_0 : decode cX9_sign 0 = .ok (.aload_n 0, 1) := dec_of t_X9_sign_ok 0 rfl
theorem dX9_sign_1 : decode cX9_sign 1 = .ok (.iload_n 1, 1) := dec_of t_X9_sign_ok 1 rfl
theorem dX9_sign_2 : decode cX9_sign 2 = .ok (.invokevirtual 248, 3) := dec_of t_X9_sign_ok 2 rfl
theorem dX9_sign_5 : decode cX9_sign 5 = .ok (.pop, 1) := dec_of t_X9_sign_ok 3 rfl
theorem dX9_sign_6 : decode cX9_sign 6 = .ok (.aload_n 0, 1) := dec_of t_X9_sign_ok 4 rfl
theorem dX9_sign_7 : decode cX9_sign 7 = .ok (.iload_n 2, 1) := dec_of t_X9_sign_ok 5 rfl
theorem dX9_sign_8 : decode cX9_sign 8 = .ok (.iload_n 3, 1) := dec_of t_X9_sign_ok 6 rfl
theorem dX9_sign_9 : decode cX9_sign 9 = .ok (.invokevirtual 272, 3) := dec_of t_X9_sign_ok 7 rfl
theorem dX9_sign_12 : decode cX9_sign 12 = .ok (.iload 4, 2) := dec_of t_X9_sign_ok 8 rfl
theorem dX9_sign_14 : decode cX9_sign 14 = .ok (.ifCond .lt 15, 3) := dec_of t_X9_sign_ok 9 rfl
theorem dX9_sign_17 : decode cX9_sign 17 = .ok (.iload 4, 2) := dec_of t_X9_sign_ok 10 rfl
theorem dX9_sign_19 : decode cX9_sign 19 = .ok (.aload_n 0, 1) := dec_of t_X9_sign_ok 11 rfl
theorem dX9_sign_20 : decode cX9_sign 20 = .ok (.getfield 67, 3) := dec_of t_X9_sign_ok 12 rfl
theorem dX9_sign_23 : decode cX9_sign 23 = .ok (.invokevirtual 89, 3) := dec_of t_X9_sign_ok 13 rfl
theorem dX9_sign_26 : decode cX9_sign 26 = .ok (.if_icmp .lt 13, 3) := dec_of t_X9_sign_ok 14 rfl
theorem dX9_sign_29 : decode cX9_sign 29 = .ok (.new 275, 3) := dec_of t_X9_sign_ok 15 rfl
theorem dX9_sign_32 : decode cX9_sign 32 = .ok (.dup, 1) := dec_of t_X9_sign_ok 16 rfl
theorem dX9_sign_33 : decode cX9_sign 33 = .ok (.ldc 105, 2) := dec_of t_X9_sign_ok 17 rfl
theorem dX9_sign_35 : decode cX9_sign 35 = .ok (.invokespecial 277, 3) := dec_of t_X9_sign_ok 18 rfl
theorem dX9_sign_38 : decode cX9_sign 38 = .ok (.athrow, 1) := dec_of t_X9_sign_ok 19 rfl
theorem dX9_sign_39 : decode cX9_sign 39 = .ok (.aload_n 0, 1) := dec_of t_X9_sign_ok 20 rfl
theorem dX9_sign_40 : decode cX9_sign 40 = .ok (.getfield 67, 3) := dec_of t_X9_sign_ok 21 rfl
theorem dX9_sign_43 : decode cX9_sign 43 = .ok (.iload 4, 2) := dec_of t_X9_sign_ok 22 rfl
theorem dX9_sign_45 : decode cX9_sign 45 = .ok (.invokevirtual 130, 3) := dec_of t_X9_sign_ok 23 rfl
theorem dX9_sign_48 : decode cX9_sign 48 = .ok (.i2c, 1) := dec_of t_X9_sign_ok 24 rfl
theorem dX9_sign_49 : decode cX9_sign 49 = .ok (.ireturn, 1) := dec_of t_X9_sign_ok 25 rfl
def t_X9_apply : List (Nat × Instr × Nat) := [(0, .aload_n 0, 1), (1, .iload_n 1, 1), (2, .invokevirtual 248, 3), (5, .pop, 1), (6, .iload 4, 2), (8, .invokestatic 111, 3), (11, .ifCond .ne 14, 3), (14, .new 82, 3), (17, .dup, 1), (18, .ldc_w 278, 3), (21, .invokespecial 86, 3), (24, .athrow, 1), (25, .aload_n 0, 1), (26, .iload_n 2, 1), (27, .iload_n 3, 1), (28, .invokevirtual 272, 3), (31, .aload_n 0, 1), (32, .getfield 63, 3), (35, .iload_n 2, 1), (36, .invokevirtual 260, 3), (39, .istore 5, 2), (41, .aload_n 0, 1), (42, .getfield 63, 3), (45, .iload_n 2, 1), (46, .invokevirtual 263, 3), (49, .istore 6, 2), (51, .aload_n 0, 1), (52, .getfield 21, 3), (55, .getfield 27, 3), (58, .invokevirtual 89, 3), (61, .iload 6, 2), (63, .isub, 1), (64, .aload_n 0, 1), (65, .getfield 67, 3), (68, .invokevirtual 89, 3), (71, .iadd, 1), (72, .sipush 160, 3), (75, .if_icmp .le 14, 3), (78, .new 93, 3), (81, .dup, 1), (82, .ldc_w 280, 3), (85, .invokespecial 97, 3), (88, .athrow, 1), (89, .iconst 0, 1), (90, .istore 7, 2), (92, .iload 7, 2), (94, .iload 6, 2), (96, .if_icmp .ge 16, 3), (99, .aload_n 0, 1), (100, .iload 5, 2), (102, .invokevirtual 126, 3), (105, .pop, 1), (106, .iinc 7 1, 3), (109, .goto (-17), 3), (112, .iconst 0, 1), (113, .istore 7, 2), (115, .iload 7, 2), (117, .aload_n 0, 1), (118, .getfield 67, 3), (121, .invokevirtual 89, 3), (124, .if_icmp .ge 30, 3), (127, .aload_n 0, 1), (128, .iload 5, 2), (130, .iload 7, 2), (132, .iadd, 1), (133, .aload_n 0, 1), (134, .getfield 67, 3), (137, .iload 7, 2), (139, .invokevirtual 130, 3), (142, .i2c, 1), (143, .iload 4, 2), (145, .invokevirtual 119, 3), (148, .iinc 7 1, 3), (151, .goto (-36), 3), (154, .aload_n 0, 1), (155, .getfield 21, 3), (158, .getfield 27, 3), (161, .invokevirtual 89, 3), (164, .ireturn, 1)]
theorem t_X9_apply_ok : dec_ok cX9_apply t_X9_apply = true := by decide +kernel
theorem dX9_apply_0 : decode cX9_apply 0 = .ok (.aload_n 0, 1) := dec_of t_X9_apply_ok 0 rfl
theorem dX9_apply_1 : decode cX9_apply 1 = .ok (.iload_n 1, 1) := dec_of t_X9_apply_ok 1 rfl
theorem dX9_apply_2 : decode cX9_apply 2 = .ok (.invokevirtual 248, 3) := dec_of t_X9_apply_ok 2 rfl
theorem dX9_apply_5 : decode cX9_apply 5 = .ok (.pop, 1) := dec_of t_X9_apply_ok 3 rfl
theorem dX9_apply_6 : decode cX9_apply 6 = .ok (.iload 4, 2) := dec_of t_X9_apply_ok 4 rfl
theorem dX9_apply_8 : decode cX9_apply 8 = .ok (.invokestatic 111, 3) := dec_of t_X9_apply_ok 5 rfl
theorem dX9_apply_11 : decode cX9_apply 11 = .ok (.ifCond .ne 14, 3) := dec_of t_X9_apply_ok 6 rfl
theorem dX9_apply_14 : decode cX9_apply 14 = .ok (.new 82, 3) := dec_of t_X9_apply_ok 7 rfl
theorem dX9_apply_17 : decode cX9_apply 17 = .ok (.dup, 1) := dec_of t_X9_apply_ok 8 rfl
theorem dX9_apply_18 : decode cX9_apply 18 = .ok (.ldc_w 278, 3) := dec_of t_X9_apply_ok 9 rfl
theorem dX9_apply_21 : decode cX9_apply 21 = .ok (.invokespecial 86, 3) := dec_of t_X9_apply_ok 10 rfl
theorem dX9_apply_24 : decode cX9_apply 24 = .ok (.athrow, 1) := dec_of t_X9_apply_ok 11 rfl
theorem dX9_apply_25 : decode cX9_apply 25 = .ok (.aload_n 0, 1) := dec_of t_X9_apply_ok 12 rfl
theorem dX9_apply_26 : decode cX9_apply 26 = .ok (.iload_n 2, 1) := dec_of t_X9_apply_ok 13 rfl
theorem dX9_apply_27 : decode cX9_apply 27 = .ok (.iload_n 3, 1) := dec_of t_X9_apply_ok 14 rfl
theorem dX9_apply_28 : decode cX9_apply 28 = .ok (.invokevirtual 272, 3) := dec_of t_X9_apply_ok 15 rfl
theorem dX9_apply_31 : decode cX9_apply 31 = .ok (.aload_n 0, 1) := dec_of t_X9_apply_ok 16 rfl
theorem dX9_apply_32 : decode cX9_apply 32 = .ok (.getfield 63, 3) := dec_of t_X9_apply_ok 17 rfl
theorem dX9_apply_35 : decode cX9_apply 35 = .ok (.iload_n 2, 1) := dec_of t_X9_apply_ok 18 rfl
theorem dX9_apply_36 : decode cX9_apply 36 = .ok (.invokevirtual 260, 3) := dec_of t_X9_apply_ok 19 rfl
theorem dX9_apply_39 : decode cX9_apply 39 = .ok (.istore 5, 2) := dec_of t_X9_apply_ok 20 rfl
theorem dX9_apply_41 : decode cX9_apply 41 = .ok (.aload_n 0, 1) := dec_of t_X9_apply_ok 21 rfl
theorem dX9_apply_42 : decode cX9_apply 42 = .ok (.getfield 63, 3) := dec_of t_X9_apply_ok 22 rfl
theorem dX9_apply_45 : decode cX9_apply 45 = .ok (.iload_n 2, 1) := dec_of t_X9_apply_ok 23 rfl
theorem dX9_apply_46 : decode cX9_apply 46 = .ok (.invokevirtual 263, 3) := dec_of t_X9_apply_ok 24 rfl
theorem dX9_apply_49 : decode cX9_apply 49 = .ok (.istore 6, 2) := dec_of t_X9_apply_ok 25 rfl
theorem dX9_apply_51 : decode cX9_apply 51 = .ok (.aload_n 0, 1) := dec_of t_X9_apply_ok 26 rfl
theorem dX9_apply_52 : decode cX9_apply 52 = .ok (.getfield 21, 3) := dec_of t_X9_apply_ok 27 rfl
theorem dX9_apply_55 : decode cX9_apply 55 = .ok (.getfield 27, 3) := dec_of t_X9_apply_ok 28 rfl
theorem dX9_apply_58 : decode cX9_apply 58 = .ok (.invokevirtual 89, 3) := dec_of t_X9_apply_ok 29 rfl
theorem dX9_apply_61 : decode cX9_apply 61 = .ok (.iload 6, 2) := dec_of t_X9_apply_ok 30 rfl
theorem dX9_apply_63 : decode cX9_apply 63 = .ok (.isub, 1) := dec_of t_X9_apply_ok 31 rfl
theorem dX9_apply_64 : decode cX9_apply 64 = .ok (.aload_n 0, 1) := dec_of t_X9_apply_ok 32 rfl
theorem dX9_apply_65 : decode cX9_apply 65 = .ok (.getfield 67, 3) := dec_of t_X9_apply_ok 33 rfl
theorem dX9_apply_68 : decode cX9_apply 68 = .ok (.invokevirtual 89, 3) := dec_of t_X9_apply_ok 34 rfl
theorem dX9_apply_71 : decode cX9_apply 71 = .ok (.iadd, 1) := dec_of t_X9_apply_ok 35 rfl
theorem dX9_apply_72 : decode cX9_apply 72 = .ok (.sipush 160, 3) := dec_of t_X9_apply_ok 36 rfl
theorem dX9_apply_75 : decode cX9_apply 75 = .ok (.if_icmp .le 14, 3) := dec_of t_X9_apply_ok 37 rfl
theorem dX9_apply_78 : decode cX9_apply 78 = .ok (.new 93, 3) := dec_of t_X9_apply_ok 38 rfl
theorem dX9_apply_81 : decode cX9_apply 81 = .ok (.dup, 1) := dec_of t_X9_apply_ok 39 rfl
theorem dX9_apply_82 : decode cX9_apply 82 = .ok (.ldc_w 280, 3) := dec_of t_X9_apply_ok 40 rfl
theorem dX9_apply_85 : decode cX9_apply 85 = .ok (.invokespecial 97, 3) := dec_of t_X9_apply_ok 41 rfl
theorem dX9_apply_88 : decode cX9_apply 88 = .ok (.athrow, 1) := dec_of t_X9_apply_ok 42 rfl
theorem dX9_apply_89 : decode cX9_apply 89 = .ok (.iconst 0, 1) := dec_of t_X9_apply_ok 43 rfl
theorem dX9_apply_90 : decode cX9_apply 90 = .ok (.istore 7, 2) := dec_of t_X9_apply_ok 44 rfl
theorem dX9_apply_92 : decode cX9_apply 92 = .ok (.iload 7, 2) := dec_of t_X9_apply_ok 45 rfl
theorem dX9_apply_94 : decode cX9_apply 94 = .ok (.iload 6, 2) := dec_of t_X9_apply_ok 46 rfl
theorem dX9_apply_96 : decode cX9_apply 96 = .ok (.if_icmp .ge 16, 3) := dec_of t_X9_apply_ok 47 rfl
theorem dX9_apply_99 : decode cX9_apply 99 = .ok (.aload_n 0, 1) := dec_of t_X9_apply_ok 48 rfl
theorem dX9_apply_100 : decode cX9_apply 100 = .ok (.iload 5, 2) := dec_of t_X9_apply_ok 49 rfl
theorem dX9_apply_102 : decode cX9_apply 102 = .ok (.invokevirtual 126, 3) := dec_of t_X9_apply_ok 50 rfl
theorem dX9_apply_105 : decode cX9_apply 105 = .ok (.pop, 1) := dec_of t_X9_apply_ok 51 rfl
theorem dX9_apply_106 : decode cX9_apply 106 = .ok (.iinc 7 1, 3) := dec_of t_X9_apply_ok 52 rfl
theorem dX9_apply_109 : decode cX9_apply 109 = .ok (.goto (-17), 3) := dec_of t_X9_apply_ok 53 rfl
theorem dX9_apply_112 : decode cX9_apply 112 = .ok (.iconst 0, 1) := dec_of t_X9_apply_ok 54 rfl
theorem dX9_apply_113 : decode cX9_apply 113 = .ok (.istore 7, 2) := dec_of t_X9_apply_ok 55 rfl
theorem dX9_apply_115 : decode cX9_apply 115 = .ok (.iload 7, 2) := dec_of t_X9_apply_ok 56 rfl
theorem dX9_apply_117 : decode cX9_apply 117 = .ok (.aload_n 0, 1) := dec_of t_X9_apply_ok 57 rfl
theorem dX9_apply_118 : decode cX9_apply 118 = .ok (.getfield 67, 3) := dec_of t_X9_apply_ok 58 rfl
theorem dX9_apply_121 : decode cX9_apply 121 = .ok (.invokevirtual 89, 3) := dec_of t_X9_apply_ok 59 rfl
theorem dX9_apply_124 : decode cX9_apply 124 = .ok (.if_icmp .ge 30, 3) := dec_of t_X9_apply_ok 60 rfl
theorem dX9_apply_127 : decode cX9_apply 127 = .ok (.aload_n 0, 1) := dec_of t_X9_apply_ok 61 rfl
theorem dX9_apply_128 : decode cX9_apply 128 = .ok (.iload 5, 2) := dec_of t_X9_apply_ok 62 rfl
theorem dX9_apply_130 : decode cX9_apply 130 = .ok (.iload 7, 2) := dec_of t_X9_apply_ok 63 rfl
theorem dX9_apply_132 : decode cX9_apply 132 = .ok (.iadd, 1) := dec_of t_X9_apply_ok 64 rfl
theorem dX9_apply_133 : decode cX9_apply 133 = .ok (.aload_n 0, 1) := dec_of t_X9_apply_ok 65 rfl
theorem dX9_apply_134 : decode cX9_apply 134 = .ok (.getfield 67, 3) := dec_of t_X9_apply_ok 66 rfl
theorem dX9_apply_137 : decode cX9_apply 137 = .ok (.iload 7, 2) := dec_of t_X9_apply_ok 67 rfl
theorem dX9_apply_139 : decode cX9_apply 139 = .ok (.invokevirtual 130, 3) := dec_of t_X9_apply_ok 68 rfl
theorem dX9_apply_142 : decode cX9_apply 142 = .ok (.i2c, 1) := dec_of t_X9_apply_ok 69 rfl
theorem dX9_apply_143 : decode cX9_apply 143 = .ok (.iload 4, 2) := dec_of t_X9_apply_ok 70 rfl
theorem dX9_apply_145 : decode cX9_apply 145 = .ok (.invokevirtual 119, 3) := dec_of t_X9_apply_ok 71 rfl
theorem dX9_apply_148 : decode cX9_apply 148 = .ok (.iinc 7 1, 3) := dec_of t_X9_apply_ok 72 rfl
theorem dX9_apply_151 : decode cX9_apply 151 = .ok (.goto (-36), 3) := dec_of t_X9_apply_ok 73 rfl
theorem dX9_apply_154 : decode cX9_apply 154 = .ok (.aload_n 0, 1) := dec_of t_X9_apply_ok 74 rfl
theorem dX9_apply_155 : decode cX9_apply 155 = .ok (.getfield 21, 3) := dec_of t_X9_apply_ok 75 rfl
theorem dX9_apply_158 : decode cX9_apply 158 = .ok (.getfield 27, 3) := dec_of t_X9_apply_ok 76 rfl
theorem dX9_apply_161 : decode cX9_apply 161 = .ok (.invokevirtual 89, 3) := dec_of t_X9_apply_ok 77 rfl
theorem dX9_apply_164 : decode cX9_apply 164 = .ok (.ireturn, 1) := dec_of t_X9_apply_ok 78 rfl
def t_X9_ignore : List (Nat × Instr × Nat) := [(0, .aload_n 0, 1), (1, .iload_n 1, 1), (2, .invokevirtual 248, 3), (5, .astore_n 3, 1), (6, .aload_n 0, 1), (7, .iload_n 2, 1), (8, .invokevirtual 254, 3), (11, .aload_n 3, 1), (12, .invokevirtual 282, 3), (15, .bipush 20, 2), (17, .if_icmp .lt 14, 3), (20, .new 93, 3), (23, .dup, 1), (24, .ldc_w 285, 3), (27, .invokespecial 97, 3), (30, .athrow, 1), (31, .aload_n 3, 1), (32, .aload_n 0, 1), (33, .getfield 63, 3), (36, .iload_n 2, 1), (37, .invokevirtual 257, 3), (40, .aload_n 0, 1), (41, .getfield 63, 3), (44, .iload_n 2, 1), (45, .invokevirtual 260, 3), (48, .aload_n 0, 1), (49, .getfield 63, 3), (52, .iload_n 2, 1), (53, .invokevirtual 263, 3), (56, .invokevirtual 287, 3), (59, .aload_n 0, 1), (60, .iconst (-1), 1), (61, .putfield 74, 3), (64, .aload_n 3, 1), (65, .invokevirtual 282, 3), (68, .ireturn, 1)]
theorem t_X9_ignore_ok : dec_ok cX9_ignore t_X9_ignore = true := by decide +kernel
theorem dX9_ignore_0 : decode cX9_ignore 0 = .ok (.aload_n 0, 1) := dec_of t_X9_ignore_ok 0 rfl
theorem dX9_ignore_1 : decode cX9_ignore 1 = .ok (.iload_n 1, 1) := dec_of t_X9_ignore_ok 1 rfl
theorem dX9_ignore_2 : decode cX9_ignore 2 = .ok (.invokevirtual 248, 3) := dec_of t_X9_ignore_ok 2 rfl
theorem dX9_ignore_5 : decode cX9_ignore 5 = .ok (.astore_n 3, 1) := dec_of t_X9_ignore_ok 3 rfl
theorem dX9_ignore_6 : decode cX9_ignore 6 = .ok (.aload_n 0, 1) := dec_of t_X9_ignore_ok 4 rfl
theorem dX9_ignore_7 : decode cX9_ignore 7 = .ok (.iload_n 2, 1) := dec_of t_X9_ignore_ok 5 rfl
theorem dX9_ignore_8 : decode cX9_ignore 8 = .ok (.invokevirtual 254, 3) := dec_of t_X9_ignore_ok 6 rfl
theorem dX9_ignore_11 : decode cX9_ignore 11 = .ok (.aload_n 3, 1) := dec_of t_X9_ignore_ok 7 rfl
theorem dX9_ignore_12 : decode cX9_ignore 12 = .ok (.invokevirtual 282, 3) := dec_of t_X9_ignore_ok 8 rfl
theorem dX9_ignore_15 : decode cX9_ignore 15 = .ok (.bipush 20, 2) := dec_of t_X9_ignore_ok 9 rfl
theorem dX9_ignore_17 : decode cX9_ignore 17 = .ok (.if_icmp .lt 14, 3) := dec_of t_X9_ignore_ok 10 rfl
theorem dX9_ignore_20 : decode cX9_ignore 20 = .ok (.new 93, 3) := dec_of t_X9_ignore_ok 11 rfl
theorem dX9_ignore_23 : decode cX9_ignore 23 = .ok (.dup, 1) := dec_of t_X9_ignore_ok 12 rfl
theorem dX9_ignore_24 : decode cX9_ignore 24 = .ok (.ldc_w 285, 3) := dec_of t_X9_ignore_ok 13 rfl
theorem dX9_ignore_27 : decode cX9_ignore 27 = .ok (.invokespecial 97, 3) := dec_of t_X9_ignore_ok 14 rfl
theorem dX9_ignore_30 : decode cX9_ignore 30 = .ok (.athrow, 1) := dec_of t_X9_ignore_ok 15 rfl
theorem dX9_ignore_31 : decode cX9_ignore 31 = .ok (.aload_n 3, 1) := dec_of t_X9_ignore_ok 16 rfl
theorem dX9_ignore_32 : decode cX9_ignore 32 = .ok (.aload_n 0, 1) := dec_of t_X9_ignore_ok 17 rfl
theorem dX9_ignore_33 : decode cX9_ignore 33 = .ok (.getfield 63, 3) := dec_of t_X9_ignore_ok 18 rfl
theorem dX9_ignore_36 : decode cX9_ignore 36 = .ok (.iload_n 2, 1) := dec_of t_X9_ignore_ok 19 rfl
theorem dX9_ignore_37 : decode cX9_ignore 37 = .ok (.invokevirtual 257, 3) := dec_of t_X9_ignore_ok 20 rfl
theorem dX9_ignore_40 : decode cX9_ignore 40 = .ok (.aload_n 0, 1) := dec_of t_X9_ignore_ok 21 rfl
theorem dX9_ignore_41 : decode cX9_ignore 41 = .ok (.getfield 63, 3) := dec_of t_X9_ignore_ok 22 rfl
theorem dX9_ignore_44 : decode cX9_ignore 44 = .ok (.iload_n 2, 1) := dec_of t_X9_ignore_ok 23 rfl
theorem dX9_ignore_45 : decode cX9_ignore 45 = .ok (.invokevirtual 260, 3) := dec_of t_X9_ignore_ok 24 rfl
theorem dX9_ignore_48 : decode cX9_ignore 48 = .ok (.aload_n 0, 1) := dec_of t_X9_ignore_ok 25 rfl
theorem dX9_ignore_49 : decode cX9_ignore 49 = .ok (.getfield 63, 3) := dec_of t_X9_ignore_ok 26 rfl
theorem dX9_ignore_52 : decode cX9_ignore 52 = .ok (.iload_n 2, 1) := dec_of t_X9_ignore_ok 27 rfl
theorem dX9_ignore_53 : decode cX9_ignore 53 = .ok (.invokevirtual 263, 3) := dec_of t_X9_ignore_ok 28 rfl
theorem dX9_ignore_56 : decode cX9_ignore 56 = .ok (.invokevirtual 287, 3) := dec_of t_X9_ignore_ok 29 rfl
theorem dX9_ignore_59 : decode cX9_ignore 59 = .ok (.aload_n 0, 1) := dec_of t_X9_ignore_ok 30 rfl
theorem dX9_ignore_60 : decode cX9_ignore 60 = .ok (.iconst (-1), 1) := dec_of t_X9_ignore_ok 31 rfl
theorem dX9_ignore_61 : decode cX9_ignore 61 = .ok (.putfield 74, 3) := dec_of t_X9_ignore_ok 32 rfl
theorem dX9_ignore_64 : decode cX9_ignore 64 = .ok (.aload_n 3, 1) := dec_of t_X9_ignore_ok 33 rfl
theorem dX9_ignore_65 : decode cX9_ignore 65 = .ok (.invokevirtual 282, 3) := dec_of t_X9_ignore_ok 34 rfl
theorem dX9_ignore_68 : decode cX9_ignore 68 = .ok (.ireturn, 1) := dec_of t_X9_ignore_ok 35 rfl
def t_X9_ignored : List (Nat × Instr × Nat) := [(0, .aload_n 0, 1), (1, .iload_n 1, 1), (2, .invokevirtual 216, 3), (5, .invokevirtual 282, 3), (8, .ireturn, 1)]
theorem t_X9_ignored_ok : dec_ok cX9_ignored t_X9_ignored = true := by decide +kernel
theorem dX9_ignored_0 : decode cX9_ignored 0 = .ok (.aload_n 0, 1) := dec_of t_X9_ignored_ok 0 rfl
theorem dX9_ignored_1 : decode cX9_ignored 1 = .ok (.iload_n 1, 1) := dec_of t_X9_ignored_ok 1 rfl
theorem dX9_ignored_2 : decode cX9_ignored 2 = .ok (.invokevirtual 216, 3) := dec_of t_X9_ignored_ok 2 rfl
theorem dX9_ignored_5 : decode cX9_ignored 5 = .ok (.invokevirtual 282, 3) := dec_of t_X9_ignored_ok 3 rfl
theorem dX9_ignored_8 : decode cX9_ignored 8 = .ok (.ireturn, 1) := dec_of t_X9_ignored_ok 4 rfl
def t_X9_heed : List (Nat × Instr × Nat) := [(0, .aload_n 0, 1), (1, .iload_n 1, 1), (2, .invokevirtual 216, 3), (5, .astore_n 2, 1), (6, .aload_n 2, 1), (7, .invokevirtual 282, 3), (10, .istore_n 3, 1), (11, .aload_n 2, 1), (12, .invokevirtual 291, 3), (15, .aload_n 0, 1), (16, .iconst (-1), 1), (17, .putfield 74, 3), (20, .iload_n 3, 1), (21, .ireturn, 1)]
theorem t_X9_heed_ok : dec_ok cX9_heed t_X9_heed = true := by decide +kernel
theorem dX9_heed_0 : decode cX9_heed 0 = .ok (.aload_n 0, 1) := dec_of t_X9_heed_ok 0 rfl
theorem dX9_heed_1 : decode cX9_heed 1 = .ok (.iload_n 1, 1) := dec_of t_X9_heed_ok 1 rfl
theorem dX9_heed_2 : decode cX9_heed 2 = .ok (.invokevirtual 216, 3) := dec_of t_X9_heed_ok 2 rfl
theorem dX9_heed_5 : decode cX9_heed 5 = .ok (.astore_n 2, 1) := dec_of t_X9_heed_ok 3 rfl
theorem dX9_heed_6 : decode cX9_heed 6 = .ok (.aload_n 2, 1) := dec_of t_X9_heed_ok 4 rfl
theorem dX9_heed_7 : decode cX9_heed 7 = .ok (.invokevirtual 282, 3) := dec_of t_X9_heed_ok 5 rfl
theorem dX9_heed_10 : decode cX9_heed 10 = .ok (.istore_n 3, 1) := dec_of t_X9_heed_ok 6 rfl
theorem dX9_heed_11 : decode cX9_heed 11 = .ok (.aload_n 2, 1) := dec_of t_X9_heed_ok 7 rfl
theorem dX9_heed_12 : decode cX9_heed 12 = .ok (.invokevirtual 291, 3) := dec_of t_X9_heed_ok 8 rfl
theorem dX9_heed_15 : decode cX9_heed 15 = .ok (.aload_n 0, 1) := dec_of t_X9_heed_ok 9 rfl
theorem dX9_heed_16 : decode cX9_heed 16 = .ok (.iconst (-1), 1) := dec_of t_X9_heed_ok 10 rfl
theorem dX9_heed_17 : decode cX9_heed 17 = .ok (.putfield 74, 3) := dec_of t_X9_heed_ok 11 rfl
theorem dX9_heed_20 : decode cX9_heed 20 = .ok (.iload_n 3, 1) := dec_of t_X9_heed_ok 12 rfl
theorem dX9_heed_21 : decode cX9_heed 21 = .ok (.ireturn, 1) := dec_of t_X9_heed_ok 13 rfl
def t_X9_tokens : List (Nat × Instr × Nat) := [(0, .aload_n 0, 1), (1, .getfield 33, 3), (4, .invokevirtual 294, 3), (7, .iconst 0, 1), (8, .istore_n 2, 1), (9, .iconst 0, 1), (10, .istore_n 3, 1), (11, .iload_n 3, 1), (12, .aload_n 0, 1), (13, .getfield 33, 3), (16, .invokevirtual 297, 3), (19, .if_icmp .ge 24, 3), (22, .aload_n 0, 1), (23, .getfield 33, 3), (26, .iload_n 3, 1), (27, .invokevirtual 298, 3), (30, .iload_n 1, 1), (31, .if_icmp .ne 6, 3), (34, .iinc 2 1, 3), (37, .iinc 3 1, 3), (40, .goto (-29), 3), (43, .iload_n 2, 1), (44, .ireturn, 1)]
theorem t_X9_tokens_ok : dec_ok cX9_tokens t_X9_tokens = true := by decide +kernel
theorem dX9_tokens_0 : decode cX9_tokens 0 = .ok (.aload_n 0, 1) := dec_of t_X9_tokens_ok 0 rfl
theorem dX9_tokens_1 : decode cX9_tokens 1 = .ok (.getfield 33, 3) := dec_of t_X9_tokens_ok 1 rfl
theorem dX9_tokens_4 : decode cX9_tokens 4 = .ok (.invokevirtual 294, 3) := dec_of t_X9_tokens_ok 2 rfl
theorem dX9_tokens_7 : decode cX9_tokens 7 = .ok (.iconst 0, 1) := dec_of t_X9_tokens_ok 3 rfl
theorem dX9_tokens_8 : decode cX9_tokens 8 = .ok (.istore_n 2, 1) := dec_of t_X9_tokens_ok 4 rfl
theorem dX9_tokens_9 : decode cX9_tokens 9 = .ok (.iconst 0, 1) := dec_of t_X9_tokens_ok 5 rfl
theorem dX9_tokens_10 : decode cX9_tokens 10 = .ok (.istore_n 3, 1) := dec_of t_X9_tokens_ok 6 rfl
theorem dX9_tokens_11 : decode cX9_tokens 11 = .ok (.iload_n 3, 1) := dec_of t_X9_tokens_ok 7 rfl
theorem dX9_tokens_12 : decode cX9_tokens 12 = .ok (.aload_n 0, 1) := dec_of t_X9_tokens_ok 8 rfl
theorem dX9_tokens_13 : decode cX9_tokens 13 = .ok (.getfield 33, 3) := dec_of t_X9_tokens_ok 9 rfl
theorem dX9_tokens_16 : decode cX9_tokens 16 = .ok (.invokevirtual 297, 3) := dec_of t_X9_tokens_ok 10 rfl
theorem dX9_tokens_19 : decode cX9_tokens 19 = .ok (.if_icmp .ge 24, 3) := dec_of t_X9_tokens_ok 11 rfl
theorem dX9_tokens_22 : decode cX9_tokens 22 = .ok (.aload_n 0, 1) := dec_of t_X9_tokens_ok 12 rfl
theorem dX9_tokens_23 : decode cX9_tokens 23 = .ok (.getfield 33, 3) := dec_of t_X9_tokens_ok 13 rfl
theorem dX9_tokens_26 : decode cX9_tokens 26 = .ok (.iload_n 3, 1) := dec_of t_X9_tokens_ok 14 rfl
theorem dX9_tokens_27 : decode cX9_tokens 27 = .ok (.invokevirtual 298, 3) := dec_of t_X9_tokens_ok 15 rfl
theorem dX9_tokens_30 : decode cX9_tokens 30 = .ok (.iload_n 1, 1) := dec_of t_X9_tokens_ok 16 rfl
theorem dX9_tokens_31 : decode cX9_tokens 31 = .ok (.if_icmp .ne 6, 3) := dec_of t_X9_tokens_ok 17 rfl
theorem dX9_tokens_34 : decode cX9_tokens 34 = .ok (.iinc 2 1, 3) := dec_of t_X9_tokens_ok 18 rfl
theorem dX9_tokens_37 : decode cX9_tokens 37 = .ok (.iinc 3 1, 3) := dec_of t_X9_tokens_ok 19 rfl
theorem dX9_tokens_40 : decode cX9_tokens 40 = .ok (.goto (-29), 3) := dec_of t_X9_tokens_ok 20 rfl
theorem dX9_tokens_43 : decode cX9_tokens 43 = .ok (.iload_n 2, 1) := dec_of t_X9_tokens_ok 21 rfl
theorem dX9_tokens_44 : decode cX9_tokens 44 = .ok (.ireturn, 1) := dec_of t_X9_tokens_ok 22 rfl
def t_X9_paragraphs : List (Nat × Instr × Nat) := [(0, .aload_n 0, 1), (1, .getfield 21, 3), (4, .getfield 301, 3), (7, .invokevirtual 89, 3), (10, .ireturn, 1)]
theorem t_X9_paragraphs_ok : dec_ok cX9_paragraphs t_X9_paragraphs = true := by decide +kernel
theorem dX9_paragraphs_0 : decode cX9_paragraphs 0 = .ok (.aload_n 0, 1) := dec_of t_X9_paragraphs_ok 0 rfl
theorem dX9_paragraphs_1 : decode cX9_paragraphs 1 = .ok (.getfield 21, 3) := dec_of t_X9_paragraphs_ok 1 rfl
theorem dX9_paragraphs_4 : decode cX9_paragraphs 4 = .ok (.getfield 301, 3) := dec_of t_X9_paragraphs_ok 2 rfl
theorem dX9_paragraphs_7 : decode cX9_paragraphs 7 = .ok (.invokevirtual 89, 3) := dec_of t_X9_paragraphs_ok 3 rfl
theorem dX9_paragraphs_10 : decode cX9_paragraphs 10 = .ok (.ireturn, 1) := dec_of t_X9_paragraphs_ok 4 rfl
def t_X9_check : List (Nat × Instr × Nat) := [(0, .aload_n 0, 1), (1, .iload_n 1, 1), (2, .invokevirtual 216, 3), (5, .pop, 1), (6, .aload_n 0, 1), (7, .getfield 21, 3), (10, .iconst 1, 1), (11, .iload_n 1, 1), (12, .ishl, 1), (13, .invokevirtual 304, 3), (16, .ireturn, 1)]
theorem t_X9_check_ok : dec_ok cX9_check t_X9_check = true := by decide +kernel
theorem dX9_check_0 : decode cX9_check 0 = .ok (.aload_n 0, 1) := dec_of t_X9_check_ok 0 rfl
theorem dX9_check_1 : decode cX9_check 1 = .ok (.iload_n 1, 1) := dec_of t_X9_check_ok 1 rfl
theorem dX9_check_2 : decode cX9_check 2 = .ok (.invokevirtual 216, 3) := dec_of t_X9_check_ok 2 rfl
theorem dX9_check_5 : decode cX9_check 5 = .ok (.pop, 1) := dec_of t_X9_check_ok 3 rfl
theorem dX9_check_6 : decode cX9_check 6 = .ok (.aload_n 0, 1) := dec_of t_X9_check_ok 4 rfl
theorem dX9_check_7 : decode cX9_check 7 = .ok (.getfield 21, 3) := dec_of t_X9_check_ok 5 rfl
theorem dX9_check_10 : decode cX9_check 10 = .ok (.iconst 1, 1) := dec_of t_X9_check_ok 6 rfl
theorem dX9_check_11 : decode cX9_check 11 = .ok (.iload_n 1, 1) := dec_of t_X9_check_ok 7 rfl
theorem dX9_check_12 : decode cX9_check 12 = .ok (.ishl, 1) := dec_of t_X9_check_ok 8 rfl
theorem dX9_check_13 : decode cX9_check 13 = .ok (.invokevirtual 304, 3) := dec_of t_X9_check_ok 9 rfl
theorem dX9_check_16 : decode cX9_check 16 = .ok (.ireturn, 1) := dec_of t_X9_check_ok 10 rfl
def t_X9_byRule : List (Nat × Instr × Nat) := [(0, .aload_n 0, 1), (1, .iload_n 1, 1), (2, .invokevirtual 248, 3), (5, .pop, 1), (6, .iload_n 2, 1), (7, .ifCond .lt 9, 3), (10, .iload_n 2, 1), (11, .bipush 20, 2), (13, .if_icmp .le 14, 3), (16, .new 82, 3), (19, .dup, 1), (20, .ldc_w 307, 3), (23, .invokespecial 86, 3), (26, .athrow, 1), (27, .iconst 0, 1), (28, .istore_n 3, 1), (29, .iconst 0, 1), (30, .istore 4, 2), (32, .iload 4, 2), (34, .aload_n 0, 1), (35, .getfield 63, 3), (38, .invokevirtual 251, 3), (41, .if_icmp .ge 25, 3), (44, .aload_n 0, 1), (45, .getfield 63, 3), (48, .iload 4, 2), (50, .invokevirtual 257, 3), (53, .iload_n 2, 1), (54, .if_icmp .ne 6, 3), (57, .iinc 3 1, 3), (60, .iinc 4 1, 3), (63, .goto (-31), 3), (66, .iload_n 3, 1), (67, .ireturn, 1)]
theorem t_X9_byRule_ok : dec_ok cX9_byRule t_X9_byRule = true := by decide +kernel
theorem dX9_byRule_0 : decode cX9_byRule 0 = .ok (.aload_n 0, 1) := dec_of t_X9_byRule_ok 0 rfl
theorem dX9_byRule_1 : decode cX9_byRule 1 = .ok (.iload_n 1, 1) := dec_of t_X9_byRule_ok 1 rfl
theorem dX9_byRule_2 : decode cX9_byRule 2 = .ok (.invokevirtual 248, 3) := dec_of t_X9_byRule_ok 2 rfl
theorem dX9_byRule_5 : decode cX9_byRule 5 = .ok (.pop, 1) := dec_of t_X9_byRule_ok 3 rfl
theorem dX9_byRule_6 : decode cX9_byRule 6 = .ok (.iload_n 2, 1) := dec_of t_X9_byRule_ok 4 rfl
theorem dX9_byRule_7 : decode cX9_byRule 7 = .ok (.ifCond .lt 9, 3) := dec_of t_X9_byRule_ok 5 rfl
theorem dX9_byRule_10 : decode cX9_byRule 10 = .ok (.iload_n 2, 1) := dec_of t_X9_byRule_ok 6 rfl
theorem dX9_byRule_11 : decode cX9_byRule 11 = .ok (.bipush 20, 2) := dec_of t_X9_byRule_ok 7 rfl
theorem dX9_byRule_13 : decode cX9_byRule 13 = .ok (.if_icmp .le 14, 3) := dec_of t_X9_byRule_ok 8 rfl
theorem dX9_byRule_16 : decode cX9_byRule 16 = .ok (.new 82, 3) := dec_of t_X9_byRule_ok 9 rfl
theorem dX9_byRule_19 : decode cX9_byRule 19 = .ok (.dup, 1) := dec_of t_X9_byRule_ok 10 rfl
theorem dX9_byRule_20 : decode cX9_byRule 20 = .ok (.ldc_w 307, 3) := dec_of t_X9_byRule_ok 11 rfl
theorem dX9_byRule_23 : decode cX9_byRule 23 = .ok (.invokespecial 86, 3) := dec_of t_X9_byRule_ok 12 rfl
theorem dX9_byRule_26 : decode cX9_byRule 26 = .ok (.athrow, 1) := dec_of t_X9_byRule_ok 13 rfl
theorem dX9_byRule_27 : decode cX9_byRule 27 = .ok (.iconst 0, 1) := dec_of t_X9_byRule_ok 14 rfl
theorem dX9_byRule_28 : decode cX9_byRule 28 = .ok (.istore_n 3, 1) := dec_of t_X9_byRule_ok 15 rfl
theorem dX9_byRule_29 : decode cX9_byRule 29 = .ok (.iconst 0, 1) := dec_of t_X9_byRule_ok 16 rfl
theorem dX9_byRule_30 : decode cX9_byRule 30 = .ok (.istore 4, 2) := dec_of t_X9_byRule_ok 17 rfl
theorem dX9_byRule_32 : decode cX9_byRule 32 = .ok (.iload 4, 2) := dec_of t_X9_byRule_ok 18 rfl
theorem dX9_byRule_34 : decode cX9_byRule 34 = .ok (.aload_n 0, 1) := dec_of t_X9_byRule_ok 19 rfl
theorem dX9_byRule_35 : decode cX9_byRule 35 = .ok (.getfield 63, 3) := dec_of t_X9_byRule_ok 20 rfl
theorem dX9_byRule_38 : decode cX9_byRule 38 = .ok (.invokevirtual 251, 3) := dec_of t_X9_byRule_ok 21 rfl
theorem dX9_byRule_41 : decode cX9_byRule 41 = .ok (.if_icmp .ge 25, 3) := dec_of t_X9_byRule_ok 22 rfl
theorem dX9_byRule_44 : decode cX9_byRule 44 = .ok (.aload_n 0, 1) := dec_of t_X9_byRule_ok 23 rfl
theorem dX9_byRule_45 : decode cX9_byRule 45 = .ok (.getfield 63, 3) := dec_of t_X9_byRule_ok 24 rfl
theorem dX9_byRule_48 : decode cX9_byRule 48 = .ok (.iload 4, 2) := dec_of t_X9_byRule_ok 25 rfl
theorem dX9_byRule_50 : decode cX9_byRule 50 = .ok (.invokevirtual 257, 3) := dec_of t_X9_byRule_ok 26 rfl
theorem dX9_byRule_53 : decode cX9_byRule 53 = .ok (.iload_n 2, 1) := dec_of t_X9_byRule_ok 27 rfl
theorem dX9_byRule_54 : decode cX9_byRule 54 = .ok (.if_icmp .ne 6, 3) := dec_of t_X9_byRule_ok 28 rfl
theorem dX9_byRule_57 : decode cX9_byRule 57 = .ok (.iinc 3 1, 3) := dec_of t_X9_byRule_ok 29 rfl
theorem dX9_byRule_60 : decode cX9_byRule 60 = .ok (.iinc 4 1, 3) := dec_of t_X9_byRule_ok 30 rfl
theorem dX9_byRule_63 : decode cX9_byRule 63 = .ok (.goto (-31), 3) := dec_of t_X9_byRule_ok 31 rfl
theorem dX9_byRule_66 : decode cX9_byRule 66 = .ok (.iload_n 3, 1) := dec_of t_X9_byRule_ok 32 rfl
theorem dX9_byRule_67 : decode cX9_byRule 67 = .ok (.ireturn, 1) := dec_of t_X9_byRule_ok 33 rfl
def t_X9_byWriter : List (Nat × Instr × Nat) := [(0, .aload_n 0, 1), (1, .iload_n 1, 1), (2, .invokevirtual 248, 3), (5, .pop, 1), (6, .iload_n 2, 1), (7, .invokestatic 111, 3), (10, .ifCond .ne 14, 3), (13, .new 82, 3), (16, .dup, 1), (17, .ldc_w 278, 3), (20, .invokespecial 86, 3), (23, .athrow, 1), (24, .iconst 0, 1), (25, .istore_n 3, 1), (26, .iconst 0, 1), (27, .istore 4, 2), (29, .iload 4, 2), (31, .aload_n 0, 1), (32, .getfield 63, 3), (35, .invokevirtual 251, 3), (38, .if_icmp .ge 35, 3), (41, .aload_n 0, 1), (42, .getfield 21, 3), (45, .getfield 266, 3), (48, .aload_n 0, 1), (49, .getfield 63, 3), (52, .iload 4, 2), (54, .invokevirtual 260, 3), (57, .invokevirtual 130, 3), (60, .iload_n 2, 1), (61, .if_icmp .ne 6, 3), (64, .iinc 3 1, 3), (67, .iinc 4 1, 3), (70, .goto (-41), 3), (73, .iload_n 3, 1), (74, .ireturn, 1)]
theorem t_X9_byWriter_ok : dec_ok cX9_byWriter t_X9_byWriter = true := by decide +kernel
theorem dX9_byWriter_0 : decode cX9_byWriter 0 = .ok (.aload_n 0, 1) := dec_of t_X9_byWriter_ok 0 rfl
theorem dX9_byWriter_1 : decode cX9_byWriter 1 = .ok (.iload_n 1, 1) := dec_of t_X9_byWriter_ok 1 rfl
theorem dX9_byWriter_2 : decode cX9_byWriter 2 = .ok (.invokevirtual 248, 3) := dec_of t_X9_byWriter_ok 2 rfl
theorem dX9_byWriter_5 : decode cX9_byWriter 5 = .ok (.pop, 1) := dec_of t_X9_byWriter_ok 3 rfl
theorem dX9_byWriter_6 : decode cX9_byWriter 6 = .ok (.iload_n 2, 1) := dec_of t_X9_byWriter_ok 4 rfl
theorem dX9_byWriter_7 : decode cX9_byWriter 7 = .ok (.invokestatic 111, 3) := dec_of t_X9_byWriter_ok 5 rfl
theorem dX9_byWriter_10 : decode cX9_byWriter 10 = .ok (.ifCond .ne 14, 3) := dec_of t_X9_byWriter_ok 6 rfl
theorem dX9_byWriter_13 : decode cX9_byWriter 13 = .ok (.new 82, 3) := dec_of t_X9_byWriter_ok 7 rfl
theorem dX9_byWriter_16 : decode cX9_byWriter 16 = .ok (.dup, 1) := dec_of t_X9_byWriter_ok 8 rfl
theorem dX9_byWriter_17 : decode cX9_byWriter 17 = .ok (.ldc_w 278, 3) := dec_of t_X9_byWriter_ok 9 rfl
theorem dX9_byWriter_20 : decode cX9_byWriter 20 = .ok (.invokespecial 86, 3) := dec_of t_X9_byWriter_ok 10 rfl
theorem dX9_byWriter_23 : decode cX9_byWriter 23 = .ok (.athrow, 1) := dec_of t_X9_byWriter_ok 11 rfl
theorem dX9_byWriter_24 : decode cX9_byWriter 24 = .ok (.iconst 0, 1) := dec_of t_X9_byWriter_ok 12 rfl
theorem dX9_byWriter_25 : decode cX9_byWriter 25 = .ok (.istore_n 3, 1) := dec_of t_X9_byWriter_ok 13 rfl
theorem dX9_byWriter_26 : decode cX9_byWriter 26 = .ok (.iconst 0, 1) := dec_of t_X9_byWriter_ok 14 rfl
theorem dX9_byWriter_27 : decode cX9_byWriter 27 = .ok (.istore 4, 2) := dec_of t_X9_byWriter_ok 15 rfl
theorem dX9_byWriter_29 : decode cX9_byWriter 29 = .ok (.iload 4, 2) := dec_of t_X9_byWriter_ok 16 rfl
theorem dX9_byWriter_31 : decode cX9_byWriter 31 = .ok (.aload_n 0, 1) := dec_of t_X9_byWriter_ok 17 rfl
theorem dX9_byWriter_32 : decode cX9_byWriter 32 = .ok (.getfield 63, 3) := dec_of t_X9_byWriter_ok 18 rfl
theorem dX9_byWriter_35 : decode cX9_byWriter 35 = .ok (.invokevirtual 251, 3) := dec_of t_X9_byWriter_ok 19 rfl
theorem dX9_byWriter_38 : decode cX9_byWriter 38 = .ok (.if_icmp .ge 35, 3) := dec_of t_X9_byWriter_ok 20 rfl
theorem dX9_byWriter_41 : decode cX9_byWriter 41 = .ok (.aload_n 0, 1) := dec_of t_X9_byWriter_ok 21 rfl
theorem dX9_byWriter_42 : decode cX9_byWriter 42 = .ok (.getfield 21, 3) := dec_of t_X9_byWriter_ok 22 rfl
theorem dX9_byWriter_45 : decode cX9_byWriter 45 = .ok (.getfield 266, 3) := dec_of t_X9_byWriter_ok 23 rfl
theorem dX9_byWriter_48 : decode cX9_byWriter 48 = .ok (.aload_n 0, 1) := dec_of t_X9_byWriter_ok 24 rfl
theorem dX9_byWriter_49 : decode cX9_byWriter 49 = .ok (.getfield 63, 3) := dec_of t_X9_byWriter_ok 25 rfl
theorem dX9_byWriter_52 : decode cX9_byWriter 52 = .ok (.iload 4, 2) := dec_of t_X9_byWriter_ok 26 rfl
theorem dX9_byWriter_54 : decode cX9_byWriter 54 = .ok (.invokevirtual 260, 3) := dec_of t_X9_byWriter_ok 27 rfl
theorem dX9_byWriter_57 : decode cX9_byWriter 57 = .ok (.invokevirtual 130, 3) := dec_of t_X9_byWriter_ok 28 rfl
theorem dX9_byWriter_60 : decode cX9_byWriter 60 = .ok (.iload_n 2, 1) := dec_of t_X9_byWriter_ok 29 rfl
theorem dX9_byWriter_61 : decode cX9_byWriter 61 = .ok (.if_icmp .ne 6, 3) := dec_of t_X9_byWriter_ok 30 rfl
theorem dX9_byWriter_64 : decode cX9_byWriter 64 = .ok (.iinc 3 1, 3) := dec_of t_X9_byWriter_ok 31 rfl
theorem dX9_byWriter_67 : decode cX9_byWriter 67 = .ok (.iinc 4 1, 3) := dec_of t_X9_byWriter_ok 32 rfl
theorem dX9_byWriter_70 : decode cX9_byWriter 70 = .ok (.goto (-41), 3) := dec_of t_X9_byWriter_ok 33 rfl
theorem dX9_byWriter_73 : decode cX9_byWriter 73 = .ok (.iload_n 3, 1) := dec_of t_X9_byWriter_ok 34 rfl
theorem dX9_byWriter_74 : decode cX9_byWriter 74 = .ok (.ireturn, 1) := dec_of t_X9_byWriter_ok 35 rfl
def t_X9_checksum : List (Nat × Instr × Nat) := [(0, .aload_n 0, 1), (1, .iconst 0, 1), (2, .invokevirtual 248, 3), (5, .pop, 1), (6, .ldc2_w 309, 3), (9, .lstore_n 1, 1), (10, .iconst 0, 1), (11, .istore_n 3, 1), (12, .iload_n 3, 1), (13, .aload_n 0, 1), (14, .getfield 21, 3), (17, .getfield 27, 3), (20, .invokevirtual 89, 3), (23, .if_icmp .ge 28, 3), (26, .ldc2_w 311, 3), (29, .lload_n 1, 1), (30, .lmul, 1), (31, .aload_n 0, 1), (32, .getfield 21, 3), (35, .getfield 27, 3), (38, .iload_n 3, 1), (39, .invokevirtual 130, 3), (42, .i2l, 1), (43, .ladd, 1), (44, .lstore_n 1, 1), (45, .iinc 3 1, 3), (48, .goto (-36), 3), (51, .iconst 0, 1), (52, .istore_n 3, 1), (53, .iload_n 3, 1), (54, .aload_n 0, 1), (55, .getfield 63, 3), (58, .invokevirtual 251, 3), (61, .if_icmp .ge 41, 3), (64, .ldc2_w 311, 3), (67, .lload_n 1, 1), (68, .lmul, 1), (69, .aload_n 0, 1), (70, .getfield 63, 3), (73, .iload_n 3, 1), (74, .invokevirtual 260, 3), (77, .i2l, 1), (78, .ladd, 1), (79, .lstore_n 1, 1), (80, .ldc2_w 311, 3), (83, .lload_n 1, 1), (84, .lmul, 1), (85, .aload_n 0, 1), (86, .getfield 63, 3), (89, .iload_n 3, 1), (90, .invokevirtual 257, 3), (93, .i2l, 1), (94, .ladd, 1), (95, .lstore_n 1, 1), (96, .iinc 3 1, 3), (99, .goto (-46), 3), (102, .lload_n 1, 1), (103, .lreturn, 1)]
theorem t_X9_checksum_ok : dec_ok cX9_checksum t_X9_checksum = true := by decide +kernel
theorem dX9_checksum_0 : decode cX9_checksum 0 = .ok (.aload_n 0, 1) := dec_of t_X9_checksum_ok 0 rfl
theorem dX9_checksum_1 : decode cX9_checksum 1 = .ok (.iconst 0, 1) := dec_of t_X9_checksum_ok 1 rfl
theorem dX9_checksum_2 : decode cX9_checksum 2 = .ok (.invokevirtual 248, 3) := dec_of t_X9_checksum_ok 2 rfl
theorem dX9_checksum_5 : decode cX9_checksum 5 = .ok (.pop, 1) := dec_of t_X9_checksum_ok 3 rfl
theorem dX9_checksum_6 : decode cX9_checksum 6 = .ok (.ldc2_w 309, 3) := dec_of t_X9_checksum_ok 4 rfl
theorem dX9_checksum_9 : decode cX9_checksum 9 = .ok (.lstore_n 1, 1) := dec_of t_X9_checksum_ok 5 rfl
theorem dX9_checksum_10 : decode cX9_checksum 10 = .ok (.iconst 0, 1) := dec_of t_X9_checksum_ok 6 rfl
theorem dX9_checksum_11 : decode cX9_checksum 11 = .ok (.istore_n 3, 1) := dec_of t_X9_checksum_ok 7 rfl
theorem dX9_checksum_12 : decode cX9_checksum 12 = .ok (.iload_n 3, 1) := dec_of t_X9_checksum_ok 8 rfl
theorem dX9_checksum_13 : decode cX9_checksum 13 = .ok (.aload_n 0, 1) := dec_of t_X9_checksum_ok 9 rfl
theorem dX9_checksum_14 : decode cX9_checksum 14 = .ok (.getfield 21, 3) := dec_of t_X9_checksum_ok 10 rfl
theorem dX9_checksum_17 : decode cX9_checksum 17 = .ok (.getfield 27, 3) := dec_of t_X9_checksum_ok 11 rfl
theorem dX9_checksum_20 : decode cX9_checksum 20 = .ok (.invokevirtual 89, 3) := dec_of t_X9_checksum_ok 12 rfl
theorem dX9_checksum_23 : decode cX9_checksum 23 = .ok (.if_icmp .ge 28, 3) := dec_of t_X9_checksum_ok 13 rfl
theorem dX9_checksum_26 : decode cX9_checksum 26 = .ok (.ldc2_w 311, 3) := dec_of t_X9_checksum_ok 14 rfl
theorem dX9_checksum_29 : decode cX9_checksum 29 = .ok (.lload_n 1, 1) := dec_of t_X9_checksum_ok 15 rfl
theorem dX9_checksum_30 : decode cX9_checksum 30 = .ok (.lmul, 1) := dec_of t_X9_checksum_ok 16 rfl
theorem dX9_checksum_31 : decode cX9_checksum 31 = .ok (.aload_n 0, 1) := dec_of t_X9_checksum_ok 17 rfl
theorem dX9_checksum_32 : decode cX9_checksum 32 = .ok (.getfield 21, 3) := dec_of t_X9_checksum_ok 18 rfl
theorem dX9_checksum_35 : decode cX9_checksum 35 = .ok (.getfield 27, 3) := dec_of t_X9_checksum_ok 19 rfl
theorem dX9_checksum_38 : decode cX9_checksum 38 = .ok (.iload_n 3, 1) := dec_of t_X9_checksum_ok 20 rfl
theorem dX9_checksum_39 : decode cX9_checksum 39 = .ok (.invokevirtual 130, 3) := dec_of t_X9_checksum_ok 21 rfl
theorem dX9_checksum_42 : decode cX9_checksum 42 = .ok (.i2l, 1) := dec_of t_X9_checksum_ok 22 rfl
theorem dX9_checksum_43 : decode cX9_checksum 43 = .ok (.ladd, 1) := dec_of t_X9_checksum_ok 23 rfl
theorem dX9_checksum_44 : decode cX9_checksum 44 = .ok (.lstore_n 1, 1) := dec_of t_X9_checksum_ok 24 rfl
theorem dX9_checksum_45 : decode cX9_checksum 45 = .ok (.iinc 3 1, 3) := dec_of t_X9_checksum_ok 25 rfl
theorem dX9_checksum_48 : decode cX9_checksum 48 = .ok (.goto (-36), 3) := dec_of t_X9_checksum_ok 26 rfl
theorem dX9_checksum_51 : decode cX9_checksum 51 = .ok (.iconst 0, 1) := dec_of t_X9_checksum_ok 27 rfl
theorem dX9_checksum_52 : decode cX9_checksum 52 = .ok (.istore_n 3, 1) := dec_of t_X9_checksum_ok 28 rfl
theorem dX9_checksum_53 : decode cX9_checksum 53 = .ok (.iload_n 3, 1) := dec_of t_X9_checksum_ok 29 rfl
theorem dX9_checksum_54 : decode cX9_checksum 54 = .ok (.aload_n 0, 1) := dec_of t_X9_checksum_ok 30 rfl
theorem dX9_checksum_55 : decode cX9_checksum 55 = .ok (.getfield 63, 3) := dec_of t_X9_checksum_ok 31 rfl
theorem dX9_checksum_58 : decode cX9_checksum 58 = .ok (.invokevirtual 251, 3) := dec_of t_X9_checksum_ok 32 rfl
theorem dX9_checksum_61 : decode cX9_checksum 61 = .ok (.if_icmp .ge 41, 3) := dec_of t_X9_checksum_ok 33 rfl
theorem dX9_checksum_64 : decode cX9_checksum 64 = .ok (.ldc2_w 311, 3) := dec_of t_X9_checksum_ok 34 rfl
theorem dX9_checksum_67 : decode cX9_checksum 67 = .ok (.lload_n 1, 1) := dec_of t_X9_checksum_ok 35 rfl
theorem dX9_checksum_68 : decode cX9_checksum 68 = .ok (.lmul, 1) := dec_of t_X9_checksum_ok 36 rfl
theorem dX9_checksum_69 : decode cX9_checksum 69 = .ok (.aload_n 0, 1) := dec_of t_X9_checksum_ok 37 rfl
theorem dX9_checksum_70 : decode cX9_checksum 70 = .ok (.getfield 63, 3) := dec_of t_X9_checksum_ok 38 rfl
theorem dX9_checksum_73 : decode cX9_checksum 73 = .ok (.iload_n 3, 1) := dec_of t_X9_checksum_ok 39 rfl
theorem dX9_checksum_74 : decode cX9_checksum 74 = .ok (.invokevirtual 260, 3) := dec_of t_X9_checksum_ok 40 rfl
theorem dX9_checksum_77 : decode cX9_checksum 77 = .ok (.i2l, 1) := dec_of t_X9_checksum_ok 41 rfl
theorem dX9_checksum_78 : decode cX9_checksum 78 = .ok (.ladd, 1) := dec_of t_X9_checksum_ok 42 rfl
theorem dX9_checksum_79 : decode cX9_checksum 79 = .ok (.lstore_n 1, 1) := dec_of t_X9_checksum_ok 43 rfl
theorem dX9_checksum_80 : decode cX9_checksum 80 = .ok (.ldc2_w 311, 3) := dec_of t_X9_checksum_ok 44 rfl
theorem dX9_checksum_83 : decode cX9_checksum 83 = .ok (.lload_n 1, 1) := dec_of t_X9_checksum_ok 45 rfl
theorem dX9_checksum_84 : decode cX9_checksum 84 = .ok (.lmul, 1) := dec_of t_X9_checksum_ok 46 rfl
theorem dX9_checksum_85 : decode cX9_checksum 85 = .ok (.aload_n 0, 1) := dec_of t_X9_checksum_ok 47 rfl
theorem dX9_checksum_86 : decode cX9_checksum 86 = .ok (.getfield 63, 3) := dec_of t_X9_checksum_ok 48 rfl
theorem dX9_checksum_89 : decode cX9_checksum 89 = .ok (.iload_n 3, 1) := dec_of t_X9_checksum_ok 49 rfl
theorem dX9_checksum_90 : decode cX9_checksum 90 = .ok (.invokevirtual 257, 3) := dec_of t_X9_checksum_ok 50 rfl
theorem dX9_checksum_93 : decode cX9_checksum 93 = .ok (.i2l, 1) := dec_of t_X9_checksum_ok 51 rfl
theorem dX9_checksum_94 : decode cX9_checksum 94 = .ok (.ladd, 1) := dec_of t_X9_checksum_ok 52 rfl
theorem dX9_checksum_95 : decode cX9_checksum 95 = .ok (.lstore_n 1, 1) := dec_of t_X9_checksum_ok 53 rfl
theorem dX9_checksum_96 : decode cX9_checksum 96 = .ok (.iinc 3 1, 3) := dec_of t_X9_checksum_ok 54 rfl
theorem dX9_checksum_99 : decode cX9_checksum 99 = .ok (.goto (-46), 3) := dec_of t_X9_checksum_ok 55 rfl
theorem dX9_checksum_102 : decode cX9_checksum 102 = .ok (.lload_n 1, 1) := dec_of t_X9_checksum_ok 56 rfl
theorem dX9_checksum_103 : decode cX9_checksum 103 = .ok (.lreturn, 1) := dec_of t_X9_checksum_ok 57 rfl
def t_X9_foundShare : List (Nat × Instr × Nat) := [(0, .aload_n 0, 1), (1, .iload_n 1, 1), (2, .invokevirtual 248, 3), (5, .pop, 1), (6, .aload_n 0, 1), (7, .getfield 21, 3), (10, .getfield 27, 3), (13, .invokevirtual 89, 3), (16, .istore_n 2, 1), (17, .iload_n 2, 1), (18, .ifCond .ne 14, 3), (21, .new 313, 3), (24, .dup, 1), (25, .ldc_w 315, 3), (28, .invokespecial 317, 3), (31, .athrow, 1), (32, .iconst 0, 1), (33, .istore_n 3, 1), (34, .iconst 0, 1), (35, .istore 4, 2), (37, .iload 4, 2), (39, .aload_n 0, 1), (40, .getfield 63, 3), (43, .invokevirtual 251, 3), (46, .if_icmp .ge 21, 3), (49, .iload_n 3, 1), (50, .aload_n 0, 1), (51, .getfield 63, 3), (54, .iload 4, 2), (56, .invokevirtual 263, 3), (59, .iadd, 1), (60, .istore_n 3, 1), (61, .iinc 4 1, 3), (64, .goto (-27), 3), (67, .iload_n 3, 1), (68, .i2f, 1), (69, .iload_n 2, 1), (70, .i2f, 1), (71, .fdiv, 1), (72, .freturn, 1)]
theorem t_X9_foundShare_ok : dec_ok cX9_foundShare t_X9_foundShare = true := by decide +kernel
theorem dX9_foundShare_0 : decode cX9_foundShare 0 = .ok (.aload_n 0, 1) := dec_of t_X9_foundShare_ok 0 rfl
theorem dX9_foundShare_1 : decode cX9_foundShare 1 = .ok (.iload_n 1, 1) := dec_of t_X9_foundShare_ok 1 rfl
theorem dX9_foundShare_2 : decode cX9_foundShare 2 = .ok (.invokevirtual 248, 3) := dec_of t_X9_foundShare_ok 2 rfl
theorem dX9_foundShare_5 : decode cX9_foundShare 5 = .ok (.pop, 1) := dec_of t_X9_foundShare_ok 3 rfl
theorem dX9_foundShare_6 : decode cX9_foundShare 6 = .ok (.aload_n 0, 1) := dec_of t_X9_foundShare_ok 4 rfl
theorem dX9_foundShare_7 : decode cX9_foundShare 7 = .ok (.getfield 21, 3) := dec_of t_X9_foundShare_ok 5 rfl
theorem dX9_foundShare_10 : decode cX9_foundShare 10 = .ok (.getfield 27, 3) := dec_of t_X9_foundShare_ok 6 rfl
theorem dX9_foundShare_13 : decode cX9_foundShare 13 = .ok (.invokevirtual 89, 3) := dec_of t_X9_foundShare_ok 7 rfl
theorem dX9_foundShare_16 : decode cX9_foundShare 16 = .ok (.istore_n 2, 1) := dec_of t_X9_foundShare_ok 8 rfl
theorem dX9_foundShare_17 : decode cX9_foundShare 17 = .ok (.iload_n 2, 1) := dec_of t_X9_foundShare_ok 9 rfl
theorem dX9_foundShare_18 : decode cX9_foundShare 18 = .ok (.ifCond .ne 14, 3) := dec_of t_X9_foundShare_ok 10 rfl
theorem dX9_foundShare_21 : decode cX9_foundShare 21 = .ok (.new 313, 3) := dec_of t_X9_foundShare_ok 11 rfl
theorem dX9_foundShare_24 : decode cX9_foundShare 24 = .ok (.dup, 1) := dec_of t_X9_foundShare_ok 12 rfl
theorem dX9_foundShare_25 : decode cX9_foundShare 25 = .ok (.ldc_w 315, 3) := dec_of t_X9_foundShare_ok 13 rfl
theorem dX9_foundShare_28 : decode cX9_foundShare 28 = .ok (.invokespecial 317, 3) := dec_of t_X9_foundShare_ok 14 rfl
theorem dX9_foundShare_31 : decode cX9_foundShare 31 = .ok (.athrow, 1) := dec_of t_X9_foundShare_ok 15 rfl
theorem dX9_foundShare_32 : decode cX9_foundShare 32 = .ok (.iconst 0, 1) := dec_of t_X9_foundShare_ok 16 rfl
theorem dX9_foundShare_33 : decode cX9_foundShare 33 = .ok (.istore_n 3, 1) := dec_of t_X9_foundShare_ok 17 rfl
theorem dX9_foundShare_34 : decode cX9_foundShare 34 = .ok (.iconst 0, 1) := dec_of t_X9_foundShare_ok 18 rfl
theorem dX9_foundShare_35 : decode cX9_foundShare 35 = .ok (.istore 4, 2) := dec_of t_X9_foundShare_ok 19 rfl
theorem dX9_foundShare_37 : decode cX9_foundShare 37 = .ok (.iload 4, 2) := dec_of t_X9_foundShare_ok 20 rfl
theorem dX9_foundShare_39 : decode cX9_foundShare 39 = .ok (.aload_n 0, 1) := dec_of t_X9_foundShare_ok 21 rfl
theorem dX9_foundShare_40 : decode cX9_foundShare 40 = .ok (.getfield 63, 3) := dec_of t_X9_foundShare_ok 22 rfl
theorem dX9_foundShare_43 : decode cX9_foundShare 43 = .ok (.invokevirtual 251, 3) := dec_of t_X9_foundShare_ok 23 rfl
theorem dX9_foundShare_46 : decode cX9_foundShare 46 = .ok (.if_icmp .ge 21, 3) := dec_of t_X9_foundShare_ok 24 rfl
theorem dX9_foundShare_49 : decode cX9_foundShare 49 = .ok (.iload_n 3, 1) := dec_of t_X9_foundShare_ok 25 rfl
theorem dX9_foundShare_50 : decode cX9_foundShare 50 = .ok (.aload_n 0, 1) := dec_of t_X9_foundShare_ok 26 rfl
theorem dX9_foundShare_51 : decode cX9_foundShare 51 = .ok (.getfield 63, 3) := dec_of t_X9_foundShare_ok 27 rfl
theorem dX9_foundShare_54 : decode cX9_foundShare 54 = .ok (.iload 4, 2) := dec_of t_X9_foundShare_ok 28 rfl
theorem dX9_foundShare_56 : decode cX9_foundShare 56 = .ok (.invokevirtual 263, 3) := dec_of t_X9_foundShare_ok 29 rfl
theorem dX9_foundShare_59 : decode cX9_foundShare 59 = .ok (.iadd, 1) := dec_of t_X9_foundShare_ok 30 rfl
theorem dX9_foundShare_60 : decode cX9_foundShare 60 = .ok (.istore_n 3, 1) := dec_of t_X9_foundShare_ok 31 rfl
theorem dX9_foundShare_61 : decode cX9_foundShare 61 = .ok (.iinc 4 1, 3) := dec_of t_X9_foundShare_ok 32 rfl
theorem dX9_foundShare_64 : decode cX9_foundShare 64 = .ok (.goto (-27), 3) := dec_of t_X9_foundShare_ok 33 rfl
theorem dX9_foundShare_67 : decode cX9_foundShare 67 = .ok (.iload_n 3, 1) := dec_of t_X9_foundShare_ok 34 rfl
theorem dX9_foundShare_68 : decode cX9_foundShare 68 = .ok (.i2f, 1) := dec_of t_X9_foundShare_ok 35 rfl
theorem dX9_foundShare_69 : decode cX9_foundShare 69 = .ok (.iload_n 2, 1) := dec_of t_X9_foundShare_ok 36 rfl
theorem dX9_foundShare_70 : decode cX9_foundShare 70 = .ok (.i2f, 1) := dec_of t_X9_foundShare_ok 37 rfl
theorem dX9_foundShare_71 : decode cX9_foundShare 71 = .ok (.fdiv, 1) := dec_of t_X9_foundShare_ok 38 rfl
theorem dX9_foundShare_72 : decode cX9_foundShare 72 = .ok (.freturn, 1) := dec_of t_X9_foundShare_ok 39 rfl
def t_X9_meanWord : List (Nat × Instr × Nat) := [(0, .aload_n 0, 1), (1, .getfield 33, 3), (4, .invokevirtual 294, 3), (7, .iconst 0, 1), (8, .istore_n 1, 1), (9, .iconst 0, 1), (10, .istore_n 2, 1), (11, .iconst 0, 1), (12, .istore_n 3, 1), (13, .iload_n 3, 1), (14, .aload_n 0, 1), (15, .getfield 33, 3), (18, .invokevirtual 297, 3), (21, .if_icmp .ge 34, 3), (24, .aload_n 0, 1), (25, .getfield 33, 3), (28, .iload_n 3, 1), (29, .invokevirtual 318, 3), (32, .ifCond .eq 17, 3), (35, .iload_n 1, 1), (36, .aload_n 0, 1), (37, .getfield 33, 3), (40, .iload_n 3, 1), (41, .invokevirtual 320, 3), (44, .iadd, 1), (45, .istore_n 1, 1), (46, .iinc 2 1, 3), (49, .iinc 3 1, 3), (52, .goto (-39), 3), (55, .iload_n 2, 1), (56, .ifCond .ne 14, 3), (59, .new 313, 3), (62, .dup, 1), (63, .ldc_w 315, 3), (66, .invokespecial 317, 3), (69, .athrow, 1), (70, .iload_n 1, 1), (71, .i2d, 1), (72, .iload_n 2, 1), (73, .i2d, 1), (74, .ddiv, 1), (75, .dreturn, 1)]
theorem t_X9_meanWord_ok : dec_ok cX9_meanWord t_X9_meanWord = true := by decide +kernel
theorem dX9_meanWord_0 : decode cX9_meanWord 0 = .ok (.aload_n 0, 1) := dec_of t_X9_meanWord_ok 0 rfl
theorem dX9_meanWord_1 : decode cX9_meanWord 1 = .ok (.getfield 33, 3) := dec_of t_X9_meanWord_ok 1 rfl
theorem dX9_meanWord_4 : decode cX9_meanWord 4 = .ok (.invokevirtual 294, 3) := dec_of t_X9_meanWord_ok 2 rfl
theorem dX9_meanWord_7 : decode cX9_meanWord 7 = .ok (.iconst 0, 1) := dec_of t_X9_meanWord_ok 3 rfl
theorem dX9_meanWord_8 : decode cX9_meanWord 8 = .ok (.istore_n 1, 1) := dec_of t_X9_meanWord_ok 4 rfl
theorem dX9_meanWord_9 : decode cX9_meanWord 9 = .ok (.iconst 0, 1) := dec_of t_X9_meanWord_ok 5 rfl
theorem dX9_meanWord_10 : decode cX9_meanWord 10 = .ok (.istore_n 2, 1) := dec_of t_X9_meanWord_ok 6 rfl
theorem dX9_meanWord_11 : decode cX9_meanWord 11 = .ok (.iconst 0, 1) := dec_of t_X9_meanWord_ok 7 rfl
theorem dX9_meanWord_12 : decode cX9_meanWord 12 = .ok (.istore_n 3, 1) := dec_of t_X9_meanWord_ok 8 rfl
theorem dX9_meanWord_13 : decode cX9_meanWord 13 = .ok (.iload_n 3, 1) := dec_of t_X9_meanWord_ok 9 rfl
theorem dX9_meanWord_14 : decode cX9_meanWord 14 = .ok (.aload_n 0, 1) := dec_of t_X9_meanWord_ok 10 rfl
theorem dX9_meanWord_15 : decode cX9_meanWord 15 = .ok (.getfield 33, 3) := dec_of t_X9_meanWord_ok 11 rfl
theorem dX9_meanWord_18 : decode cX9_meanWord 18 = .ok (.invokevirtual 297, 3) := dec_of t_X9_meanWord_ok 12 rfl
theorem dX9_meanWord_21 : decode cX9_meanWord 21 = .ok (.if_icmp .ge 34, 3) := dec_of t_X9_meanWord_ok 13 rfl
theorem dX9_meanWord_24 : decode cX9_meanWord 24 = .ok (.aload_n 0, 1) := dec_of t_X9_meanWord_ok 14 rfl
theorem dX9_meanWord_25 : decode cX9_meanWord 25 = .ok (.getfield 33, 3) := dec_of t_X9_meanWord_ok 15 rfl
theorem dX9_meanWord_28 : decode cX9_meanWord 28 = .ok (.iload_n 3, 1) := dec_of t_X9_meanWord_ok 16 rfl
theorem dX9_meanWord_29 : decode cX9_meanWord 29 = .ok (.invokevirtual 318, 3) := dec_of t_X9_meanWord_ok 17 rfl
theorem dX9_meanWord_32 : decode cX9_meanWord 32 = .ok (.ifCond .eq 17, 3) := dec_of t_X9_meanWord_ok 18 rfl
theorem dX9_meanWord_35 : decode cX9_meanWord 35 = .ok (.iload_n 1, 1) := dec_of t_X9_meanWord_ok 19 rfl
theorem dX9_meanWord_36 : decode cX9_meanWord 36 = .ok (.aload_n 0, 1) := dec_of t_X9_meanWord_ok 20 rfl
theorem dX9_meanWord_37 : decode cX9_meanWord 37 = .ok (.getfield 33, 3) := dec_of t_X9_meanWord_ok 21 rfl
theorem dX9_meanWord_40 : decode cX9_meanWord 40 = .ok (.iload_n 3, 1) := dec_of t_X9_meanWord_ok 22 rfl
theorem dX9_meanWord_41 : decode cX9_meanWord 41 = .ok (.invokevirtual 320, 3) := dec_of t_X9_meanWord_ok 23 rfl
theorem dX9_meanWord_44 : decode cX9_meanWord 44 = .ok (.iadd, 1) := dec_of t_X9_meanWord_ok 24 rfl
theorem dX9_meanWord_45 : decode cX9_meanWord 45 = .ok (.istore_n 1, 1) := dec_of t_X9_meanWord_ok 25 rfl
theorem dX9_meanWord_46 : decode cX9_meanWord 46 = .ok (.iinc 2 1, 3) := dec_of t_X9_meanWord_ok 26 rfl
theorem dX9_meanWord_49 : decode cX9_meanWord 49 = .ok (.iinc 3 1, 3) := dec_of t_X9_meanWord_ok 27 rfl
theorem dX9_meanWord_52 : decode cX9_meanWord 52 = .ok (.goto (-39), 3) := dec_of t_X9_meanWord_ok 28 rfl
theorem dX9_meanWord_55 : decode cX9_meanWord 55 = .ok (.iload_n 2, 1) := dec_of t_X9_meanWord_ok 29 rfl
theorem dX9_meanWord_56 : decode cX9_meanWord 56 = .ok (.ifCond .ne 14, 3) := dec_of t_X9_meanWord_ok 30 rfl
theorem dX9_meanWord_59 : decode cX9_meanWord 59 = .ok (.new 313, 3) := dec_of t_X9_meanWord_ok 31 rfl
theorem dX9_meanWord_62 : decode cX9_meanWord 62 = .ok (.dup, 1) := dec_of t_X9_meanWord_ok 32 rfl
theorem dX9_meanWord_63 : decode cX9_meanWord 63 = .ok (.ldc_w 315, 3) := dec_of t_X9_meanWord_ok 33 rfl
theorem dX9_meanWord_66 : decode cX9_meanWord 66 = .ok (.invokespecial 317, 3) := dec_of t_X9_meanWord_ok 34 rfl
theorem dX9_meanWord_69 : decode cX9_meanWord 69 = .ok (.athrow, 1) := dec_of t_X9_meanWord_ok 35 rfl
theorem dX9_meanWord_70 : decode cX9_meanWord 70 = .ok (.iload_n 1, 1) := dec_of t_X9_meanWord_ok 36 rfl
theorem dX9_meanWord_71 : decode cX9_meanWord 71 = .ok (.i2d, 1) := dec_of t_X9_meanWord_ok 37 rfl
theorem dX9_meanWord_72 : decode cX9_meanWord 72 = .ok (.iload_n 2, 1) := dec_of t_X9_meanWord_ok 38 rfl
theorem dX9_meanWord_73 : decode cX9_meanWord 73 = .ok (.i2d, 1) := dec_of t_X9_meanWord_ok 39 rfl
theorem dX9_meanWord_74 : decode cX9_meanWord 74 = .ok (.ddiv, 1) := dec_of t_X9_meanWord_ok 40 rfl
theorem dX9_meanWord_75 : decode cX9_meanWord 75 = .ok (.dreturn, 1) := dec_of t_X9_meanWord_ok 41 rfl
def t_X9_isSound : List (Nat × Instr × Nat) := [(0, .iconst 1, 1), (1, .istore_n 1, 1), (2, .iconst 0, 1), (3, .istore_n 2, 1), (4, .iload_n 2, 1), (5, .aload_n 0, 1), (6, .getfield 47, 3), (9, .invokevirtual 150, 3), (12, .if_icmp .ge 63, 3), (15, .aload_n 0, 1), (16, .iload_n 2, 1), (17, .invokevirtual 248, 3), (20, .astore_n 3, 1), (21, .iload_n 1, 1), (22, .ifCond .eq 45, 3), (25, .aload_n 0, 1), (26, .getfield 63, 3), (29, .invokevirtual 321, 3), (32, .ifCond .eq 35, 3), (35, .aload_n 0, 1), (36, .getfield 63, 3), (39, .aload_n 3, 1), (40, .invokevirtual 325, 3), (43, .ifCond .eq 24, 3), (46, .aload_n 3, 1), (47, .aload_n 0, 1), (48, .getfield 21, 3), (51, .getfield 27, 3), (54, .invokevirtual 89, 3), (57, .invokevirtual 329, 3), (60, .ifCond .eq 7, 3), (63, .iconst 1, 1), (64, .goto 4, 3), (67, .iconst 0, 1), (68, .istore_n 1, 1), (69, .iinc 2 1, 3), (72, .goto (-68), 3), (75, .iload_n 1, 1), (76, .ireturn, 1)]
theorem t_X9_isSound_ok : dec_ok cX9_isSound t_X9_isSound = true := by decide +kernel
theorem dX9_isSound_0 : decode cX9_isSound 0 = .ok (.iconst 1, 1) := dec_of t_X9_isSound_ok 0 rfl
theorem dX9_isSound_1 : decode cX9_isSound 1 = .ok (.istore_n 1, 1) := dec_of t_X9_isSound_ok 1 rfl
theorem dX9_isSound_2 : decode cX9_isSound 2 = .ok (.iconst 0, 1) := dec_of t_X9_isSound_ok 2 rfl
theorem dX9_isSound_3 : decode cX9_isSound 3 = .ok (.istore_n 2, 1) := dec_of t_X9_isSound_ok 3 rfl
theorem dX9_isSound_4 : decode cX9_isSound 4 = .ok (.iload_n 2, 1) := dec_of t_X9_isSound_ok 4 rfl
theorem dX9_isSound_5 : decode cX9_isSound 5 = .ok (.aload_n 0, 1) := dec_of t_X9_isSound_ok 5 rfl
theorem dX9_isSound_6 : decode cX9_isSound 6 = .ok (.getfield 47, 3) := dec_of t_X9_isSound_ok 6 rfl
theorem dX9_isSound_9 : decode cX9_isSound 9 = .ok (.invokevirtual 150, 3) := dec_of t_X9_isSound_ok 7 rfl
theorem dX9_isSound_12 : decode cX9_isSound 12 = .ok (.if_icmp .ge 63, 3) := dec_of t_X9_isSound_ok 8 rfl
theorem dX9_isSound_15 : decode cX9_isSound 15 = .ok (.aload_n 0, 1) := dec_of t_X9_isSound_ok 9 rfl
theorem dX9_isSound_16 : decode cX9_isSound 16 = .ok (.iload_n 2, 1) := dec_of t_X9_isSound_ok 10 rfl
theorem dX9_isSound_17 : decode cX9_isSound 17 = .ok (.invokevirtual 248, 3) := dec_of t_X9_isSound_ok 11 rfl
theorem dX9_isSound_20 : decode cX9_isSound 20 = .ok (.astore_n 3, 1) := dec_of t_X9_isSound_ok 12 rfl
theorem dX9_isSound_21 : decode cX9_isSound 21 = .ok (.iload_n 1, 1) := dec_of t_X9_isSound_ok 13 rfl
theorem dX9_isSound_22 : decode cX9_isSound 22 = .ok (.ifCond .eq 45, 3) := dec_of t_X9_isSound_ok 14 rfl
theorem dX9_isSound_25 : decode cX9_isSound 25 = .ok (.aload_n 0, 1) := dec_of t_X9_isSound_ok 15 rfl
theorem dX9_isSound_26 : decode cX9_isSound 26 = .ok (.getfield 63, 3) := dec_of t_X9_isSound_ok 16 rfl
theorem dX9_isSound_29 : decode cX9_isSound 29 = .ok (.invokevirtual 321, 3) := dec_of t_X9_isSound_ok 17 rfl
theorem dX9_isSound_32 : decode cX9_isSound 32 = .ok (.ifCond .eq 35, 3) := dec_of t_X9_isSound_ok 18 rfl
theorem dX9_isSound_35 : decode cX9_isSound 35 = .ok (.aload_n 0, 1) := dec_of t_X9_isSound_ok 19 rfl
theorem dX9_isSound_36 : decode cX9_isSound 36 = .ok (.getfield 63, 3) := dec_of t_X9_isSound_ok 20 rfl
theorem dX9_isSound_39 : decode cX9_isSound 39 = .ok (.aload_n 3, 1) := dec_of t_X9_isSound_ok 21 rfl
theorem dX9_isSound_40 : decode cX9_isSound 40 = .ok (.invokevirtual 325, 3) := dec_of t_X9_isSound_ok 22 rfl
theorem dX9_isSound_43 : decode cX9_isSound 43 = .ok (.ifCond .eq 24, 3) := dec_of t_X9_isSound_ok 23 rfl
theorem dX9_isSound_46 : decode cX9_isSound 46 = .ok (.aload_n 3, 1) := dec_of t_X9_isSound_ok 24 rfl
theorem dX9_isSound_47 : decode cX9_isSound 47 = .ok (.aload_n 0, 1) := dec_of t_X9_isSound_ok 25 rfl
theorem dX9_isSound_48 : decode cX9_isSound 48 = .ok (.getfield 21, 3) := dec_of t_X9_isSound_ok 26 rfl
theorem dX9_isSound_51 : decode cX9_isSound 51 = .ok (.getfield 27, 3) := dec_of t_X9_isSound_ok 27 rfl
theorem dX9_isSound_54 : decode cX9_isSound 54 = .ok (.invokevirtual 89, 3) := dec_of t_X9_isSound_ok 28 rfl
theorem dX9_isSound_57 : decode cX9_isSound 57 = .ok (.invokevirtual 329, 3) := dec_of t_X9_isSound_ok 29 rfl
theorem dX9_isSound_60 : decode cX9_isSound 60 = .ok (.ifCond .eq 7, 3) := dec_of t_X9_isSound_ok 30 rfl
theorem dX9_isSound_63 : decode cX9_isSound 63 = .ok (.iconst 1, 1) := dec_of t_X9_isSound_ok 31 rfl
theorem dX9_isSound_64 : decode cX9_isSound 64 = .ok (.goto 4, 3) := dec_of t_X9_isSound_ok 32 rfl
theorem dX9_isSound_67 : decode cX9_isSound 67 = .ok (.iconst 0, 1) := dec_of t_X9_isSound_ok 33 rfl
theorem dX9_isSound_68 : decode cX9_isSound 68 = .ok (.istore_n 1, 1) := dec_of t_X9_isSound_ok 34 rfl
theorem dX9_isSound_69 : decode cX9_isSound 69 = .ok (.iinc 2 1, 3) := dec_of t_X9_isSound_ok 35 rfl
theorem dX9_isSound_72 : decode cX9_isSound 72 = .ok (.goto (-68), 3) := dec_of t_X9_isSound_ok 36 rfl
theorem dX9_isSound_75 : decode cX9_isSound 75 = .ok (.iload_n 1, 1) := dec_of t_X9_isSound_ok 37 rfl
theorem dX9_isSound_76 : decode cX9_isSound 76 = .ok (.ireturn, 1) := dec_of t_X9_isSound_ok 38 rfl
def t_X9_isLetter : List (Nat × Instr × Nat) := [(0, .iload_n 0, 1), (1, .bipush 97, 2), (3, .if_icmp .lt 13, 3), (6, .iload_n 0, 1), (7, .bipush 122, 2), (9, .if_icmp .gt 7, 3), (12, .iconst 1, 1), (13, .goto 4, 3), (16, .iconst 0, 1), (17, .ireturn, 1)]
theorem t_X9_isLetter_ok : dec_ok cX9_isLetter t_X9_isLetter = true := by decide +kernel
theorem dX9_isLetter_0 : decode cX9_isLetter 0 = .ok (.iload_n 0, 1) := dec_of t_X9_isLetter_ok 0 rfl
theorem dX9_isLetter_1 : decode cX9_isLetter 1 = .ok (.bipush 97, 2) := dec_of t_X9_isLetter_ok 1 rfl
theorem dX9_isLetter_3 : decode cX9_isLetter 3 = .ok (.if_icmp .lt 13, 3) := dec_of t_X9_isLetter_ok 2 rfl
theorem dX9_isLetter_6 : decode cX9_isLetter 6 = .ok (.iload_n 0, 1) := dec_of t_X9_isLetter_ok 3 rfl
theorem dX9_isLetter_7 : decode cX9_isLetter 7 = .ok (.bipush 122, 2) := dec_of t_X9_isLetter_ok 4 rfl
theorem dX9_isLetter_9 : decode cX9_isLetter 9 = .ok (.if_icmp .gt 7, 3) := dec_of t_X9_isLetter_ok 5 rfl
theorem dX9_isLetter_12 : decode cX9_isLetter 12 = .ok (.iconst 1, 1) := dec_of t_X9_isLetter_ok 6 rfl
theorem dX9_isLetter_13 : decode cX9_isLetter 13 = .ok (.goto 4, 3) := dec_of t_X9_isLetter_ok 7 rfl
theorem dX9_isLetter_16 : decode cX9_isLetter 16 = .ok (.iconst 0, 1) := dec_of t_X9_isLetter_ok 8 rfl
theorem dX9_isLetter_17 : decode cX9_isLetter 17 = .ok (.ireturn, 1) := dec_of t_X9_isLetter_ok 9 rfl
def t_X9_isDigit : List (Nat × Instr × Nat) := [(0, .iload_n 0, 1), (1, .bipush 48, 2), (3, .if_icmp .lt 13, 3), (6, .iload_n 0, 1), (7, .bipush 57, 2), (9, .if_icmp .gt 7, 3), (12, .iconst 1, 1), (13, .goto 4, 3), (16, .iconst 0, 1), (17, .ireturn, 1)]
theorem t_X9_isDigit_ok : dec_ok cX9_isDigit t_X9_isDigit = true := by decide +kernel
theorem dX9_isDigit_0 : decode cX9_isDigit 0 = .ok (.iload_n 0, 1) := dec_of t_X9_isDigit_ok 0 rfl
theorem dX9_isDigit_1 : decode cX9_isDigit 1 = .ok (.bipush 48, 2) := dec_of t_X9_isDigit_ok 1 rfl
theorem dX9_isDigit_3 : decode cX9_isDigit 3 = .ok (.if_icmp .lt 13, 3) := dec_of t_X9_isDigit_ok 2 rfl
theorem dX9_isDigit_6 : decode cX9_isDigit 6 = .ok (.iload_n 0, 1) := dec_of t_X9_isDigit_ok 3 rfl
theorem dX9_isDigit_7 : decode cX9_isDigit 7 = .ok (.bipush 57, 2) := dec_of t_X9_isDigit_ok 4 rfl
theorem dX9_isDigit_9 : decode cX9_isDigit 9 = .ok (.if_icmp .gt 7, 3) := dec_of t_X9_isDigit_ok 5 rfl
theorem dX9_isDigit_12 : decode cX9_isDigit 12 = .ok (.iconst 1, 1) := dec_of t_X9_isDigit_ok 6 rfl
theorem dX9_isDigit_13 : decode cX9_isDigit 13 = .ok (.goto 4, 3) := dec_of t_X9_isDigit_ok 7 rfl
theorem dX9_isDigit_16 : decode cX9_isDigit 16 = .ok (.iconst 0, 1) := dec_of t_X9_isDigit_ok 8 rfl
theorem dX9_isDigit_17 : decode cX9_isDigit 17 = .ok (.ireturn, 1) := dec_of t_X9_isDigit_ok 9 rfl
def t_X9_isTypeable : List (Nat × Instr × Nat) := [(0, .iload_n 0, 1), (1, .invokestatic 332, 3), (4, .ifCond .ne 34, 3), (7, .iload_n 0, 1), (8, .invokestatic 335, 3), (11, .ifCond .ne 27, 3), (14, .iload_n 0, 1), (15, .bipush 32, 2), (17, .if_icmp .eq 21, 3), (20, .iload_n 0, 1), (21, .bipush 42, 2), (23, .if_icmp .eq 15, 3), (26, .iload_n 0, 1), (27, .bipush 35, 2), (29, .if_icmp .eq 9, 3), (32, .iload_n 0, 1), (33, .bipush 45, 2), (35, .if_icmp .ne 7, 3), (38, .iconst 1, 1), (39, .goto 4, 3), (42, .iconst 0, 1), (43, .ireturn, 1)]
theorem t_X9_isTypeable_ok : dec_ok cX9_isTypeable t_X9_isTypeable = true := by decide +kernel
theorem dX9_isTypeable_0 : decode cX9_isTypeable 0 = .ok (.iload_n 0, 1) := dec_of t_X9_isTypeable_ok 0 rfl
theorem dX9_isTypeable_1 : decode cX9_isTypeable 1 = .ok (.invokestatic 332, 3) := dec_of t_X9_isTypeable_ok 1 rfl
theorem dX9_isTypeable_4 : decode cX9_isTypeable 4 = .ok (.ifCond .ne 34, 3) := dec_of t_X9_isTypeable_ok 2 rfl
theorem dX9_isTypeable_7 : decode cX9_isTypeable 7 = .ok (.iload_n 0, 1) := dec_of t_X9_isTypeable_ok 3 rfl
theorem dX9_isTypeable_8 : decode cX9_isTypeable 8 = .ok (.invokestatic 335, 3) := dec_of t_X9_isTypeable_ok 4 rfl
theorem dX9_isTypeable_11 : decode cX9_isTypeable 11 = .ok (.ifCond .ne 27, 3) := dec_of t_X9_isTypeable_ok 5 rfl
theorem dX9_isTypeable_14 : decode cX9_isTypeable 14 = .ok (.iload_n 0, 1) := dec_of t_X9_isTypeable_ok 6 rfl
theorem dX9_isTypeable_15 : decode cX9_isTypeable 15 = .ok (.bipush 32, 2) := dec_of t_X9_isTypeable_ok 7 rfl
theorem dX9_isTypeable_17 : decode cX9_isTypeable 17 = .ok (.if_icmp .eq 21, 3) := dec_of t_X9_isTypeable_ok 8 rfl
theorem dX9_isTypeable_20 : decode cX9_isTypeable 20 = .ok (.iload_n 0, 1) := dec_of t_X9_isTypeable_ok 9 rfl
theorem dX9_isTypeable_21 : decode cX9_isTypeable 21 = .ok (.bipush 42, 2) := dec_of t_X9_isTypeable_ok 10 rfl
theorem dX9_isTypeable_23 : decode cX9_isTypeable 23 = .ok (.if_icmp .eq 15, 3) := dec_of t_X9_isTypeable_ok 11 rfl
theorem dX9_isTypeable_26 : decode cX9_isTypeable 26 = .ok (.iload_n 0, 1) := dec_of t_X9_isTypeable_ok 12 rfl
theorem dX9_isTypeable_27 : decode cX9_isTypeable 27 = .ok (.bipush 35, 2) := dec_of t_X9_isTypeable_ok 13 rfl
theorem dX9_isTypeable_29 : decode cX9_isTypeable 29 = .ok (.if_icmp .eq 9, 3) := dec_of t_X9_isTypeable_ok 14 rfl
theorem dX9_isTypeable_32 : decode cX9_isTypeable 32 = .ok (.iload_n 0, 1) := dec_of t_X9_isTypeable_ok 15 rfl
theorem dX9_isTypeable_33 : decode cX9_isTypeable 33 = .ok (.bipush 45, 2) := dec_of t_X9_isTypeable_ok 16 rfl
theorem dX9_isTypeable_35 : decode cX9_isTypeable 35 = .ok (.if_icmp .ne 7, 3) := dec_of t_X9_isTypeable_ok 17 rfl
theorem dX9_isTypeable_38 : decode cX9_isTypeable 38 = .ok (.iconst 1, 1) := dec_of t_X9_isTypeable_ok 18 rfl
theorem dX9_isTypeable_39 : decode cX9_isTypeable 39 = .ok (.goto 4, 3) := dec_of t_X9_isTypeable_ok 19 rfl
theorem dX9_isTypeable_42 : decode cX9_isTypeable 42 = .ok (.iconst 0, 1) := dec_of t_X9_isTypeable_ok 20 rfl
theorem dX9_isTypeable_43 : decode cX9_isTypeable 43 = .ok (.ireturn, 1) := dec_of t_X9_isTypeable_ok 21 rfl
def t_X9_isTextSign : List (Nat × Instr × Nat) := [(0, .iload_n 0, 1), (1, .invokestatic 332, 3), (4, .ifCond .ne 34, 3), (7, .iload_n 0, 1), (8, .invokestatic 335, 3), (11, .ifCond .ne 27, 3), (14, .iload_n 0, 1), (15, .bipush 32, 2), (17, .if_icmp .eq 21, 3), (20, .iload_n 0, 1), (21, .bipush 46, 2), (23, .if_icmp .eq 15, 3), (26, .iload_n 0, 1), (27, .bipush 34, 2), (29, .if_icmp .eq 9, 3), (32, .iload_n 0, 1), (33, .bipush 47, 2), (35, .if_icmp .ne 7, 3), (38, .iconst 1, 1), (39, .goto 4, 3), (42, .iconst 0, 1), (43, .ireturn, 1)]
theorem t_X9_isTextSign_ok : dec_ok cX9_isTextSign t_X9_isTextSign = true := by decide +kernel
theorem dX9_isTextSign_0 : decode cX9_isTextSign 0 = .ok (.iload_n 0, 1) := dec_of t_X9_isTextSign_ok 0 rfl
theorem dX9_isTextSign_1 : decode cX9_isTextSign 1 = .ok (.invokestatic 332, 3) := dec_of t_X9_isTextSign_ok 1 rfl
theorem dX9_isTextSign_4 : decode cX9_isTextSign 4 = .ok (.ifCond .ne 34, 3) := dec_of t_X9_isTextSign_ok 2 rfl
theorem dX9_isTextSign_7 : decode cX9_isTextSign 7 = .ok (.iload_n 0, 1) := dec_of t_X9_isTextSign_ok 3 rfl
theorem dX9_isTextSign_8 : decode cX9_isTextSign 8 = .ok (.invokestatic 335, 3) := dec_of t_X9_isTextSign_ok 4 rfl
theorem dX9_isTextSign_11 : decode cX9_isTextSign 11 = .ok (.ifCond .ne 27, 3) := dec_of t_X9_isTextSign_ok 5 rfl
theorem dX9_isTextSign_14 : decode cX9_isTextSign 14 = .ok (.iload_n 0, 1) := dec_of t_X9_isTextSign_ok 6 rfl
theorem dX9_isTextSign_15 : decode cX9_isTextSign 15 = .ok (.bipush 32, 2) := dec_of t_X9_isTextSign_ok 7 rfl
theorem dX9_isTextSign_17 : decode cX9_isTextSign 17 = .ok (.if_icmp .eq 21, 3) := dec_of t_X9_isTextSign_ok 8 rfl
theorem dX9_isTextSign_20 : decode cX9_isTextSign 20 = .ok (.iload_n 0, 1) := dec_of t_X9_isTextSign_ok 9 rfl
theorem dX9_isTextSign_21 : decode cX9_isTextSign 21 = .ok (.bipush 46, 2) := dec_of t_X9_isTextSign_ok 10 rfl
theorem dX9_isTextSign_23 : decode cX9_isTextSign 23 = .ok (.if_icmp .eq 15, 3) := dec_of t_X9_isTextSign_ok 11 rfl
theorem dX9_isTextSign_26 : decode cX9_isTextSign 26 = .ok (.iload_n 0, 1) := dec_of t_X9_isTextSign_ok 12 rfl
theorem dX9_isTextSign_27 : decode cX9_isTextSign 27 = .ok (.bipush 34, 2) := dec_of t_X9_isTextSign_ok 13 rfl
theorem dX9_isTextSign_29 : decode cX9_isTextSign 29 = .ok (.if_icmp .eq 9, 3) := dec_of t_X9_isTextSign_ok 14 rfl
theorem dX9_isTextSign_32 : decode cX9_isTextSign 32 = .ok (.iload_n 0, 1) := dec_of t_X9_isTextSign_ok 15 rfl
theorem dX9_isTextSign_33 : decode cX9_isTextSign 33 = .ok (.bipush 47, 2) := dec_of t_X9_isTextSign_ok 16 rfl
theorem dX9_isTextSign_35 : decode cX9_isTextSign 35 = .ok (.if_icmp .ne 7, 3) := dec_of t_X9_isTextSign_ok 17 rfl
theorem dX9_isTextSign_38 : decode cX9_isTextSign 38 = .ok (.iconst 1, 1) := dec_of t_X9_isTextSign_ok 18 rfl
theorem dX9_isTextSign_39 : decode cX9_isTextSign 39 = .ok (.goto 4, 3) := dec_of t_X9_isTextSign_ok 19 rfl
theorem dX9_isTextSign_42 : decode cX9_isTextSign 42 = .ok (.iconst 0, 1) := dec_of t_X9_isTextSign_ok 20 rfl
theorem dX9_isTextSign_43 : decode cX9_isTextSign 43 = .ok (.ireturn, 1) := dec_of t_X9_isTextSign_ok 21 rfl
def t_X9_isWriter : List (Nat × Instr × Nat) := [(0, .iload_n 0, 1), (1, .ifCond .lt 12, 3), (4, .iload_n 0, 1), (5, .iconst 4, 1), (6, .if_icmp .ge 7, 3), (9, .iconst 1, 1), (10, .goto 4, 3), (13, .iconst 0, 1), (14, .ireturn, 1)]
theorem t_X9_isWriter_ok : dec_ok cX9_isWriter t_X9_isWriter = true := by decide +kernel
theorem dX9_isWriter_0 : decode cX9_isWriter 0 = .ok (.iload_n 0, 1) := dec_of t_X9_isWriter_ok 0 rfl
theorem dX9_isWriter_1 : decode cX9_isWriter 1 = .ok (.ifCond .lt 12, 3) := dec_of t_X9_isWriter_ok 1 rfl
theorem dX9_isWriter_4 : decode cX9_isWriter 4 = .ok (.iload_n 0, 1) := dec_of t_X9_isWriter_ok 2 rfl
theorem dX9_isWriter_5 : decode cX9_isWriter 5 = .ok (.iconst 4, 1) := dec_of t_X9_isWriter_ok 3 rfl
theorem dX9_isWriter_6 : decode cX9_isWriter 6 = .ok (.if_icmp .ge 7, 3) := dec_of t_X9_isWriter_ok 4 rfl
theorem dX9_isWriter_9 : decode cX9_isWriter 9 = .ok (.iconst 1, 1) := dec_of t_X9_isWriter_ok 5 rfl
theorem dX9_isWriter_10 : decode cX9_isWriter 10 = .ok (.goto 4, 3) := dec_of t_X9_isWriter_ok 6 rfl
theorem dX9_isWriter_13 : decode cX9_isWriter 13 = .ok (.iconst 0, 1) := dec_of t_X9_isWriter_ok 7 rfl
theorem dX9_isWriter_14 : decode cX9_isWriter 14 = .ok (.ireturn, 1) := dec_of t_X9_isWriter_ok 8 rfl
def t_X9_isWord : List (Nat × Instr × Nat) := [(0, .iload_n 1, 1), (1, .iload_n 2, 1), (2, .if_icmp .ge 7, 3), (5, .iconst 1, 1), (6, .goto 4, 3), (9, .iconst 0, 1), (10, .istore_n 3, 1), (11, .iload_n 1, 1), (12, .istore 4, 2), (14, .iload 4, 2), (16, .iload_n 2, 1), (17, .if_icmp .ge 31, 3), (20, .iload_n 3, 1), (21, .ifCond .eq 19, 3), (24, .aload_n 0, 1), (25, .iload 4, 2), (27, .invokevirtual 130, 3), (30, .invokestatic 332, 3), (33, .ifCond .eq 7, 3), (36, .iconst 1, 1), (37, .goto 4, 3), (40, .iconst 0, 1), (41, .istore_n 3, 1), (42, .iinc 4 1, 3), (45, .goto (-31), 3), (48, .iload_n 3, 1), (49, .ireturn, 1)]
theorem t_X9_isWord_ok : dec_ok cX9_isWord t_X9_isWord = true := by decide +kernel
theorem dX9_isWord_0 : decode cX9_isWord 0 = .ok (.iload_n 1, 1) := dec_of t_X9_isWord_ok 0 rfl
theorem dX9_isWord_1 : decode cX9_isWord 1 = .ok (.iload_n 2, 1) := dec_of t_X9_isWord_ok 1 rfl
theorem dX9_isWord_2 : decode cX9_isWord 2 = .ok (.if_icmp .ge 7, 3) := dec_of t_X9_isWord_ok 2 rfl
theorem dX9_isWord_5 : decode cX9_isWord 5 = .ok (.iconst 1, 1) := dec_of t_X9_isWord_ok 3 rfl
theorem dX9_isWord_6 : decode cX9_isWord 6 = .ok (.goto 4, 3) := dec_of t_X9_isWord_ok 4 rfl
theorem dX9_isWord_9 : decode cX9_isWord 9 = .ok (.iconst 0, 1) := dec_of t_X9_isWord_ok 5 rfl
theorem dX9_isWord_10 : decode cX9_isWord 10 = .ok (.istore_n 3, 1) := dec_of t_X9_isWord_ok 6 rfl
theorem dX9_isWord_11 : decode cX9_isWord 11 = .ok (.iload_n 1, 1) := dec_of t_X9_isWord_ok 7 rfl
theorem dX9_isWord_12 : decode cX9_isWord 12 = .ok (.istore 4, 2) := dec_of t_X9_isWord_ok 8 rfl
theorem dX9_isWord_14 : decode cX9_isWord 14 = .ok (.iload 4, 2) := dec_of t_X9_isWord_ok 9 rfl
theorem dX9_isWord_16 : decode cX9_isWord 16 = .ok (.iload_n 2, 1) := dec_of t_X9_isWord_ok 10 rfl
theorem dX9_isWord_17 : decode cX9_isWord 17 = .ok (.if_icmp .ge 31, 3) := dec_of t_X9_isWord_ok 11 rfl
theorem dX9_isWord_20 : decode cX9_isWord 20 = .ok (.iload_n 3, 1) := dec_of t_X9_isWord_ok 12 rfl
theorem dX9_isWord_21 : decode cX9_isWord 21 = .ok (.ifCond .eq 19, 3) := dec_of t_X9_isWord_ok 13 rfl
theorem dX9_isWord_24 : decode cX9_isWord 24 = .ok (.aload_n 0, 1) := dec_of t_X9_isWord_ok 14 rfl
theorem dX9_isWord_25 : decode cX9_isWord 25 = .ok (.iload 4, 2) := dec_of t_X9_isWord_ok 15 rfl
theorem dX9_isWord_27 : decode cX9_isWord 27 = .ok (.invokevirtual 130, 3) := dec_of t_X9_isWord_ok 16 rfl
theorem dX9_isWord_30 : decode cX9_isWord 30 = .ok (.invokestatic 332, 3) := dec_of t_X9_isWord_ok 17 rfl
theorem dX9_isWord_33 : decode cX9_isWord 33 = .ok (.ifCond .eq 7, 3) := dec_of t_X9_isWord_ok 18 rfl
theorem dX9_isWord_36 : decode cX9_isWord 36 = .ok (.iconst 1, 1) := dec_of t_X9_isWord_ok 19 rfl
theorem dX9_isWord_37 : decode cX9_isWord 37 = .ok (.goto 4, 3) := dec_of t_X9_isWord_ok 20 rfl
theorem dX9_isWord_40 : decode cX9_isWord 40 = .ok (.iconst 0, 1) := dec_of t_X9_isWord_ok 21 rfl
theorem dX9_isWord_41 : decode cX9_isWord 41 = .ok (.istore_n 3, 1) := dec_of t_X9_isWord_ok 22 rfl
theorem dX9_isWord_42 : decode cX9_isWord 42 = .ok (.iinc 4 1, 3) := dec_of t_X9_isWord_ok 23 rfl
theorem dX9_isWord_45 : decode cX9_isWord 45 = .ok (.goto (-31), 3) := dec_of t_X9_isWord_ok 24 rfl
theorem dX9_isWord_48 : decode cX9_isWord 48 = .ok (.iload_n 3, 1) := dec_of t_X9_isWord_ok 25 rfl
theorem dX9_isWord_49 : decode cX9_isWord 49 = .ok (.ireturn, 1) := dec_of t_X9_isWord_ok 26 rfl
def t_X9_needPlace : List (Nat × Instr × Nat) := [(0, .iload_n 1, 1), (1, .ifCond .lt 17, 3), (4, .iload_n 1, 1), (5, .aload_n 0, 1), (6, .getfield 21, 3), (9, .getfield 27, 3), (12, .invokevirtual 89, 3), (15, .if_icmp .lt 13, 3), (18, .new 103, 3), (21, .dup, 1), (22, .ldc 105, 2), (24, .invokespecial 107, 3), (27, .athrow, 1), (28, .return_, 1)]
theorem t_X9_needPlace_ok : dec_ok cX9_needPlace t_X9_needPlace = true := by decide +kernel
theorem dX9_needPlace_0 : decode cX9_needPlace 0 = .ok (.iload_n 1, 1) := dec_of t_X9_needPlace_ok 0 rfl
theorem dX9_needPlace_1 : decode cX9_needPlace 1 = .ok (.ifCond .lt 17, 3) := dec_of t_X9_needPlace_ok 1 rfl
theorem dX9_needPlace_4 : decode cX9_needPlace 4 = .ok (.iload_n 1, 1) := dec_of t_X9_needPlace_ok 2 rfl
theorem dX9_needPlace_5 : decode cX9_needPlace 5 = .ok (.aload_n 0, 1) := dec_of t_X9_needPlace_ok 3 rfl
theorem dX9_needPlace_6 : decode cX9_needPlace 6 = .ok (.getfield 21, 3) := dec_of t_X9_needPlace_ok 4 rfl
theorem dX9_needPlace_9 : decode cX9_needPlace 9 = .ok (.getfield 27, 3) := dec_of t_X9_needPlace_ok 5 rfl
theorem dX9_needPlace_12 : decode cX9_needPlace 12 = .ok (.invokevirtual 89, 3) := dec_of t_X9_needPlace_ok 6 rfl
theorem dX9_needPlace_15 : decode cX9_needPlace 15 = .ok (.if_icmp .lt 13, 3) := dec_of t_X9_needPlace_ok 7 rfl
theorem dX9_needPlace_18 : decode cX9_needPlace 18 = .ok (.new 103, 3) := dec_of t_X9_needPlace_ok 8 rfl
theorem dX9_needPlace_21 : decode cX9_needPlace 21 = .ok (.dup, 1) := dec_of t_X9_needPlace_ok 9 rfl
theorem dX9_needPlace_22 : decode cX9_needPlace 22 = .ok (.ldc 105, 2) := dec_of t_X9_needPlace_ok 10 rfl
theorem dX9_needPlace_24 : decode cX9_needPlace 24 = .ok (.invokespecial 107, 3) := dec_of t_X9_needPlace_ok 11 rfl
theorem dX9_needPlace_27 : decode cX9_needPlace 27 = .ok (.athrow, 1) := dec_of t_X9_needPlace_ok 12 rfl
theorem dX9_needPlace_28 : decode cX9_needPlace 28 = .ok (.return_, 1) := dec_of t_X9_needPlace_ok 13 rfl
def t_X9_ruleAt : List (Nat × Instr × Nat) := [(0, .iload_n 1, 1), (1, .ifCond .lt 17, 3), (4, .iload_n 1, 1), (5, .aload_n 0, 1), (6, .getfield 40, 3), (9, .getfield 147, 3), (12, .invokevirtual 150, 3), (15, .if_icmp .lt 14, 3), (18, .new 103, 3), (21, .dup, 1), (22, .ldc_w 307, 3), (25, .invokespecial 107, 3), (28, .athrow, 1), (29, .aload_n 0, 1), (30, .getfield 40, 3), (33, .getfield 147, 3), (36, .iload_n 1, 1), (37, .invokevirtual 338, 3), (40, .checkcast 137, 3), (43, .areturn, 1)]
theorem t_X9_ruleAt_ok : dec_ok cX9_ruleAt t_X9_ruleAt = true := by decide +kernel
theorem dX9_ruleAt_0 : decode cX9_ruleAt 0 = .ok (.iload_n 1, 1) := dec_of t_X9_ruleAt_ok 0 rfl
theorem dX9_ruleAt_1 : decode cX9_ruleAt 1 = .ok (.ifCond .lt 17, 3) := dec_of t_X9_ruleAt_ok 1 rfl
theorem dX9_ruleAt_4 : decode cX9_ruleAt 4 = .ok (.iload_n 1, 1) := dec_of t_X9_ruleAt_ok 2 rfl
theorem dX9_ruleAt_5 : decode cX9_ruleAt 5 = .ok (.aload_n 0, 1) := dec_of t_X9_ruleAt_ok 3 rfl
theorem dX9_ruleAt_6 : decode cX9_ruleAt 6 = .ok (.getfield 40, 3) := dec_of t_X9_ruleAt_ok 4 rfl
theorem dX9_ruleAt_9 : decode cX9_ruleAt 9 = .ok (.getfield 147, 3) := dec_of t_X9_ruleAt_ok 5 rfl
theorem dX9_ruleAt_12 : decode cX9_ruleAt 12 = .ok (.invokevirtual 150, 3) := dec_of t_X9_ruleAt_ok 6 rfl
theorem dX9_ruleAt_15 : decode cX9_ruleAt 15 = .ok (.if_icmp .lt 14, 3) := dec_of t_X9_ruleAt_ok 7 rfl
theorem dX9_ruleAt_18 : decode cX9_ruleAt 18 = .ok (.new 103, 3) := dec_of t_X9_ruleAt_ok 8 rfl
theorem dX9_ruleAt_21 : decode cX9_ruleAt 21 = .ok (.dup, 1) := dec_of t_X9_ruleAt_ok 9 rfl
theorem dX9_ruleAt_22 : decode cX9_ruleAt 22 = .ok (.ldc_w 307, 3) := dec_of t_X9_ruleAt_ok 10 rfl
theorem dX9_ruleAt_25 : decode cX9_ruleAt 25 = .ok (.invokespecial 107, 3) := dec_of t_X9_ruleAt_ok 11 rfl
theorem dX9_ruleAt_28 : decode cX9_ruleAt 28 = .ok (.athrow, 1) := dec_of t_X9_ruleAt_ok 12 rfl
theorem dX9_ruleAt_29 : decode cX9_ruleAt 29 = .ok (.aload_n 0, 1) := dec_of t_X9_ruleAt_ok 13 rfl
theorem dX9_ruleAt_30 : decode cX9_ruleAt 30 = .ok (.getfield 40, 3) := dec_of t_X9_ruleAt_ok 14 rfl
theorem dX9_ruleAt_33 : decode cX9_ruleAt 33 = .ok (.getfield 147, 3) := dec_of t_X9_ruleAt_ok 15 rfl
theorem dX9_ruleAt_36 : decode cX9_ruleAt 36 = .ok (.iload_n 1, 1) := dec_of t_X9_ruleAt_ok 16 rfl
theorem dX9_ruleAt_37 : decode cX9_ruleAt 37 = .ok (.invokevirtual 338, 3) := dec_of t_X9_ruleAt_ok 17 rfl
theorem dX9_ruleAt_40 : decode cX9_ruleAt 40 = .ok (.checkcast 137, 3) := dec_of t_X9_ruleAt_ok 18 rfl
theorem dX9_ruleAt_43 : decode cX9_ruleAt 43 = .ok (.areturn, 1) := dec_of t_X9_ruleAt_ok 19 rfl
def t_X9_deskAt : List (Nat × Instr × Nat) := [(0, .iload_n 1, 1), (1, .ifCond .lt 14, 3), (4, .iload_n 1, 1), (5, .aload_n 0, 1), (6, .getfield 47, 3), (9, .invokevirtual 150, 3), (12, .if_icmp .lt 14, 3), (15, .new 82, 3), (18, .dup, 1), (19, .ldc_w 341, 3), (22, .invokespecial 86, 3), (25, .athrow, 1), (26, .aload_n 0, 1), (27, .getfield 47, 3), (30, .iload_n 1, 1), (31, .invokevirtual 338, 3), (34, .checkcast 51, 3), (37, .areturn, 1)]
theorem t_X9_deskAt_ok : dec_ok cX9_deskAt t_X9_deskAt = true := by decide +kernel
theorem dX9_deskAt_0 : decode cX9_deskAt 0 = .ok (.iload_n 1, 1) := dec_of t_X9_deskAt_ok 0 rfl
theorem dX9_deskAt_1 : decode cX9_deskAt 1 = .ok (.ifCond .lt 14, 3) := dec_of t_X9_deskAt_ok 1 rfl
theorem dX9_deskAt_4 : decode cX9_deskAt 4 = .ok (.iload_n 1, 1) := dec_of t_X9_deskAt_ok 2 rfl
theorem dX9_deskAt_5 : decode cX9_deskAt 5 = .ok (.aload_n 0, 1) := dec_of t_X9_deskAt_ok 3 rfl
theorem dX9_deskAt_6 : decode cX9_deskAt 6 = .ok (.getfield 47, 3) := dec_of t_X9_deskAt_ok 4 rfl
theorem dX9_deskAt_9 : decode cX9_deskAt 9 = .ok (.invokevirtual 150, 3) := dec_of t_X9_deskAt_ok 5 rfl
theorem dX9_deskAt_12 : decode cX9_deskAt 12 = .ok (.if_icmp .lt 14, 3) := dec_of t_X9_deskAt_ok 6 rfl
theorem dX9_deskAt_15 : decode cX9_deskAt 15 = .ok (.new 82, 3) := dec_of t_X9_deskAt_ok 7 rfl
theorem dX9_deskAt_18 : decode cX9_deskAt 18 = .ok (.dup, 1) := dec_of t_X9_deskAt_ok 8 rfl
theorem dX9_deskAt_19 : decode cX9_deskAt 19 = .ok (.ldc_w 341, 3) := dec_of t_X9_deskAt_ok 9 rfl
theorem dX9_deskAt_22 : decode cX9_deskAt 22 = .ok (.invokespecial 86, 3) := dec_of t_X9_deskAt_ok 10 rfl
theorem dX9_deskAt_25 : decode cX9_deskAt 25 = .ok (.athrow, 1) := dec_of t_X9_deskAt_ok 11 rfl
theorem dX9_deskAt_26 : decode cX9_deskAt 26 = .ok (.aload_n 0, 1) := dec_of t_X9_deskAt_ok 12 rfl
theorem dX9_deskAt_27 : decode cX9_deskAt 27 = .ok (.getfield 47, 3) := dec_of t_X9_deskAt_ok 13 rfl
theorem dX9_deskAt_30 : decode cX9_deskAt 30 = .ok (.iload_n 1, 1) := dec_of t_X9_deskAt_ok 14 rfl
theorem dX9_deskAt_31 : decode cX9_deskAt 31 = .ok (.invokevirtual 338, 3) := dec_of t_X9_deskAt_ok 15 rfl
theorem dX9_deskAt_34 : decode cX9_deskAt 34 = .ok (.checkcast 51, 3) := dec_of t_X9_deskAt_ok 16 rfl
theorem dX9_deskAt_37 : decode cX9_deskAt 37 = .ok (.areturn, 1) := dec_of t_X9_deskAt_ok 17 rfl
def t_X9_needFinding : List (Nat × Instr × Nat) := [(0, .iload_n 1, 1), (1, .ifCond .lt 14, 3), (4, .iload_n 1, 1), (5, .aload_n 0, 1), (6, .getfield 63, 3), (9, .invokevirtual 251, 3), (12, .if_icmp .lt 14, 3), (15, .new 275, 3), (18, .dup, 1), (19, .ldc_w 343, 3), (22, .invokespecial 277, 3), (25, .athrow, 1), (26, .return_, 1)]
theorem t_X9_needFinding_ok : dec_ok cX9_needFinding t_X9_needFinding = true := by decide +kernel
theorem dX9_needFinding_0 : decode cX9_needFinding 0 = .ok (.iload_n 1, 1) := dec_of t_X9_needFinding_ok 0 rfl
theorem dX9_needFinding_1 : decode cX9_needFinding 1 = .ok (.ifCond .lt 14, 3) := dec_of t_X9_needFinding_ok 1 rfl
theorem dX9_needFinding_4 : decode cX9_needFinding 4 = .ok (.iload_n 1, 1) := dec_of t_X9_needFinding_ok 2 rfl
theorem dX9_needFinding_5 : decode cX9_needFinding 5 = .ok (.aload_n 0, 1) := dec_of t_X9_needFinding_ok 3 rfl
theorem dX9_needFinding_6 : decode cX9_needFinding 6 = .ok (.getfield 63, 3) := dec_of t_X9_needFinding_ok 4 rfl
theorem dX9_needFinding_9 : decode cX9_needFinding 9 = .ok (.invokevirtual 251, 3) := dec_of t_X9_needFinding_ok 5 rfl
theorem dX9_needFinding_12 : decode cX9_needFinding 12 = .ok (.if_icmp .lt 14, 3) := dec_of t_X9_needFinding_ok 6 rfl
theorem dX9_needFinding_15 : decode cX9_needFinding 15 = .ok (.new 275, 3) := dec_of t_X9_needFinding_ok 7 rfl
theorem dX9_needFinding_18 : decode cX9_needFinding 18 = .ok (.dup, 1) := dec_of t_X9_needFinding_ok 8 rfl
theorem dX9_needFinding_19 : decode cX9_needFinding 19 = .ok (.ldc_w 343, 3) := dec_of t_X9_needFinding_ok 9 rfl
theorem dX9_needFinding_22 : decode cX9_needFinding 22 = .ok (.invokespecial 277, 3) := dec_of t_X9_needFinding_ok 10 rfl
theorem dX9_needFinding_25 : decode cX9_needFinding 25 = .ok (.athrow, 1) := dec_of t_X9_needFinding_ok 11 rfl
theorem dX9_needFinding_26 : decode cX9_needFinding 26 = .ok (.return_, 1) := dec_of t_X9_needFinding_ok 12 rfl
def t_X9_propose : List (Nat × Instr × Nat) := [(0, .aload_n 0, 1), (1, .iload_n 1, 1), (2, .invokevirtual 254, 3), (5, .aload_n 0, 1), (6, .getfield 63, 3), (9, .iload_n 1, 1), (10, .invokevirtual 257, 3), (13, .istore_n 3, 1), (14, .iload_n 2, 1), (15, .ifCond .lt 15, 3), (18, .iload_n 2, 1), (19, .aload_n 0, 1), (20, .getfield 40, 3), (23, .iload_n 3, 1), (24, .invokevirtual 269, 3), (27, .if_icmp .lt 14, 3), (30, .new 275, 3), (33, .dup, 1), (34, .ldc_w 345, 3), (37, .invokespecial 277, 3), (40, .athrow, 1), (41, .aload_n 0, 1), (42, .getfield 67, 3), (45, .invokevirtual 100, 3), (48, .aload_n 0, 1), (49, .getfield 40, 3), (52, .aload_n 0, 1), (53, .getfield 33, 3), (56, .aload_n 0, 1), (57, .getfield 63, 3), (60, .iload_n 1, 1), (61, .invokevirtual 347, 3), (64, .iload_n 3, 1), (65, .iload_n 2, 1), (66, .aload_n 0, 1), (67, .getfield 67, 3), (70, .invokevirtual 350, 3), (73, .return_, 1)]
theorem t_X9_propose_ok : dec_ok cX9_propose t_X9_propose = true := by decide +kernel
theorem dX9_propose_0 : decode cX9_propose 0 = .ok (.aload_n 0, 1) := dec_of t_X9_propose_ok 0 rfl
theorem dX9_propose_1 : decode cX9_propose 1 = .ok (.iload_n 1, 1) := dec_of t_X9_propose_ok 1 rfl
theorem dX9_propose_2 : decode cX9_propose 2 = .ok (.invokevirtual 254, 3) := dec_of t_X9_propose_ok 2 rfl
theorem dX9_propose_5 : decode cX9_propose 5 = .ok (.aload_n 0, 1) := dec_of t_X9_propose_ok 3 rfl
theorem dX9_propose_6 : decode cX9_propose 6 = .ok (.getfield 63, 3) := dec_of t_X9_propose_ok 4 rfl
theorem dX9_propose_9 : decode cX9_propose 9 = .ok (.iload_n 1, 1) := dec_of t_X9_propose_ok 5 rfl
theorem dX9_propose_10 : decode cX9_propose 10 = .ok (.invokevirtual 257, 3) := dec_of t_X9_propose_ok 6 rfl
theorem dX9_propose_13 : decode cX9_propose 13 = .ok (.istore_n 3, 1) := dec_of t_X9_propose_ok 7 rfl
theorem dX9_propose_14 : decode cX9_propose 14 = .ok (.iload_n 2, 1) := dec_of t_X9_propose_ok 8 rfl
theorem dX9_propose_15 : decode cX9_propose 15 = .ok (.ifCond .lt 15, 3) := dec_of t_X9_propose_ok 9 rfl
theorem dX9_propose_18 : decode cX9_propose 18 = .ok (.iload_n 2, 1) := dec_of t_X9_propose_ok 10 rfl
theorem dX9_propose_19 : decode cX9_propose 19 = .ok (.aload_n 0, 1) := dec_of t_X9_propose_ok 11 rfl
theorem dX9_propose_20 : decode cX9_propose 20 = .ok (.getfield 40, 3) := dec_of t_X9_propose_ok 12 rfl
theorem dX9_propose_23 : decode cX9_propose 23 = .ok (.iload_n 3, 1) := dec_of t_X9_propose_ok 13 rfl
theorem dX9_propose_24 : decode cX9_propose 24 = .ok (.invokevirtual 269, 3) := dec_of t_X9_propose_ok 14 rfl
theorem dX9_propose_27 : decode cX9_propose 27 = .ok (.if_icmp .lt 14, 3) := dec_of t_X9_propose_ok 15 rfl
theorem dX9_propose_30 : decode cX9_propose 30 = .ok (.new 275, 3) := dec_of t_X9_propose_ok 16 rfl
theorem dX9_propose_33 : decode cX9_propose 33 = .ok (.dup, 1) := dec_of t_X9_propose_ok 17 rfl
theorem dX9_propose_34 : decode cX9_propose 34 = .ok (.ldc_w 345, 3) := dec_of t_X9_propose_ok 18 rfl
theorem dX9_propose_37 : decode cX9_propose 37 = .ok (.invokespecial 277, 3) := dec_of t_X9_propose_ok 19 rfl
theorem dX9_propose_40 : decode cX9_propose 40 = .ok (.athrow, 1) := dec_of t_X9_propose_ok 20 rfl
theorem dX9_propose_41 : decode cX9_propose 41 = .ok (.aload_n 0, 1) := dec_of t_X9_propose_ok 21 rfl
theorem dX9_propose_42 : decode cX9_propose 42 = .ok (.getfield 67, 3) := dec_of t_X9_propose_ok 22 rfl
theorem dX9_propose_45 : decode cX9_propose 45 = .ok (.invokevirtual 100, 3) := dec_of t_X9_propose_ok 23 rfl
theorem dX9_propose_48 : decode cX9_propose 48 = .ok (.aload_n 0, 1) := dec_of t_X9_propose_ok 24 rfl
theorem dX9_propose_49 : decode cX9_propose 49 = .ok (.getfield 40, 3) := dec_of t_X9_propose_ok 25 rfl
theorem dX9_propose_52 : decode cX9_propose 52 = .ok (.aload_n 0, 1) := dec_of t_X9_propose_ok 26 rfl
theorem dX9_propose_53 : decode cX9_propose 53 = .ok (.getfield 33, 3) := dec_of t_X9_propose_ok 27 rfl
theorem dX9_propose_56 : decode cX9_propose 56 = .ok (.aload_n 0, 1) := dec_of t_X9_propose_ok 28 rfl
theorem dX9_propose_57 : decode cX9_propose 57 = .ok (.getfield 63, 3) := dec_of t_X9_propose_ok 29 rfl
theorem dX9_propose_60 : decode cX9_propose 60 = .ok (.iload_n 1, 1) := dec_of t_X9_propose_ok 30 rfl
theorem dX9_propose_61 : decode cX9_propose 61 = .ok (.invokevirtual 347, 3) := dec_of t_X9_propose_ok 31 rfl
theorem dX9_propose_64 : decode cX9_propose 64 = .ok (.iload_n 3, 1) := dec_of t_X9_propose_ok 32 rfl
theorem dX9_propose_65 : decode cX9_propose 65 = .ok (.iload_n 2, 1) := dec_of t_X9_propose_ok 33 rfl
theorem dX9_propose_66 : decode cX9_propose 66 = .ok (.aload_n 0, 1) := dec_of t_X9_propose_ok 34 rfl
theorem dX9_propose_67 : decode cX9_propose 67 = .ok (.getfield 67, 3) := dec_of t_X9_propose_ok 35 rfl
theorem dX9_propose_70 : decode cX9_propose 70 = .ok (.invokevirtual 350, 3) := dec_of t_X9_propose_ok 36 rfl
theorem dX9_propose_73 : decode cX9_propose 73 = .ok (.return_, 1) := dec_of t_X9_propose_ok 37 rfl
def t_X9_findFor : List (Nat × Instr × Nat) := [(0, .aload_n 0, 1), (1, .iload_n 1, 1), (2, .invokevirtual 216, 3), (5, .astore_n 2, 1), (6, .aload_n 0, 1), (7, .getfield 70, 3), (10, .ifCond .ne 26, 3), (13, .aload_n 0, 1), (14, .getfield 33, 3), (17, .invokevirtual 294, 3), (20, .aload_n 0, 1), (21, .getfield 40, 3), (24, .aload_n 0, 1), (25, .getfield 33, 3), (28, .invokevirtual 354, 3), (31, .aload_n 0, 1), (32, .iconst 1, 1), (33, .putfield 70, 3), (36, .aload_n 0, 1), (37, .getfield 74, 3), (40, .iload_n 1, 1), (41, .if_icmp .eq 16, 3), (44, .aload_n 0, 1), (45, .getfield 63, 3), (48, .aload_n 2, 1), (49, .invokevirtual 358, 3), (52, .aload_n 0, 1), (53, .iload_n 1, 1), (54, .putfield 74, 3), (57, .aload_n 2, 1), (58, .areturn, 1)]
theorem t_X9_findFor_ok : dec_ok cX9_findFor t_X9_findFor = true := by decide +kernel
theorem dX9_findFor_0 : decode cX9_findFor 0 = .ok (.aload_n 0, 1) := dec_of t_X9_findFor_ok 0 rfl
theorem dX9_findFor_1 : decode cX9_findFor 1 = .ok (.iload_n 1, 1) := dec_of t_X9_findFor_ok 1 rfl
theorem dX9_findFor_2 : decode cX9_findFor 2 = .ok (.invokevirtual 216, 3) := dec_of t_X9_findFor_ok 2 rfl
theorem dX9_findFor_5 : decode cX9_findFor 5 = .ok (.astore_n 2, 1) := dec_of t_X9_findFor_ok 3 rfl
theorem dX9_findFor_6 : decode cX9_findFor 6 = .ok (.aload_n 0, 1) := dec_of t_X9_findFor_ok 4 rfl
theorem dX9_findFor_7 : decode cX9_findFor 7 = .ok (.getfield 70, 3) := dec_of t_X9_findFor_ok 5 rfl
theorem dX9_findFor_10 : decode cX9_findFor 10 = .ok (.ifCond .ne 26, 3) := dec_of t_X9_findFor_ok 6 rfl
theorem dX9_findFor_13 : decode cX9_findFor 13 = .ok (.aload_n 0, 1) := dec_of t_X9_findFor_ok 7 rfl
theorem dX9_findFor_14 : decode cX9_findFor 14 = .ok (.getfield 33, 3) := dec_of t_X9_findFor_ok 8 rfl
theorem dX9_findFor_17 : decode cX9_findFor 17 = .ok (.invokevirtual 294, 3) := dec_of t_X9_findFor_ok 9 rfl
theorem dX9_findFor_20 : decode cX9_findFor 20 = .ok (.aload_n 0, 1) := dec_of t_X9_findFor_ok 10 rfl
theorem dX9_findFor_21 : decode cX9_findFor 21 = .ok (.getfield 40, 3) := dec_of t_X9_findFor_ok 11 rfl
theorem dX9_findFor_24 : decode cX9_findFor 24 = .ok (.aload_n 0, 1) := dec_of t_X9_findFor_ok 12 rfl
theorem dX9_findFor_25 : decode cX9_findFor 25 = .ok (.getfield 33, 3) := dec_of t_X9_findFor_ok 13 rfl
theorem dX9_findFor_28 : decode cX9_findFor 28 = .ok (.invokevirtual 354, 3) := dec_of t_X9_findFor_ok 14 rfl
theorem dX9_findFor_31 : decode cX9_findFor 31 = .ok (.aload_n 0, 1) := dec_of t_X9_findFor_ok 15 rfl
theorem dX9_findFor_32 : decode cX9_findFor 32 = .ok (.iconst 1, 1) := dec_of t_X9_findFor_ok 16 rfl
theorem dX9_findFor_33 : decode cX9_findFor 33 = .ok (.putfield 70, 3) := dec_of t_X9_findFor_ok 17 rfl
theorem dX9_findFor_36 : decode cX9_findFor 36 = .ok (.aload_n 0, 1) := dec_of t_X9_findFor_ok 18 rfl
theorem dX9_findFor_37 : decode cX9_findFor 37 = .ok (.getfield 74, 3) := dec_of t_X9_findFor_ok 19 rfl
theorem dX9_findFor_40 : decode cX9_findFor 40 = .ok (.iload_n 1, 1) := dec_of t_X9_findFor_ok 20 rfl
theorem dX9_findFor_41 : decode cX9_findFor 41 = .ok (.if_icmp .eq 16, 3) := dec_of t_X9_findFor_ok 21 rfl
theorem dX9_findFor_44 : decode cX9_findFor 44 = .ok (.aload_n 0, 1) := dec_of t_X9_findFor_ok 22 rfl
theorem dX9_findFor_45 : decode cX9_findFor 45 = .ok (.getfield 63, 3) := dec_of t_X9_findFor_ok 23 rfl
theorem dX9_findFor_48 : decode cX9_findFor 48 = .ok (.aload_n 2, 1) := dec_of t_X9_findFor_ok 24 rfl
theorem dX9_findFor_49 : decode cX9_findFor 49 = .ok (.invokevirtual 358, 3) := dec_of t_X9_findFor_ok 25 rfl
theorem dX9_findFor_52 : decode cX9_findFor 52 = .ok (.aload_n 0, 1) := dec_of t_X9_findFor_ok 26 rfl
theorem dX9_findFor_53 : decode cX9_findFor 53 = .ok (.iload_n 1, 1) := dec_of t_X9_findFor_ok 27 rfl
theorem dX9_findFor_54 : decode cX9_findFor 54 = .ok (.putfield 74, 3) := dec_of t_X9_findFor_ok 28 rfl
theorem dX9_findFor_57 : decode cX9_findFor 57 = .ok (.aload_n 2, 1) := dec_of t_X9_findFor_ok 29 rfl
theorem dX9_findFor_58 : decode cX9_findFor 58 = .ok (.areturn, 1) := dec_of t_X9_findFor_ok 30 rfl
def t_X9_putIn : List (Nat × Instr × Nat) := [(0, .aload_n 0, 1), (1, .getfield 21, 3), (4, .iload_n 1, 1), (5, .iload_n 2, 1), (6, .iload_n 3, 1), (7, .invokevirtual 362, 3), (10, .iconst 0, 1), (11, .istore 4, 2), (13, .iload 4, 2), (15, .aload_n 0, 1), (16, .getfield 47, 3), (19, .invokevirtual 150, 3), (22, .if_icmp .ge 25, 3), (25, .aload_n 0, 1), (26, .getfield 47, 3), (29, .iload 4, 2), (31, .invokevirtual 338, 3), (34, .checkcast 51, 3), (37, .iload_n 1, 1), (38, .invokevirtual 365, 3), (41, .iinc 4 1, 3), (44, .goto (-31), 3), (47, .aload_n 0, 1), (48, .invokevirtual 368, 3), (51, .return_, 1)]
theorem t_X9_putIn_ok : dec_ok cX9_putIn t_X9_putIn = true := by decide +kernel
theorem dX9_putIn_0 : decode cX9_putIn 0 = .ok (.aload_n 0, 1) := dec_of t_X9_putIn_ok 0 rfl
theorem dX9_putIn_1 : decode cX9_putIn 1 = .ok (.getfield 21, 3) := dec_of t_X9_putIn_ok 1 rfl
theorem dX9_putIn_4 : decode cX9_putIn 4 = .ok (.iload_n 1, 1) := dec_of t_X9_putIn_ok 2 rfl
theorem dX9_putIn_5 : decode cX9_putIn 5 = .ok (.iload_n 2, 1) := dec_of t_X9_putIn_ok 3 rfl
theorem dX9_putIn_6 : decode cX9_putIn 6 = .ok (.iload_n 3, 1) := dec_of t_X9_putIn_ok 4 rfl
theorem dX9_putIn_7 : decode cX9_putIn 7 = .ok (.invokevirtual 362, 3) := dec_of t_X9_putIn_ok 5 rfl
theorem dX9_putIn_10 : decode cX9_putIn 10 = .ok (.iconst 0, 1) := dec_of t_X9_putIn_ok 6 rfl
theorem dX9_putIn_11 : decode cX9_putIn 11 = .ok (.istore 4, 2) := dec_of t_X9_putIn_ok 7 rfl
theorem dX9_putIn_13 : decode cX9_putIn 13 = .ok (.iload 4, 2) := dec_of t_X9_putIn_ok 8 rfl
theorem dX9_putIn_15 : decode cX9_putIn 15 = .ok (.aload_n 0, 1) := dec_of t_X9_putIn_ok 9 rfl
theorem dX9_putIn_16 : decode cX9_putIn 16 = .ok (.getfield 47, 3) := dec_of t_X9_putIn_ok 10 rfl
theorem dX9_putIn_19 : decode cX9_putIn 19 = .ok (.invokevirtual 150, 3) := dec_of t_X9_putIn_ok 11 rfl
theorem dX9_putIn_22 : decode cX9_putIn 22 = .ok (.if_icmp .ge 25, 3) := dec_of t_X9_putIn_ok 12 rfl
theorem dX9_putIn_25 : decode cX9_putIn 25 = .ok (.aload_n 0, 1) := dec_of t_X9_putIn_ok 13 rfl
theorem dX9_putIn_26 : decode cX9_putIn 26 = .ok (.getfield 47, 3) := dec_of t_X9_putIn_ok 14 rfl
theorem dX9_putIn_29 : decode cX9_putIn 29 = .ok (.iload 4, 2) := dec_of t_X9_putIn_ok 15 rfl
theorem dX9_putIn_31 : decode cX9_putIn 31 = .ok (.invokevirtual 338, 3) := dec_of t_X9_putIn_ok 16 rfl
theorem dX9_putIn_34 : decode cX9_putIn 34 = .ok (.checkcast 51, 3) := dec_of t_X9_putIn_ok 17 rfl
theorem dX9_putIn_37 : decode cX9_putIn 37 = .ok (.iload_n 1, 1) := dec_of t_X9_putIn_ok 18 rfl
theorem dX9_putIn_38 : decode cX9_putIn 38 = .ok (.invokevirtual 365, 3) := dec_of t_X9_putIn_ok 19 rfl
theorem dX9_putIn_41 : decode cX9_putIn 41 = .ok (.iinc 4 1, 3) := dec_of t_X9_putIn_ok 20 rfl
theorem dX9_putIn_44 : decode cX9_putIn 44 = .ok (.goto (-31), 3) := dec_of t_X9_putIn_ok 21 rfl
theorem dX9_putIn_47 : decode cX9_putIn 47 = .ok (.aload_n 0, 1) := dec_of t_X9_putIn_ok 22 rfl
theorem dX9_putIn_48 : decode cX9_putIn 48 = .ok (.invokevirtual 368, 3) := dec_of t_X9_putIn_ok 23 rfl
theorem dX9_putIn_51 : decode cX9_putIn 51 = .ok (.return_, 1) := dec_of t_X9_putIn_ok 24 rfl
def t_X9_takeOut : List (Nat × Instr × Nat) := [(0, .aload_n 0, 1), (1, .getfield 21, 3), (4, .iload_n 1, 1), (5, .invokevirtual 371, 3), (8, .istore_n 2, 1), (9, .iconst 0, 1), (10, .istore_n 3, 1), (11, .iload_n 3, 1), (12, .aload_n 0, 1), (13, .getfield 47, 3), (16, .invokevirtual 150, 3), (19, .if_icmp .ge 24, 3), (22, .aload_n 0, 1), (23, .getfield 47, 3), (26, .iload_n 3, 1), (27, .invokevirtual 338, 3), (30, .checkcast 51, 3), (33, .iload_n 1, 1), (34, .invokevirtual 374, 3), (37, .iinc 3 1, 3), (40, .goto (-29), 3), (43, .aload_n 0, 1), (44, .invokevirtual 368, 3), (47, .iload_n 2, 1), (48, .ireturn, 1)]
theorem t_X9_takeOut_ok : dec_ok cX9_takeOut t_X9_takeOut = true := by decide +kernel
theorem dX9_takeOut_0 : decode cX9_takeOut 0 = .ok (.aload_n 0, 1) := dec_of t_X9_takeOut_ok 0 rfl
theorem dX9_takeOut_1 : decode cX9_takeOut 1 = .ok (.getfield 21, 3) := dec_of t_X9_takeOut_ok 1 rfl
theorem dX9_takeOut_4 : decode cX9_takeOut 4 = .ok (.iload_n 1, 1) := dec_of t_X9_takeOut_ok 2 rfl
theorem dX9_takeOut_5 : decode cX9_takeOut 5 = .ok (.invokevirtual 371, 3) := dec_of t_X9_takeOut_ok 3 rfl
theorem dX9_takeOut_8 : decode cX9_takeOut 8 = .ok (.istore_n 2, 1) := dec_of t_X9_takeOut_ok 4 rfl
theorem dX9_takeOut_9 : decode cX9_takeOut 9 = .ok (.iconst 0, 1) := dec_of t_X9_takeOut_ok 5 rfl
theorem dX9_takeOut_10 : decode cX9_takeOut 10 = .ok (.istore_n 3, 1) := dec_of t_X9_takeOut_ok 6 rfl
theorem dX9_takeOut_11 : decode cX9_takeOut 11 = .ok (.iload_n 3, 1) := dec_of t_X9_takeOut_ok 7 rfl
theorem dX9_takeOut_12 : decode cX9_takeOut 12 = .ok (.aload_n 0, 1) := dec_of t_X9_takeOut_ok 8 rfl
theorem dX9_takeOut_13 : decode cX9_takeOut 13 = .ok (.getfield 47, 3) := dec_of t_X9_takeOut_ok 9 rfl
theorem dX9_takeOut_16 : decode cX9_takeOut 16 = .ok (.invokevirtual 150, 3) := dec_of t_X9_takeOut_ok 10 rfl
theorem dX9_takeOut_19 : decode cX9_takeOut 19 = .ok (.if_icmp .ge 24, 3) := dec_of t_X9_takeOut_ok 11 rfl
theorem dX9_takeOut_22 : decode cX9_takeOut 22 = .ok (.aload_n 0, 1) := dec_of t_X9_takeOut_ok 12 rfl
theorem dX9_takeOut_23 : decode cX9_takeOut 23 = .ok (.getfield 47, 3) := dec_of t_X9_takeOut_ok 13 rfl
theorem dX9_takeOut_26 : decode cX9_takeOut 26 = .ok (.iload_n 3, 1) := dec_of t_X9_takeOut_ok 14 rfl
theorem dX9_takeOut_27 : decode cX9_takeOut 27 = .ok (.invokevirtual 338, 3) := dec_of t_X9_takeOut_ok 15 rfl
theorem dX9_takeOut_30 : decode cX9_takeOut 30 = .ok (.checkcast 51, 3) := dec_of t_X9_takeOut_ok 16 rfl
theorem dX9_takeOut_33 : decode cX9_takeOut 33 = .ok (.iload_n 1, 1) := dec_of t_X9_takeOut_ok 17 rfl
theorem dX9_takeOut_34 : decode cX9_takeOut 34 = .ok (.invokevirtual 374, 3) := dec_of t_X9_takeOut_ok 18 rfl
theorem dX9_takeOut_37 : decode cX9_takeOut 37 = .ok (.iinc 3 1, 3) := dec_of t_X9_takeOut_ok 19 rfl
theorem dX9_takeOut_40 : decode cX9_takeOut 40 = .ok (.goto (-29), 3) := dec_of t_X9_takeOut_ok 20 rfl
theorem dX9_takeOut_43 : decode cX9_takeOut 43 = .ok (.aload_n 0, 1) := dec_of t_X9_takeOut_ok 21 rfl
theorem dX9_takeOut_44 : decode cX9_takeOut 44 = .ok (.invokevirtual 368, 3) := dec_of t_X9_takeOut_ok 22 rfl
theorem dX9_takeOut_47 : decode cX9_takeOut 47 = .ok (.iload_n 2, 1) := dec_of t_X9_takeOut_ok 23 rfl
theorem dX9_takeOut_48 : decode cX9_takeOut 48 = .ok (.ireturn, 1) := dec_of t_X9_takeOut_ok 24 rfl
def t_X9_noteStale : List (Nat × Instr × Nat) := [(0, .aload_n 0, 1), (1, .iconst 0, 1), (2, .putfield 70, 3), (5, .aload_n 0, 1), (6, .iconst (-1), 1), (7, .putfield 74, 3), (10, .return_, 1)]
theorem t_X9_noteStale_ok : dec_ok cX9_noteStale t_X9_noteStale = true := by decide +kernel
theorem dX9_noteStale_0 : decode cX9_noteStale 0 = .ok (.aload_n 0, 1) := dec_of t_X9_noteStale_ok 0 rfl
theorem dX9_noteStale_1 : decode cX9_noteStale 1 = .ok (.iconst 0, 1) := dec_of t_X9_noteStale_ok 1 rfl
theorem dX9_noteStale_2 : decode cX9_noteStale 2 = .ok (.putfield 70, 3) := dec_of t_X9_noteStale_ok 2 rfl
theorem dX9_noteStale_5 : decode cX9_noteStale 5 = .ok (.aload_n 0, 1) := dec_of t_X9_noteStale_ok 3 rfl
theorem dX9_noteStale_6 : decode cX9_noteStale 6 = .ok (.iconst (-1), 1) := dec_of t_X9_noteStale_ok 4 rfl
theorem dX9_noteStale_7 : decode cX9_noteStale 7 = .ok (.putfield 74, 3) := dec_of t_X9_noteStale_ok 5 rfl
theorem dX9_noteStale_10 : decode cX9_noteStale 10 = .ok (.return_, 1) := dec_of t_X9_noteStale_ok 6 rfl
def t_X9_noteTold : List (Nat × Instr × Nat) := [(0, .aload_n 0, 1), (1, .getfield 14, 3), (4, .invokevirtual 100, 3), (7, .aload_n 0, 1), (8, .getfield 21, 3), (11, .bipush 15, 2), (13, .invokevirtual 377, 3), (16, .aload_n 0, 1), (17, .invokevirtual 368, 3), (20, .return_, 1)]
theorem t_X9_noteTold_ok : dec_ok cX9_noteTold t_X9_noteTold = true := by decide +kernel
theorem dX9_noteTold_0 : decode cX9_noteTold 0 = .ok (.aload_n 0, 1) := dec_of t_X9_noteTold_ok 0 rfl
theorem dX9_noteTold_1 : decode cX9_noteTold 1 = .ok (.getfield 14, 3) := dec_of t_X9_noteTold_ok 1 rfl
theorem dX9_noteTold_4 : decode cX9_noteTold 4 = .ok (.invokevirtual 100, 3) := dec_of t_X9_noteTold_ok 2 rfl
theorem dX9_noteTold_7 : decode cX9_noteTold 7 = .ok (.aload_n 0, 1) := dec_of t_X9_noteTold_ok 3 rfl
theorem dX9_noteTold_8 : decode cX9_noteTold 8 = .ok (.getfield 21, 3) := dec_of t_X9_noteTold_ok 4 rfl
theorem dX9_noteTold_11 : decode cX9_noteTold 11 = .ok (.bipush 15, 2) := dec_of t_X9_noteTold_ok 5 rfl
theorem dX9_noteTold_13 : decode cX9_noteTold 13 = .ok (.invokevirtual 377, 3) := dec_of t_X9_noteTold_ok 6 rfl
theorem dX9_noteTold_16 : decode cX9_noteTold 16 = .ok (.aload_n 0, 1) := dec_of t_X9_noteTold_ok 7 rfl
theorem dX9_noteTold_17 : decode cX9_noteTold 17 = .ok (.invokevirtual 368, 3) := dec_of t_X9_noteTold_ok 8 rfl
theorem dX9_noteTold_20 : decode cX9_noteTold 20 = .ok (.return_, 1) := dec_of t_X9_noteTold_ok 9 rfl
def t_X9_noteSettings : List (Nat × Instr × Nat) := [(0, .aload_n 0, 1), (1, .getfield 21, 3), (4, .iconst 1, 1), (5, .iload_n 1, 1), (6, .ishl, 1), (7, .invokevirtual 377, 3), (10, .aload_n 0, 1), (11, .iconst (-1), 1), (12, .putfield 74, 3), (15, .return_, 1)]
theorem t_X9_noteSettings_ok : dec_ok cX9_noteSettings t_X9_noteSettings = true := by decide +kernel
theorem dX9_noteSettings_0 : decode cX9_noteSettings 0 = .ok (.aload_n 0, 1) := dec_of t_X9_noteSettings_ok 0 rfl
theorem dX9_noteSettings_1 : decode cX9_noteSettings 1 = .ok (.getfield 21, 3) := dec_of t_X9_noteSettings_ok 1 rfl
theorem dX9_noteSettings_4 : decode cX9_noteSettings 4 = .ok (.iconst 1, 1) := dec_of t_X9_noteSettings_ok 2 rfl
theorem dX9_noteSettings_5 : decode cX9_noteSettings 5 = .ok (.iload_n 1, 1) := dec_of t_X9_noteSettings_ok 3 rfl
theorem dX9_noteSettings_6 : decode cX9_noteSettings 6 = .ok (.ishl, 1) := dec_of t_X9_noteSettings_ok 4 rfl
theorem dX9_noteSettings_7 : decode cX9_noteSettings 7 = .ok (.invokevirtual 377, 3) := dec_of t_X9_noteSettings_ok 5 rfl
theorem dX9_noteSettings_10 : decode cX9_noteSettings 10 = .ok (.aload_n 0, 1) := dec_of t_X9_noteSettings_ok 6 rfl
theorem dX9_noteSettings_11 : decode cX9_noteSettings 11 = .ok (.iconst (-1), 1) := dec_of t_X9_noteSettings_ok 7 rfl
theorem dX9_noteSettings_12 : decode cX9_noteSettings 12 = .ok (.putfield 74, 3) := dec_of t_X9_noteSettings_ok 8 rfl
theorem dX9_noteSettings_15 : decode cX9_noteSettings 15 = .ok (.return_, 1) := dec_of t_X9_noteSettings_ok 9 rfl
def t_Jx00060_init_a7421 : List (Nat × Instr × Nat) := [(0, .aload_n 0, 1), (1, .aload_n 1, 1), (2, .invokespecial 7, 3), (5, .return_, 1)]
theorem t_Jx00060_init_a7421_ok : dec_ok cJx00060_init_a7421 t_Jx00060_init_a7421 = true := by decide +kernel
theorem dJx00060_init_a7421_0 : decode cJx00060_init_a7421 0 = .ok (.aload_n 0, 1) := dec_of t_Jx00060_init_a7421_ok 0 rfl
theorem dJx00060_init_a7421_1 : decode cJx00060_init_a7421 1 = .ok (.aload_n 1, 1) := dec_of t_Jx00060_init_a7421_ok 1 rfl
theorem dJx00060_init_a7421_2 : decode cJx00060_init_a7421 2 = .ok (.invokespecial 7, 3) := dec_of t_Jx00060_init_a7421_ok 2 rfl
theorem dJx00060_init_a7421_5 : decode cJx00060_init_a7421 5 = .ok (.return_, 1) := dec_of t_Jx00060_init_a7421_ok 3 rfl
def t_J9_max_7cf53 : List (Nat × Instr × Nat) := [(0, .iload_n 0, 1), (1, .iload_n 1, 1), (2, .if_icmp .lt 7, 3), (5, .iload_n 0, 1), (6, .goto 4, 3), (9, .iload_n 1, 1), (10, .ireturn, 1)]
theorem t_J9_max_7cf53_ok : dec_ok cJ9_max_7cf53 t_J9_max_7cf53 = true := by decide +kernel
theorem dJ9_max_7cf53_0 : decode cJ9_max_7cf53 0 = .ok (.iload_n 0, 1) := dec_of t_J9_max_7cf53_ok 0 rfl
theorem dJ9_max_7cf53_1 : decode cJ9_max_7cf53 1 = .ok (.iload_n 1, 1) := dec_of t_J9_max_7cf53_ok 1 rfl
theorem dJ9_max_7cf53_2 : decode cJ9_max_7cf53 2 = .ok (.if_icmp .lt 7, 3) := dec_of t_J9_max_7cf53_ok 2 rfl
theorem dJ9_max_7cf53_5 : decode cJ9_max_7cf53 5 = .ok (.iload_n 0, 1) := dec_of t_J9_max_7cf53_ok 3 rfl
theorem dJ9_max_7cf53_6 : decode cJ9_max_7cf53 6 = .ok (.goto 4, 3) := dec_of t_J9_max_7cf53_ok 4 rfl
theorem dJ9_max_7cf53_9 : decode cJ9_max_7cf53 9 = .ok (.iload_n 1, 1) := dec_of t_J9_max_7cf53_ok 5 rfl
theorem dJ9_max_7cf53_10 : decode cJ9_max_7cf53 10 = .ok (.ireturn, 1) := dec_of t_J9_max_7cf53_ok 6 rfl
def t_J9_min_7cf53 : List (Nat × Instr × Nat) := [(0, .iload_n 0, 1), (1, .iload_n 1, 1), (2, .if_icmp .gt 7, 3), (5, .iload_n 0, 1), (6, .goto 4, 3), (9, .iload_n 1, 1), (10, .ireturn, 1)]
theorem t_J9_min_7cf53_ok : dec_ok cJ9_min_7cf53 t_J9_min_7cf53 = true := by decide +kernel
theorem dJ9_min_7cf53_0 : decode cJ9_min_7cf53 0 = .ok (.iload_n 0, 1) := dec_of t_J9_min_7cf53_ok 0 rfl
theorem dJ9_min_7cf53_1 : decode cJ9_min_7cf53 1 = .ok (.iload_n 1, 1) := dec_of t_J9_min_7cf53_ok 1 rfl
theorem dJ9_min_7cf53_2 : decode cJ9_min_7cf53 2 = .ok (.if_icmp .gt 7, 3) := dec_of t_J9_min_7cf53_ok 2 rfl
theorem dJ9_min_7cf53_5 : decode cJ9_min_7cf53 5 = .ok (.iload_n 0, 1) := dec_of t_J9_min_7cf53_ok 3 rfl
theorem dJ9_min_7cf53_6 : decode cJ9_min_7cf53 6 = .ok (.goto 4, 3) := dec_of t_J9_min_7cf53_ok 4 rfl
theorem dJ9_min_7cf53_9 : decode cJ9_min_7cf53 9 = .ok (.iload_n 1, 1) := dec_of t_J9_min_7cf53_ok 5 rfl
theorem dJ9_min_7cf53_10 : decode cJ9_min_7cf53 10 = .ok (.ireturn, 1) := dec_of t_J9_min_7cf53_ok 6 rfl
def t_Jxa1e45_init_da8c8 : List (Nat × Instr × Nat) := [(0, .aload_n 0, 1), (1, .invokespecial 1, 3), (4, .return_, 1)]
theorem t_Jxa1e45_init_da8c8_ok : dec_ok cJxa1e45_init_da8c8 t_Jxa1e45_init_da8c8 = true := by decide +kernel
theorem dJxa1e45_init_da8c8_0 : decode cJxa1e45_init_da8c8 0 = .ok (.aload_n 0, 1) := dec_of t_Jxa1e45_init_da8c8_ok 0 rfl
theorem dJxa1e45_init_da8c8_1 : decode cJxa1e45_init_da8c8 1 = .ok (.invokespecial 1, 3) := dec_of t_Jxa1e45_init_da8c8_ok 1 rfl
theorem dJxa1e45_init_da8c8_4 : decode cJxa1e45_init_da8c8 4 = .ok (.return_, 1) := dec_of t_Jxa1e45_init_da8c8_ok 2 rfl
def t_Jxc12de_init_da8c8 : List (Nat × Instr × Nat) := [(0, .aload_n 0, 1), (1, .invokespecial 1, 3), (4, .aload_n 0, 1), (5, .iconst 0, 1), (6, .putfield 7, 3), (9, .return_, 1)]
theorem t_Jxc12de_init_da8c8_ok : dec_ok cJxc12de_init_da8c8 t_Jxc12de_init_da8c8 = true := by decide +kernel
theorem dJxc12de_init_da8c8_0 : decode cJxc12de_init_da8c8 0 = .ok (.aload_n 0, 1) := dec_of t_Jxc12de_init_da8c8_ok 0 rfl
theorem dJxc12de_init_da8c8_1 : decode cJxc12de_init_da8c8 1 = .ok (.invokespecial 1, 3) := dec_of t_Jxc12de_init_da8c8_ok 1 rfl
theorem dJxc12de_init_da8c8_4 : decode cJxc12de_init_da8c8 4 = .ok (.aload_n 0, 1) := dec_of t_Jxc12de_init_da8c8_ok 2 rfl
theorem dJxc12de_init_da8c8_5 : decode cJxc12de_init_da8c8 5 = .ok (.iconst 0, 1) := dec_of t_Jxc12de_init_da8c8_ok 3 rfl
theorem dJxc12de_init_da8c8_6 : decode cJxc12de_init_da8c8 6 = .ok (.putfield 7, 3) := dec_of t_Jxc12de_init_da8c8_ok 4 rfl
theorem dJxc12de_init_da8c8_9 : decode cJxc12de_init_da8c8 9 = .ok (.return_, 1) := dec_of t_Jxc12de_init_da8c8_ok 5 rfl
def t_Jx4a65c_init_da8c8 : List (Nat × Instr × Nat) := [(0, .aload_n 0, 1), (1, .invokespecial 1, 3), (4, .aload_n 0, 1), (5, .getstatic 39, 3), (8, .putfield 9, 3), (11, .return_, 1)]
theorem t_Jx4a65c_init_da8c8_ok : dec_ok cJx4a65c_init_da8c8 t_Jx4a65c_init_da8c8 = true := by decide +kernel
theorem dJx4a65c_init_da8c8_0 : decode cJx4a65c_init_da8c8 0 = .ok (.aload_n 0, 1) := dec_of t_Jx4a65c_init_da8c8_ok 0 rfl
theorem dJx4a65c_init_da8c8_1 : decode cJx4a65c_init_da8c8 1 = .ok (.invokespecial 1, 3) := dec_of t_Jx4a65c_init_da8c8_ok 1 rfl
theorem dJx4a65c_init_da8c8_4 : decode cJx4a65c_init_da8c8 4 = .ok (.aload_n 0, 1) := dec_of t_Jx4a65c_init_da8c8_ok 2 rfl
theorem dJx4a65c_init_da8c8_5 : decode cJx4a65c_init_da8c8 5 = .ok (.getstatic 39, 3) := dec_of t_Jx4a65c_init_da8c8_ok 3 rfl
theorem dJx4a65c_init_da8c8_8 : decode cJx4a65c_init_da8c8 8 = .ok (.putfield 9, 3) := dec_of t_Jx4a65c_init_da8c8_ok 4 rfl
theorem dJx4a65c_init_da8c8_11 : decode cJx4a65c_init_da8c8 11 = .ok (.return_, 1) := dec_of t_Jx4a65c_init_da8c8_ok 5 rfl
def t_Jx4a65c_grow_92f84 : List (Nat × Instr × Nat) := [(0, .aload_n 0, 1), (1, .getfield 9, 3), (4, .arraylength, 1), (5, .istore_n 2, 1), (6, .iload_n 2, 1), (7, .ifCond .gt 13, 3), (10, .aload_n 0, 1), (11, .getfield 9, 3), (14, .getstatic 39, 3), (17, .if_acmp .eq 28, 3), (20, .iload_n 2, 1), (21, .iload_n 1, 1), (22, .iload_n 2, 1), (23, .isub, 1), (24, .iload_n 2, 1), (25, .iconst 1, 1), (26, .ishr, 1), (27, .invokestatic 73, 3), (30, .istore_n 3, 1), (31, .aload_n 0, 1), (32, .aload_n 0, 1), (33, .getfield 9, 3), (36, .iload_n 3, 1), (37, .invokestatic 66, 3), (40, .dup_x1, 1), (41, .putfield 9, 3), (44, .areturn, 1), (45, .aload_n 0, 1), (46, .bipush 10, 2), (48, .iload_n 1, 1), (49, .invokestatic 79, 3), (52, .anewarray 7, 3), (55, .dup_x1, 1), (56, .putfield 9, 3), (59, .areturn, 1)]
theorem t_Jx4a65c_grow_92f84_ok : dec_ok cJx4a65c_grow_92f84 t_Jx4a65c_grow_92f84 = true := by decide +kernel
theorem dJx4a65c_grow_92f84_0 : decode cJx4a65c_grow_92f84 0 = .ok (.aload_n 0, 1) := dec_of t_Jx4a65c_grow_92f84_ok 0 rfl
theorem dJx4a65c_grow_92f84_1 : decode cJx4a65c_grow_92f84 1 = .ok (.getfield 9, 3) := dec_of t_Jx4a65c_grow_92f84_ok 1 rfl
theorem dJx4a65c_grow_92f84_4 : decode cJx4a65c_grow_92f84 4 = .ok (.arraylength, 1) := dec_of t_Jx4a65c_grow_92f84_ok 2 rfl
theorem dJx4a65c_grow_92f84_5 : decode cJx4a65c_grow_92f84 5 = .ok (.istore_n 2, 1) := dec_of t_Jx4a65c_grow_92f84_ok 3 rfl
theorem dJx4a65c_grow_92f84_6 : decode cJx4a65c_grow_92f84 6 = .ok (.iload_n 2, 1) := dec_of t_Jx4a65c_grow_92f84_ok 4 rfl
theorem dJx4a65c_grow_92f84_7 : decode cJx4a65c_grow_92f84 7 = .ok (.ifCond .gt 13, 3) := dec_of t_Jx4a65c_grow_92f84_ok 5 rfl
theorem dJx4a65c_grow_92f84_10 : decode cJx4a65c_grow_92f84 10 = .ok (.aload_n 0, 1) := dec_of t_Jx4a65c_grow_92f84_ok 6 rfl
theorem dJx4a65c_grow_92f84_11 : decode cJx4a65c_grow_92f84 11 = .ok (.getfield 9, 3) := dec_of t_Jx4a65c_grow_92f84_ok 7 rfl
theorem dJx4a65c_grow_92f84_14 : decode cJx4a65c_grow_92f84 14 = .ok (.getstatic 39, 3) := dec_of t_Jx4a65c_grow_92f84_ok 8 rfl
theorem dJx4a65c_grow_92f84_17 : decode cJx4a65c_grow_92f84 17 = .ok (.if_acmp .eq 28, 3) := dec_of t_Jx4a65c_grow_92f84_ok 9 rfl
theorem dJx4a65c_grow_92f84_20 : decode cJx4a65c_grow_92f84 20 = .ok (.iload_n 2, 1) := dec_of t_Jx4a65c_grow_92f84_ok 10 rfl
theorem dJx4a65c_grow_92f84_21 : decode cJx4a65c_grow_92f84 21 = .ok (.iload_n 1, 1) := dec_of t_Jx4a65c_grow_92f84_ok 11 rfl
theorem dJx4a65c_grow_92f84_22 : decode cJx4a65c_grow_92f84 22 = .ok (.iload_n 2, 1) := dec_of t_Jx4a65c_grow_92f84_ok 12 rfl
theorem dJx4a65c_grow_92f84_23 : decode cJx4a65c_grow_92f84 23 = .ok (.isub, 1) := dec_of t_Jx4a65c_grow_92f84_ok 13 rfl
theorem dJx4a65c_grow_92f84_24 : decode cJx4a65c_grow_92f84 24 = .ok (.iload_n 2, 1) := dec_of t_Jx4a65c_grow_92f84_ok 14 rfl
theorem dJx4a65c_grow_92f84_25 : decode cJx4a65c_grow_92f84 25 = .ok (.iconst 1, 1) := dec_of t_Jx4a65c_grow_92f84_ok 15 rfl
theorem dJx4a65c_grow_92f84_26 : decode cJx4a65c_grow_92f84 26 = .ok (.ishr, 1) := dec_of t_Jx4a65c_grow_92f84_ok 16 rfl
theorem dJx4a65c_grow_92f84_27 : decode cJx4a65c_grow_92f84 27 = .ok (.invokestatic 73, 3) := dec_of t_Jx4a65c_grow_92f84_ok 17 rfl
theorem dJx4a65c_grow_92f84_30 : decode cJx4a65c_grow_92f84 30 = .ok (.istore_n 3, 1) := dec_of t_Jx4a65c_grow_92f84_ok 18 rfl
theorem dJx4a65c_grow_92f84_31 : decode cJx4a65c_grow_92f84 31 = .ok (.aload_n 0, 1) := dec_of t_Jx4a65c_grow_92f84_ok 19 rfl
theorem dJx4a65c_grow_92f84_32 : decode cJx4a65c_grow_92f84 32 = .ok (.aload_n 0, 1) := dec_of t_Jx4a65c_grow_92f84_ok 20 rfl
theorem dJx4a65c_grow_92f84_33 : decode cJx4a65c_grow_92f84 33 = .ok (.getfield 9, 3) := dec_of t_Jx4a65c_grow_92f84_ok 21 rfl
theorem dJx4a65c_grow_92f84_36 : decode cJx4a65c_grow_92f84 36 = .ok (.iload_n 3, 1) := dec_of t_Jx4a65c_grow_92f84_ok 22 rfl
theorem dJx4a65c_grow_92f84_37 : decode cJx4a65c_grow_92f84 37 = .ok (.invokestatic 66, 3) := dec_of t_Jx4a65c_grow_92f84_ok 23 rfl
theorem dJx4a65c_grow_92f84_40 : decode cJx4a65c_grow_92f84 40 = .ok (.dup_x1, 1) := dec_of t_Jx4a65c_grow_92f84_ok 24 rfl
theorem dJx4a65c_grow_92f84_41 : decode cJx4a65c_grow_92f84 41 = .ok (.putfield 9, 3) := dec_of t_Jx4a65c_grow_92f84_ok 25 rfl
theorem dJx4a65c_grow_92f84_44 : decode cJx4a65c_grow_92f84 44 = .ok (.areturn, 1) := dec_of t_Jx4a65c_grow_92f84_ok 26 rfl
theorem dJx4a65c_grow_92f84_45 : decode cJx4a65c_grow_92f84 45 = .ok (.aload_n 0, 1) := dec_of t_Jx4a65c_grow_92f84_ok 27 rfl
theorem dJx4a65c_grow_92f84_46 : decode cJx4a65c_grow_92f84 46 = .ok (.bipush 10, 2) := dec_of t_Jx4a65c_grow_92f84_ok 28 rfl
theorem dJx4a65c_grow_92f84_48 : decode cJx4a65c_grow_92f84 48 = .ok (.iload_n 1, 1) := dec_of t_Jx4a65c_grow_92f84_ok 29 rfl
theorem dJx4a65c_grow_92f84_49 : decode cJx4a65c_grow_92f84 49 = .ok (.invokestatic 79, 3) := dec_of t_Jx4a65c_grow_92f84_ok 30 rfl
theorem dJx4a65c_grow_92f84_52 : decode cJx4a65c_grow_92f84 52 = .ok (.anewarray 7, 3) := dec_of t_Jx4a65c_grow_92f84_ok 31 rfl
theorem dJx4a65c_grow_92f84_55 : decode cJx4a65c_grow_92f84 55 = .ok (.dup_x1, 1) := dec_of t_Jx4a65c_grow_92f84_ok 32 rfl
theorem dJx4a65c_grow_92f84_56 : decode cJx4a65c_grow_92f84 56 = .ok (.putfield 9, 3) := dec_of t_Jx4a65c_grow_92f84_ok 33 rfl
theorem dJx4a65c_grow_92f84_59 : decode cJx4a65c_grow_92f84 59 = .ok (.areturn, 1) := dec_of t_Jx4a65c_grow_92f84_ok 34 rfl
def t_Jx4a65c_grow_d5877 : List (Nat × Instr × Nat) := [(0, .aload_n 0, 1), (1, .aload_n 0, 1), (2, .getfield 48, 3), (5, .iconst 1, 1), (6, .iadd, 1), (7, .invokevirtual 69, 3), (10, .areturn, 1)]
theorem t_Jx4a65c_grow_d5877_ok : dec_ok cJx4a65c_grow_d5877 t_Jx4a65c_grow_d5877 = true := by decide +kernel
theorem dJx4a65c_grow_d5877_0 : decode cJx4a65c_grow_d5877 0 = .ok (.aload_n 0, 1) := dec_of t_Jx4a65c_grow_d5877_ok 0 rfl
theorem dJx4a65c_grow_d5877_1 : decode cJx4a65c_grow_d5877 1 = .ok (.aload_n 0, 1) := dec_of t_Jx4a65c_grow_d5877_ok 1 rfl
theorem dJx4a65c_grow_d5877_2 : decode cJx4a65c_grow_d5877 2 = .ok (.getfield 48, 3) := dec_of t_Jx4a65c_grow_d5877_ok 2 rfl
theorem dJx4a65c_grow_d5877_5 : decode cJx4a65c_grow_d5877 5 = .ok (.iconst 1, 1) := dec_of t_Jx4a65c_grow_d5877_ok 3 rfl
theorem dJx4a65c_grow_d5877_6 : decode cJx4a65c_grow_d5877 6 = .ok (.iadd, 1) := dec_of t_Jx4a65c_grow_d5877_ok 4 rfl
theorem dJx4a65c_grow_d5877_7 : decode cJx4a65c_grow_d5877 7 = .ok (.invokevirtual 69, 3) := dec_of t_Jx4a65c_grow_d5877_ok 5 rfl
theorem dJx4a65c_grow_d5877_10 : decode cJx4a65c_grow_d5877 10 = .ok (.areturn, 1) := dec_of t_Jx4a65c_grow_d5877_ok 6 rfl
def t_Jx4a65c_size_8abf5 : List (Nat × Instr × Nat) := [(0, .aload_n 0, 1), (1, .getfield 48, 3), (4, .ireturn, 1)]
theorem t_Jx4a65c_size_8abf5_ok : dec_ok cJx4a65c_size_8abf5 t_Jx4a65c_size_8abf5 = true := by decide +kernel
theorem dJx4a65c_size_8abf5_0 : decode cJx4a65c_size_8abf5 0 = .ok (.aload_n 0, 1) := dec_of t_Jx4a65c_size_8abf5_ok 0 rfl
theorem dJx4a65c_size_8abf5_1 : decode cJx4a65c_size_8abf5 1 = .ok (.getfield 48, 3) := dec_of t_Jx4a65c_size_8abf5_ok 1 rfl
theorem dJx4a65c_size_8abf5_4 : decode cJx4a65c_size_8abf5 4 = .ok (.ireturn, 1) := dec_of t_Jx4a65c_size_8abf5_ok 2 rfl
def t_Jx4a65c_elementData_915e3 : List (Nat × Instr × Nat) := [(0, .aload_n 0, 1), (1, .getfield 9, 3), (4, .iload_n 1, 1), (5, .aaload, 1), (6, .areturn, 1)]
theorem t_Jx4a65c_elementData_915e3_ok : dec_ok cJx4a65c_elementData_915e3 t_Jx4a65c_elementData_915e3 = true := by decide +kernel
theorem dJx4a65c_elementData_915e3_0 : decode cJx4a65c_elementData_915e3 0 = .ok (.aload_n 0, 1) := dec_of t_Jx4a65c_elementData_915e3_ok 0 rfl
theorem dJx4a65c_elementData_915e3_1 : decode cJx4a65c_elementData_915e3 1 = .ok (.getfield 9, 3) := dec_of t_Jx4a65c_elementData_915e3_ok 1 rfl
theorem dJx4a65c_elementData_915e3_4 : decode cJx4a65c_elementData_915e3 4 = .ok (.iload_n 1, 1) := dec_of t_Jx4a65c_elementData_915e3_ok 2 rfl
theorem dJx4a65c_elementData_915e3_5 : decode cJx4a65c_elementData_915e3 5 = .ok (.aaload, 1) := dec_of t_Jx4a65c_elementData_915e3_ok 3 rfl
theorem dJx4a65c_elementData_915e3_6 : decode cJx4a65c_elementData_915e3 6 = .ok (.areturn, 1) := dec_of t_Jx4a65c_elementData_915e3_ok 4 rfl
def t_Jx4a65c_get_915e3 : List (Nat × Instr × Nat) := [(0, .iload_n 1, 1), (1, .aload_n 0, 1), (2, .getfield 48, 3), (5, .invokestatic 118, 3), (8, .pop, 1), (9, .aload_n 0, 1), (10, .iload_n 1, 1), (11, .invokevirtual 123, 3), (14, .areturn, 1)]
theorem t_Jx4a65c_get_915e3_ok : dec_ok cJx4a65c_get_915e3 t_Jx4a65c_get_915e3 = true := by decide +kernel
theorem dJx4a65c_get_915e3_0 : decode cJx4a65c_get_915e3 0 = .ok (.iload_n 1, 1) := dec_of t_Jx4a65c_get_915e3_ok 0 rfl
theorem dJx4a65c_get_915e3_1 : decode cJx4a65c_get_915e3 1 = .ok (.aload_n 0, 1) := dec_of t_Jx4a65c_get_915e3_ok 1 rfl
theorem dJx4a65c_get_915e3_2 : decode cJx4a65c_get_915e3 2 = .ok (.getfield 48, 3) := dec_of t_Jx4a65c_get_915e3_ok 2 rfl
theorem dJx4a65c_get_915e3_5 : decode cJx4a65c_get_915e3 5 = .ok (.invokestatic 118, 3) := dec_of t_Jx4a65c_get_915e3_ok 3 rfl
theorem dJx4a65c_get_915e3_8 : decode cJx4a65c_get_915e3 8 = .ok (.pop, 1) := dec_of t_Jx4a65c_get_915e3_ok 4 rfl
theorem dJx4a65c_get_915e3_9 : decode cJx4a65c_get_915e3 9 = .ok (.aload_n 0, 1) := dec_of t_Jx4a65c_get_915e3_ok 5 rfl
theorem dJx4a65c_get_915e3_10 : decode cJx4a65c_get_915e3 10 = .ok (.iload_n 1, 1) := dec_of t_Jx4a65c_get_915e3_ok 6 rfl
theorem dJx4a65c_get_915e3_11 : decode cJx4a65c_get_915e3 11 = .ok (.invokevirtual 123, 3) := dec_of t_Jx4a65c_get_915e3_ok 7 rfl
theorem dJx4a65c_get_915e3_14 : decode cJx4a65c_get_915e3 14 = .ok (.areturn, 1) := dec_of t_Jx4a65c_get_915e3_ok 8 rfl
def t_Jx4a65c_add_72be8 : List (Nat × Instr × Nat) := [(0, .iload_n 3, 1), (1, .aload_n 2, 1), (2, .arraylength, 1), (3, .if_icmp .ne 8, 3), (6, .aload_n 0, 1), (7, .invokevirtual 129, 3), (10, .astore_n 2, 1), (11, .aload_n 2, 1), (12, .iload_n 3, 1), (13, .aload_n 1, 1), (14, .aastore, 1), (15, .aload_n 0, 1), (16, .iload_n 3, 1), (17, .iconst 1, 1), (18, .iadd, 1), (19, .putfield 48, 3), (22, .return_, 1)]
theorem t_Jx4a65c_add_72be8_ok : dec_ok cJx4a65c_add_72be8 t_Jx4a65c_add_72be8 = true := by decide +kernel
theorem dJx4a65c_add_72be8_0 : decode cJx4a65c_add_72be8 0 = .ok (.iload_n 3, 1) := dec_of t_Jx4a65c_add_72be8_ok 0 rfl
theorem dJx4a65c_add_72be8_1 : decode cJx4a65c_add_72be8 1 = .ok (.aload_n 2, 1) := dec_of t_Jx4a65c_add_72be8_ok 1 rfl
theorem dJx4a65c_add_72be8_2 : decode cJx4a65c_add_72be8 2 = .ok (.arraylength, 1) := dec_of t_Jx4a65c_add_72be8_ok 2 rfl
theorem dJx4a65c_add_72be8_3 : decode cJx4a65c_add_72be8 3 = .ok (.if_icmp .ne 8, 3) := dec_of t_Jx4a65c_add_72be8_ok 3 rfl
theorem dJx4a65c_add_72be8_6 : decode cJx4a65c_add_72be8 6 = .ok (.aload_n 0, 1) := dec_of t_Jx4a65c_add_72be8_ok 4 rfl
theorem dJx4a65c_add_72be8_7 : decode cJx4a65c_add_72be8 7 = .ok (.invokevirtual 129, 3) := dec_of t_Jx4a65c_add_72be8_ok 5 rfl
theorem dJx4a65c_add_72be8_10 : decode cJx4a65c_add_72be8 10 = .ok (.astore_n 2, 1) := dec_of t_Jx4a65c_add_72be8_ok 6 rfl
theorem dJx4a65c_add_72be8_11 : decode cJx4a65c_add_72be8 11 = .ok (.aload_n 2, 1) := dec_of t_Jx4a65c_add_72be8_ok 7 rfl
theorem dJx4a65c_add_72be8_12 : decode cJx4a65c_add_72be8 12 = .ok (.iload_n 3, 1) := dec_of t_Jx4a65c_add_72be8_ok 8 rfl
theorem dJx4a65c_add_72be8_13 : decode cJx4a65c_add_72be8 13 = .ok (.aload_n 1, 1) := dec_of t_Jx4a65c_add_72be8_ok 9 rfl
theorem dJx4a65c_add_72be8_14 : decode cJx4a65c_add_72be8 14 = .ok (.aastore, 1) := dec_of t_Jx4a65c_add_72be8_ok 10 rfl
theorem dJx4a65c_add_72be8_15 : decode cJx4a65c_add_72be8 15 = .ok (.aload_n 0, 1) := dec_of t_Jx4a65c_add_72be8_ok 11 rfl
theorem dJx4a65c_add_72be8_16 : decode cJx4a65c_add_72be8 16 = .ok (.iload_n 3, 1) := dec_of t_Jx4a65c_add_72be8_ok 12 rfl
theorem dJx4a65c_add_72be8_17 : decode cJx4a65c_add_72be8 17 = .ok (.iconst 1, 1) := dec_of t_Jx4a65c_add_72be8_ok 13 rfl
theorem dJx4a65c_add_72be8_18 : decode cJx4a65c_add_72be8 18 = .ok (.iadd, 1) := dec_of t_Jx4a65c_add_72be8_ok 14 rfl
theorem dJx4a65c_add_72be8_19 : decode cJx4a65c_add_72be8 19 = .ok (.putfield 48, 3) := dec_of t_Jx4a65c_add_72be8_ok 15 rfl
theorem dJx4a65c_add_72be8_22 : decode cJx4a65c_add_72be8 22 = .ok (.return_, 1) := dec_of t_Jx4a65c_add_72be8_ok 16 rfl
def t_Jx4a65c_add_9ea2d : List (Nat × Instr × Nat) := [(0, .aload_n 0, 1), (1, .dup, 1), (2, .getfield 63, 3), (5, .iconst 1, 1), (6, .iadd, 1), (7, .putfield 63, 3), (10, .aload_n 0, 1), (11, .aload_n 1, 1), (12, .aload_n 0, 1), (13, .getfield 9, 3), (16, .aload_n 0, 1), (17, .getfield 48, 3), (20, .invokevirtual 131, 3), (23, .iconst 1, 1), (24, .ireturn, 1)]
theorem t_Jx4a65c_add_9ea2d_ok : dec_ok cJx4a65c_add_9ea2d t_Jx4a65c_add_9ea2d = true := by decide +kernel
theorem dJx4a65c_add_9ea2d_0 : decode cJx4a65c_add_9ea2d 0 = .ok (.aload_n 0, 1) := dec_of t_Jx4a65c_add_9ea2d_ok 0 rfl
theorem dJx4a65c_add_9ea2d_1 : decode cJx4a65c_add_9ea2d 1 = .ok (.dup, 1) := dec_of t_Jx4a65c_add_9ea2d_ok 1 rfl
theorem dJx4a65c_add_9ea2d_2 : decode cJx4a65c_add_9ea2d 2 = .ok (.getfield 63, 3) := dec_of t_Jx4a65c_add_9ea2d_ok 2 rfl
theorem dJx4a65c_add_9ea2d_5 : decode cJx4a65c_add_9ea2d 5 = .ok (.iconst 1, 1) := dec_of t_Jx4a65c_add_9ea2d_ok 3 rfl
theorem dJx4a65c_add_9ea2d_6 : decode cJx4a65c_add_9ea2d 6 = .ok (.iadd, 1) := dec_of t_Jx4a65c_add_9ea2d_ok 4 rfl
theorem dJx4a65c_add_9ea2d_7 : decode cJx4a65c_add_9ea2d 7 = .ok (.putfield 63, 3) := dec_of t_Jx4a65c_add_9ea2d_ok 5 rfl
theorem dJx4a65c_add_9ea2d_10 : decode cJx4a65c_add_9ea2d 10 = .ok (.aload_n 0, 1) := dec_of t_Jx4a65c_add_9ea2d_ok 6 rfl
theorem dJx4a65c_add_9ea2d_11 : decode cJx4a65c_add_9ea2d 11 = .ok (.aload_n 1, 1) := dec_of t_Jx4a65c_add_9ea2d_ok 7 rfl
theorem dJx4a65c_add_9ea2d_12 : decode cJx4a65c_add_9ea2d 12 = .ok (.aload_n 0, 1) := dec_of t_Jx4a65c_add_9ea2d_ok 8 rfl
theorem dJx4a65c_add_9ea2d_13 : decode cJx4a65c_add_9ea2d 13 = .ok (.getfield 9, 3) := dec_of t_Jx4a65c_add_9ea2d_ok 9 rfl
theorem dJx4a65c_add_9ea2d_16 : decode cJx4a65c_add_9ea2d 16 = .ok (.aload_n 0, 1) := dec_of t_Jx4a65c_add_9ea2d_ok 10 rfl
theorem dJx4a65c_add_9ea2d_17 : decode cJx4a65c_add_9ea2d 17 = .ok (.getfield 48, 3) := dec_of t_Jx4a65c_add_9ea2d_ok 11 rfl
theorem dJx4a65c_add_9ea2d_20 : decode cJx4a65c_add_9ea2d 20 = .ok (.invokevirtual 131, 3) := dec_of t_Jx4a65c_add_9ea2d_ok 12 rfl
theorem dJx4a65c_add_9ea2d_23 : decode cJx4a65c_add_9ea2d 23 = .ok (.iconst 1, 1) := dec_of t_Jx4a65c_add_9ea2d_ok 13 rfl
theorem dJx4a65c_add_9ea2d_24 : decode cJx4a65c_add_9ea2d 24 = .ok (.ireturn, 1) := dec_of t_Jx4a65c_add_9ea2d_ok 14 rfl
def t_J7_copyOf_1904c : List (Nat × Instr × Nat) := [(0, .aload_n 0, 1), (1, .iload_n 1, 1), (2, .aload_n 0, 1), (3, .invokevirtual 86, 3), (6, .invokestatic 300, 3), (9, .areturn, 1)]
theorem t_J7_copyOf_1904c_ok : dec_ok cJ7_copyOf_1904c t_J7_copyOf_1904c = true := by decide +kernel
theorem dJ7_copyOf_1904c_0 : decode cJ7_copyOf_1904c 0 = .ok (.aload_n 0, 1) := dec_of t_J7_copyOf_1904c_ok 0 rfl
theorem dJ7_copyOf_1904c_1 : decode cJ7_copyOf_1904c 1 = .ok (.iload_n 1, 1) := dec_of t_J7_copyOf_1904c_ok 1 rfl
theorem dJ7_copyOf_1904c_2 : decode cJ7_copyOf_1904c 2 = .ok (.aload_n 0, 1) := dec_of t_J7_copyOf_1904c_ok 2 rfl
theorem dJ7_copyOf_1904c_3 : decode cJ7_copyOf_1904c 3 = .ok (.invokevirtual 86, 3) := dec_of t_J7_copyOf_1904c_ok 3 rfl
theorem dJ7_copyOf_1904c_6 : decode cJ7_copyOf_1904c 6 = .ok (.invokestatic 300, 3) := dec_of t_J7_copyOf_1904c_ok 4 rfl
theorem dJ7_copyOf_1904c_9 : decode cJ7_copyOf_1904c 9 = .ok (.areturn, 1) := dec_of t_J7_copyOf_1904c_ok 5 rfl
def t_J7_copyOf_6403c : List (Nat × Instr × Nat) := [(0, .aload_n 2, 1), (1, .ldc 110, 2), (3, .if_acmp .ne 10, 3), (6, .iload_n 1, 1), (7, .anewarray 2, 3), (10, .goto 14, 3), (13, .aload_n 2, 1), (14, .invokevirtual 90, 3), (17, .iload_n 1, 1), (18, .invokestatic 95, 3), (21, .checkcast 110, 3), (24, .astore_n 3, 1), (25, .aload_n 0, 1), (26, .iconst 0, 1), (27, .aload_n 3, 1), (28, .iconst 0, 1), (29, .aload_n 0, 1), (30, .arraylength, 1), (31, .iload_n 1, 1), (32, .invokestatic 304, 3), (35, .invokestatic 150, 3), (38, .aload_n 3, 1), (39, .areturn, 1)]
theorem t_J7_copyOf_6403c_ok : dec_ok cJ7_copyOf_6403c t_J7_copyOf_6403c = true := by decide +kernel
theorem dJ7_copyOf_6403c_0 : decode cJ7_copyOf_6403c 0 = .ok (.aload_n 2, 1) := dec_of t_J7_copyOf_6403c_ok 0 rfl
theorem dJ7_copyOf_6403c_1 : decode cJ7_copyOf_6403c 1 = .ok (.ldc 110, 2) := dec_of t_J7_copyOf_6403c_ok 1 rfl
theorem dJ7_copyOf_6403c_3 : decode cJ7_copyOf_6403c 3 = .ok (.if_acmp .ne 10, 3) := dec_of t_J7_copyOf_6403c_ok 2 rfl
theorem dJ7_copyOf_6403c_6 : decode cJ7_copyOf_6403c 6 = .ok (.iload_n 1, 1) := dec_of t_J7_copyOf_6403c_ok 3 rfl
theorem dJ7_copyOf_6403c_7 : decode cJ7_copyOf_6403c 7 = .ok (.anewarray 2, 3) := dec_of t_J7_copyOf_6403c_ok 4 rfl
theorem dJ7_copyOf_6403c_10 : decode cJ7_copyOf_6403c 10 = .ok (.goto 14, 3) := dec_of t_J7_copyOf_6403c_ok 5 rfl
theorem dJ7_copyOf_6403c_13 : decode cJ7_copyOf_6403c 13 = .ok (.aload_n 2, 1) := dec_of t_J7_copyOf_6403c_ok 6 rfl
theorem dJ7_copyOf_6403c_14 : decode cJ7_copyOf_6403c 14 = .ok (.invokevirtual 90, 3) := dec_of t_J7_copyOf_6403c_ok 7 rfl
theorem dJ7_copyOf_6403c_17 : decode cJ7_copyOf_6403c 17 = .ok (.iload_n 1, 1) := dec_of t_J7_copyOf_6403c_ok 8 rfl
theorem dJ7_copyOf_6403c_18 : decode cJ7_copyOf_6403c 18 = .ok (.invokestatic 95, 3) := dec_of t_J7_copyOf_6403c_ok 9 rfl
theorem dJ7_copyOf_6403c_21 : decode cJ7_copyOf_6403c 21 = .ok (.checkcast 110, 3) := dec_of t_J7_copyOf_6403c_ok 10 rfl
theorem dJ7_copyOf_6403c_24 : decode cJ7_copyOf_6403c 24 = .ok (.astore_n 3, 1) := dec_of t_J7_copyOf_6403c_ok 11 rfl
theorem dJ7_copyOf_6403c_25 : decode cJ7_copyOf_6403c 25 = .ok (.aload_n 0, 1) := dec_of t_J7_copyOf_6403c_ok 12 rfl
theorem dJ7_copyOf_6403c_26 : decode cJ7_copyOf_6403c 26 = .ok (.iconst 0, 1) := dec_of t_J7_copyOf_6403c_ok 13 rfl
theorem dJ7_copyOf_6403c_27 : decode cJ7_copyOf_6403c 27 = .ok (.aload_n 3, 1) := dec_of t_J7_copyOf_6403c_ok 14 rfl
theorem dJ7_copyOf_6403c_28 : decode cJ7_copyOf_6403c 28 = .ok (.iconst 0, 1) := dec_of t_J7_copyOf_6403c_ok 15 rfl
theorem dJ7_copyOf_6403c_29 : decode cJ7_copyOf_6403c 29 = .ok (.aload_n 0, 1) := dec_of t_J7_copyOf_6403c_ok 16 rfl
theorem dJ7_copyOf_6403c_30 : decode cJ7_copyOf_6403c 30 = .ok (.arraylength, 1) := dec_of t_J7_copyOf_6403c_ok 17 rfl
theorem dJ7_copyOf_6403c_31 : decode cJ7_copyOf_6403c 31 = .ok (.iload_n 1, 1) := dec_of t_J7_copyOf_6403c_ok 18 rfl
theorem dJ7_copyOf_6403c_32 : decode cJ7_copyOf_6403c 32 = .ok (.invokestatic 304, 3) := dec_of t_J7_copyOf_6403c_ok 19 rfl
theorem dJ7_copyOf_6403c_35 : decode cJ7_copyOf_6403c 35 = .ok (.invokestatic 150, 3) := dec_of t_J7_copyOf_6403c_ok 20 rfl
theorem dJ7_copyOf_6403c_38 : decode cJ7_copyOf_6403c 38 = .ok (.aload_n 3, 1) := dec_of t_J7_copyOf_6403c_ok 21 rfl
theorem dJ7_copyOf_6403c_39 : decode cJ7_copyOf_6403c 39 = .ok (.areturn, 1) := dec_of t_J7_copyOf_6403c_ok 22 rfl
def t_J15_checkIndex_7cf53 : List (Nat × Instr × Nat) := [(0, .iload_n 0, 1), (1, .iload_n 1, 1), (2, .aconst_null, 1), (3, .invokestatic 105, 3), (6, .ireturn, 1)]
theorem t_J15_checkIndex_7cf53_ok : dec_ok cJ15_checkIndex_7cf53 t_J15_checkIndex_7cf53 = true := by decide +kernel
theorem dJ15_checkIndex_7cf53_0 : decode cJ15_checkIndex_7cf53 0 = .ok (.iload_n 0, 1) := dec_of t_J15_checkIndex_7cf53_ok 0 rfl
theorem dJ15_checkIndex_7cf53_1 : decode cJ15_checkIndex_7cf53 1 = .ok (.iload_n 1, 1) := dec_of t_J15_checkIndex_7cf53_ok 1 rfl
theorem dJ15_checkIndex_7cf53_2 : decode cJ15_checkIndex_7cf53 2 = .ok (.aconst_null, 1) := dec_of t_J15_checkIndex_7cf53_ok 2 rfl
theorem dJ15_checkIndex_7cf53_3 : decode cJ15_checkIndex_7cf53 3 = .ok (.invokestatic 105, 3) := dec_of t_J15_checkIndex_7cf53_ok 3 rfl
theorem dJ15_checkIndex_7cf53_6 : decode cJ15_checkIndex_7cf53 6 = .ok (.ireturn, 1) := dec_of t_J15_checkIndex_7cf53_ok 4 rfl
def t_J8_newLength_cabcc : List (Nat × Instr × Nat) := [(0, .iload_n 0, 1), (1, .iload_n 1, 1), (2, .iload_n 2, 1), (3, .invokestatic 194, 3), (6, .iadd, 1), (7, .istore_n 3, 1), (8, .iconst 0, 1), (9, .iload_n 3, 1), (10, .if_icmp .ge 11, 3), (13, .iload_n 3, 1), (14, .ldc 200, 2), (16, .if_icmp .gt 5, 3), (19, .iload_n 3, 1), (20, .ireturn, 1), (21, .iload_n 0, 1), (22, .iload_n 1, 1), (23, .invokestatic 201, 3), (26, .ireturn, 1)]
theorem t_J8_newLength_cabcc_ok : dec_ok cJ8_newLength_cabcc t_J8_newLength_cabcc = true := by decide +kernel
theorem dJ8_newLength_cabcc_0 : decode cJ8_newLength_cabcc 0 = .ok (.iload_n 0, 1) := dec_of t_J8_newLength_cabcc_ok 0 rfl
theorem dJ8_newLength_cabcc_1 : decode cJ8_newLength_cabcc 1 = .ok (.iload_n 1, 1) := dec_of t_J8_newLength_cabcc_ok 1 rfl
theorem dJ8_newLength_cabcc_2 : decode cJ8_newLength_cabcc 2 = .ok (.iload_n 2, 1) := dec_of t_J8_newLength_cabcc_ok 2 rfl
theorem dJ8_newLength_cabcc_3 : decode cJ8_newLength_cabcc 3 = .ok (.invokestatic 194, 3) := dec_of t_J8_newLength_cabcc_ok 3 rfl
theorem dJ8_newLength_cabcc_6 : decode cJ8_newLength_cabcc 6 = .ok (.iadd, 1) := dec_of t_J8_newLength_cabcc_ok 4 rfl
theorem dJ8_newLength_cabcc_7 : decode cJ8_newLength_cabcc 7 = .ok (.istore_n 3, 1) := dec_of t_J8_newLength_cabcc_ok 5 rfl
theorem dJ8_newLength_cabcc_8 : decode cJ8_newLength_cabcc 8 = .ok (.iconst 0, 1) := dec_of t_J8_newLength_cabcc_ok 6 rfl
theorem dJ8_newLength_cabcc_9 : decode cJ8_newLength_cabcc 9 = .ok (.iload_n 3, 1) := dec_of t_J8_newLength_cabcc_ok 7 rfl
theorem dJ8_newLength_cabcc_10 : decode cJ8_newLength_cabcc 10 = .ok (.if_icmp .ge 11, 3) := dec_of t_J8_newLength_cabcc_ok 8 rfl
theorem dJ8_newLength_cabcc_13 : decode cJ8_newLength_cabcc 13 = .ok (.iload_n 3, 1) := dec_of t_J8_newLength_cabcc_ok 9 rfl
theorem dJ8_newLength_cabcc_14 : decode cJ8_newLength_cabcc 14 = .ok (.ldc 200, 2) := dec_of t_J8_newLength_cabcc_ok 10 rfl
theorem dJ8_newLength_cabcc_16 : decode cJ8_newLength_cabcc 16 = .ok (.if_icmp .gt 5, 3) := dec_of t_J8_newLength_cabcc_ok 11 rfl
theorem dJ8_newLength_cabcc_19 : decode cJ8_newLength_cabcc 19 = .ok (.iload_n 3, 1) := dec_of t_J8_newLength_cabcc_ok 12 rfl
theorem dJ8_newLength_cabcc_20 : decode cJ8_newLength_cabcc 20 = .ok (.ireturn, 1) := dec_of t_J8_newLength_cabcc_ok 13 rfl
theorem dJ8_newLength_cabcc_21 : decode cJ8_newLength_cabcc 21 = .ok (.iload_n 0, 1) := dec_of t_J8_newLength_cabcc_ok 14 rfl
theorem dJ8_newLength_cabcc_22 : decode cJ8_newLength_cabcc 22 = .ok (.iload_n 1, 1) := dec_of t_J8_newLength_cabcc_ok 15 rfl
theorem dJ8_newLength_cabcc_23 : decode cJ8_newLength_cabcc 23 = .ok (.invokestatic 201, 3) := dec_of t_J8_newLength_cabcc_ok 16 rfl
theorem dJ8_newLength_cabcc_26 : decode cJ8_newLength_cabcc 26 = .ok (.ireturn, 1) := dec_of t_J8_newLength_cabcc_ok 17 rfl
def t_J8_hugeLength_7cf53 : List (Nat × Instr × Nat) := [(0, .iload_n 0, 1), (1, .iload_n 1, 1), (2, .iadd, 1), (3, .istore_n 2, 1), (4, .iload_n 2, 1), (5, .ifCond .ge 44, 3), (8, .new 204, 3), (11, .dup, 1), (12, .new 89, 3), (15, .dup, 1), (16, .invokespecial 91, 3), (19, .ldc 206, 2), (21, .invokevirtual 94, 3), (24, .iload_n 0, 1), (25, .invokevirtual 98, 3), (28, .ldc 208, 2), (30, .invokevirtual 94, 3), (33, .iload_n 1, 1), (34, .invokevirtual 98, 3), (37, .ldc 210, 2), (39, .invokevirtual 94, 3), (42, .invokevirtual 101, 3), (45, .invokespecial 212, 3), (48, .athrow, 1), (49, .iload_n 2, 1), (50, .ldc 200, 2), (52, .if_icmp .gt 6, 3), (55, .ldc 200, 2), (57, .ireturn, 1), (58, .iload_n 2, 1), (59, .ireturn, 1)]
theorem t_J8_hugeLength_7cf53_ok : dec_ok cJ8_hugeLength_7cf53 t_J8_hugeLength_7cf53 = true := by decide +kernel
theorem dJ8_hugeLength_7cf53_0 : decode cJ8_hugeLength_7cf53 0 = .ok (.iload_n 0, 1) := dec_of t_J8_hugeLength_7cf53_ok 0 rfl
theorem dJ8_hugeLength_7cf53_1 : decode cJ8_hugeLength_7cf53 1 = .ok (.iload_n 1, 1) := dec_of t_J8_hugeLength_7cf53_ok 1 rfl
theorem dJ8_hugeLength_7cf53_2 : decode cJ8_hugeLength_7cf53 2 = .ok (.iadd, 1) := dec_of t_J8_hugeLength_7cf53_ok 2 rfl
theorem dJ8_hugeLength_7cf53_3 : decode cJ8_hugeLength_7cf53 3 = .ok (.istore_n 2, 1) := dec_of t_J8_hugeLength_7cf53_ok 3 rfl
theorem dJ8_hugeLength_7cf53_4 : decode cJ8_hugeLength_7cf53 4 = .ok (.iload_n 2, 1) := dec_of t_J8_hugeLength_7cf53_ok 4 rfl
theorem dJ8_hugeLength_7cf53_5 : decode cJ8_hugeLength_7cf53 5 = .ok (.ifCond .ge 44, 3) := dec_of t_J8_hugeLength_7cf53_ok 5 rfl
theorem dJ8_hugeLength_7cf53_8 : decode cJ8_hugeLength_7cf53 8 = .ok (.new 204, 3) := dec_of t_J8_hugeLength_7cf53_ok 6 rfl
theorem dJ8_hugeLength_7cf53_11 : decode cJ8_hugeLength_7cf53 11 = .ok (.dup, 1) := dec_of t_J8_hugeLength_7cf53_ok 7 rfl
theorem dJ8_hugeLength_7cf53_12 : decode cJ8_hugeLength_7cf53 12 = .ok (.new 89, 3) := dec_of t_J8_hugeLength_7cf53_ok 8 rfl
theorem dJ8_hugeLength_7cf53_15 : decode cJ8_hugeLength_7cf53 15 = .ok (.dup, 1) := dec_of t_J8_hugeLength_7cf53_ok 9 rfl
theorem dJ8_hugeLength_7cf53_16 : decode cJ8_hugeLength_7cf53 16 = .ok (.invokespecial 91, 3) := dec_of t_J8_hugeLength_7cf53_ok 10 rfl
theorem dJ8_hugeLength_7cf53_19 : decode cJ8_hugeLength_7cf53 19 = .ok (.ldc 206, 2) := dec_of t_J8_hugeLength_7cf53_ok 11 rfl
theorem dJ8_hugeLength_7cf53_21 : decode cJ8_hugeLength_7cf53 21 = .ok (.invokevirtual 94, 3) := dec_of t_J8_hugeLength_7cf53_ok 12 rfl
theorem dJ8_hugeLength_7cf53_24 : decode cJ8_hugeLength_7cf53 24 = .ok (.iload_n 0, 1) := dec_of t_J8_hugeLength_7cf53_ok 13 rfl
theorem dJ8_hugeLength_7cf53_25 : decode cJ8_hugeLength_7cf53 25 = .ok (.invokevirtual 98, 3) := dec_of t_J8_hugeLength_7cf53_ok 14 rfl
theorem dJ8_hugeLength_7cf53_28 : decode cJ8_hugeLength_7cf53 28 = .ok (.ldc 208, 2) := dec_of t_J8_hugeLength_7cf53_ok 15 rfl
theorem dJ8_hugeLength_7cf53_30 : decode cJ8_hugeLength_7cf53 30 = .ok (.invokevirtual 94, 3) := dec_of t_J8_hugeLength_7cf53_ok 16 rfl
theorem dJ8_hugeLength_7cf53_33 : decode cJ8_hugeLength_7cf53 33 = .ok (.iload_n 1, 1) := dec_of t_J8_hugeLength_7cf53_ok 17 rfl
theorem dJ8_hugeLength_7cf53_34 : decode cJ8_hugeLength_7cf53 34 = .ok (.invokevirtual 98, 3) := dec_of t_J8_hugeLength_7cf53_ok 18 rfl
theorem dJ8_hugeLength_7cf53_37 : decode cJ8_hugeLength_7cf53 37 = .ok (.ldc 210, 2) := dec_of t_J8_hugeLength_7cf53_ok 19 rfl
theorem dJ8_hugeLength_7cf53_39 : decode cJ8_hugeLength_7cf53 39 = .ok (.invokevirtual 94, 3) := dec_of t_J8_hugeLength_7cf53_ok 20 rfl
theorem dJ8_hugeLength_7cf53_42 : decode cJ8_hugeLength_7cf53 42 = .ok (.invokevirtual 101, 3) := dec_of t_J8_hugeLength_7cf53_ok 21 rfl
theorem dJ8_hugeLength_7cf53_45 : decode cJ8_hugeLength_7cf53 45 = .ok (.invokespecial 212, 3) := dec_of t_J8_hugeLength_7cf53_ok 22 rfl
theorem dJ8_hugeLength_7cf53_48 : decode cJ8_hugeLength_7cf53 48 = .ok (.athrow, 1) := dec_of t_J8_hugeLength_7cf53_ok 23 rfl
theorem dJ8_hugeLength_7cf53_49 : decode cJ8_hugeLength_7cf53 49 = .ok (.iload_n 2, 1) := dec_of t_J8_hugeLength_7cf53_ok 24 rfl
theorem dJ8_hugeLength_7cf53_50 : decode cJ8_hugeLength_7cf53 50 = .ok (.ldc 200, 2) := dec_of t_J8_hugeLength_7cf53_ok 25 rfl
theorem dJ8_hugeLength_7cf53_52 : decode cJ8_hugeLength_7cf53 52 = .ok (.if_icmp .gt 6, 3) := dec_of t_J8_hugeLength_7cf53_ok 26 rfl
theorem dJ8_hugeLength_7cf53_55 : decode cJ8_hugeLength_7cf53 55 = .ok (.ldc 200, 2) := dec_of t_J8_hugeLength_7cf53_ok 27 rfl
theorem dJ8_hugeLength_7cf53_57 : decode cJ8_hugeLength_7cf53 57 = .ok (.ireturn, 1) := dec_of t_J8_hugeLength_7cf53_ok 28 rfl
theorem dJ8_hugeLength_7cf53_58 : decode cJ8_hugeLength_7cf53 58 = .ok (.iload_n 2, 1) := dec_of t_J8_hugeLength_7cf53_ok 29 rfl
theorem dJ8_hugeLength_7cf53_59 : decode cJ8_hugeLength_7cf53 59 = .ok (.ireturn, 1) := dec_of t_J8_hugeLength_7cf53_ok 30 rfl
def t_J3_checkIndex_8e157 : List (Nat × Instr × Nat) := [(0, .iload_n 0, 1), (1, .ifCond .lt 8, 3), (4, .iload_n 0, 1), (5, .iload_n 1, 1), (6, .if_icmp .lt 10, 3), (9, .aload_n 2, 1), (10, .iload_n 0, 1), (11, .iload_n 1, 1), (12, .invokestatic 95, 3), (15, .athrow, 1), (16, .iload_n 0, 1), (17, .ireturn, 1)]
theorem t_J3_checkIndex_8e157_ok : dec_ok cJ3_checkIndex_8e157 t_J3_checkIndex_8e157 = true := by decide +kernel
theorem dJ3_checkIndex_8e157_0 : decode cJ3_checkIndex_8e157 0 = .ok (.iload_n 0, 1) := dec_of t_J3_checkIndex_8e157_ok 0 rfl
theorem dJ3_checkIndex_8e157_1 : decode cJ3_checkIndex_8e157 1 = .ok (.ifCond .lt 8, 3) := dec_of t_J3_checkIndex_8e157_ok 1 rfl
theorem dJ3_checkIndex_8e157_4 : decode cJ3_checkIndex_8e157 4 = .ok (.iload_n 0, 1) := dec_of t_J3_checkIndex_8e157_ok 2 rfl
theorem dJ3_checkIndex_8e157_5 : decode cJ3_checkIndex_8e157 5 = .ok (.iload_n 1, 1) := dec_of t_J3_checkIndex_8e157_ok 3 rfl
theorem dJ3_checkIndex_8e157_6 : decode cJ3_checkIndex_8e157 6 = .ok (.if_icmp .lt 10, 3) := dec_of t_J3_checkIndex_8e157_ok 4 rfl
theorem dJ3_checkIndex_8e157_9 : decode cJ3_checkIndex_8e157 9 = .ok (.aload_n 2, 1) := dec_of t_J3_checkIndex_8e157_ok 5 rfl
theorem dJ3_checkIndex_8e157_10 : decode cJ3_checkIndex_8e157 10 = .ok (.iload_n 0, 1) := dec_of t_J3_checkIndex_8e157_ok 6 rfl
theorem dJ3_checkIndex_8e157_11 : decode cJ3_checkIndex_8e157 11 = .ok (.iload_n 1, 1) := dec_of t_J3_checkIndex_8e157_ok 7 rfl
theorem dJ3_checkIndex_8e157_12 : decode cJ3_checkIndex_8e157 12 = .ok (.invokestatic 95, 3) := dec_of t_J3_checkIndex_8e157_ok 8 rfl
theorem dJ3_checkIndex_8e157_15 : decode cJ3_checkIndex_8e157 15 = .ok (.athrow, 1) := dec_of t_J3_checkIndex_8e157_ok 9 rfl
theorem dJ3_checkIndex_8e157_16 : decode cJ3_checkIndex_8e157 16 = .ok (.iload_n 0, 1) := dec_of t_J3_checkIndex_8e157_ok 10 rfl
theorem dJ3_checkIndex_8e157_17 : decode cJ3_checkIndex_8e157 17 = .ok (.ireturn, 1) := dec_of t_J3_checkIndex_8e157_ok 11 rfl

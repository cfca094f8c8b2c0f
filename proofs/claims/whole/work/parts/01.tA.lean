def dec_ok (c : ByteArray) (t : List (Nat × Instr × Nat)) : Bool := t.all (fun q => decide (decode c q.1 = .ok (q.2.1, q.2.2)))
theorem dec_of {c : ByteArray} {t : List (Nat × Instr × Nat)} (h : dec_ok c t = true) (i : Nat) {pc n : Nat} {ins : Instr} (hi : t[i]? = some (pc, ins, n)) : decode c pc = .ok (ins, n) := by
  have h1 := List.all_eq_true.mp h (pc, ins, n) (List.mem_of_getElem? hi)
  dsimp only at h1
  exact of_decide_eq_true h1
def t_X0_init : List (Nat × Instr × Nat) := [(0, .aload_n 0, 1), (1, .invokespecial 3, 3), (4, .aload_n 0, 1), (5, .new 9, 3), (8, .dup, 1), (9, .invokespecial 11, 3), (12, .putfield 12, 3), (15, .aload_n 0, 1), (16, .new 9, 3), (19, .dup, 1), (20, .invokespecial 11, 3), (23, .putfield 18, 3), (26, .aload_n 0, 1), (27, .new 21, 3), (30, .dup, 1), (31, .sipush 160, 3), (34, .invokespecial 23, 3), (37, .putfield 26, 3), (40, .return_, 1)]
theorem t_X0_init_ok : dec_ok cX0_init t_X0_init = true := by decide +kernel
theorem dX0_init_0 : decode cX0_init 0 = .ok (.aload_n 0, 1) := dec_of t_X0_init_ok 0 rfl
theorem dX0_init_1 : decode cX0_init 1 = .ok (.invokespecial 3, 3) := dec_of t_X0_init_ok 1 rfl
theorem dX0_init_4 : decode cX0_init 4 = .ok (.aload_n 0, 1) := dec_of t_X0_init_ok 2 rfl
theorem dX0_init_5 : decode cX0_init 5 = .ok (.new 9, 3) := dec_of t_X0_init_ok 3 rfl
theorem dX0_init_8 : decode cX0_init 8 = .ok (.dup, 1) := dec_of t_X0_init_ok 4 rfl
theorem dX0_init_9 : decode cX0_init 9 = .ok (.invokespecial 11, 3) := dec_of t_X0_init_ok 5 rfl
theorem dX0_init_12 : decode cX0_init 12 = .ok (.putfield 12, 3) := dec_of t_X0_init_ok 6 rfl
theorem dX0_init_15 : decode cX0_init 15 = .ok (.aload_n 0, 1) := dec_of t_X0_init_ok 7 rfl
theorem dX0_init_16 : decode cX0_init 16 = .ok (.new 9, 3) := dec_of t_X0_init_ok 8 rfl
theorem dX0_init_19 : decode cX0_init 19 = .ok (.dup, 1) := dec_of t_X0_init_ok 9 rfl
theorem dX0_init_20 : decode cX0_init 20 = .ok (.invokespecial 11, 3) := dec_of t_X0_init_ok 10 rfl
theorem dX0_init_23 : decode cX0_init 23 = .ok (.putfield 18, 3) := dec_of t_X0_init_ok 11 rfl
theorem dX0_init_26 : decode cX0_init 26 = .ok (.aload_n 0, 1) := dec_of t_X0_init_ok 12 rfl
theorem dX0_init_27 : decode cX0_init 27 = .ok (.new 21, 3) := dec_of t_X0_init_ok 13 rfl
theorem dX0_init_30 : decode cX0_init 30 = .ok (.dup, 1) := dec_of t_X0_init_ok 14 rfl
theorem dX0_init_31 : decode cX0_init 31 = .ok (.sipush 160, 3) := dec_of t_X0_init_ok 15 rfl
theorem dX0_init_34 : decode cX0_init 34 = .ok (.invokespecial 23, 3) := dec_of t_X0_init_ok 16 rfl
theorem dX0_init_37 : decode cX0_init 37 = .ok (.putfield 26, 3) := dec_of t_X0_init_ok 17 rfl
theorem dX0_init_40 : decode cX0_init 40 = .ok (.return_, 1) := dec_of t_X0_init_ok 18 rfl
def t_X0_look : List (Nat × Instr × Nat) := [(0, .aload_n 0, 1), (1, .getfield 26, 3), (4, .aload_n 1, 1), (5, .invokevirtual 30, 3), (8, .invokevirtual 36, 3), (11, .iconst 0, 1), (12, .istore_n 2, 1), (13, .iload_n 2, 1), (14, .aload_n 0, 1), (15, .getfield 12, 3), (18, .invokevirtual 39, 3), (21, .if_icmp .ge 56, 3), (24, .aload_n 0, 1), (25, .getfield 12, 3), (28, .iload_n 2, 1), (29, .invokevirtual 42, 3), (32, .checkcast 46, 3), (35, .astore_n 3, 1), (36, .iconst 0, 1), (37, .istore 4, 2), (39, .iload 4, 2), (41, .aload_n 1, 1), (42, .invokevirtual 30, 3), (45, .if_icmp .ge 26, 3), (48, .aload_n 3, 1), (49, .aload_n 1, 1), (50, .iload 4, 2), (52, .invokevirtual 48, 3), (55, .ifCond .eq 10, 3), (58, .aload_n 0, 1), (59, .iload 4, 2), (61, .iload_n 2, 1), (62, .invokevirtual 52, 3), (65, .iinc 4 1, 3), (68, .goto (-29), 3), (71, .iinc 2 1, 3), (74, .goto (-61), 3), (77, .iconst 0, 1), (78, .istore_n 2, 1), (79, .iload_n 2, 1), (80, .aload_n 0, 1), (81, .getfield 18, 3), (84, .invokevirtual 39, 3), (87, .if_icmp .ge 29, 3), (90, .aload_n 0, 1), (91, .aload_n 1, 1), (92, .bipush 12, 2), (94, .iload_n 2, 1), (95, .iadd, 1), (96, .aload_n 0, 1), (97, .getfield 18, 3), (100, .iload_n 2, 1), (101, .invokevirtual 42, 3), (104, .checkcast 56, 3), (107, .invokevirtual 58, 3), (110, .iinc 2 1, 3), (113, .goto (-34), 3), (116, .return_, 1)]
theorem t_X0_look_ok : dec_ok cX0_look t_X0_look = true := by decide +kernel
theorem dX0_look_0 : decode cX0_look 0 = .ok (.aload_n 0, 1) := dec_of t_X0_look_ok 0 rfl
theorem dX0_look_1 : decode cX0_look 1 = .ok (.getfield 26, 3) := dec_of t_X0_look_ok 1 rfl
theorem dX0_look_4 : decode cX0_look 4 = .ok (.aload_n 1, 1) := dec_of t_X0_look_ok 2 rfl
theorem dX0_look_5 : decode cX0_look 5 = .ok (.invokevirtual 30, 3) := dec_of t_X0_look_ok 3 rfl
theorem dX0_look_8 : decode cX0_look 8 = .ok (.invokevirtual 36, 3) := dec_of t_X0_look_ok 4 rfl
theorem dX0_look_11 : decode cX0_look 11 = .ok (.iconst 0, 1) := dec_of t_X0_look_ok 5 rfl
theorem dX0_look_12 : decode cX0_look 12 = .ok (.istore_n 2, 1) := dec_of t_X0_look_ok 6 rfl
theorem dX0_look_13 : decode cX0_look 13 = .ok (.iload_n 2, 1) := dec_of t_X0_look_ok 7 rfl
theorem dX0_look_14 : decode cX0_look 14 = .ok (.aload_n 0, 1) := dec_of t_X0_look_ok 8 rfl
theorem dX0_look_15 : decode cX0_look 15 = .ok (.getfield 12, 3) := dec_of t_X0_look_ok 9 rfl
theorem dX0_look_18 : decode cX0_look 18 = .ok (.invokevirtual 39, 3) := dec_of t_X0_look_ok 10 rfl
theorem dX0_look_21 : decode cX0_look 21 = .ok (.if_icmp .ge 56, 3) := dec_of t_X0_look_ok 11 rfl
theorem dX0_look_24 : decode cX0_look 24 = .ok (.aload_n 0, 1) := dec_of t_X0_look_ok 12 rfl
theorem dX0_look_25 : decode cX0_look 25 = .ok (.getfield 12, 3) := dec_of t_X0_look_ok 13 rfl
theorem dX0_look_28 : decode cX0_look 28 = .ok (.iload_n 2, 1) := dec_of t_X0_look_ok 14 rfl
theorem dX0_look_29 : decode cX0_look 29 = .ok (.invokevirtual 42, 3) := dec_of t_X0_look_ok 15 rfl
theorem dX0_look_32 : decode cX0_look 32 = .ok (.checkcast 46, 3) := dec_of t_X0_look_ok 16 rfl
theorem dX0_look_35 : decode cX0_look 35 = .ok (.astore_n 3, 1) := dec_of t_X0_look_ok 17 rfl
theorem dX0_look_36 : decode cX0_look 36 = .ok (.iconst 0, 1) := dec_of t_X0_look_ok 18 rfl
theorem dX0_look_37 : decode cX0_look 37 = .ok (.istore 4, 2) := dec_of t_X0_look_ok 19 rfl
theorem dX0_look_39 : decode cX0_look 39 = .ok (.iload 4, 2) := dec_of t_X0_look_ok 20 rfl
theorem dX0_look_41 : decode cX0_look 41 = .ok (.aload_n 1, 1) := dec_of t_X0_look_ok 21 rfl
theorem dX0_look_42 : decode cX0_look 42 = .ok (.invokevirtual 30, 3) := dec_of t_X0_look_ok 22 rfl
theorem dX0_look_45 : decode cX0_look 45 = .ok (.if_icmp .ge 26, 3) := dec_of t_X0_look_ok 23 rfl
theorem dX0_look_48 : decode cX0_look 48 = .ok (.aload_n 3, 1) := dec_of t_X0_look_ok 24 rfl
theorem dX0_look_49 : decode cX0_look 49 = .ok (.aload_n 1, 1) := dec_of t_X0_look_ok 25 rfl
theorem dX0_look_50 : decode cX0_look 50 = .ok (.iload 4, 2) := dec_of t_X0_look_ok 26 rfl
theorem dX0_look_52 : decode cX0_look 52 = .ok (.invokevirtual 48, 3) := dec_of t_X0_look_ok 27 rfl
theorem dX0_look_55 : decode cX0_look 55 = .ok (.ifCond .eq 10, 3) := dec_of t_X0_look_ok 28 rfl
theorem dX0_look_58 : decode cX0_look 58 = .ok (.aload_n 0, 1) := dec_of t_X0_look_ok 29 rfl
theorem dX0_look_59 : decode cX0_look 59 = .ok (.iload 4, 2) := dec_of t_X0_look_ok 30 rfl
theorem dX0_look_61 : decode cX0_look 61 = .ok (.iload_n 2, 1) := dec_of t_X0_look_ok 31 rfl
theorem dX0_look_62 : decode cX0_look 62 = .ok (.invokevirtual 52, 3) := dec_of t_X0_look_ok 32 rfl
theorem dX0_look_65 : decode cX0_look 65 = .ok (.iinc 4 1, 3) := dec_of t_X0_look_ok 33 rfl
theorem dX0_look_68 : decode cX0_look 68 = .ok (.goto (-29), 3) := dec_of t_X0_look_ok 34 rfl
theorem dX0_look_71 : decode cX0_look 71 = .ok (.iinc 2 1, 3) := dec_of t_X0_look_ok 35 rfl
theorem dX0_look_74 : decode cX0_look 74 = .ok (.goto (-61), 3) := dec_of t_X0_look_ok 36 rfl
theorem dX0_look_77 : decode cX0_look 77 = .ok (.iconst 0, 1) := dec_of t_X0_look_ok 37 rfl
theorem dX0_look_78 : decode cX0_look 78 = .ok (.istore_n 2, 1) := dec_of t_X0_look_ok 38 rfl
theorem dX0_look_79 : decode cX0_look 79 = .ok (.iload_n 2, 1) := dec_of t_X0_look_ok 39 rfl
theorem dX0_look_80 : decode cX0_look 80 = .ok (.aload_n 0, 1) := dec_of t_X0_look_ok 40 rfl
theorem dX0_look_81 : decode cX0_look 81 = .ok (.getfield 18, 3) := dec_of t_X0_look_ok 41 rfl
theorem dX0_look_84 : decode cX0_look 84 = .ok (.invokevirtual 39, 3) := dec_of t_X0_look_ok 42 rfl
theorem dX0_look_87 : decode cX0_look 87 = .ok (.if_icmp .ge 29, 3) := dec_of t_X0_look_ok 43 rfl
theorem dX0_look_90 : decode cX0_look 90 = .ok (.aload_n 0, 1) := dec_of t_X0_look_ok 44 rfl
theorem dX0_look_91 : decode cX0_look 91 = .ok (.aload_n 1, 1) := dec_of t_X0_look_ok 45 rfl
theorem dX0_look_92 : decode cX0_look 92 = .ok (.bipush 12, 2) := dec_of t_X0_look_ok 46 rfl
theorem dX0_look_94 : decode cX0_look 94 = .ok (.iload_n 2, 1) := dec_of t_X0_look_ok 47 rfl
theorem dX0_look_95 : decode cX0_look 95 = .ok (.iadd, 1) := dec_of t_X0_look_ok 48 rfl
theorem dX0_look_96 : decode cX0_look 96 = .ok (.aload_n 0, 1) := dec_of t_X0_look_ok 49 rfl
theorem dX0_look_97 : decode cX0_look 97 = .ok (.getfield 18, 3) := dec_of t_X0_look_ok 50 rfl
theorem dX0_look_100 : decode cX0_look 100 = .ok (.iload_n 2, 1) := dec_of t_X0_look_ok 51 rfl
theorem dX0_look_101 : decode cX0_look 101 = .ok (.invokevirtual 42, 3) := dec_of t_X0_look_ok 52 rfl
theorem dX0_look_104 : decode cX0_look 104 = .ok (.checkcast 56, 3) := dec_of t_X0_look_ok 53 rfl
theorem dX0_look_107 : decode cX0_look 107 = .ok (.invokevirtual 58, 3) := dec_of t_X0_look_ok 54 rfl
theorem dX0_look_110 : decode cX0_look 110 = .ok (.iinc 2 1, 3) := dec_of t_X0_look_ok 55 rfl
theorem dX0_look_113 : decode cX0_look 113 = .ok (.goto (-34), 3) := dec_of t_X0_look_ok 56 rfl
theorem dX0_look_116 : decode cX0_look 116 = .ok (.return_, 1) := dec_of t_X0_look_ok 57 rfl
def t_X0_addHit : List (Nat × Instr × Nat) := [(0, .aload_n 0, 1), (1, .getfield 26, 3), (4, .iload_n 1, 1), (5, .aload_n 0, 1), (6, .getfield 26, 3), (9, .iload_n 1, 1), (10, .invokevirtual 62, 3), (13, .iconst 1, 1), (14, .iload_n 2, 1), (15, .ishl, 1), (16, .ior, 1), (17, .invokevirtual 65, 3), (20, .return_, 1)]
theorem t_X0_addHit_ok : dec_ok cX0_addHit t_X0_addHit = true := by decide +kernel
theorem dX0_addHit_0 : decode cX0_addHit 0 = .ok (.aload_n 0, 1) := dec_of t_X0_addHit_ok 0 rfl
theorem dX0_addHit_1 : decode cX0_addHit 1 = .ok (.getfield 26, 3) := dec_of t_X0_addHit_ok 1 rfl
theorem dX0_addHit_4 : decode cX0_addHit 4 = .ok (.iload_n 1, 1) := dec_of t_X0_addHit_ok 2 rfl
theorem dX0_addHit_5 : decode cX0_addHit 5 = .ok (.aload_n 0, 1) := dec_of t_X0_addHit_ok 3 rfl
theorem dX0_addHit_6 : decode cX0_addHit 6 = .ok (.getfield 26, 3) := dec_of t_X0_addHit_ok 4 rfl
theorem dX0_addHit_9 : decode cX0_addHit 9 = .ok (.iload_n 1, 1) := dec_of t_X0_addHit_ok 5 rfl
theorem dX0_addHit_10 : decode cX0_addHit 10 = .ok (.invokevirtual 62, 3) := dec_of t_X0_addHit_ok 6 rfl
theorem dX0_addHit_13 : decode cX0_addHit 13 = .ok (.iconst 1, 1) := dec_of t_X0_addHit_ok 7 rfl
theorem dX0_addHit_14 : decode cX0_addHit 14 = .ok (.iload_n 2, 1) := dec_of t_X0_addHit_ok 8 rfl
theorem dX0_addHit_15 : decode cX0_addHit 15 = .ok (.ishl, 1) := dec_of t_X0_addHit_ok 9 rfl
theorem dX0_addHit_16 : decode cX0_addHit 16 = .ok (.ior, 1) := dec_of t_X0_addHit_ok 10 rfl
theorem dX0_addHit_17 : decode cX0_addHit 17 = .ok (.invokevirtual 65, 3) := dec_of t_X0_addHit_ok 11 rfl
theorem dX0_addHit_20 : decode cX0_addHit 20 = .ok (.return_, 1) := dec_of t_X0_addHit_ok 12 rfl
def t_X0_lookForPair : List (Nat × Instr × Nat) := [(0, .aconst_null, 1), (1, .astore 4, 2), (3, .iconst 0, 1), (4, .istore 5, 2), (6, .iload 5, 2), (8, .aload_n 1, 1), (9, .invokevirtual 30, 3), (12, .if_icmp .ge 88, 3), (15, .aload_n 1, 1), (16, .iload 5, 2), (18, .invokevirtual 68, 3), (21, .ifCond .eq 6, 3), (24, .goto 70, 3), (27, .aload 4, 2), (29, .ifnull 24, 3), (32, .aload_n 1, 1), (33, .aload 4, 2), (35, .iload 5, 2), (37, .invokevirtual 72, 3), (40, .ifCond .eq 54, 3), (43, .aload_n 0, 1), (44, .iload 5, 2), (46, .iload_n 2, 1), (47, .invokevirtual 52, 3), (50, .goto 44, 3), (53, .aload_n 1, 1), (54, .aload_n 3, 1), (55, .getfield 76, 3), (58, .iload 5, 2), (60, .invokevirtual 72, 3), (63, .ifCond .eq 12, 3), (66, .aload_n 3, 1), (67, .getfield 79, 3), (70, .astore 4, 2), (72, .goto 22, 3), (75, .aload_n 1, 1), (76, .aload_n 3, 1), (77, .getfield 79, 3), (80, .iload 5, 2), (82, .invokevirtual 72, 3), (85, .ifCond .eq 9, 3), (88, .aload_n 3, 1), (89, .getfield 76, 3), (92, .astore 4, 2), (94, .iinc 5 1, 3), (97, .goto (-91), 3), (100, .return_, 1)]
theorem t_X0_lookForPair_ok : dec_ok cX0_lookForPair t_X0_lookForPair = true := by decide +kernel
theorem dX0_lookForPair_0 : decode cX0_lookForPair 0 = .ok (.aconst_null, 1) := dec_of t_X0_lookForPair_ok 0 rfl
theorem dX0_lookForPair_1 : decode cX0_lookForPair 1 = .ok (.astore 4, 2) := dec_of t_X0_lookForPair_ok 1 rfl
theorem dX0_lookForPair_3 : decode cX0_lookForPair 3 = .ok (.iconst 0, 1) := dec_of t_X0_lookForPair_ok 2 rfl
theorem dX0_lookForPair_4 : decode cX0_lookForPair 4 = .ok (.istore 5, 2) := dec_of t_X0_lookForPair_ok 3 rfl
theorem dX0_lookForPair_6 : decode cX0_lookForPair 6 = .ok (.iload 5, 2) := dec_of t_X0_lookForPair_ok 4 rfl
theorem dX0_lookForPair_8 : decode cX0_lookForPair 8 = .ok (.aload_n 1, 1) := dec_of t_X0_lookForPair_ok 5 rfl
theorem dX0_lookForPair_9 : decode cX0_lookForPair 9 = .ok (.invokevirtual 30, 3) := dec_of t_X0_lookForPair_ok 6 rfl
theorem dX0_lookForPair_12 : decode cX0_lookForPair 12 = .ok (.if_icmp .ge 88, 3) := dec_of t_X0_lookForPair_ok 7 rfl
theorem dX0_lookForPair_15 : decode cX0_lookForPair 15 = .ok (.aload_n 1, 1) := dec_of t_X0_lookForPair_ok 8 rfl
theorem dX0_lookForPair_16 : decode cX0_lookForPair 16 = .ok (.iload 5, 2) := dec_of t_X0_lookForPair_ok 9 rfl
theorem dX0_lookForPair_18 : decode cX0_lookForPair 18 = .ok (.invokevirtual 68, 3) := dec_of t_X0_lookForPair_ok 10 rfl
theorem dX0_lookForPair_21 : decode cX0_lookForPair 21 = .ok (.ifCond .eq 6, 3) := dec_of t_X0_lookForPair_ok 11 rfl
theorem dX0_lookForPair_24 : decode cX0_lookForPair 24 = .ok (.goto 70, 3) := dec_of t_X0_lookForPair_ok 12 rfl
theorem dX0_lookForPair_27 : decode cX0_lookForPair 27 = .ok (.aload 4, 2) := dec_of t_X0_lookForPair_ok 13 rfl
theorem dX0_lookForPair_29 : decode cX0_lookForPair 29 = .ok (.ifnull 24, 3) := dec_of t_X0_lookForPair_ok 14 rfl
theorem dX0_lookForPair_32 : decode cX0_lookForPair 32 = .ok (.aload_n 1, 1) := dec_of t_X0_lookForPair_ok 15 rfl
theorem dX0_lookForPair_33 : decode cX0_lookForPair 33 = .ok (.aload 4, 2) := dec_of t_X0_lookForPair_ok 16 rfl
theorem dX0_lookForPair_35 : decode cX0_lookForPair 35 = .ok (.iload 5, 2) := dec_of t_X0_lookForPair_ok 17 rfl
theorem dX0_lookForPair_37 : decode cX0_lookForPair 37 = .ok (.invokevirtual 72, 3) := dec_of t_X0_lookForPair_ok 18 rfl
theorem dX0_lookForPair_40 : decode cX0_lookForPair 40 = .ok (.ifCond .eq 54, 3) := dec_of t_X0_lookForPair_ok 19 rfl
theorem dX0_lookForPair_43 : decode cX0_lookForPair 43 = .ok (.aload_n 0, 1) := dec_of t_X0_lookForPair_ok 20 rfl
theorem dX0_lookForPair_44 : decode cX0_lookForPair 44 = .ok (.iload 5, 2) := dec_of t_X0_lookForPair_ok 21 rfl
theorem dX0_lookForPair_46 : decode cX0_lookForPair 46 = .ok (.iload_n 2, 1) := dec_of t_X0_lookForPair_ok 22 rfl
theorem dX0_lookForPair_47 : decode cX0_lookForPair 47 = .ok (.invokevirtual 52, 3) := dec_of t_X0_lookForPair_ok 23 rfl
theorem dX0_lookForPair_50 : decode cX0_lookForPair 50 = .ok (.goto 44, 3) := dec_of t_X0_lookForPair_ok 24 rfl
theorem dX0_lookForPair_53 : decode cX0_lookForPair 53 = .ok (.aload_n 1, 1) := dec_of t_X0_lookForPair_ok 25 rfl
theorem dX0_lookForPair_54 : decode cX0_lookForPair 54 = .ok (.aload_n 3, 1) := dec_of t_X0_lookForPair_ok 26 rfl
theorem dX0_lookForPair_55 : decode cX0_lookForPair 55 = .ok (.getfield 76, 3) := dec_of t_X0_lookForPair_ok 27 rfl
theorem dX0_lookForPair_58 : decode cX0_lookForPair 58 = .ok (.iload 5, 2) := dec_of t_X0_lookForPair_ok 28 rfl
theorem dX0_lookForPair_60 : decode cX0_lookForPair 60 = .ok (.invokevirtual 72, 3) := dec_of t_X0_lookForPair_ok 29 rfl
theorem dX0_lookForPair_63 : decode cX0_lookForPair 63 = .ok (.ifCond .eq 12, 3) := dec_of t_X0_lookForPair_ok 30 rfl
theorem dX0_lookForPair_66 : decode cX0_lookForPair 66 = .ok (.aload_n 3, 1) := dec_of t_X0_lookForPair_ok 31 rfl
theorem dX0_lookForPair_67 : decode cX0_lookForPair 67 = .ok (.getfield 79, 3) := dec_of t_X0_lookForPair_ok 32 rfl
theorem dX0_lookForPair_70 : decode cX0_lookForPair 70 = .ok (.astore 4, 2) := dec_of t_X0_lookForPair_ok 33 rfl
theorem dX0_lookForPair_72 : decode cX0_lookForPair 72 = .ok (.goto 22, 3) := dec_of t_X0_lookForPair_ok 34 rfl
theorem dX0_lookForPair_75 : decode cX0_lookForPair 75 = .ok (.aload_n 1, 1) := dec_of t_X0_lookForPair_ok 35 rfl
theorem dX0_lookForPair_76 : decode cX0_lookForPair 76 = .ok (.aload_n 3, 1) := dec_of t_X0_lookForPair_ok 36 rfl
theorem dX0_lookForPair_77 : decode cX0_lookForPair 77 = .ok (.getfield 79, 3) := dec_of t_X0_lookForPair_ok 37 rfl
theorem dX0_lookForPair_80 : decode cX0_lookForPair 80 = .ok (.iload 5, 2) := dec_of t_X0_lookForPair_ok 38 rfl
theorem dX0_lookForPair_82 : decode cX0_lookForPair 82 = .ok (.invokevirtual 72, 3) := dec_of t_X0_lookForPair_ok 39 rfl
theorem dX0_lookForPair_85 : decode cX0_lookForPair 85 = .ok (.ifCond .eq 9, 3) := dec_of t_X0_lookForPair_ok 40 rfl
theorem dX0_lookForPair_88 : decode cX0_lookForPair 88 = .ok (.aload_n 3, 1) := dec_of t_X0_lookForPair_ok 41 rfl
theorem dX0_lookForPair_89 : decode cX0_lookForPair 89 = .ok (.getfield 76, 3) := dec_of t_X0_lookForPair_ok 42 rfl
theorem dX0_lookForPair_92 : decode cX0_lookForPair 92 = .ok (.astore 4, 2) := dec_of t_X0_lookForPair_ok 43 rfl
theorem dX0_lookForPair_94 : decode cX0_lookForPair 94 = .ok (.iinc 5 1, 3) := dec_of t_X0_lookForPair_ok 44 rfl
theorem dX0_lookForPair_97 : decode cX0_lookForPair 97 = .ok (.goto (-91), 3) := dec_of t_X0_lookForPair_ok 45 rfl
theorem dX0_lookForPair_100 : decode cX0_lookForPair 100 = .ok (.return_, 1) := dec_of t_X0_lookForPair_ok 46 rfl
def t_X0_foundAt : List (Nat × Instr × Nat) := [(0, .aload_n 0, 1), (1, .getfield 26, 3), (4, .iload_n 3, 1), (5, .invokevirtual 62, 3), (8, .aload_n 2, 1), (9, .getfield 82, 3), (12, .iconst (-1), 1), (13, .ixor, 1), (14, .iand, 1), (15, .istore 4, 2), (17, .aload_n 1, 1), (18, .iload_n 3, 1), (19, .invokevirtual 88, 3), (22, .ifCond .eq 30, 3), (25, .aload_n 1, 1), (26, .iload_n 3, 1), (27, .invokevirtual 68, 3), (30, .ifCond .ne 22, 3), (33, .aload_n 1, 1), (34, .iload_n 3, 1), (35, .invokevirtual 91, 3), (38, .aload_n 2, 1), (39, .getfield 94, 3), (42, .if_icmp .ge 10, 3), (45, .iload 4, 2), (47, .ldc 97, 2), (49, .ior, 1), (50, .istore 4, 2), (52, .iload 4, 2), (54, .ireturn, 1)]
theorem t_X0_foundAt_ok : dec_ok cX0_foundAt t_X0_foundAt = true := by decide +kernel
theorem dX0_foundAt_0 : decode cX0_foundAt 0 = .ok (.aload_n 0, 1) := dec_of t_X0_foundAt_ok 0 rfl
theorem dX0_foundAt_1 : decode cX0_foundAt 1 = .ok (.getfield 26, 3) := dec_of t_X0_foundAt_ok 1 rfl
theorem dX0_foundAt_4 : decode cX0_foundAt 4 = .ok (.iload_n 3, 1) := dec_of t_X0_foundAt_ok 2 rfl
theorem dX0_foundAt_5 : decode cX0_foundAt 5 = .ok (.invokevirtual 62, 3) := dec_of t_X0_foundAt_ok 3 rfl
theorem dX0_foundAt_8 : decode cX0_foundAt 8 = .ok (.aload_n 2, 1) := dec_of t_X0_foundAt_ok 4 rfl
theorem dX0_foundAt_9 : decode cX0_foundAt 9 = .ok (.getfield 82, 3) := dec_of t_X0_foundAt_ok 5 rfl
theorem dX0_foundAt_12 : decode cX0_foundAt 12 = .ok (.iconst (-1), 1) := dec_of t_X0_foundAt_ok 6 rfl
theorem dX0_foundAt_13 : decode cX0_foundAt 13 = .ok (.ixor, 1) := dec_of t_X0_foundAt_ok 7 rfl
theorem dX0_foundAt_14 : decode cX0_foundAt 14 = .ok (.iand, 1) := dec_of t_X0_foundAt_ok 8 rfl
theorem dX0_foundAt_15 : decode cX0_foundAt 15 = .ok (.istore 4, 2) := dec_of t_X0_foundAt_ok 9 rfl
theorem dX0_foundAt_17 : decode cX0_foundAt 17 = .ok (.aload_n 1, 1) := dec_of t_X0_foundAt_ok 10 rfl
theorem dX0_foundAt_18 : decode cX0_foundAt 18 = .ok (.iload_n 3, 1) := dec_of t_X0_foundAt_ok 11 rfl
theorem dX0_foundAt_19 : decode cX0_foundAt 19 = .ok (.invokevirtual 88, 3) := dec_of t_X0_foundAt_ok 12 rfl
theorem dX0_foundAt_22 : decode cX0_foundAt 22 = .ok (.ifCond .eq 30, 3) := dec_of t_X0_foundAt_ok 13 rfl
theorem dX0_foundAt_25 : decode cX0_foundAt 25 = .ok (.aload_n 1, 1) := dec_of t_X0_foundAt_ok 14 rfl
theorem dX0_foundAt_26 : decode cX0_foundAt 26 = .ok (.iload_n 3, 1) := dec_of t_X0_foundAt_ok 15 rfl
theorem dX0_foundAt_27 : decode cX0_foundAt 27 = .ok (.invokevirtual 68, 3) := dec_of t_X0_foundAt_ok 16 rfl
theorem dX0_foundAt_30 : decode cX0_foundAt 30 = .ok (.ifCond .ne 22, 3) := dec_of t_X0_foundAt_ok 17 rfl
theorem dX0_foundAt_33 : decode cX0_foundAt 33 = .ok (.aload_n 1, 1) := dec_of t_X0_foundAt_ok 18 rfl
theorem dX0_foundAt_34 : decode cX0_foundAt 34 = .ok (.iload_n 3, 1) := dec_of t_X0_foundAt_ok 19 rfl
theorem dX0_foundAt_35 : decode cX0_foundAt 35 = .ok (.invokevirtual 91, 3) := dec_of t_X0_foundAt_ok 20 rfl
theorem dX0_foundAt_38 : decode cX0_foundAt 38 = .ok (.aload_n 2, 1) := dec_of t_X0_foundAt_ok 21 rfl
theorem dX0_foundAt_39 : decode cX0_foundAt 39 = .ok (.getfield 94, 3) := dec_of t_X0_foundAt_ok 22 rfl
theorem dX0_foundAt_42 : decode cX0_foundAt 42 = .ok (.if_icmp .ge 10, 3) := dec_of t_X0_foundAt_ok 23 rfl
theorem dX0_foundAt_45 : decode cX0_foundAt 45 = .ok (.iload 4, 2) := dec_of t_X0_foundAt_ok 24 rfl
theorem dX0_foundAt_47 : decode cX0_foundAt 47 = .ok (.ldc 97, 2) := dec_of t_X0_foundAt_ok 25 rfl
theorem dX0_foundAt_49 : decode cX0_foundAt 49 = .ok (.ior, 1) := dec_of t_X0_foundAt_ok 26 rfl
theorem dX0_foundAt_50 : decode cX0_foundAt 50 = .ok (.istore 4, 2) := dec_of t_X0_foundAt_ok 27 rfl
theorem dX0_foundAt_52 : decode cX0_foundAt 52 = .ok (.iload 4, 2) := dec_of t_X0_foundAt_ok 28 rfl
theorem dX0_foundAt_54 : decode cX0_foundAt 54 = .ok (.ireturn, 1) := dec_of t_X0_foundAt_ok 29 rfl
def t_X0_itemsOf : List (Nat × Instr × Nat) := [(0, .iload_n 1, 1), (1, .ifCond .lt 34, 3), (4, .iload_n 1, 1), (5, .aload_n 0, 1), (6, .getfield 12, 3), (9, .invokevirtual 39, 3), (12, .if_icmp .ge 23, 3), (15, .aload_n 0, 1), (16, .getfield 12, 3), (19, .iload_n 1, 1), (20, .invokevirtual 42, 3), (23, .checkcast 46, 3), (26, .getfield 98, 3), (29, .invokevirtual 39, 3), (32, .goto 4, 3), (35, .iconst 1, 1), (36, .ireturn, 1)]
theorem t_X0_itemsOf_ok : dec_ok cX0_itemsOf t_X0_itemsOf = true := by decide +kernel
theorem dX0_itemsOf_0 : decode cX0_itemsOf 0 = .ok (.iload_n 1, 1) := dec_of t_X0_itemsOf_ok 0 rfl
theorem dX0_itemsOf_1 : decode cX0_itemsOf 1 = .ok (.ifCond .lt 34, 3) := dec_of t_X0_itemsOf_ok 1 rfl
theorem dX0_itemsOf_4 : decode cX0_itemsOf 4 = .ok (.iload_n 1, 1) := dec_of t_X0_itemsOf_ok 2 rfl
theorem dX0_itemsOf_5 : decode cX0_itemsOf 5 = .ok (.aload_n 0, 1) := dec_of t_X0_itemsOf_ok 3 rfl
theorem dX0_itemsOf_6 : decode cX0_itemsOf 6 = .ok (.getfield 12, 3) := dec_of t_X0_itemsOf_ok 4 rfl
theorem dX0_itemsOf_9 : decode cX0_itemsOf 9 = .ok (.invokevirtual 39, 3) := dec_of t_X0_itemsOf_ok 5 rfl
theorem dX0_itemsOf_12 : decode cX0_itemsOf 12 = .ok (.if_icmp .ge 23, 3) := dec_of t_X0_itemsOf_ok 6 rfl
theorem dX0_itemsOf_15 : decode cX0_itemsOf 15 = .ok (.aload_n 0, 1) := dec_of t_X0_itemsOf_ok 7 rfl
theorem dX0_itemsOf_16 : decode cX0_itemsOf 16 = .ok (.getfield 12, 3) := dec_of t_X0_itemsOf_ok 8 rfl
theorem dX0_itemsOf_19 : decode cX0_itemsOf 19 = .ok (.iload_n 1, 1) := dec_of t_X0_itemsOf_ok 9 rfl
theorem dX0_itemsOf_20 : decode cX0_itemsOf 20 = .ok (.invokevirtual 42, 3) := dec_of t_X0_itemsOf_ok 10 rfl
theorem dX0_itemsOf_23 : decode cX0_itemsOf 23 = .ok (.checkcast 46, 3) := dec_of t_X0_itemsOf_ok 11 rfl
theorem dX0_itemsOf_26 : decode cX0_itemsOf 26 = .ok (.getfield 98, 3) := dec_of t_X0_itemsOf_ok 12 rfl
theorem dX0_itemsOf_29 : decode cX0_itemsOf 29 = .ok (.invokevirtual 39, 3) := dec_of t_X0_itemsOf_ok 13 rfl
theorem dX0_itemsOf_32 : decode cX0_itemsOf 32 = .ok (.goto 4, 3) := dec_of t_X0_itemsOf_ok 14 rfl
theorem dX0_itemsOf_35 : decode cX0_itemsOf 35 = .ok (.iconst 1, 1) := dec_of t_X0_itemsOf_ok 15 rfl
theorem dX0_itemsOf_36 : decode cX0_itemsOf 36 = .ok (.ireturn, 1) := dec_of t_X0_itemsOf_ok 16 rfl
def t_X0_rankAt : List (Nat × Instr × Nat) := [(0, .iload_n 2, 1), (1, .ifCond .lt 46, 3), (4, .iload_n 2, 1), (5, .aload_n 0, 1), (6, .getfield 12, 3), (9, .invokevirtual 39, 3), (12, .if_icmp .ge 35, 3), (15, .aload_n 1, 1), (16, .getfield 101, 3), (19, .iload_n 2, 1), (20, .invokevirtual 62, 3), (23, .istore_n 3, 1), (24, .iload_n 3, 1), (25, .ifCond .ne 20, 3), (28, .aload_n 0, 1), (29, .getfield 12, 3), (32, .iload_n 2, 1), (33, .invokevirtual 42, 3), (36, .checkcast 46, 3), (39, .getfield 104, 3), (42, .goto 4, 3), (45, .iload_n 3, 1), (46, .ireturn, 1), (47, .iload_n 2, 1), (48, .bipush 20, 2), (50, .if_icmp .ne 7, 3), (53, .iconst 1, 1), (54, .goto 4, 3), (57, .iconst 5, 1), (58, .ireturn, 1)]
theorem t_X0_rankAt_ok : dec_ok cX0_rankAt t_X0_rankAt = true := by decide +kernel
theorem dX0_rankAt_0 : decode cX0_rankAt 0 = .ok (.iload_n 2, 1) := dec_of t_X0_rankAt_ok 0 rfl
theorem dX0_rankAt_1 : decode cX0_rankAt 1 = .ok (.ifCond .lt 46, 3) := dec_of t_X0_rankAt_ok 1 rfl
theorem dX0_rankAt_4 : decode cX0_rankAt 4 = .ok (.iload_n 2, 1) := dec_of t_X0_rankAt_ok 2 rfl
theorem dX0_rankAt_5 : decode cX0_rankAt 5 = .ok (.aload_n 0, 1) := dec_of t_X0_rankAt_ok 3 rfl
theorem dX0_rankAt_6 : decode cX0_rankAt 6 = .ok (.getfield 12, 3) := dec_of t_X0_rankAt_ok 4 rfl
theorem dX0_rankAt_9 : decode cX0_rankAt 9 = .ok (.invokevirtual 39, 3) := dec_of t_X0_rankAt_ok 5 rfl
theorem dX0_rankAt_12 : decode cX0_rankAt 12 = .ok (.if_icmp .ge 35, 3) := dec_of t_X0_rankAt_ok 6 rfl
theorem dX0_rankAt_15 : decode cX0_rankAt 15 = .ok (.aload_n 1, 1) := dec_of t_X0_rankAt_ok 7 rfl
theorem dX0_rankAt_16 : decode cX0_rankAt 16 = .ok (.getfield 101, 3) := dec_of t_X0_rankAt_ok 8 rfl
theorem dX0_rankAt_19 : decode cX0_rankAt 19 = .ok (.iload_n 2, 1) := dec_of t_X0_rankAt_ok 9 rfl
theorem dX0_rankAt_20 : decode cX0_rankAt 20 = .ok (.invokevirtual 62, 3) := dec_of t_X0_rankAt_ok 10 rfl
theorem dX0_rankAt_23 : decode cX0_rankAt 23 = .ok (.istore_n 3, 1) := dec_of t_X0_rankAt_ok 11 rfl
theorem dX0_rankAt_24 : decode cX0_rankAt 24 = .ok (.iload_n 3, 1) := dec_of t_X0_rankAt_ok 12 rfl
theorem dX0_rankAt_25 : decode cX0_rankAt 25 = .ok (.ifCond .ne 20, 3) := dec_of t_X0_rankAt_ok 13 rfl
theorem dX0_rankAt_28 : decode cX0_rankAt 28 = .ok (.aload_n 0, 1) := dec_of t_X0_rankAt_ok 14 rfl
theorem dX0_rankAt_29 : decode cX0_rankAt 29 = .ok (.getfield 12, 3) := dec_of t_X0_rankAt_ok 15 rfl
theorem dX0_rankAt_32 : decode cX0_rankAt 32 = .ok (.iload_n 2, 1) := dec_of t_X0_rankAt_ok 16 rfl
theorem dX0_rankAt_33 : decode cX0_rankAt 33 = .ok (.invokevirtual 42, 3) := dec_of t_X0_rankAt_ok 17 rfl
theorem dX0_rankAt_36 : decode cX0_rankAt 36 = .ok (.checkcast 46, 3) := dec_of t_X0_rankAt_ok 18 rfl
theorem dX0_rankAt_39 : decode cX0_rankAt 39 = .ok (.getfield 104, 3) := dec_of t_X0_rankAt_ok 19 rfl
theorem dX0_rankAt_42 : decode cX0_rankAt 42 = .ok (.goto 4, 3) := dec_of t_X0_rankAt_ok 20 rfl
theorem dX0_rankAt_45 : decode cX0_rankAt 45 = .ok (.iload_n 3, 1) := dec_of t_X0_rankAt_ok 21 rfl
theorem dX0_rankAt_46 : decode cX0_rankAt 46 = .ok (.ireturn, 1) := dec_of t_X0_rankAt_ok 22 rfl
theorem dX0_rankAt_47 : decode cX0_rankAt 47 = .ok (.iload_n 2, 1) := dec_of t_X0_rankAt_ok 23 rfl
theorem dX0_rankAt_48 : decode cX0_rankAt 48 = .ok (.bipush 20, 2) := dec_of t_X0_rankAt_ok 24 rfl
theorem dX0_rankAt_50 : decode cX0_rankAt 50 = .ok (.if_icmp .ne 7, 3) := dec_of t_X0_rankAt_ok 25 rfl
theorem dX0_rankAt_53 : decode cX0_rankAt 53 = .ok (.iconst 1, 1) := dec_of t_X0_rankAt_ok 26 rfl
theorem dX0_rankAt_54 : decode cX0_rankAt 54 = .ok (.goto 4, 3) := dec_of t_X0_rankAt_ok 27 rfl
theorem dX0_rankAt_57 : decode cX0_rankAt 57 = .ok (.iconst 5, 1) := dec_of t_X0_rankAt_ok 28 rfl
theorem dX0_rankAt_58 : decode cX0_rankAt 58 = .ok (.ireturn, 1) := dec_of t_X0_rankAt_ok 29 rfl
def t_X0_ofRank : List (Nat × Instr × Nat) := [(0, .iconst 0, 1), (1, .istore_n 3, 1), (2, .iconst 0, 1), (3, .istore 4, 2), (5, .iload 4, 2), (7, .bipush 20, 2), (9, .if_icmp .gt 27, 3), (12, .aload_n 0, 1), (13, .aload_n 1, 1), (14, .iload 4, 2), (16, .invokevirtual 107, 3), (19, .iload_n 2, 1), (20, .if_icmp .ne 10, 3), (23, .iload_n 3, 1), (24, .iconst 1, 1), (25, .iload 4, 2), (27, .ishl, 1), (28, .ior, 1), (29, .istore_n 3, 1), (30, .iinc 4 1, 3), (33, .goto (-28), 3), (36, .iload_n 3, 1), (37, .ireturn, 1)]
theorem t_X0_ofRank_ok : dec_ok cX0_ofRank t_X0_ofRank = true := by decide +kernel
theorem dX0_ofRank_0 : decode cX0_ofRank 0 = .ok (.iconst 0, 1) := dec_of t_X0_ofRank_ok 0 rfl
theorem dX0_ofRank_1 : decode cX0_ofRank 1 = .ok (.istore_n 3, 1) := dec_of t_X0_ofRank_ok 1 rfl
theorem dX0_ofRank_2 : decode cX0_ofRank 2 = .ok (.iconst 0, 1) := dec_of t_X0_ofRank_ok 2 rfl
theorem dX0_ofRank_3 : decode cX0_ofRank 3 = .ok (.istore 4, 2) := dec_of t_X0_ofRank_ok 3 rfl
theorem dX0_ofRank_5 : decode cX0_ofRank 5 = .ok (.iload 4, 2) := dec_of t_X0_ofRank_ok 4 rfl
theorem dX0_ofRank_7 : decode cX0_ofRank 7 = .ok (.bipush 20, 2) := dec_of t_X0_ofRank_ok 5 rfl
theorem dX0_ofRank_9 : decode cX0_ofRank 9 = .ok (.if_icmp .gt 27, 3) := dec_of t_X0_ofRank_ok 6 rfl
theorem dX0_ofRank_12 : decode cX0_ofRank 12 = .ok (.aload_n 0, 1) := dec_of t_X0_ofRank_ok 7 rfl
theorem dX0_ofRank_13 : decode cX0_ofRank 13 = .ok (.aload_n 1, 1) := dec_of t_X0_ofRank_ok 8 rfl
theorem dX0_ofRank_14 : decode cX0_ofRank 14 = .ok (.iload 4, 2) := dec_of t_X0_ofRank_ok 9 rfl
theorem dX0_ofRank_16 : decode cX0_ofRank 16 = .ok (.invokevirtual 107, 3) := dec_of t_X0_ofRank_ok 10 rfl
theorem dX0_ofRank_19 : decode cX0_ofRank 19 = .ok (.iload_n 2, 1) := dec_of t_X0_ofRank_ok 11 rfl
theorem dX0_ofRank_20 : decode cX0_ofRank 20 = .ok (.if_icmp .ne 10, 3) := dec_of t_X0_ofRank_ok 12 rfl
theorem dX0_ofRank_23 : decode cX0_ofRank 23 = .ok (.iload_n 3, 1) := dec_of t_X0_ofRank_ok 13 rfl
theorem dX0_ofRank_24 : decode cX0_ofRank 24 = .ok (.iconst 1, 1) := dec_of t_X0_ofRank_ok 14 rfl
theorem dX0_ofRank_25 : decode cX0_ofRank 25 = .ok (.iload 4, 2) := dec_of t_X0_ofRank_ok 15 rfl
theorem dX0_ofRank_27 : decode cX0_ofRank 27 = .ok (.ishl, 1) := dec_of t_X0_ofRank_ok 16 rfl
theorem dX0_ofRank_28 : decode cX0_ofRank 28 = .ok (.ior, 1) := dec_of t_X0_ofRank_ok 17 rfl
theorem dX0_ofRank_29 : decode cX0_ofRank 29 = .ok (.istore_n 3, 1) := dec_of t_X0_ofRank_ok 18 rfl
theorem dX0_ofRank_30 : decode cX0_ofRank 30 = .ok (.iinc 4 1, 3) := dec_of t_X0_ofRank_ok 19 rfl
theorem dX0_ofRank_33 : decode cX0_ofRank 33 = .ok (.goto (-28), 3) := dec_of t_X0_ofRank_ok 20 rfl
theorem dX0_ofRank_36 : decode cX0_ofRank 36 = .ok (.iload_n 3, 1) := dec_of t_X0_ofRank_ok 21 rfl
theorem dX0_ofRank_37 : decode cX0_ofRank 37 = .ok (.ireturn, 1) := dec_of t_X0_ofRank_ok 22 rfl
def t_X0_suggestionsOf : List (Nat × Instr × Nat) := [(0, .iload_n 1, 1), (1, .ifCond .lt 32, 3), (4, .iload_n 1, 1), (5, .aload_n 0, 1), (6, .getfield 12, 3), (9, .invokevirtual 39, 3), (12, .if_icmp .ge 21, 3), (15, .aload_n 0, 1), (16, .getfield 12, 3), (19, .iload_n 1, 1), (20, .invokevirtual 42, 3), (23, .checkcast 46, 3), (26, .getfield 111, 3), (29, .invokevirtual 39, 3), (32, .ireturn, 1), (33, .iload_n 1, 1), (34, .bipush 12, 2), (36, .if_icmp .lt 21, 3), (39, .iload_n 1, 1), (40, .bipush 12, 2), (42, .isub, 1), (43, .aload_n 0, 1), (44, .getfield 18, 3), (47, .invokevirtual 39, 3), (50, .if_icmp .ge 7, 3), (53, .iconst 1, 1), (54, .goto 4, 3), (57, .iconst 0, 1), (58, .ireturn, 1)]
theorem t_X0_suggestionsOf_ok : dec_ok cX0_suggestionsOf t_X0_suggestionsOf = true := by decide +kernel
theorem dX0_suggestionsOf_0 : decode cX0_suggestionsOf 0 = .ok (.iload_n 1, 1) := dec_of t_X0_suggestionsOf_ok 0 rfl
theorem dX0_suggestionsOf_1 : decode cX0_suggestionsOf 1 = .ok (.ifCond .lt 32, 3) := dec_of t_X0_suggestionsOf_ok 1 rfl
theorem dX0_suggestionsOf_4 : decode cX0_suggestionsOf 4 = .ok (.iload_n 1, 1) := dec_of t_X0_suggestionsOf_ok 2 rfl
theorem dX0_suggestionsOf_5 : decode cX0_suggestionsOf 5 = .ok (.aload_n 0, 1) := dec_of t_X0_suggestionsOf_ok 3 rfl
theorem dX0_suggestionsOf_6 : decode cX0_suggestionsOf 6 = .ok (.getfield 12, 3) := dec_of t_X0_suggestionsOf_ok 4 rfl
theorem dX0_suggestionsOf_9 : decode cX0_suggestionsOf 9 = .ok (.invokevirtual 39, 3) := dec_of t_X0_suggestionsOf_ok 5 rfl
theorem dX0_suggestionsOf_12 : decode cX0_suggestionsOf 12 = .ok (.if_icmp .ge 21, 3) := dec_of t_X0_suggestionsOf_ok 6 rfl
theorem dX0_suggestionsOf_15 : decode cX0_suggestionsOf 15 = .ok (.aload_n 0, 1) := dec_of t_X0_suggestionsOf_ok 7 rfl
theorem dX0_suggestionsOf_16 : decode cX0_suggestionsOf 16 = .ok (.getfield 12, 3) := dec_of t_X0_suggestionsOf_ok 8 rfl
theorem dX0_suggestionsOf_19 : decode cX0_suggestionsOf 19 = .ok (.iload_n 1, 1) := dec_of t_X0_suggestionsOf_ok 9 rfl
theorem dX0_suggestionsOf_20 : decode cX0_suggestionsOf 20 = .ok (.invokevirtual 42, 3) := dec_of t_X0_suggestionsOf_ok 10 rfl
theorem dX0_suggestionsOf_23 : decode cX0_suggestionsOf 23 = .ok (.checkcast 46, 3) := dec_of t_X0_suggestionsOf_ok 11 rfl
theorem dX0_suggestionsOf_26 : decode cX0_suggestionsOf 26 = .ok (.getfield 111, 3) := dec_of t_X0_suggestionsOf_ok 12 rfl
theorem dX0_suggestionsOf_29 : decode cX0_suggestionsOf 29 = .ok (.invokevirtual 39, 3) := dec_of t_X0_suggestionsOf_ok 13 rfl
theorem dX0_suggestionsOf_32 : decode cX0_suggestionsOf 32 = .ok (.ireturn, 1) := dec_of t_X0_suggestionsOf_ok 14 rfl
theorem dX0_suggestionsOf_33 : decode cX0_suggestionsOf 33 = .ok (.iload_n 1, 1) := dec_of t_X0_suggestionsOf_ok 15 rfl
theorem dX0_suggestionsOf_34 : decode cX0_suggestionsOf 34 = .ok (.bipush 12, 2) := dec_of t_X0_suggestionsOf_ok 16 rfl
theorem dX0_suggestionsOf_36 : decode cX0_suggestionsOf 36 = .ok (.if_icmp .lt 21, 3) := dec_of t_X0_suggestionsOf_ok 17 rfl
theorem dX0_suggestionsOf_39 : decode cX0_suggestionsOf 39 = .ok (.iload_n 1, 1) := dec_of t_X0_suggestionsOf_ok 18 rfl
theorem dX0_suggestionsOf_40 : decode cX0_suggestionsOf 40 = .ok (.bipush 12, 2) := dec_of t_X0_suggestionsOf_ok 19 rfl
theorem dX0_suggestionsOf_42 : decode cX0_suggestionsOf 42 = .ok (.isub, 1) := dec_of t_X0_suggestionsOf_ok 20 rfl
theorem dX0_suggestionsOf_43 : decode cX0_suggestionsOf 43 = .ok (.aload_n 0, 1) := dec_of t_X0_suggestionsOf_ok 21 rfl
theorem dX0_suggestionsOf_44 : decode cX0_suggestionsOf 44 = .ok (.getfield 18, 3) := dec_of t_X0_suggestionsOf_ok 22 rfl
theorem dX0_suggestionsOf_47 : decode cX0_suggestionsOf 47 = .ok (.invokevirtual 39, 3) := dec_of t_X0_suggestionsOf_ok 23 rfl
theorem dX0_suggestionsOf_50 : decode cX0_suggestionsOf 50 = .ok (.if_icmp .ge 7, 3) := dec_of t_X0_suggestionsOf_ok 24 rfl
theorem dX0_suggestionsOf_53 : decode cX0_suggestionsOf 53 = .ok (.iconst 1, 1) := dec_of t_X0_suggestionsOf_ok 25 rfl
theorem dX0_suggestionsOf_54 : decode cX0_suggestionsOf 54 = .ok (.goto 4, 3) := dec_of t_X0_suggestionsOf_ok 26 rfl
theorem dX0_suggestionsOf_57 : decode cX0_suggestionsOf 57 = .ok (.iconst 0, 1) := dec_of t_X0_suggestionsOf_ok 27 rfl
theorem dX0_suggestionsOf_58 : decode cX0_suggestionsOf 58 = .ok (.ireturn, 1) := dec_of t_X0_suggestionsOf_ok 28 rfl
def t_X0_writeSuggestion : List (Nat × Instr × Nat) := [(0, .iload_n 3, 1), (1, .ifCond .lt 37, 3), (4, .iload_n 3, 1), (5, .aload_n 0, 1), (6, .getfield 12, 3), (9, .invokevirtual 39, 3), (12, .if_icmp .ge 26, 3), (15, .aload_n 0, 1), (16, .getfield 12, 3), (19, .iload_n 3, 1), (20, .invokevirtual 42, 3), (23, .checkcast 46, 3), (26, .aload_n 1, 1), (27, .iload_n 2, 1), (28, .iload 4, 2), (30, .aload 5, 2), (32, .invokevirtual 114, 3), (35, .goto 75, 3), (38, .iload_n 3, 1), (39, .bipush 12, 2), (41, .if_icmp .lt 69, 3), (44, .iload_n 3, 1), (45, .bipush 12, 2), (47, .isub, 1), (48, .aload_n 0, 1), (49, .getfield 18, 3), (52, .invokevirtual 39, 3), (55, .if_icmp .ge 55, 3), (58, .aload_n 0, 1), (59, .getfield 18, 3), (62, .iload_n 3, 1), (63, .bipush 12, 2), (65, .isub, 1), (66, .invokevirtual 42, 3), (69, .checkcast 56, 3), (72, .aload_n 1, 1), (73, .iload_n 2, 1), (74, .invokevirtual 118, 3), (77, .astore 6, 2), (79, .iconst 0, 1), (80, .istore 7, 2), (82, .iload 7, 2), (84, .aload 6, 2), (86, .invokevirtual 122, 3), (89, .if_icmp .ge 21, 3), (92, .aload 5, 2), (94, .aload 6, 2), (96, .iload 7, 2), (98, .invokevirtual 62, 3), (101, .invokevirtual 123, 3), (104, .iinc 7 1, 3), (107, .goto (-25), 3), (110, .return_, 1)]
theorem t_X0_writeSuggestion_ok : dec_ok cX0_writeSuggestion t_X0_writeSuggestion = true := by decide +kernel
theorem dX0_writeSuggestion_0 : decode cX0_writeSuggestion 0 = .ok (.iload_n 3, 1) := dec_of t_X0_writeSuggestion_ok 0 rfl
theorem dX0_writeSuggestion_1 : decode cX0_writeSuggestion 1 = .ok (.ifCond .lt 37, 3) := dec_of t_X0_writeSuggestion_ok 1 rfl
theorem dX0_writeSuggestion_4 : decode cX0_writeSuggestion 4 = .ok (.iload_n 3, 1) := dec_of t_X0_writeSuggestion_ok 2 rfl
theorem dX0_writeSuggestion_5 : decode cX0_writeSuggestion 5 = .ok (.aload_n 0, 1) := dec_of t_X0_writeSuggestion_ok 3 rfl
theorem dX0_writeSuggestion_6 : decode cX0_writeSuggestion 6 = .ok (.getfield 12, 3) := dec_of t_X0_writeSuggestion_ok 4 rfl
theorem dX0_writeSuggestion_9 : decode cX0_writeSuggestion 9 = .ok (.invokevirtual 39, 3) := dec_of t_X0_writeSuggestion_ok 5 rfl
theorem dX0_writeSuggestion_12 : decode cX0_writeSuggestion 12 = .ok (.if_icmp .ge 26, 3) := dec_of t_X0_writeSuggestion_ok 6 rfl
theorem dX0_writeSuggestion_15 : decode cX0_writeSuggestion 15 = .ok (.aload_n 0, 1) := dec_of t_X0_writeSuggestion_ok 7 rfl
theorem dX0_writeSuggestion_16 : decode cX0_writeSuggestion 16 = .ok (.getfield 12, 3) := dec_of t_X0_writeSuggestion_ok 8 rfl
theorem dX0_writeSuggestion_19 : decode cX0_writeSuggestion 19 = .ok (.iload_n 3, 1) := dec_of t_X0_writeSuggestion_ok 9 rfl
theorem dX0_writeSuggestion_20 : decode cX0_writeSuggestion 20 = .ok (.invokevirtual 42, 3) := dec_of t_X0_writeSuggestion_ok 10 rfl
theorem dX0_writeSuggestion_23 : decode cX0_writeSuggestion 23 = .ok (.checkcast 46, 3) := dec_of t_X0_writeSuggestion_ok 11 rfl
theorem dX0_writeSuggestion_26 : decode cX0_writeSuggestion 26 = .ok (.aload_n 1, 1) := dec_of t_X0_writeSuggestion_ok 12 rfl
theorem dX0_writeSuggestion_27 : decode cX0_writeSuggestion 27 = .ok (.iload_n 2, 1) := dec_of t_X0_writeSuggestion_ok 13 rfl
theorem dX0_writeSuggestion_28 : decode cX0_writeSuggestion 28 = .ok (.iload 4, 2) := dec_of t_X0_writeSuggestion_ok 14 rfl
theorem dX0_writeSuggestion_30 : decode cX0_writeSuggestion 30 = .ok (.aload 5, 2) := dec_of t_X0_writeSuggestion_ok 15 rfl
theorem dX0_writeSuggestion_32 : decode cX0_writeSuggestion 32 = .ok (.invokevirtual 114, 3) := dec_of t_X0_writeSuggestion_ok 16 rfl
theorem dX0_writeSuggestion_35 : decode cX0_writeSuggestion 35 = .ok (.goto 75, 3) := dec_of t_X0_writeSuggestion_ok 17 rfl
theorem dX0_writeSuggestion_38 : decode cX0_writeSuggestion 38 = .ok (.iload_n 3, 1) := dec_of t_X0_writeSuggestion_ok 18 rfl
theorem dX0_writeSuggestion_39 : decode cX0_writeSuggestion 39 = .ok (.bipush 12, 2) := dec_of t_X0_writeSuggestion_ok 19 rfl
theorem dX0_writeSuggestion_41 : decode cX0_writeSuggestion 41 = .ok (.if_icmp .lt 69, 3) := dec_of t_X0_writeSuggestion_ok 20 rfl
theorem dX0_writeSuggestion_44 : decode cX0_writeSuggestion 44 = .ok (.iload_n 3, 1) := dec_of t_X0_writeSuggestion_ok 21 rfl
theorem dX0_writeSuggestion_45 : decode cX0_writeSuggestion 45 = .ok (.bipush 12, 2) := dec_of t_X0_writeSuggestion_ok 22 rfl
theorem dX0_writeSuggestion_47 : decode cX0_writeSuggestion 47 = .ok (.isub, 1) := dec_of t_X0_writeSuggestion_ok 23 rfl
theorem dX0_writeSuggestion_48 : decode cX0_writeSuggestion 48 = .ok (.aload_n 0, 1) := dec_of t_X0_writeSuggestion_ok 24 rfl
theorem dX0_writeSuggestion_49 : decode cX0_writeSuggestion 49 = .ok (.getfield 18, 3) := dec_of t_X0_writeSuggestion_ok 25 rfl
theorem dX0_writeSuggestion_52 : decode cX0_writeSuggestion 52 = .ok (.invokevirtual 39, 3) := dec_of t_X0_writeSuggestion_ok 26 rfl
theorem dX0_writeSuggestion_55 : decode cX0_writeSuggestion 55 = .ok (.if_icmp .ge 55, 3) := dec_of t_X0_writeSuggestion_ok 27 rfl
theorem dX0_writeSuggestion_58 : decode cX0_writeSuggestion 58 = .ok (.aload_n 0, 1) := dec_of t_X0_writeSuggestion_ok 28 rfl
theorem dX0_writeSuggestion_59 : decode cX0_writeSuggestion 59 = .ok (.getfield 18, 3) := dec_of t_X0_writeSuggestion_ok 29 rfl
theorem dX0_writeSuggestion_62 : decode cX0_writeSuggestion 62 = .ok (.iload_n 3, 1) := dec_of t_X0_writeSuggestion_ok 30 rfl
theorem dX0_writeSuggestion_63 : decode cX0_writeSuggestion 63 = .ok (.bipush 12, 2) := dec_of t_X0_writeSuggestion_ok 31 rfl
theorem dX0_writeSuggestion_65 : decode cX0_writeSuggestion 65 = .ok (.isub, 1) := dec_of t_X0_writeSuggestion_ok 32 rfl
theorem dX0_writeSuggestion_66 : decode cX0_writeSuggestion 66 = .ok (.invokevirtual 42, 3) := dec_of t_X0_writeSuggestion_ok 33 rfl
theorem dX0_writeSuggestion_69 : decode cX0_writeSuggestion 69 = .ok (.checkcast 56, 3) := dec_of t_X0_writeSuggestion_ok 34 rfl
theorem dX0_writeSuggestion_72 : decode cX0_writeSuggestion 72 = .ok (.aload_n 1, 1) := dec_of t_X0_writeSuggestion_ok 35 rfl
theorem dX0_writeSuggestion_73 : decode cX0_writeSuggestion 73 = .ok (.iload_n 2, 1) := dec_of t_X0_writeSuggestion_ok 36 rfl
theorem dX0_writeSuggestion_74 : decode cX0_writeSuggestion 74 = .ok (.invokevirtual 118, 3) := dec_of t_X0_writeSuggestion_ok 37 rfl
theorem dX0_writeSuggestion_77 : decode cX0_writeSuggestion 77 = .ok (.astore 6, 2) := dec_of t_X0_writeSuggestion_ok 38 rfl
theorem dX0_writeSuggestion_79 : decode cX0_writeSuggestion 79 = .ok (.iconst 0, 1) := dec_of t_X0_writeSuggestion_ok 39 rfl
theorem dX0_writeSuggestion_80 : decode cX0_writeSuggestion 80 = .ok (.istore 7, 2) := dec_of t_X0_writeSuggestion_ok 40 rfl
theorem dX0_writeSuggestion_82 : decode cX0_writeSuggestion 82 = .ok (.iload 7, 2) := dec_of t_X0_writeSuggestion_ok 41 rfl
theorem dX0_writeSuggestion_84 : decode cX0_writeSuggestion 84 = .ok (.aload 6, 2) := dec_of t_X0_writeSuggestion_ok 42 rfl
theorem dX0_writeSuggestion_86 : decode cX0_writeSuggestion 86 = .ok (.invokevirtual 122, 3) := dec_of t_X0_writeSuggestion_ok 43 rfl
theorem dX0_writeSuggestion_89 : decode cX0_writeSuggestion 89 = .ok (.if_icmp .ge 21, 3) := dec_of t_X0_writeSuggestion_ok 44 rfl
theorem dX0_writeSuggestion_92 : decode cX0_writeSuggestion 92 = .ok (.aload 5, 2) := dec_of t_X0_writeSuggestion_ok 45 rfl
theorem dX0_writeSuggestion_94 : decode cX0_writeSuggestion 94 = .ok (.aload 6, 2) := dec_of t_X0_writeSuggestion_ok 46 rfl
theorem dX0_writeSuggestion_96 : decode cX0_writeSuggestion 96 = .ok (.iload 7, 2) := dec_of t_X0_writeSuggestion_ok 47 rfl
theorem dX0_writeSuggestion_98 : decode cX0_writeSuggestion 98 = .ok (.invokevirtual 62, 3) := dec_of t_X0_writeSuggestion_ok 48 rfl
theorem dX0_writeSuggestion_101 : decode cX0_writeSuggestion 101 = .ok (.invokevirtual 123, 3) := dec_of t_X0_writeSuggestion_ok 49 rfl
theorem dX0_writeSuggestion_104 : decode cX0_writeSuggestion 104 = .ok (.iinc 7 1, 3) := dec_of t_X0_writeSuggestion_ok 50 rfl
theorem dX0_writeSuggestion_107 : decode cX0_writeSuggestion 107 = .ok (.goto (-25), 3) := dec_of t_X0_writeSuggestion_ok 51 rfl
theorem dX0_writeSuggestion_110 : decode cX0_writeSuggestion 110 = .ok (.return_, 1) := dec_of t_X0_writeSuggestion_ok 52 rfl
def t_X1_init : List (Nat × Instr × Nat) := [(0, .aload_n 0, 1), (1, .invokespecial 3, 3), (4, .aload_n 0, 1), (5, .new 9, 3), (8, .dup, 1), (9, .bipush 12, 2), (11, .invokespecial 11, 3), (14, .putfield 14, 3), (17, .aload_n 0, 1), (18, .getfield 14, 3), (21, .bipush 12, 2), (23, .invokevirtual 20, 3), (26, .aload_n 0, 1), (27, .new 9, 3), (30, .dup, 1), (31, .bipush 20, 2), (33, .invokespecial 11, 3), (36, .putfield 23, 3), (39, .aload_n 0, 1), (40, .new 9, 3), (43, .dup, 1), (44, .bipush 20, 2), (46, .invokespecial 11, 3), (49, .putfield 26, 3), (52, .aload_n 0, 1), (53, .new 9, 3), (56, .dup, 1), (57, .bipush 20, 2), (59, .invokespecial 11, 3), (62, .putfield 29, 3), (65, .aload_n 0, 1), (66, .iconst 0, 1), (67, .putfield 32, 3), (70, .aload_n 0, 1), (71, .iconst 0, 1), (72, .putfield 36, 3), (75, .return_, 1)]
theorem t_X1_init_ok : dec_ok cX1_init t_X1_init = true := by decide +kernel
theorem dX1_init_0 : decode cX1_init 0 = .ok (.aload_n 0, 1) := dec_of t_X1_init_ok 0 rfl
theorem dX1_init_1 : decode cX1_init 1 = .ok (.invokespecial 3, 3) := dec_of t_X1_init_ok 1 rfl
theorem dX1_init_4 : decode cX1_init 4 = .ok (.aload_n 0, 1) := dec_of t_X1_init_ok 2 rfl
theorem dX1_init_5 : decode cX1_init 5 = .ok (.new 9, 3) := dec_of t_X1_init_ok 3 rfl
theorem dX1_init_8 : decode cX1_init 8 = .ok (.dup, 1) := dec_of t_X1_init_ok 4 rfl
theorem dX1_init_9 : decode cX1_init 9 = .ok (.bipush 12, 2) := dec_of t_X1_init_ok 5 rfl
theorem dX1_init_11 : decode cX1_init 11 = .ok (.invokespecial 11, 3) := dec_of t_X1_init_ok 6 rfl
theorem dX1_init_14 : decode cX1_init 14 = .ok (.putfield 14, 3) := dec_of t_X1_init_ok 7 rfl
theorem dX1_init_17 : decode cX1_init 17 = .ok (.aload_n 0, 1) := dec_of t_X1_init_ok 8 rfl
theorem dX1_init_18 : decode cX1_init 18 = .ok (.getfield 14, 3) := dec_of t_X1_init_ok 9 rfl
theorem dX1_init_21 : decode cX1_init 21 = .ok (.bipush 12, 2) := dec_of t_X1_init_ok 10 rfl
theorem dX1_init_23 : decode cX1_init 23 = .ok (.invokevirtual 20, 3) := dec_of t_X1_init_ok 11 rfl
theorem dX1_init_26 : decode cX1_init 26 = .ok (.aload_n 0, 1) := dec_of t_X1_init_ok 12 rfl
theorem dX1_init_27 : decode cX1_init 27 = .ok (.new 9, 3) := dec_of t_X1_init_ok 13 rfl
theorem dX1_init_30 : decode cX1_init 30 = .ok (.dup, 1) := dec_of t_X1_init_ok 14 rfl
theorem dX1_init_31 : decode cX1_init 31 = .ok (.bipush 20, 2) := dec_of t_X1_init_ok 15 rfl
theorem dX1_init_33 : decode cX1_init 33 = .ok (.invokespecial 11, 3) := dec_of t_X1_init_ok 16 rfl
theorem dX1_init_36 : decode cX1_init 36 = .ok (.putfield 23, 3) := dec_of t_X1_init_ok 17 rfl
theorem dX1_init_39 : decode cX1_init 39 = .ok (.aload_n 0, 1) := dec_of t_X1_init_ok 18 rfl
theorem dX1_init_40 : decode cX1_init 40 = .ok (.new 9, 3) := dec_of t_X1_init_ok 19 rfl
theorem dX1_init_43 : decode cX1_init 43 = .ok (.dup, 1) := dec_of t_X1_init_ok 20 rfl
theorem dX1_init_44 : decode cX1_init 44 = .ok (.bipush 20, 2) := dec_of t_X1_init_ok 21 rfl
theorem dX1_init_46 : decode cX1_init 46 = .ok (.invokespecial 11, 3) := dec_of t_X1_init_ok 22 rfl
theorem dX1_init_49 : decode cX1_init 49 = .ok (.putfield 26, 3) := dec_of t_X1_init_ok 23 rfl
theorem dX1_init_52 : decode cX1_init 52 = .ok (.aload_n 0, 1) := dec_of t_X1_init_ok 24 rfl
theorem dX1_init_53 : decode cX1_init 53 = .ok (.new 9, 3) := dec_of t_X1_init_ok 25 rfl
theorem dX1_init_56 : decode cX1_init 56 = .ok (.dup, 1) := dec_of t_X1_init_ok 26 rfl
theorem dX1_init_57 : decode cX1_init 57 = .ok (.bipush 20, 2) := dec_of t_X1_init_ok 27 rfl
theorem dX1_init_59 : decode cX1_init 59 = .ok (.invokespecial 11, 3) := dec_of t_X1_init_ok 28 rfl
theorem dX1_init_62 : decode cX1_init 62 = .ok (.putfield 29, 3) := dec_of t_X1_init_ok 29 rfl
theorem dX1_init_65 : decode cX1_init 65 = .ok (.aload_n 0, 1) := dec_of t_X1_init_ok 30 rfl
theorem dX1_init_66 : decode cX1_init 66 = .ok (.iconst 0, 1) := dec_of t_X1_init_ok 31 rfl
theorem dX1_init_67 : decode cX1_init 67 = .ok (.putfield 32, 3) := dec_of t_X1_init_ok 32 rfl
theorem dX1_init_70 : decode cX1_init 70 = .ok (.aload_n 0, 1) := dec_of t_X1_init_ok 33 rfl
theorem dX1_init_71 : decode cX1_init 71 = .ok (.iconst 0, 1) := dec_of t_X1_init_ok 34 rfl
theorem dX1_init_72 : decode cX1_init 72 = .ok (.putfield 36, 3) := dec_of t_X1_init_ok 35 rfl
theorem dX1_init_75 : decode cX1_init 75 = .ok (.return_, 1) := dec_of t_X1_init_ok 36 rfl
def t_X1_uses : List (Nat × Instr × Nat) := [(0, .aload_n 0, 1), (1, .getfield 36, 3), (4, .iconst 1, 1), (5, .iload_n 1, 1), (6, .ishl, 1), (7, .iand, 1), (8, .ifCond .ne 7, 3), (11, .iconst 1, 1), (12, .goto 4, 3), (15, .iconst 0, 1), (16, .ireturn, 1)]
theorem t_X1_uses_ok : dec_ok cX1_uses t_X1_uses = true := by decide +kernel
theorem dX1_uses_0 : decode cX1_uses 0 = .ok (.aload_n 0, 1) := dec_of t_X1_uses_ok 0 rfl
theorem dX1_uses_1 : decode cX1_uses 1 = .ok (.getfield 36, 3) := dec_of t_X1_uses_ok 1 rfl
theorem dX1_uses_4 : decode cX1_uses 4 = .ok (.iconst 1, 1) := dec_of t_X1_uses_ok 2 rfl
theorem dX1_uses_5 : decode cX1_uses 5 = .ok (.iload_n 1, 1) := dec_of t_X1_uses_ok 3 rfl
theorem dX1_uses_6 : decode cX1_uses 6 = .ok (.ishl, 1) := dec_of t_X1_uses_ok 4 rfl
theorem dX1_uses_7 : decode cX1_uses 7 = .ok (.iand, 1) := dec_of t_X1_uses_ok 5 rfl
theorem dX1_uses_8 : decode cX1_uses 8 = .ok (.ifCond .ne 7, 3) := dec_of t_X1_uses_ok 6 rfl
theorem dX1_uses_11 : decode cX1_uses 11 = .ok (.iconst 1, 1) := dec_of t_X1_uses_ok 7 rfl
theorem dX1_uses_12 : decode cX1_uses 12 = .ok (.goto 4, 3) := dec_of t_X1_uses_ok 8 rfl
theorem dX1_uses_15 : decode cX1_uses 15 = .ok (.iconst 0, 1) := dec_of t_X1_uses_ok 9 rfl
theorem dX1_uses_16 : decode cX1_uses 16 = .ok (.ireturn, 1) := dec_of t_X1_uses_ok 10 rfl
def t_X1_setUse : List (Nat × Instr × Nat) := [(0, .aload_n 0, 1), (1, .iload_n 2, 1), (2, .ifCond .eq 16, 3), (5, .aload_n 0, 1), (6, .getfield 36, 3), (9, .iconst 1, 1), (10, .iload_n 1, 1), (11, .ishl, 1), (12, .iconst (-1), 1), (13, .ixor, 1), (14, .iand, 1), (15, .goto 11, 3), (18, .aload_n 0, 1), (19, .getfield 36, 3), (22, .iconst 1, 1), (23, .iload_n 1, 1), (24, .ishl, 1), (25, .ior, 1), (26, .putfield 36, 3), (29, .return_, 1)]
theorem t_X1_setUse_ok : dec_ok cX1_setUse t_X1_setUse = true := by decide +kernel
theorem dX1_setUse_0 : decode cX1_setUse 0 = .ok (.aload_n 0, 1) := dec_of t_X1_setUse_ok 0 rfl
theorem dX1_setUse_1 : decode cX1_setUse 1 = .ok (.iload_n 2, 1) := dec_of t_X1_setUse_ok 1 rfl
theorem dX1_setUse_2 : decode cX1_setUse 2 = .ok (.ifCond .eq 16, 3) := dec_of t_X1_setUse_ok 2 rfl
theorem dX1_setUse_5 : decode cX1_setUse 5 = .ok (.aload_n 0, 1) := dec_of t_X1_setUse_ok 3 rfl
theorem dX1_setUse_6 : decode cX1_setUse 6 = .ok (.getfield 36, 3) := dec_of t_X1_setUse_ok 4 rfl
theorem dX1_setUse_9 : decode cX1_setUse 9 = .ok (.iconst 1, 1) := dec_of t_X1_setUse_ok 5 rfl
theorem dX1_setUse_10 : decode cX1_setUse 10 = .ok (.iload_n 1, 1) := dec_of t_X1_setUse_ok 6 rfl
theorem dX1_setUse_11 : decode cX1_setUse 11 = .ok (.ishl, 1) := dec_of t_X1_setUse_ok 7 rfl
theorem dX1_setUse_12 : decode cX1_setUse 12 = .ok (.iconst (-1), 1) := dec_of t_X1_setUse_ok 8 rfl
theorem dX1_setUse_13 : decode cX1_setUse 13 = .ok (.ixor, 1) := dec_of t_X1_setUse_ok 9 rfl
theorem dX1_setUse_14 : decode cX1_setUse 14 = .ok (.iand, 1) := dec_of t_X1_setUse_ok 10 rfl
theorem dX1_setUse_15 : decode cX1_setUse 15 = .ok (.goto 11, 3) := dec_of t_X1_setUse_ok 11 rfl
theorem dX1_setUse_18 : decode cX1_setUse 18 = .ok (.aload_n 0, 1) := dec_of t_X1_setUse_ok 12 rfl
theorem dX1_setUse_19 : decode cX1_setUse 19 = .ok (.getfield 36, 3) := dec_of t_X1_setUse_ok 13 rfl
theorem dX1_setUse_22 : decode cX1_setUse 22 = .ok (.iconst 1, 1) := dec_of t_X1_setUse_ok 14 rfl
theorem dX1_setUse_23 : decode cX1_setUse 23 = .ok (.iload_n 1, 1) := dec_of t_X1_setUse_ok 15 rfl
theorem dX1_setUse_24 : decode cX1_setUse 24 = .ok (.ishl, 1) := dec_of t_X1_setUse_ok 16 rfl
theorem dX1_setUse_25 : decode cX1_setUse 25 = .ok (.ior, 1) := dec_of t_X1_setUse_ok 17 rfl
theorem dX1_setUse_26 : decode cX1_setUse 26 = .ok (.putfield 36, 3) := dec_of t_X1_setUse_ok 18 rfl
theorem dX1_setUse_29 : decode cX1_setUse 29 = .ok (.return_, 1) := dec_of t_X1_setUse_ok 19 rfl
def t_X1_ignoredCount : List (Nat × Instr × Nat) := [(0, .aload_n 0, 1), (1, .getfield 23, 3), (4, .invokevirtual 39, 3), (7, .ireturn, 1)]
theorem t_X1_ignoredCount_ok : dec_ok cX1_ignoredCount t_X1_ignoredCount = true := by decide +kernel
theorem dX1_ignoredCount_0 : decode cX1_ignoredCount 0 = .ok (.aload_n 0, 1) := dec_of t_X1_ignoredCount_ok 0 rfl
theorem dX1_ignoredCount_1 : decode cX1_ignoredCount 1 = .ok (.getfield 23, 3) := dec_of t_X1_ignoredCount_ok 1 rfl
theorem dX1_ignoredCount_4 : decode cX1_ignoredCount 4 = .ok (.invokevirtual 39, 3) := dec_of t_X1_ignoredCount_ok 2 rfl
theorem dX1_ignoredCount_7 : decode cX1_ignoredCount 7 = .ok (.ireturn, 1) := dec_of t_X1_ignoredCount_ok 3 rfl
def t_X1_addIgnored : List (Nat × Instr × Nat) := [(0, .aload_n 0, 1), (1, .getfield 23, 3), (4, .iload_n 1, 1), (5, .invokevirtual 43, 3), (8, .aload_n 0, 1), (9, .getfield 26, 3), (12, .iload_n 2, 1), (13, .invokevirtual 43, 3), (16, .aload_n 0, 1), (17, .getfield 29, 3), (20, .iload_n 3, 1), (21, .invokevirtual 43, 3), (24, .return_, 1)]
theorem t_X1_addIgnored_ok : dec_ok cX1_addIgnored t_X1_addIgnored = true := by decide +kernel
theorem dX1_addIgnored_0 : decode cX1_addIgnored 0 = .ok (.aload_n 0, 1) := dec_of t_X1_addIgnored_ok 0 rfl
theorem dX1_addIgnored_1 : decode cX1_addIgnored 1 = .ok (.getfield 23, 3) := dec_of t_X1_addIgnored_ok 1 rfl
theorem dX1_addIgnored_4 : decode cX1_addIgnored 4 = .ok (.iload_n 1, 1) := dec_of t_X1_addIgnored_ok 2 rfl
theorem dX1_addIgnored_5 : decode cX1_addIgnored 5 = .ok (.invokevirtual 43, 3) := dec_of t_X1_addIgnored_ok 3 rfl
theorem dX1_addIgnored_8 : decode cX1_addIgnored 8 = .ok (.aload_n 0, 1) := dec_of t_X1_addIgnored_ok 4 rfl
theorem dX1_addIgnored_9 : decode cX1_addIgnored 9 = .ok (.getfield 26, 3) := dec_of t_X1_addIgnored_ok 5 rfl
theorem dX1_addIgnored_12 : decode cX1_addIgnored 12 = .ok (.iload_n 2, 1) := dec_of t_X1_addIgnored_ok 6 rfl
theorem dX1_addIgnored_13 : decode cX1_addIgnored 13 = .ok (.invokevirtual 43, 3) := dec_of t_X1_addIgnored_ok 7 rfl
theorem dX1_addIgnored_16 : decode cX1_addIgnored 16 = .ok (.aload_n 0, 1) := dec_of t_X1_addIgnored_ok 8 rfl
theorem dX1_addIgnored_17 : decode cX1_addIgnored 17 = .ok (.getfield 29, 3) := dec_of t_X1_addIgnored_ok 9 rfl
theorem dX1_addIgnored_20 : decode cX1_addIgnored 20 = .ok (.iload_n 3, 1) := dec_of t_X1_addIgnored_ok 10 rfl
theorem dX1_addIgnored_21 : decode cX1_addIgnored 21 = .ok (.invokevirtual 43, 3) := dec_of t_X1_addIgnored_ok 11 rfl
theorem dX1_addIgnored_24 : decode cX1_addIgnored 24 = .ok (.return_, 1) := dec_of t_X1_addIgnored_ok 12 rfl
def t_X1_clearIgnored : List (Nat × Instr × Nat) := [(0, .aload_n 0, 1), (1, .getfield 23, 3), (4, .invokevirtual 46, 3), (7, .aload_n 0, 1), (8, .getfield 26, 3), (11, .invokevirtual 46, 3), (14, .aload_n 0, 1), (15, .getfield 29, 3), (18, .invokevirtual 46, 3), (21, .return_, 1)]
theorem t_X1_clearIgnored_ok : dec_ok cX1_clearIgnored t_X1_clearIgnored = true := by decide +kernel
theorem dX1_clearIgnored_0 : decode cX1_clearIgnored 0 = .ok (.aload_n 0, 1) := dec_of t_X1_clearIgnored_ok 0 rfl
theorem dX1_clearIgnored_1 : decode cX1_clearIgnored 1 = .ok (.getfield 23, 3) := dec_of t_X1_clearIgnored_ok 1 rfl
theorem dX1_clearIgnored_4 : decode cX1_clearIgnored 4 = .ok (.invokevirtual 46, 3) := dec_of t_X1_clearIgnored_ok 2 rfl
theorem dX1_clearIgnored_7 : decode cX1_clearIgnored 7 = .ok (.aload_n 0, 1) := dec_of t_X1_clearIgnored_ok 3 rfl
theorem dX1_clearIgnored_8 : decode cX1_clearIgnored 8 = .ok (.getfield 26, 3) := dec_of t_X1_clearIgnored_ok 4 rfl
theorem dX1_clearIgnored_11 : decode cX1_clearIgnored 11 = .ok (.invokevirtual 46, 3) := dec_of t_X1_clearIgnored_ok 5 rfl
theorem dX1_clearIgnored_14 : decode cX1_clearIgnored 14 = .ok (.aload_n 0, 1) := dec_of t_X1_clearIgnored_ok 6 rfl
theorem dX1_clearIgnored_15 : decode cX1_clearIgnored 15 = .ok (.getfield 29, 3) := dec_of t_X1_clearIgnored_ok 7 rfl
theorem dX1_clearIgnored_18 : decode cX1_clearIgnored 18 = .ok (.invokevirtual 46, 3) := dec_of t_X1_clearIgnored_ok 8 rfl
theorem dX1_clearIgnored_21 : decode cX1_clearIgnored 21 = .ok (.return_, 1) := dec_of t_X1_clearIgnored_ok 9 rfl
def t_X1_ignores : List (Nat × Instr × Nat) := [(0, .iconst 0, 1), (1, .istore 4, 2), (3, .iload 4, 2), (5, .aload_n 0, 1), (6, .invokevirtual 49, 3), (9, .if_icmp .ge 50, 3), (12, .aload_n 0, 1), (13, .getfield 23, 3), (16, .iload 4, 2), (18, .invokevirtual 52, 3), (21, .iload_n 1, 1), (22, .if_icmp .ne 31, 3), (25, .aload_n 0, 1), (26, .getfield 26, 3), (29, .iload 4, 2), (31, .invokevirtual 52, 3), (34, .iload_n 2, 1), (35, .if_icmp .ne 18, 3), (38, .aload_n 0, 1), (39, .getfield 29, 3), (42, .iload 4, 2), (44, .invokevirtual 52, 3), (47, .iload_n 3, 1), (48, .if_icmp .ne 5, 3), (51, .iconst 1, 1), (52, .ireturn, 1), (53, .iinc 4 1, 3), (56, .goto (-53), 3), (59, .iconst 0, 1), (60, .ireturn, 1)]
theorem t_X1_ignores_ok : dec_ok cX1_ignores t_X1_ignores = true := by decide +kernel
theorem dX1_ignores_0 : decode cX1_ignores 0 = .ok (.iconst 0, 1) := dec_of t_X1_ignores_ok 0 rfl
theorem dX1_ignores_1 : decode cX1_ignores 1 = .ok (.istore 4, 2) := dec_of t_X1_ignores_ok 1 rfl
theorem dX1_ignores_3 : decode cX1_ignores 3 = .ok (.iload 4, 2) := dec_of t_X1_ignores_ok 2 rfl
theorem dX1_ignores_5 : decode cX1_ignores 5 = .ok (.aload_n 0, 1) := dec_of t_X1_ignores_ok 3 rfl
theorem dX1_ignores_6 : decode cX1_ignores 6 = .ok (.invokevirtual 49, 3) := dec_of t_X1_ignores_ok 4 rfl
theorem dX1_ignores_9 : decode cX1_ignores 9 = .ok (.if_icmp .ge 50, 3) := dec_of t_X1_ignores_ok 5 rfl
theorem dX1_ignores_12 : decode cX1_ignores 12 = .ok (.aload_n 0, 1) := dec_of t_X1_ignores_ok 6 rfl
theorem dX1_ignores_13 : decode cX1_ignores 13 = .ok (.getfield 23, 3) := dec_of t_X1_ignores_ok 7 rfl
theorem dX1_ignores_16 : decode cX1_ignores 16 = .ok (.iload 4, 2) := dec_of t_X1_ignores_ok 8 rfl
theorem dX1_ignores_18 : decode cX1_ignores 18 = .ok (.invokevirtual 52, 3) := dec_of t_X1_ignores_ok 9 rfl
theorem dX1_ignores_21 : decode cX1_ignores 21 = .ok (.iload_n 1, 1) := dec_of t_X1_ignores_ok 10 rfl
theorem dX1_ignores_22 : decode cX1_ignores 22 = .ok (.if_icmp .ne 31, 3) := dec_of t_X1_ignores_ok 11 rfl
theorem dX1_ignores_25 : decode cX1_ignores 25 = .ok (.aload_n 0, 1) := dec_of t_X1_ignores_ok 12 rfl
theorem dX1_ignores_26 : decode cX1_ignores 26 = .ok (.getfield 26, 3) := dec_of t_X1_ignores_ok 13 rfl
theorem dX1_ignores_29 : decode cX1_ignores 29 = .ok (.iload 4, 2) := dec_of t_X1_ignores_ok 14 rfl
theorem dX1_ignores_31 : decode cX1_ignores 31 = .ok (.invokevirtual 52, 3) := dec_of t_X1_ignores_ok 15 rfl
theorem dX1_ignores_34 : decode cX1_ignores 34 = .ok (.iload_n 2, 1) := dec_of t_X1_ignores_ok 16 rfl
theorem dX1_ignores_35 : decode cX1_ignores 35 = .ok (.if_icmp .ne 18, 3) := dec_of t_X1_ignores_ok 17 rfl
theorem dX1_ignores_38 : decode cX1_ignores 38 = .ok (.aload_n 0, 1) := dec_of t_X1_ignores_ok 18 rfl
theorem dX1_ignores_39 : decode cX1_ignores 39 = .ok (.getfield 29, 3) := dec_of t_X1_ignores_ok 19 rfl
theorem dX1_ignores_42 : decode cX1_ignores 42 = .ok (.iload 4, 2) := dec_of t_X1_ignores_ok 20 rfl
theorem dX1_ignores_44 : decode cX1_ignores 44 = .ok (.invokevirtual 52, 3) := dec_of t_X1_ignores_ok 21 rfl
theorem dX1_ignores_47 : decode cX1_ignores 47 = .ok (.iload_n 3, 1) := dec_of t_X1_ignores_ok 22 rfl
theorem dX1_ignores_48 : decode cX1_ignores 48 = .ok (.if_icmp .ne 5, 3) := dec_of t_X1_ignores_ok 23 rfl
theorem dX1_ignores_51 : decode cX1_ignores 51 = .ok (.iconst 1, 1) := dec_of t_X1_ignores_ok 24 rfl
theorem dX1_ignores_52 : decode cX1_ignores 52 = .ok (.ireturn, 1) := dec_of t_X1_ignores_ok 25 rfl
theorem dX1_ignores_53 : decode cX1_ignores 53 = .ok (.iinc 4 1, 3) := dec_of t_X1_ignores_ok 26 rfl
theorem dX1_ignores_56 : decode cX1_ignores 56 = .ok (.goto (-53), 3) := dec_of t_X1_ignores_ok 27 rfl
theorem dX1_ignores_59 : decode cX1_ignores 59 = .ok (.iconst 0, 1) := dec_of t_X1_ignores_ok 28 rfl
theorem dX1_ignores_60 : decode cX1_ignores 60 = .ok (.ireturn, 1) := dec_of t_X1_ignores_ok 29 rfl
def t_X1_followPut : List (Nat × Instr × Nat) := [(0, .aload_n 0, 1), (1, .invokevirtual 49, 3), (4, .iconst 1, 1), (5, .isub, 1), (6, .istore_n 2, 1), (7, .iload_n 2, 1), (8, .ifCond .lt 56, 3), (11, .aload_n 0, 1), (12, .getfield 26, 3), (15, .iload_n 2, 1), (16, .invokevirtual 52, 3), (19, .istore_n 3, 1), (20, .iload_n 1, 1), (21, .iload_n 3, 1), (22, .if_icmp .gt 17, 3), (25, .aload_n 0, 1), (26, .getfield 26, 3), (29, .iload_n 2, 1), (30, .iload_n 3, 1), (31, .iconst 1, 1), (32, .iadd, 1), (33, .invokevirtual 56, 3), (36, .goto 22, 3), (39, .iload_n 1, 1), (40, .iload_n 3, 1), (41, .aload_n 0, 1), (42, .getfield 29, 3), (45, .iload_n 2, 1), (46, .invokevirtual 52, 3), (49, .iadd, 1), (50, .if_icmp .ge 8, 3), (53, .aload_n 0, 1), (54, .iload_n 2, 1), (55, .invokevirtual 60, 3), (58, .iinc 2 (-1), 3), (61, .goto (-54), 3), (64, .return_, 1)]
theorem t_X1_followPut_ok : dec_ok cX1_followPut t_X1_followPut = true := by decide +kernel
theorem dX1_followPut_0 : decode cX1_followPut 0 = .ok (.aload_n 0, 1) := dec_of t_X1_followPut_ok 0 rfl
theorem dX1_followPut_1 : decode cX1_followPut 1 = .ok (.invokevirtual 49, 3) := dec_of t_X1_followPut_ok 1 rfl
theorem dX1_followPut_4 : decode cX1_followPut 4 = .ok (.iconst 1, 1) := dec_of t_X1_followPut_ok 2 rfl
theorem dX1_followPut_5 : decode cX1_followPut 5 = .ok (.isub, 1) := dec_of t_X1_followPut_ok 3 rfl
theorem dX1_followPut_6 : decode cX1_followPut 6 = .ok (.istore_n 2, 1) := dec_of t_X1_followPut_ok 4 rfl
theorem dX1_followPut_7 : decode cX1_followPut 7 = .ok (.iload_n 2, 1) := dec_of t_X1_followPut_ok 5 rfl
theorem dX1_followPut_8 : decode cX1_followPut 8 = .ok (.ifCond .lt 56, 3) := dec_of t_X1_followPut_ok 6 rfl
theorem dX1_followPut_11 : decode cX1_followPut 11 = .ok (.aload_n 0, 1) := dec_of t_X1_followPut_ok 7 rfl
theorem dX1_followPut_12 : decode cX1_followPut 12 = .ok (.getfield 26, 3) := dec_of t_X1_followPut_ok 8 rfl
theorem dX1_followPut_15 : decode cX1_followPut 15 = .ok (.iload_n 2, 1) := dec_of t_X1_followPut_ok 9 rfl
theorem dX1_followPut_16 : decode cX1_followPut 16 = .ok (.invokevirtual 52, 3) := dec_of t_X1_followPut_ok 10 rfl
theorem dX1_followPut_19 : decode cX1_followPut 19 = .ok (.istore_n 3, 1) := dec_of t_X1_followPut_ok 11 rfl
theorem dX1_followPut_20 : decode cX1_followPut 20 = .ok (.iload_n 1, 1) := dec_of t_X1_followPut_ok 12 rfl
theorem dX1_followPut_21 : decode cX1_followPut 21 = .ok (.iload_n 3, 1) := dec_of t_X1_followPut_ok 13 rfl
theorem dX1_followPut_22 : decode cX1_followPut 22 = .ok (.if_icmp .gt 17, 3) := dec_of t_X1_followPut_ok 14 rfl
theorem dX1_followPut_25 : decode cX1_followPut 25 = .ok (.aload_n 0, 1) := dec_of t_X1_followPut_ok 15 rfl
theorem dX1_followPut_26 : decode cX1_followPut 26 = .ok (.getfield 26, 3) := dec_of t_X1_followPut_ok 16 rfl
theorem dX1_followPut_29 : decode cX1_followPut 29 = .ok (.iload_n 2, 1) := dec_of t_X1_followPut_ok 17 rfl
theorem dX1_followPut_30 : decode cX1_followPut 30 = .ok (.iload_n 3, 1) := dec_of t_X1_followPut_ok 18 rfl
theorem dX1_followPut_31 : decode cX1_followPut 31 = .ok (.iconst 1, 1) := dec_of t_X1_followPut_ok 19 rfl
theorem dX1_followPut_32 : decode cX1_followPut 32 = .ok (.iadd, 1) := dec_of t_X1_followPut_ok 20 rfl
theorem dX1_followPut_33 : decode cX1_followPut 33 = .ok (.invokevirtual 56, 3) := dec_of t_X1_followPut_ok 21 rfl
theorem dX1_followPut_36 : decode cX1_followPut 36 = .ok (.goto 22, 3) := dec_of t_X1_followPut_ok 22 rfl
theorem dX1_followPut_39 : decode cX1_followPut 39 = .ok (.iload_n 1, 1) := dec_of t_X1_followPut_ok 23 rfl
theorem dX1_followPut_40 : decode cX1_followPut 40 = .ok (.iload_n 3, 1) := dec_of t_X1_followPut_ok 24 rfl
theorem dX1_followPut_41 : decode cX1_followPut 41 = .ok (.aload_n 0, 1) := dec_of t_X1_followPut_ok 25 rfl
theorem dX1_followPut_42 : decode cX1_followPut 42 = .ok (.getfield 29, 3) := dec_of t_X1_followPut_ok 26 rfl
theorem dX1_followPut_45 : decode cX1_followPut 45 = .ok (.iload_n 2, 1) := dec_of t_X1_followPut_ok 27 rfl
theorem dX1_followPut_46 : decode cX1_followPut 46 = .ok (.invokevirtual 52, 3) := dec_of t_X1_followPut_ok 28 rfl
theorem dX1_followPut_49 : decode cX1_followPut 49 = .ok (.iadd, 1) := dec_of t_X1_followPut_ok 29 rfl
theorem dX1_followPut_50 : decode cX1_followPut 50 = .ok (.if_icmp .ge 8, 3) := dec_of t_X1_followPut_ok 30 rfl
theorem dX1_followPut_53 : decode cX1_followPut 53 = .ok (.aload_n 0, 1) := dec_of t_X1_followPut_ok 31 rfl
theorem dX1_followPut_54 : decode cX1_followPut 54 = .ok (.iload_n 2, 1) := dec_of t_X1_followPut_ok 32 rfl
theorem dX1_followPut_55 : decode cX1_followPut 55 = .ok (.invokevirtual 60, 3) := dec_of t_X1_followPut_ok 33 rfl
theorem dX1_followPut_58 : decode cX1_followPut 58 = .ok (.iinc 2 (-1), 3) := dec_of t_X1_followPut_ok 34 rfl
theorem dX1_followPut_61 : decode cX1_followPut 61 = .ok (.goto (-54), 3) := dec_of t_X1_followPut_ok 35 rfl
theorem dX1_followPut_64 : decode cX1_followPut 64 = .ok (.return_, 1) := dec_of t_X1_followPut_ok 36 rfl
def t_X1_followTake : List (Nat × Instr × Nat) := [(0, .aload_n 0, 1), (1, .invokevirtual 49, 3), (4, .iconst 1, 1), (5, .isub, 1), (6, .istore_n 2, 1), (7, .iload_n 2, 1), (8, .ifCond .lt 56, 3), (11, .aload_n 0, 1), (12, .getfield 26, 3), (15, .iload_n 2, 1), (16, .invokevirtual 52, 3), (19, .istore_n 3, 1), (20, .iload_n 1, 1), (21, .iload_n 3, 1), (22, .if_icmp .ge 17, 3), (25, .aload_n 0, 1), (26, .getfield 26, 3), (29, .iload_n 2, 1), (30, .iload_n 3, 1), (31, .iconst 1, 1), (32, .isub, 1), (33, .invokevirtual 56, 3), (36, .goto 22, 3), (39, .iload_n 1, 1), (40, .iload_n 3, 1), (41, .aload_n 0, 1), (42, .getfield 29, 3), (45, .iload_n 2, 1), (46, .invokevirtual 52, 3), (49, .iadd, 1), (50, .if_icmp .ge 8, 3), (53, .aload_n 0, 1), (54, .iload_n 2, 1), (55, .invokevirtual 60, 3), (58, .iinc 2 (-1), 3), (61, .goto (-54), 3), (64, .return_, 1)]
theorem t_X1_followTake_ok : dec_ok cX1_followTake t_X1_followTake = true := by decide +kernel
theorem dX1_followTake_0 : decode cX1_followTake 0 = .ok (.aload_n 0, 1) := dec_of t_X1_followTake_ok 0 rfl
theorem dX1_followTake_1 : decode cX1_followTake 1 = .ok (.invokevirtual 49, 3) := dec_of t_X1_followTake_ok 1 rfl
theorem dX1_followTake_4 : decode cX1_followTake 4 = .ok (.iconst 1, 1) := dec_of t_X1_followTake_ok 2 rfl
theorem dX1_followTake_5 : decode cX1_followTake 5 = .ok (.isub, 1) := dec_of t_X1_followTake_ok 3 rfl
theorem dX1_followTake_6 : decode cX1_followTake 6 = .ok (.istore_n 2, 1) := dec_of t_X1_followTake_ok 4 rfl
theorem dX1_followTake_7 : decode cX1_followTake 7 = .ok (.iload_n 2, 1) := dec_of t_X1_followTake_ok 5 rfl
theorem dX1_followTake_8 : decode cX1_followTake 8 = .ok (.ifCond .lt 56, 3) := dec_of t_X1_followTake_ok 6 rfl
theorem dX1_followTake_11 : decode cX1_followTake 11 = .ok (.aload_n 0, 1) := dec_of t_X1_followTake_ok 7 rfl
theorem dX1_followTake_12 : decode cX1_followTake 12 = .ok (.getfield 26, 3) := dec_of t_X1_followTake_ok 8 rfl
theorem dX1_followTake_15 : decode cX1_followTake 15 = .ok (.iload_n 2, 1) := dec_of t_X1_followTake_ok 9 rfl
theorem dX1_followTake_16 : decode cX1_followTake 16 = .ok (.invokevirtual 52, 3) := dec_of t_X1_followTake_ok 10 rfl
theorem dX1_followTake_19 : decode cX1_followTake 19 = .ok (.istore_n 3, 1) := dec_of t_X1_followTake_ok 11 rfl
theorem dX1_followTake_20 : decode cX1_followTake 20 = .ok (.iload_n 1, 1) := dec_of t_X1_followTake_ok 12 rfl
theorem dX1_followTake_21 : decode cX1_followTake 21 = .ok (.iload_n 3, 1) := dec_of t_X1_followTake_ok 13 rfl
theorem dX1_followTake_22 : decode cX1_followTake 22 = .ok (.if_icmp .ge 17, 3) := dec_of t_X1_followTake_ok 14 rfl
theorem dX1_followTake_25 : decode cX1_followTake 25 = .ok (.aload_n 0, 1) := dec_of t_X1_followTake_ok 15 rfl
theorem dX1_followTake_26 : decode cX1_followTake 26 = .ok (.getfield 26, 3) := dec_of t_X1_followTake_ok 16 rfl
theorem dX1_followTake_29 : decode cX1_followTake 29 = .ok (.iload_n 2, 1) := dec_of t_X1_followTake_ok 17 rfl
theorem dX1_followTake_30 : decode cX1_followTake 30 = .ok (.iload_n 3, 1) := dec_of t_X1_followTake_ok 18 rfl
theorem dX1_followTake_31 : decode cX1_followTake 31 = .ok (.iconst 1, 1) := dec_of t_X1_followTake_ok 19 rfl
theorem dX1_followTake_32 : decode cX1_followTake 32 = .ok (.isub, 1) := dec_of t_X1_followTake_ok 20 rfl
theorem dX1_followTake_33 : decode cX1_followTake 33 = .ok (.invokevirtual 56, 3) := dec_of t_X1_followTake_ok 21 rfl
theorem dX1_followTake_36 : decode cX1_followTake 36 = .ok (.goto 22, 3) := dec_of t_X1_followTake_ok 22 rfl
theorem dX1_followTake_39 : decode cX1_followTake 39 = .ok (.iload_n 1, 1) := dec_of t_X1_followTake_ok 23 rfl
theorem dX1_followTake_40 : decode cX1_followTake 40 = .ok (.iload_n 3, 1) := dec_of t_X1_followTake_ok 24 rfl
theorem dX1_followTake_41 : decode cX1_followTake 41 = .ok (.aload_n 0, 1) := dec_of t_X1_followTake_ok 25 rfl
theorem dX1_followTake_42 : decode cX1_followTake 42 = .ok (.getfield 29, 3) := dec_of t_X1_followTake_ok 26 rfl
theorem dX1_followTake_45 : decode cX1_followTake 45 = .ok (.iload_n 2, 1) := dec_of t_X1_followTake_ok 27 rfl
theorem dX1_followTake_46 : decode cX1_followTake 46 = .ok (.invokevirtual 52, 3) := dec_of t_X1_followTake_ok 28 rfl
theorem dX1_followTake_49 : decode cX1_followTake 49 = .ok (.iadd, 1) := dec_of t_X1_followTake_ok 29 rfl
theorem dX1_followTake_50 : decode cX1_followTake 50 = .ok (.if_icmp .ge 8, 3) := dec_of t_X1_followTake_ok 30 rfl
theorem dX1_followTake_53 : decode cX1_followTake 53 = .ok (.aload_n 0, 1) := dec_of t_X1_followTake_ok 31 rfl
theorem dX1_followTake_54 : decode cX1_followTake 54 = .ok (.iload_n 2, 1) := dec_of t_X1_followTake_ok 32 rfl
theorem dX1_followTake_55 : decode cX1_followTake 55 = .ok (.invokevirtual 60, 3) := dec_of t_X1_followTake_ok 33 rfl
theorem dX1_followTake_58 : decode cX1_followTake 58 = .ok (.iinc 2 (-1), 3) := dec_of t_X1_followTake_ok 34 rfl
theorem dX1_followTake_61 : decode cX1_followTake 61 = .ok (.goto (-54), 3) := dec_of t_X1_followTake_ok 35 rfl
theorem dX1_followTake_64 : decode cX1_followTake 64 = .ok (.return_, 1) := dec_of t_X1_followTake_ok 36 rfl
def t_X1_forget : List (Nat × Instr × Nat) := [(0, .aload_n 0, 1), (1, .getfield 23, 3), (4, .iload_n 1, 1), (5, .invokevirtual 63, 3), (8, .pop, 1), (9, .aload_n 0, 1), (10, .getfield 26, 3), (13, .iload_n 1, 1), (14, .invokevirtual 63, 3), (17, .pop, 1), (18, .aload_n 0, 1), (19, .getfield 29, 3), (22, .iload_n 1, 1), (23, .invokevirtual 63, 3), (26, .pop, 1), (27, .return_, 1)]
theorem t_X1_forget_ok : dec_ok cX1_forget t_X1_forget = true := by decide +kernel
theorem dX1_forget_0 : decode cX1_forget 0 = .ok (.aload_n 0, 1) := dec_of t_X1_forget_ok 0 rfl
theorem dX1_forget_1 : decode cX1_forget 1 = .ok (.getfield 23, 3) := dec_of t_X1_forget_ok 1 rfl
theorem dX1_forget_4 : decode cX1_forget 4 = .ok (.iload_n 1, 1) := dec_of t_X1_forget_ok 2 rfl
theorem dX1_forget_5 : decode cX1_forget 5 = .ok (.invokevirtual 63, 3) := dec_of t_X1_forget_ok 3 rfl
theorem dX1_forget_8 : decode cX1_forget 8 = .ok (.pop, 1) := dec_of t_X1_forget_ok 4 rfl
theorem dX1_forget_9 : decode cX1_forget 9 = .ok (.aload_n 0, 1) := dec_of t_X1_forget_ok 5 rfl
theorem dX1_forget_10 : decode cX1_forget 10 = .ok (.getfield 26, 3) := dec_of t_X1_forget_ok 6 rfl
theorem dX1_forget_13 : decode cX1_forget 13 = .ok (.iload_n 1, 1) := dec_of t_X1_forget_ok 7 rfl
theorem dX1_forget_14 : decode cX1_forget 14 = .ok (.invokevirtual 63, 3) := dec_of t_X1_forget_ok 8 rfl
theorem dX1_forget_17 : decode cX1_forget 17 = .ok (.pop, 1) := dec_of t_X1_forget_ok 9 rfl
theorem dX1_forget_18 : decode cX1_forget 18 = .ok (.aload_n 0, 1) := dec_of t_X1_forget_ok 10 rfl
theorem dX1_forget_19 : decode cX1_forget 19 = .ok (.getfield 29, 3) := dec_of t_X1_forget_ok 11 rfl
theorem dX1_forget_22 : decode cX1_forget 22 = .ok (.iload_n 1, 1) := dec_of t_X1_forget_ok 12 rfl
theorem dX1_forget_23 : decode cX1_forget 23 = .ok (.invokevirtual 63, 3) := dec_of t_X1_forget_ok 13 rfl
theorem dX1_forget_26 : decode cX1_forget 26 = .ok (.pop, 1) := dec_of t_X1_forget_ok 14 rfl
theorem dX1_forget_27 : decode cX1_forget 27 = .ok (.return_, 1) := dec_of t_X1_forget_ok 15 rfl
def t_X1_ignoredLieWithin : List (Nat × Instr × Nat) := [(0, .iconst 0, 1), (1, .istore_n 2, 1), (2, .iload_n 2, 1), (3, .aload_n 0, 1), (4, .invokevirtual 49, 3), (7, .if_icmp .ge 38, 3), (10, .aload_n 0, 1), (11, .getfield 26, 3), (14, .iload_n 2, 1), (15, .invokevirtual 52, 3), (18, .istore_n 3, 1), (19, .iload_n 3, 1), (20, .ifCond .lt 17, 3), (23, .iload_n 3, 1), (24, .aload_n 0, 1), (25, .getfield 29, 3), (28, .iload_n 2, 1), (29, .invokevirtual 52, 3), (32, .iadd, 1), (33, .iload_n 1, 1), (34, .if_icmp .le 5, 3), (37, .iconst 0, 1), (38, .ireturn, 1), (39, .iinc 2 1, 3), (42, .goto (-40), 3), (45, .iconst 1, 1), (46, .ireturn, 1)]
theorem t_X1_ignoredLieWithin_ok : dec_ok cX1_ignoredLieWithin t_X1_ignoredLieWithin = true := by decide +kernel
theorem dX1_ignoredLieWithin_0 : decode cX1_ignoredLieWithin 0 = .ok (.iconst 0, 1) := dec_of t_X1_ignoredLieWithin_ok 0 rfl
theorem dX1_ignoredLieWithin_1 : decode cX1_ignoredLieWithin 1 = .ok (.istore_n 2, 1) := dec_of t_X1_ignoredLieWithin_ok 1 rfl
theorem dX1_ignoredLieWithin_2 : decode cX1_ignoredLieWithin 2 = .ok (.iload_n 2, 1) := dec_of t_X1_ignoredLieWithin_ok 2 rfl
theorem dX1_ignoredLieWithin_3 : decode cX1_ignoredLieWithin 3 = .ok (.aload_n 0, 1) := dec_of t_X1_ignoredLieWithin_ok 3 rfl
theorem dX1_ignoredLieWithin_4 : decode cX1_ignoredLieWithin 4 = .ok (.invokevirtual 49, 3) := dec_of t_X1_ignoredLieWithin_ok 4 rfl
theorem dX1_ignoredLieWithin_7 : decode cX1_ignoredLieWithin 7 = .ok (.if_icmp .ge 38, 3) := dec_of t_X1_ignoredLieWithin_ok 5 rfl
theorem dX1_ignoredLieWithin_10 : decode cX1_ignoredLieWithin 10 = .ok (.aload_n 0, 1) := dec_of t_X1_ignoredLieWithin_ok 6 rfl
theorem dX1_ignoredLieWithin_11 : decode cX1_ignoredLieWithin 11 = .ok (.getfield 26, 3) := dec_of t_X1_ignoredLieWithin_ok 7 rfl
theorem dX1_ignoredLieWithin_14 : decode cX1_ignoredLieWithin 14 = .ok (.iload_n 2, 1) := dec_of t_X1_ignoredLieWithin_ok 8 rfl
theorem dX1_ignoredLieWithin_15 : decode cX1_ignoredLieWithin 15 = .ok (.invokevirtual 52, 3) := dec_of t_X1_ignoredLieWithin_ok 9 rfl
theorem dX1_ignoredLieWithin_18 : decode cX1_ignoredLieWithin 18 = .ok (.istore_n 3, 1) := dec_of t_X1_ignoredLieWithin_ok 10 rfl
theorem dX1_ignoredLieWithin_19 : decode cX1_ignoredLieWithin 19 = .ok (.iload_n 3, 1) := dec_of t_X1_ignoredLieWithin_ok 11 rfl
theorem dX1_ignoredLieWithin_20 : decode cX1_ignoredLieWithin 20 = .ok (.ifCond .lt 17, 3) := dec_of t_X1_ignoredLieWithin_ok 12 rfl
theorem dX1_ignoredLieWithin_23 : decode cX1_ignoredLieWithin 23 = .ok (.iload_n 3, 1) := dec_of t_X1_ignoredLieWithin_ok 13 rfl
theorem dX1_ignoredLieWithin_24 : decode cX1_ignoredLieWithin 24 = .ok (.aload_n 0, 1) := dec_of t_X1_ignoredLieWithin_ok 14 rfl
theorem dX1_ignoredLieWithin_25 : decode cX1_ignoredLieWithin 25 = .ok (.getfield 29, 3) := dec_of t_X1_ignoredLieWithin_ok 15 rfl
theorem dX1_ignoredLieWithin_28 : decode cX1_ignoredLieWithin 28 = .ok (.iload_n 2, 1) := dec_of t_X1_ignoredLieWithin_ok 16 rfl
theorem dX1_ignoredLieWithin_29 : decode cX1_ignoredLieWithin 29 = .ok (.invokevirtual 52, 3) := dec_of t_X1_ignoredLieWithin_ok 17 rfl
theorem dX1_ignoredLieWithin_32 : decode cX1_ignoredLieWithin 32 = .ok (.iadd, 1) := dec_of t_X1_ignoredLieWithin_ok 18 rfl
theorem dX1_ignoredLieWithin_33 : decode cX1_ignoredLieWithin 33 = .ok (.iload_n 1, 1) := dec_of t_X1_ignoredLieWithin_ok 19 rfl
theorem dX1_ignoredLieWithin_34 : decode cX1_ignoredLieWithin 34 = .ok (.if_icmp .le 5, 3) := dec_of t_X1_ignoredLieWithin_ok 20 rfl
theorem dX1_ignoredLieWithin_37 : decode cX1_ignoredLieWithin 37 = .ok (.iconst 0, 1) := dec_of t_X1_ignoredLieWithin_ok 21 rfl
theorem dX1_ignoredLieWithin_38 : decode cX1_ignoredLieWithin 38 = .ok (.ireturn, 1) := dec_of t_X1_ignoredLieWithin_ok 22 rfl
theorem dX1_ignoredLieWithin_39 : decode cX1_ignoredLieWithin 39 = .ok (.iinc 2 1, 3) := dec_of t_X1_ignoredLieWithin_ok 23 rfl
theorem dX1_ignoredLieWithin_42 : decode cX1_ignoredLieWithin 42 = .ok (.goto (-40), 3) := dec_of t_X1_ignoredLieWithin_ok 24 rfl
theorem dX1_ignoredLieWithin_45 : decode cX1_ignoredLieWithin 45 = .ok (.iconst 1, 1) := dec_of t_X1_ignoredLieWithin_ok 25 rfl
theorem dX1_ignoredLieWithin_46 : decode cX1_ignoredLieWithin 46 = .ok (.ireturn, 1) := dec_of t_X1_ignoredLieWithin_ok 26 rfl
def t_X2_init : List (Nat × Instr × Nat) := [(0, .aload_n 0, 1), (1, .invokespecial 3, 3), (4, .aload_n 0, 1), (5, .aload_n 1, 1), (6, .putfield 9, 3), (9, .aload_n 0, 1), (10, .aload_n 2, 1), (11, .putfield 15, 3), (14, .aload_n 0, 1), (15, .new 19, 3), (18, .dup, 1), (19, .sipush 160, 3), (22, .invokespecial 21, 3), (25, .putfield 24, 3), (28, .aload_n 0, 1), (29, .new 19, 3), (32, .dup, 1), (33, .sipush 160, 3), (36, .invokespecial 21, 3), (39, .putfield 28, 3), (42, .aload_n 0, 1), (43, .new 19, 3), (46, .dup, 1), (47, .sipush 160, 3), (50, .invokespecial 21, 3), (53, .putfield 31, 3), (56, .aload_n 0, 1), (57, .new 19, 3), (60, .dup, 1), (61, .sipush 160, 3), (64, .invokespecial 21, 3), (67, .putfield 34, 3), (70, .return_, 1)]
theorem t_X2_init_ok : dec_ok cX2_init t_X2_init = true := by decide +kernel
theorem dX2_init_0 : decode cX2_init 0 = .ok (.aload_n 0, 1) := dec_of t_X2_init_ok 0 rfl
theorem dX2_init_1 : decode cX2_init 1 = .ok (.invokespecial 3, 3) := dec_of t_X2_init_ok 1 rfl
theorem dX2_init_4 : decode cX2_init 4 = .ok (.aload_n 0, 1) := dec_of t_X2_init_ok 2 rfl
theorem dX2_init_5 : decode cX2_init 5 = .ok (.aload_n 1, 1) := dec_of t_X2_init_ok 3 rfl
theorem dX2_init_6 : decode cX2_init 6 = .ok (.putfield 9, 3) := dec_of t_X2_init_ok 4 rfl
theorem dX2_init_9 : decode cX2_init 9 = .ok (.aload_n 0, 1) := dec_of t_X2_init_ok 5 rfl
theorem dX2_init_10 : decode cX2_init 10 = .ok (.aload_n 2, 1) := dec_of t_X2_init_ok 6 rfl
theorem dX2_init_11 : decode cX2_init 11 = .ok (.putfield 15, 3) := dec_of t_X2_init_ok 7 rfl
theorem dX2_init_14 : decode cX2_init 14 = .ok (.aload_n 0, 1) := dec_of t_X2_init_ok 8 rfl
theorem dX2_init_15 : decode cX2_init 15 = .ok (.new 19, 3) := dec_of t_X2_init_ok 9 rfl
theorem dX2_init_18 : decode cX2_init 18 = .ok (.dup, 1) := dec_of t_X2_init_ok 10 rfl
theorem dX2_init_19 : decode cX2_init 19 = .ok (.sipush 160, 3) := dec_of t_X2_init_ok 11 rfl
theorem dX2_init_22 : decode cX2_init 22 = .ok (.invokespecial 21, 3) := dec_of t_X2_init_ok 12 rfl
theorem dX2_init_25 : decode cX2_init 25 = .ok (.putfield 24, 3) := dec_of t_X2_init_ok 13 rfl
theorem dX2_init_28 : decode cX2_init 28 = .ok (.aload_n 0, 1) := dec_of t_X2_init_ok 14 rfl
theorem dX2_init_29 : decode cX2_init 29 = .ok (.new 19, 3) := dec_of t_X2_init_ok 15 rfl
theorem dX2_init_32 : decode cX2_init 32 = .ok (.dup, 1) := dec_of t_X2_init_ok 16 rfl
theorem dX2_init_33 : decode cX2_init 33 = .ok (.sipush 160, 3) := dec_of t_X2_init_ok 17 rfl
theorem dX2_init_36 : decode cX2_init 36 = .ok (.invokespecial 21, 3) := dec_of t_X2_init_ok 18 rfl
theorem dX2_init_39 : decode cX2_init 39 = .ok (.putfield 28, 3) := dec_of t_X2_init_ok 19 rfl
theorem dX2_init_42 : decode cX2_init 42 = .ok (.aload_n 0, 1) := dec_of t_X2_init_ok 20 rfl
theorem dX2_init_43 : decode cX2_init 43 = .ok (.new 19, 3) := dec_of t_X2_init_ok 21 rfl
theorem dX2_init_46 : decode cX2_init 46 = .ok (.dup, 1) := dec_of t_X2_init_ok 22 rfl
theorem dX2_init_47 : decode cX2_init 47 = .ok (.sipush 160, 3) := dec_of t_X2_init_ok 23 rfl
theorem dX2_init_50 : decode cX2_init 50 = .ok (.invokespecial 21, 3) := dec_of t_X2_init_ok 24 rfl
theorem dX2_init_53 : decode cX2_init 53 = .ok (.putfield 31, 3) := dec_of t_X2_init_ok 25 rfl
theorem dX2_init_56 : decode cX2_init 56 = .ok (.aload_n 0, 1) := dec_of t_X2_init_ok 26 rfl
theorem dX2_init_57 : decode cX2_init 57 = .ok (.new 19, 3) := dec_of t_X2_init_ok 27 rfl
theorem dX2_init_60 : decode cX2_init 60 = .ok (.dup, 1) := dec_of t_X2_init_ok 28 rfl
theorem dX2_init_61 : decode cX2_init 61 = .ok (.sipush 160, 3) := dec_of t_X2_init_ok 29 rfl
theorem dX2_init_64 : decode cX2_init 64 = .ok (.invokespecial 21, 3) := dec_of t_X2_init_ok 30 rfl
theorem dX2_init_67 : decode cX2_init 67 = .ok (.putfield 34, 3) := dec_of t_X2_init_ok 31 rfl
theorem dX2_init_70 : decode cX2_init 70 = .ok (.return_, 1) := dec_of t_X2_init_ok 32 rfl
def t_X2_count : List (Nat × Instr × Nat) := [(0, .aload_n 0, 1), (1, .getfield 31, 3), (4, .invokevirtual 37, 3), (7, .ireturn, 1)]
theorem t_X2_count_ok : dec_ok cX2_count t_X2_count = true := by decide +kernel
theorem dX2_count_0 : decode cX2_count 0 = .ok (.aload_n 0, 1) := dec_of t_X2_count_ok 0 rfl
theorem dX2_count_1 : decode cX2_count 1 = .ok (.getfield 31, 3) := dec_of t_X2_count_ok 1 rfl
theorem dX2_count_4 : decode cX2_count 4 = .ok (.invokevirtual 37, 3) := dec_of t_X2_count_ok 2 rfl
theorem dX2_count_7 : decode cX2_count 7 = .ok (.ireturn, 1) := dec_of t_X2_count_ok 3 rfl
def t_X2_tokenOf : List (Nat × Instr × Nat) := [(0, .aload_n 0, 1), (1, .getfield 31, 3), (4, .iload_n 1, 1), (5, .invokevirtual 41, 3), (8, .ireturn, 1)]
theorem t_X2_tokenOf_ok : dec_ok cX2_tokenOf t_X2_tokenOf = true := by decide +kernel
theorem dX2_tokenOf_0 : decode cX2_tokenOf 0 = .ok (.aload_n 0, 1) := dec_of t_X2_tokenOf_ok 0 rfl
theorem dX2_tokenOf_1 : decode cX2_tokenOf 1 = .ok (.getfield 31, 3) := dec_of t_X2_tokenOf_ok 1 rfl
theorem dX2_tokenOf_4 : decode cX2_tokenOf 4 = .ok (.iload_n 1, 1) := dec_of t_X2_tokenOf_ok 2 rfl
theorem dX2_tokenOf_5 : decode cX2_tokenOf 5 = .ok (.invokevirtual 41, 3) := dec_of t_X2_tokenOf_ok 3 rfl
theorem dX2_tokenOf_8 : decode cX2_tokenOf 8 = .ok (.ireturn, 1) := dec_of t_X2_tokenOf_ok 4 rfl
def t_X2_ruleOf : List (Nat × Instr × Nat) := [(0, .aload_n 0, 1), (1, .getfield 34, 3), (4, .iload_n 1, 1), (5, .invokevirtual 41, 3), (8, .ireturn, 1)]
theorem t_X2_ruleOf_ok : dec_ok cX2_ruleOf t_X2_ruleOf = true := by decide +kernel
theorem dX2_ruleOf_0 : decode cX2_ruleOf 0 = .ok (.aload_n 0, 1) := dec_of t_X2_ruleOf_ok 0 rfl
theorem dX2_ruleOf_1 : decode cX2_ruleOf 1 = .ok (.getfield 34, 3) := dec_of t_X2_ruleOf_ok 1 rfl
theorem dX2_ruleOf_4 : decode cX2_ruleOf 4 = .ok (.iload_n 1, 1) := dec_of t_X2_ruleOf_ok 2 rfl
theorem dX2_ruleOf_5 : decode cX2_ruleOf 5 = .ok (.invokevirtual 41, 3) := dec_of t_X2_ruleOf_ok 3 rfl
theorem dX2_ruleOf_8 : decode cX2_ruleOf 8 = .ok (.ireturn, 1) := dec_of t_X2_ruleOf_ok 4 rfl
def t_X2_fromOf : List (Nat × Instr × Nat) := [(0, .aload_n 0, 1), (1, .getfield 15, 3), (4, .aload_n 0, 1), (5, .getfield 31, 3), (8, .iload_n 1, 1), (9, .invokevirtual 41, 3), (12, .invokevirtual 45, 3), (15, .ireturn, 1)]
theorem t_X2_fromOf_ok : dec_ok cX2_fromOf t_X2_fromOf = true := by decide +kernel
theorem dX2_fromOf_0 : decode cX2_fromOf 0 = .ok (.aload_n 0, 1) := dec_of t_X2_fromOf_ok 0 rfl
theorem dX2_fromOf_1 : decode cX2_fromOf 1 = .ok (.getfield 15, 3) := dec_of t_X2_fromOf_ok 1 rfl
theorem dX2_fromOf_4 : decode cX2_fromOf 4 = .ok (.aload_n 0, 1) := dec_of t_X2_fromOf_ok 2 rfl
theorem dX2_fromOf_5 : decode cX2_fromOf 5 = .ok (.getfield 31, 3) := dec_of t_X2_fromOf_ok 3 rfl
theorem dX2_fromOf_8 : decode cX2_fromOf 8 = .ok (.iload_n 1, 1) := dec_of t_X2_fromOf_ok 4 rfl
theorem dX2_fromOf_9 : decode cX2_fromOf 9 = .ok (.invokevirtual 41, 3) := dec_of t_X2_fromOf_ok 5 rfl
theorem dX2_fromOf_12 : decode cX2_fromOf 12 = .ok (.invokevirtual 45, 3) := dec_of t_X2_fromOf_ok 6 rfl
theorem dX2_fromOf_15 : decode cX2_fromOf 15 = .ok (.ireturn, 1) := dec_of t_X2_fromOf_ok 7 rfl
def t_X2_lengthOf : List (Nat × Instr × Nat) := [(0, .aload_n 0, 1), (1, .aload_n 0, 1), (2, .getfield 34, 3), (5, .iload_n 1, 1), (6, .invokevirtual 41, 3), (9, .aload_n 0, 1), (10, .getfield 31, 3), (13, .iload_n 1, 1), (14, .invokevirtual 41, 3), (17, .invokevirtual 50, 3), (20, .ireturn, 1)]
theorem t_X2_lengthOf_ok : dec_ok cX2_lengthOf t_X2_lengthOf = true := by decide +kernel
theorem dX2_lengthOf_0 : decode cX2_lengthOf 0 = .ok (.aload_n 0, 1) := dec_of t_X2_lengthOf_ok 0 rfl
theorem dX2_lengthOf_1 : decode cX2_lengthOf 1 = .ok (.aload_n 0, 1) := dec_of t_X2_lengthOf_ok 1 rfl
theorem dX2_lengthOf_2 : decode cX2_lengthOf 2 = .ok (.getfield 34, 3) := dec_of t_X2_lengthOf_ok 2 rfl
theorem dX2_lengthOf_5 : decode cX2_lengthOf 5 = .ok (.iload_n 1, 1) := dec_of t_X2_lengthOf_ok 3 rfl
theorem dX2_lengthOf_6 : decode cX2_lengthOf 6 = .ok (.invokevirtual 41, 3) := dec_of t_X2_lengthOf_ok 4 rfl
theorem dX2_lengthOf_9 : decode cX2_lengthOf 9 = .ok (.aload_n 0, 1) := dec_of t_X2_lengthOf_ok 5 rfl
theorem dX2_lengthOf_10 : decode cX2_lengthOf 10 = .ok (.getfield 31, 3) := dec_of t_X2_lengthOf_ok 6 rfl
theorem dX2_lengthOf_13 : decode cX2_lengthOf 13 = .ok (.iload_n 1, 1) := dec_of t_X2_lengthOf_ok 7 rfl
theorem dX2_lengthOf_14 : decode cX2_lengthOf 14 = .ok (.invokevirtual 41, 3) := dec_of t_X2_lengthOf_ok 8 rfl
theorem dX2_lengthOf_17 : decode cX2_lengthOf 17 = .ok (.invokevirtual 50, 3) := dec_of t_X2_lengthOf_ok 9 rfl
theorem dX2_lengthOf_20 : decode cX2_lengthOf 20 = .ok (.ireturn, 1) := dec_of t_X2_lengthOf_ok 10 rfl
def t_X2_lengthAt : List (Nat × Instr × Nat) := [(0, .aload_n 0, 1), (1, .getfield 15, 3), (4, .iload_n 2, 1), (5, .aload_n 0, 1), (6, .getfield 9, 3), (9, .iload_n 1, 1), (10, .invokevirtual 54, 3), (13, .iadd, 1), (14, .iconst 1, 1), (15, .isub, 1), (16, .invokevirtual 59, 3), (19, .aload_n 0, 1), (20, .getfield 15, 3), (23, .iload_n 2, 1), (24, .invokevirtual 45, 3), (27, .isub, 1), (28, .ireturn, 1)]
theorem t_X2_lengthAt_ok : dec_ok cX2_lengthAt t_X2_lengthAt = true := by decide +kernel
theorem dX2_lengthAt_0 : decode cX2_lengthAt 0 = .ok (.aload_n 0, 1) := dec_of t_X2_lengthAt_ok 0 rfl
theorem dX2_lengthAt_1 : decode cX2_lengthAt 1 = .ok (.getfield 15, 3) := dec_of t_X2_lengthAt_ok 1 rfl
theorem dX2_lengthAt_4 : decode cX2_lengthAt 4 = .ok (.iload_n 2, 1) := dec_of t_X2_lengthAt_ok 2 rfl
theorem dX2_lengthAt_5 : decode cX2_lengthAt 5 = .ok (.aload_n 0, 1) := dec_of t_X2_lengthAt_ok 3 rfl
theorem dX2_lengthAt_6 : decode cX2_lengthAt 6 = .ok (.getfield 9, 3) := dec_of t_X2_lengthAt_ok 4 rfl
theorem dX2_lengthAt_9 : decode cX2_lengthAt 9 = .ok (.iload_n 1, 1) := dec_of t_X2_lengthAt_ok 5 rfl
theorem dX2_lengthAt_10 : decode cX2_lengthAt 10 = .ok (.invokevirtual 54, 3) := dec_of t_X2_lengthAt_ok 6 rfl
theorem dX2_lengthAt_13 : decode cX2_lengthAt 13 = .ok (.iadd, 1) := dec_of t_X2_lengthAt_ok 7 rfl
theorem dX2_lengthAt_14 : decode cX2_lengthAt 14 = .ok (.iconst 1, 1) := dec_of t_X2_lengthAt_ok 8 rfl
theorem dX2_lengthAt_15 : decode cX2_lengthAt 15 = .ok (.isub, 1) := dec_of t_X2_lengthAt_ok 9 rfl
theorem dX2_lengthAt_16 : decode cX2_lengthAt 16 = .ok (.invokevirtual 59, 3) := dec_of t_X2_lengthAt_ok 10 rfl
theorem dX2_lengthAt_19 : decode cX2_lengthAt 19 = .ok (.aload_n 0, 1) := dec_of t_X2_lengthAt_ok 11 rfl
theorem dX2_lengthAt_20 : decode cX2_lengthAt 20 = .ok (.getfield 15, 3) := dec_of t_X2_lengthAt_ok 12 rfl
theorem dX2_lengthAt_23 : decode cX2_lengthAt 23 = .ok (.iload_n 2, 1) := dec_of t_X2_lengthAt_ok 13 rfl
theorem dX2_lengthAt_24 : decode cX2_lengthAt 24 = .ok (.invokevirtual 45, 3) := dec_of t_X2_lengthAt_ok 14 rfl
theorem dX2_lengthAt_27 : decode cX2_lengthAt 27 = .ok (.isub, 1) := dec_of t_X2_lengthAt_ok 15 rfl
theorem dX2_lengthAt_28 : decode cX2_lengthAt 28 = .ok (.ireturn, 1) := dec_of t_X2_lengthAt_ok 16 rfl
def t_X2_solve : List (Nat × Instr × Nat) := [(0, .aload_n 0, 1), (1, .getfield 24, 3), (4, .aload_n 0, 1), (5, .getfield 15, 3), (8, .invokevirtual 62, 3), (11, .invokevirtual 63, 3), (14, .aload_n 0, 1), (15, .getfield 28, 3), (18, .aload_n 0, 1), (19, .getfield 15, 3), (22, .invokevirtual 62, 3), (25, .invokevirtual 63, 3), (28, .bipush 9, 2), (30, .istore_n 2, 1), (31, .iload_n 2, 1), (32, .iconst 1, 1), (33, .if_icmp .lt 67, 3), (36, .aload_n 0, 1), (37, .getfield 9, 3), (40, .aload_n 1, 1), (41, .iload_n 2, 1), (42, .invokevirtual 66, 3), (45, .istore_n 3, 1), (46, .iconst 0, 1), (47, .istore 4, 2), (49, .iload 4, 2), (51, .aload_n 0, 1), (52, .getfield 15, 3), (55, .invokevirtual 62, 3), (58, .if_icmp .ge 36, 3), (61, .iload_n 3, 1), (62, .ifCond .eq 32, 3), (65, .aload_n 0, 1), (66, .aload_n 1, 1), (67, .iload 4, 2), (69, .aload_n 0, 1), (70, .getfield 9, 3), (73, .aload_n 0, 1), (74, .getfield 15, 3), (77, .aload_n 1, 1), (78, .iload 4, 2), (80, .invokevirtual 70, 3), (83, .iload_n 3, 1), (84, .iand, 1), (85, .invokevirtual 74, 3), (88, .iinc 4 1, 3), (91, .goto (-42), 3), (94, .iinc 2 (-1), 3), (97, .goto (-66), 3), (100, .aload_n 0, 1), (101, .getfield 31, 3), (104, .invokevirtual 78, 3), (107, .aload_n 0, 1), (108, .getfield 34, 3), (111, .invokevirtual 78, 3), (114, .iconst 0, 1), (115, .istore_n 2, 1), (116, .iload_n 2, 1), (117, .aload_n 0, 1), (118, .getfield 15, 3), (121, .invokevirtual 62, 3), (124, .if_icmp .ge 45, 3), (127, .aload_n 0, 1), (128, .getfield 28, 3), (131, .iload_n 2, 1), (132, .invokevirtual 41, 3), (135, .ifCond .eq 28, 3), (138, .aload_n 0, 1), (139, .getfield 31, 3), (142, .iload_n 2, 1), (143, .invokevirtual 81, 3), (146, .aload_n 0, 1), (147, .getfield 34, 3), (150, .aload_n 0, 1), (151, .getfield 28, 3), (154, .iload_n 2, 1), (155, .invokevirtual 41, 3), (158, .iconst 1, 1), (159, .isub, 1), (160, .invokevirtual 81, 3), (163, .iinc 2 1, 3), (166, .goto (-50), 3), (169, .return_, 1)]
theorem t_X2_solve_ok : dec_ok cX2_solve t_X2_solve = true := by decide +kernel
theorem dX2_solve_0 : decode cX2_solve 0 = .ok (.aload_n 0, 1) := dec_of t_X2_solve_ok 0 rfl
theorem dX2_solve_1 : decode cX2_solve 1 = .ok (.getfield 24, 3) := dec_of t_X2_solve_ok 1 rfl
theorem dX2_solve_4 : decode cX2_solve 4 = .ok (.aload_n 0, 1) := dec_of t_X2_solve_ok 2 rfl
theorem dX2_solve_5 : decode cX2_solve 5 = .ok (.getfield 15, 3) := dec_of t_X2_solve_ok 3 rfl
theorem dX2_solve_8 : decode cX2_solve 8 = .ok (.invokevirtual 62, 3) := dec_of t_X2_solve_ok 4 rfl
theorem dX2_solve_11 : decode cX2_solve 11 = .ok (.invokevirtual 63, 3) := dec_of t_X2_solve_ok 5 rfl
theorem dX2_solve_14 : decode cX2_solve 14 = .ok (.aload_n 0, 1) := dec_of t_X2_solve_ok 6 rfl
theorem dX2_solve_15 : decode cX2_solve 15 = .ok (.getfield 28, 3) := dec_of t_X2_solve_ok 7 rfl
theorem dX2_solve_18 : decode cX2_solve 18 = .ok (.aload_n 0, 1) := dec_of t_X2_solve_ok 8 rfl
theorem dX2_solve_19 : decode cX2_solve 19 = .ok (.getfield 15, 3) := dec_of t_X2_solve_ok 9 rfl
theorem dX2_solve_22 : decode cX2_solve 22 = .ok (.invokevirtual 62, 3) := dec_of t_X2_solve_ok 10 rfl
theorem dX2_solve_25 : decode cX2_solve 25 = .ok (.invokevirtual 63, 3) := dec_of t_X2_solve_ok 11 rfl
theorem dX2_solve_28 : decode cX2_solve 28 = .ok (.bipush 9, 2) := dec_of t_X2_solve_ok 12 rfl
theorem dX2_solve_30 : decode cX2_solve 30 = .ok (.istore_n 2, 1) := dec_of t_X2_solve_ok 13 rfl
theorem dX2_solve_31 : decode cX2_solve 31 = .ok (.iload_n 2, 1) := dec_of t_X2_solve_ok 14 rfl
theorem dX2_solve_32 : decode cX2_solve 32 = .ok (.iconst 1, 1) := dec_of t_X2_solve_ok 15 rfl
theorem dX2_solve_33 : decode cX2_solve 33 = .ok (.if_icmp .lt 67, 3) := dec_of t_X2_solve_ok 16 rfl
theorem dX2_solve_36 : decode cX2_solve 36 = .ok (.aload_n 0, 1) := dec_of t_X2_solve_ok 17 rfl
theorem dX2_solve_37 : decode cX2_solve 37 = .ok (.getfield 9, 3) := dec_of t_X2_solve_ok 18 rfl
theorem dX2_solve_40 : decode cX2_solve 40 = .ok (.aload_n 1, 1) := dec_of t_X2_solve_ok 19 rfl
theorem dX2_solve_41 : decode cX2_solve 41 = .ok (.iload_n 2, 1) := dec_of t_X2_solve_ok 20 rfl
theorem dX2_solve_42 : decode cX2_solve 42 = .ok (.invokevirtual 66, 3) := dec_of t_X2_solve_ok 21 rfl
theorem dX2_solve_45 : decode cX2_solve 45 = .ok (.istore_n 3, 1) := dec_of t_X2_solve_ok 22 rfl
theorem dX2_solve_46 : decode cX2_solve 46 = .ok (.iconst 0, 1) := dec_of t_X2_solve_ok 23 rfl
theorem dX2_solve_47 : decode cX2_solve 47 = .ok (.istore 4, 2) := dec_of t_X2_solve_ok 24 rfl
theorem dX2_solve_49 : decode cX2_solve 49 = .ok (.iload 4, 2) := dec_of t_X2_solve_ok 25 rfl
theorem dX2_solve_51 : decode cX2_solve 51 = .ok (.aload_n 0, 1) := dec_of t_X2_solve_ok 26 rfl
theorem dX2_solve_52 : decode cX2_solve 52 = .ok (.getfield 15, 3) := dec_of t_X2_solve_ok 27 rfl
theorem dX2_solve_55 : decode cX2_solve 55 = .ok (.invokevirtual 62, 3) := dec_of t_X2_solve_ok 28 rfl
theorem dX2_solve_58 : decode cX2_solve 58 = .ok (.if_icmp .ge 36, 3) := dec_of t_X2_solve_ok 29 rfl
theorem dX2_solve_61 : decode cX2_solve 61 = .ok (.iload_n 3, 1) := dec_of t_X2_solve_ok 30 rfl
theorem dX2_solve_62 : decode cX2_solve 62 = .ok (.ifCond .eq 32, 3) := dec_of t_X2_solve_ok 31 rfl
theorem dX2_solve_65 : decode cX2_solve 65 = .ok (.aload_n 0, 1) := dec_of t_X2_solve_ok 32 rfl
theorem dX2_solve_66 : decode cX2_solve 66 = .ok (.aload_n 1, 1) := dec_of t_X2_solve_ok 33 rfl
theorem dX2_solve_67 : decode cX2_solve 67 = .ok (.iload 4, 2) := dec_of t_X2_solve_ok 34 rfl
theorem dX2_solve_69 : decode cX2_solve 69 = .ok (.aload_n 0, 1) := dec_of t_X2_solve_ok 35 rfl
theorem dX2_solve_70 : decode cX2_solve 70 = .ok (.getfield 9, 3) := dec_of t_X2_solve_ok 36 rfl
theorem dX2_solve_73 : decode cX2_solve 73 = .ok (.aload_n 0, 1) := dec_of t_X2_solve_ok 37 rfl
theorem dX2_solve_74 : decode cX2_solve 74 = .ok (.getfield 15, 3) := dec_of t_X2_solve_ok 38 rfl
theorem dX2_solve_77 : decode cX2_solve 77 = .ok (.aload_n 1, 1) := dec_of t_X2_solve_ok 39 rfl
theorem dX2_solve_78 : decode cX2_solve 78 = .ok (.iload 4, 2) := dec_of t_X2_solve_ok 40 rfl
theorem dX2_solve_80 : decode cX2_solve 80 = .ok (.invokevirtual 70, 3) := dec_of t_X2_solve_ok 41 rfl
theorem dX2_solve_83 : decode cX2_solve 83 = .ok (.iload_n 3, 1) := dec_of t_X2_solve_ok 42 rfl
theorem dX2_solve_84 : decode cX2_solve 84 = .ok (.iand, 1) := dec_of t_X2_solve_ok 43 rfl
theorem dX2_solve_85 : decode cX2_solve 85 = .ok (.invokevirtual 74, 3) := dec_of t_X2_solve_ok 44 rfl
theorem dX2_solve_88 : decode cX2_solve 88 = .ok (.iinc 4 1, 3) := dec_of t_X2_solve_ok 45 rfl
theorem dX2_solve_91 : decode cX2_solve 91 = .ok (.goto (-42), 3) := dec_of t_X2_solve_ok 46 rfl
theorem dX2_solve_94 : decode cX2_solve 94 = .ok (.iinc 2 (-1), 3) := dec_of t_X2_solve_ok 47 rfl
theorem dX2_solve_97 : decode cX2_solve 97 = .ok (.goto (-66), 3) := dec_of t_X2_solve_ok 48 rfl
theorem dX2_solve_100 : decode cX2_solve 100 = .ok (.aload_n 0, 1) := dec_of t_X2_solve_ok 49 rfl
theorem dX2_solve_101 : decode cX2_solve 101 = .ok (.getfield 31, 3) := dec_of t_X2_solve_ok 50 rfl
theorem dX2_solve_104 : decode cX2_solve 104 = .ok (.invokevirtual 78, 3) := dec_of t_X2_solve_ok 51 rfl
theorem dX2_solve_107 : decode cX2_solve 107 = .ok (.aload_n 0, 1) := dec_of t_X2_solve_ok 52 rfl
theorem dX2_solve_108 : decode cX2_solve 108 = .ok (.getfield 34, 3) := dec_of t_X2_solve_ok 53 rfl
theorem dX2_solve_111 : decode cX2_solve 111 = .ok (.invokevirtual 78, 3) := dec_of t_X2_solve_ok 54 rfl
theorem dX2_solve_114 : decode cX2_solve 114 = .ok (.iconst 0, 1) := dec_of t_X2_solve_ok 55 rfl
theorem dX2_solve_115 : decode cX2_solve 115 = .ok (.istore_n 2, 1) := dec_of t_X2_solve_ok 56 rfl
theorem dX2_solve_116 : decode cX2_solve 116 = .ok (.iload_n 2, 1) := dec_of t_X2_solve_ok 57 rfl
theorem dX2_solve_117 : decode cX2_solve 117 = .ok (.aload_n 0, 1) := dec_of t_X2_solve_ok 58 rfl
theorem dX2_solve_118 : decode cX2_solve 118 = .ok (.getfield 15, 3) := dec_of t_X2_solve_ok 59 rfl
theorem dX2_solve_121 : decode cX2_solve 121 = .ok (.invokevirtual 62, 3) := dec_of t_X2_solve_ok 60 rfl
theorem dX2_solve_124 : decode cX2_solve 124 = .ok (.if_icmp .ge 45, 3) := dec_of t_X2_solve_ok 61 rfl
theorem dX2_solve_127 : decode cX2_solve 127 = .ok (.aload_n 0, 1) := dec_of t_X2_solve_ok 62 rfl
theorem dX2_solve_128 : decode cX2_solve 128 = .ok (.getfield 28, 3) := dec_of t_X2_solve_ok 63 rfl
theorem dX2_solve_131 : decode cX2_solve 131 = .ok (.iload_n 2, 1) := dec_of t_X2_solve_ok 64 rfl
theorem dX2_solve_132 : decode cX2_solve 132 = .ok (.invokevirtual 41, 3) := dec_of t_X2_solve_ok 65 rfl
theorem dX2_solve_135 : decode cX2_solve 135 = .ok (.ifCond .eq 28, 3) := dec_of t_X2_solve_ok 66 rfl
theorem dX2_solve_138 : decode cX2_solve 138 = .ok (.aload_n 0, 1) := dec_of t_X2_solve_ok 67 rfl
theorem dX2_solve_139 : decode cX2_solve 139 = .ok (.getfield 31, 3) := dec_of t_X2_solve_ok 68 rfl
theorem dX2_solve_142 : decode cX2_solve 142 = .ok (.iload_n 2, 1) := dec_of t_X2_solve_ok 69 rfl
theorem dX2_solve_143 : decode cX2_solve 143 = .ok (.invokevirtual 81, 3) := dec_of t_X2_solve_ok 70 rfl
theorem dX2_solve_146 : decode cX2_solve 146 = .ok (.aload_n 0, 1) := dec_of t_X2_solve_ok 71 rfl
theorem dX2_solve_147 : decode cX2_solve 147 = .ok (.getfield 34, 3) := dec_of t_X2_solve_ok 72 rfl
theorem dX2_solve_150 : decode cX2_solve 150 = .ok (.aload_n 0, 1) := dec_of t_X2_solve_ok 73 rfl
theorem dX2_solve_151 : decode cX2_solve 151 = .ok (.getfield 28, 3) := dec_of t_X2_solve_ok 74 rfl
theorem dX2_solve_154 : decode cX2_solve 154 = .ok (.iload_n 2, 1) := dec_of t_X2_solve_ok 75 rfl
theorem dX2_solve_155 : decode cX2_solve 155 = .ok (.invokevirtual 41, 3) := dec_of t_X2_solve_ok 76 rfl
theorem dX2_solve_158 : decode cX2_solve 158 = .ok (.iconst 1, 1) := dec_of t_X2_solve_ok 77 rfl
theorem dX2_solve_159 : decode cX2_solve 159 = .ok (.isub, 1) := dec_of t_X2_solve_ok 78 rfl
theorem dX2_solve_160 : decode cX2_solve 160 = .ok (.invokevirtual 81, 3) := dec_of t_X2_solve_ok 79 rfl
theorem dX2_solve_163 : decode cX2_solve 163 = .ok (.iinc 2 1, 3) := dec_of t_X2_solve_ok 80 rfl
theorem dX2_solve_166 : decode cX2_solve 166 = .ok (.goto (-50), 3) := dec_of t_X2_solve_ok 81 rfl
theorem dX2_solve_169 : decode cX2_solve 169 = .ok (.return_, 1) := dec_of t_X2_solve_ok 82 rfl
def t_X2_takeBest : List (Nat × Instr × Nat) := [(0, .iload_n 3, 1), (1, .ifCond .ne 4, 3), (4, .return_, 1), (5, .iconst 3, 1), (6, .istore 4, 2), (8, .iload 4, 2), (10, .iconst 1, 1), (11, .if_icmp .lt 102, 3), (14, .iconst 0, 1), (15, .istore 5, 2), (17, .iload 5, 2), (19, .bipush 20, 2), (21, .if_icmp .gt 86, 3), (24, .iload_n 3, 1), (25, .iconst 1, 1), (26, .iload 5, 2), (28, .ishl, 1), (29, .iand, 1), (30, .ifCond .eq 71, 3), (33, .aload_n 0, 1), (34, .getfield 9, 3), (37, .iload 5, 2), (39, .invokevirtual 54, 3), (42, .iload 4, 2), (44, .if_icmp .ne 57, 3), (47, .aload_n 0, 1), (48, .iload_n 2, 1), (49, .iload 4, 2), (51, .invokevirtual 84, 3), (54, .ifCond .eq 47, 3), (57, .aload_n 1, 1), (58, .iload 5, 2), (60, .aload_n 0, 1), (61, .getfield 15, 3), (64, .iload_n 2, 1), (65, .invokevirtual 45, 3), (68, .aload_n 0, 1), (69, .iload 5, 2), (71, .iload_n 2, 1), (72, .invokevirtual 50, 3), (75, .invokevirtual 88, 3), (78, .ifCond .ne 23, 3), (81, .aload_n 0, 1), (82, .iload_n 2, 1), (83, .iload 4, 2), (85, .invokevirtual 94, 3), (88, .aload_n 0, 1), (89, .getfield 28, 3), (92, .iload_n 2, 1), (93, .iload 5, 2), (95, .iconst 1, 1), (96, .iadd, 1), (97, .invokevirtual 98, 3), (100, .return_, 1), (101, .iinc 5 1, 3), (104, .goto (-87), 3), (107, .iinc 4 (-1), 3), (110, .goto (-102), 3), (113, .return_, 1)]
theorem t_X2_takeBest_ok : dec_ok cX2_takeBest t_X2_takeBest = true := by decide +kernel
theorem dX2_takeBest_0 : decode cX2_takeBest 0 = .ok (.iload_n 3, 1) := dec_of t_X2_takeBest_ok 0 rfl
theorem dX2_takeBest_1 : decode cX2_takeBest 1 = .ok (.ifCond .ne 4, 3) := dec_of t_X2_takeBest_ok 1 rfl
theorem dX2_takeBest_4 : decode cX2_takeBest 4 = .ok (.return_, 1) := dec_of t_X2_takeBest_ok 2 rfl
theorem dX2_takeBest_5 : decode cX2_takeBest 5 = .ok (.iconst 3, 1) := dec_of t_X2_takeBest_ok 3 rfl
theorem dX2_takeBest_6 : decode cX2_takeBest 6 = .ok (.istore 4, 2) := dec_of t_X2_takeBest_ok 4 rfl
theorem dX2_takeBest_8 : decode cX2_takeBest 8 = .ok (.iload 4, 2) := dec_of t_X2_takeBest_ok 5 rfl
theorem dX2_takeBest_10 : decode cX2_takeBest 10 = .ok (.iconst 1, 1) := dec_of t_X2_takeBest_ok 6 rfl
theorem dX2_takeBest_11 : decode cX2_takeBest 11 = .ok (.if_icmp .lt 102, 3) := dec_of t_X2_takeBest_ok 7 rfl
theorem dX2_takeBest_14 : decode cX2_takeBest 14 = .ok (.iconst 0, 1) := dec_of t_X2_takeBest_ok 8 rfl
theorem dX2_takeBest_15 : decode cX2_takeBest 15 = .ok (.istore 5, 2) := dec_of t_X2_takeBest_ok 9 rfl
theorem dX2_takeBest_17 : decode cX2_takeBest 17 = .ok (.iload 5, 2) := dec_of t_X2_takeBest_ok 10 rfl
theorem dX2_takeBest_19 : decode cX2_takeBest 19 = .ok (.bipush 20, 2) := dec_of t_X2_takeBest_ok 11 rfl
theorem dX2_takeBest_21 : decode cX2_takeBest 21 = .ok (.if_icmp .gt 86, 3) := dec_of t_X2_takeBest_ok 12 rfl
theorem dX2_takeBest_24 : decode cX2_takeBest 24 = .ok (.iload_n 3, 1) := dec_of t_X2_takeBest_ok 13 rfl
theorem dX2_takeBest_25 : decode cX2_takeBest 25 = .ok (.iconst 1, 1) := dec_of t_X2_takeBest_ok 14 rfl
theorem dX2_takeBest_26 : decode cX2_takeBest 26 = .ok (.iload 5, 2) := dec_of t_X2_takeBest_ok 15 rfl
theorem dX2_takeBest_28 : decode cX2_takeBest 28 = .ok (.ishl, 1) := dec_of t_X2_takeBest_ok 16 rfl
theorem dX2_takeBest_29 : decode cX2_takeBest 29 = .ok (.iand, 1) := dec_of t_X2_takeBest_ok 17 rfl
theorem dX2_takeBest_30 : decode cX2_takeBest 30 = .ok (.ifCond .eq 71, 3) := dec_of t_X2_takeBest_ok 18 rfl
theorem dX2_takeBest_33 : decode cX2_takeBest 33 = .ok (.aload_n 0, 1) := dec_of t_X2_takeBest_ok 19 rfl
theorem dX2_takeBest_34 : decode cX2_takeBest 34 = .ok (.getfield 9, 3) := dec_of t_X2_takeBest_ok 20 rfl
theorem dX2_takeBest_37 : decode cX2_takeBest 37 = .ok (.iload 5, 2) := dec_of t_X2_takeBest_ok 21 rfl
theorem dX2_takeBest_39 : decode cX2_takeBest 39 = .ok (.invokevirtual 54, 3) := dec_of t_X2_takeBest_ok 22 rfl
theorem dX2_takeBest_42 : decode cX2_takeBest 42 = .ok (.iload 4, 2) := dec_of t_X2_takeBest_ok 23 rfl
theorem dX2_takeBest_44 : decode cX2_takeBest 44 = .ok (.if_icmp .ne 57, 3) := dec_of t_X2_takeBest_ok 24 rfl
theorem dX2_takeBest_47 : decode cX2_takeBest 47 = .ok (.aload_n 0, 1) := dec_of t_X2_takeBest_ok 25 rfl
theorem dX2_takeBest_48 : decode cX2_takeBest 48 = .ok (.iload_n 2, 1) := dec_of t_X2_takeBest_ok 26 rfl
theorem dX2_takeBest_49 : decode cX2_takeBest 49 = .ok (.iload 4, 2) := dec_of t_X2_takeBest_ok 27 rfl
theorem dX2_takeBest_51 : decode cX2_takeBest 51 = .ok (.invokevirtual 84, 3) := dec_of t_X2_takeBest_ok 28 rfl
theorem dX2_takeBest_54 : decode cX2_takeBest 54 = .ok (.ifCond .eq 47, 3) := dec_of t_X2_takeBest_ok 29 rfl
theorem dX2_takeBest_57 : decode cX2_takeBest 57 = .ok (.aload_n 1, 1) := dec_of t_X2_takeBest_ok 30 rfl
theorem dX2_takeBest_58 : decode cX2_takeBest 58 = .ok (.iload 5, 2) := dec_of t_X2_takeBest_ok 31 rfl
theorem dX2_takeBest_60 : decode cX2_takeBest 60 = .ok (.aload_n 0, 1) := dec_of t_X2_takeBest_ok 32 rfl
theorem dX2_takeBest_61 : decode cX2_takeBest 61 = .ok (.getfield 15, 3) := dec_of t_X2_takeBest_ok 33 rfl
theorem dX2_takeBest_64 : decode cX2_takeBest 64 = .ok (.iload_n 2, 1) := dec_of t_X2_takeBest_ok 34 rfl
theorem dX2_takeBest_65 : decode cX2_takeBest 65 = .ok (.invokevirtual 45, 3) := dec_of t_X2_takeBest_ok 35 rfl
theorem dX2_takeBest_68 : decode cX2_takeBest 68 = .ok (.aload_n 0, 1) := dec_of t_X2_takeBest_ok 36 rfl
theorem dX2_takeBest_69 : decode cX2_takeBest 69 = .ok (.iload 5, 2) := dec_of t_X2_takeBest_ok 37 rfl
theorem dX2_takeBest_71 : decode cX2_takeBest 71 = .ok (.iload_n 2, 1) := dec_of t_X2_takeBest_ok 38 rfl
theorem dX2_takeBest_72 : decode cX2_takeBest 72 = .ok (.invokevirtual 50, 3) := dec_of t_X2_takeBest_ok 39 rfl
theorem dX2_takeBest_75 : decode cX2_takeBest 75 = .ok (.invokevirtual 88, 3) := dec_of t_X2_takeBest_ok 40 rfl
theorem dX2_takeBest_78 : decode cX2_takeBest 78 = .ok (.ifCond .ne 23, 3) := dec_of t_X2_takeBest_ok 41 rfl
theorem dX2_takeBest_81 : decode cX2_takeBest 81 = .ok (.aload_n 0, 1) := dec_of t_X2_takeBest_ok 42 rfl
theorem dX2_takeBest_82 : decode cX2_takeBest 82 = .ok (.iload_n 2, 1) := dec_of t_X2_takeBest_ok 43 rfl
theorem dX2_takeBest_83 : decode cX2_takeBest 83 = .ok (.iload 4, 2) := dec_of t_X2_takeBest_ok 44 rfl
theorem dX2_takeBest_85 : decode cX2_takeBest 85 = .ok (.invokevirtual 94, 3) := dec_of t_X2_takeBest_ok 45 rfl
theorem dX2_takeBest_88 : decode cX2_takeBest 88 = .ok (.aload_n 0, 1) := dec_of t_X2_takeBest_ok 46 rfl
theorem dX2_takeBest_89 : decode cX2_takeBest 89 = .ok (.getfield 28, 3) := dec_of t_X2_takeBest_ok 47 rfl
theorem dX2_takeBest_92 : decode cX2_takeBest 92 = .ok (.iload_n 2, 1) := dec_of t_X2_takeBest_ok 48 rfl
theorem dX2_takeBest_93 : decode cX2_takeBest 93 = .ok (.iload 5, 2) := dec_of t_X2_takeBest_ok 49 rfl
theorem dX2_takeBest_95 : decode cX2_takeBest 95 = .ok (.iconst 1, 1) := dec_of t_X2_takeBest_ok 50 rfl
theorem dX2_takeBest_96 : decode cX2_takeBest 96 = .ok (.iadd, 1) := dec_of t_X2_takeBest_ok 51 rfl
theorem dX2_takeBest_97 : decode cX2_takeBest 97 = .ok (.invokevirtual 98, 3) := dec_of t_X2_takeBest_ok 52 rfl
theorem dX2_takeBest_100 : decode cX2_takeBest 100 = .ok (.return_, 1) := dec_of t_X2_takeBest_ok 53 rfl
theorem dX2_takeBest_101 : decode cX2_takeBest 101 = .ok (.iinc 5 1, 3) := dec_of t_X2_takeBest_ok 54 rfl
theorem dX2_takeBest_104 : decode cX2_takeBest 104 = .ok (.goto (-87), 3) := dec_of t_X2_takeBest_ok 55 rfl
theorem dX2_takeBest_107 : decode cX2_takeBest 107 = .ok (.iinc 4 (-1), 3) := dec_of t_X2_takeBest_ok 56 rfl
theorem dX2_takeBest_110 : decode cX2_takeBest 110 = .ok (.goto (-102), 3) := dec_of t_X2_takeBest_ok 57 rfl
theorem dX2_takeBest_113 : decode cX2_takeBest 113 = .ok (.return_, 1) := dec_of t_X2_takeBest_ok 58 rfl
def t_X2_isFree : List (Nat × Instr × Nat) := [(0, .iconst 0, 1), (1, .istore_n 3, 1), (2, .iload_n 3, 1), (3, .iload_n 2, 1), (4, .if_icmp .ge 24, 3), (7, .aload_n 0, 1), (8, .getfield 24, 3), (11, .iload_n 1, 1), (12, .iload_n 3, 1), (13, .iadd, 1), (14, .invokevirtual 41, 3), (17, .ifCond .eq 5, 3), (20, .iconst 0, 1), (21, .ireturn, 1), (22, .iinc 3 1, 3), (25, .goto (-23), 3), (28, .iconst 1, 1), (29, .ireturn, 1)]
theorem t_X2_isFree_ok : dec_ok cX2_isFree t_X2_isFree = true := by decide +kernel
theorem dX2_isFree_0 : decode cX2_isFree 0 = .ok (.iconst 0, 1) := dec_of t_X2_isFree_ok 0 rfl
theorem dX2_isFree_1 : decode cX2_isFree 1 = .ok (.istore_n 3, 1) := dec_of t_X2_isFree_ok 1 rfl
theorem dX2_isFree_2 : decode cX2_isFree 2 = .ok (.iload_n 3, 1) := dec_of t_X2_isFree_ok 2 rfl
theorem dX2_isFree_3 : decode cX2_isFree 3 = .ok (.iload_n 2, 1) := dec_of t_X2_isFree_ok 3 rfl
theorem dX2_isFree_4 : decode cX2_isFree 4 = .ok (.if_icmp .ge 24, 3) := dec_of t_X2_isFree_ok 4 rfl
theorem dX2_isFree_7 : decode cX2_isFree 7 = .ok (.aload_n 0, 1) := dec_of t_X2_isFree_ok 5 rfl
theorem dX2_isFree_8 : decode cX2_isFree 8 = .ok (.getfield 24, 3) := dec_of t_X2_isFree_ok 6 rfl
theorem dX2_isFree_11 : decode cX2_isFree 11 = .ok (.iload_n 1, 1) := dec_of t_X2_isFree_ok 7 rfl
theorem dX2_isFree_12 : decode cX2_isFree 12 = .ok (.iload_n 3, 1) := dec_of t_X2_isFree_ok 8 rfl
theorem dX2_isFree_13 : decode cX2_isFree 13 = .ok (.iadd, 1) := dec_of t_X2_isFree_ok 9 rfl
theorem dX2_isFree_14 : decode cX2_isFree 14 = .ok (.invokevirtual 41, 3) := dec_of t_X2_isFree_ok 10 rfl
theorem dX2_isFree_17 : decode cX2_isFree 17 = .ok (.ifCond .eq 5, 3) := dec_of t_X2_isFree_ok 11 rfl
theorem dX2_isFree_20 : decode cX2_isFree 20 = .ok (.iconst 0, 1) := dec_of t_X2_isFree_ok 12 rfl
theorem dX2_isFree_21 : decode cX2_isFree 21 = .ok (.ireturn, 1) := dec_of t_X2_isFree_ok 13 rfl
theorem dX2_isFree_22 : decode cX2_isFree 22 = .ok (.iinc 3 1, 3) := dec_of t_X2_isFree_ok 14 rfl
theorem dX2_isFree_25 : decode cX2_isFree 25 = .ok (.goto (-23), 3) := dec_of t_X2_isFree_ok 15 rfl
theorem dX2_isFree_28 : decode cX2_isFree 28 = .ok (.iconst 1, 1) := dec_of t_X2_isFree_ok 16 rfl
theorem dX2_isFree_29 : decode cX2_isFree 29 = .ok (.ireturn, 1) := dec_of t_X2_isFree_ok 17 rfl
def t_X2_cover : List (Nat × Instr × Nat) := [(0, .iconst 0, 1), (1, .istore_n 3, 1), (2, .iload_n 3, 1), (3, .iload_n 2, 1), (4, .if_icmp .ge 20, 3), (7, .aload_n 0, 1), (8, .getfield 24, 3), (11, .iload_n 1, 1), (12, .iload_n 3, 1), (13, .iadd, 1), (14, .iconst 1, 1), (15, .invokevirtual 98, 3), (18, .iinc 3 1, 3), (21, .goto (-19), 3), (24, .return_, 1)]
theorem t_X2_cover_ok : dec_ok cX2_cover t_X2_cover = true := by decide +kernel
theorem dX2_cover_0 : decode cX2_cover 0 = .ok (.iconst 0, 1) := dec_of t_X2_cover_ok 0 rfl
theorem dX2_cover_1 : decode cX2_cover 1 = .ok (.istore_n 3, 1) := dec_of t_X2_cover_ok 1 rfl
theorem dX2_cover_2 : decode cX2_cover 2 = .ok (.iload_n 3, 1) := dec_of t_X2_cover_ok 2 rfl
theorem dX2_cover_3 : decode cX2_cover 3 = .ok (.iload_n 2, 1) := dec_of t_X2_cover_ok 3 rfl
theorem dX2_cover_4 : decode cX2_cover 4 = .ok (.if_icmp .ge 20, 3) := dec_of t_X2_cover_ok 4 rfl
theorem dX2_cover_7 : decode cX2_cover 7 = .ok (.aload_n 0, 1) := dec_of t_X2_cover_ok 5 rfl
theorem dX2_cover_8 : decode cX2_cover 8 = .ok (.getfield 24, 3) := dec_of t_X2_cover_ok 6 rfl
theorem dX2_cover_11 : decode cX2_cover 11 = .ok (.iload_n 1, 1) := dec_of t_X2_cover_ok 7 rfl
theorem dX2_cover_12 : decode cX2_cover 12 = .ok (.iload_n 3, 1) := dec_of t_X2_cover_ok 8 rfl
theorem dX2_cover_13 : decode cX2_cover 13 = .ok (.iadd, 1) := dec_of t_X2_cover_ok 9 rfl
theorem dX2_cover_14 : decode cX2_cover 14 = .ok (.iconst 1, 1) := dec_of t_X2_cover_ok 10 rfl
theorem dX2_cover_15 : decode cX2_cover 15 = .ok (.invokevirtual 98, 3) := dec_of t_X2_cover_ok 11 rfl
theorem dX2_cover_18 : decode cX2_cover 18 = .ok (.iinc 3 1, 3) := dec_of t_X2_cover_ok 12 rfl
theorem dX2_cover_21 : decode cX2_cover 21 = .ok (.goto (-19), 3) := dec_of t_X2_cover_ok 13 rfl
theorem dX2_cover_24 : decode cX2_cover 24 = .ok (.return_, 1) := dec_of t_X2_cover_ok 14 rfl
def t_X2_shareNoSign : List (Nat × Instr × Nat) := [(0, .iconst 1, 1), (1, .istore_n 1, 1), (2, .iload_n 1, 1), (3, .aload_n 0, 1), (4, .invokevirtual 101, 3), (7, .if_icmp .ge 34, 3), (10, .aload_n 0, 1), (11, .iload_n 1, 1), (12, .iconst 1, 1), (13, .isub, 1), (14, .invokevirtual 102, 3), (17, .aload_n 0, 1), (18, .iload_n 1, 1), (19, .iconst 1, 1), (20, .isub, 1), (21, .invokevirtual 103, 3), (24, .iadd, 1), (25, .aload_n 0, 1), (26, .iload_n 1, 1), (27, .invokevirtual 102, 3), (30, .if_icmp .le 5, 3), (33, .iconst 0, 1), (34, .ireturn, 1), (35, .iinc 1 1, 3), (38, .goto (-36), 3), (41, .iconst 1, 1), (42, .ireturn, 1)]
theorem t_X2_shareNoSign_ok : dec_ok cX2_shareNoSign t_X2_shareNoSign = true := by decide +kernel
theorem dX2_shareNoSign_0 : decode cX2_shareNoSign 0 = .ok (.iconst 1, 1) := dec_of t_X2_shareNoSign_ok 0 rfl
theorem dX2_shareNoSign_1 : decode cX2_shareNoSign 1 = .ok (.istore_n 1, 1) := dec_of t_X2_shareNoSign_ok 1 rfl
theorem dX2_shareNoSign_2 : decode cX2_shareNoSign 2 = .ok (.iload_n 1, 1) := dec_of t_X2_shareNoSign_ok 2 rfl
theorem dX2_shareNoSign_3 : decode cX2_shareNoSign 3 = .ok (.aload_n 0, 1) := dec_of t_X2_shareNoSign_ok 3 rfl
theorem dX2_shareNoSign_4 : decode cX2_shareNoSign 4 = .ok (.invokevirtual 101, 3) := dec_of t_X2_shareNoSign_ok 4 rfl
theorem dX2_shareNoSign_7 : decode cX2_shareNoSign 7 = .ok (.if_icmp .ge 34, 3) := dec_of t_X2_shareNoSign_ok 5 rfl
theorem dX2_shareNoSign_10 : decode cX2_shareNoSign 10 = .ok (.aload_n 0, 1) := dec_of t_X2_shareNoSign_ok 6 rfl
theorem dX2_shareNoSign_11 : decode cX2_shareNoSign 11 = .ok (.iload_n 1, 1) := dec_of t_X2_shareNoSign_ok 7 rfl
theorem dX2_shareNoSign_12 : decode cX2_shareNoSign 12 = .ok (.iconst 1, 1) := dec_of t_X2_shareNoSign_ok 8 rfl
theorem dX2_shareNoSign_13 : decode cX2_shareNoSign 13 = .ok (.isub, 1) := dec_of t_X2_shareNoSign_ok 9 rfl
theorem dX2_shareNoSign_14 : decode cX2_shareNoSign 14 = .ok (.invokevirtual 102, 3) := dec_of t_X2_shareNoSign_ok 10 rfl
theorem dX2_shareNoSign_17 : decode cX2_shareNoSign 17 = .ok (.aload_n 0, 1) := dec_of t_X2_shareNoSign_ok 11 rfl
theorem dX2_shareNoSign_18 : decode cX2_shareNoSign 18 = .ok (.iload_n 1, 1) := dec_of t_X2_shareNoSign_ok 12 rfl
theorem dX2_shareNoSign_19 : decode cX2_shareNoSign 19 = .ok (.iconst 1, 1) := dec_of t_X2_shareNoSign_ok 13 rfl
theorem dX2_shareNoSign_20 : decode cX2_shareNoSign 20 = .ok (.isub, 1) := dec_of t_X2_shareNoSign_ok 14 rfl
theorem dX2_shareNoSign_21 : decode cX2_shareNoSign 21 = .ok (.invokevirtual 103, 3) := dec_of t_X2_shareNoSign_ok 15 rfl
theorem dX2_shareNoSign_24 : decode cX2_shareNoSign 24 = .ok (.iadd, 1) := dec_of t_X2_shareNoSign_ok 16 rfl
theorem dX2_shareNoSign_25 : decode cX2_shareNoSign 25 = .ok (.aload_n 0, 1) := dec_of t_X2_shareNoSign_ok 17 rfl
theorem dX2_shareNoSign_26 : decode cX2_shareNoSign 26 = .ok (.iload_n 1, 1) := dec_of t_X2_shareNoSign_ok 18 rfl
theorem dX2_shareNoSign_27 : decode cX2_shareNoSign 27 = .ok (.invokevirtual 102, 3) := dec_of t_X2_shareNoSign_ok 19 rfl
theorem dX2_shareNoSign_30 : decode cX2_shareNoSign 30 = .ok (.if_icmp .le 5, 3) := dec_of t_X2_shareNoSign_ok 20 rfl
theorem dX2_shareNoSign_33 : decode cX2_shareNoSign 33 = .ok (.iconst 0, 1) := dec_of t_X2_shareNoSign_ok 21 rfl
theorem dX2_shareNoSign_34 : decode cX2_shareNoSign 34 = .ok (.ireturn, 1) := dec_of t_X2_shareNoSign_ok 22 rfl
theorem dX2_shareNoSign_35 : decode cX2_shareNoSign 35 = .ok (.iinc 1 1, 3) := dec_of t_X2_shareNoSign_ok 23 rfl
theorem dX2_shareNoSign_38 : decode cX2_shareNoSign 38 = .ok (.goto (-36), 3) := dec_of t_X2_shareNoSign_ok 24 rfl
theorem dX2_shareNoSign_41 : decode cX2_shareNoSign 41 = .ok (.iconst 1, 1) := dec_of t_X2_shareNoSign_ok 25 rfl
theorem dX2_shareNoSign_42 : decode cX2_shareNoSign 42 = .ok (.ireturn, 1) := dec_of t_X2_shareNoSign_ok 26 rfl
def t_X2_accountForAll : List (Nat × Instr × Nat) := [(0, .iconst 0, 1), (1, .istore_n 2, 1), (2, .iload_n 2, 1), (3, .aload_n 0, 1), (4, .getfield 15, 3), (7, .invokevirtual 62, 3), (10, .if_icmp .ge 102, 3), (13, .aload_n 0, 1), (14, .getfield 9, 3), (17, .aload_n 0, 1), (18, .getfield 15, 3), (21, .aload_n 1, 1), (22, .iload_n 2, 1), (23, .invokevirtual 70, 3), (26, .istore_n 3, 1), (27, .iconst 0, 1), (28, .istore 4, 2), (30, .iload 4, 2), (32, .bipush 20, 2), (34, .if_icmp .gt 72, 3), (37, .aload_n 0, 1), (38, .getfield 28, 3), (41, .iload_n 2, 1), (42, .invokevirtual 41, 3), (45, .iload 4, 2), (47, .iconst 1, 1), (48, .iadd, 1), (49, .if_icmp .ne 7, 3), (52, .iconst 1, 1), (53, .goto 4, 3), (56, .iconst 0, 1), (57, .istore 5, 2), (59, .iload_n 3, 1), (60, .iconst 1, 1), (61, .iload 4, 2), (63, .ishl, 1), (64, .iand, 1), (65, .ifCond .eq 7, 3), (68, .iconst 1, 1), (69, .goto 4, 3), (72, .iconst 0, 1), (73, .istore 6, 2), (75, .iload 5, 2), (77, .iload 6, 2), (79, .if_icmp .eq 21, 3), (82, .iload 5, 2), (84, .ifCond .ne 14, 3), (87, .aload_n 0, 1), (88, .aload_n 1, 1), (89, .iload 4, 2), (91, .iload_n 2, 1), (92, .invokevirtual 106, 3), (95, .ifCond .ne 5, 3), (98, .iconst 0, 1), (99, .ireturn, 1), (100, .iinc 4 1, 3), (103, .goto (-73), 3), (106, .iinc 2 1, 3), (109, .goto (-107), 3), (112, .iconst 1, 1), (113, .ireturn, 1)]
theorem t_X2_accountForAll_ok : dec_ok cX2_accountForAll t_X2_accountForAll = true := by decide +kernel
theorem dX2_accountForAll_0 : decode cX2_accountForAll 0 = .ok (.iconst 0, 1) := dec_of t_X2_accountForAll_ok 0 rfl
theorem dX2_accountForAll_1 : decode cX2_accountForAll 1 = .ok (.istore_n 2, 1) := dec_of t_X2_accountForAll_ok 1 rfl
theorem dX2_accountForAll_2 : decode cX2_accountForAll 2 = .ok (.iload_n 2, 1) := dec_of t_X2_accountForAll_ok 2 rfl
theorem dX2_accountForAll_3 : decode cX2_accountForAll 3 = .ok (.aload_n 0, 1) := dec_of t_X2_accountForAll_ok 3 rfl
theorem dX2_accountForAll_4 : decode cX2_accountForAll 4 = .ok (.getfield 15, 3) := dec_of t_X2_accountForAll_ok 4 rfl
theorem dX2_accountForAll_7 : decode cX2_accountForAll 7 = .ok (.invokevirtual 62, 3) := dec_of t_X2_accountForAll_ok 5 rfl
theorem dX2_accountForAll_10 : decode cX2_accountForAll 10 = .ok (.if_icmp .ge 102, 3) := dec_of t_X2_accountForAll_ok 6 rfl
theorem dX2_accountForAll_13 : decode cX2_accountForAll 13 = .ok (.aload_n 0, 1) := dec_of t_X2_accountForAll_ok 7 rfl
theorem dX2_accountForAll_14 : decode cX2_accountForAll 14 = .ok (.getfield 9, 3) := dec_of t_X2_accountForAll_ok 8 rfl
theorem dX2_accountForAll_17 : decode cX2_accountForAll 17 = .ok (.aload_n 0, 1) := dec_of t_X2_accountForAll_ok 9 rfl
theorem dX2_accountForAll_18 : decode cX2_accountForAll 18 = .ok (.getfield 15, 3) := dec_of t_X2_accountForAll_ok 10 rfl
theorem dX2_accountForAll_21 : decode cX2_accountForAll 21 = .ok (.aload_n 1, 1) := dec_of t_X2_accountForAll_ok 11 rfl
theorem dX2_accountForAll_22 : decode cX2_accountForAll 22 = .ok (.iload_n 2, 1) := dec_of t_X2_accountForAll_ok 12 rfl
theorem dX2_accountForAll_23 : decode cX2_accountForAll 23 = .ok (.invokevirtual 70, 3) := dec_of t_X2_accountForAll_ok 13 rfl
theorem dX2_accountForAll_26 : decode cX2_accountForAll 26 = .ok (.istore_n 3, 1) := dec_of t_X2_accountForAll_ok 14 rfl
theorem dX2_accountForAll_27 : decode cX2_accountForAll 27 = .ok (.iconst 0, 1) := dec_of t_X2_accountForAll_ok 15 rfl
theorem dX2_accountForAll_28 : decode cX2_accountForAll 28 = .ok (.istore 4, 2) := dec_of t_X2_accountForAll_ok 16 rfl
theorem dX2_accountForAll_30 : decode cX2_accountForAll 30 = .ok (.iload 4, 2) := dec_of t_X2_accountForAll_ok 17 rfl
theorem dX2_accountForAll_32 : decode cX2_accountForAll 32 = .ok (.bipush 20, 2) := dec_of t_X2_accountForAll_ok 18 rfl
theorem dX2_accountForAll_34 : decode cX2_accountForAll 34 = .ok (.if_icmp .gt 72, 3) := dec_of t_X2_accountForAll_ok 19 rfl
theorem dX2_accountForAll_37 : decode cX2_accountForAll 37 = .ok (.aload_n 0, 1) := dec_of t_X2_accountForAll_ok 20 rfl
theorem dX2_accountForAll_38 : decode cX2_accountForAll 38 = .ok (.getfield 28, 3) := dec_of t_X2_accountForAll_ok 21 rfl
theorem dX2_accountForAll_41 : decode cX2_accountForAll 41 = .ok (.iload_n 2, 1) := dec_of t_X2_accountForAll_ok 22 rfl
theorem dX2_accountForAll_42 : decode cX2_accountForAll 42 = .ok (.invokevirtual 41, 3) := dec_of t_X2_accountForAll_ok 23 rfl
theorem dX2_accountForAll_45 : decode cX2_accountForAll 45 = .ok (.iload 4, 2) := dec_of t_X2_accountForAll_ok 24 rfl
theorem dX2_accountForAll_47 : decode cX2_accountForAll 47 = .ok (.iconst 1, 1) := dec_of t_X2_accountForAll_ok 25 rfl
theorem dX2_accountForAll_48 : decode cX2_accountForAll 48 = .ok (.iadd, 1) := dec_of t_X2_accountForAll_ok 26 rfl
theorem dX2_accountForAll_49 : decode cX2_accountForAll 49 = .ok (.if_icmp .ne 7, 3) := dec_of t_X2_accountForAll_ok 27 rfl
theorem dX2_accountForAll_52 : decode cX2_accountForAll 52 = .ok (.iconst 1, 1) := dec_of t_X2_accountForAll_ok 28 rfl
theorem dX2_accountForAll_53 : decode cX2_accountForAll 53 = .ok (.goto 4, 3) := dec_of t_X2_accountForAll_ok 29 rfl
theorem dX2_accountForAll_56 : decode cX2_accountForAll 56 = .ok (.iconst 0, 1) := dec_of t_X2_accountForAll_ok 30 rfl
theorem dX2_accountForAll_57 : decode cX2_accountForAll 57 = .ok (.istore 5, 2) := dec_of t_X2_accountForAll_ok 31 rfl
theorem dX2_accountForAll_59 : decode cX2_accountForAll 59 = .ok (.iload_n 3, 1) := dec_of t_X2_accountForAll_ok 32 rfl
theorem dX2_accountForAll_60 : decode cX2_accountForAll 60 = .ok (.iconst 1, 1) := dec_of t_X2_accountForAll_ok 33 rfl
theorem dX2_accountForAll_61 : decode cX2_accountForAll 61 = .ok (.iload 4, 2) := dec_of t_X2_accountForAll_ok 34 rfl
theorem dX2_accountForAll_63 : decode cX2_accountForAll 63 = .ok (.ishl, 1) := dec_of t_X2_accountForAll_ok 35 rfl
theorem dX2_accountForAll_64 : decode cX2_accountForAll 64 = .ok (.iand, 1) := dec_of t_X2_accountForAll_ok 36 rfl
theorem dX2_accountForAll_65 : decode cX2_accountForAll 65 = .ok (.ifCond .eq 7, 3) := dec_of t_X2_accountForAll_ok 37 rfl
theorem dX2_accountForAll_68 : decode cX2_accountForAll 68 = .ok (.iconst 1, 1) := dec_of t_X2_accountForAll_ok 38 rfl
theorem dX2_accountForAll_69 : decode cX2_accountForAll 69 = .ok (.goto 4, 3) := dec_of t_X2_accountForAll_ok 39 rfl
theorem dX2_accountForAll_72 : decode cX2_accountForAll 72 = .ok (.iconst 0, 1) := dec_of t_X2_accountForAll_ok 40 rfl
theorem dX2_accountForAll_73 : decode cX2_accountForAll 73 = .ok (.istore 6, 2) := dec_of t_X2_accountForAll_ok 41 rfl
theorem dX2_accountForAll_75 : decode cX2_accountForAll 75 = .ok (.iload 5, 2) := dec_of t_X2_accountForAll_ok 42 rfl
theorem dX2_accountForAll_77 : decode cX2_accountForAll 77 = .ok (.iload 6, 2) := dec_of t_X2_accountForAll_ok 43 rfl
theorem dX2_accountForAll_79 : decode cX2_accountForAll 79 = .ok (.if_icmp .eq 21, 3) := dec_of t_X2_accountForAll_ok 44 rfl
theorem dX2_accountForAll_82 : decode cX2_accountForAll 82 = .ok (.iload 5, 2) := dec_of t_X2_accountForAll_ok 45 rfl
theorem dX2_accountForAll_84 : decode cX2_accountForAll 84 = .ok (.ifCond .ne 14, 3) := dec_of t_X2_accountForAll_ok 46 rfl
theorem dX2_accountForAll_87 : decode cX2_accountForAll 87 = .ok (.aload_n 0, 1) := dec_of t_X2_accountForAll_ok 47 rfl
theorem dX2_accountForAll_88 : decode cX2_accountForAll 88 = .ok (.aload_n 1, 1) := dec_of t_X2_accountForAll_ok 48 rfl
theorem dX2_accountForAll_89 : decode cX2_accountForAll 89 = .ok (.iload 4, 2) := dec_of t_X2_accountForAll_ok 49 rfl
theorem dX2_accountForAll_91 : decode cX2_accountForAll 91 = .ok (.iload_n 2, 1) := dec_of t_X2_accountForAll_ok 50 rfl
theorem dX2_accountForAll_92 : decode cX2_accountForAll 92 = .ok (.invokevirtual 106, 3) := dec_of t_X2_accountForAll_ok 51 rfl
theorem dX2_accountForAll_95 : decode cX2_accountForAll 95 = .ok (.ifCond .ne 5, 3) := dec_of t_X2_accountForAll_ok 52 rfl
theorem dX2_accountForAll_98 : decode cX2_accountForAll 98 = .ok (.iconst 0, 1) := dec_of t_X2_accountForAll_ok 53 rfl
theorem dX2_accountForAll_99 : decode cX2_accountForAll 99 = .ok (.ireturn, 1) := dec_of t_X2_accountForAll_ok 54 rfl
theorem dX2_accountForAll_100 : decode cX2_accountForAll 100 = .ok (.iinc 4 1, 3) := dec_of t_X2_accountForAll_ok 55 rfl
theorem dX2_accountForAll_103 : decode cX2_accountForAll 103 = .ok (.goto (-73), 3) := dec_of t_X2_accountForAll_ok 56 rfl
theorem dX2_accountForAll_106 : decode cX2_accountForAll 106 = .ok (.iinc 2 1, 3) := dec_of t_X2_accountForAll_ok 57 rfl
theorem dX2_accountForAll_109 : decode cX2_accountForAll 109 = .ok (.goto (-107), 3) := dec_of t_X2_accountForAll_ok 58 rfl
theorem dX2_accountForAll_112 : decode cX2_accountForAll 112 = .ok (.iconst 1, 1) := dec_of t_X2_accountForAll_ok 59 rfl
theorem dX2_accountForAll_113 : decode cX2_accountForAll 113 = .ok (.ireturn, 1) := dec_of t_X2_accountForAll_ok 60 rfl
def t_X2_isLeftOut : List (Nat × Instr × Nat) := [(0, .aload_n 0, 1), (1, .getfield 15, 3), (4, .iload_n 3, 1), (5, .invokevirtual 45, 3), (8, .istore 4, 2), (10, .aload_n 0, 1), (11, .iload_n 2, 1), (12, .iload_n 3, 1), (13, .invokevirtual 50, 3), (16, .istore 5, 2), (18, .aload_n 1, 1), (19, .iload_n 2, 1), (20, .iload 4, 2), (22, .iload 5, 2), (24, .invokevirtual 88, 3), (27, .ifCond .eq 5, 3), (30, .iconst 1, 1), (31, .ireturn, 1), (32, .iconst 0, 1), (33, .istore 6, 2), (35, .iload 6, 2), (37, .aload_n 0, 1), (38, .invokevirtual 101, 3), (41, .if_icmp .ge 43, 3), (44, .aload_n 0, 1), (45, .iload 6, 2), (47, .invokevirtual 102, 3), (50, .iload 4, 2), (52, .iload 5, 2), (54, .iadd, 1), (55, .if_icmp .ge 23, 3), (58, .iload 4, 2), (60, .aload_n 0, 1), (61, .iload 6, 2), (63, .invokevirtual 102, 3), (66, .aload_n 0, 1), (67, .iload 6, 2), (69, .invokevirtual 103, 3), (72, .iadd, 1), (73, .if_icmp .ge 5, 3), (76, .iconst 1, 1), (77, .ireturn, 1), (78, .iinc 6 1, 3), (81, .goto (-46), 3), (84, .iconst 0, 1), (85, .ireturn, 1)]
theorem t_X2_isLeftOut_ok : dec_ok cX2_isLeftOut t_X2_isLeftOut = true := by decide +kernel
theorem dX2_isLeftOut_0 : decode cX2_isLeftOut 0 = .ok (.aload_n 0, 1) := dec_of t_X2_isLeftOut_ok 0 rfl
theorem dX2_isLeftOut_1 : decode cX2_isLeftOut 1 = .ok (.getfield 15, 3) := dec_of t_X2_isLeftOut_ok 1 rfl
theorem dX2_isLeftOut_4 : decode cX2_isLeftOut 4 = .ok (.iload_n 3, 1) := dec_of t_X2_isLeftOut_ok 2 rfl
theorem dX2_isLeftOut_5 : decode cX2_isLeftOut 5 = .ok (.invokevirtual 45, 3) := dec_of t_X2_isLeftOut_ok 3 rfl
theorem dX2_isLeftOut_8 : decode cX2_isLeftOut 8 = .ok (.istore 4, 2) := dec_of t_X2_isLeftOut_ok 4 rfl
theorem dX2_isLeftOut_10 : decode cX2_isLeftOut 10 = .ok (.aload_n 0, 1) := dec_of t_X2_isLeftOut_ok 5 rfl
theorem dX2_isLeftOut_11 : decode cX2_isLeftOut 11 = .ok (.iload_n 2, 1) := dec_of t_X2_isLeftOut_ok 6 rfl
theorem dX2_isLeftOut_12 : decode cX2_isLeftOut 12 = .ok (.iload_n 3, 1) := dec_of t_X2_isLeftOut_ok 7 rfl
theorem dX2_isLeftOut_13 : decode cX2_isLeftOut 13 = .ok (.invokevirtual 50, 3) := dec_of t_X2_isLeftOut_ok 8 rfl
theorem dX2_isLeftOut_16 : decode cX2_isLeftOut 16 = .ok (.istore 5, 2) := dec_of t_X2_isLeftOut_ok 9 rfl
theorem dX2_isLeftOut_18 : decode cX2_isLeftOut 18 = .ok (.aload_n 1, 1) := dec_of t_X2_isLeftOut_ok 10 rfl
theorem dX2_isLeftOut_19 : decode cX2_isLeftOut 19 = .ok (.iload_n 2, 1) := dec_of t_X2_isLeftOut_ok 11 rfl
theorem dX2_isLeftOut_20 : decode cX2_isLeftOut 20 = .ok (.iload 4, 2) := dec_of t_X2_isLeftOut_ok 12 rfl
theorem dX2_isLeftOut_22 : decode cX2_isLeftOut 22 = .ok (.iload 5, 2) := dec_of t_X2_isLeftOut_ok 13 rfl
theorem dX2_isLeftOut_24 : decode cX2_isLeftOut 24 = .ok (.invokevirtual 88, 3) := dec_of t_X2_isLeftOut_ok 14 rfl
theorem dX2_isLeftOut_27 : decode cX2_isLeftOut 27 = .ok (.ifCond .eq 5, 3) := dec_of t_X2_isLeftOut_ok 15 rfl
theorem dX2_isLeftOut_30 : decode cX2_isLeftOut 30 = .ok (.iconst 1, 1) := dec_of t_X2_isLeftOut_ok 16 rfl
theorem dX2_isLeftOut_31 : decode cX2_isLeftOut 31 = .ok (.ireturn, 1) := dec_of t_X2_isLeftOut_ok 17 rfl
theorem dX2_isLeftOut_32 : decode cX2_isLeftOut 32 = .ok (.iconst 0, 1) := dec_of t_X2_isLeftOut_ok 18 rfl
theorem dX2_isLeftOut_33 : decode cX2_isLeftOut 33 = .ok (.istore 6, 2) := dec_of t_X2_isLeftOut_ok 19 rfl
theorem dX2_isLeftOut_35 : decode cX2_isLeftOut 35 = .ok (.iload 6, 2) := dec_of t_X2_isLeftOut_ok 20 rfl
theorem dX2_isLeftOut_37 : decode cX2_isLeftOut 37 = .ok (.aload_n 0, 1) := dec_of t_X2_isLeftOut_ok 21 rfl
theorem dX2_isLeftOut_38 : decode cX2_isLeftOut 38 = .ok (.invokevirtual 101, 3) := dec_of t_X2_isLeftOut_ok 22 rfl
theorem dX2_isLeftOut_41 : decode cX2_isLeftOut 41 = .ok (.if_icmp .ge 43, 3) := dec_of t_X2_isLeftOut_ok 23 rfl
theorem dX2_isLeftOut_44 : decode cX2_isLeftOut 44 = .ok (.aload_n 0, 1) := dec_of t_X2_isLeftOut_ok 24 rfl
theorem dX2_isLeftOut_45 : decode cX2_isLeftOut 45 = .ok (.iload 6, 2) := dec_of t_X2_isLeftOut_ok 25 rfl
theorem dX2_isLeftOut_47 : decode cX2_isLeftOut 47 = .ok (.invokevirtual 102, 3) := dec_of t_X2_isLeftOut_ok 26 rfl
theorem dX2_isLeftOut_50 : decode cX2_isLeftOut 50 = .ok (.iload 4, 2) := dec_of t_X2_isLeftOut_ok 27 rfl
theorem dX2_isLeftOut_52 : decode cX2_isLeftOut 52 = .ok (.iload 5, 2) := dec_of t_X2_isLeftOut_ok 28 rfl
theorem dX2_isLeftOut_54 : decode cX2_isLeftOut 54 = .ok (.iadd, 1) := dec_of t_X2_isLeftOut_ok 29 rfl
theorem dX2_isLeftOut_55 : decode cX2_isLeftOut 55 = .ok (.if_icmp .ge 23, 3) := dec_of t_X2_isLeftOut_ok 30 rfl
theorem dX2_isLeftOut_58 : decode cX2_isLeftOut 58 = .ok (.iload 4, 2) := dec_of t_X2_isLeftOut_ok 31 rfl
theorem dX2_isLeftOut_60 : decode cX2_isLeftOut 60 = .ok (.aload_n 0, 1) := dec_of t_X2_isLeftOut_ok 32 rfl
theorem dX2_isLeftOut_61 : decode cX2_isLeftOut 61 = .ok (.iload 6, 2) := dec_of t_X2_isLeftOut_ok 33 rfl
theorem dX2_isLeftOut_63 : decode cX2_isLeftOut 63 = .ok (.invokevirtual 102, 3) := dec_of t_X2_isLeftOut_ok 34 rfl
theorem dX2_isLeftOut_66 : decode cX2_isLeftOut 66 = .ok (.aload_n 0, 1) := dec_of t_X2_isLeftOut_ok 35 rfl
theorem dX2_isLeftOut_67 : decode cX2_isLeftOut 67 = .ok (.iload 6, 2) := dec_of t_X2_isLeftOut_ok 36 rfl
theorem dX2_isLeftOut_69 : decode cX2_isLeftOut 69 = .ok (.invokevirtual 103, 3) := dec_of t_X2_isLeftOut_ok 37 rfl
theorem dX2_isLeftOut_72 : decode cX2_isLeftOut 72 = .ok (.iadd, 1) := dec_of t_X2_isLeftOut_ok 38 rfl
theorem dX2_isLeftOut_73 : decode cX2_isLeftOut 73 = .ok (.if_icmp .ge 5, 3) := dec_of t_X2_isLeftOut_ok 39 rfl
theorem dX2_isLeftOut_76 : decode cX2_isLeftOut 76 = .ok (.iconst 1, 1) := dec_of t_X2_isLeftOut_ok 40 rfl
theorem dX2_isLeftOut_77 : decode cX2_isLeftOut 77 = .ok (.ireturn, 1) := dec_of t_X2_isLeftOut_ok 41 rfl
theorem dX2_isLeftOut_78 : decode cX2_isLeftOut 78 = .ok (.iinc 6 1, 3) := dec_of t_X2_isLeftOut_ok 42 rfl
theorem dX2_isLeftOut_81 : decode cX2_isLeftOut 81 = .ok (.goto (-46), 3) := dec_of t_X2_isLeftOut_ok 43 rfl
theorem dX2_isLeftOut_84 : decode cX2_isLeftOut 84 = .ok (.iconst 0, 1) := dec_of t_X2_isLeftOut_ok 44 rfl
theorem dX2_isLeftOut_85 : decode cX2_isLeftOut 85 = .ok (.ireturn, 1) := dec_of t_X2_isLeftOut_ok 45 rfl
def t_X3_init : List (Nat × Instr × Nat) := [(0, .aload_n 0, 1), (1, .invokespecial 1, 3), (4, .aload_n 0, 1), (5, .aload_n 1, 1), (6, .iload_n 3, 1), (7, .iconst 1, 1), (8, .isub, 1), (9, .invokevirtual 7, 3), (12, .bipush 35, 2), (14, .if_icmp .ne 7, 3), (17, .iconst 1, 1), (18, .goto 4, 3), (21, .iconst 0, 1), (22, .putfield 13, 3), (25, .aload_n 0, 1), (26, .aload_n 1, 1), (27, .iload_n 3, 1), (28, .iconst 1, 1), (29, .isub, 1), (30, .invokevirtual 7, 3), (33, .bipush 42, 2), (35, .if_icmp .ne 7, 3), (38, .iconst 1, 1), (39, .goto 4, 3), (42, .iconst 0, 1), (43, .putfield 19, 3), (46, .aload_n 0, 1), (47, .aload_n 1, 1), (48, .iload_n 2, 1), (49, .aload_n 0, 1), (50, .getfield 13, 3), (53, .ifCond .ne 10, 3), (56, .aload_n 0, 1), (57, .getfield 19, 3), (60, .ifCond .eq 9, 3), (63, .iload_n 3, 1), (64, .iconst 1, 1), (65, .isub, 1), (66, .goto 4, 3), (69, .iload_n 3, 1), (70, .invokevirtual 22, 3), (73, .putfield 26, 3), (76, .return_, 1)]
theorem t_X3_init_ok : dec_ok cX3_init t_X3_init = true := by decide +kernel
theorem dX3_init_0 : decode cX3_init 0 = .ok (.aload_n 0, 1) := dec_of t_X3_init_ok 0 rfl
theorem dX3_init_1 : decode cX3_init 1 = .ok (.invokespecial 1, 3) := dec_of t_X3_init_ok 1 rfl
theorem dX3_init_4 : decode cX3_init 4 = .ok (.aload_n 0, 1) := dec_of t_X3_init_ok 2 rfl
theorem dX3_init_5 : decode cX3_init 5 = .ok (.aload_n 1, 1) := dec_of t_X3_init_ok 3 rfl
theorem dX3_init_6 : decode cX3_init 6 = .ok (.iload_n 3, 1) := dec_of t_X3_init_ok 4 rfl
theorem dX3_init_7 : decode cX3_init 7 = .ok (.iconst 1, 1) := dec_of t_X3_init_ok 5 rfl
theorem dX3_init_8 : decode cX3_init 8 = .ok (.isub, 1) := dec_of t_X3_init_ok 6 rfl
theorem dX3_init_9 : decode cX3_init 9 = .ok (.invokevirtual 7, 3) := dec_of t_X3_init_ok 7 rfl
theorem dX3_init_12 : decode cX3_init 12 = .ok (.bipush 35, 2) := dec_of t_X3_init_ok 8 rfl
theorem dX3_init_14 : decode cX3_init 14 = .ok (.if_icmp .ne 7, 3) := dec_of t_X3_init_ok 9 rfl
theorem dX3_init_17 : decode cX3_init 17 = .ok (.iconst 1, 1) := dec_of t_X3_init_ok 10 rfl
theorem dX3_init_18 : decode cX3_init 18 = .ok (.goto 4, 3) := dec_of t_X3_init_ok 11 rfl
theorem dX3_init_21 : decode cX3_init 21 = .ok (.iconst 0, 1) := dec_of t_X3_init_ok 12 rfl
theorem dX3_init_22 : decode cX3_init 22 = .ok (.putfield 13, 3) := dec_of t_X3_init_ok 13 rfl
theorem dX3_init_25 : decode cX3_init 25 = .ok (.aload_n 0, 1) := dec_of t_X3_init_ok 14 rfl
theorem dX3_init_26 : decode cX3_init 26 = .ok (.aload_n 1, 1) := dec_of t_X3_init_ok 15 rfl
theorem dX3_init_27 : decode cX3_init 27 = .ok (.iload_n 3, 1) := dec_of t_X3_init_ok 16 rfl
theorem dX3_init_28 : decode cX3_init 28 = .ok (.iconst 1, 1) := dec_of t_X3_init_ok 17 rfl
theorem dX3_init_29 : decode cX3_init 29 = .ok (.isub, 1) := dec_of t_X3_init_ok 18 rfl
theorem dX3_init_30 : decode cX3_init 30 = .ok (.invokevirtual 7, 3) := dec_of t_X3_init_ok 19 rfl
theorem dX3_init_33 : decode cX3_init 33 = .ok (.bipush 42, 2) := dec_of t_X3_init_ok 20 rfl
theorem dX3_init_35 : decode cX3_init 35 = .ok (.if_icmp .ne 7, 3) := dec_of t_X3_init_ok 21 rfl
theorem dX3_init_38 : decode cX3_init 38 = .ok (.iconst 1, 1) := dec_of t_X3_init_ok 22 rfl
theorem dX3_init_39 : decode cX3_init 39 = .ok (.goto 4, 3) := dec_of t_X3_init_ok 23 rfl
theorem dX3_init_42 : decode cX3_init 42 = .ok (.iconst 0, 1) := dec_of t_X3_init_ok 24 rfl
theorem dX3_init_43 : decode cX3_init 43 = .ok (.putfield 19, 3) := dec_of t_X3_init_ok 25 rfl
theorem dX3_init_46 : decode cX3_init 46 = .ok (.aload_n 0, 1) := dec_of t_X3_init_ok 26 rfl
theorem dX3_init_47 : decode cX3_init 47 = .ok (.aload_n 1, 1) := dec_of t_X3_init_ok 27 rfl
theorem dX3_init_48 : decode cX3_init 48 = .ok (.iload_n 2, 1) := dec_of t_X3_init_ok 28 rfl
theorem dX3_init_49 : decode cX3_init 49 = .ok (.aload_n 0, 1) := dec_of t_X3_init_ok 29 rfl
theorem dX3_init_50 : decode cX3_init 50 = .ok (.getfield 13, 3) := dec_of t_X3_init_ok 30 rfl
theorem dX3_init_53 : decode cX3_init 53 = .ok (.ifCond .ne 10, 3) := dec_of t_X3_init_ok 31 rfl
theorem dX3_init_56 : decode cX3_init 56 = .ok (.aload_n 0, 1) := dec_of t_X3_init_ok 32 rfl
theorem dX3_init_57 : decode cX3_init 57 = .ok (.getfield 19, 3) := dec_of t_X3_init_ok 33 rfl
theorem dX3_init_60 : decode cX3_init 60 = .ok (.ifCond .eq 9, 3) := dec_of t_X3_init_ok 34 rfl
theorem dX3_init_63 : decode cX3_init 63 = .ok (.iload_n 3, 1) := dec_of t_X3_init_ok 35 rfl
theorem dX3_init_64 : decode cX3_init 64 = .ok (.iconst 1, 1) := dec_of t_X3_init_ok 36 rfl
theorem dX3_init_65 : decode cX3_init 65 = .ok (.isub, 1) := dec_of t_X3_init_ok 37 rfl
theorem dX3_init_66 : decode cX3_init 66 = .ok (.goto 4, 3) := dec_of t_X3_init_ok 38 rfl
theorem dX3_init_69 : decode cX3_init 69 = .ok (.iload_n 3, 1) := dec_of t_X3_init_ok 39 rfl
theorem dX3_init_70 : decode cX3_init 70 = .ok (.invokevirtual 22, 3) := dec_of t_X3_init_ok 40 rfl
theorem dX3_init_73 : decode cX3_init 73 = .ok (.putfield 26, 3) := dec_of t_X3_init_ok 41 rfl
theorem dX3_init_76 : decode cX3_init 76 = .ok (.return_, 1) := dec_of t_X3_init_ok 42 rfl
def t_X3_isItem : List (Nat × Instr × Nat) := [(0, .aload_n 0, 1), (1, .iload_n 2, 1), (2, .iconst 1, 1), (3, .isub, 1), (4, .invokevirtual 7, 3), (7, .istore_n 3, 1), (8, .iload_n 2, 1), (9, .iload_n 1, 1), (10, .isub, 1), (11, .iconst 1, 1), (12, .if_icmp .ne 11, 3), (15, .iload_n 3, 1), (16, .bipush 35, 2), (18, .if_icmp .ne 5, 3), (21, .iconst 1, 1), (22, .ireturn, 1), (23, .iload_n 2, 1), (24, .iload_n 1, 1), (25, .if_icmp .le 33, 3), (28, .iload_n 3, 1), (29, .bipush 42, 2), (31, .if_icmp .ne 27, 3), (34, .iload_n 2, 1), (35, .iload_n 1, 1), (36, .isub, 1), (37, .iconst 1, 1), (38, .if_icmp .eq 14, 3), (41, .aload_n 0, 1), (42, .iload_n 1, 1), (43, .iload_n 2, 1), (44, .iconst 1, 1), (45, .isub, 1), (46, .invokestatic 30, 3), (49, .ifCond .eq 7, 3), (52, .iconst 1, 1), (53, .goto 4, 3), (56, .iconst 0, 1), (57, .ireturn, 1), (58, .aload_n 0, 1), (59, .iload_n 1, 1), (60, .iload_n 2, 1), (61, .invokestatic 30, 3), (64, .ireturn, 1)]
theorem t_X3_isItem_ok : dec_ok cX3_isItem t_X3_isItem = true := by decide +kernel
theorem dX3_isItem_0 : decode cX3_isItem 0 = .ok (.aload_n 0, 1) := dec_of t_X3_isItem_ok 0 rfl
theorem dX3_isItem_1 : decode cX3_isItem 1 = .ok (.iload_n 2, 1) := dec_of t_X3_isItem_ok 1 rfl
theorem dX3_isItem_2 : decode cX3_isItem 2 = .ok (.iconst 1, 1) := dec_of t_X3_isItem_ok 2 rfl
theorem dX3_isItem_3 : decode cX3_isItem 3 = .ok (.isub, 1) := dec_of t_X3_isItem_ok 3 rfl
theorem dX3_isItem_4 : decode cX3_isItem 4 = .ok (.invokevirtual 7, 3) := dec_of t_X3_isItem_ok 4 rfl
theorem dX3_isItem_7 : decode cX3_isItem 7 = .ok (.istore_n 3, 1) := dec_of t_X3_isItem_ok 5 rfl
theorem dX3_isItem_8 : decode cX3_isItem 8 = .ok (.iload_n 2, 1) := dec_of t_X3_isItem_ok 6 rfl
theorem dX3_isItem_9 : decode cX3_isItem 9 = .ok (.iload_n 1, 1) := dec_of t_X3_isItem_ok 7 rfl
theorem dX3_isItem_10 : decode cX3_isItem 10 = .ok (.isub, 1) := dec_of t_X3_isItem_ok 8 rfl
theorem dX3_isItem_11 : decode cX3_isItem 11 = .ok (.iconst 1, 1) := dec_of t_X3_isItem_ok 9 rfl
theorem dX3_isItem_12 : decode cX3_isItem 12 = .ok (.if_icmp .ne 11, 3) := dec_of t_X3_isItem_ok 10 rfl
theorem dX3_isItem_15 : decode cX3_isItem 15 = .ok (.iload_n 3, 1) := dec_of t_X3_isItem_ok 11 rfl
theorem dX3_isItem_16 : decode cX3_isItem 16 = .ok (.bipush 35, 2) := dec_of t_X3_isItem_ok 12 rfl
theorem dX3_isItem_18 : decode cX3_isItem 18 = .ok (.if_icmp .ne 5, 3) := dec_of t_X3_isItem_ok 13 rfl
theorem dX3_isItem_21 : decode cX3_isItem 21 = .ok (.iconst 1, 1) := dec_of t_X3_isItem_ok 14 rfl
theorem dX3_isItem_22 : decode cX3_isItem 22 = .ok (.ireturn, 1) := dec_of t_X3_isItem_ok 15 rfl
theorem dX3_isItem_23 : decode cX3_isItem 23 = .ok (.iload_n 2, 1) := dec_of t_X3_isItem_ok 16 rfl
theorem dX3_isItem_24 : decode cX3_isItem 24 = .ok (.iload_n 1, 1) := dec_of t_X3_isItem_ok 17 rfl
theorem dX3_isItem_25 : decode cX3_isItem 25 = .ok (.if_icmp .le 33, 3) := dec_of t_X3_isItem_ok 18 rfl
theorem dX3_isItem_28 : decode cX3_isItem 28 = .ok (.iload_n 3, 1) := dec_of t_X3_isItem_ok 19 rfl
theorem dX3_isItem_29 : decode cX3_isItem 29 = .ok (.bipush 42, 2) := dec_of t_X3_isItem_ok 20 rfl
theorem dX3_isItem_31 : decode cX3_isItem 31 = .ok (.if_icmp .ne 27, 3) := dec_of t_X3_isItem_ok 21 rfl
theorem dX3_isItem_34 : decode cX3_isItem 34 = .ok (.iload_n 2, 1) := dec_of t_X3_isItem_ok 22 rfl
theorem dX3_isItem_35 : decode cX3_isItem 35 = .ok (.iload_n 1, 1) := dec_of t_X3_isItem_ok 23 rfl
theorem dX3_isItem_36 : decode cX3_isItem 36 = .ok (.isub, 1) := dec_of t_X3_isItem_ok 24 rfl
theorem dX3_isItem_37 : decode cX3_isItem 37 = .ok (.iconst 1, 1) := dec_of t_X3_isItem_ok 25 rfl
theorem dX3_isItem_38 : decode cX3_isItem 38 = .ok (.if_icmp .eq 14, 3) := dec_of t_X3_isItem_ok 26 rfl
theorem dX3_isItem_41 : decode cX3_isItem 41 = .ok (.aload_n 0, 1) := dec_of t_X3_isItem_ok 27 rfl
theorem dX3_isItem_42 : decode cX3_isItem 42 = .ok (.iload_n 1, 1) := dec_of t_X3_isItem_ok 28 rfl
theorem dX3_isItem_43 : decode cX3_isItem 43 = .ok (.iload_n 2, 1) := dec_of t_X3_isItem_ok 29 rfl
theorem dX3_isItem_44 : decode cX3_isItem 44 = .ok (.iconst 1, 1) := dec_of t_X3_isItem_ok 30 rfl
theorem dX3_isItem_45 : decode cX3_isItem 45 = .ok (.isub, 1) := dec_of t_X3_isItem_ok 31 rfl
theorem dX3_isItem_46 : decode cX3_isItem 46 = .ok (.invokestatic 30, 3) := dec_of t_X3_isItem_ok 32 rfl
theorem dX3_isItem_49 : decode cX3_isItem 49 = .ok (.ifCond .eq 7, 3) := dec_of t_X3_isItem_ok 33 rfl
theorem dX3_isItem_52 : decode cX3_isItem 52 = .ok (.iconst 1, 1) := dec_of t_X3_isItem_ok 34 rfl
theorem dX3_isItem_53 : decode cX3_isItem 53 = .ok (.goto 4, 3) := dec_of t_X3_isItem_ok 35 rfl
theorem dX3_isItem_56 : decode cX3_isItem 56 = .ok (.iconst 0, 1) := dec_of t_X3_isItem_ok 36 rfl
theorem dX3_isItem_57 : decode cX3_isItem 57 = .ok (.ireturn, 1) := dec_of t_X3_isItem_ok 37 rfl
theorem dX3_isItem_58 : decode cX3_isItem 58 = .ok (.aload_n 0, 1) := dec_of t_X3_isItem_ok 38 rfl
theorem dX3_isItem_59 : decode cX3_isItem 59 = .ok (.iload_n 1, 1) := dec_of t_X3_isItem_ok 39 rfl
theorem dX3_isItem_60 : decode cX3_isItem 60 = .ok (.iload_n 2, 1) := dec_of t_X3_isItem_ok 40 rfl
theorem dX3_isItem_61 : decode cX3_isItem 61 = .ok (.invokestatic 30, 3) := dec_of t_X3_isItem_ok 41 rfl
theorem dX3_isItem_64 : decode cX3_isItem 64 = .ok (.ireturn, 1) := dec_of t_X3_isItem_ok 42 rfl
def t_X3_fits : List (Nat × Instr × Nat) := [(0, .aload_n 0, 1), (1, .getfield 13, 3), (4, .ifCond .eq 9, 3), (7, .aload_n 1, 1), (8, .iload_n 2, 1), (9, .invokevirtual 36, 3), (12, .ireturn, 1), (13, .aload_n 1, 1), (14, .iload_n 2, 1), (15, .invokevirtual 41, 3), (18, .ifCond .eq 41, 3), (21, .aload_n 1, 1), (22, .iload_n 2, 1), (23, .aload_n 0, 1), (24, .getfield 26, 3), (27, .invokevirtual 43, 3), (30, .ifCond .eq 29, 3), (33, .aload_n 0, 1), (34, .getfield 19, 3), (37, .ifCond .ne 18, 3), (40, .aload_n 1, 1), (41, .iload_n 2, 1), (42, .invokevirtual 47, 3), (45, .aload_n 0, 1), (46, .getfield 26, 3), (49, .invokevirtual 50, 3), (52, .if_icmp .ne 7, 3), (55, .iconst 1, 1), (56, .goto 4, 3), (59, .iconst 0, 1), (60, .ireturn, 1)]
theorem t_X3_fits_ok : dec_ok cX3_fits t_X3_fits = true := by decide +kernel
theorem dX3_fits_0 : decode cX3_fits 0 = .ok (.aload_n 0, 1) := dec_of t_X3_fits_ok 0 rfl
theorem dX3_fits_1 : decode cX3_fits 1 = .ok (.getfield 13, 3) := dec_of t_X3_fits_ok 1 rfl
theorem dX3_fits_4 : decode cX3_fits 4 = .ok (.ifCond .eq 9, 3) := dec_of t_X3_fits_ok 2 rfl
theorem dX3_fits_7 : decode cX3_fits 7 = .ok (.aload_n 1, 1) := dec_of t_X3_fits_ok 3 rfl
theorem dX3_fits_8 : decode cX3_fits 8 = .ok (.iload_n 2, 1) := dec_of t_X3_fits_ok 4 rfl
theorem dX3_fits_9 : decode cX3_fits 9 = .ok (.invokevirtual 36, 3) := dec_of t_X3_fits_ok 5 rfl
theorem dX3_fits_12 : decode cX3_fits 12 = .ok (.ireturn, 1) := dec_of t_X3_fits_ok 6 rfl
theorem dX3_fits_13 : decode cX3_fits 13 = .ok (.aload_n 1, 1) := dec_of t_X3_fits_ok 7 rfl
theorem dX3_fits_14 : decode cX3_fits 14 = .ok (.iload_n 2, 1) := dec_of t_X3_fits_ok 8 rfl
theorem dX3_fits_15 : decode cX3_fits 15 = .ok (.invokevirtual 41, 3) := dec_of t_X3_fits_ok 9 rfl
theorem dX3_fits_18 : decode cX3_fits 18 = .ok (.ifCond .eq 41, 3) := dec_of t_X3_fits_ok 10 rfl
theorem dX3_fits_21 : decode cX3_fits 21 = .ok (.aload_n 1, 1) := dec_of t_X3_fits_ok 11 rfl
theorem dX3_fits_22 : decode cX3_fits 22 = .ok (.iload_n 2, 1) := dec_of t_X3_fits_ok 12 rfl
theorem dX3_fits_23 : decode cX3_fits 23 = .ok (.aload_n 0, 1) := dec_of t_X3_fits_ok 13 rfl
theorem dX3_fits_24 : decode cX3_fits 24 = .ok (.getfield 26, 3) := dec_of t_X3_fits_ok 14 rfl
theorem dX3_fits_27 : decode cX3_fits 27 = .ok (.invokevirtual 43, 3) := dec_of t_X3_fits_ok 15 rfl
theorem dX3_fits_30 : decode cX3_fits 30 = .ok (.ifCond .eq 29, 3) := dec_of t_X3_fits_ok 16 rfl
theorem dX3_fits_33 : decode cX3_fits 33 = .ok (.aload_n 0, 1) := dec_of t_X3_fits_ok 17 rfl
theorem dX3_fits_34 : decode cX3_fits 34 = .ok (.getfield 19, 3) := dec_of t_X3_fits_ok 18 rfl
theorem dX3_fits_37 : decode cX3_fits 37 = .ok (.ifCond .ne 18, 3) := dec_of t_X3_fits_ok 19 rfl
theorem dX3_fits_40 : decode cX3_fits 40 = .ok (.aload_n 1, 1) := dec_of t_X3_fits_ok 20 rfl
theorem dX3_fits_41 : decode cX3_fits 41 = .ok (.iload_n 2, 1) := dec_of t_X3_fits_ok 21 rfl
theorem dX3_fits_42 : decode cX3_fits 42 = .ok (.invokevirtual 47, 3) := dec_of t_X3_fits_ok 22 rfl
theorem dX3_fits_45 : decode cX3_fits 45 = .ok (.aload_n 0, 1) := dec_of t_X3_fits_ok 23 rfl
theorem dX3_fits_46 : decode cX3_fits 46 = .ok (.getfield 26, 3) := dec_of t_X3_fits_ok 24 rfl
theorem dX3_fits_49 : decode cX3_fits 49 = .ok (.invokevirtual 50, 3) := dec_of t_X3_fits_ok 25 rfl
theorem dX3_fits_52 : decode cX3_fits 52 = .ok (.if_icmp .ne 7, 3) := dec_of t_X3_fits_ok 26 rfl
theorem dX3_fits_55 : decode cX3_fits 55 = .ok (.iconst 1, 1) := dec_of t_X3_fits_ok 27 rfl
theorem dX3_fits_56 : decode cX3_fits 56 = .ok (.goto 4, 3) := dec_of t_X3_fits_ok 28 rfl
theorem dX3_fits_59 : decode cX3_fits 59 = .ok (.iconst 0, 1) := dec_of t_X3_fits_ok 29 rfl
theorem dX3_fits_60 : decode cX3_fits 60 = .ok (.ireturn, 1) := dec_of t_X3_fits_ok 30 rfl
def t_X4_init : List (Nat × Instr × Nat) := [(0, .aload_n 0, 1), (1, .invokespecial 1, 3), (4, .aload_n 0, 1), (5, .aload_n 1, 1), (6, .putfield 7, 3), (9, .aload_n 0, 1), (10, .aload_n 2, 1), (11, .putfield 13, 3), (14, .return_, 1)]
theorem t_X4_init_ok : dec_ok cX4_init t_X4_init = true := by decide +kernel
theorem dX4_init_0 : decode cX4_init 0 = .ok (.aload_n 0, 1) := dec_of t_X4_init_ok 0 rfl
theorem dX4_init_1 : decode cX4_init 1 = .ok (.invokespecial 1, 3) := dec_of t_X4_init_ok 1 rfl
theorem dX4_init_4 : decode cX4_init 4 = .ok (.aload_n 0, 1) := dec_of t_X4_init_ok 2 rfl
theorem dX4_init_5 : decode cX4_init 5 = .ok (.aload_n 1, 1) := dec_of t_X4_init_ok 3 rfl
theorem dX4_init_6 : decode cX4_init 6 = .ok (.putfield 7, 3) := dec_of t_X4_init_ok 4 rfl
theorem dX4_init_9 : decode cX4_init 9 = .ok (.aload_n 0, 1) := dec_of t_X4_init_ok 5 rfl
theorem dX4_init_10 : decode cX4_init 10 = .ok (.aload_n 2, 1) := dec_of t_X4_init_ok 6 rfl
theorem dX4_init_11 : decode cX4_init 11 = .ok (.putfield 13, 3) := dec_of t_X4_init_ok 7 rfl
theorem dX4_init_14 : decode cX4_init 14 = .ok (.return_, 1) := dec_of t_X4_init_ok 8 rfl
def t_X4_unlike : List (Nat × Instr × Nat) := [(0, .aload_n 1, 1), (1, .aload_n 0, 1), (2, .getfield 7, 3), (5, .iload_n 2, 1), (6, .invokevirtual 16, 3), (9, .ifCond .eq 10, 3), (12, .aload_n 0, 1), (13, .getfield 13, 3), (16, .goto 7, 3), (19, .aload_n 0, 1), (20, .getfield 7, 3), (23, .areturn, 1)]
theorem t_X4_unlike_ok : dec_ok cX4_unlike t_X4_unlike = true := by decide +kernel
theorem dX4_unlike_0 : decode cX4_unlike 0 = .ok (.aload_n 1, 1) := dec_of t_X4_unlike_ok 0 rfl
theorem dX4_unlike_1 : decode cX4_unlike 1 = .ok (.aload_n 0, 1) := dec_of t_X4_unlike_ok 1 rfl
theorem dX4_unlike_2 : decode cX4_unlike 2 = .ok (.getfield 7, 3) := dec_of t_X4_unlike_ok 2 rfl
theorem dX4_unlike_5 : decode cX4_unlike 5 = .ok (.iload_n 2, 1) := dec_of t_X4_unlike_ok 3 rfl
theorem dX4_unlike_6 : decode cX4_unlike 6 = .ok (.invokevirtual 16, 3) := dec_of t_X4_unlike_ok 4 rfl
theorem dX4_unlike_9 : decode cX4_unlike 9 = .ok (.ifCond .eq 10, 3) := dec_of t_X4_unlike_ok 5 rfl
theorem dX4_unlike_12 : decode cX4_unlike 12 = .ok (.aload_n 0, 1) := dec_of t_X4_unlike_ok 6 rfl
theorem dX4_unlike_13 : decode cX4_unlike 13 = .ok (.getfield 13, 3) := dec_of t_X4_unlike_ok 7 rfl
theorem dX4_unlike_16 : decode cX4_unlike 16 = .ok (.goto 7, 3) := dec_of t_X4_unlike_ok 8 rfl
theorem dX4_unlike_19 : decode cX4_unlike 19 = .ok (.aload_n 0, 1) := dec_of t_X4_unlike_ok 9 rfl
theorem dX4_unlike_20 : decode cX4_unlike 20 = .ok (.getfield 7, 3) := dec_of t_X4_unlike_ok 10 rfl
theorem dX4_unlike_23 : decode cX4_unlike 23 = .ok (.areturn, 1) := dec_of t_X4_unlike_ok 11 rfl
def t_X5_init : List (Nat × Instr × Nat) := [(0, .aload_n 0, 1), (1, .invokespecial 1, 3), (4, .aload_n 0, 1), (5, .iload_n 1, 1), (6, .ifCond .le 7, 3), (9, .iload_n 1, 1), (10, .goto 4, 3), (13, .iconst 0, 1), (14, .newarray .int, 2), (16, .putfield 7, 3), (19, .aload_n 0, 1), (20, .iconst 0, 1), (21, .putfield 13, 3), (24, .return_, 1)]
theorem t_X5_init_ok : dec_ok cX5_init t_X5_init = true := by decide +kernel
theorem dX5_init_0 : decode cX5_init 0 = .ok (.aload_n 0, 1) := dec_of t_X5_init_ok 0 rfl
theorem dX5_init_1 : decode cX5_init 1 = .ok (.invokespecial 1, 3) := dec_of t_X5_init_ok 1 rfl
theorem dX5_init_4 : decode cX5_init 4 = .ok (.aload_n 0, 1) := dec_of t_X5_init_ok 2 rfl
theorem dX5_init_5 : decode cX5_init 5 = .ok (.iload_n 1, 1) := dec_of t_X5_init_ok 3 rfl
theorem dX5_init_6 : decode cX5_init 6 = .ok (.ifCond .le 7, 3) := dec_of t_X5_init_ok 4 rfl
theorem dX5_init_9 : decode cX5_init 9 = .ok (.iload_n 1, 1) := dec_of t_X5_init_ok 5 rfl
theorem dX5_init_10 : decode cX5_init 10 = .ok (.goto 4, 3) := dec_of t_X5_init_ok 6 rfl
theorem dX5_init_13 : decode cX5_init 13 = .ok (.iconst 0, 1) := dec_of t_X5_init_ok 7 rfl
theorem dX5_init_14 : decode cX5_init 14 = .ok (.newarray .int, 2) := dec_of t_X5_init_ok 8 rfl
theorem dX5_init_16 : decode cX5_init 16 = .ok (.putfield 7, 3) := dec_of t_X5_init_ok 9 rfl
theorem dX5_init_19 : decode cX5_init 19 = .ok (.aload_n 0, 1) := dec_of t_X5_init_ok 10 rfl
theorem dX5_init_20 : decode cX5_init 20 = .ok (.iconst 0, 1) := dec_of t_X5_init_ok 11 rfl
theorem dX5_init_21 : decode cX5_init 21 = .ok (.putfield 13, 3) := dec_of t_X5_init_ok 12 rfl
theorem dX5_init_24 : decode cX5_init 24 = .ok (.return_, 1) := dec_of t_X5_init_ok 13 rfl
def t_X5_count : List (Nat × Instr × Nat) := [(0, .aload_n 0, 1), (1, .getfield 13, 3), (4, .ireturn, 1)]
theorem t_X5_count_ok : dec_ok cX5_count t_X5_count = true := by decide +kernel
theorem dX5_count_0 : decode cX5_count 0 = .ok (.aload_n 0, 1) := dec_of t_X5_count_ok 0 rfl
theorem dX5_count_1 : decode cX5_count 1 = .ok (.getfield 13, 3) := dec_of t_X5_count_ok 1 rfl
theorem dX5_count_4 : decode cX5_count 4 = .ok (.ireturn, 1) := dec_of t_X5_count_ok 2 rfl
def t_X5_get : List (Nat × Instr × Nat) := [(0, .iload_n 1, 1), (1, .ifCond .lt 29, 3), (4, .iload_n 1, 1), (5, .aload_n 0, 1), (6, .getfield 13, 3), (9, .if_icmp .ge 21, 3), (12, .iload_n 1, 1), (13, .aload_n 0, 1), (14, .getfield 7, 3), (17, .arraylength, 1), (18, .if_icmp .ge 12, 3), (21, .aload_n 0, 1), (22, .getfield 7, 3), (25, .iload_n 1, 1), (26, .iaload, 1), (27, .goto 4, 3), (30, .iconst 0, 1), (31, .ireturn, 1)]
theorem t_X5_get_ok : dec_ok cX5_get t_X5_get = true := by decide +kernel
theorem dX5_get_0 : decode cX5_get 0 = .ok (.iload_n 1, 1) := dec_of t_X5_get_ok 0 rfl
theorem dX5_get_1 : decode cX5_get 1 = .ok (.ifCond .lt 29, 3) := dec_of t_X5_get_ok 1 rfl
theorem dX5_get_4 : decode cX5_get 4 = .ok (.iload_n 1, 1) := dec_of t_X5_get_ok 2 rfl
theorem dX5_get_5 : decode cX5_get 5 = .ok (.aload_n 0, 1) := dec_of t_X5_get_ok 3 rfl
theorem dX5_get_6 : decode cX5_get 6 = .ok (.getfield 13, 3) := dec_of t_X5_get_ok 4 rfl
theorem dX5_get_9 : decode cX5_get 9 = .ok (.if_icmp .ge 21, 3) := dec_of t_X5_get_ok 5 rfl
theorem dX5_get_12 : decode cX5_get 12 = .ok (.iload_n 1, 1) := dec_of t_X5_get_ok 6 rfl
theorem dX5_get_13 : decode cX5_get 13 = .ok (.aload_n 0, 1) := dec_of t_X5_get_ok 7 rfl
theorem dX5_get_14 : decode cX5_get 14 = .ok (.getfield 7, 3) := dec_of t_X5_get_ok 8 rfl
theorem dX5_get_17 : decode cX5_get 17 = .ok (.arraylength, 1) := dec_of t_X5_get_ok 9 rfl
theorem dX5_get_18 : decode cX5_get 18 = .ok (.if_icmp .ge 12, 3) := dec_of t_X5_get_ok 10 rfl
theorem dX5_get_21 : decode cX5_get 21 = .ok (.aload_n 0, 1) := dec_of t_X5_get_ok 11 rfl
theorem dX5_get_22 : decode cX5_get 22 = .ok (.getfield 7, 3) := dec_of t_X5_get_ok 12 rfl
theorem dX5_get_25 : decode cX5_get 25 = .ok (.iload_n 1, 1) := dec_of t_X5_get_ok 13 rfl
theorem dX5_get_26 : decode cX5_get 26 = .ok (.iaload, 1) := dec_of t_X5_get_ok 14 rfl
theorem dX5_get_27 : decode cX5_get 27 = .ok (.goto 4, 3) := dec_of t_X5_get_ok 15 rfl
theorem dX5_get_30 : decode cX5_get 30 = .ok (.iconst 0, 1) := dec_of t_X5_get_ok 16 rfl
theorem dX5_get_31 : decode cX5_get 31 = .ok (.ireturn, 1) := dec_of t_X5_get_ok 17 rfl
def t_X5_set : List (Nat × Instr × Nat) := [(0, .iload_n 1, 1), (1, .ifCond .lt 27, 3), (4, .iload_n 1, 1), (5, .aload_n 0, 1), (6, .getfield 13, 3), (9, .if_icmp .ge 19, 3), (12, .iload_n 1, 1), (13, .aload_n 0, 1), (14, .getfield 7, 3), (17, .arraylength, 1), (18, .if_icmp .ge 10, 3), (21, .aload_n 0, 1), (22, .getfield 7, 3), (25, .iload_n 1, 1), (26, .iload_n 2, 1), (27, .iastore, 1), (28, .return_, 1)]
theorem t_X5_set_ok : dec_ok cX5_set t_X5_set = true := by decide +kernel
theorem dX5_set_0 : decode cX5_set 0 = .ok (.iload_n 1, 1) := dec_of t_X5_set_ok 0 rfl
theorem dX5_set_1 : decode cX5_set 1 = .ok (.ifCond .lt 27, 3) := dec_of t_X5_set_ok 1 rfl
theorem dX5_set_4 : decode cX5_set 4 = .ok (.iload_n 1, 1) := dec_of t_X5_set_ok 2 rfl
theorem dX5_set_5 : decode cX5_set 5 = .ok (.aload_n 0, 1) := dec_of t_X5_set_ok 3 rfl
theorem dX5_set_6 : decode cX5_set 6 = .ok (.getfield 13, 3) := dec_of t_X5_set_ok 4 rfl
theorem dX5_set_9 : decode cX5_set 9 = .ok (.if_icmp .ge 19, 3) := dec_of t_X5_set_ok 5 rfl
theorem dX5_set_12 : decode cX5_set 12 = .ok (.iload_n 1, 1) := dec_of t_X5_set_ok 6 rfl
theorem dX5_set_13 : decode cX5_set 13 = .ok (.aload_n 0, 1) := dec_of t_X5_set_ok 7 rfl
theorem dX5_set_14 : decode cX5_set 14 = .ok (.getfield 7, 3) := dec_of t_X5_set_ok 8 rfl
theorem dX5_set_17 : decode cX5_set 17 = .ok (.arraylength, 1) := dec_of t_X5_set_ok 9 rfl
theorem dX5_set_18 : decode cX5_set 18 = .ok (.if_icmp .ge 10, 3) := dec_of t_X5_set_ok 10 rfl
theorem dX5_set_21 : decode cX5_set 21 = .ok (.aload_n 0, 1) := dec_of t_X5_set_ok 11 rfl
theorem dX5_set_22 : decode cX5_set 22 = .ok (.getfield 7, 3) := dec_of t_X5_set_ok 12 rfl
theorem dX5_set_25 : decode cX5_set 25 = .ok (.iload_n 1, 1) := dec_of t_X5_set_ok 13 rfl
theorem dX5_set_26 : decode cX5_set 26 = .ok (.iload_n 2, 1) := dec_of t_X5_set_ok 14 rfl
theorem dX5_set_27 : decode cX5_set 27 = .ok (.iastore, 1) := dec_of t_X5_set_ok 15 rfl
theorem dX5_set_28 : decode cX5_set 28 = .ok (.return_, 1) := dec_of t_X5_set_ok 16 rfl
def t_X5_add : List (Nat × Instr × Nat) := [(0, .aload_n 0, 1), (1, .getfield 13, 3), (4, .ifCond .lt 35, 3), (7, .aload_n 0, 1), (8, .getfield 13, 3), (11, .aload_n 0, 1), (12, .getfield 7, 3), (15, .arraylength, 1), (16, .if_icmp .ge 23, 3), (19, .aload_n 0, 1), (20, .getfield 7, 3), (23, .aload_n 0, 1), (24, .getfield 13, 3), (27, .iload_n 1, 1), (28, .iastore, 1), (29, .aload_n 0, 1), (30, .dup, 1), (31, .getfield 13, 3), (34, .iconst 1, 1), (35, .iadd, 1), (36, .putfield 13, 3), (39, .return_, 1)]
theorem t_X5_add_ok : dec_ok cX5_add t_X5_add = true := by decide +kernel
theorem dX5_add_0 : decode cX5_add 0 = .ok (.aload_n 0, 1) := dec_of t_X5_add_ok 0 rfl
theorem dX5_add_1 : decode cX5_add 1 = .ok (.getfield 13, 3) := dec_of t_X5_add_ok 1 rfl
theorem dX5_add_4 : decode cX5_add 4 = .ok (.ifCond .lt 35, 3) := dec_of t_X5_add_ok 2 rfl
theorem dX5_add_7 : decode cX5_add 7 = .ok (.aload_n 0, 1) := dec_of t_X5_add_ok 3 rfl
theorem dX5_add_8 : decode cX5_add 8 = .ok (.getfield 13, 3) := dec_of t_X5_add_ok 4 rfl
theorem dX5_add_11 : decode cX5_add 11 = .ok (.aload_n 0, 1) := dec_of t_X5_add_ok 5 rfl
theorem dX5_add_12 : decode cX5_add 12 = .ok (.getfield 7, 3) := dec_of t_X5_add_ok 6 rfl
theorem dX5_add_15 : decode cX5_add 15 = .ok (.arraylength, 1) := dec_of t_X5_add_ok 7 rfl
theorem dX5_add_16 : decode cX5_add 16 = .ok (.if_icmp .ge 23, 3) := dec_of t_X5_add_ok 8 rfl
theorem dX5_add_19 : decode cX5_add 19 = .ok (.aload_n 0, 1) := dec_of t_X5_add_ok 9 rfl
theorem dX5_add_20 : decode cX5_add 20 = .ok (.getfield 7, 3) := dec_of t_X5_add_ok 10 rfl
theorem dX5_add_23 : decode cX5_add 23 = .ok (.aload_n 0, 1) := dec_of t_X5_add_ok 11 rfl
theorem dX5_add_24 : decode cX5_add 24 = .ok (.getfield 13, 3) := dec_of t_X5_add_ok 12 rfl
theorem dX5_add_27 : decode cX5_add 27 = .ok (.iload_n 1, 1) := dec_of t_X5_add_ok 13 rfl
theorem dX5_add_28 : decode cX5_add 28 = .ok (.iastore, 1) := dec_of t_X5_add_ok 14 rfl
theorem dX5_add_29 : decode cX5_add 29 = .ok (.aload_n 0, 1) := dec_of t_X5_add_ok 15 rfl
theorem dX5_add_30 : decode cX5_add 30 = .ok (.dup, 1) := dec_of t_X5_add_ok 16 rfl
theorem dX5_add_31 : decode cX5_add 31 = .ok (.getfield 13, 3) := dec_of t_X5_add_ok 17 rfl
theorem dX5_add_34 : decode cX5_add 34 = .ok (.iconst 1, 1) := dec_of t_X5_add_ok 18 rfl
theorem dX5_add_35 : decode cX5_add 35 = .ok (.iadd, 1) := dec_of t_X5_add_ok 19 rfl
theorem dX5_add_36 : decode cX5_add 36 = .ok (.putfield 13, 3) := dec_of t_X5_add_ok 20 rfl
theorem dX5_add_39 : decode cX5_add 39 = .ok (.return_, 1) := dec_of t_X5_add_ok 21 rfl
def t_X5_insert : List (Nat × Instr × Nat) := [(0, .iload_n 1, 1), (1, .ifCond .lt 23, 3), (4, .iload_n 1, 1), (5, .aload_n 0, 1), (6, .getfield 13, 3), (9, .if_icmp .gt 15, 3), (12, .aload_n 0, 1), (13, .getfield 13, 3), (16, .aload_n 0, 1), (17, .getfield 7, 3), (20, .arraylength, 1), (21, .if_icmp .lt 4, 3), (24, .return_, 1), (25, .aload_n 0, 1), (26, .getfield 13, 3), (29, .istore_n 3, 1), (30, .iload_n 3, 1), (31, .iload_n 1, 1), (32, .if_icmp .le 23, 3), (35, .aload_n 0, 1), (36, .getfield 7, 3), (39, .iload_n 3, 1), (40, .aload_n 0, 1), (41, .getfield 7, 3), (44, .iload_n 3, 1), (45, .iconst 1, 1), (46, .isub, 1), (47, .iaload, 1), (48, .iastore, 1), (49, .iinc 3 (-1), 3), (52, .goto (-22), 3), (55, .aload_n 0, 1), (56, .getfield 7, 3), (59, .iload_n 1, 1), (60, .iload_n 2, 1), (61, .iastore, 1), (62, .aload_n 0, 1), (63, .dup, 1), (64, .getfield 13, 3), (67, .iconst 1, 1), (68, .iadd, 1), (69, .putfield 13, 3), (72, .return_, 1)]
theorem t_X5_insert_ok : dec_ok cX5_insert t_X5_insert = true := by decide +kernel
theorem dX5_insert_0 : decode cX5_insert 0 = .ok (.iload_n 1, 1) := dec_of t_X5_insert_ok 0 rfl
theorem dX5_insert_1 : decode cX5_insert 1 = .ok (.ifCond .lt 23, 3) := dec_of t_X5_insert_ok 1 rfl
theorem dX5_insert_4 : decode cX5_insert 4 = .ok (.iload_n 1, 1) := dec_of t_X5_insert_ok 2 rfl
theorem dX5_insert_5 : decode cX5_insert 5 = .ok (.aload_n 0, 1) := dec_of t_X5_insert_ok 3 rfl
theorem dX5_insert_6 : decode cX5_insert 6 = .ok (.getfield 13, 3) := dec_of t_X5_insert_ok 4 rfl
theorem dX5_insert_9 : decode cX5_insert 9 = .ok (.if_icmp .gt 15, 3) := dec_of t_X5_insert_ok 5 rfl
theorem dX5_insert_12 : decode cX5_insert 12 = .ok (.aload_n 0, 1) := dec_of t_X5_insert_ok 6 rfl
theorem dX5_insert_13 : decode cX5_insert 13 = .ok (.getfield 13, 3) := dec_of t_X5_insert_ok 7 rfl
theorem dX5_insert_16 : decode cX5_insert 16 = .ok (.aload_n 0, 1) := dec_of t_X5_insert_ok 8 rfl
theorem dX5_insert_17 : decode cX5_insert 17 = .ok (.getfield 7, 3) := dec_of t_X5_insert_ok 9 rfl
theorem dX5_insert_20 : decode cX5_insert 20 = .ok (.arraylength, 1) := dec_of t_X5_insert_ok 10 rfl
theorem dX5_insert_21 : decode cX5_insert 21 = .ok (.if_icmp .lt 4, 3) := dec_of t_X5_insert_ok 11 rfl
theorem dX5_insert_24 : decode cX5_insert 24 = .ok (.return_, 1) := dec_of t_X5_insert_ok 12 rfl
theorem dX5_insert_25 : decode cX5_insert 25 = .ok (.aload_n 0, 1) := dec_of t_X5_insert_ok 13 rfl
theorem dX5_insert_26 : decode cX5_insert 26 = .ok (.getfield 13, 3) := dec_of t_X5_insert_ok 14 rfl
theorem dX5_insert_29 : decode cX5_insert 29 = .ok (.istore_n 3, 1) := dec_of t_X5_insert_ok 15 rfl
theorem dX5_insert_30 : decode cX5_insert 30 = .ok (.iload_n 3, 1) := dec_of t_X5_insert_ok 16 rfl
theorem dX5_insert_31 : decode cX5_insert 31 = .ok (.iload_n 1, 1) := dec_of t_X5_insert_ok 17 rfl
theorem dX5_insert_32 : decode cX5_insert 32 = .ok (.if_icmp .le 23, 3) := dec_of t_X5_insert_ok 18 rfl
theorem dX5_insert_35 : decode cX5_insert 35 = .ok (.aload_n 0, 1) := dec_of t_X5_insert_ok 19 rfl
theorem dX5_insert_36 : decode cX5_insert 36 = .ok (.getfield 7, 3) := dec_of t_X5_insert_ok 20 rfl
theorem dX5_insert_39 : decode cX5_insert 39 = .ok (.iload_n 3, 1) := dec_of t_X5_insert_ok 21 rfl
theorem dX5_insert_40 : decode cX5_insert 40 = .ok (.aload_n 0, 1) := dec_of t_X5_insert_ok 22 rfl
theorem dX5_insert_41 : decode cX5_insert 41 = .ok (.getfield 7, 3) := dec_of t_X5_insert_ok 23 rfl
theorem dX5_insert_44 : decode cX5_insert 44 = .ok (.iload_n 3, 1) := dec_of t_X5_insert_ok 24 rfl
theorem dX5_insert_45 : decode cX5_insert 45 = .ok (.iconst 1, 1) := dec_of t_X5_insert_ok 25 rfl
theorem dX5_insert_46 : decode cX5_insert 46 = .ok (.isub, 1) := dec_of t_X5_insert_ok 26 rfl
theorem dX5_insert_47 : decode cX5_insert 47 = .ok (.iaload, 1) := dec_of t_X5_insert_ok 27 rfl
theorem dX5_insert_48 : decode cX5_insert 48 = .ok (.iastore, 1) := dec_of t_X5_insert_ok 28 rfl
theorem dX5_insert_49 : decode cX5_insert 49 = .ok (.iinc 3 (-1), 3) := dec_of t_X5_insert_ok 29 rfl
theorem dX5_insert_52 : decode cX5_insert 52 = .ok (.goto (-22), 3) := dec_of t_X5_insert_ok 30 rfl
theorem dX5_insert_55 : decode cX5_insert 55 = .ok (.aload_n 0, 1) := dec_of t_X5_insert_ok 31 rfl
theorem dX5_insert_56 : decode cX5_insert 56 = .ok (.getfield 7, 3) := dec_of t_X5_insert_ok 32 rfl
theorem dX5_insert_59 : decode cX5_insert 59 = .ok (.iload_n 1, 1) := dec_of t_X5_insert_ok 33 rfl
theorem dX5_insert_60 : decode cX5_insert 60 = .ok (.iload_n 2, 1) := dec_of t_X5_insert_ok 34 rfl
theorem dX5_insert_61 : decode cX5_insert 61 = .ok (.iastore, 1) := dec_of t_X5_insert_ok 35 rfl
theorem dX5_insert_62 : decode cX5_insert 62 = .ok (.aload_n 0, 1) := dec_of t_X5_insert_ok 36 rfl
theorem dX5_insert_63 : decode cX5_insert 63 = .ok (.dup, 1) := dec_of t_X5_insert_ok 37 rfl
theorem dX5_insert_64 : decode cX5_insert 64 = .ok (.getfield 13, 3) := dec_of t_X5_insert_ok 38 rfl
theorem dX5_insert_67 : decode cX5_insert 67 = .ok (.iconst 1, 1) := dec_of t_X5_insert_ok 39 rfl
theorem dX5_insert_68 : decode cX5_insert 68 = .ok (.iadd, 1) := dec_of t_X5_insert_ok 40 rfl
theorem dX5_insert_69 : decode cX5_insert 69 = .ok (.putfield 13, 3) := dec_of t_X5_insert_ok 41 rfl
theorem dX5_insert_72 : decode cX5_insert 72 = .ok (.return_, 1) := dec_of t_X5_insert_ok 42 rfl
def t_X5_remove : List (Nat × Instr × Nat) := [(0, .iload_n 1, 1), (1, .ifCond .lt 23, 3), (4, .iload_n 1, 1), (5, .aload_n 0, 1), (6, .getfield 13, 3), (9, .if_icmp .ge 15, 3), (12, .aload_n 0, 1), (13, .getfield 13, 3), (16, .aload_n 0, 1), (17, .getfield 7, 3), (20, .arraylength, 1), (21, .if_icmp .le 5, 3), (24, .iconst 0, 1), (25, .ireturn, 1), (26, .aload_n 0, 1), (27, .getfield 7, 3), (30, .iload_n 1, 1), (31, .iaload, 1), (32, .istore_n 2, 1), (33, .iload_n 1, 1), (34, .iconst 1, 1), (35, .iadd, 1), (36, .istore_n 3, 1), (37, .iload_n 3, 1), (38, .aload_n 0, 1), (39, .getfield 13, 3), (42, .if_icmp .ge 23, 3), (45, .aload_n 0, 1), (46, .getfield 7, 3), (49, .iload_n 3, 1), (50, .iconst 1, 1), (51, .isub, 1), (52, .aload_n 0, 1), (53, .getfield 7, 3), (56, .iload_n 3, 1), (57, .iaload, 1), (58, .iastore, 1), (59, .iinc 3 1, 3), (62, .goto (-25), 3), (65, .aload_n 0, 1), (66, .dup, 1), (67, .getfield 13, 3), (70, .iconst 1, 1), (71, .isub, 1), (72, .putfield 13, 3), (75, .iload_n 2, 1), (76, .ireturn, 1)]
theorem t_X5_remove_ok : dec_ok cX5_remove t_X5_remove = true := by decide +kernel
theorem dX5_remove_0 : decode cX5_remove 0 = .ok (.iload_n 1, 1) := dec_of t_X5_remove_ok 0 rfl
theorem dX5_remove_1 : decode cX5_remove 1 = .ok (.ifCond .lt 23, 3) := dec_of t_X5_remove_ok 1 rfl
theorem dX5_remove_4 : decode cX5_remove 4 = .ok (.iload_n 1, 1) := dec_of t_X5_remove_ok 2 rfl
theorem dX5_remove_5 : decode cX5_remove 5 = .ok (.aload_n 0, 1) := dec_of t_X5_remove_ok 3 rfl
theorem dX5_remove_6 : decode cX5_remove 6 = .ok (.getfield 13, 3) := dec_of t_X5_remove_ok 4 rfl
theorem dX5_remove_9 : decode cX5_remove 9 = .ok (.if_icmp .ge 15, 3) := dec_of t_X5_remove_ok 5 rfl
theorem dX5_remove_12 : decode cX5_remove 12 = .ok (.aload_n 0, 1) := dec_of t_X5_remove_ok 6 rfl
theorem dX5_remove_13 : decode cX5_remove 13 = .ok (.getfield 13, 3) := dec_of t_X5_remove_ok 7 rfl
theorem dX5_remove_16 : decode cX5_remove 16 = .ok (.aload_n 0, 1) := dec_of t_X5_remove_ok 8 rfl
theorem dX5_remove_17 : decode cX5_remove 17 = .ok (.getfield 7, 3) := dec_of t_X5_remove_ok 9 rfl
theorem dX5_remove_20 : decode cX5_remove 20 = .ok (.arraylength, 1) := dec_of t_X5_remove_ok 10 rfl
theorem dX5_remove_21 : decode cX5_remove 21 = .ok (.if_icmp .le 5, 3) := dec_of t_X5_remove_ok 11 rfl
theorem dX5_remove_24 : decode cX5_remove 24 = .ok (.iconst 0, 1) := dec_of t_X5_remove_ok 12 rfl
theorem dX5_remove_25 : decode cX5_remove 25 = .ok (.ireturn, 1) := dec_of t_X5_remove_ok 13 rfl
theorem dX5_remove_26 : decode cX5_remove 26 = .ok (.aload_n 0, 1) := dec_of t_X5_remove_ok 14 rfl
theorem dX5_remove_27 : decode cX5_remove 27 = .ok (.getfield 7, 3) := dec_of t_X5_remove_ok 15 rfl
theorem dX5_remove_30 : decode cX5_remove 30 = .ok (.iload_n 1, 1) := dec_of t_X5_remove_ok 16 rfl
theorem dX5_remove_31 : decode cX5_remove 31 = .ok (.iaload, 1) := dec_of t_X5_remove_ok 17 rfl
theorem dX5_remove_32 : decode cX5_remove 32 = .ok (.istore_n 2, 1) := dec_of t_X5_remove_ok 18 rfl
theorem dX5_remove_33 : decode cX5_remove 33 = .ok (.iload_n 1, 1) := dec_of t_X5_remove_ok 19 rfl
theorem dX5_remove_34 : decode cX5_remove 34 = .ok (.iconst 1, 1) := dec_of t_X5_remove_ok 20 rfl
theorem dX5_remove_35 : decode cX5_remove 35 = .ok (.iadd, 1) := dec_of t_X5_remove_ok 21 rfl
theorem dX5_remove_36 : decode cX5_remove 36 = .ok (.istore_n 3, 1) := dec_of t_X5_remove_ok 22 rfl
theorem dX5_remove_37 : decode cX5_remove 37 = .ok (.iload_n 3, 1) := dec_of t_X5_remove_ok 23 rfl
theorem dX5_remove_38 : decode cX5_remove 38 = .ok (.aload_n 0, 1) := dec_of t_X5_remove_ok 24 rfl
theorem dX5_remove_39 : decode cX5_remove 39 = .ok (.getfield 13, 3) := dec_of t_X5_remove_ok 25 rfl
theorem dX5_remove_42 : decode cX5_remove 42 = .ok (.if_icmp .ge 23, 3) := dec_of t_X5_remove_ok 26 rfl
theorem dX5_remove_45 : decode cX5_remove 45 = .ok (.aload_n 0, 1) := dec_of t_X5_remove_ok 27 rfl
theorem dX5_remove_46 : decode cX5_remove 46 = .ok (.getfield 7, 3) := dec_of t_X5_remove_ok 28 rfl
theorem dX5_remove_49 : decode cX5_remove 49 = .ok (.iload_n 3, 1) := dec_of t_X5_remove_ok 29 rfl
theorem dX5_remove_50 : decode cX5_remove 50 = .ok (.iconst 1, 1) := dec_of t_X5_remove_ok 30 rfl
theorem dX5_remove_51 : decode cX5_remove 51 = .ok (.isub, 1) := dec_of t_X5_remove_ok 31 rfl
theorem dX5_remove_52 : decode cX5_remove 52 = .ok (.aload_n 0, 1) := dec_of t_X5_remove_ok 32 rfl
theorem dX5_remove_53 : decode cX5_remove 53 = .ok (.getfield 7, 3) := dec_of t_X5_remove_ok 33 rfl
theorem dX5_remove_56 : decode cX5_remove 56 = .ok (.iload_n 3, 1) := dec_of t_X5_remove_ok 34 rfl
theorem dX5_remove_57 : decode cX5_remove 57 = .ok (.iaload, 1) := dec_of t_X5_remove_ok 35 rfl
theorem dX5_remove_58 : decode cX5_remove 58 = .ok (.iastore, 1) := dec_of t_X5_remove_ok 36 rfl
theorem dX5_remove_59 : decode cX5_remove 59 = .ok (.iinc 3 1, 3) := dec_of t_X5_remove_ok 37 rfl
theorem dX5_remove_62 : decode cX5_remove 62 = .ok (.goto (-25), 3) := dec_of t_X5_remove_ok 38 rfl
theorem dX5_remove_65 : decode cX5_remove 65 = .ok (.aload_n 0, 1) := dec_of t_X5_remove_ok 39 rfl
theorem dX5_remove_66 : decode cX5_remove 66 = .ok (.dup, 1) := dec_of t_X5_remove_ok 40 rfl
theorem dX5_remove_67 : decode cX5_remove 67 = .ok (.getfield 13, 3) := dec_of t_X5_remove_ok 41 rfl
theorem dX5_remove_70 : decode cX5_remove 70 = .ok (.iconst 1, 1) := dec_of t_X5_remove_ok 42 rfl
theorem dX5_remove_71 : decode cX5_remove 71 = .ok (.isub, 1) := dec_of t_X5_remove_ok 43 rfl
theorem dX5_remove_72 : decode cX5_remove 72 = .ok (.putfield 13, 3) := dec_of t_X5_remove_ok 44 rfl
theorem dX5_remove_75 : decode cX5_remove 75 = .ok (.iload_n 2, 1) := dec_of t_X5_remove_ok 45 rfl
theorem dX5_remove_76 : decode cX5_remove 76 = .ok (.ireturn, 1) := dec_of t_X5_remove_ok 46 rfl
def t_X5_clear : List (Nat × Instr × Nat) := [(0, .aload_n 0, 1), (1, .iconst 0, 1), (2, .putfield 13, 3), (5, .return_, 1)]
theorem t_X5_clear_ok : dec_ok cX5_clear t_X5_clear = true := by decide +kernel
theorem dX5_clear_0 : decode cX5_clear 0 = .ok (.aload_n 0, 1) := dec_of t_X5_clear_ok 0 rfl
theorem dX5_clear_1 : decode cX5_clear 1 = .ok (.iconst 0, 1) := dec_of t_X5_clear_ok 1 rfl
theorem dX5_clear_2 : decode cX5_clear 2 = .ok (.putfield 13, 3) := dec_of t_X5_clear_ok 2 rfl
theorem dX5_clear_5 : decode cX5_clear 5 = .ok (.return_, 1) := dec_of t_X5_clear_ok 3 rfl
def t_X5_reset : List (Nat × Instr × Nat) := [(0, .aload_n 0, 1), (1, .iconst 0, 1), (2, .putfield 13, 3), (5, .iconst 0, 1), (6, .istore_n 2, 1), (7, .iload_n 2, 1), (8, .iload_n 1, 1), (9, .if_icmp .ge 35, 3), (12, .iload_n 2, 1), (13, .aload_n 0, 1), (14, .getfield 7, 3), (17, .arraylength, 1), (18, .if_icmp .ge 26, 3), (21, .aload_n 0, 1), (22, .getfield 7, 3), (25, .iload_n 2, 1), (26, .iconst 0, 1), (27, .iastore, 1), (28, .aload_n 0, 1), (29, .dup, 1), (30, .getfield 13, 3), (33, .iconst 1, 1), (34, .iadd, 1), (35, .putfield 13, 3), (38, .iinc 2 1, 3), (41, .goto (-34), 3), (44, .return_, 1)]
theorem t_X5_reset_ok : dec_ok cX5_reset t_X5_reset = true := by decide +kernel
theorem dX5_reset_0 : decode cX5_reset 0 = .ok (.aload_n 0, 1) := dec_of t_X5_reset_ok 0 rfl
theorem dX5_reset_1 : decode cX5_reset 1 = .ok (.iconst 0, 1) := dec_of t_X5_reset_ok 1 rfl
theorem dX5_reset_2 : decode cX5_reset 2 = .ok (.putfield 13, 3) := dec_of t_X5_reset_ok 2 rfl
theorem dX5_reset_5 : decode cX5_reset 5 = .ok (.iconst 0, 1) := dec_of t_X5_reset_ok 3 rfl
theorem dX5_reset_6 : decode cX5_reset 6 = .ok (.istore_n 2, 1) := dec_of t_X5_reset_ok 4 rfl
theorem dX5_reset_7 : decode cX5_reset 7 = .ok (.iload_n 2, 1) := dec_of t_X5_reset_ok 5 rfl
theorem dX5_reset_8 : decode cX5_reset 8 = .ok (.iload_n 1, 1) := dec_of t_X5_reset_ok 6 rfl
theorem dX5_reset_9 : decode cX5_reset 9 = .ok (.if_icmp .ge 35, 3) := dec_of t_X5_reset_ok 7 rfl
theorem dX5_reset_12 : decode cX5_reset 12 = .ok (.iload_n 2, 1) := dec_of t_X5_reset_ok 8 rfl
theorem dX5_reset_13 : decode cX5_reset 13 = .ok (.aload_n 0, 1) := dec_of t_X5_reset_ok 9 rfl
theorem dX5_reset_14 : decode cX5_reset 14 = .ok (.getfield 7, 3) := dec_of t_X5_reset_ok 10 rfl
theorem dX5_reset_17 : decode cX5_reset 17 = .ok (.arraylength, 1) := dec_of t_X5_reset_ok 11 rfl
theorem dX5_reset_18 : decode cX5_reset 18 = .ok (.if_icmp .ge 26, 3) := dec_of t_X5_reset_ok 12 rfl
theorem dX5_reset_21 : decode cX5_reset 21 = .ok (.aload_n 0, 1) := dec_of t_X5_reset_ok 13 rfl
theorem dX5_reset_22 : decode cX5_reset 22 = .ok (.getfield 7, 3) := dec_of t_X5_reset_ok 14 rfl
theorem dX5_reset_25 : decode cX5_reset 25 = .ok (.iload_n 2, 1) := dec_of t_X5_reset_ok 15 rfl
theorem dX5_reset_26 : decode cX5_reset 26 = .ok (.iconst 0, 1) := dec_of t_X5_reset_ok 16 rfl
theorem dX5_reset_27 : decode cX5_reset 27 = .ok (.iastore, 1) := dec_of t_X5_reset_ok 17 rfl
theorem dX5_reset_28 : decode cX5_reset 28 = .ok (.aload_n 0, 1) := dec_of t_X5_reset_ok 18 rfl
theorem dX5_reset_29 : decode cX5_reset 29 = .ok (.dup, 1) := dec_of t_X5_reset_ok 19 rfl
theorem dX5_reset_30 : decode cX5_reset 30 = .ok (.getfield 13, 3) := dec_of t_X5_reset_ok 20 rfl
theorem dX5_reset_33 : decode cX5_reset 33 = .ok (.iconst 1, 1) := dec_of t_X5_reset_ok 21 rfl
theorem dX5_reset_34 : decode cX5_reset 34 = .ok (.iadd, 1) := dec_of t_X5_reset_ok 22 rfl
theorem dX5_reset_35 : decode cX5_reset 35 = .ok (.putfield 13, 3) := dec_of t_X5_reset_ok 23 rfl
theorem dX5_reset_38 : decode cX5_reset 38 = .ok (.iinc 2 1, 3) := dec_of t_X5_reset_ok 24 rfl
theorem dX5_reset_41 : decode cX5_reset 41 = .ok (.goto (-34), 3) := dec_of t_X5_reset_ok 25 rfl
theorem dX5_reset_44 : decode cX5_reset 44 = .ok (.return_, 1) := dec_of t_X5_reset_ok 26 rfl
def t_X5_placeOf : List (Nat × Instr × Nat) := [(0, .iconst 0, 1), (1, .istore_n 2, 1), (2, .iload_n 2, 1), (3, .aload_n 0, 1), (4, .getfield 13, 3), (7, .if_icmp .ge 20, 3), (10, .aload_n 0, 1), (11, .iload_n 2, 1), (12, .invokevirtual 17, 3), (15, .iload_n 1, 1), (16, .if_icmp .ne 5, 3), (19, .iload_n 2, 1), (20, .ireturn, 1), (21, .iinc 2 1, 3), (24, .goto (-22), 3), (27, .iconst (-1), 1), (28, .ireturn, 1)]
theorem t_X5_placeOf_ok : dec_ok cX5_placeOf t_X5_placeOf = true := by decide +kernel
theorem dX5_placeOf_0 : decode cX5_placeOf 0 = .ok (.iconst 0, 1) := dec_of t_X5_placeOf_ok 0 rfl
theorem dX5_placeOf_1 : decode cX5_placeOf 1 = .ok (.istore_n 2, 1) := dec_of t_X5_placeOf_ok 1 rfl
theorem dX5_placeOf_2 : decode cX5_placeOf 2 = .ok (.iload_n 2, 1) := dec_of t_X5_placeOf_ok 2 rfl
theorem dX5_placeOf_3 : decode cX5_placeOf 3 = .ok (.aload_n 0, 1) := dec_of t_X5_placeOf_ok 3 rfl
theorem dX5_placeOf_4 : decode cX5_placeOf 4 = .ok (.getfield 13, 3) := dec_of t_X5_placeOf_ok 4 rfl
theorem dX5_placeOf_7 : decode cX5_placeOf 7 = .ok (.if_icmp .ge 20, 3) := dec_of t_X5_placeOf_ok 5 rfl
theorem dX5_placeOf_10 : decode cX5_placeOf 10 = .ok (.aload_n 0, 1) := dec_of t_X5_placeOf_ok 6 rfl
theorem dX5_placeOf_11 : decode cX5_placeOf 11 = .ok (.iload_n 2, 1) := dec_of t_X5_placeOf_ok 7 rfl
theorem dX5_placeOf_12 : decode cX5_placeOf 12 = .ok (.invokevirtual 17, 3) := dec_of t_X5_placeOf_ok 8 rfl
theorem dX5_placeOf_15 : decode cX5_placeOf 15 = .ok (.iload_n 1, 1) := dec_of t_X5_placeOf_ok 9 rfl
theorem dX5_placeOf_16 : decode cX5_placeOf 16 = .ok (.if_icmp .ne 5, 3) := dec_of t_X5_placeOf_ok 10 rfl
theorem dX5_placeOf_19 : decode cX5_placeOf 19 = .ok (.iload_n 2, 1) := dec_of t_X5_placeOf_ok 11 rfl
theorem dX5_placeOf_20 : decode cX5_placeOf 20 = .ok (.ireturn, 1) := dec_of t_X5_placeOf_ok 12 rfl
theorem dX5_placeOf_21 : decode cX5_placeOf 21 = .ok (.iinc 2 1, 3) := dec_of t_X5_placeOf_ok 13 rfl
theorem dX5_placeOf_24 : decode cX5_placeOf 24 = .ok (.goto (-22), 3) := dec_of t_X5_placeOf_ok 14 rfl
theorem dX5_placeOf_27 : decode cX5_placeOf 27 = .ok (.iconst (-1), 1) := dec_of t_X5_placeOf_ok 15 rfl
theorem dX5_placeOf_28 : decode cX5_placeOf 28 = .ok (.ireturn, 1) := dec_of t_X5_placeOf_ok 16 rfl
def t_X5_part : List (Nat × Instr × Nat) := [(0, .new 8, 3), (3, .dup, 1), (4, .iload_n 2, 1), (5, .iload_n 1, 1), (6, .isub, 1), (7, .invokespecial 21, 3), (10, .astore_n 3, 1), (11, .iload_n 1, 1), (12, .istore 4, 2), (14, .iload 4, 2), (16, .iload_n 2, 1), (17, .if_icmp .ge 19, 3), (20, .aload_n 3, 1), (21, .aload_n 0, 1), (22, .iload 4, 2), (24, .invokevirtual 17, 3), (27, .invokevirtual 24, 3), (30, .iinc 4 1, 3), (33, .goto (-19), 3), (36, .aload_n 3, 1), (37, .areturn, 1)]
theorem t_X5_part_ok : dec_ok cX5_part t_X5_part = true := by decide +kernel
theorem dX5_part_0 : decode cX5_part 0 = .ok (.new 8, 3) := dec_of t_X5_part_ok 0 rfl
theorem dX5_part_3 : decode cX5_part 3 = .ok (.dup, 1) := dec_of t_X5_part_ok 1 rfl
theorem dX5_part_4 : decode cX5_part 4 = .ok (.iload_n 2, 1) := dec_of t_X5_part_ok 2 rfl
theorem dX5_part_5 : decode cX5_part 5 = .ok (.iload_n 1, 1) := dec_of t_X5_part_ok 3 rfl
theorem dX5_part_6 : decode cX5_part 6 = .ok (.isub, 1) := dec_of t_X5_part_ok 4 rfl
theorem dX5_part_7 : decode cX5_part 7 = .ok (.invokespecial 21, 3) := dec_of t_X5_part_ok 5 rfl
theorem dX5_part_10 : decode cX5_part 10 = .ok (.astore_n 3, 1) := dec_of t_X5_part_ok 6 rfl
theorem dX5_part_11 : decode cX5_part 11 = .ok (.iload_n 1, 1) := dec_of t_X5_part_ok 7 rfl
theorem dX5_part_12 : decode cX5_part 12 = .ok (.istore 4, 2) := dec_of t_X5_part_ok 8 rfl
theorem dX5_part_14 : decode cX5_part 14 = .ok (.iload 4, 2) := dec_of t_X5_part_ok 9 rfl
theorem dX5_part_16 : decode cX5_part 16 = .ok (.iload_n 2, 1) := dec_of t_X5_part_ok 10 rfl
theorem dX5_part_17 : decode cX5_part 17 = .ok (.if_icmp .ge 19, 3) := dec_of t_X5_part_ok 11 rfl
theorem dX5_part_20 : decode cX5_part 20 = .ok (.aload_n 3, 1) := dec_of t_X5_part_ok 12 rfl
theorem dX5_part_21 : decode cX5_part 21 = .ok (.aload_n 0, 1) := dec_of t_X5_part_ok 13 rfl
theorem dX5_part_22 : decode cX5_part 22 = .ok (.iload 4, 2) := dec_of t_X5_part_ok 14 rfl
theorem dX5_part_24 : decode cX5_part 24 = .ok (.invokevirtual 17, 3) := dec_of t_X5_part_ok 15 rfl
theorem dX5_part_27 : decode cX5_part 27 = .ok (.invokevirtual 24, 3) := dec_of t_X5_part_ok 16 rfl
theorem dX5_part_30 : decode cX5_part 30 = .ok (.iinc 4 1, 3) := dec_of t_X5_part_ok 17 rfl
theorem dX5_part_33 : decode cX5_part 33 = .ok (.goto (-19), 3) := dec_of t_X5_part_ok 18 rfl
theorem dX5_part_36 : decode cX5_part 36 = .ok (.aload_n 3, 1) := dec_of t_X5_part_ok 19 rfl
theorem dX5_part_37 : decode cX5_part 37 = .ok (.areturn, 1) := dec_of t_X5_part_ok 20 rfl
def t_X5_isLike : List (Nat × Instr × Nat) := [(0, .aload_n 0, 1), (1, .getfield 13, 3), (4, .aload_n 1, 1), (5, .getfield 13, 3), (8, .if_icmp .eq 5, 3), (11, .iconst 0, 1), (12, .ireturn, 1), (13, .iconst 0, 1), (14, .istore_n 2, 1), (15, .iload_n 2, 1), (16, .aload_n 0, 1), (17, .getfield 13, 3), (20, .if_icmp .ge 24, 3), (23, .aload_n 0, 1), (24, .iload_n 2, 1), (25, .invokevirtual 17, 3), (28, .aload_n 1, 1), (29, .iload_n 2, 1), (30, .invokevirtual 17, 3), (33, .if_icmp .eq 5, 3), (36, .iconst 0, 1), (37, .ireturn, 1), (38, .iinc 2 1, 3), (41, .goto (-26), 3), (44, .iconst 1, 1), (45, .ireturn, 1)]
theorem t_X5_isLike_ok : dec_ok cX5_isLike t_X5_isLike = true := by decide +kernel
theorem dX5_isLike_0 : decode cX5_isLike 0 = .ok (.aload_n 0, 1) := dec_of t_X5_isLike_ok 0 rfl
theorem dX5_isLike_1 : decode cX5_isLike 1 = .ok (.getfield 13, 3) := dec_of t_X5_isLike_ok 1 rfl
theorem dX5_isLike_4 : decode cX5_isLike 4 = .ok (.aload_n 1, 1) := dec_of t_X5_isLike_ok 2 rfl
theorem dX5_isLike_5 : decode cX5_isLike 5 = .ok (.getfield 13, 3) := dec_of t_X5_isLike_ok 3 rfl
theorem dX5_isLike_8 : decode cX5_isLike 8 = .ok (.if_icmp .eq 5, 3) := dec_of t_X5_isLike_ok 4 rfl
theorem dX5_isLike_11 : decode cX5_isLike 11 = .ok (.iconst 0, 1) := dec_of t_X5_isLike_ok 5 rfl
theorem dX5_isLike_12 : decode cX5_isLike 12 = .ok (.ireturn, 1) := dec_of t_X5_isLike_ok 6 rfl
theorem dX5_isLike_13 : decode cX5_isLike 13 = .ok (.iconst 0, 1) := dec_of t_X5_isLike_ok 7 rfl
theorem dX5_isLike_14 : decode cX5_isLike 14 = .ok (.istore_n 2, 1) := dec_of t_X5_isLike_ok 8 rfl
theorem dX5_isLike_15 : decode cX5_isLike 15 = .ok (.iload_n 2, 1) := dec_of t_X5_isLike_ok 9 rfl
theorem dX5_isLike_16 : decode cX5_isLike 16 = .ok (.aload_n 0, 1) := dec_of t_X5_isLike_ok 10 rfl
theorem dX5_isLike_17 : decode cX5_isLike 17 = .ok (.getfield 13, 3) := dec_of t_X5_isLike_ok 11 rfl
theorem dX5_isLike_20 : decode cX5_isLike 20 = .ok (.if_icmp .ge 24, 3) := dec_of t_X5_isLike_ok 12 rfl
theorem dX5_isLike_23 : decode cX5_isLike 23 = .ok (.aload_n 0, 1) := dec_of t_X5_isLike_ok 13 rfl
theorem dX5_isLike_24 : decode cX5_isLike 24 = .ok (.iload_n 2, 1) := dec_of t_X5_isLike_ok 14 rfl
theorem dX5_isLike_25 : decode cX5_isLike 25 = .ok (.invokevirtual 17, 3) := dec_of t_X5_isLike_ok 15 rfl
theorem dX5_isLike_28 : decode cX5_isLike 28 = .ok (.aload_n 1, 1) := dec_of t_X5_isLike_ok 16 rfl
theorem dX5_isLike_29 : decode cX5_isLike 29 = .ok (.iload_n 2, 1) := dec_of t_X5_isLike_ok 17 rfl
theorem dX5_isLike_30 : decode cX5_isLike 30 = .ok (.invokevirtual 17, 3) := dec_of t_X5_isLike_ok 18 rfl
theorem dX5_isLike_33 : decode cX5_isLike 33 = .ok (.if_icmp .eq 5, 3) := dec_of t_X5_isLike_ok 19 rfl
theorem dX5_isLike_36 : decode cX5_isLike 36 = .ok (.iconst 0, 1) := dec_of t_X5_isLike_ok 20 rfl
theorem dX5_isLike_37 : decode cX5_isLike 37 = .ok (.ireturn, 1) := dec_of t_X5_isLike_ok 21 rfl
theorem dX5_isLike_38 : decode cX5_isLike 38 = .ok (.iinc 2 1, 3) := dec_of t_X5_isLike_ok 22 rfl
theorem dX5_isLike_41 : decode cX5_isLike 41 = .ok (.goto (-26), 3) := dec_of t_X5_isLike_ok 23 rfl
theorem dX5_isLike_44 : decode cX5_isLike 44 = .ok (.iconst 1, 1) := dec_of t_X5_isLike_ok 24 rfl
theorem dX5_isLike_45 : decode cX5_isLike 45 = .ok (.ireturn, 1) := dec_of t_X5_isLike_ok 25 rfl
def t_X6_init : List (Nat × Instr × Nat) := [(0, .aload_n 0, 1), (1, .invokespecial 3, 3), (4, .aload_n 0, 1), (5, .new 9, 3), (8, .dup, 1), (9, .invokespecial 11, 3), (12, .putfield 12, 3), (15, .iconst 0, 1), (16, .istore 5, 2), (18, .iconst 0, 1), (19, .istore 6, 2), (21, .iload 6, 2), (23, .aload_n 1, 1), (24, .invokevirtual 18, 3), (27, .if_icmp .gt 55, 3), (30, .iload 6, 2), (32, .aload_n 1, 1), (33, .invokevirtual 18, 3), (36, .if_icmp .eq 14, 3), (39, .aload_n 1, 1), (40, .iload 6, 2), (42, .invokevirtual 24, 3), (45, .bipush 45, 2), (47, .if_icmp .ne 29, 3), (50, .aload_n 0, 1), (51, .getfield 12, 3), (54, .new 28, 3), (57, .dup, 1), (58, .aload_n 1, 1), (59, .iload 5, 2), (61, .iload 6, 2), (63, .invokespecial 30, 3), (66, .invokevirtual 33, 3), (69, .pop, 1), (70, .iload 6, 2), (72, .iconst 1, 1), (73, .iadd, 1), (74, .istore 5, 2), (76, .iinc 6 1, 3), (79, .goto (-58), 3), (82, .aload_n 0, 1), (83, .iload_n 2, 1), (84, .putfield 37, 3), (87, .aload_n 0, 1), (88, .iload_n 3, 1), (89, .putfield 41, 3), (92, .aload_n 0, 1), (93, .iload 4, 2), (95, .putfield 45, 3), (98, .aload_n 0, 1), (99, .new 9, 3), (102, .dup, 1), (103, .invokespecial 11, 3), (106, .putfield 49, 3), (109, .aload_n 0, 1), (110, .new 9, 3), (113, .dup, 1), (114, .invokespecial 11, 3), (117, .putfield 52, 3), (120, .return_, 1)]
theorem t_X6_init_ok : dec_ok cX6_init t_X6_init = true := by decide +kernel
theorem dX6_init_0 : decode cX6_init 0 = .ok (.aload_n 0, 1) := dec_of t_X6_init_ok 0 rfl
theorem dX6_init_1 : decode cX6_init 1 = .ok (.invokespecial 3, 3) := dec_of t_X6_init_ok 1 rfl
theorem dX6_init_4 : decode cX6_init 4 = .ok (.aload_n 0, 1) := dec_of t_X6_init_ok 2 rfl
theorem dX6_init_5 : decode cX6_init 5 = .ok (.new 9, 3) := dec_of t_X6_init_ok 3 rfl
theorem dX6_init_8 : decode cX6_init 8 = .ok (.dup, 1) := dec_of t_X6_init_ok 4 rfl
theorem dX6_init_9 : decode cX6_init 9 = .ok (.invokespecial 11, 3) := dec_of t_X6_init_ok 5 rfl
theorem dX6_init_12 : decode cX6_init 12 = .ok (.putfield 12, 3) := dec_of t_X6_init_ok 6 rfl
theorem dX6_init_15 : decode cX6_init 15 = .ok (.iconst 0, 1) := dec_of t_X6_init_ok 7 rfl
theorem dX6_init_16 : decode cX6_init 16 = .ok (.istore 5, 2) := dec_of t_X6_init_ok 8 rfl
theorem dX6_init_18 : decode cX6_init 18 = .ok (.iconst 0, 1) := dec_of t_X6_init_ok 9 rfl
theorem dX6_init_19 : decode cX6_init 19 = .ok (.istore 6, 2) := dec_of t_X6_init_ok 10 rfl
theorem dX6_init_21 : decode cX6_init 21 = .ok (.iload 6, 2) := dec_of t_X6_init_ok 11 rfl
theorem dX6_init_23 : decode cX6_init 23 = .ok (.aload_n 1, 1) := dec_of t_X6_init_ok 12 rfl
theorem dX6_init_24 : decode cX6_init 24 = .ok (.invokevirtual 18, 3) := dec_of t_X6_init_ok 13 rfl
theorem dX6_init_27 : decode cX6_init 27 = .ok (.if_icmp .gt 55, 3) := dec_of t_X6_init_ok 14 rfl
theorem dX6_init_30 : decode cX6_init 30 = .ok (.iload 6, 2) := dec_of t_X6_init_ok 15 rfl
theorem dX6_init_32 : decode cX6_init 32 = .ok (.aload_n 1, 1) := dec_of t_X6_init_ok 16 rfl
theorem dX6_init_33 : decode cX6_init 33 = .ok (.invokevirtual 18, 3) := dec_of t_X6_init_ok 17 rfl
theorem dX6_init_36 : decode cX6_init 36 = .ok (.if_icmp .eq 14, 3) := dec_of t_X6_init_ok 18 rfl
theorem dX6_init_39 : decode cX6_init 39 = .ok (.aload_n 1, 1) := dec_of t_X6_init_ok 19 rfl
theorem dX6_init_40 : decode cX6_init 40 = .ok (.iload 6, 2) := dec_of t_X6_init_ok 20 rfl
theorem dX6_init_42 : decode cX6_init 42 = .ok (.invokevirtual 24, 3) := dec_of t_X6_init_ok 21 rfl
theorem dX6_init_45 : decode cX6_init 45 = .ok (.bipush 45, 2) := dec_of t_X6_init_ok 22 rfl
theorem dX6_init_47 : decode cX6_init 47 = .ok (.if_icmp .ne 29, 3) := dec_of t_X6_init_ok 23 rfl
theorem dX6_init_50 : decode cX6_init 50 = .ok (.aload_n 0, 1) := dec_of t_X6_init_ok 24 rfl
theorem dX6_init_51 : decode cX6_init 51 = .ok (.getfield 12, 3) := dec_of t_X6_init_ok 25 rfl
theorem dX6_init_54 : decode cX6_init 54 = .ok (.new 28, 3) := dec_of t_X6_init_ok 26 rfl
theorem dX6_init_57 : decode cX6_init 57 = .ok (.dup, 1) := dec_of t_X6_init_ok 27 rfl
theorem dX6_init_58 : decode cX6_init 58 = .ok (.aload_n 1, 1) := dec_of t_X6_init_ok 28 rfl
theorem dX6_init_59 : decode cX6_init 59 = .ok (.iload 5, 2) := dec_of t_X6_init_ok 29 rfl
theorem dX6_init_61 : decode cX6_init 61 = .ok (.iload 6, 2) := dec_of t_X6_init_ok 30 rfl
theorem dX6_init_63 : decode cX6_init 63 = .ok (.invokespecial 30, 3) := dec_of t_X6_init_ok 31 rfl
theorem dX6_init_66 : decode cX6_init 66 = .ok (.invokevirtual 33, 3) := dec_of t_X6_init_ok 32 rfl
theorem dX6_init_69 : decode cX6_init 69 = .ok (.pop, 1) := dec_of t_X6_init_ok 33 rfl
theorem dX6_init_70 : decode cX6_init 70 = .ok (.iload 6, 2) := dec_of t_X6_init_ok 34 rfl
theorem dX6_init_72 : decode cX6_init 72 = .ok (.iconst 1, 1) := dec_of t_X6_init_ok 35 rfl
theorem dX6_init_73 : decode cX6_init 73 = .ok (.iadd, 1) := dec_of t_X6_init_ok 36 rfl
theorem dX6_init_74 : decode cX6_init 74 = .ok (.istore 5, 2) := dec_of t_X6_init_ok 37 rfl
theorem dX6_init_76 : decode cX6_init 76 = .ok (.iinc 6 1, 3) := dec_of t_X6_init_ok 38 rfl
theorem dX6_init_79 : decode cX6_init 79 = .ok (.goto (-58), 3) := dec_of t_X6_init_ok 39 rfl
theorem dX6_init_82 : decode cX6_init 82 = .ok (.aload_n 0, 1) := dec_of t_X6_init_ok 40 rfl
theorem dX6_init_83 : decode cX6_init 83 = .ok (.iload_n 2, 1) := dec_of t_X6_init_ok 41 rfl
theorem dX6_init_84 : decode cX6_init 84 = .ok (.putfield 37, 3) := dec_of t_X6_init_ok 42 rfl
theorem dX6_init_87 : decode cX6_init 87 = .ok (.aload_n 0, 1) := dec_of t_X6_init_ok 43 rfl
theorem dX6_init_88 : decode cX6_init 88 = .ok (.iload_n 3, 1) := dec_of t_X6_init_ok 44 rfl
theorem dX6_init_89 : decode cX6_init 89 = .ok (.putfield 41, 3) := dec_of t_X6_init_ok 45 rfl
theorem dX6_init_92 : decode cX6_init 92 = .ok (.aload_n 0, 1) := dec_of t_X6_init_ok 46 rfl
theorem dX6_init_93 : decode cX6_init 93 = .ok (.iload 4, 2) := dec_of t_X6_init_ok 47 rfl
theorem dX6_init_95 : decode cX6_init 95 = .ok (.putfield 45, 3) := dec_of t_X6_init_ok 48 rfl
theorem dX6_init_98 : decode cX6_init 98 = .ok (.aload_n 0, 1) := dec_of t_X6_init_ok 49 rfl
theorem dX6_init_99 : decode cX6_init 99 = .ok (.new 9, 3) := dec_of t_X6_init_ok 50 rfl
theorem dX6_init_102 : decode cX6_init 102 = .ok (.dup, 1) := dec_of t_X6_init_ok 51 rfl
theorem dX6_init_103 : decode cX6_init 103 = .ok (.invokespecial 11, 3) := dec_of t_X6_init_ok 52 rfl
theorem dX6_init_106 : decode cX6_init 106 = .ok (.putfield 49, 3) := dec_of t_X6_init_ok 53 rfl
theorem dX6_init_109 : decode cX6_init 109 = .ok (.aload_n 0, 1) := dec_of t_X6_init_ok 54 rfl
theorem dX6_init_110 : decode cX6_init 110 = .ok (.new 9, 3) := dec_of t_X6_init_ok 55 rfl
theorem dX6_init_113 : decode cX6_init 113 = .ok (.dup, 1) := dec_of t_X6_init_ok 56 rfl
theorem dX6_init_114 : decode cX6_init 114 = .ok (.invokespecial 11, 3) := dec_of t_X6_init_ok 57 rfl
theorem dX6_init_117 : decode cX6_init 117 = .ok (.putfield 52, 3) := dec_of t_X6_init_ok 58 rfl
theorem dX6_init_120 : decode cX6_init 120 = .ok (.return_, 1) := dec_of t_X6_init_ok 59 rfl
def t_X6_isPattern : List (Nat × Instr × Nat) := [(0, .iconst 0, 1), (1, .istore_n 1, 1), (2, .iconst 0, 1), (3, .istore_n 2, 1), (4, .iconst 0, 1), (5, .istore_n 3, 1), (6, .iload_n 3, 1), (7, .aload_n 0, 1), (8, .invokevirtual 18, 3), (11, .if_icmp .gt 45, 3), (14, .iload_n 3, 1), (15, .aload_n 0, 1), (16, .invokevirtual 18, 3), (19, .if_icmp .eq 13, 3), (22, .aload_n 0, 1), (23, .iload_n 3, 1), (24, .invokevirtual 24, 3), (27, .bipush 45, 2), (29, .if_icmp .ne 21, 3), (32, .aload_n 0, 1), (33, .iload_n 2, 1), (34, .iload_n 3, 1), (35, .invokestatic 55, 3), (38, .ifCond .ne 5, 3), (41, .iconst 0, 1), (42, .ireturn, 1), (43, .iinc 1 1, 3), (46, .iload_n 3, 1), (47, .iconst 1, 1), (48, .iadd, 1), (49, .istore_n 2, 1), (50, .iinc 3 1, 3), (53, .goto (-47), 3), (56, .iload_n 1, 1), (57, .iconst 3, 1), (58, .if_icmp .gt 7, 3), (61, .iconst 1, 1), (62, .goto 4, 3), (65, .iconst 0, 1), (66, .ireturn, 1)]
theorem t_X6_isPattern_ok : dec_ok cX6_isPattern t_X6_isPattern = true := by decide +kernel
theorem dX6_isPattern_0 : decode cX6_isPattern 0 = .ok (.iconst 0, 1) := dec_of t_X6_isPattern_ok 0 rfl
theorem dX6_isPattern_1 : decode cX6_isPattern 1 = .ok (.istore_n 1, 1) := dec_of t_X6_isPattern_ok 1 rfl
theorem dX6_isPattern_2 : decode cX6_isPattern 2 = .ok (.iconst 0, 1) := dec_of t_X6_isPattern_ok 2 rfl
theorem dX6_isPattern_3 : decode cX6_isPattern 3 = .ok (.istore_n 2, 1) := dec_of t_X6_isPattern_ok 3 rfl
theorem dX6_isPattern_4 : decode cX6_isPattern 4 = .ok (.iconst 0, 1) := dec_of t_X6_isPattern_ok 4 rfl
theorem dX6_isPattern_5 : decode cX6_isPattern 5 = .ok (.istore_n 3, 1) := dec_of t_X6_isPattern_ok 5 rfl
theorem dX6_isPattern_6 : decode cX6_isPattern 6 = .ok (.iload_n 3, 1) := dec_of t_X6_isPattern_ok 6 rfl
theorem dX6_isPattern_7 : decode cX6_isPattern 7 = .ok (.aload_n 0, 1) := dec_of t_X6_isPattern_ok 7 rfl
theorem dX6_isPattern_8 : decode cX6_isPattern 8 = .ok (.invokevirtual 18, 3) := dec_of t_X6_isPattern_ok 8 rfl
theorem dX6_isPattern_11 : decode cX6_isPattern 11 = .ok (.if_icmp .gt 45, 3) := dec_of t_X6_isPattern_ok 9 rfl
theorem dX6_isPattern_14 : decode cX6_isPattern 14 = .ok (.iload_n 3, 1) := dec_of t_X6_isPattern_ok 10 rfl
theorem dX6_isPattern_15 : decode cX6_isPattern 15 = .ok (.aload_n 0, 1) := dec_of t_X6_isPattern_ok 11 rfl
theorem dX6_isPattern_16 : decode cX6_isPattern 16 = .ok (.invokevirtual 18, 3) := dec_of t_X6_isPattern_ok 12 rfl
theorem dX6_isPattern_19 : decode cX6_isPattern 19 = .ok (.if_icmp .eq 13, 3) := dec_of t_X6_isPattern_ok 13 rfl
theorem dX6_isPattern_22 : decode cX6_isPattern 22 = .ok (.aload_n 0, 1) := dec_of t_X6_isPattern_ok 14 rfl
theorem dX6_isPattern_23 : decode cX6_isPattern 23 = .ok (.iload_n 3, 1) := dec_of t_X6_isPattern_ok 15 rfl
theorem dX6_isPattern_24 : decode cX6_isPattern 24 = .ok (.invokevirtual 24, 3) := dec_of t_X6_isPattern_ok 16 rfl
theorem dX6_isPattern_27 : decode cX6_isPattern 27 = .ok (.bipush 45, 2) := dec_of t_X6_isPattern_ok 17 rfl
theorem dX6_isPattern_29 : decode cX6_isPattern 29 = .ok (.if_icmp .ne 21, 3) := dec_of t_X6_isPattern_ok 18 rfl
theorem dX6_isPattern_32 : decode cX6_isPattern 32 = .ok (.aload_n 0, 1) := dec_of t_X6_isPattern_ok 19 rfl
theorem dX6_isPattern_33 : decode cX6_isPattern 33 = .ok (.iload_n 2, 1) := dec_of t_X6_isPattern_ok 20 rfl
theorem dX6_isPattern_34 : decode cX6_isPattern 34 = .ok (.iload_n 3, 1) := dec_of t_X6_isPattern_ok 21 rfl
theorem dX6_isPattern_35 : decode cX6_isPattern 35 = .ok (.invokestatic 55, 3) := dec_of t_X6_isPattern_ok 22 rfl
theorem dX6_isPattern_38 : decode cX6_isPattern 38 = .ok (.ifCond .ne 5, 3) := dec_of t_X6_isPattern_ok 23 rfl
theorem dX6_isPattern_41 : decode cX6_isPattern 41 = .ok (.iconst 0, 1) := dec_of t_X6_isPattern_ok 24 rfl
theorem dX6_isPattern_42 : decode cX6_isPattern 42 = .ok (.ireturn, 1) := dec_of t_X6_isPattern_ok 25 rfl
theorem dX6_isPattern_43 : decode cX6_isPattern 43 = .ok (.iinc 1 1, 3) := dec_of t_X6_isPattern_ok 26 rfl
theorem dX6_isPattern_46 : decode cX6_isPattern 46 = .ok (.iload_n 3, 1) := dec_of t_X6_isPattern_ok 27 rfl
theorem dX6_isPattern_47 : decode cX6_isPattern 47 = .ok (.iconst 1, 1) := dec_of t_X6_isPattern_ok 28 rfl
theorem dX6_isPattern_48 : decode cX6_isPattern 48 = .ok (.iadd, 1) := dec_of t_X6_isPattern_ok 29 rfl
theorem dX6_isPattern_49 : decode cX6_isPattern 49 = .ok (.istore_n 2, 1) := dec_of t_X6_isPattern_ok 30 rfl
theorem dX6_isPattern_50 : decode cX6_isPattern 50 = .ok (.iinc 3 1, 3) := dec_of t_X6_isPattern_ok 31 rfl
theorem dX6_isPattern_53 : decode cX6_isPattern 53 = .ok (.goto (-47), 3) := dec_of t_X6_isPattern_ok 32 rfl
theorem dX6_isPattern_56 : decode cX6_isPattern 56 = .ok (.iload_n 1, 1) := dec_of t_X6_isPattern_ok 33 rfl
theorem dX6_isPattern_57 : decode cX6_isPattern 57 = .ok (.iconst 3, 1) := dec_of t_X6_isPattern_ok 34 rfl
theorem dX6_isPattern_58 : decode cX6_isPattern 58 = .ok (.if_icmp .gt 7, 3) := dec_of t_X6_isPattern_ok 35 rfl
theorem dX6_isPattern_61 : decode cX6_isPattern 61 = .ok (.iconst 1, 1) := dec_of t_X6_isPattern_ok 36 rfl
theorem dX6_isPattern_62 : decode cX6_isPattern 62 = .ok (.goto 4, 3) := dec_of t_X6_isPattern_ok 37 rfl
theorem dX6_isPattern_65 : decode cX6_isPattern 65 = .ok (.iconst 0, 1) := dec_of t_X6_isPattern_ok 38 rfl
theorem dX6_isPattern_66 : decode cX6_isPattern 66 = .ok (.ireturn, 1) := dec_of t_X6_isPattern_ok 39 rfl
def t_X6_isSuggestion : List (Nat × Instr × Nat) := [(0, .iconst 0, 1), (1, .istore_n 1, 1), (2, .iconst 0, 1), (3, .istore_n 2, 1), (4, .iload_n 2, 1), (5, .aload_n 0, 1), (6, .invokevirtual 18, 3), (9, .if_icmp .ge 49, 3), (12, .aload_n 0, 1), (13, .iload_n 2, 1), (14, .invokevirtual 24, 3), (17, .istore_n 3, 1), (18, .iload_n 3, 1), (19, .bipush 42, 2), (21, .if_icmp .ne 9, 3), (24, .iinc 1 1, 3), (27, .goto 25, 3), (30, .iload_n 3, 1), (31, .invokestatic 59, 3), (34, .ifCond .ne 18, 3), (37, .iload_n 3, 1), (38, .invokestatic 63, 3), (41, .ifCond .ne 11, 3), (44, .iload_n 3, 1), (45, .bipush 32, 2), (47, .if_icmp .eq 5, 3), (50, .iconst 0, 1), (51, .ireturn, 1), (52, .iinc 2 1, 3), (55, .goto (-51), 3), (58, .aload_n 0, 1), (59, .invokevirtual 18, 3), (62, .ifCond .le 12, 3), (65, .iload_n 1, 1), (66, .iconst 1, 1), (67, .if_icmp .gt 7, 3), (70, .iconst 1, 1), (71, .goto 4, 3), (74, .iconst 0, 1), (75, .ireturn, 1)]
theorem t_X6_isSuggestion_ok : dec_ok cX6_isSuggestion t_X6_isSuggestion = true := by decide +kernel
theorem dX6_isSuggestion_0 : decode cX6_isSuggestion 0 = .ok (.iconst 0, 1) := dec_of t_X6_isSuggestion_ok 0 rfl
theorem dX6_isSuggestion_1 : decode cX6_isSuggestion 1 = .ok (.istore_n 1, 1) := dec_of t_X6_isSuggestion_ok 1 rfl
theorem dX6_isSuggestion_2 : decode cX6_isSuggestion 2 = .ok (.iconst 0, 1) := dec_of t_X6_isSuggestion_ok 2 rfl
theorem dX6_isSuggestion_3 : decode cX6_isSuggestion 3 = .ok (.istore_n 2, 1) := dec_of t_X6_isSuggestion_ok 3 rfl
theorem dX6_isSuggestion_4 : decode cX6_isSuggestion 4 = .ok (.iload_n 2, 1) := dec_of t_X6_isSuggestion_ok 4 rfl
theorem dX6_isSuggestion_5 : decode cX6_isSuggestion 5 = .ok (.aload_n 0, 1) := dec_of t_X6_isSuggestion_ok 5 rfl
theorem dX6_isSuggestion_6 : decode cX6_isSuggestion 6 = .ok (.invokevirtual 18, 3) := dec_of t_X6_isSuggestion_ok 6 rfl
theorem dX6_isSuggestion_9 : decode cX6_isSuggestion 9 = .ok (.if_icmp .ge 49, 3) := dec_of t_X6_isSuggestion_ok 7 rfl
theorem dX6_isSuggestion_12 : decode cX6_isSuggestion 12 = .ok (.aload_n 0, 1) := dec_of t_X6_isSuggestion_ok 8 rfl
theorem dX6_isSuggestion_13 : decode cX6_isSuggestion 13 = .ok (.iload_n 2, 1) := dec_of t_X6_isSuggestion_ok 9 rfl
theorem dX6_isSuggestion_14 : decode cX6_isSuggestion 14 = .ok (.invokevirtual 24, 3) := dec_of t_X6_isSuggestion_ok 10 rfl
theorem dX6_isSuggestion_17 : decode cX6_isSuggestion 17 = .ok (.istore_n 3, 1) := dec_of t_X6_isSuggestion_ok 11 rfl
theorem dX6_isSuggestion_18 : decode cX6_isSuggestion 18 = .ok (.iload_n 3, 1) := dec_of t_X6_isSuggestion_ok 12 rfl
theorem dX6_isSuggestion_19 : decode cX6_isSuggestion 19 = .ok (.bipush 42, 2) := dec_of t_X6_isSuggestion_ok 13 rfl
theorem dX6_isSuggestion_21 : decode cX6_isSuggestion 21 = .ok (.if_icmp .ne 9, 3) := dec_of t_X6_isSuggestion_ok 14 rfl
theorem dX6_isSuggestion_24 : decode cX6_isSuggestion 24 = .ok (.iinc 1 1, 3) := dec_of t_X6_isSuggestion_ok 15 rfl
theorem dX6_isSuggestion_27 : decode cX6_isSuggestion 27 = .ok (.goto 25, 3) := dec_of t_X6_isSuggestion_ok 16 rfl
theorem dX6_isSuggestion_30 : decode cX6_isSuggestion 30 = .ok (.iload_n 3, 1) := dec_of t_X6_isSuggestion_ok 17 rfl
theorem dX6_isSuggestion_31 : decode cX6_isSuggestion 31 = .ok (.invokestatic 59, 3) := dec_of t_X6_isSuggestion_ok 18 rfl
theorem dX6_isSuggestion_34 : decode cX6_isSuggestion 34 = .ok (.ifCond .ne 18, 3) := dec_of t_X6_isSuggestion_ok 19 rfl
theorem dX6_isSuggestion_37 : decode cX6_isSuggestion 37 = .ok (.iload_n 3, 1) := dec_of t_X6_isSuggestion_ok 20 rfl
theorem dX6_isSuggestion_38 : decode cX6_isSuggestion 38 = .ok (.invokestatic 63, 3) := dec_of t_X6_isSuggestion_ok 21 rfl
theorem dX6_isSuggestion_41 : decode cX6_isSuggestion 41 = .ok (.ifCond .ne 11, 3) := dec_of t_X6_isSuggestion_ok 22 rfl
theorem dX6_isSuggestion_44 : decode cX6_isSuggestion 44 = .ok (.iload_n 3, 1) := dec_of t_X6_isSuggestion_ok 23 rfl
theorem dX6_isSuggestion_45 : decode cX6_isSuggestion 45 = .ok (.bipush 32, 2) := dec_of t_X6_isSuggestion_ok 24 rfl
theorem dX6_isSuggestion_47 : decode cX6_isSuggestion 47 = .ok (.if_icmp .eq 5, 3) := dec_of t_X6_isSuggestion_ok 25 rfl
theorem dX6_isSuggestion_50 : decode cX6_isSuggestion 50 = .ok (.iconst 0, 1) := dec_of t_X6_isSuggestion_ok 26 rfl
theorem dX6_isSuggestion_51 : decode cX6_isSuggestion 51 = .ok (.ireturn, 1) := dec_of t_X6_isSuggestion_ok 27 rfl
theorem dX6_isSuggestion_52 : decode cX6_isSuggestion 52 = .ok (.iinc 2 1, 3) := dec_of t_X6_isSuggestion_ok 28 rfl
theorem dX6_isSuggestion_55 : decode cX6_isSuggestion 55 = .ok (.goto (-51), 3) := dec_of t_X6_isSuggestion_ok 29 rfl
theorem dX6_isSuggestion_58 : decode cX6_isSuggestion 58 = .ok (.aload_n 0, 1) := dec_of t_X6_isSuggestion_ok 30 rfl
theorem dX6_isSuggestion_59 : decode cX6_isSuggestion 59 = .ok (.invokevirtual 18, 3) := dec_of t_X6_isSuggestion_ok 31 rfl
theorem dX6_isSuggestion_62 : decode cX6_isSuggestion 62 = .ok (.ifCond .le 12, 3) := dec_of t_X6_isSuggestion_ok 32 rfl
theorem dX6_isSuggestion_65 : decode cX6_isSuggestion 65 = .ok (.iload_n 1, 1) := dec_of t_X6_isSuggestion_ok 33 rfl
theorem dX6_isSuggestion_66 : decode cX6_isSuggestion 66 = .ok (.iconst 1, 1) := dec_of t_X6_isSuggestion_ok 34 rfl
theorem dX6_isSuggestion_67 : decode cX6_isSuggestion 67 = .ok (.if_icmp .gt 7, 3) := dec_of t_X6_isSuggestion_ok 35 rfl
theorem dX6_isSuggestion_70 : decode cX6_isSuggestion 70 = .ok (.iconst 1, 1) := dec_of t_X6_isSuggestion_ok 36 rfl
theorem dX6_isSuggestion_71 : decode cX6_isSuggestion 71 = .ok (.goto 4, 3) := dec_of t_X6_isSuggestion_ok 37 rfl
theorem dX6_isSuggestion_74 : decode cX6_isSuggestion 74 = .ok (.iconst 0, 1) := dec_of t_X6_isSuggestion_ok 38 rfl
theorem dX6_isSuggestion_75 : decode cX6_isSuggestion 75 = .ok (.ireturn, 1) := dec_of t_X6_isSuggestion_ok 39 rfl
def t_X6_isFoundAt : List (Nat × Instr × Nat) := [(0, .aload_n 1, 1), (1, .iload_n 2, 1), (2, .invokevirtual 66, 3), (5, .ifCond .eq 12, 3), (8, .aload_n 0, 1), (9, .getfield 41, 3), (12, .ifCond .ne 5, 3), (15, .iconst 0, 1), (16, .ireturn, 1), (17, .aload_n 0, 1), (18, .getfield 37, 3), (21, .bipush 97, 2), (23, .if_icmp .eq 27, 3), (26, .aload_n 1, 1), (27, .iload_n 2, 1), (28, .invokevirtual 71, 3), (31, .aload_n 0, 1), (32, .getfield 37, 3), (35, .bipush 115, 2), (37, .if_icmp .ne 7, 3), (40, .iconst 1, 1), (41, .goto 4, 3), (44, .iconst 0, 1), (45, .if_icmp .eq 5, 3), (48, .iconst 0, 1), (49, .ireturn, 1), (50, .iconst 0, 1), (51, .istore_n 3, 1), (52, .iload_n 3, 1), (53, .aload_n 0, 1), (54, .getfield 12, 3), (57, .invokevirtual 74, 3), (60, .if_icmp .ge 50, 3), (63, .iload_n 3, 1), (64, .ifCond .le 17, 3), (67, .aload_n 1, 1), (68, .iload_n 2, 1), (69, .iload_n 3, 1), (70, .iadd, 1), (71, .iconst 1, 1), (72, .isub, 1), (73, .invokevirtual 77, 3), (76, .ifCond .ne 5, 3), (79, .iconst 0, 1), (80, .ireturn, 1), (81, .aload_n 0, 1), (82, .getfield 12, 3), (85, .iload_n 3, 1), (86, .invokevirtual 80, 3), (89, .checkcast 28, 3), (92, .aload_n 1, 1), (93, .iload_n 2, 1), (94, .iload_n 3, 1), (95, .iadd, 1), (96, .invokevirtual 83, 3), (99, .ifCond .ne 5, 3), (102, .iconst 0, 1), (103, .ireturn, 1), (104, .iinc 3 1, 3), (107, .goto (-55), 3), (110, .aload_n 0, 1), (111, .aload_n 1, 1), (112, .iload_n 2, 1), (113, .invokevirtual 87, 3), (116, .ifCond .ne 7, 3), (119, .iconst 1, 1), (120, .goto 4, 3), (123, .iconst 0, 1), (124, .ireturn, 1)]
theorem t_X6_isFoundAt_ok : dec_ok cX6_isFoundAt t_X6_isFoundAt = true := by decide +kernel
theorem dX6_isFoundAt_0 : decode cX6_isFoundAt 0 = .ok (.aload_n 1, 1) := dec_of t_X6_isFoundAt_ok 0 rfl
theorem dX6_isFoundAt_1 : decode cX6_isFoundAt 1 = .ok (.iload_n 2, 1) := dec_of t_X6_isFoundAt_ok 1 rfl
theorem dX6_isFoundAt_2 : decode cX6_isFoundAt 2 = .ok (.invokevirtual 66, 3) := dec_of t_X6_isFoundAt_ok 2 rfl
theorem dX6_isFoundAt_5 : decode cX6_isFoundAt 5 = .ok (.ifCond .eq 12, 3) := dec_of t_X6_isFoundAt_ok 3 rfl
theorem dX6_isFoundAt_8 : decode cX6_isFoundAt 8 = .ok (.aload_n 0, 1) := dec_of t_X6_isFoundAt_ok 4 rfl
theorem dX6_isFoundAt_9 : decode cX6_isFoundAt 9 = .ok (.getfield 41, 3) := dec_of t_X6_isFoundAt_ok 5 rfl
theorem dX6_isFoundAt_12 : decode cX6_isFoundAt 12 = .ok (.ifCond .ne 5, 3) := dec_of t_X6_isFoundAt_ok 6 rfl
theorem dX6_isFoundAt_15 : decode cX6_isFoundAt 15 = .ok (.iconst 0, 1) := dec_of t_X6_isFoundAt_ok 7 rfl
theorem dX6_isFoundAt_16 : decode cX6_isFoundAt 16 = .ok (.ireturn, 1) := dec_of t_X6_isFoundAt_ok 8 rfl
theorem dX6_isFoundAt_17 : decode cX6_isFoundAt 17 = .ok (.aload_n 0, 1) := dec_of t_X6_isFoundAt_ok 9 rfl
theorem dX6_isFoundAt_18 : decode cX6_isFoundAt 18 = .ok (.getfield 37, 3) := dec_of t_X6_isFoundAt_ok 10 rfl
theorem dX6_isFoundAt_21 : decode cX6_isFoundAt 21 = .ok (.bipush 97, 2) := dec_of t_X6_isFoundAt_ok 11 rfl
theorem dX6_isFoundAt_23 : decode cX6_isFoundAt 23 = .ok (.if_icmp .eq 27, 3) := dec_of t_X6_isFoundAt_ok 12 rfl
theorem dX6_isFoundAt_26 : decode cX6_isFoundAt 26 = .ok (.aload_n 1, 1) := dec_of t_X6_isFoundAt_ok 13 rfl
theorem dX6_isFoundAt_27 : decode cX6_isFoundAt 27 = .ok (.iload_n 2, 1) := dec_of t_X6_isFoundAt_ok 14 rfl
theorem dX6_isFoundAt_28 : decode cX6_isFoundAt 28 = .ok (.invokevirtual 71, 3) := dec_of t_X6_isFoundAt_ok 15 rfl
theorem dX6_isFoundAt_31 : decode cX6_isFoundAt 31 = .ok (.aload_n 0, 1) := dec_of t_X6_isFoundAt_ok 16 rfl
theorem dX6_isFoundAt_32 : decode cX6_isFoundAt 32 = .ok (.getfield 37, 3) := dec_of t_X6_isFoundAt_ok 17 rfl
theorem dX6_isFoundAt_35 : decode cX6_isFoundAt 35 = .ok (.bipush 115, 2) := dec_of t_X6_isFoundAt_ok 18 rfl
theorem dX6_isFoundAt_37 : decode cX6_isFoundAt 37 = .ok (.if_icmp .ne 7, 3) := dec_of t_X6_isFoundAt_ok 19 rfl
theorem dX6_isFoundAt_40 : decode cX6_isFoundAt 40 = .ok (.iconst 1, 1) := dec_of t_X6_isFoundAt_ok 20 rfl
theorem dX6_isFoundAt_41 : decode cX6_isFoundAt 41 = .ok (.goto 4, 3) := dec_of t_X6_isFoundAt_ok 21 rfl
theorem dX6_isFoundAt_44 : decode cX6_isFoundAt 44 = .ok (.iconst 0, 1) := dec_of t_X6_isFoundAt_ok 22 rfl
theorem dX6_isFoundAt_45 : decode cX6_isFoundAt 45 = .ok (.if_icmp .eq 5, 3) := dec_of t_X6_isFoundAt_ok 23 rfl
theorem dX6_isFoundAt_48 : decode cX6_isFoundAt 48 = .ok (.iconst 0, 1) := dec_of t_X6_isFoundAt_ok 24 rfl
theorem dX6_isFoundAt_49 : decode cX6_isFoundAt 49 = .ok (.ireturn, 1) := dec_of t_X6_isFoundAt_ok 25 rfl
theorem dX6_isFoundAt_50 : decode cX6_isFoundAt 50 = .ok (.iconst 0, 1) := dec_of t_X6_isFoundAt_ok 26 rfl
theorem dX6_isFoundAt_51 : decode cX6_isFoundAt 51 = .ok (.istore_n 3, 1) := dec_of t_X6_isFoundAt_ok 27 rfl
theorem dX6_isFoundAt_52 : decode cX6_isFoundAt 52 = .ok (.iload_n 3, 1) := dec_of t_X6_isFoundAt_ok 28 rfl
theorem dX6_isFoundAt_53 : decode cX6_isFoundAt 53 = .ok (.aload_n 0, 1) := dec_of t_X6_isFoundAt_ok 29 rfl
theorem dX6_isFoundAt_54 : decode cX6_isFoundAt 54 = .ok (.getfield 12, 3) := dec_of t_X6_isFoundAt_ok 30 rfl
theorem dX6_isFoundAt_57 : decode cX6_isFoundAt 57 = .ok (.invokevirtual 74, 3) := dec_of t_X6_isFoundAt_ok 31 rfl
theorem dX6_isFoundAt_60 : decode cX6_isFoundAt 60 = .ok (.if_icmp .ge 50, 3) := dec_of t_X6_isFoundAt_ok 32 rfl
theorem dX6_isFoundAt_63 : decode cX6_isFoundAt 63 = .ok (.iload_n 3, 1) := dec_of t_X6_isFoundAt_ok 33 rfl
theorem dX6_isFoundAt_64 : decode cX6_isFoundAt 64 = .ok (.ifCond .le 17, 3) := dec_of t_X6_isFoundAt_ok 34 rfl
theorem dX6_isFoundAt_67 : decode cX6_isFoundAt 67 = .ok (.aload_n 1, 1) := dec_of t_X6_isFoundAt_ok 35 rfl
theorem dX6_isFoundAt_68 : decode cX6_isFoundAt 68 = .ok (.iload_n 2, 1) := dec_of t_X6_isFoundAt_ok 36 rfl
theorem dX6_isFoundAt_69 : decode cX6_isFoundAt 69 = .ok (.iload_n 3, 1) := dec_of t_X6_isFoundAt_ok 37 rfl
theorem dX6_isFoundAt_70 : decode cX6_isFoundAt 70 = .ok (.iadd, 1) := dec_of t_X6_isFoundAt_ok 38 rfl
theorem dX6_isFoundAt_71 : decode cX6_isFoundAt 71 = .ok (.iconst 1, 1) := dec_of t_X6_isFoundAt_ok 39 rfl
theorem dX6_isFoundAt_72 : decode cX6_isFoundAt 72 = .ok (.isub, 1) := dec_of t_X6_isFoundAt_ok 40 rfl
theorem dX6_isFoundAt_73 : decode cX6_isFoundAt 73 = .ok (.invokevirtual 77, 3) := dec_of t_X6_isFoundAt_ok 41 rfl
theorem dX6_isFoundAt_76 : decode cX6_isFoundAt 76 = .ok (.ifCond .ne 5, 3) := dec_of t_X6_isFoundAt_ok 42 rfl
theorem dX6_isFoundAt_79 : decode cX6_isFoundAt 79 = .ok (.iconst 0, 1) := dec_of t_X6_isFoundAt_ok 43 rfl
theorem dX6_isFoundAt_80 : decode cX6_isFoundAt 80 = .ok (.ireturn, 1) := dec_of t_X6_isFoundAt_ok 44 rfl
theorem dX6_isFoundAt_81 : decode cX6_isFoundAt 81 = .ok (.aload_n 0, 1) := dec_of t_X6_isFoundAt_ok 45 rfl
theorem dX6_isFoundAt_82 : decode cX6_isFoundAt 82 = .ok (.getfield 12, 3) := dec_of t_X6_isFoundAt_ok 46 rfl
theorem dX6_isFoundAt_85 : decode cX6_isFoundAt 85 = .ok (.iload_n 3, 1) := dec_of t_X6_isFoundAt_ok 47 rfl
theorem dX6_isFoundAt_86 : decode cX6_isFoundAt 86 = .ok (.invokevirtual 80, 3) := dec_of t_X6_isFoundAt_ok 48 rfl
theorem dX6_isFoundAt_89 : decode cX6_isFoundAt 89 = .ok (.checkcast 28, 3) := dec_of t_X6_isFoundAt_ok 49 rfl
theorem dX6_isFoundAt_92 : decode cX6_isFoundAt 92 = .ok (.aload_n 1, 1) := dec_of t_X6_isFoundAt_ok 50 rfl
theorem dX6_isFoundAt_93 : decode cX6_isFoundAt 93 = .ok (.iload_n 2, 1) := dec_of t_X6_isFoundAt_ok 51 rfl
theorem dX6_isFoundAt_94 : decode cX6_isFoundAt 94 = .ok (.iload_n 3, 1) := dec_of t_X6_isFoundAt_ok 52 rfl
theorem dX6_isFoundAt_95 : decode cX6_isFoundAt 95 = .ok (.iadd, 1) := dec_of t_X6_isFoundAt_ok 53 rfl
theorem dX6_isFoundAt_96 : decode cX6_isFoundAt 96 = .ok (.invokevirtual 83, 3) := dec_of t_X6_isFoundAt_ok 54 rfl
theorem dX6_isFoundAt_99 : decode cX6_isFoundAt 99 = .ok (.ifCond .ne 5, 3) := dec_of t_X6_isFoundAt_ok 55 rfl
theorem dX6_isFoundAt_102 : decode cX6_isFoundAt 102 = .ok (.iconst 0, 1) := dec_of t_X6_isFoundAt_ok 56 rfl
theorem dX6_isFoundAt_103 : decode cX6_isFoundAt 103 = .ok (.ireturn, 1) := dec_of t_X6_isFoundAt_ok 57 rfl
theorem dX6_isFoundAt_104 : decode cX6_isFoundAt 104 = .ok (.iinc 3 1, 3) := dec_of t_X6_isFoundAt_ok 58 rfl
theorem dX6_isFoundAt_107 : decode cX6_isFoundAt 107 = .ok (.goto (-55), 3) := dec_of t_X6_isFoundAt_ok 59 rfl
theorem dX6_isFoundAt_110 : decode cX6_isFoundAt 110 = .ok (.aload_n 0, 1) := dec_of t_X6_isFoundAt_ok 60 rfl
theorem dX6_isFoundAt_111 : decode cX6_isFoundAt 111 = .ok (.aload_n 1, 1) := dec_of t_X6_isFoundAt_ok 61 rfl
theorem dX6_isFoundAt_112 : decode cX6_isFoundAt 112 = .ok (.iload_n 2, 1) := dec_of t_X6_isFoundAt_ok 62 rfl
theorem dX6_isFoundAt_113 : decode cX6_isFoundAt 113 = .ok (.invokevirtual 87, 3) := dec_of t_X6_isFoundAt_ok 63 rfl
theorem dX6_isFoundAt_116 : decode cX6_isFoundAt 116 = .ok (.ifCond .ne 7, 3) := dec_of t_X6_isFoundAt_ok 64 rfl
theorem dX6_isFoundAt_119 : decode cX6_isFoundAt 119 = .ok (.iconst 1, 1) := dec_of t_X6_isFoundAt_ok 65 rfl
theorem dX6_isFoundAt_120 : decode cX6_isFoundAt 120 = .ok (.goto 4, 3) := dec_of t_X6_isFoundAt_ok 66 rfl
theorem dX6_isFoundAt_123 : decode cX6_isFoundAt 123 = .ok (.iconst 0, 1) := dec_of t_X6_isFoundAt_ok 67 rfl
theorem dX6_isFoundAt_124 : decode cX6_isFoundAt 124 = .ok (.ireturn, 1) := dec_of t_X6_isFoundAt_ok 68 rfl
def t_X6_isExcepted : List (Nat × Instr × Nat) := [(0, .aload_n 1, 1), (1, .iload_n 2, 1), (2, .invokevirtual 90, 3), (5, .istore_n 3, 1), (6, .iconst 0, 1), (7, .istore 4, 2), (9, .iload 4, 2), (11, .aload_n 0, 1), (12, .getfield 49, 3), (15, .invokevirtual 74, 3), (18, .if_icmp .ge 31, 3), (21, .aload_n 1, 1), (22, .aload_n 0, 1), (23, .getfield 49, 3), (26, .iload 4, 2), (28, .invokevirtual 80, 3), (31, .checkcast 19, 3), (34, .iload_n 3, 1), (35, .invokevirtual 93, 3), (38, .ifCond .eq 5, 3), (41, .iconst 1, 1), (42, .ireturn, 1), (43, .iinc 4 1, 3), (46, .goto (-37), 3), (49, .iconst 0, 1), (50, .ireturn, 1)]
theorem t_X6_isExcepted_ok : dec_ok cX6_isExcepted t_X6_isExcepted = true := by decide +kernel
theorem dX6_isExcepted_0 : decode cX6_isExcepted 0 = .ok (.aload_n 1, 1) := dec_of t_X6_isExcepted_ok 0 rfl
theorem dX6_isExcepted_1 : decode cX6_isExcepted 1 = .ok (.iload_n 2, 1) := dec_of t_X6_isExcepted_ok 1 rfl
theorem dX6_isExcepted_2 : decode cX6_isExcepted 2 = .ok (.invokevirtual 90, 3) := dec_of t_X6_isExcepted_ok 2 rfl
theorem dX6_isExcepted_5 : decode cX6_isExcepted 5 = .ok (.istore_n 3, 1) := dec_of t_X6_isExcepted_ok 3 rfl
theorem dX6_isExcepted_6 : decode cX6_isExcepted 6 = .ok (.iconst 0, 1) := dec_of t_X6_isExcepted_ok 4 rfl
theorem dX6_isExcepted_7 : decode cX6_isExcepted 7 = .ok (.istore 4, 2) := dec_of t_X6_isExcepted_ok 5 rfl
theorem dX6_isExcepted_9 : decode cX6_isExcepted 9 = .ok (.iload 4, 2) := dec_of t_X6_isExcepted_ok 6 rfl
theorem dX6_isExcepted_11 : decode cX6_isExcepted 11 = .ok (.aload_n 0, 1) := dec_of t_X6_isExcepted_ok 7 rfl
theorem dX6_isExcepted_12 : decode cX6_isExcepted 12 = .ok (.getfield 49, 3) := dec_of t_X6_isExcepted_ok 8 rfl
theorem dX6_isExcepted_15 : decode cX6_isExcepted 15 = .ok (.invokevirtual 74, 3) := dec_of t_X6_isExcepted_ok 9 rfl
theorem dX6_isExcepted_18 : decode cX6_isExcepted 18 = .ok (.if_icmp .ge 31, 3) := dec_of t_X6_isExcepted_ok 10 rfl
theorem dX6_isExcepted_21 : decode cX6_isExcepted 21 = .ok (.aload_n 1, 1) := dec_of t_X6_isExcepted_ok 11 rfl
theorem dX6_isExcepted_22 : decode cX6_isExcepted 22 = .ok (.aload_n 0, 1) := dec_of t_X6_isExcepted_ok 12 rfl
theorem dX6_isExcepted_23 : decode cX6_isExcepted 23 = .ok (.getfield 49, 3) := dec_of t_X6_isExcepted_ok 13 rfl
theorem dX6_isExcepted_26 : decode cX6_isExcepted 26 = .ok (.iload 4, 2) := dec_of t_X6_isExcepted_ok 14 rfl
theorem dX6_isExcepted_28 : decode cX6_isExcepted 28 = .ok (.invokevirtual 80, 3) := dec_of t_X6_isExcepted_ok 15 rfl
theorem dX6_isExcepted_31 : decode cX6_isExcepted 31 = .ok (.checkcast 19, 3) := dec_of t_X6_isExcepted_ok 16 rfl
theorem dX6_isExcepted_34 : decode cX6_isExcepted 34 = .ok (.iload_n 3, 1) := dec_of t_X6_isExcepted_ok 17 rfl
theorem dX6_isExcepted_35 : decode cX6_isExcepted 35 = .ok (.invokevirtual 93, 3) := dec_of t_X6_isExcepted_ok 18 rfl
theorem dX6_isExcepted_38 : decode cX6_isExcepted 38 = .ok (.ifCond .eq 5, 3) := dec_of t_X6_isExcepted_ok 19 rfl
theorem dX6_isExcepted_41 : decode cX6_isExcepted 41 = .ok (.iconst 1, 1) := dec_of t_X6_isExcepted_ok 20 rfl
theorem dX6_isExcepted_42 : decode cX6_isExcepted 42 = .ok (.ireturn, 1) := dec_of t_X6_isExcepted_ok 21 rfl
theorem dX6_isExcepted_43 : decode cX6_isExcepted 43 = .ok (.iinc 4 1, 3) := dec_of t_X6_isExcepted_ok 22 rfl
theorem dX6_isExcepted_46 : decode cX6_isExcepted 46 = .ok (.goto (-37), 3) := dec_of t_X6_isExcepted_ok 23 rfl
theorem dX6_isExcepted_49 : decode cX6_isExcepted 49 = .ok (.iconst 0, 1) := dec_of t_X6_isExcepted_ok 24 rfl
theorem dX6_isExcepted_50 : decode cX6_isExcepted 50 = .ok (.ireturn, 1) := dec_of t_X6_isExcepted_ok 25 rfl
def t_X6_writeSuggestion : List (Nat × Instr × Nat) := [(0, .iload_n 3, 1), (1, .ifCond .lt 14, 3), (4, .iload_n 3, 1), (5, .aload_n 0, 1), (6, .getfield 52, 3), (9, .invokevirtual 74, 3), (12, .if_icmp .lt 4, 3), (15, .return_, 1), (16, .aload_n 0, 1), (17, .getfield 52, 3), (20, .iload_n 3, 1), (21, .invokevirtual 80, 3), (24, .checkcast 19, 3), (27, .astore 5, 2), (29, .iconst 0, 1), (30, .istore 6, 2), (32, .iload 6, 2), (34, .aload 5, 2), (36, .invokevirtual 18, 3), (39, .if_icmp .ge 44, 3), (42, .aload 5, 2), (44, .iload 6, 2), (46, .invokevirtual 24, 3), (49, .bipush 42, 2), (51, .if_icmp .ne 14, 3), (54, .aload_n 0, 1), (55, .aload_n 1, 1), (56, .iload_n 2, 1), (57, .aload 4, 2), (59, .invokevirtual 97, 3), (62, .goto 15, 3), (65, .aload 4, 2), (67, .aload 5, 2), (69, .iload 6, 2), (71, .invokevirtual 24, 3), (74, .invokevirtual 101, 3), (77, .iinc 6 1, 3), (80, .goto (-48), 3), (83, .return_, 1)]
theorem t_X6_writeSuggestion_ok : dec_ok cX6_writeSuggestion t_X6_writeSuggestion = true := by decide +kernel
theorem dX6_writeSuggestion_0 : decode cX6_writeSuggestion 0 = .ok (.iload_n 3, 1) := dec_of t_X6_writeSuggestion_ok 0 rfl
theorem dX6_writeSuggestion_1 : decode cX6_writeSuggestion 1 = .ok (.ifCond .lt 14, 3) := dec_of t_X6_writeSuggestion_ok 1 rfl
theorem dX6_writeSuggestion_4 : decode cX6_writeSuggestion 4 = .ok (.iload_n 3, 1) := dec_of t_X6_writeSuggestion_ok 2 rfl
theorem dX6_writeSuggestion_5 : decode cX6_writeSuggestion 5 = .ok (.aload_n 0, 1) := dec_of t_X6_writeSuggestion_ok 3 rfl
theorem dX6_writeSuggestion_6 : decode cX6_writeSuggestion 6 = .ok (.getfield 52, 3) := dec_of t_X6_writeSuggestion_ok 4 rfl
theorem dX6_writeSuggestion_9 : decode cX6_writeSuggestion 9 = .ok (.invokevirtual 74, 3) := dec_of t_X6_writeSuggestion_ok 5 rfl
theorem dX6_writeSuggestion_12 : decode cX6_writeSuggestion 12 = .ok (.if_icmp .lt 4, 3) := dec_of t_X6_writeSuggestion_ok 6 rfl
theorem dX6_writeSuggestion_15 : decode cX6_writeSuggestion 15 = .ok (.return_, 1) := dec_of t_X6_writeSuggestion_ok 7 rfl
theorem dX6_writeSuggestion_16 : decode cX6_writeSuggestion 16 = .ok (.aload_n 0, 1) := dec_of t_X6_writeSuggestion_ok 8 rfl
theorem dX6_writeSuggestion_17 : decode cX6_writeSuggestion 17 = .ok (.getfield 52, 3) := dec_of t_X6_writeSuggestion_ok 9 rfl
theorem dX6_writeSuggestion_20 : decode cX6_writeSuggestion 20 = .ok (.iload_n 3, 1) := dec_of t_X6_writeSuggestion_ok 10 rfl
theorem dX6_writeSuggestion_21 : decode cX6_writeSuggestion 21 = .ok (.invokevirtual 80, 3) := dec_of t_X6_writeSuggestion_ok 11 rfl
theorem dX6_writeSuggestion_24 : decode cX6_writeSuggestion 24 = .ok (.checkcast 19, 3) := dec_of t_X6_writeSuggestion_ok 12 rfl
theorem dX6_writeSuggestion_27 : decode cX6_writeSuggestion 27 = .ok (.astore 5, 2) := dec_of t_X6_writeSuggestion_ok 13 rfl
theorem dX6_writeSuggestion_29 : decode cX6_writeSuggestion 29 = .ok (.iconst 0, 1) := dec_of t_X6_writeSuggestion_ok 14 rfl
theorem dX6_writeSuggestion_30 : decode cX6_writeSuggestion 30 = .ok (.istore 6, 2) := dec_of t_X6_writeSuggestion_ok 15 rfl
theorem dX6_writeSuggestion_32 : decode cX6_writeSuggestion 32 = .ok (.iload 6, 2) := dec_of t_X6_writeSuggestion_ok 16 rfl
theorem dX6_writeSuggestion_34 : decode cX6_writeSuggestion 34 = .ok (.aload 5, 2) := dec_of t_X6_writeSuggestion_ok 17 rfl
theorem dX6_writeSuggestion_36 : decode cX6_writeSuggestion 36 = .ok (.invokevirtual 18, 3) := dec_of t_X6_writeSuggestion_ok 18 rfl
theorem dX6_writeSuggestion_39 : decode cX6_writeSuggestion 39 = .ok (.if_icmp .ge 44, 3) := dec_of t_X6_writeSuggestion_ok 19 rfl
theorem dX6_writeSuggestion_42 : decode cX6_writeSuggestion 42 = .ok (.aload 5, 2) := dec_of t_X6_writeSuggestion_ok 20 rfl
theorem dX6_writeSuggestion_44 : decode cX6_writeSuggestion 44 = .ok (.iload 6, 2) := dec_of t_X6_writeSuggestion_ok 21 rfl
theorem dX6_writeSuggestion_46 : decode cX6_writeSuggestion 46 = .ok (.invokevirtual 24, 3) := dec_of t_X6_writeSuggestion_ok 22 rfl
theorem dX6_writeSuggestion_49 : decode cX6_writeSuggestion 49 = .ok (.bipush 42, 2) := dec_of t_X6_writeSuggestion_ok 23 rfl
theorem dX6_writeSuggestion_51 : decode cX6_writeSuggestion 51 = .ok (.if_icmp .ne 14, 3) := dec_of t_X6_writeSuggestion_ok 24 rfl
theorem dX6_writeSuggestion_54 : decode cX6_writeSuggestion 54 = .ok (.aload_n 0, 1) := dec_of t_X6_writeSuggestion_ok 25 rfl
theorem dX6_writeSuggestion_55 : decode cX6_writeSuggestion 55 = .ok (.aload_n 1, 1) := dec_of t_X6_writeSuggestion_ok 26 rfl
theorem dX6_writeSuggestion_56 : decode cX6_writeSuggestion 56 = .ok (.iload_n 2, 1) := dec_of t_X6_writeSuggestion_ok 27 rfl
theorem dX6_writeSuggestion_57 : decode cX6_writeSuggestion 57 = .ok (.aload 4, 2) := dec_of t_X6_writeSuggestion_ok 28 rfl
theorem dX6_writeSuggestion_59 : decode cX6_writeSuggestion 59 = .ok (.invokevirtual 97, 3) := dec_of t_X6_writeSuggestion_ok 29 rfl
theorem dX6_writeSuggestion_62 : decode cX6_writeSuggestion 62 = .ok (.goto 15, 3) := dec_of t_X6_writeSuggestion_ok 30 rfl
theorem dX6_writeSuggestion_65 : decode cX6_writeSuggestion 65 = .ok (.aload 4, 2) := dec_of t_X6_writeSuggestion_ok 31 rfl
theorem dX6_writeSuggestion_67 : decode cX6_writeSuggestion 67 = .ok (.aload 5, 2) := dec_of t_X6_writeSuggestion_ok 32 rfl
theorem dX6_writeSuggestion_69 : decode cX6_writeSuggestion 69 = .ok (.iload 6, 2) := dec_of t_X6_writeSuggestion_ok 33 rfl
theorem dX6_writeSuggestion_71 : decode cX6_writeSuggestion 71 = .ok (.invokevirtual 24, 3) := dec_of t_X6_writeSuggestion_ok 34 rfl
theorem dX6_writeSuggestion_74 : decode cX6_writeSuggestion 74 = .ok (.invokevirtual 101, 3) := dec_of t_X6_writeSuggestion_ok 35 rfl
theorem dX6_writeSuggestion_77 : decode cX6_writeSuggestion 77 = .ok (.iinc 6 1, 3) := dec_of t_X6_writeSuggestion_ok 36 rfl
theorem dX6_writeSuggestion_80 : decode cX6_writeSuggestion 80 = .ok (.goto (-48), 3) := dec_of t_X6_writeSuggestion_ok 37 rfl
theorem dX6_writeSuggestion_83 : decode cX6_writeSuggestion 83 = .ok (.return_, 1) := dec_of t_X6_writeSuggestion_ok 38 rfl
def t_X6_writeTaken : List (Nat × Instr × Nat) := [(0, .iconst 0, 1), (1, .istore 4, 2), (3, .iload 4, 2), (5, .aload_n 0, 1), (6, .getfield 12, 3), (9, .invokevirtual 74, 3), (12, .if_icmp .ge 49, 3), (15, .aload_n 0, 1), (16, .getfield 12, 3), (19, .iload 4, 2), (21, .invokevirtual 80, 3), (24, .checkcast 28, 3), (27, .astore 5, 2), (29, .aload 5, 2), (31, .getfield 104, 3), (34, .ifCond .eq 21, 3), (37, .aload_n 1, 1), (38, .iload_n 2, 1), (39, .iload 4, 2), (41, .iadd, 1), (42, .aload 5, 2), (44, .getfield 107, 3), (47, .invokevirtual 18, 3), (50, .aload_n 3, 1), (51, .invokevirtual 111, 3), (54, .return_, 1), (55, .iinc 4 1, 3), (58, .goto (-55), 3), (61, .return_, 1)]
theorem t_X6_writeTaken_ok : dec_ok cX6_writeTaken t_X6_writeTaken = true := by decide +kernel
theorem dX6_writeTaken_0 : decode cX6_writeTaken 0 = .ok (.iconst 0, 1) := dec_of t_X6_writeTaken_ok 0 rfl
theorem dX6_writeTaken_1 : decode cX6_writeTaken 1 = .ok (.istore 4, 2) := dec_of t_X6_writeTaken_ok 1 rfl
theorem dX6_writeTaken_3 : decode cX6_writeTaken 3 = .ok (.iload 4, 2) := dec_of t_X6_writeTaken_ok 2 rfl
theorem dX6_writeTaken_5 : decode cX6_writeTaken 5 = .ok (.aload_n 0, 1) := dec_of t_X6_writeTaken_ok 3 rfl
theorem dX6_writeTaken_6 : decode cX6_writeTaken 6 = .ok (.getfield 12, 3) := dec_of t_X6_writeTaken_ok 4 rfl
theorem dX6_writeTaken_9 : decode cX6_writeTaken 9 = .ok (.invokevirtual 74, 3) := dec_of t_X6_writeTaken_ok 5 rfl
theorem dX6_writeTaken_12 : decode cX6_writeTaken 12 = .ok (.if_icmp .ge 49, 3) := dec_of t_X6_writeTaken_ok 6 rfl
theorem dX6_writeTaken_15 : decode cX6_writeTaken 15 = .ok (.aload_n 0, 1) := dec_of t_X6_writeTaken_ok 7 rfl
theorem dX6_writeTaken_16 : decode cX6_writeTaken 16 = .ok (.getfield 12, 3) := dec_of t_X6_writeTaken_ok 8 rfl
theorem dX6_writeTaken_19 : decode cX6_writeTaken 19 = .ok (.iload 4, 2) := dec_of t_X6_writeTaken_ok 9 rfl
theorem dX6_writeTaken_21 : decode cX6_writeTaken 21 = .ok (.invokevirtual 80, 3) := dec_of t_X6_writeTaken_ok 10 rfl
theorem dX6_writeTaken_24 : decode cX6_writeTaken 24 = .ok (.checkcast 28, 3) := dec_of t_X6_writeTaken_ok 11 rfl
theorem dX6_writeTaken_27 : decode cX6_writeTaken 27 = .ok (.astore 5, 2) := dec_of t_X6_writeTaken_ok 12 rfl
theorem dX6_writeTaken_29 : decode cX6_writeTaken 29 = .ok (.aload 5, 2) := dec_of t_X6_writeTaken_ok 13 rfl
theorem dX6_writeTaken_31 : decode cX6_writeTaken 31 = .ok (.getfield 104, 3) := dec_of t_X6_writeTaken_ok 14 rfl
theorem dX6_writeTaken_34 : decode cX6_writeTaken 34 = .ok (.ifCond .eq 21, 3) := dec_of t_X6_writeTaken_ok 15 rfl
theorem dX6_writeTaken_37 : decode cX6_writeTaken 37 = .ok (.aload_n 1, 1) := dec_of t_X6_writeTaken_ok 16 rfl
theorem dX6_writeTaken_38 : decode cX6_writeTaken 38 = .ok (.iload_n 2, 1) := dec_of t_X6_writeTaken_ok 17 rfl
theorem dX6_writeTaken_39 : decode cX6_writeTaken 39 = .ok (.iload 4, 2) := dec_of t_X6_writeTaken_ok 18 rfl
theorem dX6_writeTaken_41 : decode cX6_writeTaken 41 = .ok (.iadd, 1) := dec_of t_X6_writeTaken_ok 19 rfl
theorem dX6_writeTaken_42 : decode cX6_writeTaken 42 = .ok (.aload 5, 2) := dec_of t_X6_writeTaken_ok 20 rfl
theorem dX6_writeTaken_44 : decode cX6_writeTaken 44 = .ok (.getfield 107, 3) := dec_of t_X6_writeTaken_ok 21 rfl
theorem dX6_writeTaken_47 : decode cX6_writeTaken 47 = .ok (.invokevirtual 18, 3) := dec_of t_X6_writeTaken_ok 22 rfl
theorem dX6_writeTaken_50 : decode cX6_writeTaken 50 = .ok (.aload_n 3, 1) := dec_of t_X6_writeTaken_ok 23 rfl
theorem dX6_writeTaken_51 : decode cX6_writeTaken 51 = .ok (.invokevirtual 111, 3) := dec_of t_X6_writeTaken_ok 24 rfl
theorem dX6_writeTaken_54 : decode cX6_writeTaken 54 = .ok (.return_, 1) := dec_of t_X6_writeTaken_ok 25 rfl
theorem dX6_writeTaken_55 : decode cX6_writeTaken 55 = .ok (.iinc 4 1, 3) := dec_of t_X6_writeTaken_ok 26 rfl
theorem dX6_writeTaken_58 : decode cX6_writeTaken 58 = .ok (.goto (-55), 3) := dec_of t_X6_writeTaken_ok 27 rfl
theorem dX6_writeTaken_61 : decode cX6_writeTaken 61 = .ok (.return_, 1) := dec_of t_X6_writeTaken_ok 28 rfl
def t_X7_init : List (Nat × Instr × Nat) := [(0, .aload_n 0, 1), (1, .invokespecial 3, 3), (4, .aload_n 0, 1), (5, .new 9, 3), (8, .dup, 1), (9, .sipush 160, 3), (12, .invokespecial 11, 3), (15, .putfield 14, 3), (18, .aload_n 0, 1), (19, .new 9, 3), (22, .dup, 1), (23, .sipush 160, 3), (26, .invokespecial 11, 3), (29, .putfield 20, 3), (32, .aload_n 0, 1), (33, .new 9, 3), (36, .dup, 1), (37, .sipush 161, 3), (40, .invokespecial 11, 3), (43, .putfield 23, 3), (46, .aload_n 0, 1), (47, .getfield 23, 3), (50, .bipush 15, 2), (52, .invokevirtual 26, 3), (55, .return_, 1)]
theorem t_X7_init_ok : dec_ok cX7_init t_X7_init = true := by decide +kernel
theorem dX7_init_0 : decode cX7_init 0 = .ok (.aload_n 0, 1) := dec_of t_X7_init_ok 0 rfl
theorem dX7_init_1 : decode cX7_init 1 = .ok (.invokespecial 3, 3) := dec_of t_X7_init_ok 1 rfl
theorem dX7_init_4 : decode cX7_init 4 = .ok (.aload_n 0, 1) := dec_of t_X7_init_ok 2 rfl
theorem dX7_init_5 : decode cX7_init 5 = .ok (.new 9, 3) := dec_of t_X7_init_ok 3 rfl
theorem dX7_init_8 : decode cX7_init 8 = .ok (.dup, 1) := dec_of t_X7_init_ok 4 rfl
theorem dX7_init_9 : decode cX7_init 9 = .ok (.sipush 160, 3) := dec_of t_X7_init_ok 5 rfl
theorem dX7_init_12 : decode cX7_init 12 = .ok (.invokespecial 11, 3) := dec_of t_X7_init_ok 6 rfl
theorem dX7_init_15 : decode cX7_init 15 = .ok (.putfield 14, 3) := dec_of t_X7_init_ok 7 rfl
theorem dX7_init_18 : decode cX7_init 18 = .ok (.aload_n 0, 1) := dec_of t_X7_init_ok 8 rfl
theorem dX7_init_19 : decode cX7_init 19 = .ok (.new 9, 3) := dec_of t_X7_init_ok 9 rfl
theorem dX7_init_22 : decode cX7_init 22 = .ok (.dup, 1) := dec_of t_X7_init_ok 10 rfl
theorem dX7_init_23 : decode cX7_init 23 = .ok (.sipush 160, 3) := dec_of t_X7_init_ok 11 rfl
theorem dX7_init_26 : decode cX7_init 26 = .ok (.invokespecial 11, 3) := dec_of t_X7_init_ok 12 rfl
theorem dX7_init_29 : decode cX7_init 29 = .ok (.putfield 20, 3) := dec_of t_X7_init_ok 13 rfl
theorem dX7_init_32 : decode cX7_init 32 = .ok (.aload_n 0, 1) := dec_of t_X7_init_ok 14 rfl
theorem dX7_init_33 : decode cX7_init 33 = .ok (.new 9, 3) := dec_of t_X7_init_ok 15 rfl
theorem dX7_init_36 : decode cX7_init 36 = .ok (.dup, 1) := dec_of t_X7_init_ok 16 rfl
theorem dX7_init_37 : decode cX7_init 37 = .ok (.sipush 161, 3) := dec_of t_X7_init_ok 17 rfl
theorem dX7_init_40 : decode cX7_init 40 = .ok (.invokespecial 11, 3) := dec_of t_X7_init_ok 18 rfl
theorem dX7_init_43 : decode cX7_init 43 = .ok (.putfield 23, 3) := dec_of t_X7_init_ok 19 rfl
theorem dX7_init_46 : decode cX7_init 46 = .ok (.aload_n 0, 1) := dec_of t_X7_init_ok 20 rfl
theorem dX7_init_47 : decode cX7_init 47 = .ok (.getfield 23, 3) := dec_of t_X7_init_ok 21 rfl
theorem dX7_init_50 : decode cX7_init 50 = .ok (.bipush 15, 2) := dec_of t_X7_init_ok 22 rfl
theorem dX7_init_52 : decode cX7_init 52 = .ok (.invokevirtual 26, 3) := dec_of t_X7_init_ok 23 rfl
theorem dX7_init_55 : decode cX7_init 55 = .ok (.return_, 1) := dec_of t_X7_init_ok 24 rfl
def t_X7_paragraphAt : List (Nat × Instr × Nat) := [(0, .iconst 0, 1), (1, .istore_n 2, 1), (2, .iconst 0, 1), (3, .istore_n 3, 1), (4, .iload_n 3, 1), (5, .iload_n 1, 1), (6, .if_icmp .ge 36, 3), (9, .iload_n 3, 1), (10, .aload_n 0, 1), (11, .getfield 14, 3), (14, .invokevirtual 29, 3), (17, .if_icmp .ge 25, 3), (20, .aload_n 0, 1), (21, .getfield 14, 3), (24, .iload_n 3, 1), (25, .invokevirtual 33, 3), (28, .bipush 47, 2), (30, .if_icmp .ne 6, 3), (33, .iinc 2 1, 3), (36, .iinc 3 1, 3), (39, .goto (-35), 3), (42, .iload_n 2, 1), (43, .ireturn, 1)]
theorem t_X7_paragraphAt_ok : dec_ok cX7_paragraphAt t_X7_paragraphAt = true := by decide +kernel
theorem dX7_paragraphAt_0 : decode cX7_paragraphAt 0 = .ok (.iconst 0, 1) := dec_of t_X7_paragraphAt_ok 0 rfl
theorem dX7_paragraphAt_1 : decode cX7_paragraphAt 1 = .ok (.istore_n 2, 1) := dec_of t_X7_paragraphAt_ok 1 rfl
theorem dX7_paragraphAt_2 : decode cX7_paragraphAt 2 = .ok (.iconst 0, 1) := dec_of t_X7_paragraphAt_ok 2 rfl
theorem dX7_paragraphAt_3 : decode cX7_paragraphAt 3 = .ok (.istore_n 3, 1) := dec_of t_X7_paragraphAt_ok 3 rfl
theorem dX7_paragraphAt_4 : decode cX7_paragraphAt 4 = .ok (.iload_n 3, 1) := dec_of t_X7_paragraphAt_ok 4 rfl
theorem dX7_paragraphAt_5 : decode cX7_paragraphAt 5 = .ok (.iload_n 1, 1) := dec_of t_X7_paragraphAt_ok 5 rfl
theorem dX7_paragraphAt_6 : decode cX7_paragraphAt 6 = .ok (.if_icmp .ge 36, 3) := dec_of t_X7_paragraphAt_ok 6 rfl
theorem dX7_paragraphAt_9 : decode cX7_paragraphAt 9 = .ok (.iload_n 3, 1) := dec_of t_X7_paragraphAt_ok 7 rfl
theorem dX7_paragraphAt_10 : decode cX7_paragraphAt 10 = .ok (.aload_n 0, 1) := dec_of t_X7_paragraphAt_ok 8 rfl
theorem dX7_paragraphAt_11 : decode cX7_paragraphAt 11 = .ok (.getfield 14, 3) := dec_of t_X7_paragraphAt_ok 9 rfl
theorem dX7_paragraphAt_14 : decode cX7_paragraphAt 14 = .ok (.invokevirtual 29, 3) := dec_of t_X7_paragraphAt_ok 10 rfl
theorem dX7_paragraphAt_17 : decode cX7_paragraphAt 17 = .ok (.if_icmp .ge 25, 3) := dec_of t_X7_paragraphAt_ok 11 rfl
theorem dX7_paragraphAt_20 : decode cX7_paragraphAt 20 = .ok (.aload_n 0, 1) := dec_of t_X7_paragraphAt_ok 12 rfl
theorem dX7_paragraphAt_21 : decode cX7_paragraphAt 21 = .ok (.getfield 14, 3) := dec_of t_X7_paragraphAt_ok 13 rfl
theorem dX7_paragraphAt_24 : decode cX7_paragraphAt 24 = .ok (.iload_n 3, 1) := dec_of t_X7_paragraphAt_ok 14 rfl
theorem dX7_paragraphAt_25 : decode cX7_paragraphAt 25 = .ok (.invokevirtual 33, 3) := dec_of t_X7_paragraphAt_ok 15 rfl
theorem dX7_paragraphAt_28 : decode cX7_paragraphAt 28 = .ok (.bipush 47, 2) := dec_of t_X7_paragraphAt_ok 16 rfl
theorem dX7_paragraphAt_30 : decode cX7_paragraphAt 30 = .ok (.if_icmp .ne 6, 3) := dec_of t_X7_paragraphAt_ok 17 rfl
theorem dX7_paragraphAt_33 : decode cX7_paragraphAt 33 = .ok (.iinc 2 1, 3) := dec_of t_X7_paragraphAt_ok 18 rfl
theorem dX7_paragraphAt_36 : decode cX7_paragraphAt 36 = .ok (.iinc 3 1, 3) := dec_of t_X7_paragraphAt_ok 19 rfl
theorem dX7_paragraphAt_39 : decode cX7_paragraphAt 39 = .ok (.goto (-35), 3) := dec_of t_X7_paragraphAt_ok 20 rfl
theorem dX7_paragraphAt_42 : decode cX7_paragraphAt 42 = .ok (.iload_n 2, 1) := dec_of t_X7_paragraphAt_ok 21 rfl
theorem dX7_paragraphAt_43 : decode cX7_paragraphAt 43 = .ok (.ireturn, 1) := dec_of t_X7_paragraphAt_ok 22 rfl
def t_X7_insert : List (Nat × Instr × Nat) := [(0, .aload_n 0, 1), (1, .iload_n 1, 1), (2, .invokevirtual 37, 3), (5, .istore 4, 2), (7, .aload_n 0, 1), (8, .getfield 14, 3), (11, .iload_n 1, 1), (12, .iload_n 2, 1), (13, .invokevirtual 40, 3), (16, .aload_n 0, 1), (17, .getfield 20, 3), (20, .iload_n 1, 1), (21, .iload_n 3, 1), (22, .invokevirtual 40, 3), (25, .aload_n 0, 1), (26, .getfield 23, 3), (29, .iload 4, 2), (31, .bipush 15, 2), (33, .invokevirtual 44, 3), (36, .iload_n 2, 1), (37, .bipush 47, 2), (39, .if_icmp .ne 16, 3), (42, .aload_n 0, 1), (43, .getfield 23, 3), (46, .iload 4, 2), (48, .iconst 1, 1), (49, .iadd, 1), (50, .bipush 15, 2), (52, .invokevirtual 40, 3), (55, .return_, 1)]
theorem t_X7_insert_ok : dec_ok cX7_insert t_X7_insert = true := by decide +kernel
theorem dX7_insert_0 : decode cX7_insert 0 = .ok (.aload_n 0, 1) := dec_of t_X7_insert_ok 0 rfl
theorem dX7_insert_1 : decode cX7_insert 1 = .ok (.iload_n 1, 1) := dec_of t_X7_insert_ok 1 rfl
theorem dX7_insert_2 : decode cX7_insert 2 = .ok (.invokevirtual 37, 3) := dec_of t_X7_insert_ok 2 rfl
theorem dX7_insert_5 : decode cX7_insert 5 = .ok (.istore 4, 2) := dec_of t_X7_insert_ok 3 rfl
theorem dX7_insert_7 : decode cX7_insert 7 = .ok (.aload_n 0, 1) := dec_of t_X7_insert_ok 4 rfl
theorem dX7_insert_8 : decode cX7_insert 8 = .ok (.getfield 14, 3) := dec_of t_X7_insert_ok 5 rfl
theorem dX7_insert_11 : decode cX7_insert 11 = .ok (.iload_n 1, 1) := dec_of t_X7_insert_ok 6 rfl
theorem dX7_insert_12 : decode cX7_insert 12 = .ok (.iload_n 2, 1) := dec_of t_X7_insert_ok 7 rfl
theorem dX7_insert_13 : decode cX7_insert 13 = .ok (.invokevirtual 40, 3) := dec_of t_X7_insert_ok 8 rfl
theorem dX7_insert_16 : decode cX7_insert 16 = .ok (.aload_n 0, 1) := dec_of t_X7_insert_ok 9 rfl
theorem dX7_insert_17 : decode cX7_insert 17 = .ok (.getfield 20, 3) := dec_of t_X7_insert_ok 10 rfl
theorem dX7_insert_20 : decode cX7_insert 20 = .ok (.iload_n 1, 1) := dec_of t_X7_insert_ok 11 rfl
theorem dX7_insert_21 : decode cX7_insert 21 = .ok (.iload_n 3, 1) := dec_of t_X7_insert_ok 12 rfl
theorem dX7_insert_22 : decode cX7_insert 22 = .ok (.invokevirtual 40, 3) := dec_of t_X7_insert_ok 13 rfl
theorem dX7_insert_25 : decode cX7_insert 25 = .ok (.aload_n 0, 1) := dec_of t_X7_insert_ok 14 rfl
theorem dX7_insert_26 : decode cX7_insert 26 = .ok (.getfield 23, 3) := dec_of t_X7_insert_ok 15 rfl
theorem dX7_insert_29 : decode cX7_insert 29 = .ok (.iload 4, 2) := dec_of t_X7_insert_ok 16 rfl
theorem dX7_insert_31 : decode cX7_insert 31 = .ok (.bipush 15, 2) := dec_of t_X7_insert_ok 17 rfl
theorem dX7_insert_33 : decode cX7_insert 33 = .ok (.invokevirtual 44, 3) := dec_of t_X7_insert_ok 18 rfl
theorem dX7_insert_36 : decode cX7_insert 36 = .ok (.iload_n 2, 1) := dec_of t_X7_insert_ok 19 rfl
theorem dX7_insert_37 : decode cX7_insert 37 = .ok (.bipush 47, 2) := dec_of t_X7_insert_ok 20 rfl
theorem dX7_insert_39 : decode cX7_insert 39 = .ok (.if_icmp .ne 16, 3) := dec_of t_X7_insert_ok 21 rfl
theorem dX7_insert_42 : decode cX7_insert 42 = .ok (.aload_n 0, 1) := dec_of t_X7_insert_ok 22 rfl
theorem dX7_insert_43 : decode cX7_insert 43 = .ok (.getfield 23, 3) := dec_of t_X7_insert_ok 23 rfl
theorem dX7_insert_46 : decode cX7_insert 46 = .ok (.iload 4, 2) := dec_of t_X7_insert_ok 24 rfl
theorem dX7_insert_48 : decode cX7_insert 48 = .ok (.iconst 1, 1) := dec_of t_X7_insert_ok 25 rfl
theorem dX7_insert_49 : decode cX7_insert 49 = .ok (.iadd, 1) := dec_of t_X7_insert_ok 26 rfl
theorem dX7_insert_50 : decode cX7_insert 50 = .ok (.bipush 15, 2) := dec_of t_X7_insert_ok 27 rfl
theorem dX7_insert_52 : decode cX7_insert 52 = .ok (.invokevirtual 40, 3) := dec_of t_X7_insert_ok 28 rfl
theorem dX7_insert_55 : decode cX7_insert 55 = .ok (.return_, 1) := dec_of t_X7_insert_ok 29 rfl
def t_X7_remove : List (Nat × Instr × Nat) := [(0, .aload_n 0, 1), (1, .iload_n 1, 1), (2, .invokevirtual 37, 3), (5, .istore_n 2, 1), (6, .aload_n 0, 1), (7, .getfield 14, 3), (10, .iload_n 1, 1), (11, .invokevirtual 47, 3), (14, .i2c, 1), (15, .istore_n 3, 1), (16, .aload_n 0, 1), (17, .getfield 20, 3), (20, .iload_n 1, 1), (21, .invokevirtual 47, 3), (24, .pop, 1), (25, .aload_n 0, 1), (26, .getfield 23, 3), (29, .iload_n 2, 1), (30, .bipush 15, 2), (32, .invokevirtual 44, 3), (35, .iload_n 3, 1), (36, .bipush 47, 2), (38, .if_icmp .ne 14, 3), (41, .aload_n 0, 1), (42, .getfield 23, 3), (45, .iload_n 2, 1), (46, .iconst 1, 1), (47, .iadd, 1), (48, .invokevirtual 47, 3), (51, .pop, 1), (52, .iload_n 3, 1), (53, .ireturn, 1)]
theorem t_X7_remove_ok : dec_ok cX7_remove t_X7_remove = true := by decide +kernel
theorem dX7_remove_0 : decode cX7_remove 0 = .ok (.aload_n 0, 1) := dec_of t_X7_remove_ok 0 rfl
theorem dX7_remove_1 : decode cX7_remove 1 = .ok (.iload_n 1, 1) := dec_of t_X7_remove_ok 1 rfl
theorem dX7_remove_2 : decode cX7_remove 2 = .ok (.invokevirtual 37, 3) := dec_of t_X7_remove_ok 2 rfl
theorem dX7_remove_5 : decode cX7_remove 5 = .ok (.istore_n 2, 1) := dec_of t_X7_remove_ok 3 rfl
theorem dX7_remove_6 : decode cX7_remove 6 = .ok (.aload_n 0, 1) := dec_of t_X7_remove_ok 4 rfl
theorem dX7_remove_7 : decode cX7_remove 7 = .ok (.getfield 14, 3) := dec_of t_X7_remove_ok 5 rfl
theorem dX7_remove_10 : decode cX7_remove 10 = .ok (.iload_n 1, 1) := dec_of t_X7_remove_ok 6 rfl
theorem dX7_remove_11 : decode cX7_remove 11 = .ok (.invokevirtual 47, 3) := dec_of t_X7_remove_ok 7 rfl
theorem dX7_remove_14 : decode cX7_remove 14 = .ok (.i2c, 1) := dec_of t_X7_remove_ok 8 rfl
theorem dX7_remove_15 : decode cX7_remove 15 = .ok (.istore_n 3, 1) := dec_of t_X7_remove_ok 9 rfl
theorem dX7_remove_16 : decode cX7_remove 16 = .ok (.aload_n 0, 1) := dec_of t_X7_remove_ok 10 rfl
theorem dX7_remove_17 : decode cX7_remove 17 = .ok (.getfield 20, 3) := dec_of t_X7_remove_ok 11 rfl
theorem dX7_remove_20 : decode cX7_remove 20 = .ok (.iload_n 1, 1) := dec_of t_X7_remove_ok 12 rfl
theorem dX7_remove_21 : decode cX7_remove 21 = .ok (.invokevirtual 47, 3) := dec_of t_X7_remove_ok 13 rfl
theorem dX7_remove_24 : decode cX7_remove 24 = .ok (.pop, 1) := dec_of t_X7_remove_ok 14 rfl
theorem dX7_remove_25 : decode cX7_remove 25 = .ok (.aload_n 0, 1) := dec_of t_X7_remove_ok 15 rfl
theorem dX7_remove_26 : decode cX7_remove 26 = .ok (.getfield 23, 3) := dec_of t_X7_remove_ok 16 rfl
theorem dX7_remove_29 : decode cX7_remove 29 = .ok (.iload_n 2, 1) := dec_of t_X7_remove_ok 17 rfl
theorem dX7_remove_30 : decode cX7_remove 30 = .ok (.bipush 15, 2) := dec_of t_X7_remove_ok 18 rfl
theorem dX7_remove_32 : decode cX7_remove 32 = .ok (.invokevirtual 44, 3) := dec_of t_X7_remove_ok 19 rfl
theorem dX7_remove_35 : decode cX7_remove 35 = .ok (.iload_n 3, 1) := dec_of t_X7_remove_ok 20 rfl
theorem dX7_remove_36 : decode cX7_remove 36 = .ok (.bipush 47, 2) := dec_of t_X7_remove_ok 21 rfl
theorem dX7_remove_38 : decode cX7_remove 38 = .ok (.if_icmp .ne 14, 3) := dec_of t_X7_remove_ok 22 rfl
theorem dX7_remove_41 : decode cX7_remove 41 = .ok (.aload_n 0, 1) := dec_of t_X7_remove_ok 23 rfl
theorem dX7_remove_42 : decode cX7_remove 42 = .ok (.getfield 23, 3) := dec_of t_X7_remove_ok 24 rfl
theorem dX7_remove_45 : decode cX7_remove 45 = .ok (.iload_n 2, 1) := dec_of t_X7_remove_ok 25 rfl
theorem dX7_remove_46 : decode cX7_remove 46 = .ok (.iconst 1, 1) := dec_of t_X7_remove_ok 26 rfl
theorem dX7_remove_47 : decode cX7_remove 47 = .ok (.iadd, 1) := dec_of t_X7_remove_ok 27 rfl
theorem dX7_remove_48 : decode cX7_remove 48 = .ok (.invokevirtual 47, 3) := dec_of t_X7_remove_ok 28 rfl
theorem dX7_remove_51 : decode cX7_remove 51 = .ok (.pop, 1) := dec_of t_X7_remove_ok 29 rfl
theorem dX7_remove_52 : decode cX7_remove 52 = .ok (.iload_n 3, 1) := dec_of t_X7_remove_ok 30 rfl
theorem dX7_remove_53 : decode cX7_remove 53 = .ok (.ireturn, 1) := dec_of t_X7_remove_ok 31 rfl
def t_X7_markAll : List (Nat × Instr × Nat) := [(0, .iconst 0, 1), (1, .istore_n 2, 1), (2, .iload_n 2, 1), (3, .aload_n 0, 1), (4, .getfield 23, 3), (7, .invokevirtual 29, 3), (10, .if_icmp .ge 27, 3), (13, .aload_n 0, 1), (14, .getfield 23, 3), (17, .iload_n 2, 1), (18, .aload_n 0, 1), (19, .getfield 23, 3), (22, .iload_n 2, 1), (23, .invokevirtual 33, 3), (26, .iload_n 1, 1), (27, .ior, 1), (28, .invokevirtual 44, 3), (31, .iinc 2 1, 3), (34, .goto (-32), 3), (37, .return_, 1)]
theorem t_X7_markAll_ok : dec_ok cX7_markAll t_X7_markAll = true := by decide +kernel
theorem dX7_markAll_0 : decode cX7_markAll 0 = .ok (.iconst 0, 1) := dec_of t_X7_markAll_ok 0 rfl
theorem dX7_markAll_1 : decode cX7_markAll 1 = .ok (.istore_n 2, 1) := dec_of t_X7_markAll_ok 1 rfl
theorem dX7_markAll_2 : decode cX7_markAll 2 = .ok (.iload_n 2, 1) := dec_of t_X7_markAll_ok 2 rfl
theorem dX7_markAll_3 : decode cX7_markAll 3 = .ok (.aload_n 0, 1) := dec_of t_X7_markAll_ok 3 rfl
theorem dX7_markAll_4 : decode cX7_markAll 4 = .ok (.getfield 23, 3) := dec_of t_X7_markAll_ok 4 rfl
theorem dX7_markAll_7 : decode cX7_markAll 7 = .ok (.invokevirtual 29, 3) := dec_of t_X7_markAll_ok 5 rfl
theorem dX7_markAll_10 : decode cX7_markAll 10 = .ok (.if_icmp .ge 27, 3) := dec_of t_X7_markAll_ok 6 rfl
theorem dX7_markAll_13 : decode cX7_markAll 13 = .ok (.aload_n 0, 1) := dec_of t_X7_markAll_ok 7 rfl
theorem dX7_markAll_14 : decode cX7_markAll 14 = .ok (.getfield 23, 3) := dec_of t_X7_markAll_ok 8 rfl
theorem dX7_markAll_17 : decode cX7_markAll 17 = .ok (.iload_n 2, 1) := dec_of t_X7_markAll_ok 9 rfl
theorem dX7_markAll_18 : decode cX7_markAll 18 = .ok (.aload_n 0, 1) := dec_of t_X7_markAll_ok 10 rfl
theorem dX7_markAll_19 : decode cX7_markAll 19 = .ok (.getfield 23, 3) := dec_of t_X7_markAll_ok 11 rfl
theorem dX7_markAll_22 : decode cX7_markAll 22 = .ok (.iload_n 2, 1) := dec_of t_X7_markAll_ok 12 rfl
theorem dX7_markAll_23 : decode cX7_markAll 23 = .ok (.invokevirtual 33, 3) := dec_of t_X7_markAll_ok 13 rfl
theorem dX7_markAll_26 : decode cX7_markAll 26 = .ok (.iload_n 1, 1) := dec_of t_X7_markAll_ok 14 rfl
theorem dX7_markAll_27 : decode cX7_markAll 27 = .ok (.ior, 1) := dec_of t_X7_markAll_ok 15 rfl
theorem dX7_markAll_28 : decode cX7_markAll 28 = .ok (.invokevirtual 44, 3) := dec_of t_X7_markAll_ok 16 rfl
theorem dX7_markAll_31 : decode cX7_markAll 31 = .ok (.iinc 2 1, 3) := dec_of t_X7_markAll_ok 17 rfl
theorem dX7_markAll_34 : decode cX7_markAll 34 = .ok (.goto (-32), 3) := dec_of t_X7_markAll_ok 18 rfl
theorem dX7_markAll_37 : decode cX7_markAll 37 = .ok (.return_, 1) := dec_of t_X7_markAll_ok 19 rfl
def t_X7_clearChanged : List (Nat × Instr × Nat) := [(0, .iconst 0, 1), (1, .istore_n 2, 1), (2, .iconst 0, 1), (3, .istore_n 3, 1), (4, .iload_n 3, 1), (5, .aload_n 0, 1), (6, .getfield 23, 3), (9, .invokevirtual 29, 3), (12, .if_icmp .ge 43, 3), (15, .aload_n 0, 1), (16, .getfield 23, 3), (19, .iload_n 3, 1), (20, .invokevirtual 33, 3), (23, .istore 4, 2), (25, .iload 4, 2), (27, .iload_n 1, 1), (28, .iand, 1), (29, .ifCond .eq 20, 3), (32, .iinc 2 1, 3), (35, .aload_n 0, 1), (36, .getfield 23, 3), (39, .iload_n 3, 1), (40, .iload 4, 2), (42, .iload_n 1, 1), (43, .iconst (-1), 1), (44, .ixor, 1), (45, .iand, 1), (46, .invokevirtual 44, 3), (49, .iinc 3 1, 3), (52, .goto (-48), 3), (55, .iload_n 2, 1), (56, .ireturn, 1)]
theorem t_X7_clearChanged_ok : dec_ok cX7_clearChanged t_X7_clearChanged = true := by decide +kernel
theorem dX7_clearChanged_0 : decode cX7_clearChanged 0 = .ok (.iconst 0, 1) := dec_of t_X7_clearChanged_ok 0 rfl
theorem dX7_clearChanged_1 : decode cX7_clearChanged 1 = .ok (.istore_n 2, 1) := dec_of t_X7_clearChanged_ok 1 rfl
theorem dX7_clearChanged_2 : decode cX7_clearChanged 2 = .ok (.iconst 0, 1) := dec_of t_X7_clearChanged_ok 2 rfl
theorem dX7_clearChanged_3 : decode cX7_clearChanged 3 = .ok (.istore_n 3, 1) := dec_of t_X7_clearChanged_ok 3 rfl
theorem dX7_clearChanged_4 : decode cX7_clearChanged 4 = .ok (.iload_n 3, 1) := dec_of t_X7_clearChanged_ok 4 rfl
theorem dX7_clearChanged_5 : decode cX7_clearChanged 5 = .ok (.aload_n 0, 1) := dec_of t_X7_clearChanged_ok 5 rfl
theorem dX7_clearChanged_6 : decode cX7_clearChanged 6 = .ok (.getfield 23, 3) := dec_of t_X7_clearChanged_ok 6 rfl
theorem dX7_clearChanged_9 : decode cX7_clearChanged 9 = .ok (.invokevirtual 29, 3) := dec_of t_X7_clearChanged_ok 7 rfl
theorem dX7_clearChanged_12 : decode cX7_clearChanged 12 = .ok (.if_icmp .ge 43, 3) := dec_of t_X7_clearChanged_ok 8 rfl
theorem dX7_clearChanged_15 : decode cX7_clearChanged 15 = .ok (.aload_n 0, 1) := dec_of t_X7_clearChanged_ok 9 rfl
theorem dX7_clearChanged_16 : decode cX7_clearChanged 16 = .ok (.getfield 23, 3) := dec_of t_X7_clearChanged_ok 10 rfl
theorem dX7_clearChanged_19 : decode cX7_clearChanged 19 = .ok (.iload_n 3, 1) := dec_of t_X7_clearChanged_ok 11 rfl
theorem dX7_clearChanged_20 : decode cX7_clearChanged 20 = .ok (.invokevirtual 33, 3) := dec_of t_X7_clearChanged_ok 12 rfl
theorem dX7_clearChanged_23 : decode cX7_clearChanged 23 = .ok (.istore 4, 2) := dec_of t_X7_clearChanged_ok 13 rfl
theorem dX7_clearChanged_25 : decode cX7_clearChanged 25 = .ok (.iload 4, 2) := dec_of t_X7_clearChanged_ok 14 rfl
theorem dX7_clearChanged_27 : decode cX7_clearChanged 27 = .ok (.iload_n 1, 1) := dec_of t_X7_clearChanged_ok 15 rfl
theorem dX7_clearChanged_28 : decode cX7_clearChanged 28 = .ok (.iand, 1) := dec_of t_X7_clearChanged_ok 16 rfl
theorem dX7_clearChanged_29 : decode cX7_clearChanged 29 = .ok (.ifCond .eq 20, 3) := dec_of t_X7_clearChanged_ok 17 rfl
theorem dX7_clearChanged_32 : decode cX7_clearChanged 32 = .ok (.iinc 2 1, 3) := dec_of t_X7_clearChanged_ok 18 rfl
theorem dX7_clearChanged_35 : decode cX7_clearChanged 35 = .ok (.aload_n 0, 1) := dec_of t_X7_clearChanged_ok 19 rfl
theorem dX7_clearChanged_36 : decode cX7_clearChanged 36 = .ok (.getfield 23, 3) := dec_of t_X7_clearChanged_ok 20 rfl
theorem dX7_clearChanged_39 : decode cX7_clearChanged 39 = .ok (.iload_n 3, 1) := dec_of t_X7_clearChanged_ok 21 rfl
theorem dX7_clearChanged_40 : decode cX7_clearChanged 40 = .ok (.iload 4, 2) := dec_of t_X7_clearChanged_ok 22 rfl
theorem dX7_clearChanged_42 : decode cX7_clearChanged 42 = .ok (.iload_n 1, 1) := dec_of t_X7_clearChanged_ok 23 rfl
theorem dX7_clearChanged_43 : decode cX7_clearChanged 43 = .ok (.iconst (-1), 1) := dec_of t_X7_clearChanged_ok 24 rfl
theorem dX7_clearChanged_44 : decode cX7_clearChanged 44 = .ok (.ixor, 1) := dec_of t_X7_clearChanged_ok 25 rfl
theorem dX7_clearChanged_45 : decode cX7_clearChanged 45 = .ok (.iand, 1) := dec_of t_X7_clearChanged_ok 26 rfl
theorem dX7_clearChanged_46 : decode cX7_clearChanged 46 = .ok (.invokevirtual 44, 3) := dec_of t_X7_clearChanged_ok 27 rfl
theorem dX7_clearChanged_49 : decode cX7_clearChanged 49 = .ok (.iinc 3 1, 3) := dec_of t_X7_clearChanged_ok 28 rfl
theorem dX7_clearChanged_52 : decode cX7_clearChanged 52 = .ok (.goto (-48), 3) := dec_of t_X7_clearChanged_ok 29 rfl
theorem dX7_clearChanged_55 : decode cX7_clearChanged 55 = .ok (.iload_n 2, 1) := dec_of t_X7_clearChanged_ok 30 rfl
theorem dX7_clearChanged_56 : decode cX7_clearChanged 56 = .ok (.ireturn, 1) := dec_of t_X7_clearChanged_ok 31 rfl
def t_X8_init : List (Nat × Instr × Nat) := [(0, .aload_n 0, 1), (1, .invokespecial 3, 3), (4, .aload_n 0, 1), (5, .aload_n 1, 1), (6, .putfield 9, 3), (9, .aload_n 0, 1), (10, .new 15, 3), (13, .dup, 1), (14, .sipush 160, 3), (17, .invokespecial 17, 3), (20, .putfield 20, 3), (23, .aload_n 0, 1), (24, .new 15, 3), (27, .dup, 1), (28, .sipush 160, 3), (31, .invokespecial 17, 3), (34, .putfield 23, 3), (37, .aload_n 0, 1), (38, .new 15, 3), (41, .dup, 1), (42, .sipush 160, 3), (45, .invokespecial 17, 3), (48, .putfield 26, 3), (51, .aload_n 0, 1), (52, .new 15, 3), (55, .dup, 1), (56, .sipush 160, 3), (59, .invokespecial 17, 3), (62, .putfield 29, 3), (65, .aload_n 0, 1), (66, .new 15, 3), (69, .dup, 1), (70, .sipush 160, 3), (73, .invokespecial 17, 3), (76, .putfield 32, 3), (79, .aload_n 0, 1), (80, .new 15, 3), (83, .dup, 1), (84, .sipush 160, 3), (87, .invokespecial 17, 3), (90, .putfield 35, 3), (93, .aload_n 0, 1), (94, .new 15, 3), (97, .dup, 1), (98, .sipush 160, 3), (101, .invokespecial 17, 3), (104, .putfield 38, 3), (107, .aload_n 0, 1), (108, .iconst 0, 1), (109, .putfield 41, 3), (112, .aload_n 0, 1), (113, .iconst 1, 1), (114, .putfield 45, 3), (117, .aload_n 0, 1), (118, .iconst (-1), 1), (119, .putfield 48, 3), (122, .return_, 1)]
theorem t_X8_init_ok : dec_ok cX8_init t_X8_init = true := by decide +kernel
theorem dX8_init_0 : decode cX8_init 0 = .ok (.aload_n 0, 1) := dec_of t_X8_init_ok 0 rfl
theorem dX8_init_1 : decode cX8_init 1 = .ok (.invokespecial 3, 3) := dec_of t_X8_init_ok 1 rfl
theorem dX8_init_4 : decode cX8_init 4 = .ok (.aload_n 0, 1) := dec_of t_X8_init_ok 2 rfl
theorem dX8_init_5 : decode cX8_init 5 = .ok (.aload_n 1, 1) := dec_of t_X8_init_ok 3 rfl
theorem dX8_init_6 : decode cX8_init 6 = .ok (.putfield 9, 3) := dec_of t_X8_init_ok 4 rfl
theorem dX8_init_9 : decode cX8_init 9 = .ok (.aload_n 0, 1) := dec_of t_X8_init_ok 5 rfl
theorem dX8_init_10 : decode cX8_init 10 = .ok (.new 15, 3) := dec_of t_X8_init_ok 6 rfl
theorem dX8_init_13 : decode cX8_init 13 = .ok (.dup, 1) := dec_of t_X8_init_ok 7 rfl
theorem dX8_init_14 : decode cX8_init 14 = .ok (.sipush 160, 3) := dec_of t_X8_init_ok 8 rfl
theorem dX8_init_17 : decode cX8_init 17 = .ok (.invokespecial 17, 3) := dec_of t_X8_init_ok 9 rfl
theorem dX8_init_20 : decode cX8_init 20 = .ok (.putfield 20, 3) := dec_of t_X8_init_ok 10 rfl
theorem dX8_init_23 : decode cX8_init 23 = .ok (.aload_n 0, 1) := dec_of t_X8_init_ok 11 rfl
theorem dX8_init_24 : decode cX8_init 24 = .ok (.new 15, 3) := dec_of t_X8_init_ok 12 rfl
theorem dX8_init_27 : decode cX8_init 27 = .ok (.dup, 1) := dec_of t_X8_init_ok 13 rfl
theorem dX8_init_28 : decode cX8_init 28 = .ok (.sipush 160, 3) := dec_of t_X8_init_ok 14 rfl
theorem dX8_init_31 : decode cX8_init 31 = .ok (.invokespecial 17, 3) := dec_of t_X8_init_ok 15 rfl
theorem dX8_init_34 : decode cX8_init 34 = .ok (.putfield 23, 3) := dec_of t_X8_init_ok 16 rfl
theorem dX8_init_37 : decode cX8_init 37 = .ok (.aload_n 0, 1) := dec_of t_X8_init_ok 17 rfl
theorem dX8_init_38 : decode cX8_init 38 = .ok (.new 15, 3) := dec_of t_X8_init_ok 18 rfl
theorem dX8_init_41 : decode cX8_init 41 = .ok (.dup, 1) := dec_of t_X8_init_ok 19 rfl
theorem dX8_init_42 : decode cX8_init 42 = .ok (.sipush 160, 3) := dec_of t_X8_init_ok 20 rfl
theorem dX8_init_45 : decode cX8_init 45 = .ok (.invokespecial 17, 3) := dec_of t_X8_init_ok 21 rfl
theorem dX8_init_48 : decode cX8_init 48 = .ok (.putfield 26, 3) := dec_of t_X8_init_ok 22 rfl
theorem dX8_init_51 : decode cX8_init 51 = .ok (.aload_n 0, 1) := dec_of t_X8_init_ok 23 rfl
theorem dX8_init_52 : decode cX8_init 52 = .ok (.new 15, 3) := dec_of t_X8_init_ok 24 rfl
theorem dX8_init_55 : decode cX8_init 55 = .ok (.dup, 1) := dec_of t_X8_init_ok 25 rfl
theorem dX8_init_56 : decode cX8_init 56 = .ok (.sipush 160, 3) := dec_of t_X8_init_ok 26 rfl
theorem dX8_init_59 : decode cX8_init 59 = .ok (.invokespecial 17, 3) := dec_of t_X8_init_ok 27 rfl
theorem dX8_init_62 : decode cX8_init 62 = .ok (.putfield 29, 3) := dec_of t_X8_init_ok 28 rfl
theorem dX8_init_65 : decode cX8_init 65 = .ok (.aload_n 0, 1) := dec_of t_X8_init_ok 29 rfl
theorem dX8_init_66 : decode cX8_init 66 = .ok (.new 15, 3) := dec_of t_X8_init_ok 30 rfl
theorem dX8_init_69 : decode cX8_init 69 = .ok (.dup, 1) := dec_of t_X8_init_ok 31 rfl
theorem dX8_init_70 : decode cX8_init 70 = .ok (.sipush 160, 3) := dec_of t_X8_init_ok 32 rfl
theorem dX8_init_73 : decode cX8_init 73 = .ok (.invokespecial 17, 3) := dec_of t_X8_init_ok 33 rfl
theorem dX8_init_76 : decode cX8_init 76 = .ok (.putfield 32, 3) := dec_of t_X8_init_ok 34 rfl
theorem dX8_init_79 : decode cX8_init 79 = .ok (.aload_n 0, 1) := dec_of t_X8_init_ok 35 rfl
theorem dX8_init_80 : decode cX8_init 80 = .ok (.new 15, 3) := dec_of t_X8_init_ok 36 rfl
theorem dX8_init_83 : decode cX8_init 83 = .ok (.dup, 1) := dec_of t_X8_init_ok 37 rfl
theorem dX8_init_84 : decode cX8_init 84 = .ok (.sipush 160, 3) := dec_of t_X8_init_ok 38 rfl
theorem dX8_init_87 : decode cX8_init 87 = .ok (.invokespecial 17, 3) := dec_of t_X8_init_ok 39 rfl
theorem dX8_init_90 : decode cX8_init 90 = .ok (.putfield 35, 3) := dec_of t_X8_init_ok 40 rfl
theorem dX8_init_93 : decode cX8_init 93 = .ok (.aload_n 0, 1) := dec_of t_X8_init_ok 41 rfl
theorem dX8_init_94 : decode cX8_init 94 = .ok (.new 15, 3) := dec_of t_X8_init_ok 42 rfl
theorem dX8_init_97 : decode cX8_init 97 = .ok (.dup, 1) := dec_of t_X8_init_ok 43 rfl
theorem dX8_init_98 : decode cX8_init 98 = .ok (.sipush 160, 3) := dec_of t_X8_init_ok 44 rfl
theorem dX8_init_101 : decode cX8_init 101 = .ok (.invokespecial 17, 3) := dec_of t_X8_init_ok 45 rfl
theorem dX8_init_104 : decode cX8_init 104 = .ok (.putfield 38, 3) := dec_of t_X8_init_ok 46 rfl
theorem dX8_init_107 : decode cX8_init 107 = .ok (.aload_n 0, 1) := dec_of t_X8_init_ok 47 rfl
theorem dX8_init_108 : decode cX8_init 108 = .ok (.iconst 0, 1) := dec_of t_X8_init_ok 48 rfl
theorem dX8_init_109 : decode cX8_init 109 = .ok (.putfield 41, 3) := dec_of t_X8_init_ok 49 rfl
theorem dX8_init_112 : decode cX8_init 112 = .ok (.aload_n 0, 1) := dec_of t_X8_init_ok 50 rfl
theorem dX8_init_113 : decode cX8_init 113 = .ok (.iconst 1, 1) := dec_of t_X8_init_ok 51 rfl
theorem dX8_init_114 : decode cX8_init 114 = .ok (.putfield 45, 3) := dec_of t_X8_init_ok 52 rfl
theorem dX8_init_117 : decode cX8_init 117 = .ok (.aload_n 0, 1) := dec_of t_X8_init_ok 53 rfl
theorem dX8_init_118 : decode cX8_init 118 = .ok (.iconst (-1), 1) := dec_of t_X8_init_ok 54 rfl
theorem dX8_init_119 : decode cX8_init 119 = .ok (.putfield 48, 3) := dec_of t_X8_init_ok 55 rfl
theorem dX8_init_122 : decode cX8_init 122 = .ok (.return_, 1) := dec_of t_X8_init_ok 56 rfl
def t_X8_read : List (Nat × Instr × Nat) := [(0, .aload_n 0, 1), (1, .invokevirtual 52, 3), (4, .aload_n 0, 1), (5, .invokevirtual 55, 3), (8, .iconst 0, 1), (9, .istore_n 1, 1), (10, .iconst 0, 1), (11, .istore_n 2, 1), (12, .iload_n 2, 1), (13, .aload_n 0, 1), (14, .getfield 9, 3), (17, .invokevirtual 58, 3), (20, .if_icmp .ge 58, 3), (23, .aload_n 0, 1), (24, .getfield 9, 3), (27, .iload_n 2, 1), (28, .invokevirtual 62, 3), (31, .istore_n 3, 1), (32, .iload_n 3, 1), (33, .invokestatic 66, 3), (36, .istore 4, 2), (38, .iload 4, 2), (40, .ifCond .ne 11, 3), (43, .aload_n 0, 1), (44, .iload_n 3, 1), (45, .invokevirtual 69, 3), (48, .goto 21, 3), (51, .iload 4, 2), (53, .iload_n 1, 1), (54, .if_icmp .eq 10, 3), (57, .aload_n 0, 1), (58, .iload_n 2, 1), (59, .iload 4, 2), (61, .invokevirtual 72, 3), (64, .aload_n 0, 1), (65, .iload_n 3, 1), (66, .invokevirtual 76, 3), (69, .iload 4, 2), (71, .istore_n 1, 1), (72, .iinc 2 1, 3), (75, .goto (-63), 3), (78, .return_, 1)]
theorem t_X8_read_ok : dec_ok cX8_read t_X8_read = true := by decide +kernel
theorem dX8_read_0 : decode cX8_read 0 = .ok (.aload_n 0, 1) := dec_of t_X8_read_ok 0 rfl
theorem dX8_read_1 : decode cX8_read 1 = .ok (.invokevirtual 52, 3) := dec_of t_X8_read_ok 1 rfl
theorem dX8_read_4 : decode cX8_read 4 = .ok (.aload_n 0, 1) := dec_of t_X8_read_ok 2 rfl
theorem dX8_read_5 : decode cX8_read 5 = .ok (.invokevirtual 55, 3) := dec_of t_X8_read_ok 3 rfl
theorem dX8_read_8 : decode cX8_read 8 = .ok (.iconst 0, 1) := dec_of t_X8_read_ok 4 rfl
theorem dX8_read_9 : decode cX8_read 9 = .ok (.istore_n 1, 1) := dec_of t_X8_read_ok 5 rfl
theorem dX8_read_10 : decode cX8_read 10 = .ok (.iconst 0, 1) := dec_of t_X8_read_ok 6 rfl
theorem dX8_read_11 : decode cX8_read 11 = .ok (.istore_n 2, 1) := dec_of t_X8_read_ok 7 rfl
theorem dX8_read_12 : decode cX8_read 12 = .ok (.iload_n 2, 1) := dec_of t_X8_read_ok 8 rfl
theorem dX8_read_13 : decode cX8_read 13 = .ok (.aload_n 0, 1) := dec_of t_X8_read_ok 9 rfl
theorem dX8_read_14 : decode cX8_read 14 = .ok (.getfield 9, 3) := dec_of t_X8_read_ok 10 rfl
theorem dX8_read_17 : decode cX8_read 17 = .ok (.invokevirtual 58, 3) := dec_of t_X8_read_ok 11 rfl
theorem dX8_read_20 : decode cX8_read 20 = .ok (.if_icmp .ge 58, 3) := dec_of t_X8_read_ok 12 rfl
theorem dX8_read_23 : decode cX8_read 23 = .ok (.aload_n 0, 1) := dec_of t_X8_read_ok 13 rfl
theorem dX8_read_24 : decode cX8_read 24 = .ok (.getfield 9, 3) := dec_of t_X8_read_ok 14 rfl
theorem dX8_read_27 : decode cX8_read 27 = .ok (.iload_n 2, 1) := dec_of t_X8_read_ok 15 rfl
theorem dX8_read_28 : decode cX8_read 28 = .ok (.invokevirtual 62, 3) := dec_of t_X8_read_ok 16 rfl
theorem dX8_read_31 : decode cX8_read 31 = .ok (.istore_n 3, 1) := dec_of t_X8_read_ok 17 rfl
theorem dX8_read_32 : decode cX8_read 32 = .ok (.iload_n 3, 1) := dec_of t_X8_read_ok 18 rfl
theorem dX8_read_33 : decode cX8_read 33 = .ok (.invokestatic 66, 3) := dec_of t_X8_read_ok 19 rfl
theorem dX8_read_36 : decode cX8_read 36 = .ok (.istore 4, 2) := dec_of t_X8_read_ok 20 rfl
theorem dX8_read_38 : decode cX8_read 38 = .ok (.iload 4, 2) := dec_of t_X8_read_ok 21 rfl
theorem dX8_read_40 : decode cX8_read 40 = .ok (.ifCond .ne 11, 3) := dec_of t_X8_read_ok 22 rfl
theorem dX8_read_43 : decode cX8_read 43 = .ok (.aload_n 0, 1) := dec_of t_X8_read_ok 23 rfl
theorem dX8_read_44 : decode cX8_read 44 = .ok (.iload_n 3, 1) := dec_of t_X8_read_ok 24 rfl
theorem dX8_read_45 : decode cX8_read 45 = .ok (.invokevirtual 69, 3) := dec_of t_X8_read_ok 25 rfl
theorem dX8_read_48 : decode cX8_read 48 = .ok (.goto 21, 3) := dec_of t_X8_read_ok 26 rfl
theorem dX8_read_51 : decode cX8_read 51 = .ok (.iload 4, 2) := dec_of t_X8_read_ok 27 rfl
theorem dX8_read_53 : decode cX8_read 53 = .ok (.iload_n 1, 1) := dec_of t_X8_read_ok 28 rfl
theorem dX8_read_54 : decode cX8_read 54 = .ok (.if_icmp .eq 10, 3) := dec_of t_X8_read_ok 29 rfl
theorem dX8_read_57 : decode cX8_read 57 = .ok (.aload_n 0, 1) := dec_of t_X8_read_ok 30 rfl
theorem dX8_read_58 : decode cX8_read 58 = .ok (.iload_n 2, 1) := dec_of t_X8_read_ok 31 rfl
theorem dX8_read_59 : decode cX8_read 59 = .ok (.iload 4, 2) := dec_of t_X8_read_ok 32 rfl
theorem dX8_read_61 : decode cX8_read 61 = .ok (.invokevirtual 72, 3) := dec_of t_X8_read_ok 33 rfl
theorem dX8_read_64 : decode cX8_read 64 = .ok (.aload_n 0, 1) := dec_of t_X8_read_ok 34 rfl
theorem dX8_read_65 : decode cX8_read 65 = .ok (.iload_n 3, 1) := dec_of t_X8_read_ok 35 rfl
theorem dX8_read_66 : decode cX8_read 66 = .ok (.invokevirtual 76, 3) := dec_of t_X8_read_ok 36 rfl
theorem dX8_read_69 : decode cX8_read 69 = .ok (.iload 4, 2) := dec_of t_X8_read_ok 37 rfl
theorem dX8_read_71 : decode cX8_read 71 = .ok (.istore_n 1, 1) := dec_of t_X8_read_ok 38 rfl
theorem dX8_read_72 : decode cX8_read 72 = .ok (.iinc 2 1, 3) := dec_of t_X8_read_ok 39 rfl
theorem dX8_read_75 : decode cX8_read 75 = .ok (.goto (-63), 3) := dec_of t_X8_read_ok 40 rfl
theorem dX8_read_78 : decode cX8_read 78 = .ok (.return_, 1) := dec_of t_X8_read_ok 41 rfl
def t_X8_clear : List (Nat × Instr × Nat) := [(0, .aload_n 0, 1), (1, .getfield 20, 3), (4, .invokevirtual 79, 3), (7, .aload_n 0, 1), (8, .getfield 23, 3), (11, .invokevirtual 79, 3), (14, .aload_n 0, 1), (15, .getfield 26, 3), (18, .invokevirtual 79, 3), (21, .aload_n 0, 1), (22, .getfield 29, 3), (25, .invokevirtual 79, 3), (28, .aload_n 0, 1), (29, .getfield 32, 3), (32, .invokevirtual 79, 3), (35, .aload_n 0, 1), (36, .getfield 35, 3), (39, .invokevirtual 79, 3), (42, .aload_n 0, 1), (43, .getfield 38, 3), (46, .invokevirtual 79, 3), (49, .return_, 1)]
theorem t_X8_clear_ok : dec_ok cX8_clear t_X8_clear = true := by decide +kernel
theorem dX8_clear_0 : decode cX8_clear 0 = .ok (.aload_n 0, 1) := dec_of t_X8_clear_ok 0 rfl
theorem dX8_clear_1 : decode cX8_clear 1 = .ok (.getfield 20, 3) := dec_of t_X8_clear_ok 1 rfl
theorem dX8_clear_4 : decode cX8_clear 4 = .ok (.invokevirtual 79, 3) := dec_of t_X8_clear_ok 2 rfl
theorem dX8_clear_7 : decode cX8_clear 7 = .ok (.aload_n 0, 1) := dec_of t_X8_clear_ok 3 rfl
theorem dX8_clear_8 : decode cX8_clear 8 = .ok (.getfield 23, 3) := dec_of t_X8_clear_ok 4 rfl
theorem dX8_clear_11 : decode cX8_clear 11 = .ok (.invokevirtual 79, 3) := dec_of t_X8_clear_ok 5 rfl
theorem dX8_clear_14 : decode cX8_clear 14 = .ok (.aload_n 0, 1) := dec_of t_X8_clear_ok 6 rfl
theorem dX8_clear_15 : decode cX8_clear 15 = .ok (.getfield 26, 3) := dec_of t_X8_clear_ok 7 rfl
theorem dX8_clear_18 : decode cX8_clear 18 = .ok (.invokevirtual 79, 3) := dec_of t_X8_clear_ok 8 rfl
theorem dX8_clear_21 : decode cX8_clear 21 = .ok (.aload_n 0, 1) := dec_of t_X8_clear_ok 9 rfl
theorem dX8_clear_22 : decode cX8_clear 22 = .ok (.getfield 29, 3) := dec_of t_X8_clear_ok 10 rfl
theorem dX8_clear_25 : decode cX8_clear 25 = .ok (.invokevirtual 79, 3) := dec_of t_X8_clear_ok 11 rfl
theorem dX8_clear_28 : decode cX8_clear 28 = .ok (.aload_n 0, 1) := dec_of t_X8_clear_ok 12 rfl
theorem dX8_clear_29 : decode cX8_clear 29 = .ok (.getfield 32, 3) := dec_of t_X8_clear_ok 13 rfl
theorem dX8_clear_32 : decode cX8_clear 32 = .ok (.invokevirtual 79, 3) := dec_of t_X8_clear_ok 14 rfl
theorem dX8_clear_35 : decode cX8_clear 35 = .ok (.aload_n 0, 1) := dec_of t_X8_clear_ok 15 rfl
theorem dX8_clear_36 : decode cX8_clear 36 = .ok (.getfield 35, 3) := dec_of t_X8_clear_ok 16 rfl
theorem dX8_clear_39 : decode cX8_clear 39 = .ok (.invokevirtual 79, 3) := dec_of t_X8_clear_ok 17 rfl
theorem dX8_clear_42 : decode cX8_clear 42 = .ok (.aload_n 0, 1) := dec_of t_X8_clear_ok 18 rfl
theorem dX8_clear_43 : decode cX8_clear 43 = .ok (.getfield 38, 3) := dec_of t_X8_clear_ok 19 rfl
theorem dX8_clear_46 : decode cX8_clear 46 = .ok (.invokevirtual 79, 3) := dec_of t_X8_clear_ok 20 rfl
theorem dX8_clear_49 : decode cX8_clear 49 = .ok (.return_, 1) := dec_of t_X8_clear_ok 21 rfl
def t_X8_kindOf : List (Nat × Instr × Nat) := [(0, .iload_n 0, 1), (1, .invokestatic 80, 3), (4, .ifCond .eq 5, 3), (7, .iconst 1, 1), (8, .ireturn, 1), (9, .iload_n 0, 1), (10, .invokestatic 84, 3), (13, .ifCond .eq 7, 3), (16, .iconst 2, 1), (17, .goto 4, 3), (20, .iconst 0, 1), (21, .ireturn, 1)]
theorem t_X8_kindOf_ok : dec_ok cX8_kindOf t_X8_kindOf = true := by decide +kernel
theorem dX8_kindOf_0 : decode cX8_kindOf 0 = .ok (.iload_n 0, 1) := dec_of t_X8_kindOf_ok 0 rfl
theorem dX8_kindOf_1 : decode cX8_kindOf 1 = .ok (.invokestatic 80, 3) := dec_of t_X8_kindOf_ok 1 rfl
theorem dX8_kindOf_4 : decode cX8_kindOf 4 = .ok (.ifCond .eq 5, 3) := dec_of t_X8_kindOf_ok 2 rfl
theorem dX8_kindOf_7 : decode cX8_kindOf 7 = .ok (.iconst 1, 1) := dec_of t_X8_kindOf_ok 3 rfl
theorem dX8_kindOf_8 : decode cX8_kindOf 8 = .ok (.ireturn, 1) := dec_of t_X8_kindOf_ok 4 rfl
theorem dX8_kindOf_9 : decode cX8_kindOf 9 = .ok (.iload_n 0, 1) := dec_of t_X8_kindOf_ok 5 rfl
theorem dX8_kindOf_10 : decode cX8_kindOf 10 = .ok (.invokestatic 84, 3) := dec_of t_X8_kindOf_ok 6 rfl
theorem dX8_kindOf_13 : decode cX8_kindOf 13 = .ok (.ifCond .eq 7, 3) := dec_of t_X8_kindOf_ok 7 rfl
theorem dX8_kindOf_16 : decode cX8_kindOf 16 = .ok (.iconst 2, 1) := dec_of t_X8_kindOf_ok 8 rfl
theorem dX8_kindOf_17 : decode cX8_kindOf 17 = .ok (.goto 4, 3) := dec_of t_X8_kindOf_ok 9 rfl
theorem dX8_kindOf_20 : decode cX8_kindOf 20 = .ok (.iconst 0, 1) := dec_of t_X8_kindOf_ok 10 rfl
theorem dX8_kindOf_21 : decode cX8_kindOf 21 = .ok (.ireturn, 1) := dec_of t_X8_kindOf_ok 11 rfl
def t_X8_beginParagraph : List (Nat × Instr × Nat) := [(0, .aload_n 0, 1), (1, .iconst 0, 1), (2, .putfield 41, 3), (5, .aload_n 0, 1), (6, .iconst 1, 1), (7, .putfield 45, 3), (10, .aload_n 0, 1), (11, .iconst (-1), 1), (12, .putfield 48, 3), (15, .return_, 1)]
theorem t_X8_beginParagraph_ok : dec_ok cX8_beginParagraph t_X8_beginParagraph = true := by decide +kernel
theorem dX8_beginParagraph_0 : decode cX8_beginParagraph 0 = .ok (.aload_n 0, 1) := dec_of t_X8_beginParagraph_ok 0 rfl
theorem dX8_beginParagraph_1 : decode cX8_beginParagraph 1 = .ok (.iconst 0, 1) := dec_of t_X8_beginParagraph_ok 1 rfl
theorem dX8_beginParagraph_2 : decode cX8_beginParagraph 2 = .ok (.putfield 41, 3) := dec_of t_X8_beginParagraph_ok 2 rfl
theorem dX8_beginParagraph_5 : decode cX8_beginParagraph 5 = .ok (.aload_n 0, 1) := dec_of t_X8_beginParagraph_ok 3 rfl
theorem dX8_beginParagraph_6 : decode cX8_beginParagraph 6 = .ok (.iconst 1, 1) := dec_of t_X8_beginParagraph_ok 4 rfl
theorem dX8_beginParagraph_7 : decode cX8_beginParagraph 7 = .ok (.putfield 45, 3) := dec_of t_X8_beginParagraph_ok 5 rfl
theorem dX8_beginParagraph_10 : decode cX8_beginParagraph 10 = .ok (.aload_n 0, 1) := dec_of t_X8_beginParagraph_ok 6 rfl
theorem dX8_beginParagraph_11 : decode cX8_beginParagraph 11 = .ok (.iconst (-1), 1) := dec_of t_X8_beginParagraph_ok 7 rfl
theorem dX8_beginParagraph_12 : decode cX8_beginParagraph 12 = .ok (.putfield 48, 3) := dec_of t_X8_beginParagraph_ok 8 rfl
theorem dX8_beginParagraph_15 : decode cX8_beginParagraph 15 = .ok (.return_, 1) := dec_of t_X8_beginParagraph_ok 9 rfl
def t_X8_passSign : List (Nat × Instr × Nat) := [(0, .iload_n 1, 1), (1, .bipush 47, 2), (3, .if_icmp .ne 10, 3), (6, .aload_n 0, 1), (7, .invokevirtual 55, 3), (10, .goto 39, 3), (13, .iload_n 1, 1), (14, .bipush 46, 2), (16, .if_icmp .ne 11, 3), (19, .aload_n 0, 1), (20, .iconst 1, 1), (21, .putfield 45, 3), (24, .goto 25, 3), (27, .iload_n 1, 1), (28, .bipush 34, 2), (30, .if_icmp .ne 19, 3), (33, .aload_n 0, 1), (34, .aload_n 0, 1), (35, .getfield 41, 3), (38, .ifCond .ne 7, 3), (41, .iconst 1, 1), (42, .goto 4, 3), (45, .iconst 0, 1), (46, .putfield 41, 3), (49, .return_, 1)]
theorem t_X8_passSign_ok : dec_ok cX8_passSign t_X8_passSign = true := by decide +kernel
theorem dX8_passSign_0 : decode cX8_passSign 0 = .ok (.iload_n 1, 1) := dec_of t_X8_passSign_ok 0 rfl
theorem dX8_passSign_1 : decode cX8_passSign 1 = .ok (.bipush 47, 2) := dec_of t_X8_passSign_ok 1 rfl
theorem dX8_passSign_3 : decode cX8_passSign 3 = .ok (.if_icmp .ne 10, 3) := dec_of t_X8_passSign_ok 2 rfl
theorem dX8_passSign_6 : decode cX8_passSign 6 = .ok (.aload_n 0, 1) := dec_of t_X8_passSign_ok 3 rfl
theorem dX8_passSign_7 : decode cX8_passSign 7 = .ok (.invokevirtual 55, 3) := dec_of t_X8_passSign_ok 4 rfl
theorem dX8_passSign_10 : decode cX8_passSign 10 = .ok (.goto 39, 3) := dec_of t_X8_passSign_ok 5 rfl
theorem dX8_passSign_13 : decode cX8_passSign 13 = .ok (.iload_n 1, 1) := dec_of t_X8_passSign_ok 6 rfl
theorem dX8_passSign_14 : decode cX8_passSign 14 = .ok (.bipush 46, 2) := dec_of t_X8_passSign_ok 7 rfl
theorem dX8_passSign_16 : decode cX8_passSign 16 = .ok (.if_icmp .ne 11, 3) := dec_of t_X8_passSign_ok 8 rfl
theorem dX8_passSign_19 : decode cX8_passSign 19 = .ok (.aload_n 0, 1) := dec_of t_X8_passSign_ok 9 rfl
theorem dX8_passSign_20 : decode cX8_passSign 20 = .ok (.iconst 1, 1) := dec_of t_X8_passSign_ok 10 rfl
theorem dX8_passSign_21 : decode cX8_passSign 21 = .ok (.putfield 45, 3) := dec_of t_X8_passSign_ok 11 rfl
theorem dX8_passSign_24 : decode cX8_passSign 24 = .ok (.goto 25, 3) := dec_of t_X8_passSign_ok 12 rfl
theorem dX8_passSign_27 : decode cX8_passSign 27 = .ok (.iload_n 1, 1) := dec_of t_X8_passSign_ok 13 rfl
theorem dX8_passSign_28 : decode cX8_passSign 28 = .ok (.bipush 34, 2) := dec_of t_X8_passSign_ok 14 rfl
theorem dX8_passSign_30 : decode cX8_passSign 30 = .ok (.if_icmp .ne 19, 3) := dec_of t_X8_passSign_ok 15 rfl
theorem dX8_passSign_33 : decode cX8_passSign 33 = .ok (.aload_n 0, 1) := dec_of t_X8_passSign_ok 16 rfl
theorem dX8_passSign_34 : decode cX8_passSign 34 = .ok (.aload_n 0, 1) := dec_of t_X8_passSign_ok 17 rfl
theorem dX8_passSign_35 : decode cX8_passSign 35 = .ok (.getfield 41, 3) := dec_of t_X8_passSign_ok 18 rfl
theorem dX8_passSign_38 : decode cX8_passSign 38 = .ok (.ifCond .ne 7, 3) := dec_of t_X8_passSign_ok 19 rfl
theorem dX8_passSign_41 : decode cX8_passSign 41 = .ok (.iconst 1, 1) := dec_of t_X8_passSign_ok 20 rfl
theorem dX8_passSign_42 : decode cX8_passSign 42 = .ok (.goto 4, 3) := dec_of t_X8_passSign_ok 21 rfl
theorem dX8_passSign_45 : decode cX8_passSign 45 = .ok (.iconst 0, 1) := dec_of t_X8_passSign_ok 22 rfl
theorem dX8_passSign_46 : decode cX8_passSign 46 = .ok (.putfield 41, 3) := dec_of t_X8_passSign_ok 23 rfl
theorem dX8_passSign_49 : decode cX8_passSign 49 = .ok (.return_, 1) := dec_of t_X8_passSign_ok 24 rfl
def t_X8_beginToken : List (Nat × Instr × Nat) := [(0, .aload_n 0, 1), (1, .getfield 20, 3), (4, .iload_n 1, 1), (5, .invokevirtual 87, 3), (8, .aload_n 0, 1), (9, .getfield 23, 3), (12, .iload_n 1, 1), (13, .invokevirtual 87, 3), (16, .aload_n 0, 1), (17, .getfield 26, 3), (20, .iload_n 2, 1), (21, .invokevirtual 87, 3), (24, .aload_n 0, 1), (25, .getfield 29, 3), (28, .iconst 0, 1), (29, .invokevirtual 87, 3), (32, .aload_n 0, 1), (33, .getfield 32, 3), (36, .aload_n 0, 1), (37, .getfield 41, 3), (40, .ifCond .eq 7, 3), (43, .iconst 1, 1), (44, .goto 4, 3), (47, .iconst 0, 1), (48, .invokevirtual 87, 3), (51, .aload_n 0, 1), (52, .getfield 35, 3), (55, .aload_n 0, 1), (56, .getfield 45, 3), (59, .ifCond .eq 7, 3), (62, .iconst 1, 1), (63, .goto 4, 3), (66, .iconst 0, 1), (67, .invokevirtual 87, 3), (70, .aload_n 0, 1), (71, .getfield 38, 3), (74, .aload_n 0, 1), (75, .getfield 48, 3), (78, .invokevirtual 87, 3), (81, .aload_n 0, 1), (82, .iconst 0, 1), (83, .putfield 45, 3), (86, .aload_n 0, 1), (87, .aload_n 0, 1), (88, .invokevirtual 90, 3), (91, .iconst 1, 1), (92, .isub, 1), (93, .putfield 48, 3), (96, .return_, 1)]
theorem t_X8_beginToken_ok : dec_ok cX8_beginToken t_X8_beginToken = true := by decide +kernel
theorem dX8_beginToken_0 : decode cX8_beginToken 0 = .ok (.aload_n 0, 1) := dec_of t_X8_beginToken_ok 0 rfl
theorem dX8_beginToken_1 : decode cX8_beginToken 1 = .ok (.getfield 20, 3) := dec_of t_X8_beginToken_ok 1 rfl
theorem dX8_beginToken_4 : decode cX8_beginToken 4 = .ok (.iload_n 1, 1) := dec_of t_X8_beginToken_ok 2 rfl
theorem dX8_beginToken_5 : decode cX8_beginToken 5 = .ok (.invokevirtual 87, 3) := dec_of t_X8_beginToken_ok 3 rfl
theorem dX8_beginToken_8 : decode cX8_beginToken 8 = .ok (.aload_n 0, 1) := dec_of t_X8_beginToken_ok 4 rfl
theorem dX8_beginToken_9 : decode cX8_beginToken 9 = .ok (.getfield 23, 3) := dec_of t_X8_beginToken_ok 5 rfl
theorem dX8_beginToken_12 : decode cX8_beginToken 12 = .ok (.iload_n 1, 1) := dec_of t_X8_beginToken_ok 6 rfl
theorem dX8_beginToken_13 : decode cX8_beginToken 13 = .ok (.invokevirtual 87, 3) := dec_of t_X8_beginToken_ok 7 rfl
theorem dX8_beginToken_16 : decode cX8_beginToken 16 = .ok (.aload_n 0, 1) := dec_of t_X8_beginToken_ok 8 rfl
theorem dX8_beginToken_17 : decode cX8_beginToken 17 = .ok (.getfield 26, 3) := dec_of t_X8_beginToken_ok 9 rfl
theorem dX8_beginToken_20 : decode cX8_beginToken 20 = .ok (.iload_n 2, 1) := dec_of t_X8_beginToken_ok 10 rfl
theorem dX8_beginToken_21 : decode cX8_beginToken 21 = .ok (.invokevirtual 87, 3) := dec_of t_X8_beginToken_ok 11 rfl
theorem dX8_beginToken_24 : decode cX8_beginToken 24 = .ok (.aload_n 0, 1) := dec_of t_X8_beginToken_ok 12 rfl
theorem dX8_beginToken_25 : decode cX8_beginToken 25 = .ok (.getfield 29, 3) := dec_of t_X8_beginToken_ok 13 rfl
theorem dX8_beginToken_28 : decode cX8_beginToken 28 = .ok (.iconst 0, 1) := dec_of t_X8_beginToken_ok 14 rfl
theorem dX8_beginToken_29 : decode cX8_beginToken 29 = .ok (.invokevirtual 87, 3) := dec_of t_X8_beginToken_ok 15 rfl
theorem dX8_beginToken_32 : decode cX8_beginToken 32 = .ok (.aload_n 0, 1) := dec_of t_X8_beginToken_ok 16 rfl
theorem dX8_beginToken_33 : decode cX8_beginToken 33 = .ok (.getfield 32, 3) := dec_of t_X8_beginToken_ok 17 rfl
theorem dX8_beginToken_36 : decode cX8_beginToken 36 = .ok (.aload_n 0, 1) := dec_of t_X8_beginToken_ok 18 rfl
theorem dX8_beginToken_37 : decode cX8_beginToken 37 = .ok (.getfield 41, 3) := dec_of t_X8_beginToken_ok 19 rfl
theorem dX8_beginToken_40 : decode cX8_beginToken 40 = .ok (.ifCond .eq 7, 3) := dec_of t_X8_beginToken_ok 20 rfl
theorem dX8_beginToken_43 : decode cX8_beginToken 43 = .ok (.iconst 1, 1) := dec_of t_X8_beginToken_ok 21 rfl
theorem dX8_beginToken_44 : decode cX8_beginToken 44 = .ok (.goto 4, 3) := dec_of t_X8_beginToken_ok 22 rfl
theorem dX8_beginToken_47 : decode cX8_beginToken 47 = .ok (.iconst 0, 1) := dec_of t_X8_beginToken_ok 23 rfl
theorem dX8_beginToken_48 : decode cX8_beginToken 48 = .ok (.invokevirtual 87, 3) := dec_of t_X8_beginToken_ok 24 rfl
theorem dX8_beginToken_51 : decode cX8_beginToken 51 = .ok (.aload_n 0, 1) := dec_of t_X8_beginToken_ok 25 rfl
theorem dX8_beginToken_52 : decode cX8_beginToken 52 = .ok (.getfield 35, 3) := dec_of t_X8_beginToken_ok 26 rfl
theorem dX8_beginToken_55 : decode cX8_beginToken 55 = .ok (.aload_n 0, 1) := dec_of t_X8_beginToken_ok 27 rfl
theorem dX8_beginToken_56 : decode cX8_beginToken 56 = .ok (.getfield 45, 3) := dec_of t_X8_beginToken_ok 28 rfl
theorem dX8_beginToken_59 : decode cX8_beginToken 59 = .ok (.ifCond .eq 7, 3) := dec_of t_X8_beginToken_ok 29 rfl
theorem dX8_beginToken_62 : decode cX8_beginToken 62 = .ok (.iconst 1, 1) := dec_of t_X8_beginToken_ok 30 rfl
theorem dX8_beginToken_63 : decode cX8_beginToken 63 = .ok (.goto 4, 3) := dec_of t_X8_beginToken_ok 31 rfl
theorem dX8_beginToken_66 : decode cX8_beginToken 66 = .ok (.iconst 0, 1) := dec_of t_X8_beginToken_ok 32 rfl
theorem dX8_beginToken_67 : decode cX8_beginToken 67 = .ok (.invokevirtual 87, 3) := dec_of t_X8_beginToken_ok 33 rfl
theorem dX8_beginToken_70 : decode cX8_beginToken 70 = .ok (.aload_n 0, 1) := dec_of t_X8_beginToken_ok 34 rfl
theorem dX8_beginToken_71 : decode cX8_beginToken 71 = .ok (.getfield 38, 3) := dec_of t_X8_beginToken_ok 35 rfl
theorem dX8_beginToken_74 : decode cX8_beginToken 74 = .ok (.aload_n 0, 1) := dec_of t_X8_beginToken_ok 36 rfl
theorem dX8_beginToken_75 : decode cX8_beginToken 75 = .ok (.getfield 48, 3) := dec_of t_X8_beginToken_ok 37 rfl
theorem dX8_beginToken_78 : decode cX8_beginToken 78 = .ok (.invokevirtual 87, 3) := dec_of t_X8_beginToken_ok 38 rfl
theorem dX8_beginToken_81 : decode cX8_beginToken 81 = .ok (.aload_n 0, 1) := dec_of t_X8_beginToken_ok 39 rfl
theorem dX8_beginToken_82 : decode cX8_beginToken 82 = .ok (.iconst 0, 1) := dec_of t_X8_beginToken_ok 40 rfl
theorem dX8_beginToken_83 : decode cX8_beginToken 83 = .ok (.putfield 45, 3) := dec_of t_X8_beginToken_ok 41 rfl
theorem dX8_beginToken_86 : decode cX8_beginToken 86 = .ok (.aload_n 0, 1) := dec_of t_X8_beginToken_ok 42 rfl
theorem dX8_beginToken_87 : decode cX8_beginToken 87 = .ok (.aload_n 0, 1) := dec_of t_X8_beginToken_ok 43 rfl
theorem dX8_beginToken_88 : decode cX8_beginToken 88 = .ok (.invokevirtual 90, 3) := dec_of t_X8_beginToken_ok 44 rfl
theorem dX8_beginToken_91 : decode cX8_beginToken 91 = .ok (.iconst 1, 1) := dec_of t_X8_beginToken_ok 45 rfl
theorem dX8_beginToken_92 : decode cX8_beginToken 92 = .ok (.isub, 1) := dec_of t_X8_beginToken_ok 46 rfl
theorem dX8_beginToken_93 : decode cX8_beginToken 93 = .ok (.putfield 48, 3) := dec_of t_X8_beginToken_ok 47 rfl
theorem dX8_beginToken_96 : decode cX8_beginToken 96 = .ok (.return_, 1) := dec_of t_X8_beginToken_ok 48 rfl
def t_X8_lengthen : List (Nat × Instr × Nat) := [(0, .aload_n 0, 1), (1, .getfield 23, 3), (4, .aload_n 0, 1), (5, .getfield 48, 3), (8, .aload_n 0, 1), (9, .getfield 23, 3), (12, .aload_n 0, 1), (13, .getfield 48, 3), (16, .invokevirtual 62, 3), (19, .iconst 1, 1), (20, .iadd, 1), (21, .invokevirtual 91, 3), (24, .aload_n 0, 1), (25, .getfield 29, 3), (28, .aload_n 0, 1), (29, .getfield 48, 3), (32, .invokevirtual 62, 3), (35, .bipush 10, 2), (37, .imul, 1), (38, .iload_n 1, 1), (39, .bipush 48, 2), (41, .isub, 1), (42, .iadd, 1), (43, .istore_n 2, 1), (44, .aload_n 0, 1), (45, .getfield 29, 3), (48, .aload_n 0, 1), (49, .getfield 48, 3), (52, .iload_n 1, 1), (53, .invokestatic 84, 3), (56, .ifCond .eq 12, 3), (59, .iload_n 2, 1), (60, .bipush 100, 2), (62, .invokestatic 94, 3), (65, .goto 4, 3), (68, .iconst 0, 1), (69, .invokevirtual 91, 3), (72, .return_, 1)]
theorem t_X8_lengthen_ok : dec_ok cX8_lengthen t_X8_lengthen = true := by decide +kernel
theorem dX8_lengthen_0 : decode cX8_lengthen 0 = .ok (.aload_n 0, 1) := dec_of t_X8_lengthen_ok 0 rfl
theorem dX8_lengthen_1 : decode cX8_lengthen 1 = .ok (.getfield 23, 3) := dec_of t_X8_lengthen_ok 1 rfl
theorem dX8_lengthen_4 : decode cX8_lengthen 4 = .ok (.aload_n 0, 1) := dec_of t_X8_lengthen_ok 2 rfl
theorem dX8_lengthen_5 : decode cX8_lengthen 5 = .ok (.getfield 48, 3) := dec_of t_X8_lengthen_ok 3 rfl
theorem dX8_lengthen_8 : decode cX8_lengthen 8 = .ok (.aload_n 0, 1) := dec_of t_X8_lengthen_ok 4 rfl
theorem dX8_lengthen_9 : decode cX8_lengthen 9 = .ok (.getfield 23, 3) := dec_of t_X8_lengthen_ok 5 rfl
theorem dX8_lengthen_12 : decode cX8_lengthen 12 = .ok (.aload_n 0, 1) := dec_of t_X8_lengthen_ok 6 rfl
theorem dX8_lengthen_13 : decode cX8_lengthen 13 = .ok (.getfield 48, 3) := dec_of t_X8_lengthen_ok 7 rfl
theorem dX8_lengthen_16 : decode cX8_lengthen 16 = .ok (.invokevirtual 62, 3) := dec_of t_X8_lengthen_ok 8 rfl
theorem dX8_lengthen_19 : decode cX8_lengthen 19 = .ok (.iconst 1, 1) := dec_of t_X8_lengthen_ok 9 rfl
theorem dX8_lengthen_20 : decode cX8_lengthen 20 = .ok (.iadd, 1) := dec_of t_X8_lengthen_ok 10 rfl
theorem dX8_lengthen_21 : decode cX8_lengthen 21 = .ok (.invokevirtual 91, 3) := dec_of t_X8_lengthen_ok 11 rfl
theorem dX8_lengthen_24 : decode cX8_lengthen 24 = .ok (.aload_n 0, 1) := dec_of t_X8_lengthen_ok 12 rfl
theorem dX8_lengthen_25 : decode cX8_lengthen 25 = .ok (.getfield 29, 3) := dec_of t_X8_lengthen_ok 13 rfl
theorem dX8_lengthen_28 : decode cX8_lengthen 28 = .ok (.aload_n 0, 1) := dec_of t_X8_lengthen_ok 14 rfl
theorem dX8_lengthen_29 : decode cX8_lengthen 29 = .ok (.getfield 48, 3) := dec_of t_X8_lengthen_ok 15 rfl
theorem dX8_lengthen_32 : decode cX8_lengthen 32 = .ok (.invokevirtual 62, 3) := dec_of t_X8_lengthen_ok 16 rfl
theorem dX8_lengthen_35 : decode cX8_lengthen 35 = .ok (.bipush 10, 2) := dec_of t_X8_lengthen_ok 17 rfl
theorem dX8_lengthen_37 : decode cX8_lengthen 37 = .ok (.imul, 1) := dec_of t_X8_lengthen_ok 18 rfl
theorem dX8_lengthen_38 : decode cX8_lengthen 38 = .ok (.iload_n 1, 1) := dec_of t_X8_lengthen_ok 19 rfl
theorem dX8_lengthen_39 : decode cX8_lengthen 39 = .ok (.bipush 48, 2) := dec_of t_X8_lengthen_ok 20 rfl
theorem dX8_lengthen_41 : decode cX8_lengthen 41 = .ok (.isub, 1) := dec_of t_X8_lengthen_ok 21 rfl
theorem dX8_lengthen_42 : decode cX8_lengthen 42 = .ok (.iadd, 1) := dec_of t_X8_lengthen_ok 22 rfl
theorem dX8_lengthen_43 : decode cX8_lengthen 43 = .ok (.istore_n 2, 1) := dec_of t_X8_lengthen_ok 23 rfl
theorem dX8_lengthen_44 : decode cX8_lengthen 44 = .ok (.aload_n 0, 1) := dec_of t_X8_lengthen_ok 24 rfl
theorem dX8_lengthen_45 : decode cX8_lengthen 45 = .ok (.getfield 29, 3) := dec_of t_X8_lengthen_ok 25 rfl
theorem dX8_lengthen_48 : decode cX8_lengthen 48 = .ok (.aload_n 0, 1) := dec_of t_X8_lengthen_ok 26 rfl
theorem dX8_lengthen_49 : decode cX8_lengthen 49 = .ok (.getfield 48, 3) := dec_of t_X8_lengthen_ok 27 rfl
theorem dX8_lengthen_52 : decode cX8_lengthen 52 = .ok (.iload_n 1, 1) := dec_of t_X8_lengthen_ok 28 rfl
theorem dX8_lengthen_53 : decode cX8_lengthen 53 = .ok (.invokestatic 84, 3) := dec_of t_X8_lengthen_ok 29 rfl
theorem dX8_lengthen_56 : decode cX8_lengthen 56 = .ok (.ifCond .eq 12, 3) := dec_of t_X8_lengthen_ok 30 rfl
theorem dX8_lengthen_59 : decode cX8_lengthen 59 = .ok (.iload_n 2, 1) := dec_of t_X8_lengthen_ok 31 rfl
theorem dX8_lengthen_60 : decode cX8_lengthen 60 = .ok (.bipush 100, 2) := dec_of t_X8_lengthen_ok 32 rfl
theorem dX8_lengthen_62 : decode cX8_lengthen 62 = .ok (.invokestatic 94, 3) := dec_of t_X8_lengthen_ok 33 rfl
theorem dX8_lengthen_65 : decode cX8_lengthen 65 = .ok (.goto 4, 3) := dec_of t_X8_lengthen_ok 34 rfl
theorem dX8_lengthen_68 : decode cX8_lengthen 68 = .ok (.iconst 0, 1) := dec_of t_X8_lengthen_ok 35 rfl
theorem dX8_lengthen_69 : decode cX8_lengthen 69 = .ok (.invokevirtual 91, 3) := dec_of t_X8_lengthen_ok 36 rfl
theorem dX8_lengthen_72 : decode cX8_lengthen 72 = .ok (.return_, 1) := dec_of t_X8_lengthen_ok 37 rfl
def t_X8_count : List (Nat × Instr × Nat) := [(0, .aload_n 0, 1), (1, .getfield 20, 3), (4, .invokevirtual 58, 3), (7, .ireturn, 1)]
theorem t_X8_count_ok : dec_ok cX8_count t_X8_count = true := by decide +kernel
theorem dX8_count_0 : decode cX8_count 0 = .ok (.aload_n 0, 1) := dec_of t_X8_count_ok 0 rfl
theorem dX8_count_1 : decode cX8_count 1 = .ok (.getfield 20, 3) := dec_of t_X8_count_ok 1 rfl
theorem dX8_count_4 : decode cX8_count 4 = .ok (.invokevirtual 58, 3) := dec_of t_X8_count_ok 2 rfl
theorem dX8_count_7 : decode cX8_count 7 = .ok (.ireturn, 1) := dec_of t_X8_count_ok 3 rfl
def t_X8_fromOf : List (Nat × Instr × Nat) := [(0, .aload_n 0, 1), (1, .getfield 20, 3), (4, .iload_n 1, 1), (5, .invokevirtual 62, 3), (8, .ireturn, 1)]
theorem t_X8_fromOf_ok : dec_ok cX8_fromOf t_X8_fromOf = true := by decide +kernel
theorem dX8_fromOf_0 : decode cX8_fromOf 0 = .ok (.aload_n 0, 1) := dec_of t_X8_fromOf_ok 0 rfl
theorem dX8_fromOf_1 : decode cX8_fromOf 1 = .ok (.getfield 20, 3) := dec_of t_X8_fromOf_ok 1 rfl
theorem dX8_fromOf_4 : decode cX8_fromOf 4 = .ok (.iload_n 1, 1) := dec_of t_X8_fromOf_ok 2 rfl
theorem dX8_fromOf_5 : decode cX8_fromOf 5 = .ok (.invokevirtual 62, 3) := dec_of t_X8_fromOf_ok 3 rfl
theorem dX8_fromOf_8 : decode cX8_fromOf 8 = .ok (.ireturn, 1) := dec_of t_X8_fromOf_ok 4 rfl
def t_X8_endOf : List (Nat × Instr × Nat) := [(0, .aload_n 0, 1), (1, .getfield 23, 3), (4, .iload_n 1, 1), (5, .invokevirtual 62, 3), (8, .ireturn, 1)]
theorem t_X8_endOf_ok : dec_ok cX8_endOf t_X8_endOf = true := by decide +kernel
theorem dX8_endOf_0 : decode cX8_endOf 0 = .ok (.aload_n 0, 1) := dec_of t_X8_endOf_ok 0 rfl
theorem dX8_endOf_1 : decode cX8_endOf 1 = .ok (.getfield 23, 3) := dec_of t_X8_endOf_ok 1 rfl
theorem dX8_endOf_4 : decode cX8_endOf 4 = .ok (.iload_n 1, 1) := dec_of t_X8_endOf_ok 2 rfl
theorem dX8_endOf_5 : decode cX8_endOf 5 = .ok (.invokevirtual 62, 3) := dec_of t_X8_endOf_ok 3 rfl
theorem dX8_endOf_8 : decode cX8_endOf 8 = .ok (.ireturn, 1) := dec_of t_X8_endOf_ok 4 rfl
def t_X8_lengthOf : List (Nat × Instr × Nat) := [(0, .aload_n 0, 1), (1, .getfield 23, 3), (4, .iload_n 1, 1), (5, .invokevirtual 62, 3), (8, .aload_n 0, 1), (9, .getfield 20, 3), (12, .iload_n 1, 1), (13, .invokevirtual 62, 3), (16, .isub, 1), (17, .ireturn, 1)]
theorem t_X8_lengthOf_ok : dec_ok cX8_lengthOf t_X8_lengthOf = true := by decide +kernel
theorem dX8_lengthOf_0 : decode cX8_lengthOf 0 = .ok (.aload_n 0, 1) := dec_of t_X8_lengthOf_ok 0 rfl
theorem dX8_lengthOf_1 : decode cX8_lengthOf 1 = .ok (.getfield 23, 3) := dec_of t_X8_lengthOf_ok 1 rfl
theorem dX8_lengthOf_4 : decode cX8_lengthOf 4 = .ok (.iload_n 1, 1) := dec_of t_X8_lengthOf_ok 2 rfl
theorem dX8_lengthOf_5 : decode cX8_lengthOf 5 = .ok (.invokevirtual 62, 3) := dec_of t_X8_lengthOf_ok 3 rfl
theorem dX8_lengthOf_8 : decode cX8_lengthOf 8 = .ok (.aload_n 0, 1) := dec_of t_X8_lengthOf_ok 4 rfl
theorem dX8_lengthOf_9 : decode cX8_lengthOf 9 = .ok (.getfield 20, 3) := dec_of t_X8_lengthOf_ok 5 rfl
theorem dX8_lengthOf_12 : decode cX8_lengthOf 12 = .ok (.iload_n 1, 1) := dec_of t_X8_lengthOf_ok 6 rfl
theorem dX8_lengthOf_13 : decode cX8_lengthOf 13 = .ok (.invokevirtual 62, 3) := dec_of t_X8_lengthOf_ok 7 rfl
theorem dX8_lengthOf_16 : decode cX8_lengthOf 16 = .ok (.isub, 1) := dec_of t_X8_lengthOf_ok 8 rfl
theorem dX8_lengthOf_17 : decode cX8_lengthOf 17 = .ok (.ireturn, 1) := dec_of t_X8_lengthOf_ok 9 rfl
def t_X8_isWord : List (Nat × Instr × Nat) := [(0, .aload_n 0, 1), (1, .getfield 26, 3), (4, .iload_n 1, 1), (5, .invokevirtual 62, 3), (8, .iconst 1, 1), (9, .if_icmp .ne 7, 3), (12, .iconst 1, 1), (13, .goto 4, 3), (16, .iconst 0, 1), (17, .ireturn, 1)]
theorem t_X8_isWord_ok : dec_ok cX8_isWord t_X8_isWord = true := by decide +kernel
theorem dX8_isWord_0 : decode cX8_isWord 0 = .ok (.aload_n 0, 1) := dec_of t_X8_isWord_ok 0 rfl
theorem dX8_isWord_1 : decode cX8_isWord 1 = .ok (.getfield 26, 3) := dec_of t_X8_isWord_ok 1 rfl
theorem dX8_isWord_4 : decode cX8_isWord 4 = .ok (.iload_n 1, 1) := dec_of t_X8_isWord_ok 2 rfl
theorem dX8_isWord_5 : decode cX8_isWord 5 = .ok (.invokevirtual 62, 3) := dec_of t_X8_isWord_ok 3 rfl
theorem dX8_isWord_8 : decode cX8_isWord 8 = .ok (.iconst 1, 1) := dec_of t_X8_isWord_ok 4 rfl
theorem dX8_isWord_9 : decode cX8_isWord 9 = .ok (.if_icmp .ne 7, 3) := dec_of t_X8_isWord_ok 5 rfl
theorem dX8_isWord_12 : decode cX8_isWord 12 = .ok (.iconst 1, 1) := dec_of t_X8_isWord_ok 6 rfl
theorem dX8_isWord_13 : decode cX8_isWord 13 = .ok (.goto 4, 3) := dec_of t_X8_isWord_ok 7 rfl
theorem dX8_isWord_16 : decode cX8_isWord 16 = .ok (.iconst 0, 1) := dec_of t_X8_isWord_ok 8 rfl
theorem dX8_isWord_17 : decode cX8_isWord 17 = .ok (.ireturn, 1) := dec_of t_X8_isWord_ok 9 rfl
def t_X8_isNumber : List (Nat × Instr × Nat) := [(0, .aload_n 0, 1), (1, .getfield 26, 3), (4, .iload_n 1, 1), (5, .invokevirtual 62, 3), (8, .iconst 2, 1), (9, .if_icmp .ne 7, 3), (12, .iconst 1, 1), (13, .goto 4, 3), (16, .iconst 0, 1), (17, .ireturn, 1)]
theorem t_X8_isNumber_ok : dec_ok cX8_isNumber t_X8_isNumber = true := by decide +kernel
theorem dX8_isNumber_0 : decode cX8_isNumber 0 = .ok (.aload_n 0, 1) := dec_of t_X8_isNumber_ok 0 rfl
theorem dX8_isNumber_1 : decode cX8_isNumber 1 = .ok (.getfield 26, 3) := dec_of t_X8_isNumber_ok 1 rfl
theorem dX8_isNumber_4 : decode cX8_isNumber 4 = .ok (.iload_n 1, 1) := dec_of t_X8_isNumber_ok 2 rfl
theorem dX8_isNumber_5 : decode cX8_isNumber 5 = .ok (.invokevirtual 62, 3) := dec_of t_X8_isNumber_ok 3 rfl
theorem dX8_isNumber_8 : decode cX8_isNumber 8 = .ok (.iconst 2, 1) := dec_of t_X8_isNumber_ok 4 rfl
theorem dX8_isNumber_9 : decode cX8_isNumber 9 = .ok (.if_icmp .ne 7, 3) := dec_of t_X8_isNumber_ok 5 rfl
theorem dX8_isNumber_12 : decode cX8_isNumber 12 = .ok (.iconst 1, 1) := dec_of t_X8_isNumber_ok 6 rfl
theorem dX8_isNumber_13 : decode cX8_isNumber 13 = .ok (.goto 4, 3) := dec_of t_X8_isNumber_ok 7 rfl
theorem dX8_isNumber_16 : decode cX8_isNumber 16 = .ok (.iconst 0, 1) := dec_of t_X8_isNumber_ok 8 rfl
theorem dX8_isNumber_17 : decode cX8_isNumber 17 = .ok (.ireturn, 1) := dec_of t_X8_isNumber_ok 9 rfl
def t_X8_valueOf : List (Nat × Instr × Nat) := [(0, .aload_n 0, 1), (1, .getfield 29, 3), (4, .iload_n 1, 1), (5, .invokevirtual 62, 3), (8, .ireturn, 1)]
theorem t_X8_valueOf_ok : dec_ok cX8_valueOf t_X8_valueOf = true := by decide +kernel
theorem dX8_valueOf_0 : decode cX8_valueOf 0 = .ok (.aload_n 0, 1) := dec_of t_X8_valueOf_ok 0 rfl
theorem dX8_valueOf_1 : decode cX8_valueOf 1 = .ok (.getfield 29, 3) := dec_of t_X8_valueOf_ok 1 rfl
theorem dX8_valueOf_4 : decode cX8_valueOf 4 = .ok (.iload_n 1, 1) := dec_of t_X8_valueOf_ok 2 rfl
theorem dX8_valueOf_5 : decode cX8_valueOf 5 = .ok (.invokevirtual 62, 3) := dec_of t_X8_valueOf_ok 3 rfl
theorem dX8_valueOf_8 : decode cX8_valueOf 8 = .ok (.ireturn, 1) := dec_of t_X8_valueOf_ok 4 rfl
def t_X8_isQuoted : List (Nat × Instr × Nat) := [(0, .aload_n 0, 1), (1, .getfield 32, 3), (4, .iload_n 1, 1), (5, .invokevirtual 62, 3), (8, .iconst 1, 1), (9, .if_icmp .ne 7, 3), (12, .iconst 1, 1), (13, .goto 4, 3), (16, .iconst 0, 1), (17, .ireturn, 1)]
theorem t_X8_isQuoted_ok : dec_ok cX8_isQuoted t_X8_isQuoted = true := by decide +kernel
theorem dX8_isQuoted_0 : decode cX8_isQuoted 0 = .ok (.aload_n 0, 1) := dec_of t_X8_isQuoted_ok 0 rfl
theorem dX8_isQuoted_1 : decode cX8_isQuoted 1 = .ok (.getfield 32, 3) := dec_of t_X8_isQuoted_ok 1 rfl
theorem dX8_isQuoted_4 : decode cX8_isQuoted 4 = .ok (.iload_n 1, 1) := dec_of t_X8_isQuoted_ok 2 rfl
theorem dX8_isQuoted_5 : decode cX8_isQuoted 5 = .ok (.invokevirtual 62, 3) := dec_of t_X8_isQuoted_ok 3 rfl
theorem dX8_isQuoted_8 : decode cX8_isQuoted 8 = .ok (.iconst 1, 1) := dec_of t_X8_isQuoted_ok 4 rfl
theorem dX8_isQuoted_9 : decode cX8_isQuoted 9 = .ok (.if_icmp .ne 7, 3) := dec_of t_X8_isQuoted_ok 5 rfl
theorem dX8_isQuoted_12 : decode cX8_isQuoted 12 = .ok (.iconst 1, 1) := dec_of t_X8_isQuoted_ok 6 rfl
theorem dX8_isQuoted_13 : decode cX8_isQuoted 13 = .ok (.goto 4, 3) := dec_of t_X8_isQuoted_ok 7 rfl
theorem dX8_isQuoted_16 : decode cX8_isQuoted 16 = .ok (.iconst 0, 1) := dec_of t_X8_isQuoted_ok 8 rfl
theorem dX8_isQuoted_17 : decode cX8_isQuoted 17 = .ok (.ireturn, 1) := dec_of t_X8_isQuoted_ok 9 rfl
def t_X8_isFirst : List (Nat × Instr × Nat) := [(0, .aload_n 0, 1), (1, .getfield 35, 3), (4, .iload_n 1, 1), (5, .invokevirtual 62, 3), (8, .iconst 1, 1), (9, .if_icmp .ne 7, 3), (12, .iconst 1, 1), (13, .goto 4, 3), (16, .iconst 0, 1), (17, .ireturn, 1)]
theorem t_X8_isFirst_ok : dec_ok cX8_isFirst t_X8_isFirst = true := by decide +kernel
theorem dX8_isFirst_0 : decode cX8_isFirst 0 = .ok (.aload_n 0, 1) := dec_of t_X8_isFirst_ok 0 rfl
theorem dX8_isFirst_1 : decode cX8_isFirst 1 = .ok (.getfield 35, 3) := dec_of t_X8_isFirst_ok 1 rfl
theorem dX8_isFirst_4 : decode cX8_isFirst 4 = .ok (.iload_n 1, 1) := dec_of t_X8_isFirst_ok 2 rfl
theorem dX8_isFirst_5 : decode cX8_isFirst 5 = .ok (.invokevirtual 62, 3) := dec_of t_X8_isFirst_ok 3 rfl
theorem dX8_isFirst_8 : decode cX8_isFirst 8 = .ok (.iconst 1, 1) := dec_of t_X8_isFirst_ok 4 rfl
theorem dX8_isFirst_9 : decode cX8_isFirst 9 = .ok (.if_icmp .ne 7, 3) := dec_of t_X8_isFirst_ok 5 rfl
theorem dX8_isFirst_12 : decode cX8_isFirst 12 = .ok (.iconst 1, 1) := dec_of t_X8_isFirst_ok 6 rfl
theorem dX8_isFirst_13 : decode cX8_isFirst 13 = .ok (.goto 4, 3) := dec_of t_X8_isFirst_ok 7 rfl
theorem dX8_isFirst_16 : decode cX8_isFirst 16 = .ok (.iconst 0, 1) := dec_of t_X8_isFirst_ok 8 rfl
theorem dX8_isFirst_17 : decode cX8_isFirst 17 = .ok (.ireturn, 1) := dec_of t_X8_isFirst_ok 9 rfl
def t_X8_aheadOf : List (Nat × Instr × Nat) := [(0, .aload_n 0, 1), (1, .getfield 38, 3), (4, .iload_n 1, 1), (5, .invokevirtual 62, 3), (8, .ireturn, 1)]
theorem t_X8_aheadOf_ok : dec_ok cX8_aheadOf t_X8_aheadOf = true := by decide +kernel
theorem dX8_aheadOf_0 : decode cX8_aheadOf 0 = .ok (.aload_n 0, 1) := dec_of t_X8_aheadOf_ok 0 rfl
theorem dX8_aheadOf_1 : decode cX8_aheadOf 1 = .ok (.getfield 38, 3) := dec_of t_X8_aheadOf_ok 1 rfl
theorem dX8_aheadOf_4 : decode cX8_aheadOf 4 = .ok (.iload_n 1, 1) := dec_of t_X8_aheadOf_ok 2 rfl
theorem dX8_aheadOf_5 : decode cX8_aheadOf 5 = .ok (.invokevirtual 62, 3) := dec_of t_X8_aheadOf_ok 3 rfl
theorem dX8_aheadOf_8 : decode cX8_aheadOf 8 = .ok (.ireturn, 1) := dec_of t_X8_aheadOf_ok 4 rfl
def t_X8_begins : List (Nat × Instr × Nat) := [(0, .aload_n 0, 1), (1, .getfield 20, 3), (4, .iload_n 1, 1), (5, .invokevirtual 62, 3), (8, .istore_n 3, 1), (9, .aload_n 0, 1), (10, .getfield 23, 3), (13, .iload_n 1, 1), (14, .invokevirtual 62, 3), (17, .iload_n 3, 1), (18, .isub, 1), (19, .aload_n 2, 1), (20, .invokevirtual 58, 3), (23, .if_icmp .ge 5, 3), (26, .iconst 0, 1), (27, .ireturn, 1), (28, .iconst 0, 1), (29, .istore 4, 2), (31, .iload 4, 2), (33, .aload_n 2, 1), (34, .invokevirtual 58, 3), (37, .if_icmp .ge 31, 3), (40, .aload_n 0, 1), (41, .getfield 9, 3), (44, .iload_n 3, 1), (45, .iload 4, 2), (47, .iadd, 1), (48, .invokevirtual 62, 3), (51, .aload_n 2, 1), (52, .iload 4, 2), (54, .invokevirtual 62, 3), (57, .if_icmp .eq 5, 3), (60, .iconst 0, 1), (61, .ireturn, 1), (62, .iinc 4 1, 3), (65, .goto (-34), 3), (68, .iconst 1, 1), (69, .ireturn, 1)]
theorem t_X8_begins_ok : dec_ok cX8_begins t_X8_begins = true := by decide +kernel
theorem dX8_begins_0 : decode cX8_begins 0 = .ok (.aload_n 0, 1) := dec_of t_X8_begins_ok 0 rfl
theorem dX8_begins_1 : decode cX8_begins 1 = .ok (.getfield 20, 3) := dec_of t_X8_begins_ok 1 rfl
theorem dX8_begins_4 : decode cX8_begins 4 = .ok (.iload_n 1, 1) := dec_of t_X8_begins_ok 2 rfl
theorem dX8_begins_5 : decode cX8_begins 5 = .ok (.invokevirtual 62, 3) := dec_of t_X8_begins_ok 3 rfl
theorem dX8_begins_8 : decode cX8_begins 8 = .ok (.istore_n 3, 1) := dec_of t_X8_begins_ok 4 rfl
theorem dX8_begins_9 : decode cX8_begins 9 = .ok (.aload_n 0, 1) := dec_of t_X8_begins_ok 5 rfl
theorem dX8_begins_10 : decode cX8_begins 10 = .ok (.getfield 23, 3) := dec_of t_X8_begins_ok 6 rfl
theorem dX8_begins_13 : decode cX8_begins 13 = .ok (.iload_n 1, 1) := dec_of t_X8_begins_ok 7 rfl
theorem dX8_begins_14 : decode cX8_begins 14 = .ok (.invokevirtual 62, 3) := dec_of t_X8_begins_ok 8 rfl
theorem dX8_begins_17 : decode cX8_begins 17 = .ok (.iload_n 3, 1) := dec_of t_X8_begins_ok 9 rfl
theorem dX8_begins_18 : decode cX8_begins 18 = .ok (.isub, 1) := dec_of t_X8_begins_ok 10 rfl
theorem dX8_begins_19 : decode cX8_begins 19 = .ok (.aload_n 2, 1) := dec_of t_X8_begins_ok 11 rfl
theorem dX8_begins_20 : decode cX8_begins 20 = .ok (.invokevirtual 58, 3) := dec_of t_X8_begins_ok 12 rfl
theorem dX8_begins_23 : decode cX8_begins 23 = .ok (.if_icmp .ge 5, 3) := dec_of t_X8_begins_ok 13 rfl
theorem dX8_begins_26 : decode cX8_begins 26 = .ok (.iconst 0, 1) := dec_of t_X8_begins_ok 14 rfl
theorem dX8_begins_27 : decode cX8_begins 27 = .ok (.ireturn, 1) := dec_of t_X8_begins_ok 15 rfl
theorem dX8_begins_28 : decode cX8_begins 28 = .ok (.iconst 0, 1) := dec_of t_X8_begins_ok 16 rfl
theorem dX8_begins_29 : decode cX8_begins 29 = .ok (.istore 4, 2) := dec_of t_X8_begins_ok 17 rfl
theorem dX8_begins_31 : decode cX8_begins 31 = .ok (.iload 4, 2) := dec_of t_X8_begins_ok 18 rfl
theorem dX8_begins_33 : decode cX8_begins 33 = .ok (.aload_n 2, 1) := dec_of t_X8_begins_ok 19 rfl
theorem dX8_begins_34 : decode cX8_begins 34 = .ok (.invokevirtual 58, 3) := dec_of t_X8_begins_ok 20 rfl
theorem dX8_begins_37 : decode cX8_begins 37 = .ok (.if_icmp .ge 31, 3) := dec_of t_X8_begins_ok 21 rfl
theorem dX8_begins_40 : decode cX8_begins 40 = .ok (.aload_n 0, 1) := dec_of t_X8_begins_ok 22 rfl
theorem dX8_begins_41 : decode cX8_begins 41 = .ok (.getfield 9, 3) := dec_of t_X8_begins_ok 23 rfl
theorem dX8_begins_44 : decode cX8_begins 44 = .ok (.iload_n 3, 1) := dec_of t_X8_begins_ok 24 rfl
theorem dX8_begins_45 : decode cX8_begins 45 = .ok (.iload 4, 2) := dec_of t_X8_begins_ok 25 rfl
theorem dX8_begins_47 : decode cX8_begins 47 = .ok (.iadd, 1) := dec_of t_X8_begins_ok 26 rfl
theorem dX8_begins_48 : decode cX8_begins 48 = .ok (.invokevirtual 62, 3) := dec_of t_X8_begins_ok 27 rfl
theorem dX8_begins_51 : decode cX8_begins 51 = .ok (.aload_n 2, 1) := dec_of t_X8_begins_ok 28 rfl
theorem dX8_begins_52 : decode cX8_begins 52 = .ok (.iload 4, 2) := dec_of t_X8_begins_ok 29 rfl
theorem dX8_begins_54 : decode cX8_begins 54 = .ok (.invokevirtual 62, 3) := dec_of t_X8_begins_ok 30 rfl
theorem dX8_begins_57 : decode cX8_begins 57 = .ok (.if_icmp .eq 5, 3) := dec_of t_X8_begins_ok 31 rfl
theorem dX8_begins_60 : decode cX8_begins 60 = .ok (.iconst 0, 1) := dec_of t_X8_begins_ok 32 rfl
theorem dX8_begins_61 : decode cX8_begins 61 = .ok (.ireturn, 1) := dec_of t_X8_begins_ok 33 rfl
theorem dX8_begins_62 : decode cX8_begins 62 = .ok (.iinc 4 1, 3) := dec_of t_X8_begins_ok 34 rfl
theorem dX8_begins_65 : decode cX8_begins 65 = .ok (.goto (-34), 3) := dec_of t_X8_begins_ok 35 rfl
theorem dX8_begins_68 : decode cX8_begins 68 = .ok (.iconst 1, 1) := dec_of t_X8_begins_ok 36 rfl
theorem dX8_begins_69 : decode cX8_begins 69 = .ok (.ireturn, 1) := dec_of t_X8_begins_ok 37 rfl
def t_X8_isThe : List (Nat × Instr × Nat) := [(0, .iload_n 2, 1), (1, .ifCond .lt 36, 3), (4, .iload_n 2, 1), (5, .aload_n 0, 1), (6, .invokevirtual 90, 3), (9, .if_icmp .ge 28, 3), (12, .aload_n 0, 1), (13, .iload_n 2, 1), (14, .invokevirtual 100, 3), (17, .aload_n 1, 1), (18, .invokevirtual 58, 3), (21, .if_icmp .ne 16, 3), (24, .aload_n 0, 1), (25, .iload_n 2, 1), (26, .aload_n 1, 1), (27, .invokevirtual 103, 3), (30, .ifCond .eq 7, 3), (33, .iconst 1, 1), (34, .goto 4, 3), (37, .iconst 0, 1), (38, .ireturn, 1)]
theorem t_X8_isThe_ok : dec_ok cX8_isThe t_X8_isThe = true := by decide +kernel
theorem dX8_isThe_0 : decode cX8_isThe 0 = .ok (.iload_n 2, 1) := dec_of t_X8_isThe_ok 0 rfl
theorem dX8_isThe_1 : decode cX8_isThe 1 = .ok (.ifCond .lt 36, 3) := dec_of t_X8_isThe_ok 1 rfl
theorem dX8_isThe_4 : decode cX8_isThe 4 = .ok (.iload_n 2, 1) := dec_of t_X8_isThe_ok 2 rfl
theorem dX8_isThe_5 : decode cX8_isThe 5 = .ok (.aload_n 0, 1) := dec_of t_X8_isThe_ok 3 rfl
theorem dX8_isThe_6 : decode cX8_isThe 6 = .ok (.invokevirtual 90, 3) := dec_of t_X8_isThe_ok 4 rfl
theorem dX8_isThe_9 : decode cX8_isThe 9 = .ok (.if_icmp .ge 28, 3) := dec_of t_X8_isThe_ok 5 rfl
theorem dX8_isThe_12 : decode cX8_isThe 12 = .ok (.aload_n 0, 1) := dec_of t_X8_isThe_ok 6 rfl
theorem dX8_isThe_13 : decode cX8_isThe 13 = .ok (.iload_n 2, 1) := dec_of t_X8_isThe_ok 7 rfl
theorem dX8_isThe_14 : decode cX8_isThe 14 = .ok (.invokevirtual 100, 3) := dec_of t_X8_isThe_ok 8 rfl
theorem dX8_isThe_17 : decode cX8_isThe 17 = .ok (.aload_n 1, 1) := dec_of t_X8_isThe_ok 9 rfl
theorem dX8_isThe_18 : decode cX8_isThe 18 = .ok (.invokevirtual 58, 3) := dec_of t_X8_isThe_ok 10 rfl
theorem dX8_isThe_21 : decode cX8_isThe 21 = .ok (.if_icmp .ne 16, 3) := dec_of t_X8_isThe_ok 11 rfl
theorem dX8_isThe_24 : decode cX8_isThe 24 = .ok (.aload_n 0, 1) := dec_of t_X8_isThe_ok 12 rfl
theorem dX8_isThe_25 : decode cX8_isThe 25 = .ok (.iload_n 2, 1) := dec_of t_X8_isThe_ok 13 rfl
theorem dX8_isThe_26 : decode cX8_isThe 26 = .ok (.aload_n 1, 1) := dec_of t_X8_isThe_ok 14 rfl
theorem dX8_isThe_27 : decode cX8_isThe 27 = .ok (.invokevirtual 103, 3) := dec_of t_X8_isThe_ok 15 rfl
theorem dX8_isThe_30 : decode cX8_isThe 30 = .ok (.ifCond .eq 7, 3) := dec_of t_X8_isThe_ok 16 rfl
theorem dX8_isThe_33 : decode cX8_isThe 33 = .ok (.iconst 1, 1) := dec_of t_X8_isThe_ok 17 rfl
theorem dX8_isThe_34 : decode cX8_isThe 34 = .ok (.goto 4, 3) := dec_of t_X8_isThe_ok 18 rfl
theorem dX8_isThe_37 : decode cX8_isThe 37 = .ok (.iconst 0, 1) := dec_of t_X8_isThe_ok 19 rfl
theorem dX8_isThe_38 : decode cX8_isThe 38 = .ok (.ireturn, 1) := dec_of t_X8_isThe_ok 20 rfl
def t_X8_goesOn : List (Nat × Instr × Nat) := [(0, .aload_n 0, 1), (1, .getfield 23, 3), (4, .iload_n 1, 1), (5, .invokevirtual 62, 3), (8, .istore_n 2, 1), (9, .iload_n 1, 1), (10, .iconst 1, 1), (11, .iadd, 1), (12, .aload_n 0, 1), (13, .invokevirtual 90, 3), (16, .if_icmp .ge 36, 3), (19, .aload_n 0, 1), (20, .getfield 9, 3), (23, .iload_n 2, 1), (24, .invokevirtual 62, 3), (27, .bipush 32, 2), (29, .if_icmp .ne 23, 3), (32, .aload_n 0, 1), (33, .getfield 20, 3), (36, .iload_n 1, 1), (37, .iconst 1, 1), (38, .iadd, 1), (39, .invokevirtual 62, 3), (42, .iload_n 2, 1), (43, .iconst 1, 1), (44, .iadd, 1), (45, .if_icmp .ne 7, 3), (48, .iconst 1, 1), (49, .goto 4, 3), (52, .iconst 0, 1), (53, .ireturn, 1)]
theorem t_X8_goesOn_ok : dec_ok cX8_goesOn t_X8_goesOn = true := by decide +kernel
theorem dX8_goesOn_0 : decode cX8_goesOn 0 = .ok (.aload_n 0, 1) := dec_of t_X8_goesOn_ok 0 rfl
theorem dX8_goesOn_1 : decode cX8_goesOn 1 = .ok (.getfield 23, 3) := dec_of t_X8_goesOn_ok 1 rfl
theorem dX8_goesOn_4 : decode cX8_goesOn 4 = .ok (.iload_n 1, 1) := dec_of t_X8_goesOn_ok 2 rfl
theorem dX8_goesOn_5 : decode cX8_goesOn 5 = .ok (.invokevirtual 62, 3) := dec_of t_X8_goesOn_ok 3 rfl
theorem dX8_goesOn_8 : decode cX8_goesOn 8 = .ok (.istore_n 2, 1) := dec_of t_X8_goesOn_ok 4 rfl
theorem dX8_goesOn_9 : decode cX8_goesOn 9 = .ok (.iload_n 1, 1) := dec_of t_X8_goesOn_ok 5 rfl
theorem dX8_goesOn_10 : decode cX8_goesOn 10 = .ok (.iconst 1, 1) := dec_of t_X8_goesOn_ok 6 rfl
theorem dX8_goesOn_11 : decode cX8_goesOn 11 = .ok (.iadd, 1) := dec_of t_X8_goesOn_ok 7 rfl
theorem dX8_goesOn_12 : decode cX8_goesOn 12 = .ok (.aload_n 0, 1) := dec_of t_X8_goesOn_ok 8 rfl
theorem dX8_goesOn_13 : decode cX8_goesOn 13 = .ok (.invokevirtual 90, 3) := dec_of t_X8_goesOn_ok 9 rfl
theorem dX8_goesOn_16 : decode cX8_goesOn 16 = .ok (.if_icmp .ge 36, 3) := dec_of t_X8_goesOn_ok 10 rfl
theorem dX8_goesOn_19 : decode cX8_goesOn 19 = .ok (.aload_n 0, 1) := dec_of t_X8_goesOn_ok 11 rfl
theorem dX8_goesOn_20 : decode cX8_goesOn 20 = .ok (.getfield 9, 3) := dec_of t_X8_goesOn_ok 12 rfl
theorem dX8_goesOn_23 : decode cX8_goesOn 23 = .ok (.iload_n 2, 1) := dec_of t_X8_goesOn_ok 13 rfl
theorem dX8_goesOn_24 : decode cX8_goesOn 24 = .ok (.invokevirtual 62, 3) := dec_of t_X8_goesOn_ok 14 rfl
theorem dX8_goesOn_27 : decode cX8_goesOn 27 = .ok (.bipush 32, 2) := dec_of t_X8_goesOn_ok 15 rfl
theorem dX8_goesOn_29 : decode cX8_goesOn 29 = .ok (.if_icmp .ne 23, 3) := dec_of t_X8_goesOn_ok 16 rfl
theorem dX8_goesOn_32 : decode cX8_goesOn 32 = .ok (.aload_n 0, 1) := dec_of t_X8_goesOn_ok 17 rfl
theorem dX8_goesOn_33 : decode cX8_goesOn 33 = .ok (.getfield 20, 3) := dec_of t_X8_goesOn_ok 18 rfl
theorem dX8_goesOn_36 : decode cX8_goesOn 36 = .ok (.iload_n 1, 1) := dec_of t_X8_goesOn_ok 19 rfl
theorem dX8_goesOn_37 : decode cX8_goesOn 37 = .ok (.iconst 1, 1) := dec_of t_X8_goesOn_ok 20 rfl
theorem dX8_goesOn_38 : decode cX8_goesOn 38 = .ok (.iadd, 1) := dec_of t_X8_goesOn_ok 21 rfl
theorem dX8_goesOn_39 : decode cX8_goesOn 39 = .ok (.invokevirtual 62, 3) := dec_of t_X8_goesOn_ok 22 rfl
theorem dX8_goesOn_42 : decode cX8_goesOn 42 = .ok (.iload_n 2, 1) := dec_of t_X8_goesOn_ok 23 rfl
theorem dX8_goesOn_43 : decode cX8_goesOn 43 = .ok (.iconst 1, 1) := dec_of t_X8_goesOn_ok 24 rfl
theorem dX8_goesOn_44 : decode cX8_goesOn 44 = .ok (.iadd, 1) := dec_of t_X8_goesOn_ok 25 rfl
theorem dX8_goesOn_45 : decode cX8_goesOn 45 = .ok (.if_icmp .ne 7, 3) := dec_of t_X8_goesOn_ok 26 rfl
theorem dX8_goesOn_48 : decode cX8_goesOn 48 = .ok (.iconst 1, 1) := dec_of t_X8_goesOn_ok 27 rfl
theorem dX8_goesOn_49 : decode cX8_goesOn 49 = .ok (.goto 4, 3) := dec_of t_X8_goesOn_ok 28 rfl
theorem dX8_goesOn_52 : decode cX8_goesOn 52 = .ok (.iconst 0, 1) := dec_of t_X8_goesOn_ok 29 rfl
theorem dX8_goesOn_53 : decode cX8_goesOn 53 = .ok (.ireturn, 1) := dec_of t_X8_goesOn_ok 30 rfl
def t_X8_write : List (Nat × Instr × Nat) := [(0, .aload_n 0, 1), (1, .getfield 20, 3), (4, .iload_n 1, 1), (5, .invokevirtual 62, 3), (8, .iload_n 2, 1), (9, .iadd, 1), (10, .istore 4, 2), (12, .iload 4, 2), (14, .aload_n 0, 1), (15, .getfield 23, 3), (18, .iload_n 1, 1), (19, .invokevirtual 62, 3), (22, .if_icmp .ge 22, 3), (25, .aload_n 3, 1), (26, .aload_n 0, 1), (27, .getfield 9, 3), (30, .iload 4, 2), (32, .invokevirtual 62, 3), (35, .invokevirtual 87, 3), (38, .iinc 4 1, 3), (41, .goto (-29), 3), (44, .return_, 1)]
theorem t_X8_write_ok : dec_ok cX8_write t_X8_write = true := by decide +kernel
theorem dX8_write_0 : decode cX8_write 0 = .ok (.aload_n 0, 1) := dec_of t_X8_write_ok 0 rfl
theorem dX8_write_1 : decode cX8_write 1 = .ok (.getfield 20, 3) := dec_of t_X8_write_ok 1 rfl
theorem dX8_write_4 : decode cX8_write 4 = .ok (.iload_n 1, 1) := dec_of t_X8_write_ok 2 rfl
theorem dX8_write_5 : decode cX8_write 5 = .ok (.invokevirtual 62, 3) := dec_of t_X8_write_ok 3 rfl
theorem dX8_write_8 : decode cX8_write 8 = .ok (.iload_n 2, 1) := dec_of t_X8_write_ok 4 rfl
theorem dX8_write_9 : decode cX8_write 9 = .ok (.iadd, 1) := dec_of t_X8_write_ok 5 rfl
theorem dX8_write_10 : decode cX8_write 10 = .ok (.istore 4, 2) := dec_of t_X8_write_ok 6 rfl
theorem dX8_write_12 : decode cX8_write 12 = .ok (.iload 4, 2) := dec_of t_X8_write_ok 7 rfl
theorem dX8_write_14 : decode cX8_write 14 = .ok (.aload_n 0, 1) := dec_of t_X8_write_ok 8 rfl
theorem dX8_write_15 : decode cX8_write 15 = .ok (.getfield 23, 3) := dec_of t_X8_write_ok 9 rfl
theorem dX8_write_18 : decode cX8_write 18 = .ok (.iload_n 1, 1) := dec_of t_X8_write_ok 10 rfl
theorem dX8_write_19 : decode cX8_write 19 = .ok (.invokevirtual 62, 3) := dec_of t_X8_write_ok 11 rfl
theorem dX8_write_22 : decode cX8_write 22 = .ok (.if_icmp .ge 22, 3) := dec_of t_X8_write_ok 12 rfl
theorem dX8_write_25 : decode cX8_write 25 = .ok (.aload_n 3, 1) := dec_of t_X8_write_ok 13 rfl
theorem dX8_write_26 : decode cX8_write 26 = .ok (.aload_n 0, 1) := dec_of t_X8_write_ok 14 rfl
theorem dX8_write_27 : decode cX8_write 27 = .ok (.getfield 9, 3) := dec_of t_X8_write_ok 15 rfl
theorem dX8_write_30 : decode cX8_write 30 = .ok (.iload 4, 2) := dec_of t_X8_write_ok 16 rfl
theorem dX8_write_32 : decode cX8_write 32 = .ok (.invokevirtual 62, 3) := dec_of t_X8_write_ok 17 rfl
theorem dX8_write_35 : decode cX8_write 35 = .ok (.invokevirtual 87, 3) := dec_of t_X8_write_ok 18 rfl
theorem dX8_write_38 : decode cX8_write 38 = .ok (.iinc 4 1, 3) := dec_of t_X8_write_ok 19 rfl
theorem dX8_write_41 : decode cX8_write 41 = .ok (.goto (-29), 3) := dec_of t_X8_write_ok 20 rfl
theorem dX8_write_44 : decode cX8_write 44 = .ok (.return_, 1) := dec_of t_X8_write_ok 21 rfl

def t_L_type : List (Nat × Instr × Nat) := [(0, .aload_n 2, 1), (1, .iconst 0, 1), (2, .aload_n 0, 1), (3, .iload_n 1, 1), (4, .invokevirtual 7, 3), (7, .i2l, 1), (8, .lastore, 1), (9, .goto 9, 3), (12, .astore_n 3, 1), (13, .iconst 1, 1), (14, .ireturn, 1), (15, .astore_n 3, 1), (16, .iconst 2, 1), (17, .ireturn, 1), (18, .iconst 0, 1), (19, .ireturn, 1)]
theorem t_L_type_ok : dec_ok cL_type t_L_type = true := by decide +kernel
theorem dL_type_0 : decode cL_type 0 = .ok (.aload_n 2, 1) := dec_of t_L_type_ok 0 rfl
theorem dL_type_1 : decode cL_type 1 = .ok (.iconst 0, 1) := dec_of t_L_type_ok 1 rfl
theorem dL_type_2 : decode cL_type 2 = .ok (.aload_n 0, 1) := dec_of t_L_type_ok 2 rfl
theorem dL_type_3 : decode cL_type 3 = .ok (.iload_n 1, 1) := dec_of t_L_type_ok 3 rfl
theorem dL_type_4 : decode cL_type 4 = .ok (.invokevirtual 7, 3) := dec_of t_L_type_ok 4 rfl
theorem dL_type_7 : decode cL_type 7 = .ok (.i2l, 1) := dec_of t_L_type_ok 5 rfl
theorem dL_type_8 : decode cL_type 8 = .ok (.lastore, 1) := dec_of t_L_type_ok 6 rfl
theorem dL_type_9 : decode cL_type 9 = .ok (.goto 9, 3) := dec_of t_L_type_ok 7 rfl
theorem dL_type_12 : decode cL_type 12 = .ok (.astore_n 3, 1) := dec_of t_L_type_ok 8 rfl
theorem dL_type_13 : decode cL_type 13 = .ok (.iconst 1, 1) := dec_of t_L_type_ok 9 rfl
theorem dL_type_14 : decode cL_type 14 = .ok (.ireturn, 1) := dec_of t_L_type_ok 10 rfl
theorem dL_type_15 : decode cL_type 15 = .ok (.astore_n 3, 1) := dec_of t_L_type_ok 11 rfl
theorem dL_type_16 : decode cL_type 16 = .ok (.iconst 2, 1) := dec_of t_L_type_ok 12 rfl
theorem dL_type_17 : decode cL_type 17 = .ok (.ireturn, 1) := dec_of t_L_type_ok 13 rfl
theorem dL_type_18 : decode cL_type 18 = .ok (.iconst 0, 1) := dec_of t_L_type_ok 14 rfl
theorem dL_type_19 : decode cL_type 19 = .ok (.ireturn, 1) := dec_of t_L_type_ok 15 rfl
def t_L_put : List (Nat × Instr × Nat) := [(0, .aload 4, 2), (2, .iconst 0, 1), (3, .aload_n 0, 1), (4, .iload_n 1, 1), (5, .iload_n 2, 1), (6, .iload_n 3, 1), (7, .invokevirtual 17, 3), (10, .i2l, 1), (11, .lastore, 1), (12, .goto 15, 3), (15, .astore 5, 2), (17, .iconst 1, 1), (18, .ireturn, 1), (19, .astore 5, 2), (21, .iconst 2, 1), (22, .ireturn, 1), (23, .astore 5, 2), (25, .iconst 3, 1), (26, .ireturn, 1), (27, .iconst 0, 1), (28, .ireturn, 1)]
theorem t_L_put_ok : dec_ok cL_put t_L_put = true := by decide +kernel
theorem dL_put_0 : decode cL_put 0 = .ok (.aload 4, 2) := dec_of t_L_put_ok 0 rfl
theorem dL_put_2 : decode cL_put 2 = .ok (.iconst 0, 1) := dec_of t_L_put_ok 1 rfl
theorem dL_put_3 : decode cL_put 3 = .ok (.aload_n 0, 1) := dec_of t_L_put_ok 2 rfl
theorem dL_put_4 : decode cL_put 4 = .ok (.iload_n 1, 1) := dec_of t_L_put_ok 3 rfl
theorem dL_put_5 : decode cL_put 5 = .ok (.iload_n 2, 1) := dec_of t_L_put_ok 4 rfl
theorem dL_put_6 : decode cL_put 6 = .ok (.iload_n 3, 1) := dec_of t_L_put_ok 5 rfl
theorem dL_put_7 : decode cL_put 7 = .ok (.invokevirtual 17, 3) := dec_of t_L_put_ok 6 rfl
theorem dL_put_10 : decode cL_put 10 = .ok (.i2l, 1) := dec_of t_L_put_ok 7 rfl
theorem dL_put_11 : decode cL_put 11 = .ok (.lastore, 1) := dec_of t_L_put_ok 8 rfl
theorem dL_put_12 : decode cL_put 12 = .ok (.goto 15, 3) := dec_of t_L_put_ok 9 rfl
theorem dL_put_15 : decode cL_put 15 = .ok (.astore 5, 2) := dec_of t_L_put_ok 10 rfl
theorem dL_put_17 : decode cL_put 17 = .ok (.iconst 1, 1) := dec_of t_L_put_ok 11 rfl
theorem dL_put_18 : decode cL_put 18 = .ok (.ireturn, 1) := dec_of t_L_put_ok 12 rfl
theorem dL_put_19 : decode cL_put 19 = .ok (.astore 5, 2) := dec_of t_L_put_ok 13 rfl
theorem dL_put_21 : decode cL_put 21 = .ok (.iconst 2, 1) := dec_of t_L_put_ok 14 rfl
theorem dL_put_22 : decode cL_put 22 = .ok (.ireturn, 1) := dec_of t_L_put_ok 15 rfl
theorem dL_put_23 : decode cL_put 23 = .ok (.astore 5, 2) := dec_of t_L_put_ok 16 rfl
theorem dL_put_25 : decode cL_put 25 = .ok (.iconst 3, 1) := dec_of t_L_put_ok 17 rfl
theorem dL_put_26 : decode cL_put 26 = .ok (.ireturn, 1) := dec_of t_L_put_ok 18 rfl
theorem dL_put_27 : decode cL_put 27 = .ok (.iconst 0, 1) := dec_of t_L_put_ok 19 rfl
theorem dL_put_28 : decode cL_put 28 = .ok (.ireturn, 1) := dec_of t_L_put_ok 20 rfl
def t_L_take : List (Nat × Instr × Nat) := [(0, .aload_n 2, 1), (1, .iconst 0, 1), (2, .aload_n 0, 1), (3, .iload_n 1, 1), (4, .invokevirtual 23, 3), (7, .i2l, 1), (8, .lastore, 1), (9, .goto 6, 3), (12, .astore_n 3, 1), (13, .iconst 1, 1), (14, .ireturn, 1), (15, .iconst 0, 1), (16, .ireturn, 1)]
theorem t_L_take_ok : dec_ok cL_take t_L_take = true := by decide +kernel
theorem dL_take_0 : decode cL_take 0 = .ok (.aload_n 2, 1) := dec_of t_L_take_ok 0 rfl
theorem dL_take_1 : decode cL_take 1 = .ok (.iconst 0, 1) := dec_of t_L_take_ok 1 rfl
theorem dL_take_2 : decode cL_take 2 = .ok (.aload_n 0, 1) := dec_of t_L_take_ok 2 rfl
theorem dL_take_3 : decode cL_take 3 = .ok (.iload_n 1, 1) := dec_of t_L_take_ok 3 rfl
theorem dL_take_4 : decode cL_take 4 = .ok (.invokevirtual 23, 3) := dec_of t_L_take_ok 4 rfl
theorem dL_take_7 : decode cL_take 7 = .ok (.i2l, 1) := dec_of t_L_take_ok 5 rfl
theorem dL_take_8 : decode cL_take 8 = .ok (.lastore, 1) := dec_of t_L_take_ok 6 rfl
theorem dL_take_9 : decode cL_take 9 = .ok (.goto 6, 3) := dec_of t_L_take_ok 7 rfl
theorem dL_take_12 : decode cL_take 12 = .ok (.astore_n 3, 1) := dec_of t_L_take_ok 8 rfl
theorem dL_take_13 : decode cL_take 13 = .ok (.iconst 1, 1) := dec_of t_L_take_ok 9 rfl
theorem dL_take_14 : decode cL_take 14 = .ok (.ireturn, 1) := dec_of t_L_take_ok 10 rfl
theorem dL_take_15 : decode cL_take 15 = .ok (.iconst 0, 1) := dec_of t_L_take_ok 11 rfl
theorem dL_take_16 : decode cL_take 16 = .ok (.ireturn, 1) := dec_of t_L_take_ok 12 rfl
def t_L_at : List (Nat × Instr × Nat) := [(0, .aload_n 2, 1), (1, .iconst 0, 1), (2, .aload_n 0, 1), (3, .iload_n 1, 1), (4, .invokevirtual 27, 3), (7, .i2l, 1), (8, .lastore, 1), (9, .goto 6, 3), (12, .astore_n 3, 1), (13, .iconst 1, 1), (14, .ireturn, 1), (15, .iconst 0, 1), (16, .ireturn, 1)]
theorem t_L_at_ok : dec_ok cL_at t_L_at = true := by decide +kernel
theorem dL_at_0 : decode cL_at 0 = .ok (.aload_n 2, 1) := dec_of t_L_at_ok 0 rfl
theorem dL_at_1 : decode cL_at 1 = .ok (.iconst 0, 1) := dec_of t_L_at_ok 1 rfl
theorem dL_at_2 : decode cL_at 2 = .ok (.aload_n 0, 1) := dec_of t_L_at_ok 2 rfl
theorem dL_at_3 : decode cL_at 3 = .ok (.iload_n 1, 1) := dec_of t_L_at_ok 3 rfl
theorem dL_at_4 : decode cL_at 4 = .ok (.invokevirtual 27, 3) := dec_of t_L_at_ok 4 rfl
theorem dL_at_7 : decode cL_at 7 = .ok (.i2l, 1) := dec_of t_L_at_ok 5 rfl
theorem dL_at_8 : decode cL_at 8 = .ok (.lastore, 1) := dec_of t_L_at_ok 6 rfl
theorem dL_at_9 : decode cL_at 9 = .ok (.goto 6, 3) := dec_of t_L_at_ok 7 rfl
theorem dL_at_12 : decode cL_at 12 = .ok (.astore_n 3, 1) := dec_of t_L_at_ok 8 rfl
theorem dL_at_13 : decode cL_at 13 = .ok (.iconst 1, 1) := dec_of t_L_at_ok 9 rfl
theorem dL_at_14 : decode cL_at 14 = .ok (.ireturn, 1) := dec_of t_L_at_ok 10 rfl
theorem dL_at_15 : decode cL_at 15 = .ok (.iconst 0, 1) := dec_of t_L_at_ok 11 rfl
theorem dL_at_16 : decode cL_at 16 = .ok (.ireturn, 1) := dec_of t_L_at_ok 12 rfl
def t_L_rule : List (Nat × Instr × Nat) := [(0, .aload 4, 2), (2, .iconst 0, 1), (3, .aload_n 0, 1), (4, .iload_n 1, 1), (5, .iload_n 2, 1), (6, .iload_n 3, 1), (7, .invokevirtual 30, 3), (10, .i2l, 1), (11, .lastore, 1), (12, .goto 15, 3), (15, .astore 5, 2), (17, .iconst 1, 1), (18, .ireturn, 1), (19, .astore 5, 2), (21, .iconst 2, 1), (22, .ireturn, 1), (23, .astore 5, 2), (25, .iconst 3, 1), (26, .ireturn, 1), (27, .iconst 0, 1), (28, .ireturn, 1)]
theorem t_L_rule_ok : dec_ok cL_rule t_L_rule = true := by decide +kernel
theorem dL_rule_0 : decode cL_rule 0 = .ok (.aload 4, 2) := dec_of t_L_rule_ok 0 rfl
theorem dL_rule_2 : decode cL_rule 2 = .ok (.iconst 0, 1) := dec_of t_L_rule_ok 1 rfl
theorem dL_rule_3 : decode cL_rule 3 = .ok (.aload_n 0, 1) := dec_of t_L_rule_ok 2 rfl
theorem dL_rule_4 : decode cL_rule 4 = .ok (.iload_n 1, 1) := dec_of t_L_rule_ok 3 rfl
theorem dL_rule_5 : decode cL_rule 5 = .ok (.iload_n 2, 1) := dec_of t_L_rule_ok 4 rfl
theorem dL_rule_6 : decode cL_rule 6 = .ok (.iload_n 3, 1) := dec_of t_L_rule_ok 5 rfl
theorem dL_rule_7 : decode cL_rule 7 = .ok (.invokevirtual 30, 3) := dec_of t_L_rule_ok 6 rfl
theorem dL_rule_10 : decode cL_rule 10 = .ok (.i2l, 1) := dec_of t_L_rule_ok 7 rfl
theorem dL_rule_11 : decode cL_rule 11 = .ok (.lastore, 1) := dec_of t_L_rule_ok 8 rfl
theorem dL_rule_12 : decode cL_rule 12 = .ok (.goto 15, 3) := dec_of t_L_rule_ok 9 rfl
theorem dL_rule_15 : decode cL_rule 15 = .ok (.astore 5, 2) := dec_of t_L_rule_ok 10 rfl
theorem dL_rule_17 : decode cL_rule 17 = .ok (.iconst 1, 1) := dec_of t_L_rule_ok 11 rfl
theorem dL_rule_18 : decode cL_rule 18 = .ok (.ireturn, 1) := dec_of t_L_rule_ok 12 rfl
theorem dL_rule_19 : decode cL_rule 19 = .ok (.astore 5, 2) := dec_of t_L_rule_ok 13 rfl
theorem dL_rule_21 : decode cL_rule 21 = .ok (.iconst 2, 1) := dec_of t_L_rule_ok 14 rfl
theorem dL_rule_22 : decode cL_rule 22 = .ok (.ireturn, 1) := dec_of t_L_rule_ok 15 rfl
theorem dL_rule_23 : decode cL_rule 23 = .ok (.astore 5, 2) := dec_of t_L_rule_ok 16 rfl
theorem dL_rule_25 : decode cL_rule 25 = .ok (.iconst 3, 1) := dec_of t_L_rule_ok 17 rfl
theorem dL_rule_26 : decode cL_rule 26 = .ok (.ireturn, 1) := dec_of t_L_rule_ok 18 rfl
theorem dL_rule_27 : decode cL_rule 27 = .ok (.iconst 0, 1) := dec_of t_L_rule_ok 19 rfl
theorem dL_rule_28 : decode cL_rule 28 = .ok (.ireturn, 1) := dec_of t_L_rule_ok 20 rfl
def t_L_except : List (Nat × Instr × Nat) := [(0, .aload_n 2, 1), (1, .iconst 0, 1), (2, .aload_n 0, 1), (3, .iload_n 1, 1), (4, .invokevirtual 36, 3), (7, .i2l, 1), (8, .lastore, 1), (9, .goto 12, 3), (12, .astore_n 3, 1), (13, .iconst 1, 1), (14, .ireturn, 1), (15, .astore_n 3, 1), (16, .iconst 2, 1), (17, .ireturn, 1), (18, .astore_n 3, 1), (19, .iconst 3, 1), (20, .ireturn, 1), (21, .iconst 0, 1), (22, .ireturn, 1)]
theorem t_L_except_ok : dec_ok cL_except t_L_except = true := by decide +kernel
theorem dL_except_0 : decode cL_except 0 = .ok (.aload_n 2, 1) := dec_of t_L_except_ok 0 rfl
theorem dL_except_1 : decode cL_except 1 = .ok (.iconst 0, 1) := dec_of t_L_except_ok 1 rfl
theorem dL_except_2 : decode cL_except 2 = .ok (.aload_n 0, 1) := dec_of t_L_except_ok 2 rfl
theorem dL_except_3 : decode cL_except 3 = .ok (.iload_n 1, 1) := dec_of t_L_except_ok 3 rfl
theorem dL_except_4 : decode cL_except 4 = .ok (.invokevirtual 36, 3) := dec_of t_L_except_ok 4 rfl
theorem dL_except_7 : decode cL_except 7 = .ok (.i2l, 1) := dec_of t_L_except_ok 5 rfl
theorem dL_except_8 : decode cL_except 8 = .ok (.lastore, 1) := dec_of t_L_except_ok 6 rfl
theorem dL_except_9 : decode cL_except 9 = .ok (.goto 12, 3) := dec_of t_L_except_ok 7 rfl
theorem dL_except_12 : decode cL_except 12 = .ok (.astore_n 3, 1) := dec_of t_L_except_ok 8 rfl
theorem dL_except_13 : decode cL_except 13 = .ok (.iconst 1, 1) := dec_of t_L_except_ok 9 rfl
theorem dL_except_14 : decode cL_except 14 = .ok (.ireturn, 1) := dec_of t_L_except_ok 10 rfl
theorem dL_except_15 : decode cL_except 15 = .ok (.astore_n 3, 1) := dec_of t_L_except_ok 11 rfl
theorem dL_except_16 : decode cL_except 16 = .ok (.iconst 2, 1) := dec_of t_L_except_ok 12 rfl
theorem dL_except_17 : decode cL_except 17 = .ok (.ireturn, 1) := dec_of t_L_except_ok 13 rfl
theorem dL_except_18 : decode cL_except 18 = .ok (.astore_n 3, 1) := dec_of t_L_except_ok 14 rfl
theorem dL_except_19 : decode cL_except 19 = .ok (.iconst 3, 1) := dec_of t_L_except_ok 15 rfl
theorem dL_except_20 : decode cL_except 20 = .ok (.ireturn, 1) := dec_of t_L_except_ok 16 rfl
theorem dL_except_21 : decode cL_except 21 = .ok (.iconst 0, 1) := dec_of t_L_except_ok 17 rfl
theorem dL_except_22 : decode cL_except 22 = .ok (.ireturn, 1) := dec_of t_L_except_ok 18 rfl
def t_L_suggest : List (Nat × Instr × Nat) := [(0, .aload_n 2, 1), (1, .iconst 0, 1), (2, .aload_n 0, 1), (3, .iload_n 1, 1), (4, .invokevirtual 40, 3), (7, .i2l, 1), (8, .lastore, 1), (9, .goto 12, 3), (12, .astore_n 3, 1), (13, .iconst 1, 1), (14, .ireturn, 1), (15, .astore_n 3, 1), (16, .iconst 2, 1), (17, .ireturn, 1), (18, .astore_n 3, 1), (19, .iconst 3, 1), (20, .ireturn, 1), (21, .iconst 0, 1), (22, .ireturn, 1)]
theorem t_L_suggest_ok : dec_ok cL_suggest t_L_suggest = true := by decide +kernel
theorem dL_suggest_0 : decode cL_suggest 0 = .ok (.aload_n 2, 1) := dec_of t_L_suggest_ok 0 rfl
theorem dL_suggest_1 : decode cL_suggest 1 = .ok (.iconst 0, 1) := dec_of t_L_suggest_ok 1 rfl
theorem dL_suggest_2 : decode cL_suggest 2 = .ok (.aload_n 0, 1) := dec_of t_L_suggest_ok 2 rfl
theorem dL_suggest_3 : decode cL_suggest 3 = .ok (.iload_n 1, 1) := dec_of t_L_suggest_ok 3 rfl
theorem dL_suggest_4 : decode cL_suggest 4 = .ok (.invokevirtual 40, 3) := dec_of t_L_suggest_ok 4 rfl
theorem dL_suggest_7 : decode cL_suggest 7 = .ok (.i2l, 1) := dec_of t_L_suggest_ok 5 rfl
theorem dL_suggest_8 : decode cL_suggest 8 = .ok (.lastore, 1) := dec_of t_L_suggest_ok 6 rfl
theorem dL_suggest_9 : decode cL_suggest 9 = .ok (.goto 12, 3) := dec_of t_L_suggest_ok 7 rfl
theorem dL_suggest_12 : decode cL_suggest 12 = .ok (.astore_n 3, 1) := dec_of t_L_suggest_ok 8 rfl
theorem dL_suggest_13 : decode cL_suggest 13 = .ok (.iconst 1, 1) := dec_of t_L_suggest_ok 9 rfl
theorem dL_suggest_14 : decode cL_suggest 14 = .ok (.ireturn, 1) := dec_of t_L_suggest_ok 10 rfl
theorem dL_suggest_15 : decode cL_suggest 15 = .ok (.astore_n 3, 1) := dec_of t_L_suggest_ok 11 rfl
theorem dL_suggest_16 : decode cL_suggest 16 = .ok (.iconst 2, 1) := dec_of t_L_suggest_ok 12 rfl
theorem dL_suggest_17 : decode cL_suggest 17 = .ok (.ireturn, 1) := dec_of t_L_suggest_ok 13 rfl
theorem dL_suggest_18 : decode cL_suggest 18 = .ok (.astore_n 3, 1) := dec_of t_L_suggest_ok 14 rfl
theorem dL_suggest_19 : decode cL_suggest 19 = .ok (.iconst 3, 1) := dec_of t_L_suggest_ok 15 rfl
theorem dL_suggest_20 : decode cL_suggest 20 = .ok (.ireturn, 1) := dec_of t_L_suggest_ok 16 rfl
theorem dL_suggest_21 : decode cL_suggest 21 = .ok (.iconst 0, 1) := dec_of t_L_suggest_ok 17 rfl
theorem dL_suggest_22 : decode cL_suggest 22 = .ok (.ireturn, 1) := dec_of t_L_suggest_ok 18 rfl
def t_L_pair : List (Nat × Instr × Nat) := [(0, .aload_n 1, 1), (1, .iconst 0, 1), (2, .aload_n 0, 1), (3, .invokevirtual 43, 3), (6, .i2l, 1), (7, .lastore, 1), (8, .goto 9, 3), (11, .astore_n 2, 1), (12, .iconst 1, 1), (13, .ireturn, 1), (14, .astore_n 2, 1), (15, .iconst 2, 1), (16, .ireturn, 1), (17, .iconst 0, 1), (18, .ireturn, 1)]
theorem t_L_pair_ok : dec_ok cL_pair t_L_pair = true := by decide +kernel
theorem dL_pair_0 : decode cL_pair 0 = .ok (.aload_n 1, 1) := dec_of t_L_pair_ok 0 rfl
theorem dL_pair_1 : decode cL_pair 1 = .ok (.iconst 0, 1) := dec_of t_L_pair_ok 1 rfl
theorem dL_pair_2 : decode cL_pair 2 = .ok (.aload_n 0, 1) := dec_of t_L_pair_ok 2 rfl
theorem dL_pair_3 : decode cL_pair 3 = .ok (.invokevirtual 43, 3) := dec_of t_L_pair_ok 3 rfl
theorem dL_pair_6 : decode cL_pair 6 = .ok (.i2l, 1) := dec_of t_L_pair_ok 4 rfl
theorem dL_pair_7 : decode cL_pair 7 = .ok (.lastore, 1) := dec_of t_L_pair_ok 5 rfl
theorem dL_pair_8 : decode cL_pair 8 = .ok (.goto 9, 3) := dec_of t_L_pair_ok 6 rfl
theorem dL_pair_11 : decode cL_pair 11 = .ok (.astore_n 2, 1) := dec_of t_L_pair_ok 7 rfl
theorem dL_pair_12 : decode cL_pair 12 = .ok (.iconst 1, 1) := dec_of t_L_pair_ok 8 rfl
theorem dL_pair_13 : decode cL_pair 13 = .ok (.ireturn, 1) := dec_of t_L_pair_ok 9 rfl
theorem dL_pair_14 : decode cL_pair 14 = .ok (.astore_n 2, 1) := dec_of t_L_pair_ok 10 rfl
theorem dL_pair_15 : decode cL_pair 15 = .ok (.iconst 2, 1) := dec_of t_L_pair_ok 11 rfl
theorem dL_pair_16 : decode cL_pair 16 = .ok (.ireturn, 1) := dec_of t_L_pair_ok 12 rfl
theorem dL_pair_17 : decode cL_pair 17 = .ok (.iconst 0, 1) := dec_of t_L_pair_ok 13 rfl
theorem dL_pair_18 : decode cL_pair 18 = .ok (.ireturn, 1) := dec_of t_L_pair_ok 14 rfl
def t_L_use : List (Nat × Instr × Nat) := [(0, .aload 4, 2), (2, .iconst 0, 1), (3, .aload_n 0, 1), (4, .iload_n 1, 1), (5, .iload_n 2, 1), (6, .iload_n 3, 1), (7, .invokevirtual 47, 3), (10, .ifCond .eq 7, 3), (13, .lconst 1, 1), (14, .goto 4, 3), (17, .lconst 0, 1), (18, .lastore, 1), (19, .goto 11, 3), (22, .astore 5, 2), (24, .iconst 1, 1), (25, .ireturn, 1), (26, .astore 5, 2), (28, .iconst 2, 1), (29, .ireturn, 1), (30, .iconst 0, 1), (31, .ireturn, 1)]
theorem t_L_use_ok : dec_ok cL_use t_L_use = true := by decide +kernel
theorem dL_use_0 : decode cL_use 0 = .ok (.aload 4, 2) := dec_of t_L_use_ok 0 rfl
theorem dL_use_2 : decode cL_use 2 = .ok (.iconst 0, 1) := dec_of t_L_use_ok 1 rfl
theorem dL_use_3 : decode cL_use 3 = .ok (.aload_n 0, 1) := dec_of t_L_use_ok 2 rfl
theorem dL_use_4 : decode cL_use 4 = .ok (.iload_n 1, 1) := dec_of t_L_use_ok 3 rfl
theorem dL_use_5 : decode cL_use 5 = .ok (.iload_n 2, 1) := dec_of t_L_use_ok 4 rfl
theorem dL_use_6 : decode cL_use 6 = .ok (.iload_n 3, 1) := dec_of t_L_use_ok 5 rfl
theorem dL_use_7 : decode cL_use 7 = .ok (.invokevirtual 47, 3) := dec_of t_L_use_ok 6 rfl
theorem dL_use_10 : decode cL_use 10 = .ok (.ifCond .eq 7, 3) := dec_of t_L_use_ok 7 rfl
theorem dL_use_13 : decode cL_use 13 = .ok (.lconst 1, 1) := dec_of t_L_use_ok 8 rfl
theorem dL_use_14 : decode cL_use 14 = .ok (.goto 4, 3) := dec_of t_L_use_ok 9 rfl
theorem dL_use_17 : decode cL_use 17 = .ok (.lconst 0, 1) := dec_of t_L_use_ok 10 rfl
theorem dL_use_18 : decode cL_use 18 = .ok (.lastore, 1) := dec_of t_L_use_ok 11 rfl
theorem dL_use_19 : decode cL_use 19 = .ok (.goto 11, 3) := dec_of t_L_use_ok 12 rfl
theorem dL_use_22 : decode cL_use 22 = .ok (.astore 5, 2) := dec_of t_L_use_ok 13 rfl
theorem dL_use_24 : decode cL_use 24 = .ok (.iconst 1, 1) := dec_of t_L_use_ok 14 rfl
theorem dL_use_25 : decode cL_use 25 = .ok (.ireturn, 1) := dec_of t_L_use_ok 15 rfl
theorem dL_use_26 : decode cL_use 26 = .ok (.astore 5, 2) := dec_of t_L_use_ok 16 rfl
theorem dL_use_28 : decode cL_use 28 = .ok (.iconst 2, 1) := dec_of t_L_use_ok 17 rfl
theorem dL_use_29 : decode cL_use 29 = .ok (.ireturn, 1) := dec_of t_L_use_ok 18 rfl
theorem dL_use_30 : decode cL_use 30 = .ok (.iconst 0, 1) := dec_of t_L_use_ok 19 rfl
theorem dL_use_31 : decode cL_use 31 = .ok (.ireturn, 1) := dec_of t_L_use_ok 20 rfl
def t_L_rank : List (Nat × Instr × Nat) := [(0, .aload 4, 2), (2, .iconst 0, 1), (3, .aload_n 0, 1), (4, .iload_n 1, 1), (5, .iload_n 2, 1), (6, .iload_n 3, 1), (7, .invokevirtual 51, 3), (10, .i2l, 1), (11, .lastore, 1), (12, .goto 11, 3), (15, .astore 5, 2), (17, .iconst 1, 1), (18, .ireturn, 1), (19, .astore 5, 2), (21, .iconst 2, 1), (22, .ireturn, 1), (23, .iconst 0, 1), (24, .ireturn, 1)]
theorem t_L_rank_ok : dec_ok cL_rank t_L_rank = true := by decide +kernel
theorem dL_rank_0 : decode cL_rank 0 = .ok (.aload 4, 2) := dec_of t_L_rank_ok 0 rfl
theorem dL_rank_2 : decode cL_rank 2 = .ok (.iconst 0, 1) := dec_of t_L_rank_ok 1 rfl
theorem dL_rank_3 : decode cL_rank 3 = .ok (.aload_n 0, 1) := dec_of t_L_rank_ok 2 rfl
theorem dL_rank_4 : decode cL_rank 4 = .ok (.iload_n 1, 1) := dec_of t_L_rank_ok 3 rfl
theorem dL_rank_5 : decode cL_rank 5 = .ok (.iload_n 2, 1) := dec_of t_L_rank_ok 4 rfl
theorem dL_rank_6 : decode cL_rank 6 = .ok (.iload_n 3, 1) := dec_of t_L_rank_ok 5 rfl
theorem dL_rank_7 : decode cL_rank 7 = .ok (.invokevirtual 51, 3) := dec_of t_L_rank_ok 6 rfl
theorem dL_rank_10 : decode cL_rank 10 = .ok (.i2l, 1) := dec_of t_L_rank_ok 7 rfl
theorem dL_rank_11 : decode cL_rank 11 = .ok (.lastore, 1) := dec_of t_L_rank_ok 8 rfl
theorem dL_rank_12 : decode cL_rank 12 = .ok (.goto 11, 3) := dec_of t_L_rank_ok 9 rfl
theorem dL_rank_15 : decode cL_rank 15 = .ok (.astore 5, 2) := dec_of t_L_rank_ok 10 rfl
theorem dL_rank_17 : decode cL_rank 17 = .ok (.iconst 1, 1) := dec_of t_L_rank_ok 11 rfl
theorem dL_rank_18 : decode cL_rank 18 = .ok (.ireturn, 1) := dec_of t_L_rank_ok 12 rfl
theorem dL_rank_19 : decode cL_rank 19 = .ok (.astore 5, 2) := dec_of t_L_rank_ok 13 rfl
theorem dL_rank_21 : decode cL_rank 21 = .ok (.iconst 2, 1) := dec_of t_L_rank_ok 14 rfl
theorem dL_rank_22 : decode cL_rank 22 = .ok (.ireturn, 1) := dec_of t_L_rank_ok 15 rfl
theorem dL_rank_23 : decode cL_rank 23 = .ok (.iconst 0, 1) := dec_of t_L_rank_ok 16 rfl
theorem dL_rank_24 : decode cL_rank 24 = .ok (.ireturn, 1) := dec_of t_L_rank_ok 17 rfl
def t_L_limit : List (Nat × Instr × Nat) := [(0, .aload_n 3, 1), (1, .iconst 0, 1), (2, .aload_n 0, 1), (3, .iload_n 1, 1), (4, .iload_n 2, 1), (5, .invokevirtual 55, 3), (8, .i2l, 1), (9, .lastore, 1), (10, .goto 7, 3), (13, .astore 4, 2), (15, .iconst 1, 1), (16, .ireturn, 1), (17, .iconst 0, 1), (18, .ireturn, 1)]
theorem t_L_limit_ok : dec_ok cL_limit t_L_limit = true := by decide +kernel
theorem dL_limit_0 : decode cL_limit 0 = .ok (.aload_n 3, 1) := dec_of t_L_limit_ok 0 rfl
theorem dL_limit_1 : decode cL_limit 1 = .ok (.iconst 0, 1) := dec_of t_L_limit_ok 1 rfl
theorem dL_limit_2 : decode cL_limit 2 = .ok (.aload_n 0, 1) := dec_of t_L_limit_ok 2 rfl
theorem dL_limit_3 : decode cL_limit 3 = .ok (.iload_n 1, 1) := dec_of t_L_limit_ok 3 rfl
theorem dL_limit_4 : decode cL_limit 4 = .ok (.iload_n 2, 1) := dec_of t_L_limit_ok 4 rfl
theorem dL_limit_5 : decode cL_limit 5 = .ok (.invokevirtual 55, 3) := dec_of t_L_limit_ok 5 rfl
theorem dL_limit_8 : decode cL_limit 8 = .ok (.i2l, 1) := dec_of t_L_limit_ok 6 rfl
theorem dL_limit_9 : decode cL_limit 9 = .ok (.lastore, 1) := dec_of t_L_limit_ok 7 rfl
theorem dL_limit_10 : decode cL_limit 10 = .ok (.goto 7, 3) := dec_of t_L_limit_ok 8 rfl
theorem dL_limit_13 : decode cL_limit 13 = .ok (.astore 4, 2) := dec_of t_L_limit_ok 9 rfl
theorem dL_limit_15 : decode cL_limit 15 = .ok (.iconst 1, 1) := dec_of t_L_limit_ok 10 rfl
theorem dL_limit_16 : decode cL_limit 16 = .ok (.ireturn, 1) := dec_of t_L_limit_ok 11 rfl
theorem dL_limit_17 : decode cL_limit 17 = .ok (.iconst 0, 1) := dec_of t_L_limit_ok 12 rfl
theorem dL_limit_18 : decode cL_limit 18 = .ok (.ireturn, 1) := dec_of t_L_limit_ok 13 rfl
def t_L_findings : List (Nat × Instr × Nat) := [(0, .aload_n 2, 1), (1, .iconst 0, 1), (2, .aload_n 0, 1), (3, .iload_n 1, 1), (4, .invokevirtual 59, 3), (7, .i2l, 1), (8, .lastore, 1), (9, .goto 6, 3), (12, .astore_n 3, 1), (13, .iconst 1, 1), (14, .ireturn, 1), (15, .iconst 0, 1), (16, .ireturn, 1)]
theorem t_L_findings_ok : dec_ok cL_findings t_L_findings = true := by decide +kernel
theorem dL_findings_0 : decode cL_findings 0 = .ok (.aload_n 2, 1) := dec_of t_L_findings_ok 0 rfl
theorem dL_findings_1 : decode cL_findings 1 = .ok (.iconst 0, 1) := dec_of t_L_findings_ok 1 rfl
theorem dL_findings_2 : decode cL_findings 2 = .ok (.aload_n 0, 1) := dec_of t_L_findings_ok 2 rfl
theorem dL_findings_3 : decode cL_findings 3 = .ok (.iload_n 1, 1) := dec_of t_L_findings_ok 3 rfl
theorem dL_findings_4 : decode cL_findings 4 = .ok (.invokevirtual 59, 3) := dec_of t_L_findings_ok 4 rfl
theorem dL_findings_7 : decode cL_findings 7 = .ok (.i2l, 1) := dec_of t_L_findings_ok 5 rfl
theorem dL_findings_8 : decode cL_findings 8 = .ok (.lastore, 1) := dec_of t_L_findings_ok 6 rfl
theorem dL_findings_9 : decode cL_findings 9 = .ok (.goto 6, 3) := dec_of t_L_findings_ok 7 rfl
theorem dL_findings_12 : decode cL_findings 12 = .ok (.astore_n 3, 1) := dec_of t_L_findings_ok 8 rfl
theorem dL_findings_13 : decode cL_findings 13 = .ok (.iconst 1, 1) := dec_of t_L_findings_ok 9 rfl
theorem dL_findings_14 : decode cL_findings 14 = .ok (.ireturn, 1) := dec_of t_L_findings_ok 10 rfl
theorem dL_findings_15 : decode cL_findings 15 = .ok (.iconst 0, 1) := dec_of t_L_findings_ok 11 rfl
theorem dL_findings_16 : decode cL_findings 16 = .ok (.ireturn, 1) := dec_of t_L_findings_ok 12 rfl
def t_L_of : List (Nat × Instr × Nat) := [(0, .aload 4, 2), (2, .iconst 0, 1), (3, .aload_n 0, 1), (4, .iload_n 1, 1), (5, .iload_n 2, 1), (6, .iload_n 3, 1), (7, .invokevirtual 62, 3), (10, .i2l, 1), (11, .lastore, 1), (12, .goto 11, 3), (15, .astore 5, 2), (17, .iconst 1, 1), (18, .ireturn, 1), (19, .astore 5, 2), (21, .iconst 2, 1), (22, .ireturn, 1), (23, .iconst 0, 1), (24, .ireturn, 1)]
theorem t_L_of_ok : dec_ok cL_of t_L_of = true := by decide +kernel
theorem dL_of_0 : decode cL_of 0 = .ok (.aload 4, 2) := dec_of t_L_of_ok 0 rfl
theorem dL_of_2 : decode cL_of 2 = .ok (.iconst 0, 1) := dec_of t_L_of_ok 1 rfl
theorem dL_of_3 : decode cL_of 3 = .ok (.aload_n 0, 1) := dec_of t_L_of_ok 2 rfl
theorem dL_of_4 : decode cL_of 4 = .ok (.iload_n 1, 1) := dec_of t_L_of_ok 3 rfl
theorem dL_of_5 : decode cL_of 5 = .ok (.iload_n 2, 1) := dec_of t_L_of_ok 4 rfl
theorem dL_of_6 : decode cL_of 6 = .ok (.iload_n 3, 1) := dec_of t_L_of_ok 5 rfl
theorem dL_of_7 : decode cL_of 7 = .ok (.invokevirtual 62, 3) := dec_of t_L_of_ok 6 rfl
theorem dL_of_10 : decode cL_of 10 = .ok (.i2l, 1) := dec_of t_L_of_ok 7 rfl
theorem dL_of_11 : decode cL_of 11 = .ok (.lastore, 1) := dec_of t_L_of_ok 8 rfl
theorem dL_of_12 : decode cL_of 12 = .ok (.goto 11, 3) := dec_of t_L_of_ok 9 rfl
theorem dL_of_15 : decode cL_of 15 = .ok (.astore 5, 2) := dec_of t_L_of_ok 10 rfl
theorem dL_of_17 : decode cL_of 17 = .ok (.iconst 1, 1) := dec_of t_L_of_ok 11 rfl
theorem dL_of_18 : decode cL_of 18 = .ok (.ireturn, 1) := dec_of t_L_of_ok 12 rfl
theorem dL_of_19 : decode cL_of 19 = .ok (.astore 5, 2) := dec_of t_L_of_ok 13 rfl
theorem dL_of_21 : decode cL_of 21 = .ok (.iconst 2, 1) := dec_of t_L_of_ok 14 rfl
theorem dL_of_22 : decode cL_of 22 = .ok (.ireturn, 1) := dec_of t_L_of_ok 15 rfl
theorem dL_of_23 : decode cL_of 23 = .ok (.iconst 0, 1) := dec_of t_L_of_ok 16 rfl
theorem dL_of_24 : decode cL_of 24 = .ok (.ireturn, 1) := dec_of t_L_of_ok 17 rfl
def t_L_size : List (Nat × Instr × Nat) := [(0, .aload 4, 2), (2, .iconst 0, 1), (3, .aload_n 0, 1), (4, .iload_n 1, 1), (5, .iload_n 2, 1), (6, .iload_n 3, 1), (7, .invokevirtual 68, 3), (10, .i2l, 1), (11, .lastore, 1), (12, .goto 11, 3), (15, .astore 5, 2), (17, .iconst 1, 1), (18, .ireturn, 1), (19, .astore 5, 2), (21, .iconst 2, 1), (22, .ireturn, 1), (23, .iconst 0, 1), (24, .ireturn, 1)]
theorem t_L_size_ok : dec_ok cL_size t_L_size = true := by decide +kernel
theorem dL_size_0 : decode cL_size 0 = .ok (.aload 4, 2) := dec_of t_L_size_ok 0 rfl
theorem dL_size_2 : decode cL_size 2 = .ok (.iconst 0, 1) := dec_of t_L_size_ok 1 rfl
theorem dL_size_3 : decode cL_size 3 = .ok (.aload_n 0, 1) := dec_of t_L_size_ok 2 rfl
theorem dL_size_4 : decode cL_size 4 = .ok (.iload_n 1, 1) := dec_of t_L_size_ok 3 rfl
theorem dL_size_5 : decode cL_size 5 = .ok (.iload_n 2, 1) := dec_of t_L_size_ok 4 rfl
theorem dL_size_6 : decode cL_size 6 = .ok (.iload_n 3, 1) := dec_of t_L_size_ok 5 rfl
theorem dL_size_7 : decode cL_size 7 = .ok (.invokevirtual 68, 3) := dec_of t_L_size_ok 6 rfl
theorem dL_size_10 : decode cL_size 10 = .ok (.i2l, 1) := dec_of t_L_size_ok 7 rfl
theorem dL_size_11 : decode cL_size 11 = .ok (.lastore, 1) := dec_of t_L_size_ok 8 rfl
theorem dL_size_12 : decode cL_size 12 = .ok (.goto 11, 3) := dec_of t_L_size_ok 9 rfl
theorem dL_size_15 : decode cL_size 15 = .ok (.astore 5, 2) := dec_of t_L_size_ok 10 rfl
theorem dL_size_17 : decode cL_size 17 = .ok (.iconst 1, 1) := dec_of t_L_size_ok 11 rfl
theorem dL_size_18 : decode cL_size 18 = .ok (.ireturn, 1) := dec_of t_L_size_ok 12 rfl
theorem dL_size_19 : decode cL_size 19 = .ok (.astore 5, 2) := dec_of t_L_size_ok 13 rfl
theorem dL_size_21 : decode cL_size 21 = .ok (.iconst 2, 1) := dec_of t_L_size_ok 14 rfl
theorem dL_size_22 : decode cL_size 22 = .ok (.ireturn, 1) := dec_of t_L_size_ok 15 rfl
theorem dL_size_23 : decode cL_size 23 = .ok (.iconst 0, 1) := dec_of t_L_size_ok 16 rfl
theorem dL_size_24 : decode cL_size 24 = .ok (.ireturn, 1) := dec_of t_L_size_ok 17 rfl
def t_L_sign : List (Nat × Instr × Nat) := [(0, .aload 5, 2), (2, .iconst 0, 1), (3, .aload_n 0, 1), (4, .iload_n 1, 1), (5, .iload_n 2, 1), (6, .iload_n 3, 1), (7, .iload 4, 2), (9, .invokevirtual 71, 3), (12, .i2l, 1), (13, .lastore, 1), (14, .goto 11, 3), (17, .astore 6, 2), (19, .iconst 1, 1), (20, .ireturn, 1), (21, .astore 6, 2), (23, .iconst 2, 1), (24, .ireturn, 1), (25, .iconst 0, 1), (26, .ireturn, 1)]
theorem t_L_sign_ok : dec_ok cL_sign t_L_sign = true := by decide +kernel
theorem dL_sign_0 : decode cL_sign 0 = .ok (.aload 5, 2) := dec_of t_L_sign_ok 0 rfl
theorem dL_sign_2 : decode cL_sign 2 = .ok (.iconst 0, 1) := dec_of t_L_sign_ok 1 rfl
theorem dL_sign_3 : decode cL_sign 3 = .ok (.aload_n 0, 1) := dec_of t_L_sign_ok 2 rfl
theorem dL_sign_4 : decode cL_sign 4 = .ok (.iload_n 1, 1) := dec_of t_L_sign_ok 3 rfl
theorem dL_sign_5 : decode cL_sign 5 = .ok (.iload_n 2, 1) := dec_of t_L_sign_ok 4 rfl
theorem dL_sign_6 : decode cL_sign 6 = .ok (.iload_n 3, 1) := dec_of t_L_sign_ok 5 rfl
theorem dL_sign_7 : decode cL_sign 7 = .ok (.iload 4, 2) := dec_of t_L_sign_ok 6 rfl
theorem dL_sign_9 : decode cL_sign 9 = .ok (.invokevirtual 71, 3) := dec_of t_L_sign_ok 7 rfl
theorem dL_sign_12 : decode cL_sign 12 = .ok (.i2l, 1) := dec_of t_L_sign_ok 8 rfl
theorem dL_sign_13 : decode cL_sign 13 = .ok (.lastore, 1) := dec_of t_L_sign_ok 9 rfl
theorem dL_sign_14 : decode cL_sign 14 = .ok (.goto 11, 3) := dec_of t_L_sign_ok 10 rfl
theorem dL_sign_17 : decode cL_sign 17 = .ok (.astore 6, 2) := dec_of t_L_sign_ok 11 rfl
theorem dL_sign_19 : decode cL_sign 19 = .ok (.iconst 1, 1) := dec_of t_L_sign_ok 12 rfl
theorem dL_sign_20 : decode cL_sign 20 = .ok (.ireturn, 1) := dec_of t_L_sign_ok 13 rfl
theorem dL_sign_21 : decode cL_sign 21 = .ok (.astore 6, 2) := dec_of t_L_sign_ok 14 rfl
theorem dL_sign_23 : decode cL_sign 23 = .ok (.iconst 2, 1) := dec_of t_L_sign_ok 15 rfl
theorem dL_sign_24 : decode cL_sign 24 = .ok (.ireturn, 1) := dec_of t_L_sign_ok 16 rfl
theorem dL_sign_25 : decode cL_sign 25 = .ok (.iconst 0, 1) := dec_of t_L_sign_ok 17 rfl
theorem dL_sign_26 : decode cL_sign 26 = .ok (.ireturn, 1) := dec_of t_L_sign_ok 18 rfl
def t_L_apply : List (Nat × Instr × Nat) := [(0, .aload 5, 2), (2, .iconst 0, 1), (3, .aload_n 0, 1), (4, .iload_n 1, 1), (5, .iload_n 2, 1), (6, .iload_n 3, 1), (7, .iload 4, 2), (9, .invokevirtual 75, 3), (12, .i2l, 1), (13, .lastore, 1), (14, .goto 15, 3), (17, .astore 6, 2), (19, .iconst 1, 1), (20, .ireturn, 1), (21, .astore 6, 2), (23, .iconst 2, 1), (24, .ireturn, 1), (25, .astore 6, 2), (27, .iconst 3, 1), (28, .ireturn, 1), (29, .iconst 0, 1), (30, .ireturn, 1)]
theorem t_L_apply_ok : dec_ok cL_apply t_L_apply = true := by decide +kernel
theorem dL_apply_0 : decode cL_apply 0 = .ok (.aload 5, 2) := dec_of t_L_apply_ok 0 rfl
theorem dL_apply_2 : decode cL_apply 2 = .ok (.iconst 0, 1) := dec_of t_L_apply_ok 1 rfl
theorem dL_apply_3 : decode cL_apply 3 = .ok (.aload_n 0, 1) := dec_of t_L_apply_ok 2 rfl
theorem dL_apply_4 : decode cL_apply 4 = .ok (.iload_n 1, 1) := dec_of t_L_apply_ok 3 rfl
theorem dL_apply_5 : decode cL_apply 5 = .ok (.iload_n 2, 1) := dec_of t_L_apply_ok 4 rfl
theorem dL_apply_6 : decode cL_apply 6 = .ok (.iload_n 3, 1) := dec_of t_L_apply_ok 5 rfl
theorem dL_apply_7 : decode cL_apply 7 = .ok (.iload 4, 2) := dec_of t_L_apply_ok 6 rfl
theorem dL_apply_9 : decode cL_apply 9 = .ok (.invokevirtual 75, 3) := dec_of t_L_apply_ok 7 rfl
theorem dL_apply_12 : decode cL_apply 12 = .ok (.i2l, 1) := dec_of t_L_apply_ok 8 rfl
theorem dL_apply_13 : decode cL_apply 13 = .ok (.lastore, 1) := dec_of t_L_apply_ok 9 rfl
theorem dL_apply_14 : decode cL_apply 14 = .ok (.goto 15, 3) := dec_of t_L_apply_ok 10 rfl
theorem dL_apply_17 : decode cL_apply 17 = .ok (.astore 6, 2) := dec_of t_L_apply_ok 11 rfl
theorem dL_apply_19 : decode cL_apply 19 = .ok (.iconst 1, 1) := dec_of t_L_apply_ok 12 rfl
theorem dL_apply_20 : decode cL_apply 20 = .ok (.ireturn, 1) := dec_of t_L_apply_ok 13 rfl
theorem dL_apply_21 : decode cL_apply 21 = .ok (.astore 6, 2) := dec_of t_L_apply_ok 14 rfl
theorem dL_apply_23 : decode cL_apply 23 = .ok (.iconst 2, 1) := dec_of t_L_apply_ok 15 rfl
theorem dL_apply_24 : decode cL_apply 24 = .ok (.ireturn, 1) := dec_of t_L_apply_ok 16 rfl
theorem dL_apply_25 : decode cL_apply 25 = .ok (.astore 6, 2) := dec_of t_L_apply_ok 17 rfl
theorem dL_apply_27 : decode cL_apply 27 = .ok (.iconst 3, 1) := dec_of t_L_apply_ok 18 rfl
theorem dL_apply_28 : decode cL_apply 28 = .ok (.ireturn, 1) := dec_of t_L_apply_ok 19 rfl
theorem dL_apply_29 : decode cL_apply 29 = .ok (.iconst 0, 1) := dec_of t_L_apply_ok 20 rfl
theorem dL_apply_30 : decode cL_apply 30 = .ok (.ireturn, 1) := dec_of t_L_apply_ok 21 rfl
def t_L_ignore : List (Nat × Instr × Nat) := [(0, .aload_n 3, 1), (1, .iconst 0, 1), (2, .aload_n 0, 1), (3, .iload_n 1, 1), (4, .iload_n 2, 1), (5, .invokevirtual 79, 3), (8, .i2l, 1), (9, .lastore, 1), (10, .goto 15, 3), (13, .astore 4, 2), (15, .iconst 1, 1), (16, .ireturn, 1), (17, .astore 4, 2), (19, .iconst 2, 1), (20, .ireturn, 1), (21, .astore 4, 2), (23, .iconst 3, 1), (24, .ireturn, 1), (25, .iconst 0, 1), (26, .ireturn, 1)]
theorem t_L_ignore_ok : dec_ok cL_ignore t_L_ignore = true := by decide +kernel
theorem dL_ignore_0 : decode cL_ignore 0 = .ok (.aload_n 3, 1) := dec_of t_L_ignore_ok 0 rfl
theorem dL_ignore_1 : decode cL_ignore 1 = .ok (.iconst 0, 1) := dec_of t_L_ignore_ok 1 rfl
theorem dL_ignore_2 : decode cL_ignore 2 = .ok (.aload_n 0, 1) := dec_of t_L_ignore_ok 2 rfl
theorem dL_ignore_3 : decode cL_ignore 3 = .ok (.iload_n 1, 1) := dec_of t_L_ignore_ok 3 rfl
theorem dL_ignore_4 : decode cL_ignore 4 = .ok (.iload_n 2, 1) := dec_of t_L_ignore_ok 4 rfl
theorem dL_ignore_5 : decode cL_ignore 5 = .ok (.invokevirtual 79, 3) := dec_of t_L_ignore_ok 5 rfl
theorem dL_ignore_8 : decode cL_ignore 8 = .ok (.i2l, 1) := dec_of t_L_ignore_ok 6 rfl
theorem dL_ignore_9 : decode cL_ignore 9 = .ok (.lastore, 1) := dec_of t_L_ignore_ok 7 rfl
theorem dL_ignore_10 : decode cL_ignore 10 = .ok (.goto 15, 3) := dec_of t_L_ignore_ok 8 rfl
theorem dL_ignore_13 : decode cL_ignore 13 = .ok (.astore 4, 2) := dec_of t_L_ignore_ok 9 rfl
theorem dL_ignore_15 : decode cL_ignore 15 = .ok (.iconst 1, 1) := dec_of t_L_ignore_ok 10 rfl
theorem dL_ignore_16 : decode cL_ignore 16 = .ok (.ireturn, 1) := dec_of t_L_ignore_ok 11 rfl
theorem dL_ignore_17 : decode cL_ignore 17 = .ok (.astore 4, 2) := dec_of t_L_ignore_ok 12 rfl
theorem dL_ignore_19 : decode cL_ignore 19 = .ok (.iconst 2, 1) := dec_of t_L_ignore_ok 13 rfl
theorem dL_ignore_20 : decode cL_ignore 20 = .ok (.ireturn, 1) := dec_of t_L_ignore_ok 14 rfl
theorem dL_ignore_21 : decode cL_ignore 21 = .ok (.astore 4, 2) := dec_of t_L_ignore_ok 15 rfl
theorem dL_ignore_23 : decode cL_ignore 23 = .ok (.iconst 3, 1) := dec_of t_L_ignore_ok 16 rfl
theorem dL_ignore_24 : decode cL_ignore 24 = .ok (.ireturn, 1) := dec_of t_L_ignore_ok 17 rfl
theorem dL_ignore_25 : decode cL_ignore 25 = .ok (.iconst 0, 1) := dec_of t_L_ignore_ok 18 rfl
theorem dL_ignore_26 : decode cL_ignore 26 = .ok (.ireturn, 1) := dec_of t_L_ignore_ok 19 rfl
def t_L_ignored : List (Nat × Instr × Nat) := [(0, .aload_n 2, 1), (1, .iconst 0, 1), (2, .aload_n 0, 1), (3, .iload_n 1, 1), (4, .invokevirtual 82, 3), (7, .i2l, 1), (8, .lastore, 1), (9, .goto 6, 3), (12, .astore_n 3, 1), (13, .iconst 1, 1), (14, .ireturn, 1), (15, .iconst 0, 1), (16, .ireturn, 1)]
theorem t_L_ignored_ok : dec_ok cL_ignored t_L_ignored = true := by decide +kernel
theorem dL_ignored_0 : decode cL_ignored 0 = .ok (.aload_n 2, 1) := dec_of t_L_ignored_ok 0 rfl
theorem dL_ignored_1 : decode cL_ignored 1 = .ok (.iconst 0, 1) := dec_of t_L_ignored_ok 1 rfl
theorem dL_ignored_2 : decode cL_ignored 2 = .ok (.aload_n 0, 1) := dec_of t_L_ignored_ok 2 rfl
theorem dL_ignored_3 : decode cL_ignored 3 = .ok (.iload_n 1, 1) := dec_of t_L_ignored_ok 3 rfl
theorem dL_ignored_4 : decode cL_ignored 4 = .ok (.invokevirtual 82, 3) := dec_of t_L_ignored_ok 4 rfl
theorem dL_ignored_7 : decode cL_ignored 7 = .ok (.i2l, 1) := dec_of t_L_ignored_ok 5 rfl
theorem dL_ignored_8 : decode cL_ignored 8 = .ok (.lastore, 1) := dec_of t_L_ignored_ok 6 rfl
theorem dL_ignored_9 : decode cL_ignored 9 = .ok (.goto 6, 3) := dec_of t_L_ignored_ok 7 rfl
theorem dL_ignored_12 : decode cL_ignored 12 = .ok (.astore_n 3, 1) := dec_of t_L_ignored_ok 8 rfl
theorem dL_ignored_13 : decode cL_ignored 13 = .ok (.iconst 1, 1) := dec_of t_L_ignored_ok 9 rfl
theorem dL_ignored_14 : decode cL_ignored 14 = .ok (.ireturn, 1) := dec_of t_L_ignored_ok 10 rfl
theorem dL_ignored_15 : decode cL_ignored 15 = .ok (.iconst 0, 1) := dec_of t_L_ignored_ok 11 rfl
theorem dL_ignored_16 : decode cL_ignored 16 = .ok (.ireturn, 1) := dec_of t_L_ignored_ok 12 rfl
def t_L_heed : List (Nat × Instr × Nat) := [(0, .aload_n 2, 1), (1, .iconst 0, 1), (2, .aload_n 0, 1), (3, .iload_n 1, 1), (4, .invokevirtual 85, 3), (7, .i2l, 1), (8, .lastore, 1), (9, .goto 6, 3), (12, .astore_n 3, 1), (13, .iconst 1, 1), (14, .ireturn, 1), (15, .iconst 0, 1), (16, .ireturn, 1)]
theorem t_L_heed_ok : dec_ok cL_heed t_L_heed = true := by decide +kernel
theorem dL_heed_0 : decode cL_heed 0 = .ok (.aload_n 2, 1) := dec_of t_L_heed_ok 0 rfl
theorem dL_heed_1 : decode cL_heed 1 = .ok (.iconst 0, 1) := dec_of t_L_heed_ok 1 rfl
theorem dL_heed_2 : decode cL_heed 2 = .ok (.aload_n 0, 1) := dec_of t_L_heed_ok 2 rfl
theorem dL_heed_3 : decode cL_heed 3 = .ok (.iload_n 1, 1) := dec_of t_L_heed_ok 3 rfl
theorem dL_heed_4 : decode cL_heed 4 = .ok (.invokevirtual 85, 3) := dec_of t_L_heed_ok 4 rfl
theorem dL_heed_7 : decode cL_heed 7 = .ok (.i2l, 1) := dec_of t_L_heed_ok 5 rfl
theorem dL_heed_8 : decode cL_heed 8 = .ok (.lastore, 1) := dec_of t_L_heed_ok 6 rfl
theorem dL_heed_9 : decode cL_heed 9 = .ok (.goto 6, 3) := dec_of t_L_heed_ok 7 rfl
theorem dL_heed_12 : decode cL_heed 12 = .ok (.astore_n 3, 1) := dec_of t_L_heed_ok 8 rfl
theorem dL_heed_13 : decode cL_heed 13 = .ok (.iconst 1, 1) := dec_of t_L_heed_ok 9 rfl
theorem dL_heed_14 : decode cL_heed 14 = .ok (.ireturn, 1) := dec_of t_L_heed_ok 10 rfl
theorem dL_heed_15 : decode cL_heed 15 = .ok (.iconst 0, 1) := dec_of t_L_heed_ok 11 rfl
theorem dL_heed_16 : decode cL_heed 16 = .ok (.ireturn, 1) := dec_of t_L_heed_ok 12 rfl
def t_L_check : List (Nat × Instr × Nat) := [(0, .aload_n 2, 1), (1, .iconst 0, 1), (2, .aload_n 0, 1), (3, .iload_n 1, 1), (4, .invokevirtual 88, 3), (7, .i2l, 1), (8, .lastore, 1), (9, .goto 6, 3), (12, .astore_n 3, 1), (13, .iconst 1, 1), (14, .ireturn, 1), (15, .iconst 0, 1), (16, .ireturn, 1)]
theorem t_L_check_ok : dec_ok cL_check t_L_check = true := by decide +kernel
theorem dL_check_0 : decode cL_check 0 = .ok (.aload_n 2, 1) := dec_of t_L_check_ok 0 rfl
theorem dL_check_1 : decode cL_check 1 = .ok (.iconst 0, 1) := dec_of t_L_check_ok 1 rfl
theorem dL_check_2 : decode cL_check 2 = .ok (.aload_n 0, 1) := dec_of t_L_check_ok 2 rfl
theorem dL_check_3 : decode cL_check 3 = .ok (.iload_n 1, 1) := dec_of t_L_check_ok 3 rfl
theorem dL_check_4 : decode cL_check 4 = .ok (.invokevirtual 88, 3) := dec_of t_L_check_ok 4 rfl
theorem dL_check_7 : decode cL_check 7 = .ok (.i2l, 1) := dec_of t_L_check_ok 5 rfl
theorem dL_check_8 : decode cL_check 8 = .ok (.lastore, 1) := dec_of t_L_check_ok 6 rfl
theorem dL_check_9 : decode cL_check 9 = .ok (.goto 6, 3) := dec_of t_L_check_ok 7 rfl
theorem dL_check_12 : decode cL_check 12 = .ok (.astore_n 3, 1) := dec_of t_L_check_ok 8 rfl
theorem dL_check_13 : decode cL_check 13 = .ok (.iconst 1, 1) := dec_of t_L_check_ok 9 rfl
theorem dL_check_14 : decode cL_check 14 = .ok (.ireturn, 1) := dec_of t_L_check_ok 10 rfl
theorem dL_check_15 : decode cL_check 15 = .ok (.iconst 0, 1) := dec_of t_L_check_ok 11 rfl
theorem dL_check_16 : decode cL_check 16 = .ok (.ireturn, 1) := dec_of t_L_check_ok 12 rfl
def t_L_byRule : List (Nat × Instr × Nat) := [(0, .aload_n 3, 1), (1, .iconst 0, 1), (2, .aload_n 0, 1), (3, .iload_n 1, 1), (4, .iload_n 2, 1), (5, .invokevirtual 91, 3), (8, .i2l, 1), (9, .lastore, 1), (10, .goto 7, 3), (13, .astore 4, 2), (15, .iconst 1, 1), (16, .ireturn, 1), (17, .iconst 0, 1), (18, .ireturn, 1)]
theorem t_L_byRule_ok : dec_ok cL_byRule t_L_byRule = true := by decide +kernel
theorem dL_byRule_0 : decode cL_byRule 0 = .ok (.aload_n 3, 1) := dec_of t_L_byRule_ok 0 rfl
theorem dL_byRule_1 : decode cL_byRule 1 = .ok (.iconst 0, 1) := dec_of t_L_byRule_ok 1 rfl
theorem dL_byRule_2 : decode cL_byRule 2 = .ok (.aload_n 0, 1) := dec_of t_L_byRule_ok 2 rfl
theorem dL_byRule_3 : decode cL_byRule 3 = .ok (.iload_n 1, 1) := dec_of t_L_byRule_ok 3 rfl
theorem dL_byRule_4 : decode cL_byRule 4 = .ok (.iload_n 2, 1) := dec_of t_L_byRule_ok 4 rfl
theorem dL_byRule_5 : decode cL_byRule 5 = .ok (.invokevirtual 91, 3) := dec_of t_L_byRule_ok 5 rfl
theorem dL_byRule_8 : decode cL_byRule 8 = .ok (.i2l, 1) := dec_of t_L_byRule_ok 6 rfl
theorem dL_byRule_9 : decode cL_byRule 9 = .ok (.lastore, 1) := dec_of t_L_byRule_ok 7 rfl
theorem dL_byRule_10 : decode cL_byRule 10 = .ok (.goto 7, 3) := dec_of t_L_byRule_ok 8 rfl
theorem dL_byRule_13 : decode cL_byRule 13 = .ok (.astore 4, 2) := dec_of t_L_byRule_ok 9 rfl
theorem dL_byRule_15 : decode cL_byRule 15 = .ok (.iconst 1, 1) := dec_of t_L_byRule_ok 10 rfl
theorem dL_byRule_16 : decode cL_byRule 16 = .ok (.ireturn, 1) := dec_of t_L_byRule_ok 11 rfl
theorem dL_byRule_17 : decode cL_byRule 17 = .ok (.iconst 0, 1) := dec_of t_L_byRule_ok 12 rfl
theorem dL_byRule_18 : decode cL_byRule 18 = .ok (.ireturn, 1) := dec_of t_L_byRule_ok 13 rfl
def t_L_byWriter : List (Nat × Instr × Nat) := [(0, .aload_n 3, 1), (1, .iconst 0, 1), (2, .aload_n 0, 1), (3, .iload_n 1, 1), (4, .iload_n 2, 1), (5, .invokevirtual 94, 3), (8, .i2l, 1), (9, .lastore, 1), (10, .goto 7, 3), (13, .astore 4, 2), (15, .iconst 1, 1), (16, .ireturn, 1), (17, .iconst 0, 1), (18, .ireturn, 1)]
theorem t_L_byWriter_ok : dec_ok cL_byWriter t_L_byWriter = true := by decide +kernel
theorem dL_byWriter_0 : decode cL_byWriter 0 = .ok (.aload_n 3, 1) := dec_of t_L_byWriter_ok 0 rfl
theorem dL_byWriter_1 : decode cL_byWriter 1 = .ok (.iconst 0, 1) := dec_of t_L_byWriter_ok 1 rfl
theorem dL_byWriter_2 : decode cL_byWriter 2 = .ok (.aload_n 0, 1) := dec_of t_L_byWriter_ok 2 rfl
theorem dL_byWriter_3 : decode cL_byWriter 3 = .ok (.iload_n 1, 1) := dec_of t_L_byWriter_ok 3 rfl
theorem dL_byWriter_4 : decode cL_byWriter 4 = .ok (.iload_n 2, 1) := dec_of t_L_byWriter_ok 4 rfl
theorem dL_byWriter_5 : decode cL_byWriter 5 = .ok (.invokevirtual 94, 3) := dec_of t_L_byWriter_ok 5 rfl
theorem dL_byWriter_8 : decode cL_byWriter 8 = .ok (.i2l, 1) := dec_of t_L_byWriter_ok 6 rfl
theorem dL_byWriter_9 : decode cL_byWriter 9 = .ok (.lastore, 1) := dec_of t_L_byWriter_ok 7 rfl
theorem dL_byWriter_10 : decode cL_byWriter 10 = .ok (.goto 7, 3) := dec_of t_L_byWriter_ok 8 rfl
theorem dL_byWriter_13 : decode cL_byWriter 13 = .ok (.astore 4, 2) := dec_of t_L_byWriter_ok 9 rfl
theorem dL_byWriter_15 : decode cL_byWriter 15 = .ok (.iconst 1, 1) := dec_of t_L_byWriter_ok 10 rfl
theorem dL_byWriter_16 : decode cL_byWriter 16 = .ok (.ireturn, 1) := dec_of t_L_byWriter_ok 11 rfl
theorem dL_byWriter_17 : decode cL_byWriter 17 = .ok (.iconst 0, 1) := dec_of t_L_byWriter_ok 12 rfl
theorem dL_byWriter_18 : decode cL_byWriter 18 = .ok (.ireturn, 1) := dec_of t_L_byWriter_ok 13 rfl
def t_L_foundShare : List (Nat × Instr × Nat) := [(0, .aload_n 2, 1), (1, .iconst 0, 1), (2, .aload_n 0, 1), (3, .iload_n 1, 1), (4, .invokevirtual 97, 3), (7, .f2d, 1), (8, .dastore, 1), (9, .goto 9, 3), (12, .astore_n 3, 1), (13, .iconst 1, 1), (14, .ireturn, 1), (15, .astore_n 3, 1), (16, .iconst 2, 1), (17, .ireturn, 1), (18, .iconst 0, 1), (19, .ireturn, 1)]
theorem t_L_foundShare_ok : dec_ok cL_foundShare t_L_foundShare = true := by decide +kernel
theorem dL_foundShare_0 : decode cL_foundShare 0 = .ok (.aload_n 2, 1) := dec_of t_L_foundShare_ok 0 rfl
theorem dL_foundShare_1 : decode cL_foundShare 1 = .ok (.iconst 0, 1) := dec_of t_L_foundShare_ok 1 rfl
theorem dL_foundShare_2 : decode cL_foundShare 2 = .ok (.aload_n 0, 1) := dec_of t_L_foundShare_ok 2 rfl
theorem dL_foundShare_3 : decode cL_foundShare 3 = .ok (.iload_n 1, 1) := dec_of t_L_foundShare_ok 3 rfl
theorem dL_foundShare_4 : decode cL_foundShare 4 = .ok (.invokevirtual 97, 3) := dec_of t_L_foundShare_ok 4 rfl
theorem dL_foundShare_7 : decode cL_foundShare 7 = .ok (.f2d, 1) := dec_of t_L_foundShare_ok 5 rfl
theorem dL_foundShare_8 : decode cL_foundShare 8 = .ok (.dastore, 1) := dec_of t_L_foundShare_ok 6 rfl
theorem dL_foundShare_9 : decode cL_foundShare 9 = .ok (.goto 9, 3) := dec_of t_L_foundShare_ok 7 rfl
theorem dL_foundShare_12 : decode cL_foundShare 12 = .ok (.astore_n 3, 1) := dec_of t_L_foundShare_ok 8 rfl
theorem dL_foundShare_13 : decode cL_foundShare 13 = .ok (.iconst 1, 1) := dec_of t_L_foundShare_ok 9 rfl
theorem dL_foundShare_14 : decode cL_foundShare 14 = .ok (.ireturn, 1) := dec_of t_L_foundShare_ok 10 rfl
theorem dL_foundShare_15 : decode cL_foundShare 15 = .ok (.astore_n 3, 1) := dec_of t_L_foundShare_ok 11 rfl
theorem dL_foundShare_16 : decode cL_foundShare 16 = .ok (.iconst 2, 1) := dec_of t_L_foundShare_ok 12 rfl
theorem dL_foundShare_17 : decode cL_foundShare 17 = .ok (.ireturn, 1) := dec_of t_L_foundShare_ok 13 rfl
theorem dL_foundShare_18 : decode cL_foundShare 18 = .ok (.iconst 0, 1) := dec_of t_L_foundShare_ok 14 rfl
theorem dL_foundShare_19 : decode cL_foundShare 19 = .ok (.ireturn, 1) := dec_of t_L_foundShare_ok 15 rfl
def t_L_meanWord : List (Nat × Instr × Nat) := [(0, .aload_n 1, 1), (1, .iconst 0, 1), (2, .aload_n 0, 1), (3, .invokevirtual 103, 3), (6, .dastore, 1), (7, .goto 6, 3), (10, .astore_n 2, 1), (11, .iconst 1, 1), (12, .ireturn, 1), (13, .iconst 0, 1), (14, .ireturn, 1)]
theorem t_L_meanWord_ok : dec_ok cL_meanWord t_L_meanWord = true := by decide +kernel
theorem dL_meanWord_0 : decode cL_meanWord 0 = .ok (.aload_n 1, 1) := dec_of t_L_meanWord_ok 0 rfl
theorem dL_meanWord_1 : decode cL_meanWord 1 = .ok (.iconst 0, 1) := dec_of t_L_meanWord_ok 1 rfl
theorem dL_meanWord_2 : decode cL_meanWord 2 = .ok (.aload_n 0, 1) := dec_of t_L_meanWord_ok 2 rfl
theorem dL_meanWord_3 : decode cL_meanWord 3 = .ok (.invokevirtual 103, 3) := dec_of t_L_meanWord_ok 3 rfl
theorem dL_meanWord_6 : decode cL_meanWord 6 = .ok (.dastore, 1) := dec_of t_L_meanWord_ok 4 rfl
theorem dL_meanWord_7 : decode cL_meanWord 7 = .ok (.goto 6, 3) := dec_of t_L_meanWord_ok 5 rfl
theorem dL_meanWord_10 : decode cL_meanWord 10 = .ok (.astore_n 2, 1) := dec_of t_L_meanWord_ok 6 rfl
theorem dL_meanWord_11 : decode cL_meanWord 11 = .ok (.iconst 1, 1) := dec_of t_L_meanWord_ok 7 rfl
theorem dL_meanWord_12 : decode cL_meanWord 12 = .ok (.ireturn, 1) := dec_of t_L_meanWord_ok 8 rfl
theorem dL_meanWord_13 : decode cL_meanWord 13 = .ok (.iconst 0, 1) := dec_of t_L_meanWord_ok 9 rfl
theorem dL_meanWord_14 : decode cL_meanWord 14 = .ok (.ireturn, 1) := dec_of t_L_meanWord_ok 10 rfl
def t_L_law0 : List (Nat × Instr × Nat) := [(0, .new 8, 3), (3, .dup, 1), (4, .invokespecial 107, 3), (7, .astore_n 1, 1), (8, .new 108, 3), (11, .dup, 1), (12, .invokespecial 110, 3), (15, .astore_n 2, 1), (16, .iconst 1, 1), (17, .newarray .long, 2), (19, .astore_n 3, 1), (20, .iconst 1, 1), (21, .newarray .double, 2), (23, .astore 4, 2), (25, .iconst 0, 1), (26, .istore 5, 2), (28, .iload 5, 2), (30, .aload_n 0, 1), (31, .arraylength, 1), (32, .iconst 5, 1), (33, .isub, 1), (34, .if_icmp .gt 1933, 3), (37, .aload_n 0, 1), (38, .iload 5, 2), (40, .iaload, 1), (41, .bipush 31, 2), (43, .iand, 1), (44, .tableswitch 1917 0 29 #[136, 194, 207, 289, 345, 401, 414, 512, 568, 624, 668, 771, 851, 919, 975, 1057, 1137, 1229, 1321, 1389, 1445, 1501, 1542, 1555, 1611, 1679, 1747, 1761, 1839, 1904], 136), (180, .aload_n 1, 1), (181, .aload_n 0, 1), (182, .iload 5, 2), (184, .iconst 1, 1), (185, .iadd, 1), (186, .iaload, 1), (187, .i2c, 1), (188, .aload_n 3, 1), (189, .invokestatic 111, 3), (192, .istore 6, 2), (194, .aload_n 2, 1), (195, .aload_n 0, 1), (196, .iload 5, 2), (198, .iconst 1, 1), (199, .iadd, 1), (200, .iaload, 1), (201, .i2c, 1), (202, .invokevirtual 116, 3), (205, .istore 7, 2), (207, .aload_n 2, 1), (208, .invokevirtual 117, 3), (211, .iload 6, 2), (213, .if_icmp .eq 5, 3), (216, .iconst 0, 1), (217, .ireturn, 1), (218, .iload 6, 2), (220, .ifCond .ne 15, 3), (223, .aload_n 3, 1), (224, .iconst 0, 1), (225, .laload, 1), (226, .iload 7, 2), (228, .i2l, 1), (229, .lcmp, 1), (230, .ifCond .eq 5, 3), (233, .iconst 0, 1), (234, .ireturn, 1), (235, .goto 1726, 3), (238, .aload_n 1, 1), (239, .invokevirtual 120, 3), (242, .aload_n 2, 1), (243, .invokevirtual 123, 3), (246, .if_icmp .eq 1715, 3), (249, .iconst 0, 1), (250, .ireturn, 1), (251, .aload_n 1, 1), (252, .aload_n 0, 1), (253, .iload 5, 2), (255, .iconst 1, 1), (256, .iadd, 1), (257, .iaload, 1), (258, .aload_n 0, 1), (259, .iload 5, 2), (261, .iconst 2, 1), (262, .iadd, 1), (263, .iaload, 1), (264, .i2c, 1), (265, .aload_n 0, 1), (266, .iload 5, 2), (268, .iconst 3, 1), (269, .iadd, 1), (270, .iaload, 1), (271, .aload_n 3, 1), (272, .invokestatic 124, 3), (275, .istore 6, 2), (277, .aload_n 2, 1), (278, .aload_n 0, 1), (279, .iload 5, 2), (281, .iconst 1, 1), (282, .iadd, 1), (283, .iaload, 1), (284, .aload_n 0, 1), (285, .iload 5, 2), (287, .iconst 2, 1), (288, .iadd, 1), (289, .iaload, 1), (290, .i2c, 1), (291, .aload_n 0, 1), (292, .iload 5, 2), (294, .iconst 3, 1), (295, .iadd, 1), (296, .iaload, 1), (297, .invokevirtual 127, 3), (300, .istore 7, 2), (302, .aload_n 2, 1), (303, .invokevirtual 117, 3), (306, .iload 6, 2), (308, .if_icmp .eq 5, 3), (311, .iconst 0, 1), (312, .ireturn, 1), (313, .iload 6, 2), (315, .ifCond .ne 15, 3), (318, .aload_n 3, 1)]
theorem t_L_law0_ok : dec_ok cL_law t_L_law0 = true := by decide +kernel
theorem dL_law_0 : decode cL_law 0 = .ok (.new 8, 3) := dec_of t_L_law0_ok 0 rfl
theorem dL_law_3 : decode cL_law 3 = .ok (.dup, 1) := dec_of t_L_law0_ok 1 rfl
theorem dL_law_4 : decode cL_law 4 = .ok (.invokespecial 107, 3) := dec_of t_L_law0_ok 2 rfl
theorem dL_law_7 : decode cL_law 7 = .ok (.astore_n 1, 1) := dec_of t_L_law0_ok 3 rfl
theorem dL_law_8 : decode cL_law 8 = .ok (.new 108, 3) := dec_of t_L_law0_ok 4 rfl
theorem dL_law_11 : decode cL_law 11 = .ok (.dup, 1) := dec_of t_L_law0_ok 5 rfl
theorem dL_law_12 : decode cL_law 12 = .ok (.invokespecial 110, 3) := dec_of t_L_law0_ok 6 rfl
theorem dL_law_15 : decode cL_law 15 = .ok (.astore_n 2, 1) := dec_of t_L_law0_ok 7 rfl
theorem dL_law_16 : decode cL_law 16 = .ok (.iconst 1, 1) := dec_of t_L_law0_ok 8 rfl
theorem dL_law_17 : decode cL_law 17 = .ok (.newarray .long, 2) := dec_of t_L_law0_ok 9 rfl
theorem dL_law_19 : decode cL_law 19 = .ok (.astore_n 3, 1) := dec_of t_L_law0_ok 10 rfl
theorem dL_law_20 : decode cL_law 20 = .ok (.iconst 1, 1) := dec_of t_L_law0_ok 11 rfl
theorem dL_law_21 : decode cL_law 21 = .ok (.newarray .double, 2) := dec_of t_L_law0_ok 12 rfl
theorem dL_law_23 : decode cL_law 23 = .ok (.astore 4, 2) := dec_of t_L_law0_ok 13 rfl
theorem dL_law_25 : decode cL_law 25 = .ok (.iconst 0, 1) := dec_of t_L_law0_ok 14 rfl
theorem dL_law_26 : decode cL_law 26 = .ok (.istore 5, 2) := dec_of t_L_law0_ok 15 rfl
theorem dL_law_28 : decode cL_law 28 = .ok (.iload 5, 2) := dec_of t_L_law0_ok 16 rfl
theorem dL_law_30 : decode cL_law 30 = .ok (.aload_n 0, 1) := dec_of t_L_law0_ok 17 rfl
theorem dL_law_31 : decode cL_law 31 = .ok (.arraylength, 1) := dec_of t_L_law0_ok 18 rfl
theorem dL_law_32 : decode cL_law 32 = .ok (.iconst 5, 1) := dec_of t_L_law0_ok 19 rfl
theorem dL_law_33 : decode cL_law 33 = .ok (.isub, 1) := dec_of t_L_law0_ok 20 rfl
theorem dL_law_34 : decode cL_law 34 = .ok (.if_icmp .gt 1933, 3) := dec_of t_L_law0_ok 21 rfl
theorem dL_law_37 : decode cL_law 37 = .ok (.aload_n 0, 1) := dec_of t_L_law0_ok 22 rfl
theorem dL_law_38 : decode cL_law 38 = .ok (.iload 5, 2) := dec_of t_L_law0_ok 23 rfl
theorem dL_law_40 : decode cL_law 40 = .ok (.iaload, 1) := dec_of t_L_law0_ok 24 rfl
theorem dL_law_41 : decode cL_law 41 = .ok (.bipush 31, 2) := dec_of t_L_law0_ok 25 rfl
theorem dL_law_43 : decode cL_law 43 = .ok (.iand, 1) := dec_of t_L_law0_ok 26 rfl
theorem dL_law_44 : decode cL_law 44 = .ok (.tableswitch 1917 0 29 #[136, 194, 207, 289, 345, 401, 414, 512, 568, 624, 668, 771, 851, 919, 975, 1057, 1137, 1229, 1321, 1389, 1445, 1501, 1542, 1555, 1611, 1679, 1747, 1761, 1839, 1904], 136) := dec_of t_L_law0_ok 27 rfl
theorem dL_law_180 : decode cL_law 180 = .ok (.aload_n 1, 1) := dec_of t_L_law0_ok 28 rfl
theorem dL_law_181 : decode cL_law 181 = .ok (.aload_n 0, 1) := dec_of t_L_law0_ok 29 rfl
theorem dL_law_182 : decode cL_law 182 = .ok (.iload 5, 2) := dec_of t_L_law0_ok 30 rfl
theorem dL_law_184 : decode cL_law 184 = .ok (.iconst 1, 1) := dec_of t_L_law0_ok 31 rfl
theorem dL_law_185 : decode cL_law 185 = .ok (.iadd, 1) := dec_of t_L_law0_ok 32 rfl
theorem dL_law_186 : decode cL_law 186 = .ok (.iaload, 1) := dec_of t_L_law0_ok 33 rfl
theorem dL_law_187 : decode cL_law 187 = .ok (.i2c, 1) := dec_of t_L_law0_ok 34 rfl
theorem dL_law_188 : decode cL_law 188 = .ok (.aload_n 3, 1) := dec_of t_L_law0_ok 35 rfl
theorem dL_law_189 : decode cL_law 189 = .ok (.invokestatic 111, 3) := dec_of t_L_law0_ok 36 rfl
theorem dL_law_192 : decode cL_law 192 = .ok (.istore 6, 2) := dec_of t_L_law0_ok 37 rfl
theorem dL_law_194 : decode cL_law 194 = .ok (.aload_n 2, 1) := dec_of t_L_law0_ok 38 rfl
theorem dL_law_195 : decode cL_law 195 = .ok (.aload_n 0, 1) := dec_of t_L_law0_ok 39 rfl
theorem dL_law_196 : decode cL_law 196 = .ok (.iload 5, 2) := dec_of t_L_law0_ok 40 rfl
theorem dL_law_198 : decode cL_law 198 = .ok (.iconst 1, 1) := dec_of t_L_law0_ok 41 rfl
theorem dL_law_199 : decode cL_law 199 = .ok (.iadd, 1) := dec_of t_L_law0_ok 42 rfl
theorem dL_law_200 : decode cL_law 200 = .ok (.iaload, 1) := dec_of t_L_law0_ok 43 rfl
theorem dL_law_201 : decode cL_law 201 = .ok (.i2c, 1) := dec_of t_L_law0_ok 44 rfl
theorem dL_law_202 : decode cL_law 202 = .ok (.invokevirtual 116, 3) := dec_of t_L_law0_ok 45 rfl
theorem dL_law_205 : decode cL_law 205 = .ok (.istore 7, 2) := dec_of t_L_law0_ok 46 rfl
theorem dL_law_207 : decode cL_law 207 = .ok (.aload_n 2, 1) := dec_of t_L_law0_ok 47 rfl
theorem dL_law_208 : decode cL_law 208 = .ok (.invokevirtual 117, 3) := dec_of t_L_law0_ok 48 rfl
theorem dL_law_211 : decode cL_law 211 = .ok (.iload 6, 2) := dec_of t_L_law0_ok 49 rfl
theorem dL_law_213 : decode cL_law 213 = .ok (.if_icmp .eq 5, 3) := dec_of t_L_law0_ok 50 rfl
theorem dL_law_216 : decode cL_law 216 = .ok (.iconst 0, 1) := dec_of t_L_law0_ok 51 rfl
theorem dL_law_217 : decode cL_law 217 = .ok (.ireturn, 1) := dec_of t_L_law0_ok 52 rfl
theorem dL_law_218 : decode cL_law 218 = .ok (.iload 6, 2) := dec_of t_L_law0_ok 53 rfl
theorem dL_law_220 : decode cL_law 220 = .ok (.ifCond .ne 15, 3) := dec_of t_L_law0_ok 54 rfl
theorem dL_law_223 : decode cL_law 223 = .ok (.aload_n 3, 1) := dec_of t_L_law0_ok 55 rfl
theorem dL_law_224 : decode cL_law 224 = .ok (.iconst 0, 1) := dec_of t_L_law0_ok 56 rfl
theorem dL_law_225 : decode cL_law 225 = .ok (.laload, 1) := dec_of t_L_law0_ok 57 rfl
theorem dL_law_226 : decode cL_law 226 = .ok (.iload 7, 2) := dec_of t_L_law0_ok 58 rfl
theorem dL_law_228 : decode cL_law 228 = .ok (.i2l, 1) := dec_of t_L_law0_ok 59 rfl
theorem dL_law_229 : decode cL_law 229 = .ok (.lcmp, 1) := dec_of t_L_law0_ok 60 rfl
theorem dL_law_230 : decode cL_law 230 = .ok (.ifCond .eq 5, 3) := dec_of t_L_law0_ok 61 rfl
theorem dL_law_233 : decode cL_law 233 = .ok (.iconst 0, 1) := dec_of t_L_law0_ok 62 rfl
theorem dL_law_234 : decode cL_law 234 = .ok (.ireturn, 1) := dec_of t_L_law0_ok 63 rfl
theorem dL_law_235 : decode cL_law 235 = .ok (.goto 1726, 3) := dec_of t_L_law0_ok 64 rfl
theorem dL_law_238 : decode cL_law 238 = .ok (.aload_n 1, 1) := dec_of t_L_law0_ok 65 rfl
theorem dL_law_239 : decode cL_law 239 = .ok (.invokevirtual 120, 3) := dec_of t_L_law0_ok 66 rfl
theorem dL_law_242 : decode cL_law 242 = .ok (.aload_n 2, 1) := dec_of t_L_law0_ok 67 rfl
theorem dL_law_243 : decode cL_law 243 = .ok (.invokevirtual 123, 3) := dec_of t_L_law0_ok 68 rfl
theorem dL_law_246 : decode cL_law 246 = .ok (.if_icmp .eq 1715, 3) := dec_of t_L_law0_ok 69 rfl
theorem dL_law_249 : decode cL_law 249 = .ok (.iconst 0, 1) := dec_of t_L_law0_ok 70 rfl
theorem dL_law_250 : decode cL_law 250 = .ok (.ireturn, 1) := dec_of t_L_law0_ok 71 rfl
theorem dL_law_251 : decode cL_law 251 = .ok (.aload_n 1, 1) := dec_of t_L_law0_ok 72 rfl
theorem dL_law_252 : decode cL_law 252 = .ok (.aload_n 0, 1) := dec_of t_L_law0_ok 73 rfl
theorem dL_law_253 : decode cL_law 253 = .ok (.iload 5, 2) := dec_of t_L_law0_ok 74 rfl
theorem dL_law_255 : decode cL_law 255 = .ok (.iconst 1, 1) := dec_of t_L_law0_ok 75 rfl
theorem dL_law_256 : decode cL_law 256 = .ok (.iadd, 1) := dec_of t_L_law0_ok 76 rfl
theorem dL_law_257 : decode cL_law 257 = .ok (.iaload, 1) := dec_of t_L_law0_ok 77 rfl
theorem dL_law_258 : decode cL_law 258 = .ok (.aload_n 0, 1) := dec_of t_L_law0_ok 78 rfl
theorem dL_law_259 : decode cL_law 259 = .ok (.iload 5, 2) := dec_of t_L_law0_ok 79 rfl
theorem dL_law_261 : decode cL_law 261 = .ok (.iconst 2, 1) := dec_of t_L_law0_ok 80 rfl
theorem dL_law_262 : decode cL_law 262 = .ok (.iadd, 1) := dec_of t_L_law0_ok 81 rfl
theorem dL_law_263 : decode cL_law 263 = .ok (.iaload, 1) := dec_of t_L_law0_ok 82 rfl
theorem dL_law_264 : decode cL_law 264 = .ok (.i2c, 1) := dec_of t_L_law0_ok 83 rfl
theorem dL_law_265 : decode cL_law 265 = .ok (.aload_n 0, 1) := dec_of t_L_law0_ok 84 rfl
theorem dL_law_266 : decode cL_law 266 = .ok (.iload 5, 2) := dec_of t_L_law0_ok 85 rfl
theorem dL_law_268 : decode cL_law 268 = .ok (.iconst 3, 1) := dec_of t_L_law0_ok 86 rfl
theorem dL_law_269 : decode cL_law 269 = .ok (.iadd, 1) := dec_of t_L_law0_ok 87 rfl
theorem dL_law_270 : decode cL_law 270 = .ok (.iaload, 1) := dec_of t_L_law0_ok 88 rfl
theorem dL_law_271 : decode cL_law 271 = .ok (.aload_n 3, 1) := dec_of t_L_law0_ok 89 rfl
theorem dL_law_272 : decode cL_law 272 = .ok (.invokestatic 124, 3) := dec_of t_L_law0_ok 90 rfl
theorem dL_law_275 : decode cL_law 275 = .ok (.istore 6, 2) := dec_of t_L_law0_ok 91 rfl
theorem dL_law_277 : decode cL_law 277 = .ok (.aload_n 2, 1) := dec_of t_L_law0_ok 92 rfl
theorem dL_law_278 : decode cL_law 278 = .ok (.aload_n 0, 1) := dec_of t_L_law0_ok 93 rfl
theorem dL_law_279 : decode cL_law 279 = .ok (.iload 5, 2) := dec_of t_L_law0_ok 94 rfl
theorem dL_law_281 : decode cL_law 281 = .ok (.iconst 1, 1) := dec_of t_L_law0_ok 95 rfl
theorem dL_law_282 : decode cL_law 282 = .ok (.iadd, 1) := dec_of t_L_law0_ok 96 rfl
theorem dL_law_283 : decode cL_law 283 = .ok (.iaload, 1) := dec_of t_L_law0_ok 97 rfl
theorem dL_law_284 : decode cL_law 284 = .ok (.aload_n 0, 1) := dec_of t_L_law0_ok 98 rfl
theorem dL_law_285 : decode cL_law 285 = .ok (.iload 5, 2) := dec_of t_L_law0_ok 99 rfl
theorem dL_law_287 : decode cL_law 287 = .ok (.iconst 2, 1) := dec_of t_L_law0_ok 100 rfl
theorem dL_law_288 : decode cL_law 288 = .ok (.iadd, 1) := dec_of t_L_law0_ok 101 rfl
theorem dL_law_289 : decode cL_law 289 = .ok (.iaload, 1) := dec_of t_L_law0_ok 102 rfl
theorem dL_law_290 : decode cL_law 290 = .ok (.i2c, 1) := dec_of t_L_law0_ok 103 rfl
theorem dL_law_291 : decode cL_law 291 = .ok (.aload_n 0, 1) := dec_of t_L_law0_ok 104 rfl
theorem dL_law_292 : decode cL_law 292 = .ok (.iload 5, 2) := dec_of t_L_law0_ok 105 rfl
theorem dL_law_294 : decode cL_law 294 = .ok (.iconst 3, 1) := dec_of t_L_law0_ok 106 rfl
theorem dL_law_295 : decode cL_law 295 = .ok (.iadd, 1) := dec_of t_L_law0_ok 107 rfl
theorem dL_law_296 : decode cL_law 296 = .ok (.iaload, 1) := dec_of t_L_law0_ok 108 rfl
theorem dL_law_297 : decode cL_law 297 = .ok (.invokevirtual 127, 3) := dec_of t_L_law0_ok 109 rfl
theorem dL_law_300 : decode cL_law 300 = .ok (.istore 7, 2) := dec_of t_L_law0_ok 110 rfl
theorem dL_law_302 : decode cL_law 302 = .ok (.aload_n 2, 1) := dec_of t_L_law0_ok 111 rfl
theorem dL_law_303 : decode cL_law 303 = .ok (.invokevirtual 117, 3) := dec_of t_L_law0_ok 112 rfl
theorem dL_law_306 : decode cL_law 306 = .ok (.iload 6, 2) := dec_of t_L_law0_ok 113 rfl
theorem dL_law_308 : decode cL_law 308 = .ok (.if_icmp .eq 5, 3) := dec_of t_L_law0_ok 114 rfl
theorem dL_law_311 : decode cL_law 311 = .ok (.iconst 0, 1) := dec_of t_L_law0_ok 115 rfl
theorem dL_law_312 : decode cL_law 312 = .ok (.ireturn, 1) := dec_of t_L_law0_ok 116 rfl
theorem dL_law_313 : decode cL_law 313 = .ok (.iload 6, 2) := dec_of t_L_law0_ok 117 rfl
theorem dL_law_315 : decode cL_law 315 = .ok (.ifCond .ne 15, 3) := dec_of t_L_law0_ok 118 rfl
theorem dL_law_318 : decode cL_law 318 = .ok (.aload_n 3, 1) := dec_of t_L_law0_ok 119 rfl
def t_L_law1 : List (Nat × Instr × Nat) := [(319, .iconst 0, 1), (320, .laload, 1), (321, .iload 7, 2), (323, .i2l, 1), (324, .lcmp, 1), (325, .ifCond .eq 5, 3), (328, .iconst 0, 1), (329, .ireturn, 1), (330, .goto 1631, 3), (333, .aload_n 1, 1), (334, .aload_n 0, 1), (335, .iload 5, 2), (337, .iconst 1, 1), (338, .iadd, 1), (339, .iaload, 1), (340, .aload_n 3, 1), (341, .invokestatic 128, 3), (344, .istore 6, 2), (346, .aload_n 2, 1), (347, .aload_n 0, 1), (348, .iload 5, 2), (350, .iconst 1, 1), (351, .iadd, 1), (352, .iaload, 1), (353, .invokevirtual 131, 3), (356, .istore 7, 2), (358, .aload_n 2, 1), (359, .invokevirtual 117, 3), (362, .iload 6, 2), (364, .if_icmp .eq 5, 3), (367, .iconst 0, 1), (368, .ireturn, 1), (369, .iload 6, 2), (371, .ifCond .ne 15, 3), (374, .aload_n 3, 1), (375, .iconst 0, 1), (376, .laload, 1), (377, .iload 7, 2), (379, .i2l, 1), (380, .lcmp, 1), (381, .ifCond .eq 5, 3), (384, .iconst 0, 1), (385, .ireturn, 1), (386, .goto 1575, 3), (389, .aload_n 1, 1), (390, .aload_n 0, 1), (391, .iload 5, 2), (393, .iconst 1, 1), (394, .iadd, 1), (395, .iaload, 1), (396, .aload_n 3, 1), (397, .invokestatic 132, 3), (400, .istore 6, 2), (402, .aload_n 2, 1), (403, .aload_n 0, 1), (404, .iload 5, 2), (406, .iconst 1, 1), (407, .iadd, 1), (408, .iaload, 1), (409, .invokevirtual 134, 3), (412, .istore 7, 2), (414, .aload_n 2, 1), (415, .invokevirtual 117, 3), (418, .iload 6, 2), (420, .if_icmp .eq 5, 3), (423, .iconst 0, 1), (424, .ireturn, 1), (425, .iload 6, 2), (427, .ifCond .ne 15, 3), (430, .aload_n 3, 1), (431, .iconst 0, 1), (432, .laload, 1), (433, .iload 7, 2), (435, .i2l, 1), (436, .lcmp, 1), (437, .ifCond .eq 5, 3), (440, .iconst 0, 1), (441, .ireturn, 1), (442, .goto 1519, 3), (445, .aload_n 1, 1), (446, .invokevirtual 135, 3), (449, .aload_n 2, 1), (450, .invokevirtual 138, 3), (453, .if_icmp .eq 1508, 3), (456, .iconst 0, 1), (457, .ireturn, 1), (458, .aload_n 1, 1), (459, .aload_n 0, 1), (460, .iload 5, 2), (462, .iconst 1, 1), (463, .iadd, 1), (464, .iaload, 1), (465, .i2c, 1), (466, .aload_n 0, 1), (467, .iload 5, 2), (469, .iconst 2, 1), (470, .iadd, 1), (471, .iaload, 1), (472, .ifCond .eq 7, 3), (475, .iconst 1, 1), (476, .goto 4, 3), (479, .iconst 0, 1), (480, .aload_n 0, 1), (481, .iload 5, 2), (483, .iconst 3, 1), (484, .iadd, 1), (485, .iaload, 1), (486, .aload_n 3, 1), (487, .invokestatic 139, 3), (490, .istore 6, 2), (492, .aload_n 2, 1), (493, .aload_n 0, 1), (494, .iload 5, 2), (496, .iconst 1, 1), (497, .iadd, 1), (498, .iaload, 1), (499, .i2c, 1), (500, .aload_n 0, 1), (501, .iload 5, 2), (503, .iconst 2, 1)]
theorem t_L_law1_ok : dec_ok cL_law t_L_law1 = true := by decide +kernel
theorem dL_law_319 : decode cL_law 319 = .ok (.iconst 0, 1) := dec_of t_L_law1_ok 0 rfl
theorem dL_law_320 : decode cL_law 320 = .ok (.laload, 1) := dec_of t_L_law1_ok 1 rfl
theorem dL_law_321 : decode cL_law 321 = .ok (.iload 7, 2) := dec_of t_L_law1_ok 2 rfl
theorem dL_law_323 : decode cL_law 323 = .ok (.i2l, 1) := dec_of t_L_law1_ok 3 rfl
theorem dL_law_324 : decode cL_law 324 = .ok (.lcmp, 1) := dec_of t_L_law1_ok 4 rfl
theorem dL_law_325 : decode cL_law 325 = .ok (.ifCond .eq 5, 3) := dec_of t_L_law1_ok 5 rfl
theorem dL_law_328 : decode cL_law 328 = .ok (.iconst 0, 1) := dec_of t_L_law1_ok 6 rfl
theorem dL_law_329 : decode cL_law 329 = .ok (.ireturn, 1) := dec_of t_L_law1_ok 7 rfl
theorem dL_law_330 : decode cL_law 330 = .ok (.goto 1631, 3) := dec_of t_L_law1_ok 8 rfl
theorem dL_law_333 : decode cL_law 333 = .ok (.aload_n 1, 1) := dec_of t_L_law1_ok 9 rfl
theorem dL_law_334 : decode cL_law 334 = .ok (.aload_n 0, 1) := dec_of t_L_law1_ok 10 rfl
theorem dL_law_335 : decode cL_law 335 = .ok (.iload 5, 2) := dec_of t_L_law1_ok 11 rfl
theorem dL_law_337 : decode cL_law 337 = .ok (.iconst 1, 1) := dec_of t_L_law1_ok 12 rfl
theorem dL_law_338 : decode cL_law 338 = .ok (.iadd, 1) := dec_of t_L_law1_ok 13 rfl
theorem dL_law_339 : decode cL_law 339 = .ok (.iaload, 1) := dec_of t_L_law1_ok 14 rfl
theorem dL_law_340 : decode cL_law 340 = .ok (.aload_n 3, 1) := dec_of t_L_law1_ok 15 rfl
theorem dL_law_341 : decode cL_law 341 = .ok (.invokestatic 128, 3) := dec_of t_L_law1_ok 16 rfl
theorem dL_law_344 : decode cL_law 344 = .ok (.istore 6, 2) := dec_of t_L_law1_ok 17 rfl
theorem dL_law_346 : decode cL_law 346 = .ok (.aload_n 2, 1) := dec_of t_L_law1_ok 18 rfl
theorem dL_law_347 : decode cL_law 347 = .ok (.aload_n 0, 1) := dec_of t_L_law1_ok 19 rfl
theorem dL_law_348 : decode cL_law 348 = .ok (.iload 5, 2) := dec_of t_L_law1_ok 20 rfl
theorem dL_law_350 : decode cL_law 350 = .ok (.iconst 1, 1) := dec_of t_L_law1_ok 21 rfl
theorem dL_law_351 : decode cL_law 351 = .ok (.iadd, 1) := dec_of t_L_law1_ok 22 rfl
theorem dL_law_352 : decode cL_law 352 = .ok (.iaload, 1) := dec_of t_L_law1_ok 23 rfl
theorem dL_law_353 : decode cL_law 353 = .ok (.invokevirtual 131, 3) := dec_of t_L_law1_ok 24 rfl
theorem dL_law_356 : decode cL_law 356 = .ok (.istore 7, 2) := dec_of t_L_law1_ok 25 rfl
theorem dL_law_358 : decode cL_law 358 = .ok (.aload_n 2, 1) := dec_of t_L_law1_ok 26 rfl
theorem dL_law_359 : decode cL_law 359 = .ok (.invokevirtual 117, 3) := dec_of t_L_law1_ok 27 rfl
theorem dL_law_362 : decode cL_law 362 = .ok (.iload 6, 2) := dec_of t_L_law1_ok 28 rfl
theorem dL_law_364 : decode cL_law 364 = .ok (.if_icmp .eq 5, 3) := dec_of t_L_law1_ok 29 rfl
theorem dL_law_367 : decode cL_law 367 = .ok (.iconst 0, 1) := dec_of t_L_law1_ok 30 rfl
theorem dL_law_368 : decode cL_law 368 = .ok (.ireturn, 1) := dec_of t_L_law1_ok 31 rfl
theorem dL_law_369 : decode cL_law 369 = .ok (.iload 6, 2) := dec_of t_L_law1_ok 32 rfl
theorem dL_law_371 : decode cL_law 371 = .ok (.ifCond .ne 15, 3) := dec_of t_L_law1_ok 33 rfl
theorem dL_law_374 : decode cL_law 374 = .ok (.aload_n 3, 1) := dec_of t_L_law1_ok 34 rfl
theorem dL_law_375 : decode cL_law 375 = .ok (.iconst 0, 1) := dec_of t_L_law1_ok 35 rfl
theorem dL_law_376 : decode cL_law 376 = .ok (.laload, 1) := dec_of t_L_law1_ok 36 rfl
theorem dL_law_377 : decode cL_law 377 = .ok (.iload 7, 2) := dec_of t_L_law1_ok 37 rfl
theorem dL_law_379 : decode cL_law 379 = .ok (.i2l, 1) := dec_of t_L_law1_ok 38 rfl
theorem dL_law_380 : decode cL_law 380 = .ok (.lcmp, 1) := dec_of t_L_law1_ok 39 rfl
theorem dL_law_381 : decode cL_law 381 = .ok (.ifCond .eq 5, 3) := dec_of t_L_law1_ok 40 rfl
theorem dL_law_384 : decode cL_law 384 = .ok (.iconst 0, 1) := dec_of t_L_law1_ok 41 rfl
theorem dL_law_385 : decode cL_law 385 = .ok (.ireturn, 1) := dec_of t_L_law1_ok 42 rfl
theorem dL_law_386 : decode cL_law 386 = .ok (.goto 1575, 3) := dec_of t_L_law1_ok 43 rfl
theorem dL_law_389 : decode cL_law 389 = .ok (.aload_n 1, 1) := dec_of t_L_law1_ok 44 rfl
theorem dL_law_390 : decode cL_law 390 = .ok (.aload_n 0, 1) := dec_of t_L_law1_ok 45 rfl
theorem dL_law_391 : decode cL_law 391 = .ok (.iload 5, 2) := dec_of t_L_law1_ok 46 rfl
theorem dL_law_393 : decode cL_law 393 = .ok (.iconst 1, 1) := dec_of t_L_law1_ok 47 rfl
theorem dL_law_394 : decode cL_law 394 = .ok (.iadd, 1) := dec_of t_L_law1_ok 48 rfl
theorem dL_law_395 : decode cL_law 395 = .ok (.iaload, 1) := dec_of t_L_law1_ok 49 rfl
theorem dL_law_396 : decode cL_law 396 = .ok (.aload_n 3, 1) := dec_of t_L_law1_ok 50 rfl
theorem dL_law_397 : decode cL_law 397 = .ok (.invokestatic 132, 3) := dec_of t_L_law1_ok 51 rfl
theorem dL_law_400 : decode cL_law 400 = .ok (.istore 6, 2) := dec_of t_L_law1_ok 52 rfl
theorem dL_law_402 : decode cL_law 402 = .ok (.aload_n 2, 1) := dec_of t_L_law1_ok 53 rfl
theorem dL_law_403 : decode cL_law 403 = .ok (.aload_n 0, 1) := dec_of t_L_law1_ok 54 rfl
theorem dL_law_404 : decode cL_law 404 = .ok (.iload 5, 2) := dec_of t_L_law1_ok 55 rfl
theorem dL_law_406 : decode cL_law 406 = .ok (.iconst 1, 1) := dec_of t_L_law1_ok 56 rfl
theorem dL_law_407 : decode cL_law 407 = .ok (.iadd, 1) := dec_of t_L_law1_ok 57 rfl
theorem dL_law_408 : decode cL_law 408 = .ok (.iaload, 1) := dec_of t_L_law1_ok 58 rfl
theorem dL_law_409 : decode cL_law 409 = .ok (.invokevirtual 134, 3) := dec_of t_L_law1_ok 59 rfl
theorem dL_law_412 : decode cL_law 412 = .ok (.istore 7, 2) := dec_of t_L_law1_ok 60 rfl
theorem dL_law_414 : decode cL_law 414 = .ok (.aload_n 2, 1) := dec_of t_L_law1_ok 61 rfl
theorem dL_law_415 : decode cL_law 415 = .ok (.invokevirtual 117, 3) := dec_of t_L_law1_ok 62 rfl
theorem dL_law_418 : decode cL_law 418 = .ok (.iload 6, 2) := dec_of t_L_law1_ok 63 rfl
theorem dL_law_420 : decode cL_law 420 = .ok (.if_icmp .eq 5, 3) := dec_of t_L_law1_ok 64 rfl
theorem dL_law_423 : decode cL_law 423 = .ok (.iconst 0, 1) := dec_of t_L_law1_ok 65 rfl
theorem dL_law_424 : decode cL_law 424 = .ok (.ireturn, 1) := dec_of t_L_law1_ok 66 rfl
theorem dL_law_425 : decode cL_law 425 = .ok (.iload 6, 2) := dec_of t_L_law1_ok 67 rfl
theorem dL_law_427 : decode cL_law 427 = .ok (.ifCond .ne 15, 3) := dec_of t_L_law1_ok 68 rfl
theorem dL_law_430 : decode cL_law 430 = .ok (.aload_n 3, 1) := dec_of t_L_law1_ok 69 rfl
theorem dL_law_431 : decode cL_law 431 = .ok (.iconst 0, 1) := dec_of t_L_law1_ok 70 rfl
theorem dL_law_432 : decode cL_law 432 = .ok (.laload, 1) := dec_of t_L_law1_ok 71 rfl
theorem dL_law_433 : decode cL_law 433 = .ok (.iload 7, 2) := dec_of t_L_law1_ok 72 rfl
theorem dL_law_435 : decode cL_law 435 = .ok (.i2l, 1) := dec_of t_L_law1_ok 73 rfl
theorem dL_law_436 : decode cL_law 436 = .ok (.lcmp, 1) := dec_of t_L_law1_ok 74 rfl
theorem dL_law_437 : decode cL_law 437 = .ok (.ifCond .eq 5, 3) := dec_of t_L_law1_ok 75 rfl
theorem dL_law_440 : decode cL_law 440 = .ok (.iconst 0, 1) := dec_of t_L_law1_ok 76 rfl
theorem dL_law_441 : decode cL_law 441 = .ok (.ireturn, 1) := dec_of t_L_law1_ok 77 rfl
theorem dL_law_442 : decode cL_law 442 = .ok (.goto 1519, 3) := dec_of t_L_law1_ok 78 rfl
theorem dL_law_445 : decode cL_law 445 = .ok (.aload_n 1, 1) := dec_of t_L_law1_ok 79 rfl
theorem dL_law_446 : decode cL_law 446 = .ok (.invokevirtual 135, 3) := dec_of t_L_law1_ok 80 rfl
theorem dL_law_449 : decode cL_law 449 = .ok (.aload_n 2, 1) := dec_of t_L_law1_ok 81 rfl
theorem dL_law_450 : decode cL_law 450 = .ok (.invokevirtual 138, 3) := dec_of t_L_law1_ok 82 rfl
theorem dL_law_453 : decode cL_law 453 = .ok (.if_icmp .eq 1508, 3) := dec_of t_L_law1_ok 83 rfl
theorem dL_law_456 : decode cL_law 456 = .ok (.iconst 0, 1) := dec_of t_L_law1_ok 84 rfl
theorem dL_law_457 : decode cL_law 457 = .ok (.ireturn, 1) := dec_of t_L_law1_ok 85 rfl
theorem dL_law_458 : decode cL_law 458 = .ok (.aload_n 1, 1) := dec_of t_L_law1_ok 86 rfl
theorem dL_law_459 : decode cL_law 459 = .ok (.aload_n 0, 1) := dec_of t_L_law1_ok 87 rfl
theorem dL_law_460 : decode cL_law 460 = .ok (.iload 5, 2) := dec_of t_L_law1_ok 88 rfl
theorem dL_law_462 : decode cL_law 462 = .ok (.iconst 1, 1) := dec_of t_L_law1_ok 89 rfl
theorem dL_law_463 : decode cL_law 463 = .ok (.iadd, 1) := dec_of t_L_law1_ok 90 rfl
theorem dL_law_464 : decode cL_law 464 = .ok (.iaload, 1) := dec_of t_L_law1_ok 91 rfl
theorem dL_law_465 : decode cL_law 465 = .ok (.i2c, 1) := dec_of t_L_law1_ok 92 rfl
theorem dL_law_466 : decode cL_law 466 = .ok (.aload_n 0, 1) := dec_of t_L_law1_ok 93 rfl
theorem dL_law_467 : decode cL_law 467 = .ok (.iload 5, 2) := dec_of t_L_law1_ok 94 rfl
theorem dL_law_469 : decode cL_law 469 = .ok (.iconst 2, 1) := dec_of t_L_law1_ok 95 rfl
theorem dL_law_470 : decode cL_law 470 = .ok (.iadd, 1) := dec_of t_L_law1_ok 96 rfl
theorem dL_law_471 : decode cL_law 471 = .ok (.iaload, 1) := dec_of t_L_law1_ok 97 rfl
theorem dL_law_472 : decode cL_law 472 = .ok (.ifCond .eq 7, 3) := dec_of t_L_law1_ok 98 rfl
theorem dL_law_475 : decode cL_law 475 = .ok (.iconst 1, 1) := dec_of t_L_law1_ok 99 rfl
theorem dL_law_476 : decode cL_law 476 = .ok (.goto 4, 3) := dec_of t_L_law1_ok 100 rfl
theorem dL_law_479 : decode cL_law 479 = .ok (.iconst 0, 1) := dec_of t_L_law1_ok 101 rfl
theorem dL_law_480 : decode cL_law 480 = .ok (.aload_n 0, 1) := dec_of t_L_law1_ok 102 rfl
theorem dL_law_481 : decode cL_law 481 = .ok (.iload 5, 2) := dec_of t_L_law1_ok 103 rfl
theorem dL_law_483 : decode cL_law 483 = .ok (.iconst 3, 1) := dec_of t_L_law1_ok 104 rfl
theorem dL_law_484 : decode cL_law 484 = .ok (.iadd, 1) := dec_of t_L_law1_ok 105 rfl
theorem dL_law_485 : decode cL_law 485 = .ok (.iaload, 1) := dec_of t_L_law1_ok 106 rfl
theorem dL_law_486 : decode cL_law 486 = .ok (.aload_n 3, 1) := dec_of t_L_law1_ok 107 rfl
theorem dL_law_487 : decode cL_law 487 = .ok (.invokestatic 139, 3) := dec_of t_L_law1_ok 108 rfl
theorem dL_law_490 : decode cL_law 490 = .ok (.istore 6, 2) := dec_of t_L_law1_ok 109 rfl
theorem dL_law_492 : decode cL_law 492 = .ok (.aload_n 2, 1) := dec_of t_L_law1_ok 110 rfl
theorem dL_law_493 : decode cL_law 493 = .ok (.aload_n 0, 1) := dec_of t_L_law1_ok 111 rfl
theorem dL_law_494 : decode cL_law 494 = .ok (.iload 5, 2) := dec_of t_L_law1_ok 112 rfl
theorem dL_law_496 : decode cL_law 496 = .ok (.iconst 1, 1) := dec_of t_L_law1_ok 113 rfl
theorem dL_law_497 : decode cL_law 497 = .ok (.iadd, 1) := dec_of t_L_law1_ok 114 rfl
theorem dL_law_498 : decode cL_law 498 = .ok (.iaload, 1) := dec_of t_L_law1_ok 115 rfl
theorem dL_law_499 : decode cL_law 499 = .ok (.i2c, 1) := dec_of t_L_law1_ok 116 rfl
theorem dL_law_500 : decode cL_law 500 = .ok (.aload_n 0, 1) := dec_of t_L_law1_ok 117 rfl
theorem dL_law_501 : decode cL_law 501 = .ok (.iload 5, 2) := dec_of t_L_law1_ok 118 rfl
theorem dL_law_503 : decode cL_law 503 = .ok (.iconst 2, 1) := dec_of t_L_law1_ok 119 rfl
def t_L_law2 : List (Nat × Instr × Nat) := [(504, .iadd, 1), (505, .iaload, 1), (506, .ifCond .eq 7, 3), (509, .iconst 1, 1), (510, .goto 4, 3), (513, .iconst 0, 1), (514, .aload_n 0, 1), (515, .iload 5, 2), (517, .iconst 3, 1), (518, .iadd, 1), (519, .iaload, 1), (520, .invokevirtual 142, 3), (523, .istore 7, 2), (525, .aload_n 2, 1), (526, .invokevirtual 117, 3), (529, .iload 6, 2), (531, .if_icmp .eq 5, 3), (534, .iconst 0, 1), (535, .ireturn, 1), (536, .iload 6, 2), (538, .ifCond .ne 15, 3), (541, .aload_n 3, 1), (542, .iconst 0, 1), (543, .laload, 1), (544, .iload 7, 2), (546, .i2l, 1), (547, .lcmp, 1), (548, .ifCond .eq 5, 3), (551, .iconst 0, 1), (552, .ireturn, 1), (553, .goto 1408, 3), (556, .aload_n 1, 1), (557, .aload_n 0, 1), (558, .iload 5, 2), (560, .iconst 1, 1), (561, .iadd, 1), (562, .iaload, 1), (563, .aload_n 3, 1), (564, .invokestatic 143, 3), (567, .istore 6, 2), (569, .aload_n 2, 1), (570, .aload_n 0, 1), (571, .iload 5, 2), (573, .iconst 1, 1), (574, .iadd, 1), (575, .iaload, 1), (576, .invokevirtual 145, 3), (579, .istore 7, 2), (581, .aload_n 2, 1), (582, .invokevirtual 117, 3), (585, .iload 6, 2), (587, .if_icmp .eq 5, 3), (590, .iconst 0, 1), (591, .ireturn, 1), (592, .iload 6, 2), (594, .ifCond .ne 15, 3), (597, .aload_n 3, 1), (598, .iconst 0, 1), (599, .laload, 1), (600, .iload 7, 2), (602, .i2l, 1), (603, .lcmp, 1), (604, .ifCond .eq 5, 3), (607, .iconst 0, 1), (608, .ireturn, 1), (609, .goto 1352, 3), (612, .aload_n 1, 1), (613, .aload_n 0, 1), (614, .iload 5, 2), (616, .iconst 1, 1), (617, .iadd, 1), (618, .iaload, 1), (619, .aload_n 3, 1), (620, .invokestatic 146, 3), (623, .istore 6, 2), (625, .aload_n 2, 1), (626, .aload_n 0, 1), (627, .iload 5, 2), (629, .iconst 1, 1), (630, .iadd, 1), (631, .iaload, 1), (632, .invokevirtual 148, 3), (635, .istore 7, 2), (637, .aload_n 2, 1), (638, .invokevirtual 117, 3), (641, .iload 6, 2), (643, .if_icmp .eq 5, 3), (646, .iconst 0, 1), (647, .ireturn, 1), (648, .iload 6, 2), (650, .ifCond .ne 15, 3), (653, .aload_n 3, 1), (654, .iconst 0, 1), (655, .laload, 1), (656, .iload 7, 2), (658, .i2l, 1), (659, .lcmp, 1), (660, .ifCond .eq 5, 3), (663, .iconst 0, 1), (664, .ireturn, 1), (665, .goto 1296, 3), (668, .aload_n 1, 1), (669, .aload_n 3, 1), (670, .invokestatic 149, 3), (673, .istore 6, 2), (675, .aload_n 2, 1), (676, .invokevirtual 152, 3), (679, .istore 7, 2), (681, .aload_n 2, 1), (682, .invokevirtual 117, 3), (685, .iload 6, 2), (687, .if_icmp .eq 5, 3), (690, .iconst 0, 1), (691, .ireturn, 1), (692, .iload 6, 2), (694, .ifCond .ne 15, 3), (697, .aload_n 3, 1), (698, .iconst 0, 1), (699, .laload, 1), (700, .iload 7, 2)]
theorem t_L_law2_ok : dec_ok cL_law t_L_law2 = true := by decide +kernel
theorem dL_law_504 : decode cL_law 504 = .ok (.iadd, 1) := dec_of t_L_law2_ok 0 rfl
theorem dL_law_505 : decode cL_law 505 = .ok (.iaload, 1) := dec_of t_L_law2_ok 1 rfl
theorem dL_law_506 : decode cL_law 506 = .ok (.ifCond .eq 7, 3) := dec_of t_L_law2_ok 2 rfl
theorem dL_law_509 : decode cL_law 509 = .ok (.iconst 1, 1) := dec_of t_L_law2_ok 3 rfl
theorem dL_law_510 : decode cL_law 510 = .ok (.goto 4, 3) := dec_of t_L_law2_ok 4 rfl
theorem dL_law_513 : decode cL_law 513 = .ok (.iconst 0, 1) := dec_of t_L_law2_ok 5 rfl
theorem dL_law_514 : decode cL_law 514 = .ok (.aload_n 0, 1) := dec_of t_L_law2_ok 6 rfl
theorem dL_law_515 : decode cL_law 515 = .ok (.iload 5, 2) := dec_of t_L_law2_ok 7 rfl
theorem dL_law_517 : decode cL_law 517 = .ok (.iconst 3, 1) := dec_of t_L_law2_ok 8 rfl
theorem dL_law_518 : decode cL_law 518 = .ok (.iadd, 1) := dec_of t_L_law2_ok 9 rfl
theorem dL_law_519 : decode cL_law 519 = .ok (.iaload, 1) := dec_of t_L_law2_ok 10 rfl
theorem dL_law_520 : decode cL_law 520 = .ok (.invokevirtual 142, 3) := dec_of t_L_law2_ok 11 rfl
theorem dL_law_523 : decode cL_law 523 = .ok (.istore 7, 2) := dec_of t_L_law2_ok 12 rfl
theorem dL_law_525 : decode cL_law 525 = .ok (.aload_n 2, 1) := dec_of t_L_law2_ok 13 rfl
theorem dL_law_526 : decode cL_law 526 = .ok (.invokevirtual 117, 3) := dec_of t_L_law2_ok 14 rfl
theorem dL_law_529 : decode cL_law 529 = .ok (.iload 6, 2) := dec_of t_L_law2_ok 15 rfl
theorem dL_law_531 : decode cL_law 531 = .ok (.if_icmp .eq 5, 3) := dec_of t_L_law2_ok 16 rfl
theorem dL_law_534 : decode cL_law 534 = .ok (.iconst 0, 1) := dec_of t_L_law2_ok 17 rfl
theorem dL_law_535 : decode cL_law 535 = .ok (.ireturn, 1) := dec_of t_L_law2_ok 18 rfl
theorem dL_law_536 : decode cL_law 536 = .ok (.iload 6, 2) := dec_of t_L_law2_ok 19 rfl
theorem dL_law_538 : decode cL_law 538 = .ok (.ifCond .ne 15, 3) := dec_of t_L_law2_ok 20 rfl
theorem dL_law_541 : decode cL_law 541 = .ok (.aload_n 3, 1) := dec_of t_L_law2_ok 21 rfl
theorem dL_law_542 : decode cL_law 542 = .ok (.iconst 0, 1) := dec_of t_L_law2_ok 22 rfl
theorem dL_law_543 : decode cL_law 543 = .ok (.laload, 1) := dec_of t_L_law2_ok 23 rfl
theorem dL_law_544 : decode cL_law 544 = .ok (.iload 7, 2) := dec_of t_L_law2_ok 24 rfl
theorem dL_law_546 : decode cL_law 546 = .ok (.i2l, 1) := dec_of t_L_law2_ok 25 rfl
theorem dL_law_547 : decode cL_law 547 = .ok (.lcmp, 1) := dec_of t_L_law2_ok 26 rfl
theorem dL_law_548 : decode cL_law 548 = .ok (.ifCond .eq 5, 3) := dec_of t_L_law2_ok 27 rfl
theorem dL_law_551 : decode cL_law 551 = .ok (.iconst 0, 1) := dec_of t_L_law2_ok 28 rfl
theorem dL_law_552 : decode cL_law 552 = .ok (.ireturn, 1) := dec_of t_L_law2_ok 29 rfl
theorem dL_law_553 : decode cL_law 553 = .ok (.goto 1408, 3) := dec_of t_L_law2_ok 30 rfl
theorem dL_law_556 : decode cL_law 556 = .ok (.aload_n 1, 1) := dec_of t_L_law2_ok 31 rfl
theorem dL_law_557 : decode cL_law 557 = .ok (.aload_n 0, 1) := dec_of t_L_law2_ok 32 rfl
theorem dL_law_558 : decode cL_law 558 = .ok (.iload 5, 2) := dec_of t_L_law2_ok 33 rfl
theorem dL_law_560 : decode cL_law 560 = .ok (.iconst 1, 1) := dec_of t_L_law2_ok 34 rfl
theorem dL_law_561 : decode cL_law 561 = .ok (.iadd, 1) := dec_of t_L_law2_ok 35 rfl
theorem dL_law_562 : decode cL_law 562 = .ok (.iaload, 1) := dec_of t_L_law2_ok 36 rfl
theorem dL_law_563 : decode cL_law 563 = .ok (.aload_n 3, 1) := dec_of t_L_law2_ok 37 rfl
theorem dL_law_564 : decode cL_law 564 = .ok (.invokestatic 143, 3) := dec_of t_L_law2_ok 38 rfl
theorem dL_law_567 : decode cL_law 567 = .ok (.istore 6, 2) := dec_of t_L_law2_ok 39 rfl
theorem dL_law_569 : decode cL_law 569 = .ok (.aload_n 2, 1) := dec_of t_L_law2_ok 40 rfl
theorem dL_law_570 : decode cL_law 570 = .ok (.aload_n 0, 1) := dec_of t_L_law2_ok 41 rfl
theorem dL_law_571 : decode cL_law 571 = .ok (.iload 5, 2) := dec_of t_L_law2_ok 42 rfl
theorem dL_law_573 : decode cL_law 573 = .ok (.iconst 1, 1) := dec_of t_L_law2_ok 43 rfl
theorem dL_law_574 : decode cL_law 574 = .ok (.iadd, 1) := dec_of t_L_law2_ok 44 rfl
theorem dL_law_575 : decode cL_law 575 = .ok (.iaload, 1) := dec_of t_L_law2_ok 45 rfl
theorem dL_law_576 : decode cL_law 576 = .ok (.invokevirtual 145, 3) := dec_of t_L_law2_ok 46 rfl
theorem dL_law_579 : decode cL_law 579 = .ok (.istore 7, 2) := dec_of t_L_law2_ok 47 rfl
theorem dL_law_581 : decode cL_law 581 = .ok (.aload_n 2, 1) := dec_of t_L_law2_ok 48 rfl
theorem dL_law_582 : decode cL_law 582 = .ok (.invokevirtual 117, 3) := dec_of t_L_law2_ok 49 rfl
theorem dL_law_585 : decode cL_law 585 = .ok (.iload 6, 2) := dec_of t_L_law2_ok 50 rfl
theorem dL_law_587 : decode cL_law 587 = .ok (.if_icmp .eq 5, 3) := dec_of t_L_law2_ok 51 rfl
theorem dL_law_590 : decode cL_law 590 = .ok (.iconst 0, 1) := dec_of t_L_law2_ok 52 rfl
theorem dL_law_591 : decode cL_law 591 = .ok (.ireturn, 1) := dec_of t_L_law2_ok 53 rfl
theorem dL_law_592 : decode cL_law 592 = .ok (.iload 6, 2) := dec_of t_L_law2_ok 54 rfl
theorem dL_law_594 : decode cL_law 594 = .ok (.ifCond .ne 15, 3) := dec_of t_L_law2_ok 55 rfl
theorem dL_law_597 : decode cL_law 597 = .ok (.aload_n 3, 1) := dec_of t_L_law2_ok 56 rfl
theorem dL_law_598 : decode cL_law 598 = .ok (.iconst 0, 1) := dec_of t_L_law2_ok 57 rfl
theorem dL_law_599 : decode cL_law 599 = .ok (.laload, 1) := dec_of t_L_law2_ok 58 rfl
theorem dL_law_600 : decode cL_law 600 = .ok (.iload 7, 2) := dec_of t_L_law2_ok 59 rfl
theorem dL_law_602 : decode cL_law 602 = .ok (.i2l, 1) := dec_of t_L_law2_ok 60 rfl
theorem dL_law_603 : decode cL_law 603 = .ok (.lcmp, 1) := dec_of t_L_law2_ok 61 rfl
theorem dL_law_604 : decode cL_law 604 = .ok (.ifCond .eq 5, 3) := dec_of t_L_law2_ok 62 rfl
theorem dL_law_607 : decode cL_law 607 = .ok (.iconst 0, 1) := dec_of t_L_law2_ok 63 rfl
theorem dL_law_608 : decode cL_law 608 = .ok (.ireturn, 1) := dec_of t_L_law2_ok 64 rfl
theorem dL_law_609 : decode cL_law 609 = .ok (.goto 1352, 3) := dec_of t_L_law2_ok 65 rfl
theorem dL_law_612 : decode cL_law 612 = .ok (.aload_n 1, 1) := dec_of t_L_law2_ok 66 rfl
theorem dL_law_613 : decode cL_law 613 = .ok (.aload_n 0, 1) := dec_of t_L_law2_ok 67 rfl
theorem dL_law_614 : decode cL_law 614 = .ok (.iload 5, 2) := dec_of t_L_law2_ok 68 rfl
theorem dL_law_616 : decode cL_law 616 = .ok (.iconst 1, 1) := dec_of t_L_law2_ok 69 rfl
theorem dL_law_617 : decode cL_law 617 = .ok (.iadd, 1) := dec_of t_L_law2_ok 70 rfl
theorem dL_law_618 : decode cL_law 618 = .ok (.iaload, 1) := dec_of t_L_law2_ok 71 rfl
theorem dL_law_619 : decode cL_law 619 = .ok (.aload_n 3, 1) := dec_of t_L_law2_ok 72 rfl
theorem dL_law_620 : decode cL_law 620 = .ok (.invokestatic 146, 3) := dec_of t_L_law2_ok 73 rfl
theorem dL_law_623 : decode cL_law 623 = .ok (.istore 6, 2) := dec_of t_L_law2_ok 74 rfl
theorem dL_law_625 : decode cL_law 625 = .ok (.aload_n 2, 1) := dec_of t_L_law2_ok 75 rfl
theorem dL_law_626 : decode cL_law 626 = .ok (.aload_n 0, 1) := dec_of t_L_law2_ok 76 rfl
theorem dL_law_627 : decode cL_law 627 = .ok (.iload 5, 2) := dec_of t_L_law2_ok 77 rfl
theorem dL_law_629 : decode cL_law 629 = .ok (.iconst 1, 1) := dec_of t_L_law2_ok 78 rfl
theorem dL_law_630 : decode cL_law 630 = .ok (.iadd, 1) := dec_of t_L_law2_ok 79 rfl
theorem dL_law_631 : decode cL_law 631 = .ok (.iaload, 1) := dec_of t_L_law2_ok 80 rfl
theorem dL_law_632 : decode cL_law 632 = .ok (.invokevirtual 148, 3) := dec_of t_L_law2_ok 81 rfl
theorem dL_law_635 : decode cL_law 635 = .ok (.istore 7, 2) := dec_of t_L_law2_ok 82 rfl
theorem dL_law_637 : decode cL_law 637 = .ok (.aload_n 2, 1) := dec_of t_L_law2_ok 83 rfl
theorem dL_law_638 : decode cL_law 638 = .ok (.invokevirtual 117, 3) := dec_of t_L_law2_ok 84 rfl
theorem dL_law_641 : decode cL_law 641 = .ok (.iload 6, 2) := dec_of t_L_law2_ok 85 rfl
theorem dL_law_643 : decode cL_law 643 = .ok (.if_icmp .eq 5, 3) := dec_of t_L_law2_ok 86 rfl
theorem dL_law_646 : decode cL_law 646 = .ok (.iconst 0, 1) := dec_of t_L_law2_ok 87 rfl
theorem dL_law_647 : decode cL_law 647 = .ok (.ireturn, 1) := dec_of t_L_law2_ok 88 rfl
theorem dL_law_648 : decode cL_law 648 = .ok (.iload 6, 2) := dec_of t_L_law2_ok 89 rfl
theorem dL_law_650 : decode cL_law 650 = .ok (.ifCond .ne 15, 3) := dec_of t_L_law2_ok 90 rfl
theorem dL_law_653 : decode cL_law 653 = .ok (.aload_n 3, 1) := dec_of t_L_law2_ok 91 rfl
theorem dL_law_654 : decode cL_law 654 = .ok (.iconst 0, 1) := dec_of t_L_law2_ok 92 rfl
theorem dL_law_655 : decode cL_law 655 = .ok (.laload, 1) := dec_of t_L_law2_ok 93 rfl
theorem dL_law_656 : decode cL_law 656 = .ok (.iload 7, 2) := dec_of t_L_law2_ok 94 rfl
theorem dL_law_658 : decode cL_law 658 = .ok (.i2l, 1) := dec_of t_L_law2_ok 95 rfl
theorem dL_law_659 : decode cL_law 659 = .ok (.lcmp, 1) := dec_of t_L_law2_ok 96 rfl
theorem dL_law_660 : decode cL_law 660 = .ok (.ifCond .eq 5, 3) := dec_of t_L_law2_ok 97 rfl
theorem dL_law_663 : decode cL_law 663 = .ok (.iconst 0, 1) := dec_of t_L_law2_ok 98 rfl
theorem dL_law_664 : decode cL_law 664 = .ok (.ireturn, 1) := dec_of t_L_law2_ok 99 rfl
theorem dL_law_665 : decode cL_law 665 = .ok (.goto 1296, 3) := dec_of t_L_law2_ok 100 rfl
theorem dL_law_668 : decode cL_law 668 = .ok (.aload_n 1, 1) := dec_of t_L_law2_ok 101 rfl
theorem dL_law_669 : decode cL_law 669 = .ok (.aload_n 3, 1) := dec_of t_L_law2_ok 102 rfl
theorem dL_law_670 : decode cL_law 670 = .ok (.invokestatic 149, 3) := dec_of t_L_law2_ok 103 rfl
theorem dL_law_673 : decode cL_law 673 = .ok (.istore 6, 2) := dec_of t_L_law2_ok 104 rfl
theorem dL_law_675 : decode cL_law 675 = .ok (.aload_n 2, 1) := dec_of t_L_law2_ok 105 rfl
theorem dL_law_676 : decode cL_law 676 = .ok (.invokevirtual 152, 3) := dec_of t_L_law2_ok 106 rfl
theorem dL_law_679 : decode cL_law 679 = .ok (.istore 7, 2) := dec_of t_L_law2_ok 107 rfl
theorem dL_law_681 : decode cL_law 681 = .ok (.aload_n 2, 1) := dec_of t_L_law2_ok 108 rfl
theorem dL_law_682 : decode cL_law 682 = .ok (.invokevirtual 117, 3) := dec_of t_L_law2_ok 109 rfl
theorem dL_law_685 : decode cL_law 685 = .ok (.iload 6, 2) := dec_of t_L_law2_ok 110 rfl
theorem dL_law_687 : decode cL_law 687 = .ok (.if_icmp .eq 5, 3) := dec_of t_L_law2_ok 111 rfl
theorem dL_law_690 : decode cL_law 690 = .ok (.iconst 0, 1) := dec_of t_L_law2_ok 112 rfl
theorem dL_law_691 : decode cL_law 691 = .ok (.ireturn, 1) := dec_of t_L_law2_ok 113 rfl
theorem dL_law_692 : decode cL_law 692 = .ok (.iload 6, 2) := dec_of t_L_law2_ok 114 rfl
theorem dL_law_694 : decode cL_law 694 = .ok (.ifCond .ne 15, 3) := dec_of t_L_law2_ok 115 rfl
theorem dL_law_697 : decode cL_law 697 = .ok (.aload_n 3, 1) := dec_of t_L_law2_ok 116 rfl
theorem dL_law_698 : decode cL_law 698 = .ok (.iconst 0, 1) := dec_of t_L_law2_ok 117 rfl
theorem dL_law_699 : decode cL_law 699 = .ok (.laload, 1) := dec_of t_L_law2_ok 118 rfl
theorem dL_law_700 : decode cL_law 700 = .ok (.iload 7, 2) := dec_of t_L_law2_ok 119 rfl
def t_L_law3 : List (Nat × Instr × Nat) := [(702, .i2l, 1), (703, .lcmp, 1), (704, .ifCond .eq 5, 3), (707, .iconst 0, 1), (708, .ireturn, 1), (709, .goto 1252, 3), (712, .aload_n 1, 1), (713, .aload_n 0, 1), (714, .iload 5, 2), (716, .iconst 1, 1), (717, .iadd, 1), (718, .iaload, 1), (719, .aload_n 0, 1), (720, .iload 5, 2), (722, .iconst 2, 1), (723, .iadd, 1), (724, .iaload, 1), (725, .aload_n 0, 1), (726, .iload 5, 2), (728, .iconst 3, 1), (729, .iadd, 1), (730, .iaload, 1), (731, .ifCond .eq 7, 3), (734, .iconst 1, 1), (735, .goto 4, 3), (738, .iconst 0, 1), (739, .aload_n 3, 1), (740, .invokestatic 153, 3), (743, .istore 6, 2), (745, .aload_n 2, 1), (746, .aload_n 0, 1), (747, .iload 5, 2), (749, .iconst 1, 1), (750, .iadd, 1), (751, .iaload, 1), (752, .aload_n 0, 1), (753, .iload 5, 2), (755, .iconst 2, 1), (756, .iadd, 1), (757, .iaload, 1), (758, .aload_n 0, 1), (759, .iload 5, 2), (761, .iconst 3, 1), (762, .iadd, 1), (763, .iaload, 1), (764, .ifCond .eq 7, 3), (767, .iconst 1, 1), (768, .goto 4, 3), (771, .iconst 0, 1), (772, .invokevirtual 156, 3), (775, .istore 7, 2), (777, .aload_n 2, 1), (778, .invokevirtual 117, 3), (781, .iload 6, 2), (783, .if_icmp .eq 5, 3), (786, .iconst 0, 1), (787, .ireturn, 1), (788, .iload 6, 2), (790, .ifCond .ne 22, 3), (793, .aload_n 3, 1), (794, .iconst 0, 1), (795, .laload, 1), (796, .iload 7, 2), (798, .ifCond .eq 7, 3), (801, .lconst 1, 1), (802, .goto 4, 3), (805, .lconst 0, 1), (806, .lcmp, 1), (807, .ifCond .eq 5, 3), (810, .iconst 0, 1), (811, .ireturn, 1), (812, .goto 1149, 3), (815, .aload_n 1, 1), (816, .aload_n 0, 1), (817, .iload 5, 2), (819, .iconst 1, 1), (820, .iadd, 1), (821, .iaload, 1), (822, .aload_n 0, 1), (823, .iload 5, 2), (825, .iconst 2, 1), (826, .iadd, 1), (827, .iaload, 1), (828, .aload_n 0, 1), (829, .iload 5, 2), (831, .iconst 3, 1), (832, .iadd, 1), (833, .iaload, 1), (834, .aload_n 3, 1), (835, .invokestatic 157, 3), (838, .istore 6, 2), (840, .aload_n 2, 1), (841, .aload_n 0, 1), (842, .iload 5, 2), (844, .iconst 1, 1), (845, .iadd, 1), (846, .iaload, 1), (847, .aload_n 0, 1), (848, .iload 5, 2), (850, .iconst 2, 1), (851, .iadd, 1), (852, .iaload, 1), (853, .aload_n 0, 1), (854, .iload 5, 2), (856, .iconst 3, 1), (857, .iadd, 1), (858, .iaload, 1), (859, .invokevirtual 160, 3), (862, .istore 7, 2), (864, .aload_n 2, 1), (865, .invokevirtual 117, 3), (868, .iload 6, 2), (870, .if_icmp .eq 5, 3), (873, .iconst 0, 1), (874, .ireturn, 1), (875, .iload 6, 2), (877, .ifCond .ne 15, 3), (880, .aload_n 3, 1), (881, .iconst 0, 1), (882, .laload, 1)]
theorem t_L_law3_ok : dec_ok cL_law t_L_law3 = true := by decide +kernel
theorem dL_law_702 : decode cL_law 702 = .ok (.i2l, 1) := dec_of t_L_law3_ok 0 rfl
theorem dL_law_703 : decode cL_law 703 = .ok (.lcmp, 1) := dec_of t_L_law3_ok 1 rfl
theorem dL_law_704 : decode cL_law 704 = .ok (.ifCond .eq 5, 3) := dec_of t_L_law3_ok 2 rfl
theorem dL_law_707 : decode cL_law 707 = .ok (.iconst 0, 1) := dec_of t_L_law3_ok 3 rfl
theorem dL_law_708 : decode cL_law 708 = .ok (.ireturn, 1) := dec_of t_L_law3_ok 4 rfl
theorem dL_law_709 : decode cL_law 709 = .ok (.goto 1252, 3) := dec_of t_L_law3_ok 5 rfl
theorem dL_law_712 : decode cL_law 712 = .ok (.aload_n 1, 1) := dec_of t_L_law3_ok 6 rfl
theorem dL_law_713 : decode cL_law 713 = .ok (.aload_n 0, 1) := dec_of t_L_law3_ok 7 rfl
theorem dL_law_714 : decode cL_law 714 = .ok (.iload 5, 2) := dec_of t_L_law3_ok 8 rfl
theorem dL_law_716 : decode cL_law 716 = .ok (.iconst 1, 1) := dec_of t_L_law3_ok 9 rfl
theorem dL_law_717 : decode cL_law 717 = .ok (.iadd, 1) := dec_of t_L_law3_ok 10 rfl
theorem dL_law_718 : decode cL_law 718 = .ok (.iaload, 1) := dec_of t_L_law3_ok 11 rfl
theorem dL_law_719 : decode cL_law 719 = .ok (.aload_n 0, 1) := dec_of t_L_law3_ok 12 rfl
theorem dL_law_720 : decode cL_law 720 = .ok (.iload 5, 2) := dec_of t_L_law3_ok 13 rfl
theorem dL_law_722 : decode cL_law 722 = .ok (.iconst 2, 1) := dec_of t_L_law3_ok 14 rfl
theorem dL_law_723 : decode cL_law 723 = .ok (.iadd, 1) := dec_of t_L_law3_ok 15 rfl
theorem dL_law_724 : decode cL_law 724 = .ok (.iaload, 1) := dec_of t_L_law3_ok 16 rfl
theorem dL_law_725 : decode cL_law 725 = .ok (.aload_n 0, 1) := dec_of t_L_law3_ok 17 rfl
theorem dL_law_726 : decode cL_law 726 = .ok (.iload 5, 2) := dec_of t_L_law3_ok 18 rfl
theorem dL_law_728 : decode cL_law 728 = .ok (.iconst 3, 1) := dec_of t_L_law3_ok 19 rfl
theorem dL_law_729 : decode cL_law 729 = .ok (.iadd, 1) := dec_of t_L_law3_ok 20 rfl
theorem dL_law_730 : decode cL_law 730 = .ok (.iaload, 1) := dec_of t_L_law3_ok 21 rfl
theorem dL_law_731 : decode cL_law 731 = .ok (.ifCond .eq 7, 3) := dec_of t_L_law3_ok 22 rfl
theorem dL_law_734 : decode cL_law 734 = .ok (.iconst 1, 1) := dec_of t_L_law3_ok 23 rfl
theorem dL_law_735 : decode cL_law 735 = .ok (.goto 4, 3) := dec_of t_L_law3_ok 24 rfl
theorem dL_law_738 : decode cL_law 738 = .ok (.iconst 0, 1) := dec_of t_L_law3_ok 25 rfl
theorem dL_law_739 : decode cL_law 739 = .ok (.aload_n 3, 1) := dec_of t_L_law3_ok 26 rfl
theorem dL_law_740 : decode cL_law 740 = .ok (.invokestatic 153, 3) := dec_of t_L_law3_ok 27 rfl
theorem dL_law_743 : decode cL_law 743 = .ok (.istore 6, 2) := dec_of t_L_law3_ok 28 rfl
theorem dL_law_745 : decode cL_law 745 = .ok (.aload_n 2, 1) := dec_of t_L_law3_ok 29 rfl
theorem dL_law_746 : decode cL_law 746 = .ok (.aload_n 0, 1) := dec_of t_L_law3_ok 30 rfl
theorem dL_law_747 : decode cL_law 747 = .ok (.iload 5, 2) := dec_of t_L_law3_ok 31 rfl
theorem dL_law_749 : decode cL_law 749 = .ok (.iconst 1, 1) := dec_of t_L_law3_ok 32 rfl
theorem dL_law_750 : decode cL_law 750 = .ok (.iadd, 1) := dec_of t_L_law3_ok 33 rfl
theorem dL_law_751 : decode cL_law 751 = .ok (.iaload, 1) := dec_of t_L_law3_ok 34 rfl
theorem dL_law_752 : decode cL_law 752 = .ok (.aload_n 0, 1) := dec_of t_L_law3_ok 35 rfl
theorem dL_law_753 : decode cL_law 753 = .ok (.iload 5, 2) := dec_of t_L_law3_ok 36 rfl
theorem dL_law_755 : decode cL_law 755 = .ok (.iconst 2, 1) := dec_of t_L_law3_ok 37 rfl
theorem dL_law_756 : decode cL_law 756 = .ok (.iadd, 1) := dec_of t_L_law3_ok 38 rfl
theorem dL_law_757 : decode cL_law 757 = .ok (.iaload, 1) := dec_of t_L_law3_ok 39 rfl
theorem dL_law_758 : decode cL_law 758 = .ok (.aload_n 0, 1) := dec_of t_L_law3_ok 40 rfl
theorem dL_law_759 : decode cL_law 759 = .ok (.iload 5, 2) := dec_of t_L_law3_ok 41 rfl
theorem dL_law_761 : decode cL_law 761 = .ok (.iconst 3, 1) := dec_of t_L_law3_ok 42 rfl
theorem dL_law_762 : decode cL_law 762 = .ok (.iadd, 1) := dec_of t_L_law3_ok 43 rfl
theorem dL_law_763 : decode cL_law 763 = .ok (.iaload, 1) := dec_of t_L_law3_ok 44 rfl
theorem dL_law_764 : decode cL_law 764 = .ok (.ifCond .eq 7, 3) := dec_of t_L_law3_ok 45 rfl
theorem dL_law_767 : decode cL_law 767 = .ok (.iconst 1, 1) := dec_of t_L_law3_ok 46 rfl
theorem dL_law_768 : decode cL_law 768 = .ok (.goto 4, 3) := dec_of t_L_law3_ok 47 rfl
theorem dL_law_771 : decode cL_law 771 = .ok (.iconst 0, 1) := dec_of t_L_law3_ok 48 rfl
theorem dL_law_772 : decode cL_law 772 = .ok (.invokevirtual 156, 3) := dec_of t_L_law3_ok 49 rfl
theorem dL_law_775 : decode cL_law 775 = .ok (.istore 7, 2) := dec_of t_L_law3_ok 50 rfl
theorem dL_law_777 : decode cL_law 777 = .ok (.aload_n 2, 1) := dec_of t_L_law3_ok 51 rfl
theorem dL_law_778 : decode cL_law 778 = .ok (.invokevirtual 117, 3) := dec_of t_L_law3_ok 52 rfl
theorem dL_law_781 : decode cL_law 781 = .ok (.iload 6, 2) := dec_of t_L_law3_ok 53 rfl
theorem dL_law_783 : decode cL_law 783 = .ok (.if_icmp .eq 5, 3) := dec_of t_L_law3_ok 54 rfl
theorem dL_law_786 : decode cL_law 786 = .ok (.iconst 0, 1) := dec_of t_L_law3_ok 55 rfl
theorem dL_law_787 : decode cL_law 787 = .ok (.ireturn, 1) := dec_of t_L_law3_ok 56 rfl
theorem dL_law_788 : decode cL_law 788 = .ok (.iload 6, 2) := dec_of t_L_law3_ok 57 rfl
theorem dL_law_790 : decode cL_law 790 = .ok (.ifCond .ne 22, 3) := dec_of t_L_law3_ok 58 rfl
theorem dL_law_793 : decode cL_law 793 = .ok (.aload_n 3, 1) := dec_of t_L_law3_ok 59 rfl
theorem dL_law_794 : decode cL_law 794 = .ok (.iconst 0, 1) := dec_of t_L_law3_ok 60 rfl
theorem dL_law_795 : decode cL_law 795 = .ok (.laload, 1) := dec_of t_L_law3_ok 61 rfl
theorem dL_law_796 : decode cL_law 796 = .ok (.iload 7, 2) := dec_of t_L_law3_ok 62 rfl
theorem dL_law_798 : decode cL_law 798 = .ok (.ifCond .eq 7, 3) := dec_of t_L_law3_ok 63 rfl
theorem dL_law_801 : decode cL_law 801 = .ok (.lconst 1, 1) := dec_of t_L_law3_ok 64 rfl
theorem dL_law_802 : decode cL_law 802 = .ok (.goto 4, 3) := dec_of t_L_law3_ok 65 rfl
theorem dL_law_805 : decode cL_law 805 = .ok (.lconst 0, 1) := dec_of t_L_law3_ok 66 rfl
theorem dL_law_806 : decode cL_law 806 = .ok (.lcmp, 1) := dec_of t_L_law3_ok 67 rfl
theorem dL_law_807 : decode cL_law 807 = .ok (.ifCond .eq 5, 3) := dec_of t_L_law3_ok 68 rfl
theorem dL_law_810 : decode cL_law 810 = .ok (.iconst 0, 1) := dec_of t_L_law3_ok 69 rfl
theorem dL_law_811 : decode cL_law 811 = .ok (.ireturn, 1) := dec_of t_L_law3_ok 70 rfl
theorem dL_law_812 : decode cL_law 812 = .ok (.goto 1149, 3) := dec_of t_L_law3_ok 71 rfl
theorem dL_law_815 : decode cL_law 815 = .ok (.aload_n 1, 1) := dec_of t_L_law3_ok 72 rfl
theorem dL_law_816 : decode cL_law 816 = .ok (.aload_n 0, 1) := dec_of t_L_law3_ok 73 rfl
theorem dL_law_817 : decode cL_law 817 = .ok (.iload 5, 2) := dec_of t_L_law3_ok 74 rfl
theorem dL_law_819 : decode cL_law 819 = .ok (.iconst 1, 1) := dec_of t_L_law3_ok 75 rfl
theorem dL_law_820 : decode cL_law 820 = .ok (.iadd, 1) := dec_of t_L_law3_ok 76 rfl
theorem dL_law_821 : decode cL_law 821 = .ok (.iaload, 1) := dec_of t_L_law3_ok 77 rfl
theorem dL_law_822 : decode cL_law 822 = .ok (.aload_n 0, 1) := dec_of t_L_law3_ok 78 rfl
theorem dL_law_823 : decode cL_law 823 = .ok (.iload 5, 2) := dec_of t_L_law3_ok 79 rfl
theorem dL_law_825 : decode cL_law 825 = .ok (.iconst 2, 1) := dec_of t_L_law3_ok 80 rfl
theorem dL_law_826 : decode cL_law 826 = .ok (.iadd, 1) := dec_of t_L_law3_ok 81 rfl
theorem dL_law_827 : decode cL_law 827 = .ok (.iaload, 1) := dec_of t_L_law3_ok 82 rfl
theorem dL_law_828 : decode cL_law 828 = .ok (.aload_n 0, 1) := dec_of t_L_law3_ok 83 rfl
theorem dL_law_829 : decode cL_law 829 = .ok (.iload 5, 2) := dec_of t_L_law3_ok 84 rfl
theorem dL_law_831 : decode cL_law 831 = .ok (.iconst 3, 1) := dec_of t_L_law3_ok 85 rfl
theorem dL_law_832 : decode cL_law 832 = .ok (.iadd, 1) := dec_of t_L_law3_ok 86 rfl
theorem dL_law_833 : decode cL_law 833 = .ok (.iaload, 1) := dec_of t_L_law3_ok 87 rfl
theorem dL_law_834 : decode cL_law 834 = .ok (.aload_n 3, 1) := dec_of t_L_law3_ok 88 rfl
theorem dL_law_835 : decode cL_law 835 = .ok (.invokestatic 157, 3) := dec_of t_L_law3_ok 89 rfl
theorem dL_law_838 : decode cL_law 838 = .ok (.istore 6, 2) := dec_of t_L_law3_ok 90 rfl
theorem dL_law_840 : decode cL_law 840 = .ok (.aload_n 2, 1) := dec_of t_L_law3_ok 91 rfl
theorem dL_law_841 : decode cL_law 841 = .ok (.aload_n 0, 1) := dec_of t_L_law3_ok 92 rfl
theorem dL_law_842 : decode cL_law 842 = .ok (.iload 5, 2) := dec_of t_L_law3_ok 93 rfl
theorem dL_law_844 : decode cL_law 844 = .ok (.iconst 1, 1) := dec_of t_L_law3_ok 94 rfl
theorem dL_law_845 : decode cL_law 845 = .ok (.iadd, 1) := dec_of t_L_law3_ok 95 rfl
theorem dL_law_846 : decode cL_law 846 = .ok (.iaload, 1) := dec_of t_L_law3_ok 96 rfl
theorem dL_law_847 : decode cL_law 847 = .ok (.aload_n 0, 1) := dec_of t_L_law3_ok 97 rfl
theorem dL_law_848 : decode cL_law 848 = .ok (.iload 5, 2) := dec_of t_L_law3_ok 98 rfl
theorem dL_law_850 : decode cL_law 850 = .ok (.iconst 2, 1) := dec_of t_L_law3_ok 99 rfl
theorem dL_law_851 : decode cL_law 851 = .ok (.iadd, 1) := dec_of t_L_law3_ok 100 rfl
theorem dL_law_852 : decode cL_law 852 = .ok (.iaload, 1) := dec_of t_L_law3_ok 101 rfl
theorem dL_law_853 : decode cL_law 853 = .ok (.aload_n 0, 1) := dec_of t_L_law3_ok 102 rfl
theorem dL_law_854 : decode cL_law 854 = .ok (.iload 5, 2) := dec_of t_L_law3_ok 103 rfl
theorem dL_law_856 : decode cL_law 856 = .ok (.iconst 3, 1) := dec_of t_L_law3_ok 104 rfl
theorem dL_law_857 : decode cL_law 857 = .ok (.iadd, 1) := dec_of t_L_law3_ok 105 rfl
theorem dL_law_858 : decode cL_law 858 = .ok (.iaload, 1) := dec_of t_L_law3_ok 106 rfl
theorem dL_law_859 : decode cL_law 859 = .ok (.invokevirtual 160, 3) := dec_of t_L_law3_ok 107 rfl
theorem dL_law_862 : decode cL_law 862 = .ok (.istore 7, 2) := dec_of t_L_law3_ok 108 rfl
theorem dL_law_864 : decode cL_law 864 = .ok (.aload_n 2, 1) := dec_of t_L_law3_ok 109 rfl
theorem dL_law_865 : decode cL_law 865 = .ok (.invokevirtual 117, 3) := dec_of t_L_law3_ok 110 rfl
theorem dL_law_868 : decode cL_law 868 = .ok (.iload 6, 2) := dec_of t_L_law3_ok 111 rfl
theorem dL_law_870 : decode cL_law 870 = .ok (.if_icmp .eq 5, 3) := dec_of t_L_law3_ok 112 rfl
theorem dL_law_873 : decode cL_law 873 = .ok (.iconst 0, 1) := dec_of t_L_law3_ok 113 rfl
theorem dL_law_874 : decode cL_law 874 = .ok (.ireturn, 1) := dec_of t_L_law3_ok 114 rfl
theorem dL_law_875 : decode cL_law 875 = .ok (.iload 6, 2) := dec_of t_L_law3_ok 115 rfl
theorem dL_law_877 : decode cL_law 877 = .ok (.ifCond .ne 15, 3) := dec_of t_L_law3_ok 116 rfl
theorem dL_law_880 : decode cL_law 880 = .ok (.aload_n 3, 1) := dec_of t_L_law3_ok 117 rfl
theorem dL_law_881 : decode cL_law 881 = .ok (.iconst 0, 1) := dec_of t_L_law3_ok 118 rfl
theorem dL_law_882 : decode cL_law 882 = .ok (.laload, 1) := dec_of t_L_law3_ok 119 rfl

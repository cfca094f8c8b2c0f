theorem inlJx4a65c : ∀ w ∈ wsJx4a65c0, w ∈ wsL_law := fun _ h => List.mem_append_left _ (List.mem_append_left _ (List.mem_append_left _ (List.mem_append_left _ (List.mem_append_left _ (List.mem_append_left _ (List.mem_append_left _ (List.mem_append_left _ (List.mem_append_left _ (List.mem_append_left _ (List.mem_append_left _ (List.mem_append_left _ (List.mem_append_left _ (List.mem_append_right _ h)))))))))))))
set_option maxRecDepth 20000 in
theorem ggX0_init_Jx4a65c_init_da8c8 : GoodIn wsX0_init wsJx4a65c_init_da8c8 := goodIn_r _ [15, 16, 17, 18, 19, 20, 21, 22, 23, 24, 25, 26, 27, 2, 3, 35, 36, 37] (by decide +kernel) (by decide +kernel)
set_option maxRecDepth 20000 in
theorem gX0_init_Jx4a65c_init_da8c8 : GoodIn wsX0_init (wsJx4a65c_init_da8c8) := ggX0_init_Jx4a65c_init_da8c8
set_option maxRecDepth 20000 in
theorem ggX0_init_X5_init : GoodIn wsX0_init wsX5_init := goodIn_r _ [30, 31, 2, 3, 32, 33, 34, 41, 42] (by decide +kernel) (by decide +kernel)
set_option maxRecDepth 20000 in
theorem gX0_init_X5_init : GoodIn wsX0_init (wsX5_init) := ggX0_init_X5_init
theorem dX0_init_0 : decode cX0_init 0 = .ok (.aload_n 0, 1) := by decide +kernel
theorem dX0_init_1 : decode cX0_init 1 = .ok (.invokespecial 3, 3) := by decide +kernel
theorem dX0_init_4 : decode cX0_init 4 = .ok (.aload_n 0, 1) := by decide +kernel
theorem dX0_init_5 : decode cX0_init 5 = .ok (.new 9, 3) := by decide +kernel
theorem dX0_init_8 : decode cX0_init 8 = .ok (.dup, 1) := by decide +kernel
theorem dX0_init_9 : decode cX0_init 9 = .ok (.invokespecial 11, 3) := by decide +kernel
theorem dX0_init_12 : decode cX0_init 12 = .ok (.putfield 12, 3) := by decide +kernel
theorem dX0_init_15 : decode cX0_init 15 = .ok (.aload_n 0, 1) := by decide +kernel
theorem dX0_init_16 : decode cX0_init 16 = .ok (.new 9, 3) := by decide +kernel
theorem dX0_init_19 : decode cX0_init 19 = .ok (.dup, 1) := by decide +kernel
theorem dX0_init_20 : decode cX0_init 20 = .ok (.invokespecial 11, 3) := by decide +kernel
theorem dX0_init_23 : decode cX0_init 23 = .ok (.putfield 18, 3) := by decide +kernel
theorem dX0_init_26 : decode cX0_init 26 = .ok (.aload_n 0, 1) := by decide +kernel
theorem dX0_init_27 : decode cX0_init 27 = .ok (.new 21, 3) := by decide +kernel
theorem dX0_init_30 : decode cX0_init 30 = .ok (.dup, 1) := by decide +kernel
theorem dX0_init_31 : decode cX0_init 31 = .ok (.sipush 160, 3) := by decide +kernel
theorem dX0_init_34 : decode cX0_init 34 = .ok (.invokespecial 23, 3) := by decide +kernel
theorem dX0_init_37 : decode cX0_init 37 = .ok (.putfield 26, 3) := by decide +kernel
theorem dX0_init_40 : decode cX0_init 40 = .ok (.return_, 1) := by decide +kernel
set_option maxRecDepth 20000 in
theorem ggX0_look_X8_count : GoodIn wsX0_look wsX8_count := goodIn_r _ [10, 11, 12, 13, 14, 15, 16, 17, 140, 141, 142, 143, 144, 145, 146, 147, 148, 149, 150, 151, 152] (by decide +kernel) (by decide +kernel)
set_option maxRecDepth 20000 in
theorem gX0_look_X8_count : GoodIn wsX0_look (wsV RX0 30 RX8 yX8_count wsX8_count) := goodIn_app (goodIn_of _ (by decide +kernel)) ggX0_look_X8_count
set_option maxRecDepth 20000 in
theorem ggX0_look_X5_reset : GoodIn wsX0_look wsX5_reset := goodIn_ca (goodIn_r _ [21, 17, 22, 151, 152] (by decide +kernel) (by decide +kernel)) (goodIn_sub (fun _ h => List.mem_cons_of_mem _ (List.mem_append_right _ h)) (by decide +kernel))
set_option maxRecDepth 20000 in
theorem gX0_look_X5_reset : GoodIn wsX0_look (wsV RX0 36 RX5 yX5_reset wsX5_reset) := goodIn_app (goodIn_of _ (by decide +kernel)) ggX0_look_X5_reset
set_option maxRecDepth 20000 in
theorem ggX0_look_Jx4a65c_size_8abf5 : GoodIn wsX0_look wsJx4a65c_size_8abf5 := goodIn_r _ [27, 28, 153, 154, 155] (by decide +kernel) (by decide +kernel)
set_option maxRecDepth 20000 in
theorem gX0_look_Jx4a65c_size_8abf5 : GoodIn wsX0_look (wsV RX0 39 RJx4a65c yJx4a65c_size_8abf5 wsJx4a65c_size_8abf5) := goodIn_app (goodIn_of _ (by decide +kernel)) ggX0_look_Jx4a65c_size_8abf5
set_option maxRecDepth 20000 in
theorem ggX0_look_Jx4a65c_get_915e3 : GoodIn wsX0_look wsJx4a65c_get_915e3 := goodIn_r _ [32, 28, 33, 34, 35, 36, 37, 38, 39, 40, 41, 42, 43, 26, 44, 45, 153, 154, 155] (by decide +kernel) (by decide +kernel)
set_option maxRecDepth 20000 in
theorem gX0_look_Jx4a65c_get_915e3 : GoodIn wsX0_look (wsV RX0 42 RJx4a65c yJx4a65c_get_915e3 wsJx4a65c_get_915e3) := goodIn_app (goodIn_of _ (by decide +kernel)) ggX0_look_Jx4a65c_get_915e3
set_option maxRecDepth 20000 in
theorem ggX0_look_X6_isFoundAt : GoodIn wsX0_look wsX6_isFoundAt := goodIn_ca (goodIn_r _ [50, 51, 52, 53, 54, 55, 56, 57, 9, 58, 59, 60, 61, 62, 15, 63, 17, 22, 64, 65, 66, 67, 68, 69, 24, 25, 26, 27, 28, 70, 71, 72, 73, 74, 75, 11, 76, 7, 8, 10, 12, 13, 14, 16, 77, 30, 31, 32, 33, 34, 35, 36, 37, 38, 39, 40, 41, 42, 43, 44, 45, 78, 79, 80, 81, 82, 83, 84, 85, 86, 87, 88, 89, 90, 91, 92, 93, 94, 95, 96, 97, 98, 99, 100, 101, 102, 103, 104, 105, 106, 49, 107, 108, 109, 110, 111, 112, 113, 114, 115, 116, 117, 118, 119, 120, 156, 157, 158, 159, 160, 161, 140, 141, 142, 143, 144, 145, 146, 147, 148, 149, 150, 151, 152, 153, 154, 155, 162, 163, 164] (by decide +kernel) (by decide +kernel)) (goodIn_sub (fun _ h => List.mem_cons_of_mem _ (List.mem_append_right _ h)) (by decide +kernel))
set_option maxRecDepth 20000 in
theorem gX0_look_X6_isFoundAt : GoodIn wsX0_look (wsV RX0 48 RX6 yX6_isFoundAt wsX6_isFoundAt) := goodIn_app (goodIn_of _ (by decide +kernel)) ggX0_look_X6_isFoundAt
set_option maxRecDepth 20000 in
theorem ggX0_look_X0_addHit : GoodIn wsX0_look wsX0_addHit := goodIn_ca (goodIn_r _ [125, 1, 126, 61, 62, 15, 63, 17, 22, 127, 128, 129, 130, 137, 138, 139, 151, 152] (by decide +kernel) (by decide +kernel)) (goodIn_sub (fun _ h => List.mem_cons_of_mem _ (List.mem_append_right _ h)) (by decide +kernel))
set_option maxRecDepth 20000 in
theorem gX0_look_X0_addHit : GoodIn wsX0_look (wsV RX0 52 RX0 yX0_addHit wsX0_addHit) := goodIn_app (goodIn_of _ (by decide +kernel)) ggX0_look_X0_addHit
set_option maxRecDepth 20000 in
theorem ggX0_look_X0_lookForPair : GoodIn wsX0_look wsX0_lookForPair := goodIn_ca (goodIn_r _ [134, 6, 7, 8, 9, 10, 11, 12, 13, 14, 15, 16, 17, 135, 56, 57, 58, 59, 60, 61, 62, 63, 22, 136, 116, 117, 118, 76, 119, 100, 101, 102, 74, 120, 96, 97, 98, 75, 121, 122, 123, 124, 125, 1, 126, 127, 128, 129, 130, 165, 166, 140, 141, 142, 143, 144, 145, 146, 147, 148, 149, 150, 151, 152, 137, 138, 139] (by decide +kernel) (by decide +kernel)) (goodIn_sub (fun _ h => List.mem_cons_of_mem _ (List.mem_append_right _ h)) (by decide +kernel))
set_option maxRecDepth 20000 in
theorem gX0_look_X0_lookForPair : GoodIn wsX0_look (wsV RX0 58 RX0 yX0_lookForPair wsX0_lookForPair) := goodIn_app (goodIn_of _ (by decide +kernel)) ggX0_look_X0_lookForPair
theorem dX0_look_0 : decode cX0_look 0 = .ok (.aload_n 0, 1) := by decide +kernel
theorem dX0_look_1 : decode cX0_look 1 = .ok (.getfield 26, 3) := by decide +kernel
theorem dX0_look_4 : decode cX0_look 4 = .ok (.aload_n 1, 1) := by decide +kernel
theorem dX0_look_5 : decode cX0_look 5 = .ok (.invokevirtual 30, 3) := by decide +kernel
theorem dX0_look_8 : decode cX0_look 8 = .ok (.invokevirtual 36, 3) := by decide +kernel
theorem dX0_look_11 : decode cX0_look 11 = .ok (.iconst 0, 1) := by decide +kernel
theorem dX0_look_12 : decode cX0_look 12 = .ok (.istore_n 2, 1) := by decide +kernel
theorem dX0_look_13 : decode cX0_look 13 = .ok (.iload_n 2, 1) := by decide +kernel
theorem dX0_look_14 : decode cX0_look 14 = .ok (.aload_n 0, 1) := by decide +kernel
theorem dX0_look_15 : decode cX0_look 15 = .ok (.getfield 12, 3) := by decide +kernel
theorem dX0_look_18 : decode cX0_look 18 = .ok (.invokevirtual 39, 3) := by decide +kernel
theorem dX0_look_21 : decode cX0_look 21 = .ok (.if_icmp .ge 56, 3) := by decide +kernel
theorem dX0_look_24 : decode cX0_look 24 = .ok (.aload_n 0, 1) := by decide +kernel
theorem dX0_look_25 : decode cX0_look 25 = .ok (.getfield 12, 3) := by decide +kernel
theorem dX0_look_28 : decode cX0_look 28 = .ok (.iload_n 2, 1) := by decide +kernel
theorem dX0_look_29 : decode cX0_look 29 = .ok (.invokevirtual 42, 3) := by decide +kernel
theorem dX0_look_32 : decode cX0_look 32 = .ok (.checkcast 46, 3) := by decide +kernel
theorem dX0_look_35 : decode cX0_look 35 = .ok (.astore_n 3, 1) := by decide +kernel
theorem dX0_look_36 : decode cX0_look 36 = .ok (.iconst 0, 1) := by decide +kernel
theorem dX0_look_37 : decode cX0_look 37 = .ok (.istore 4, 2) := by decide +kernel
theorem dX0_look_39 : decode cX0_look 39 = .ok (.iload 4, 2) := by decide +kernel
theorem dX0_look_41 : decode cX0_look 41 = .ok (.aload_n 1, 1) := by decide +kernel
theorem dX0_look_42 : decode cX0_look 42 = .ok (.invokevirtual 30, 3) := by decide +kernel
theorem dX0_look_45 : decode cX0_look 45 = .ok (.if_icmp .ge 26, 3) := by decide +kernel
theorem dX0_look_48 : decode cX0_look 48 = .ok (.aload_n 3, 1) := by decide +kernel
theorem dX0_look_49 : decode cX0_look 49 = .ok (.aload_n 1, 1) := by decide +kernel
theorem dX0_look_50 : decode cX0_look 50 = .ok (.iload 4, 2) := by decide +kernel
theorem dX0_look_52 : decode cX0_look 52 = .ok (.invokevirtual 48, 3) := by decide +kernel
theorem dX0_look_55 : decode cX0_look 55 = .ok (.ifCond .eq 10, 3) := by decide +kernel
theorem dX0_look_58 : decode cX0_look 58 = .ok (.aload_n 0, 1) := by decide +kernel
theorem dX0_look_59 : decode cX0_look 59 = .ok (.iload 4, 2) := by decide +kernel
theorem dX0_look_61 : decode cX0_look 61 = .ok (.iload_n 2, 1) := by decide +kernel
theorem dX0_look_62 : decode cX0_look 62 = .ok (.invokevirtual 52, 3) := by decide +kernel
theorem dX0_look_65 : decode cX0_look 65 = .ok (.iinc 4 1, 3) := by decide +kernel
theorem dX0_look_68 : decode cX0_look 68 = .ok (.goto (-29), 3) := by decide +kernel
theorem dX0_look_71 : decode cX0_look 71 = .ok (.iinc 2 1, 3) := by decide +kernel
theorem dX0_look_74 : decode cX0_look 74 = .ok (.goto (-61), 3) := by decide +kernel
theorem dX0_look_77 : decode cX0_look 77 = .ok (.iconst 0, 1) := by decide +kernel
theorem dX0_look_78 : decode cX0_look 78 = .ok (.istore_n 2, 1) := by decide +kernel
theorem dX0_look_79 : decode cX0_look 79 = .ok (.iload_n 2, 1) := by decide +kernel
theorem dX0_look_80 : decode cX0_look 80 = .ok (.aload_n 0, 1) := by decide +kernel
theorem dX0_look_81 : decode cX0_look 81 = .ok (.getfield 18, 3) := by decide +kernel
theorem dX0_look_84 : decode cX0_look 84 = .ok (.invokevirtual 39, 3) := by decide +kernel
theorem dX0_look_87 : decode cX0_look 87 = .ok (.if_icmp .ge 29, 3) := by decide +kernel
theorem dX0_look_90 : decode cX0_look 90 = .ok (.aload_n 0, 1) := by decide +kernel
theorem dX0_look_91 : decode cX0_look 91 = .ok (.aload_n 1, 1) := by decide +kernel
theorem dX0_look_92 : decode cX0_look 92 = .ok (.bipush 12, 2) := by decide +kernel
theorem dX0_look_94 : decode cX0_look 94 = .ok (.iload_n 2, 1) := by decide +kernel
theorem dX0_look_95 : decode cX0_look 95 = .ok (.iadd, 1) := by decide +kernel
theorem dX0_look_96 : decode cX0_look 96 = .ok (.aload_n 0, 1) := by decide +kernel
theorem dX0_look_97 : decode cX0_look 97 = .ok (.getfield 18, 3) := by decide +kernel
theorem dX0_look_100 : decode cX0_look 100 = .ok (.iload_n 2, 1) := by decide +kernel
theorem dX0_look_101 : decode cX0_look 101 = .ok (.invokevirtual 42, 3) := by decide +kernel
theorem dX0_look_104 : decode cX0_look 104 = .ok (.checkcast 56, 3) := by decide +kernel
theorem dX0_look_107 : decode cX0_look 107 = .ok (.invokevirtual 58, 3) := by decide +kernel
theorem dX0_look_110 : decode cX0_look 110 = .ok (.iinc 2 1, 3) := by decide +kernel
theorem dX0_look_113 : decode cX0_look 113 = .ok (.goto (-34), 3) := by decide +kernel
theorem dX0_look_116 : decode cX0_look 116 = .ok (.return_, 1) := by decide +kernel
set_option maxRecDepth 20000 in
theorem ggX0_addHit_X5_get : GoodIn wsX0_addHit wsX5_get := goodIn_ca (goodIn_r _ [6, 7, 8, 16, 17] (by decide +kernel) (by decide +kernel)) (goodIn_sub (fun _ h => List.mem_cons_of_mem _ (List.mem_append_right _ h)) (by decide +kernel))
set_option maxRecDepth 20000 in
theorem gX0_addHit_X5_get : GoodIn wsX0_addHit (wsV RX0 62 RX5 yX5_get wsX5_get) := goodIn_app (goodIn_of _ (by decide +kernel)) ggX0_addHit_X5_get
set_option maxRecDepth 20000 in
theorem ggX0_addHit_X5_set : GoodIn wsX0_addHit wsX5_set := goodIn_ca (goodIn_r _ [12, 7, 8, 16, 17] (by decide +kernel) (by decide +kernel)) (goodIn_sub (fun _ h => List.mem_cons_of_mem _ (List.mem_append_right _ h)) (by decide +kernel))
set_option maxRecDepth 20000 in
theorem gX0_addHit_X5_set : GoodIn wsX0_addHit (wsV RX0 65 RX5 yX5_set wsX5_set) := goodIn_app (goodIn_of _ (by decide +kernel)) ggX0_addHit_X5_set
theorem dX0_addHit_0 : decode cX0_addHit 0 = .ok (.aload_n 0, 1) := by decide +kernel
theorem dX0_addHit_1 : decode cX0_addHit 1 = .ok (.getfield 26, 3) := by decide +kernel
theorem dX0_addHit_4 : decode cX0_addHit 4 = .ok (.iload_n 1, 1) := by decide +kernel
theorem dX0_addHit_5 : decode cX0_addHit 5 = .ok (.aload_n 0, 1) := by decide +kernel
theorem dX0_addHit_6 : decode cX0_addHit 6 = .ok (.getfield 26, 3) := by decide +kernel
theorem dX0_addHit_9 : decode cX0_addHit 9 = .ok (.iload_n 1, 1) := by decide +kernel
theorem dX0_addHit_10 : decode cX0_addHit 10 = .ok (.invokevirtual 62, 3) := by decide +kernel
theorem dX0_addHit_13 : decode cX0_addHit 13 = .ok (.iconst 1, 1) := by decide +kernel
theorem dX0_addHit_14 : decode cX0_addHit 14 = .ok (.iload_n 2, 1) := by decide +kernel
theorem dX0_addHit_15 : decode cX0_addHit 15 = .ok (.ishl, 1) := by decide +kernel
theorem dX0_addHit_16 : decode cX0_addHit 16 = .ok (.ior, 1) := by decide +kernel
theorem dX0_addHit_17 : decode cX0_addHit 17 = .ok (.invokevirtual 65, 3) := by decide +kernel
theorem dX0_addHit_20 : decode cX0_addHit 20 = .ok (.return_, 1) := by decide +kernel
set_option maxRecDepth 20000 in
theorem ggX0_lookForPair_X8_count : GoodIn wsX0_lookForPair wsX8_count := goodIn_r _ [5, 6, 7, 8, 9, 10, 11, 12, 51, 52, 53, 54, 55, 56, 57, 58, 59, 60, 61, 62, 63] (by decide +kernel) (by decide +kernel)
set_option maxRecDepth 20000 in
theorem gX0_lookForPair_X8_count : GoodIn wsX0_lookForPair (wsV RX0 30 RX8 yX8_count wsX8_count) := goodIn_app (goodIn_of _ (by decide +kernel)) ggX0_lookForPair_X8_count
set_option maxRecDepth 20000 in
theorem ggX0_lookForPair_X8_isQuoted : GoodIn wsX0_lookForPair wsX8_isQuoted := goodIn_ca (goodIn_r _ [16, 17, 18, 19, 20, 10, 21, 12, 22, 51, 52, 53, 54, 55, 56, 57, 58, 59, 60, 61, 62, 63] (by decide +kernel) (by decide +kernel)) (goodIn_sub (fun _ h => List.mem_cons_of_mem _ (List.mem_append_right _ h)) (by decide +kernel))
set_option maxRecDepth 20000 in
theorem gX0_lookForPair_X8_isQuoted : GoodIn wsX0_lookForPair (wsV RX0 68 RX8 yX8_isQuoted wsX8_isQuoted) := goodIn_app (goodIn_of _ (by decide +kernel)) ggX0_lookForPair_X8_isQuoted
set_option maxRecDepth 20000 in
theorem ggX0_lookForPair_X8_isThe : GoodIn wsX0_lookForPair wsX8_isThe := goodIn_ca (goodIn_r _ [26, 27, 2, 3, 4, 5, 6, 7, 8, 9, 10, 11, 12, 28, 29, 30, 31, 32, 18, 19, 20, 21, 22, 33, 34, 35, 36, 37, 51, 52, 53, 54, 55, 56, 57, 58, 59, 60, 61, 62, 63] (by decide +kernel) (by decide +kernel)) (goodIn_sub (fun _ h => List.mem_cons_of_mem _ (List.mem_append_right _ h)) (by decide +kernel))
set_option maxRecDepth 20000 in
theorem gX0_lookForPair_X8_isThe : GoodIn wsX0_lookForPair (wsV RX0 72 RX8 yX8_isThe wsX8_isThe) := goodIn_app (goodIn_of _ (by decide +kernel)) ggX0_lookForPair_X8_isThe
set_option maxRecDepth 20000 in
theorem ggX0_lookForPair_X0_addHit : GoodIn wsX0_lookForPair wsX0_addHit := goodIn_ca (goodIn_r _ [42, 43, 44, 19, 20, 10, 21, 12, 22, 45, 46, 47, 48, 64, 65, 66, 62, 63] (by decide +kernel) (by decide +kernel)) (goodIn_sub (fun _ h => List.mem_cons_of_mem _ (List.mem_append_right _ h)) (by decide +kernel))
set_option maxRecDepth 20000 in
theorem gX0_lookForPair_X0_addHit : GoodIn wsX0_lookForPair (wsV RX0 52 RX0 yX0_addHit wsX0_addHit) := goodIn_app (goodIn_of _ (by decide +kernel)) ggX0_lookForPair_X0_addHit
theorem dX0_lookForPair_0 : decode cX0_lookForPair 0 = .ok (.aconst_null, 1) := by decide +kernel
theorem dX0_lookForPair_1 : decode cX0_lookForPair 1 = .ok (.astore 4, 2) := by decide +kernel
theorem dX0_lookForPair_3 : decode cX0_lookForPair 3 = .ok (.iconst 0, 1) := by decide +kernel
theorem dX0_lookForPair_4 : decode cX0_lookForPair 4 = .ok (.istore 5, 2) := by decide +kernel
theorem dX0_lookForPair_6 : decode cX0_lookForPair 6 = .ok (.iload 5, 2) := by decide +kernel
theorem dX0_lookForPair_8 : decode cX0_lookForPair 8 = .ok (.aload_n 1, 1) := by decide +kernel
theorem dX0_lookForPair_9 : decode cX0_lookForPair 9 = .ok (.invokevirtual 30, 3) := by decide +kernel
theorem dX0_lookForPair_12 : decode cX0_lookForPair 12 = .ok (.if_icmp .ge 88, 3) := by decide +kernel
theorem dX0_lookForPair_15 : decode cX0_lookForPair 15 = .ok (.aload_n 1, 1) := by decide +kernel
theorem dX0_lookForPair_16 : decode cX0_lookForPair 16 = .ok (.iload 5, 2) := by decide +kernel
theorem dX0_lookForPair_18 : decode cX0_lookForPair 18 = .ok (.invokevirtual 68, 3) := by decide +kernel
theorem dX0_lookForPair_21 : decode cX0_lookForPair 21 = .ok (.ifCond .eq 6, 3) := by decide +kernel
theorem dX0_lookForPair_24 : decode cX0_lookForPair 24 = .ok (.goto 70, 3) := by decide +kernel
theorem dX0_lookForPair_27 : decode cX0_lookForPair 27 = .ok (.aload 4, 2) := by decide +kernel
theorem dX0_lookForPair_29 : decode cX0_lookForPair 29 = .ok (.ifnull 24, 3) := by decide +kernel
theorem dX0_lookForPair_32 : decode cX0_lookForPair 32 = .ok (.aload_n 1, 1) := by decide +kernel
theorem dX0_lookForPair_33 : decode cX0_lookForPair 33 = .ok (.aload 4, 2) := by decide +kernel
theorem dX0_lookForPair_35 : decode cX0_lookForPair 35 = .ok (.iload 5, 2) := by decide +kernel
theorem dX0_lookForPair_37 : decode cX0_lookForPair 37 = .ok (.invokevirtual 72, 3) := by decide +kernel
theorem dX0_lookForPair_40 : decode cX0_lookForPair 40 = .ok (.ifCond .eq 54, 3) := by decide +kernel
theorem dX0_lookForPair_43 : decode cX0_lookForPair 43 = .ok (.aload_n 0, 1) := by decide +kernel
theorem dX0_lookForPair_44 : decode cX0_lookForPair 44 = .ok (.iload 5, 2) := by decide +kernel
theorem dX0_lookForPair_46 : decode cX0_lookForPair 46 = .ok (.iload_n 2, 1) := by decide +kernel
theorem dX0_lookForPair_47 : decode cX0_lookForPair 47 = .ok (.invokevirtual 52, 3) := by decide +kernel
theorem dX0_lookForPair_50 : decode cX0_lookForPair 50 = .ok (.goto 44, 3) := by decide +kernel
theorem dX0_lookForPair_53 : decode cX0_lookForPair 53 = .ok (.aload_n 1, 1) := by decide +kernel
theorem dX0_lookForPair_54 : decode cX0_lookForPair 54 = .ok (.aload_n 3, 1) := by decide +kernel
theorem dX0_lookForPair_55 : decode cX0_lookForPair 55 = .ok (.getfield 76, 3) := by decide +kernel
theorem dX0_lookForPair_58 : decode cX0_lookForPair 58 = .ok (.iload 5, 2) := by decide +kernel
theorem dX0_lookForPair_60 : decode cX0_lookForPair 60 = .ok (.invokevirtual 72, 3) := by decide +kernel
theorem dX0_lookForPair_63 : decode cX0_lookForPair 63 = .ok (.ifCond .eq 12, 3) := by decide +kernel
theorem dX0_lookForPair_66 : decode cX0_lookForPair 66 = .ok (.aload_n 3, 1) := by decide +kernel
theorem dX0_lookForPair_67 : decode cX0_lookForPair 67 = .ok (.getfield 79, 3) := by decide +kernel
theorem dX0_lookForPair_70 : decode cX0_lookForPair 70 = .ok (.astore 4, 2) := by decide +kernel
theorem dX0_lookForPair_72 : decode cX0_lookForPair 72 = .ok (.goto 22, 3) := by decide +kernel
theorem dX0_lookForPair_75 : decode cX0_lookForPair 75 = .ok (.aload_n 1, 1) := by decide +kernel
theorem dX0_lookForPair_76 : decode cX0_lookForPair 76 = .ok (.aload_n 3, 1) := by decide +kernel
theorem dX0_lookForPair_77 : decode cX0_lookForPair 77 = .ok (.getfield 79, 3) := by decide +kernel
theorem dX0_lookForPair_80 : decode cX0_lookForPair 80 = .ok (.iload 5, 2) := by decide +kernel
theorem dX0_lookForPair_82 : decode cX0_lookForPair 82 = .ok (.invokevirtual 72, 3) := by decide +kernel
theorem dX0_lookForPair_85 : decode cX0_lookForPair 85 = .ok (.ifCond .eq 9, 3) := by decide +kernel
theorem dX0_lookForPair_88 : decode cX0_lookForPair 88 = .ok (.aload_n 3, 1) := by decide +kernel
theorem dX0_lookForPair_89 : decode cX0_lookForPair 89 = .ok (.getfield 76, 3) := by decide +kernel
theorem dX0_lookForPair_92 : decode cX0_lookForPair 92 = .ok (.astore 4, 2) := by decide +kernel
theorem dX0_lookForPair_94 : decode cX0_lookForPair 94 = .ok (.iinc 5 1, 3) := by decide +kernel
theorem dX0_lookForPair_97 : decode cX0_lookForPair 97 = .ok (.goto (-91), 3) := by decide +kernel
theorem dX0_lookForPair_100 : decode cX0_lookForPair 100 = .ok (.return_, 1) := by decide +kernel
set_option maxRecDepth 20000 in
theorem ggX0_foundAt_X5_get : GoodIn wsX0_foundAt wsX5_get := goodIn_ca (goodIn_r _ [7, 8, 9, 36, 37] (by decide +kernel) (by decide +kernel)) (goodIn_sub (fun _ h => List.mem_cons_of_mem _ (List.mem_append_right _ h)) (by decide +kernel))
set_option maxRecDepth 20000 in
theorem gX0_foundAt_X5_get : GoodIn wsX0_foundAt (wsV RX0 62 RX5 yX5_get wsX5_get) := goodIn_app (goodIn_of _ (by decide +kernel)) ggX0_foundAt_X5_get
set_option maxRecDepth 20000 in
theorem ggX0_foundAt_X8_isNumber : GoodIn wsX0_foundAt wsX8_isNumber := goodIn_ca (goodIn_r _ [14, 15, 16, 4, 5, 6, 7, 8, 9, 38, 39, 40, 41, 42, 43, 44, 45, 46, 47, 48, 36, 37] (by decide +kernel) (by decide +kernel)) (goodIn_sub (fun _ h => List.mem_cons_of_mem _ (List.mem_append_right _ h)) (by decide +kernel))
set_option maxRecDepth 20000 in
theorem gX0_foundAt_X8_isNumber : GoodIn wsX0_foundAt (wsV RX0 88 RX8 yX8_isNumber wsX8_isNumber) := goodIn_app (goodIn_of _ (by decide +kernel)) ggX0_foundAt_X8_isNumber
set_option maxRecDepth 20000 in
theorem ggX0_foundAt_X8_isQuoted : GoodIn wsX0_foundAt wsX8_isQuoted := goodIn_ca (goodIn_r _ [20, 21, 16, 4, 5, 6, 7, 8, 9, 38, 39, 40, 41, 42, 43, 44, 45, 46, 47, 48, 36, 37] (by decide +kernel) (by decide +kernel)) (goodIn_sub (fun _ h => List.mem_cons_of_mem _ (List.mem_append_right _ h)) (by decide +kernel))
set_option maxRecDepth 20000 in
theorem gX0_foundAt_X8_isQuoted : GoodIn wsX0_foundAt (wsV RX0 68 RX8 yX8_isQuoted wsX8_isQuoted) := goodIn_app (goodIn_of _ (by decide +kernel)) ggX0_foundAt_X8_isQuoted
set_option maxRecDepth 20000 in
theorem ggX0_foundAt_X8_valueOf : GoodIn wsX0_foundAt wsX8_valueOf := goodIn_ca (goodIn_r _ [25, 26, 16, 4, 5, 6, 7, 8, 9, 38, 39, 40, 41, 42, 43, 44, 45, 46, 47, 48, 36, 37] (by decide +kernel) (by decide +kernel)) (goodIn_sub (fun _ h => List.mem_cons_of_mem _ (List.mem_append_right _ h)) (by decide +kernel))
set_option maxRecDepth 20000 in
theorem gX0_foundAt_X8_valueOf : GoodIn wsX0_foundAt (wsV RX0 91 RX8 yX8_valueOf wsX8_valueOf) := goodIn_app (goodIn_of _ (by decide +kernel)) ggX0_foundAt_X8_valueOf
theorem dX0_foundAt_0 : decode cX0_foundAt 0 = .ok (.aload_n 0, 1) := by decide +kernel
theorem dX0_foundAt_1 : decode cX0_foundAt 1 = .ok (.getfield 26, 3) := by decide +kernel
theorem dX0_foundAt_4 : decode cX0_foundAt 4 = .ok (.iload_n 3, 1) := by decide +kernel
theorem dX0_foundAt_5 : decode cX0_foundAt 5 = .ok (.invokevirtual 62, 3) := by decide +kernel
theorem dX0_foundAt_8 : decode cX0_foundAt 8 = .ok (.aload_n 2, 1) := by decide +kernel
theorem dX0_foundAt_9 : decode cX0_foundAt 9 = .ok (.getfield 82, 3) := by decide +kernel
theorem dX0_foundAt_12 : decode cX0_foundAt 12 = .ok (.iconst (-1), 1) := by decide +kernel
theorem dX0_foundAt_13 : decode cX0_foundAt 13 = .ok (.ixor, 1) := by decide +kernel
theorem dX0_foundAt_14 : decode cX0_foundAt 14 = .ok (.iand, 1) := by decide +kernel
theorem dX0_foundAt_15 : decode cX0_foundAt 15 = .ok (.istore 4, 2) := by decide +kernel
theorem dX0_foundAt_17 : decode cX0_foundAt 17 = .ok (.aload_n 1, 1) := by decide +kernel
theorem dX0_foundAt_18 : decode cX0_foundAt 18 = .ok (.iload_n 3, 1) := by decide +kernel
theorem dX0_foundAt_19 : decode cX0_foundAt 19 = .ok (.invokevirtual 88, 3) := by decide +kernel
theorem dX0_foundAt_22 : decode cX0_foundAt 22 = .ok (.ifCond .eq 30, 3) := by decide +kernel
theorem dX0_foundAt_25 : decode cX0_foundAt 25 = .ok (.aload_n 1, 1) := by decide +kernel
theorem dX0_foundAt_26 : decode cX0_foundAt 26 = .ok (.iload_n 3, 1) := by decide +kernel
theorem dX0_foundAt_27 : decode cX0_foundAt 27 = .ok (.invokevirtual 68, 3) := by decide +kernel
theorem dX0_foundAt_30 : decode cX0_foundAt 30 = .ok (.ifCond .ne 22, 3) := by decide +kernel
theorem dX0_foundAt_33 : decode cX0_foundAt 33 = .ok (.aload_n 1, 1) := by decide +kernel
theorem dX0_foundAt_34 : decode cX0_foundAt 34 = .ok (.iload_n 3, 1) := by decide +kernel
theorem dX0_foundAt_35 : decode cX0_foundAt 35 = .ok (.invokevirtual 91, 3) := by decide +kernel
theorem dX0_foundAt_38 : decode cX0_foundAt 38 = .ok (.aload_n 2, 1) := by decide +kernel
theorem dX0_foundAt_39 : decode cX0_foundAt 39 = .ok (.getfield 94, 3) := by decide +kernel
theorem dX0_foundAt_42 : decode cX0_foundAt 42 = .ok (.if_icmp .ge 10, 3) := by decide +kernel
theorem dX0_foundAt_45 : decode cX0_foundAt 45 = .ok (.iload 4, 2) := by decide +kernel
theorem dX0_foundAt_47 : decode cX0_foundAt 47 = .ok (.ldc 97, 2) := by decide +kernel
theorem dX0_foundAt_49 : decode cX0_foundAt 49 = .ok (.ior, 1) := by decide +kernel
theorem dX0_foundAt_50 : decode cX0_foundAt 50 = .ok (.istore 4, 2) := by decide +kernel
theorem dX0_foundAt_52 : decode cX0_foundAt 52 = .ok (.iload 4, 2) := by decide +kernel
theorem dX0_foundAt_54 : decode cX0_foundAt 54 = .ok (.ireturn, 1) := by decide +kernel
set_option maxRecDepth 20000 in
theorem ggX0_itemsOf_Jx4a65c_size_8abf5 : GoodIn wsX0_itemsOf wsJx4a65c_size_8abf5 := goodIn_r _ [7, 8, 35, 36, 37] (by decide +kernel) (by decide +kernel)
set_option maxRecDepth 20000 in
theorem gX0_itemsOf_Jx4a65c_size_8abf5 : GoodIn wsX0_itemsOf (wsV RX0 39 RJx4a65c yJx4a65c_size_8abf5 wsJx4a65c_size_8abf5) := goodIn_app (goodIn_of _ (by decide +kernel)) ggX0_itemsOf_Jx4a65c_size_8abf5
set_option maxRecDepth 20000 in
theorem ggX0_itemsOf_Jx4a65c_get_915e3 : GoodIn wsX0_itemsOf wsJx4a65c_get_915e3 := goodIn_r _ [12, 8, 13, 14, 15, 16, 17, 18, 19, 20, 21, 22, 23, 6, 24, 25, 35, 36, 37] (by decide +kernel) (by decide +kernel)
set_option maxRecDepth 20000 in
theorem gX0_itemsOf_Jx4a65c_get_915e3 : GoodIn wsX0_itemsOf (wsV RX0 42 RJx4a65c yJx4a65c_get_915e3 wsJx4a65c_get_915e3) := goodIn_app (goodIn_of _ (by decide +kernel)) ggX0_itemsOf_Jx4a65c_get_915e3
theorem dX0_itemsOf_0 : decode cX0_itemsOf 0 = .ok (.iload_n 1, 1) := by decide +kernel
theorem dX0_itemsOf_1 : decode cX0_itemsOf 1 = .ok (.ifCond .lt 34, 3) := by decide +kernel
theorem dX0_itemsOf_4 : decode cX0_itemsOf 4 = .ok (.iload_n 1, 1) := by decide +kernel
theorem dX0_itemsOf_5 : decode cX0_itemsOf 5 = .ok (.aload_n 0, 1) := by decide +kernel
theorem dX0_itemsOf_6 : decode cX0_itemsOf 6 = .ok (.getfield 12, 3) := by decide +kernel
theorem dX0_itemsOf_9 : decode cX0_itemsOf 9 = .ok (.invokevirtual 39, 3) := by decide +kernel
theorem dX0_itemsOf_12 : decode cX0_itemsOf 12 = .ok (.if_icmp .ge 23, 3) := by decide +kernel
theorem dX0_itemsOf_15 : decode cX0_itemsOf 15 = .ok (.aload_n 0, 1) := by decide +kernel
theorem dX0_itemsOf_16 : decode cX0_itemsOf 16 = .ok (.getfield 12, 3) := by decide +kernel
theorem dX0_itemsOf_19 : decode cX0_itemsOf 19 = .ok (.iload_n 1, 1) := by decide +kernel
theorem dX0_itemsOf_20 : decode cX0_itemsOf 20 = .ok (.invokevirtual 42, 3) := by decide +kernel
theorem dX0_itemsOf_23 : decode cX0_itemsOf 23 = .ok (.checkcast 46, 3) := by decide +kernel
theorem dX0_itemsOf_26 : decode cX0_itemsOf 26 = .ok (.getfield 98, 3) := by decide +kernel
theorem dX0_itemsOf_29 : decode cX0_itemsOf 29 = .ok (.invokevirtual 39, 3) := by decide +kernel
theorem dX0_itemsOf_32 : decode cX0_itemsOf 32 = .ok (.goto 4, 3) := by decide +kernel
theorem dX0_itemsOf_35 : decode cX0_itemsOf 35 = .ok (.iconst 1, 1) := by decide +kernel
theorem dX0_itemsOf_36 : decode cX0_itemsOf 36 = .ok (.ireturn, 1) := by decide +kernel
set_option maxRecDepth 20000 in
theorem ggX0_rankAt_Jx4a65c_size_8abf5 : GoodIn wsX0_rankAt wsJx4a65c_size_8abf5 := goodIn_r _ [7, 8, 48, 49, 50] (by decide +kernel) (by decide +kernel)
set_option maxRecDepth 20000 in
theorem gX0_rankAt_Jx4a65c_size_8abf5 : GoodIn wsX0_rankAt (wsV RX0 39 RJx4a65c yJx4a65c_size_8abf5 wsJx4a65c_size_8abf5) := goodIn_app (goodIn_of _ (by decide +kernel)) ggX0_rankAt_Jx4a65c_size_8abf5
set_option maxRecDepth 20000 in
theorem ggX0_rankAt_X5_get : GoodIn wsX0_rankAt wsX5_get := goodIn_ca (goodIn_r _ [13, 14, 15, 51, 52] (by decide +kernel) (by decide +kernel)) (goodIn_sub (fun _ h => List.mem_cons_of_mem _ (List.mem_append_right _ h)) (by decide +kernel))
set_option maxRecDepth 20000 in
theorem gX0_rankAt_X5_get : GoodIn wsX0_rankAt (wsV RX0 62 RX5 yX5_get wsX5_get) := goodIn_app (goodIn_of _ (by decide +kernel)) ggX0_rankAt_X5_get
set_option maxRecDepth 20000 in
theorem ggX0_rankAt_Jx4a65c_get_915e3 : GoodIn wsX0_rankAt wsJx4a65c_get_915e3 := goodIn_r _ [19, 8, 20, 21, 22, 23, 24, 25, 26, 27, 28, 29, 30, 6, 31, 32, 48, 49, 50] (by decide +kernel) (by decide +kernel)
set_option maxRecDepth 20000 in
theorem gX0_rankAt_Jx4a65c_get_915e3 : GoodIn wsX0_rankAt (wsV RX0 42 RJx4a65c yJx4a65c_get_915e3 wsJx4a65c_get_915e3) := goodIn_app (goodIn_of _ (by decide +kernel)) ggX0_rankAt_Jx4a65c_get_915e3
theorem dX0_rankAt_0 : decode cX0_rankAt 0 = .ok (.iload_n 2, 1) := by decide +kernel
theorem dX0_rankAt_1 : decode cX0_rankAt 1 = .ok (.ifCond .lt 46, 3) := by decide +kernel
theorem dX0_rankAt_4 : decode cX0_rankAt 4 = .ok (.iload_n 2, 1) := by decide +kernel
theorem dX0_rankAt_5 : decode cX0_rankAt 5 = .ok (.aload_n 0, 1) := by decide +kernel
theorem dX0_rankAt_6 : decode cX0_rankAt 6 = .ok (.getfield 12, 3) := by decide +kernel
theorem dX0_rankAt_9 : decode cX0_rankAt 9 = .ok (.invokevirtual 39, 3) := by decide +kernel
theorem dX0_rankAt_12 : decode cX0_rankAt 12 = .ok (.if_icmp .ge 35, 3) := by decide +kernel
theorem dX0_rankAt_15 : decode cX0_rankAt 15 = .ok (.aload_n 1, 1) := by decide +kernel
theorem dX0_rankAt_16 : decode cX0_rankAt 16 = .ok (.getfield 101, 3) := by decide +kernel
theorem dX0_rankAt_19 : decode cX0_rankAt 19 = .ok (.iload_n 2, 1) := by decide +kernel
theorem dX0_rankAt_20 : decode cX0_rankAt 20 = .ok (.invokevirtual 62, 3) := by decide +kernel
theorem dX0_rankAt_23 : decode cX0_rankAt 23 = .ok (.istore_n 3, 1) := by decide +kernel
theorem dX0_rankAt_24 : decode cX0_rankAt 24 = .ok (.iload_n 3, 1) := by decide +kernel
theorem dX0_rankAt_25 : decode cX0_rankAt 25 = .ok (.ifCond .ne 20, 3) := by decide +kernel
theorem dX0_rankAt_28 : decode cX0_rankAt 28 = .ok (.aload_n 0, 1) := by decide +kernel
theorem dX0_rankAt_29 : decode cX0_rankAt 29 = .ok (.getfield 12, 3) := by decide +kernel
theorem dX0_rankAt_32 : decode cX0_rankAt 32 = .ok (.iload_n 2, 1) := by decide +kernel
theorem dX0_rankAt_33 : decode cX0_rankAt 33 = .ok (.invokevirtual 42, 3) := by decide +kernel
theorem dX0_rankAt_36 : decode cX0_rankAt 36 = .ok (.checkcast 46, 3) := by decide +kernel
theorem dX0_rankAt_39 : decode cX0_rankAt 39 = .ok (.getfield 104, 3) := by decide +kernel
theorem dX0_rankAt_42 : decode cX0_rankAt 42 = .ok (.goto 4, 3) := by decide +kernel
theorem dX0_rankAt_45 : decode cX0_rankAt 45 = .ok (.iload_n 3, 1) := by decide +kernel
theorem dX0_rankAt_46 : decode cX0_rankAt 46 = .ok (.ireturn, 1) := by decide +kernel
theorem dX0_rankAt_47 : decode cX0_rankAt 47 = .ok (.iload_n 2, 1) := by decide +kernel
theorem dX0_rankAt_48 : decode cX0_rankAt 48 = .ok (.bipush 20, 2) := by decide +kernel
theorem dX0_rankAt_50 : decode cX0_rankAt 50 = .ok (.if_icmp .ne 7, 3) := by decide +kernel
theorem dX0_rankAt_53 : decode cX0_rankAt 53 = .ok (.iconst 1, 1) := by decide +kernel
theorem dX0_rankAt_54 : decode cX0_rankAt 54 = .ok (.goto 4, 3) := by decide +kernel
theorem dX0_rankAt_57 : decode cX0_rankAt 57 = .ok (.iconst 5, 1) := by decide +kernel
theorem dX0_rankAt_58 : decode cX0_rankAt 58 = .ok (.ireturn, 1) := by decide +kernel
set_option maxRecDepth 20000 in
theorem ggX0_ofRank_X0_rankAt : GoodIn wsX0_ofRank wsX0_rankAt := goodIn_ca (goodIn_r _ [5, 6, 7, 8, 9, 10, 11, 12, 13, 14, 15, 16, 17, 18, 19, 20, 21, 22, 23, 24, 25, 26, 27, 28, 29, 30, 31, 32, 33, 34, 35, 36, 37, 38, 39, 40, 41, 42, 43, 44, 45, 46, 47, 48, 49, 50, 51, 52, 53, 54, 55, 56, 57] (by decide +kernel) (by decide +kernel)) (goodIn_sub (fun _ h => List.mem_cons_of_mem _ (List.mem_append_right _ h)) (by decide +kernel))
set_option maxRecDepth 20000 in
theorem gX0_ofRank_X0_rankAt : GoodIn wsX0_ofRank (wsV RX0 107 RX0 yX0_rankAt wsX0_rankAt) := goodIn_app (goodIn_of _ (by decide +kernel)) ggX0_ofRank_X0_rankAt
theorem dX0_ofRank_0 : decode cX0_ofRank 0 = .ok (.iconst 0, 1) := by decide +kernel
theorem dX0_ofRank_1 : decode cX0_ofRank 1 = .ok (.istore_n 3, 1) := by decide +kernel
theorem dX0_ofRank_2 : decode cX0_ofRank 2 = .ok (.iconst 0, 1) := by decide +kernel
theorem dX0_ofRank_3 : decode cX0_ofRank 3 = .ok (.istore 4, 2) := by decide +kernel
theorem dX0_ofRank_5 : decode cX0_ofRank 5 = .ok (.iload 4, 2) := by decide +kernel
theorem dX0_ofRank_7 : decode cX0_ofRank 7 = .ok (.bipush 20, 2) := by decide +kernel
theorem dX0_ofRank_9 : decode cX0_ofRank 9 = .ok (.if_icmp .gt 27, 3) := by decide +kernel
theorem dX0_ofRank_12 : decode cX0_ofRank 12 = .ok (.aload_n 0, 1) := by decide +kernel
theorem dX0_ofRank_13 : decode cX0_ofRank 13 = .ok (.aload_n 1, 1) := by decide +kernel
theorem dX0_ofRank_14 : decode cX0_ofRank 14 = .ok (.iload 4, 2) := by decide +kernel
theorem dX0_ofRank_16 : decode cX0_ofRank 16 = .ok (.invokevirtual 107, 3) := by decide +kernel
theorem dX0_ofRank_19 : decode cX0_ofRank 19 = .ok (.iload_n 2, 1) := by decide +kernel
theorem dX0_ofRank_20 : decode cX0_ofRank 20 = .ok (.if_icmp .ne 10, 3) := by decide +kernel
theorem dX0_ofRank_23 : decode cX0_ofRank 23 = .ok (.iload_n 3, 1) := by decide +kernel
theorem dX0_ofRank_24 : decode cX0_ofRank 24 = .ok (.iconst 1, 1) := by decide +kernel
theorem dX0_ofRank_25 : decode cX0_ofRank 25 = .ok (.iload 4, 2) := by decide +kernel
theorem dX0_ofRank_27 : decode cX0_ofRank 27 = .ok (.ishl, 1) := by decide +kernel
theorem dX0_ofRank_28 : decode cX0_ofRank 28 = .ok (.ior, 1) := by decide +kernel
theorem dX0_ofRank_29 : decode cX0_ofRank 29 = .ok (.istore_n 3, 1) := by decide +kernel
theorem dX0_ofRank_30 : decode cX0_ofRank 30 = .ok (.iinc 4 1, 3) := by decide +kernel
theorem dX0_ofRank_33 : decode cX0_ofRank 33 = .ok (.goto (-28), 3) := by decide +kernel
theorem dX0_ofRank_36 : decode cX0_ofRank 36 = .ok (.iload_n 3, 1) := by decide +kernel
theorem dX0_ofRank_37 : decode cX0_ofRank 37 = .ok (.ireturn, 1) := by decide +kernel
set_option maxRecDepth 20000 in
theorem ggX0_suggestionsOf_Jx4a65c_size_8abf5 : GoodIn wsX0_suggestionsOf wsJx4a65c_size_8abf5 := goodIn_r _ [8, 9, 36, 37, 38] (by decide +kernel) (by decide +kernel)
set_option maxRecDepth 20000 in
theorem gX0_suggestionsOf_Jx4a65c_size_8abf5 : GoodIn wsX0_suggestionsOf (wsV RX0 39 RJx4a65c yJx4a65c_size_8abf5 wsJx4a65c_size_8abf5) := goodIn_app (goodIn_of _ (by decide +kernel)) ggX0_suggestionsOf_Jx4a65c_size_8abf5
set_option maxRecDepth 20000 in
theorem ggX0_suggestionsOf_Jx4a65c_get_915e3 : GoodIn wsX0_suggestionsOf wsJx4a65c_get_915e3 := goodIn_r _ [13, 9, 14, 15, 16, 17, 18, 19, 20, 21, 22, 23, 24, 7, 25, 26, 36, 37, 38] (by decide +kernel) (by decide +kernel)
set_option maxRecDepth 20000 in
theorem gX0_suggestionsOf_Jx4a65c_get_915e3 : GoodIn wsX0_suggestionsOf (wsV RX0 42 RJx4a65c yJx4a65c_get_915e3 wsJx4a65c_get_915e3) := goodIn_app (goodIn_of _ (by decide +kernel)) ggX0_suggestionsOf_Jx4a65c_get_915e3
theorem dX0_suggestionsOf_0 : decode cX0_suggestionsOf 0 = .ok (.iload_n 1, 1) := by decide +kernel
theorem dX0_suggestionsOf_1 : decode cX0_suggestionsOf 1 = .ok (.ifCond .lt 32, 3) := by decide +kernel
theorem dX0_suggestionsOf_4 : decode cX0_suggestionsOf 4 = .ok (.iload_n 1, 1) := by decide +kernel
theorem dX0_suggestionsOf_5 : decode cX0_suggestionsOf 5 = .ok (.aload_n 0, 1) := by decide +kernel
theorem dX0_suggestionsOf_6 : decode cX0_suggestionsOf 6 = .ok (.getfield 12, 3) := by decide +kernel
theorem dX0_suggestionsOf_9 : decode cX0_suggestionsOf 9 = .ok (.invokevirtual 39, 3) := by decide +kernel
theorem dX0_suggestionsOf_12 : decode cX0_suggestionsOf 12 = .ok (.if_icmp .ge 21, 3) := by decide +kernel
theorem dX0_suggestionsOf_15 : decode cX0_suggestionsOf 15 = .ok (.aload_n 0, 1) := by decide +kernel
theorem dX0_suggestionsOf_16 : decode cX0_suggestionsOf 16 = .ok (.getfield 12, 3) := by decide +kernel
theorem dX0_suggestionsOf_19 : decode cX0_suggestionsOf 19 = .ok (.iload_n 1, 1) := by decide +kernel
theorem dX0_suggestionsOf_20 : decode cX0_suggestionsOf 20 = .ok (.invokevirtual 42, 3) := by decide +kernel
theorem dX0_suggestionsOf_23 : decode cX0_suggestionsOf 23 = .ok (.checkcast 46, 3) := by decide +kernel
theorem dX0_suggestionsOf_26 : decode cX0_suggestionsOf 26 = .ok (.getfield 111, 3) := by decide +kernel
theorem dX0_suggestionsOf_29 : decode cX0_suggestionsOf 29 = .ok (.invokevirtual 39, 3) := by decide +kernel
theorem dX0_suggestionsOf_32 : decode cX0_suggestionsOf 32 = .ok (.ireturn, 1) := by decide +kernel
theorem dX0_suggestionsOf_33 : decode cX0_suggestionsOf 33 = .ok (.iload_n 1, 1) := by decide +kernel
theorem dX0_suggestionsOf_34 : decode cX0_suggestionsOf 34 = .ok (.bipush 12, 2) := by decide +kernel
theorem dX0_suggestionsOf_36 : decode cX0_suggestionsOf 36 = .ok (.if_icmp .lt 21, 3) := by decide +kernel
theorem dX0_suggestionsOf_39 : decode cX0_suggestionsOf 39 = .ok (.iload_n 1, 1) := by decide +kernel
theorem dX0_suggestionsOf_40 : decode cX0_suggestionsOf 40 = .ok (.bipush 12, 2) := by decide +kernel
theorem dX0_suggestionsOf_42 : decode cX0_suggestionsOf 42 = .ok (.isub, 1) := by decide +kernel
theorem dX0_suggestionsOf_43 : decode cX0_suggestionsOf 43 = .ok (.aload_n 0, 1) := by decide +kernel
theorem dX0_suggestionsOf_44 : decode cX0_suggestionsOf 44 = .ok (.getfield 18, 3) := by decide +kernel
theorem dX0_suggestionsOf_47 : decode cX0_suggestionsOf 47 = .ok (.invokevirtual 39, 3) := by decide +kernel
theorem dX0_suggestionsOf_50 : decode cX0_suggestionsOf 50 = .ok (.if_icmp .ge 7, 3) := by decide +kernel
theorem dX0_suggestionsOf_53 : decode cX0_suggestionsOf 53 = .ok (.iconst 1, 1) := by decide +kernel
theorem dX0_suggestionsOf_54 : decode cX0_suggestionsOf 54 = .ok (.goto 4, 3) := by decide +kernel
theorem dX0_suggestionsOf_57 : decode cX0_suggestionsOf 57 = .ok (.iconst 0, 1) := by decide +kernel
theorem dX0_suggestionsOf_58 : decode cX0_suggestionsOf 58 = .ok (.ireturn, 1) := by decide +kernel
set_option maxRecDepth 20000 in
theorem ggX0_writeSuggestion_Jx4a65c_size_8abf5 : GoodIn wsX0_writeSuggestion wsJx4a65c_size_8abf5 := goodIn_r _ [9, 10, 98, 99, 100] (by decide +kernel) (by decide +kernel)
set_option maxRecDepth 20000 in
theorem gX0_writeSuggestion_Jx4a65c_size_8abf5 : GoodIn wsX0_writeSuggestion (wsV RX0 39 RJx4a65c yJx4a65c_size_8abf5 wsJx4a65c_size_8abf5) := goodIn_app (goodIn_of _ (by decide +kernel)) ggX0_writeSuggestion_Jx4a65c_size_8abf5
set_option maxRecDepth 20000 in
theorem ggX0_writeSuggestion_Jx4a65c_get_915e3 : GoodIn wsX0_writeSuggestion wsJx4a65c_get_915e3 := goodIn_r _ [14, 10, 15, 16, 17, 18, 19, 20, 21, 22, 23, 24, 25, 8, 26, 27, 98, 99, 100] (by decide +kernel) (by decide +kernel)
set_option maxRecDepth 20000 in
theorem gX0_writeSuggestion_Jx4a65c_get_915e3 : GoodIn wsX0_writeSuggestion (wsV RX0 42 RJx4a65c yJx4a65c_get_915e3 wsJx4a65c_get_915e3) := goodIn_app (goodIn_of _ (by decide +kernel)) ggX0_writeSuggestion_Jx4a65c_get_915e3
set_option maxRecDepth 20000 in
theorem ggX0_writeSuggestion_X6_writeSuggestion : GoodIn wsX0_writeSuggestion wsX6_writeSuggestion := goodIn_ca (goodIn_r _ [32, 33, 34, 35, 6, 7, 8, 9, 10, 36, 12, 13, 14, 15, 16, 17, 18, 19, 20, 21, 22, 23, 24, 25, 26, 27, 37, 38, 39, 40, 41, 42, 43, 44, 45, 46, 47, 48, 49, 50, 31, 51, 52, 53, 54, 55, 56, 57, 58, 59, 60, 61, 62, 63, 64, 65, 66, 67, 101, 102, 103, 104, 105, 106, 98, 99, 100, 107, 108, 109, 110, 111, 112, 113, 114, 115, 116, 117, 118, 119, 120, 121, 122] (by decide +kernel) (by decide +kernel)) (goodIn_sub (fun _ h => List.mem_cons_of_mem _ (List.mem_append_right _ h)) (by decide +kernel))
set_option maxRecDepth 20000 in
theorem gX0_writeSuggestion_X6_writeSuggestion : GoodIn wsX0_writeSuggestion (wsV RX0 114 RX6 yX6_writeSuggestion wsX6_writeSuggestion) := goodIn_app (goodIn_of _ (by decide +kernel)) ggX0_writeSuggestion_X6_writeSuggestion
set_option maxRecDepth 20000 in
theorem ggX0_writeSuggestion_X4_unlike : GoodIn wsX0_writeSuggestion wsX4_unlike := goodIn_ca (goodIn_r _ [72, 73, 74, 75, 76, 77, 57, 78, 79, 80, 81, 82, 59, 83, 38, 39, 40, 41, 42, 84, 85, 86, 87, 60, 62, 44, 45, 46, 47, 88, 89, 90, 91, 61, 123, 124, 112, 113, 114, 115, 116, 117, 118, 119, 120, 121, 122, 107, 108] (by decide +kernel) (by decide +kernel)) (goodIn_sub (fun _ h => List.mem_cons_of_mem _ (List.mem_append_right _ h)) (by decide +kernel))
set_option maxRecDepth 20000 in
theorem gX0_writeSuggestion_X4_unlike : GoodIn wsX0_writeSuggestion (wsV RX0 118 RX4 yX4_unlike wsX4_unlike) := goodIn_app (goodIn_of _ (by decide +kernel)) ggX0_writeSuggestion_X4_unlike
set_option maxRecDepth 20000 in
theorem ggX0_writeSuggestion_X5_count : GoodIn wsX0_writeSuggestion wsX5_count := goodIn_r _ [41, 42, 107, 108] (by decide +kernel) (by decide +kernel)
set_option maxRecDepth 20000 in
theorem gX0_writeSuggestion_X5_count : GoodIn wsX0_writeSuggestion (wsV RX0 122 RX5 yX5_count wsX5_count) := goodIn_app (goodIn_of _ (by decide +kernel)) ggX0_writeSuggestion_X5_count
set_option maxRecDepth 20000 in
theorem ggX0_writeSuggestion_X5_get : GoodIn wsX0_writeSuggestion wsX5_get := goodIn_ca (goodIn_r _ [46, 42, 47, 107, 108] (by decide +kernel) (by decide +kernel)) (goodIn_sub (fun _ h => List.mem_cons_of_mem _ (List.mem_append_right _ h)) (by decide +kernel))
set_option maxRecDepth 20000 in
theorem gX0_writeSuggestion_X5_get : GoodIn wsX0_writeSuggestion (wsV RX0 62 RX5 yX5_get wsX5_get) := goodIn_app (goodIn_of _ (by decide +kernel)) ggX0_writeSuggestion_X5_get
set_option maxRecDepth 20000 in
theorem ggX0_writeSuggestion_X5_add : GoodIn wsX0_writeSuggestion wsX5_add := goodIn_ca (goodIn_r _ [66, 42, 47, 107, 108] (by decide +kernel) (by decide +kernel)) (goodIn_sub (fun _ h => List.mem_cons_of_mem _ (List.mem_append_right _ h)) (by decide +kernel))
set_option maxRecDepth 20000 in
theorem gX0_writeSuggestion_X5_add : GoodIn wsX0_writeSuggestion (wsV RX0 123 RX5 yX5_add wsX5_add) := goodIn_app (goodIn_of _ (by decide +kernel)) ggX0_writeSuggestion_X5_add
theorem dX0_writeSuggestion_0 : decode cX0_writeSuggestion 0 = .ok (.iload_n 3, 1) := by decide +kernel
theorem dX0_writeSuggestion_1 : decode cX0_writeSuggestion 1 = .ok (.ifCond .lt 37, 3) := by decide +kernel
theorem dX0_writeSuggestion_4 : decode cX0_writeSuggestion 4 = .ok (.iload_n 3, 1) := by decide +kernel
theorem dX0_writeSuggestion_5 : decode cX0_writeSuggestion 5 = .ok (.aload_n 0, 1) := by decide +kernel
theorem dX0_writeSuggestion_6 : decode cX0_writeSuggestion 6 = .ok (.getfield 12, 3) := by decide +kernel
theorem dX0_writeSuggestion_9 : decode cX0_writeSuggestion 9 = .ok (.invokevirtual 39, 3) := by decide +kernel
theorem dX0_writeSuggestion_12 : decode cX0_writeSuggestion 12 = .ok (.if_icmp .ge 26, 3) := by decide +kernel
theorem dX0_writeSuggestion_15 : decode cX0_writeSuggestion 15 = .ok (.aload_n 0, 1) := by decide +kernel
theorem dX0_writeSuggestion_16 : decode cX0_writeSuggestion 16 = .ok (.getfield 12, 3) := by decide +kernel
theorem dX0_writeSuggestion_19 : decode cX0_writeSuggestion 19 = .ok (.iload_n 3, 1) := by decide +kernel
theorem dX0_writeSuggestion_20 : decode cX0_writeSuggestion 20 = .ok (.invokevirtual 42, 3) := by decide +kernel
theorem dX0_writeSuggestion_23 : decode cX0_writeSuggestion 23 = .ok (.checkcast 46, 3) := by decide +kernel
theorem dX0_writeSuggestion_26 : decode cX0_writeSuggestion 26 = .ok (.aload_n 1, 1) := by decide +kernel
theorem dX0_writeSuggestion_27 : decode cX0_writeSuggestion 27 = .ok (.iload_n 2, 1) := by decide +kernel
theorem dX0_writeSuggestion_28 : decode cX0_writeSuggestion 28 = .ok (.iload 4, 2) := by decide +kernel
theorem dX0_writeSuggestion_30 : decode cX0_writeSuggestion 30 = .ok (.aload 5, 2) := by decide +kernel
theorem dX0_writeSuggestion_32 : decode cX0_writeSuggestion 32 = .ok (.invokevirtual 114, 3) := by decide +kernel
theorem dX0_writeSuggestion_35 : decode cX0_writeSuggestion 35 = .ok (.goto 75, 3) := by decide +kernel
theorem dX0_writeSuggestion_38 : decode cX0_writeSuggestion 38 = .ok (.iload_n 3, 1) := by decide +kernel
theorem dX0_writeSuggestion_39 : decode cX0_writeSuggestion 39 = .ok (.bipush 12, 2) := by decide +kernel
theorem dX0_writeSuggestion_41 : decode cX0_writeSuggestion 41 = .ok (.if_icmp .lt 69, 3) := by decide +kernel
theorem dX0_writeSuggestion_44 : decode cX0_writeSuggestion 44 = .ok (.iload_n 3, 1) := by decide +kernel
theorem dX0_writeSuggestion_45 : decode cX0_writeSuggestion 45 = .ok (.bipush 12, 2) := by decide +kernel
theorem dX0_writeSuggestion_47 : decode cX0_writeSuggestion 47 = .ok (.isub, 1) := by decide +kernel
theorem dX0_writeSuggestion_48 : decode cX0_writeSuggestion 48 = .ok (.aload_n 0, 1) := by decide +kernel
theorem dX0_writeSuggestion_49 : decode cX0_writeSuggestion 49 = .ok (.getfield 18, 3) := by decide +kernel
theorem dX0_writeSuggestion_52 : decode cX0_writeSuggestion 52 = .ok (.invokevirtual 39, 3) := by decide +kernel
theorem dX0_writeSuggestion_55 : decode cX0_writeSuggestion 55 = .ok (.if_icmp .ge 55, 3) := by decide +kernel
theorem dX0_writeSuggestion_58 : decode cX0_writeSuggestion 58 = .ok (.aload_n 0, 1) := by decide +kernel
theorem dX0_writeSuggestion_59 : decode cX0_writeSuggestion 59 = .ok (.getfield 18, 3) := by decide +kernel
theorem dX0_writeSuggestion_62 : decode cX0_writeSuggestion 62 = .ok (.iload_n 3, 1) := by decide +kernel
theorem dX0_writeSuggestion_63 : decode cX0_writeSuggestion 63 = .ok (.bipush 12, 2) := by decide +kernel
theorem dX0_writeSuggestion_65 : decode cX0_writeSuggestion 65 = .ok (.isub, 1) := by decide +kernel
theorem dX0_writeSuggestion_66 : decode cX0_writeSuggestion 66 = .ok (.invokevirtual 42, 3) := by decide +kernel
theorem dX0_writeSuggestion_69 : decode cX0_writeSuggestion 69 = .ok (.checkcast 56, 3) := by decide +kernel
theorem dX0_writeSuggestion_72 : decode cX0_writeSuggestion 72 = .ok (.aload_n 1, 1) := by decide +kernel
theorem dX0_writeSuggestion_73 : decode cX0_writeSuggestion 73 = .ok (.iload_n 2, 1) := by decide +kernel
theorem dX0_writeSuggestion_74 : decode cX0_writeSuggestion 74 = .ok (.invokevirtual 118, 3) := by decide +kernel
theorem dX0_writeSuggestion_77 : decode cX0_writeSuggestion 77 = .ok (.astore 6, 2) := by decide +kernel
theorem dX0_writeSuggestion_79 : decode cX0_writeSuggestion 79 = .ok (.iconst 0, 1) := by decide +kernel
theorem dX0_writeSuggestion_80 : decode cX0_writeSuggestion 80 = .ok (.istore 7, 2) := by decide +kernel
theorem dX0_writeSuggestion_82 : decode cX0_writeSuggestion 82 = .ok (.iload 7, 2) := by decide +kernel
theorem dX0_writeSuggestion_84 : decode cX0_writeSuggestion 84 = .ok (.aload 6, 2) := by decide +kernel
theorem dX0_writeSuggestion_86 : decode cX0_writeSuggestion 86 = .ok (.invokevirtual 122, 3) := by decide +kernel
theorem dX0_writeSuggestion_89 : decode cX0_writeSuggestion 89 = .ok (.if_icmp .ge 21, 3) := by decide +kernel
theorem dX0_writeSuggestion_92 : decode cX0_writeSuggestion 92 = .ok (.aload 5, 2) := by decide +kernel
theorem dX0_writeSuggestion_94 : decode cX0_writeSuggestion 94 = .ok (.aload 6, 2) := by decide +kernel
theorem dX0_writeSuggestion_96 : decode cX0_writeSuggestion 96 = .ok (.iload 7, 2) := by decide +kernel
theorem dX0_writeSuggestion_98 : decode cX0_writeSuggestion 98 = .ok (.invokevirtual 62, 3) := by decide +kernel
theorem dX0_writeSuggestion_101 : decode cX0_writeSuggestion 101 = .ok (.invokevirtual 123, 3) := by decide +kernel
theorem dX0_writeSuggestion_104 : decode cX0_writeSuggestion 104 = .ok (.iinc 7 1, 3) := by decide +kernel
theorem dX0_writeSuggestion_107 : decode cX0_writeSuggestion 107 = .ok (.goto (-25), 3) := by decide +kernel
theorem dX0_writeSuggestion_110 : decode cX0_writeSuggestion 110 = .ok (.return_, 1) := by decide +kernel
set_option maxRecDepth 20000 in
theorem ggX1_init_X5_init : GoodIn wsX1_init wsX5_init := goodIn_r _ [15, 16, 2, 3, 17, 18, 19, 24, 25] (by decide +kernel) (by decide +kernel)
set_option maxRecDepth 20000 in
theorem gX1_init_X5_init : GoodIn wsX1_init (wsX5_init) := ggX1_init_X5_init
set_option maxRecDepth 20000 in
theorem ggX1_init_X5_reset : GoodIn wsX1_init wsX5_reset := goodIn_ca (goodIn_r _ [23, 19, 18, 24, 25] (by decide +kernel) (by decide +kernel)) (goodIn_sub (fun _ h => List.mem_cons_of_mem _ (List.mem_append_right _ h)) (by decide +kernel))
set_option maxRecDepth 20000 in
theorem gX1_init_X5_reset : GoodIn wsX1_init (wsV RX1 20 RX5 yX5_reset wsX5_reset) := goodIn_app (goodIn_of _ (by decide +kernel)) ggX1_init_X5_reset
theorem dX1_init_0 : decode cX1_init 0 = .ok (.aload_n 0, 1) := by decide +kernel
theorem dX1_init_1 : decode cX1_init 1 = .ok (.invokespecial 3, 3) := by decide +kernel
theorem dX1_init_4 : decode cX1_init 4 = .ok (.aload_n 0, 1) := by decide +kernel
theorem dX1_init_5 : decode cX1_init 5 = .ok (.new 9, 3) := by decide +kernel
theorem dX1_init_8 : decode cX1_init 8 = .ok (.dup, 1) := by decide +kernel
theorem dX1_init_9 : decode cX1_init 9 = .ok (.bipush 12, 2) := by decide +kernel
theorem dX1_init_11 : decode cX1_init 11 = .ok (.invokespecial 11, 3) := by decide +kernel
theorem dX1_init_14 : decode cX1_init 14 = .ok (.putfield 14, 3) := by decide +kernel
theorem dX1_init_17 : decode cX1_init 17 = .ok (.aload_n 0, 1) := by decide +kernel
theorem dX1_init_18 : decode cX1_init 18 = .ok (.getfield 14, 3) := by decide +kernel
theorem dX1_init_21 : decode cX1_init 21 = .ok (.bipush 12, 2) := by decide +kernel
theorem dX1_init_23 : decode cX1_init 23 = .ok (.invokevirtual 20, 3) := by decide +kernel
theorem dX1_init_26 : decode cX1_init 26 = .ok (.aload_n 0, 1) := by decide +kernel
theorem dX1_init_27 : decode cX1_init 27 = .ok (.new 9, 3) := by decide +kernel
theorem dX1_init_30 : decode cX1_init 30 = .ok (.dup, 1) := by decide +kernel
theorem dX1_init_31 : decode cX1_init 31 = .ok (.bipush 20, 2) := by decide +kernel
theorem dX1_init_33 : decode cX1_init 33 = .ok (.invokespecial 11, 3) := by decide +kernel
theorem dX1_init_36 : decode cX1_init 36 = .ok (.putfield 23, 3) := by decide +kernel
theorem dX1_init_39 : decode cX1_init 39 = .ok (.aload_n 0, 1) := by decide +kernel
theorem dX1_init_40 : decode cX1_init 40 = .ok (.new 9, 3) := by decide +kernel
theorem dX1_init_43 : decode cX1_init 43 = .ok (.dup, 1) := by decide +kernel
theorem dX1_init_44 : decode cX1_init 44 = .ok (.bipush 20, 2) := by decide +kernel
theorem dX1_init_46 : decode cX1_init 46 = .ok (.invokespecial 11, 3) := by decide +kernel
theorem dX1_init_49 : decode cX1_init 49 = .ok (.putfield 26, 3) := by decide +kernel
theorem dX1_init_52 : decode cX1_init 52 = .ok (.aload_n 0, 1) := by decide +kernel
theorem dX1_init_53 : decode cX1_init 53 = .ok (.new 9, 3) := by decide +kernel
theorem dX1_init_56 : decode cX1_init 56 = .ok (.dup, 1) := by decide +kernel
theorem dX1_init_57 : decode cX1_init 57 = .ok (.bipush 20, 2) := by decide +kernel
theorem dX1_init_59 : decode cX1_init 59 = .ok (.invokespecial 11, 3) := by decide +kernel
theorem dX1_init_62 : decode cX1_init 62 = .ok (.putfield 29, 3) := by decide +kernel
theorem dX1_init_65 : decode cX1_init 65 = .ok (.aload_n 0, 1) := by decide +kernel
theorem dX1_init_66 : decode cX1_init 66 = .ok (.iconst 0, 1) := by decide +kernel
theorem dX1_init_67 : decode cX1_init 67 = .ok (.putfield 32, 3) := by decide +kernel
theorem dX1_init_70 : decode cX1_init 70 = .ok (.aload_n 0, 1) := by decide +kernel
theorem dX1_init_71 : decode cX1_init 71 = .ok (.iconst 0, 1) := by decide +kernel
theorem dX1_init_72 : decode cX1_init 72 = .ok (.putfield 36, 3) := by decide +kernel
theorem dX1_init_75 : decode cX1_init 75 = .ok (.return_, 1) := by decide +kernel
theorem dX1_uses_0 : decode cX1_uses 0 = .ok (.aload_n 0, 1) := by decide +kernel
theorem dX1_uses_1 : decode cX1_uses 1 = .ok (.getfield 36, 3) := by decide +kernel
theorem dX1_uses_4 : decode cX1_uses 4 = .ok (.iconst 1, 1) := by decide +kernel
theorem dX1_uses_5 : decode cX1_uses 5 = .ok (.iload_n 1, 1) := by decide +kernel
theorem dX1_uses_6 : decode cX1_uses 6 = .ok (.ishl, 1) := by decide +kernel
theorem dX1_uses_7 : decode cX1_uses 7 = .ok (.iand, 1) := by decide +kernel
theorem dX1_uses_8 : decode cX1_uses 8 = .ok (.ifCond .ne 7, 3) := by decide +kernel
theorem dX1_uses_11 : decode cX1_uses 11 = .ok (.iconst 1, 1) := by decide +kernel
theorem dX1_uses_12 : decode cX1_uses 12 = .ok (.goto 4, 3) := by decide +kernel
theorem dX1_uses_15 : decode cX1_uses 15 = .ok (.iconst 0, 1) := by decide +kernel
theorem dX1_uses_16 : decode cX1_uses 16 = .ok (.ireturn, 1) := by decide +kernel
theorem dX1_setUse_0 : decode cX1_setUse 0 = .ok (.aload_n 0, 1) := by decide +kernel
theorem dX1_setUse_1 : decode cX1_setUse 1 = .ok (.iload_n 2, 1) := by decide +kernel
theorem dX1_setUse_2 : decode cX1_setUse 2 = .ok (.ifCond .eq 16, 3) := by decide +kernel
theorem dX1_setUse_5 : decode cX1_setUse 5 = .ok (.aload_n 0, 1) := by decide +kernel
theorem dX1_setUse_6 : decode cX1_setUse 6 = .ok (.getfield 36, 3) := by decide +kernel
theorem dX1_setUse_9 : decode cX1_setUse 9 = .ok (.iconst 1, 1) := by decide +kernel
theorem dX1_setUse_10 : decode cX1_setUse 10 = .ok (.iload_n 1, 1) := by decide +kernel
theorem dX1_setUse_11 : decode cX1_setUse 11 = .ok (.ishl, 1) := by decide +kernel
theorem dX1_setUse_12 : decode cX1_setUse 12 = .ok (.iconst (-1), 1) := by decide +kernel
theorem dX1_setUse_13 : decode cX1_setUse 13 = .ok (.ixor, 1) := by decide +kernel
theorem dX1_setUse_14 : decode cX1_setUse 14 = .ok (.iand, 1) := by decide +kernel
theorem dX1_setUse_15 : decode cX1_setUse 15 = .ok (.goto 11, 3) := by decide +kernel
theorem dX1_setUse_18 : decode cX1_setUse 18 = .ok (.aload_n 0, 1) := by decide +kernel
theorem dX1_setUse_19 : decode cX1_setUse 19 = .ok (.getfield 36, 3) := by decide +kernel
theorem dX1_setUse_22 : decode cX1_setUse 22 = .ok (.iconst 1, 1) := by decide +kernel
theorem dX1_setUse_23 : decode cX1_setUse 23 = .ok (.iload_n 1, 1) := by decide +kernel
theorem dX1_setUse_24 : decode cX1_setUse 24 = .ok (.ishl, 1) := by decide +kernel
theorem dX1_setUse_25 : decode cX1_setUse 25 = .ok (.ior, 1) := by decide +kernel
theorem dX1_setUse_26 : decode cX1_setUse 26 = .ok (.putfield 36, 3) := by decide +kernel
theorem dX1_setUse_29 : decode cX1_setUse 29 = .ok (.return_, 1) := by decide +kernel
set_option maxRecDepth 20000 in
theorem ggX1_ignoredCount_X5_count : GoodIn wsX1_ignoredCount wsX5_count := goodIn_r _ [6, 7, 14, 15] (by decide +kernel) (by decide +kernel)
set_option maxRecDepth 20000 in
theorem gX1_ignoredCount_X5_count : GoodIn wsX1_ignoredCount (wsV RX1 39 RX5 yX5_count wsX5_count) := goodIn_app (goodIn_of _ (by decide +kernel)) ggX1_ignoredCount_X5_count
theorem dX1_ignoredCount_0 : decode cX1_ignoredCount 0 = .ok (.aload_n 0, 1) := by decide +kernel
theorem dX1_ignoredCount_1 : decode cX1_ignoredCount 1 = .ok (.getfield 23, 3) := by decide +kernel
theorem dX1_ignoredCount_4 : decode cX1_ignoredCount 4 = .ok (.invokevirtual 39, 3) := by decide +kernel
theorem dX1_ignoredCount_7 : decode cX1_ignoredCount 7 = .ok (.ireturn, 1) := by decide +kernel
set_option maxRecDepth 20000 in
theorem ggX1_addIgnored_X5_add : GoodIn wsX1_addIgnored wsX5_add := goodIn_ca (goodIn_r _ [8, 9, 10, 17, 18] (by decide +kernel) (by decide +kernel)) (goodIn_sub (fun _ h => List.mem_cons_of_mem _ (List.mem_append_right _ h)) (by decide +kernel))
set_option maxRecDepth 20000 in
theorem gX1_addIgnored_X5_add : GoodIn wsX1_addIgnored (wsV RX1 43 RX5 yX5_add wsX5_add) := goodIn_app (goodIn_of _ (by decide +kernel)) ggX1_addIgnored_X5_add
theorem dX1_addIgnored_0 : decode cX1_addIgnored 0 = .ok (.aload_n 0, 1) := by decide +kernel
theorem dX1_addIgnored_1 : decode cX1_addIgnored 1 = .ok (.getfield 23, 3) := by decide +kernel
theorem dX1_addIgnored_4 : decode cX1_addIgnored 4 = .ok (.iload_n 1, 1) := by decide +kernel
theorem dX1_addIgnored_5 : decode cX1_addIgnored 5 = .ok (.invokevirtual 43, 3) := by decide +kernel
theorem dX1_addIgnored_8 : decode cX1_addIgnored 8 = .ok (.aload_n 0, 1) := by decide +kernel
theorem dX1_addIgnored_9 : decode cX1_addIgnored 9 = .ok (.getfield 26, 3) := by decide +kernel
theorem dX1_addIgnored_12 : decode cX1_addIgnored 12 = .ok (.iload_n 2, 1) := by decide +kernel
theorem dX1_addIgnored_13 : decode cX1_addIgnored 13 = .ok (.invokevirtual 43, 3) := by decide +kernel
theorem dX1_addIgnored_16 : decode cX1_addIgnored 16 = .ok (.aload_n 0, 1) := by decide +kernel
theorem dX1_addIgnored_17 : decode cX1_addIgnored 17 = .ok (.getfield 29, 3) := by decide +kernel
theorem dX1_addIgnored_20 : decode cX1_addIgnored 20 = .ok (.iload_n 3, 1) := by decide +kernel
theorem dX1_addIgnored_21 : decode cX1_addIgnored 21 = .ok (.invokevirtual 43, 3) := by decide +kernel
theorem dX1_addIgnored_24 : decode cX1_addIgnored 24 = .ok (.return_, 1) := by decide +kernel
set_option maxRecDepth 20000 in
theorem ggX1_clearIgnored_X5_clear : GoodIn wsX1_clearIgnored wsX5_clear := goodIn_r _ [8, 9, 16, 17] (by decide +kernel) (by decide +kernel)
set_option maxRecDepth 20000 in
theorem gX1_clearIgnored_X5_clear : GoodIn wsX1_clearIgnored (wsV RX1 46 RX5 yX5_clear wsX5_clear) := goodIn_app (goodIn_of _ (by decide +kernel)) ggX1_clearIgnored_X5_clear
theorem dX1_clearIgnored_0 : decode cX1_clearIgnored 0 = .ok (.aload_n 0, 1) := by decide +kernel
theorem dX1_clearIgnored_1 : decode cX1_clearIgnored 1 = .ok (.getfield 23, 3) := by decide +kernel
theorem dX1_clearIgnored_4 : decode cX1_clearIgnored 4 = .ok (.invokevirtual 46, 3) := by decide +kernel
theorem dX1_clearIgnored_7 : decode cX1_clearIgnored 7 = .ok (.aload_n 0, 1) := by decide +kernel
theorem dX1_clearIgnored_8 : decode cX1_clearIgnored 8 = .ok (.getfield 26, 3) := by decide +kernel
theorem dX1_clearIgnored_11 : decode cX1_clearIgnored 11 = .ok (.invokevirtual 46, 3) := by decide +kernel
theorem dX1_clearIgnored_14 : decode cX1_clearIgnored 14 = .ok (.aload_n 0, 1) := by decide +kernel
theorem dX1_clearIgnored_15 : decode cX1_clearIgnored 15 = .ok (.getfield 29, 3) := by decide +kernel
theorem dX1_clearIgnored_18 : decode cX1_clearIgnored 18 = .ok (.invokevirtual 46, 3) := by decide +kernel
theorem dX1_clearIgnored_21 : decode cX1_clearIgnored 21 = .ok (.return_, 1) := by decide +kernel
set_option maxRecDepth 20000 in
theorem ggX1_ignores_X1_ignoredCount : GoodIn wsX1_ignores wsX1_ignoredCount := goodIn_r _ [8, 1, 9, 10, 11, 12, 13, 14, 20, 21, 22, 23, 24, 25, 26, 27] (by decide +kernel) (by decide +kernel)
set_option maxRecDepth 20000 in
theorem gX1_ignores_X1_ignoredCount : GoodIn wsX1_ignores (wsV RX1 49 RX1 yX1_ignoredCount wsX1_ignoredCount) := goodIn_app (goodIn_of _ (by decide +kernel)) ggX1_ignores_X1_ignoredCount
set_option maxRecDepth 20000 in
theorem ggX1_ignores_X5_get : GoodIn wsX1_ignores wsX5_get := goodIn_ca (goodIn_r _ [18, 14, 19, 26, 27] (by decide +kernel) (by decide +kernel)) (goodIn_sub (fun _ h => List.mem_cons_of_mem _ (List.mem_append_right _ h)) (by decide +kernel))
set_option maxRecDepth 20000 in
theorem gX1_ignores_X5_get : GoodIn wsX1_ignores (wsV RX1 52 RX5 yX5_get wsX5_get) := goodIn_app (goodIn_of _ (by decide +kernel)) ggX1_ignores_X5_get
theorem dX1_ignores_0 : decode cX1_ignores 0 = .ok (.iconst 0, 1) := by decide +kernel
theorem dX1_ignores_1 : decode cX1_ignores 1 = .ok (.istore 4, 2) := by decide +kernel
theorem dX1_ignores_3 : decode cX1_ignores 3 = .ok (.iload 4, 2) := by decide +kernel
theorem dX1_ignores_5 : decode cX1_ignores 5 = .ok (.aload_n 0, 1) := by decide +kernel
theorem dX1_ignores_6 : decode cX1_ignores 6 = .ok (.invokevirtual 49, 3) := by decide +kernel
theorem dX1_ignores_9 : decode cX1_ignores 9 = .ok (.if_icmp .ge 50, 3) := by decide +kernel
theorem dX1_ignores_12 : decode cX1_ignores 12 = .ok (.aload_n 0, 1) := by decide +kernel
theorem dX1_ignores_13 : decode cX1_ignores 13 = .ok (.getfield 23, 3) := by decide +kernel
theorem dX1_ignores_16 : decode cX1_ignores 16 = .ok (.iload 4, 2) := by decide +kernel
theorem dX1_ignores_18 : decode cX1_ignores 18 = .ok (.invokevirtual 52, 3) := by decide +kernel
theorem dX1_ignores_21 : decode cX1_ignores 21 = .ok (.iload_n 1, 1) := by decide +kernel
theorem dX1_ignores_22 : decode cX1_ignores 22 = .ok (.if_icmp .ne 31, 3) := by decide +kernel
theorem dX1_ignores_25 : decode cX1_ignores 25 = .ok (.aload_n 0, 1) := by decide +kernel
theorem dX1_ignores_26 : decode cX1_ignores 26 = .ok (.getfield 26, 3) := by decide +kernel
theorem dX1_ignores_29 : decode cX1_ignores 29 = .ok (.iload 4, 2) := by decide +kernel
theorem dX1_ignores_31 : decode cX1_ignores 31 = .ok (.invokevirtual 52, 3) := by decide +kernel
theorem dX1_ignores_34 : decode cX1_ignores 34 = .ok (.iload_n 2, 1) := by decide +kernel
theorem dX1_ignores_35 : decode cX1_ignores 35 = .ok (.if_icmp .ne 18, 3) := by decide +kernel
theorem dX1_ignores_38 : decode cX1_ignores 38 = .ok (.aload_n 0, 1) := by decide +kernel
theorem dX1_ignores_39 : decode cX1_ignores 39 = .ok (.getfield 29, 3) := by decide +kernel
theorem dX1_ignores_42 : decode cX1_ignores 42 = .ok (.iload 4, 2) := by decide +kernel
theorem dX1_ignores_44 : decode cX1_ignores 44 = .ok (.invokevirtual 52, 3) := by decide +kernel
theorem dX1_ignores_47 : decode cX1_ignores 47 = .ok (.iload_n 3, 1) := by decide +kernel
theorem dX1_ignores_48 : decode cX1_ignores 48 = .ok (.if_icmp .ne 5, 3) := by decide +kernel
theorem dX1_ignores_51 : decode cX1_ignores 51 = .ok (.iconst 1, 1) := by decide +kernel
theorem dX1_ignores_52 : decode cX1_ignores 52 = .ok (.ireturn, 1) := by decide +kernel
theorem dX1_ignores_53 : decode cX1_ignores 53 = .ok (.iinc 4 1, 3) := by decide +kernel
theorem dX1_ignores_56 : decode cX1_ignores 56 = .ok (.goto (-53), 3) := by decide +kernel
theorem dX1_ignores_59 : decode cX1_ignores 59 = .ok (.iconst 0, 1) := by decide +kernel
theorem dX1_ignores_60 : decode cX1_ignores 60 = .ok (.ireturn, 1) := by decide +kernel
set_option maxRecDepth 20000 in
theorem ggX1_followPut_X1_ignoredCount : GoodIn wsX1_followPut wsX1_ignoredCount := goodIn_r _ [7, 8, 9, 10, 11, 12, 13, 14, 32, 33, 34, 35, 36, 37, 38, 39] (by decide +kernel) (by decide +kernel)
set_option maxRecDepth 20000 in
theorem gX1_followPut_X1_ignoredCount : GoodIn wsX1_followPut (wsV RX1 49 RX1 yX1_ignoredCount wsX1_ignoredCount) := goodIn_app (goodIn_of _ (by decide +kernel)) ggX1_followPut_X1_ignoredCount
set_option maxRecDepth 20000 in
theorem ggX1_followPut_X5_get : GoodIn wsX1_followPut wsX5_get := goodIn_ca (goodIn_r _ [18, 14, 19, 38, 39] (by decide +kernel) (by decide +kernel)) (goodIn_sub (fun _ h => List.mem_cons_of_mem _ (List.mem_append_right _ h)) (by decide +kernel))
set_option maxRecDepth 20000 in
theorem gX1_followPut_X5_get : GoodIn wsX1_followPut (wsV RX1 52 RX5 yX5_get wsX5_get) := goodIn_app (goodIn_of _ (by decide +kernel)) ggX1_followPut_X5_get
set_option maxRecDepth 20000 in
theorem ggX1_followPut_X5_set : GoodIn wsX1_followPut wsX5_set := goodIn_ca (goodIn_r _ [23, 14, 19, 38, 39] (by decide +kernel) (by decide +kernel)) (goodIn_sub (fun _ h => List.mem_cons_of_mem _ (List.mem_append_right _ h)) (by decide +kernel))
set_option maxRecDepth 20000 in
theorem gX1_followPut_X5_set : GoodIn wsX1_followPut (wsV RX1 56 RX5 yX5_set wsX5_set) := goodIn_app (goodIn_of _ (by decide +kernel)) ggX1_followPut_X5_set
set_option maxRecDepth 20000 in
theorem ggX1_followPut_X1_forget : GoodIn wsX1_followPut wsX1_forget := goodIn_ca (goodIn_r _ [27, 8, 1, 2, 28, 29, 30, 12, 31, 14, 19, 32, 33, 34, 35, 36, 37, 38, 39] (by decide +kernel) (by decide +kernel)) (goodIn_sub (fun _ h => List.mem_cons_of_mem _ (List.mem_append_right _ h)) (by decide +kernel))
set_option maxRecDepth 20000 in
theorem gX1_followPut_X1_forget : GoodIn wsX1_followPut (wsV RX1 60 RX1 yX1_forget wsX1_forget) := goodIn_app (goodIn_of _ (by decide +kernel)) ggX1_followPut_X1_forget
theorem dX1_followPut_0 : decode cX1_followPut 0 = .ok (.aload_n 0, 1) := by decide +kernel
theorem dX1_followPut_1 : decode cX1_followPut 1 = .ok (.invokevirtual 49, 3) := by decide +kernel
theorem dX1_followPut_4 : decode cX1_followPut 4 = .ok (.iconst 1, 1) := by decide +kernel
theorem dX1_followPut_5 : decode cX1_followPut 5 = .ok (.isub, 1) := by decide +kernel
theorem dX1_followPut_6 : decode cX1_followPut 6 = .ok (.istore_n 2, 1) := by decide +kernel
theorem dX1_followPut_7 : decode cX1_followPut 7 = .ok (.iload_n 2, 1) := by decide +kernel
theorem dX1_followPut_8 : decode cX1_followPut 8 = .ok (.ifCond .lt 56, 3) := by decide +kernel
theorem dX1_followPut_11 : decode cX1_followPut 11 = .ok (.aload_n 0, 1) := by decide +kernel
theorem dX1_followPut_12 : decode cX1_followPut 12 = .ok (.getfield 26, 3) := by decide +kernel
theorem dX1_followPut_15 : decode cX1_followPut 15 = .ok (.iload_n 2, 1) := by decide +kernel
theorem dX1_followPut_16 : decode cX1_followPut 16 = .ok (.invokevirtual 52, 3) := by decide +kernel
theorem dX1_followPut_19 : decode cX1_followPut 19 = .ok (.istore_n 3, 1) := by decide +kernel
theorem dX1_followPut_20 : decode cX1_followPut 20 = .ok (.iload_n 1, 1) := by decide +kernel
theorem dX1_followPut_21 : decode cX1_followPut 21 = .ok (.iload_n 3, 1) := by decide +kernel
theorem dX1_followPut_22 : decode cX1_followPut 22 = .ok (.if_icmp .gt 17, 3) := by decide +kernel
theorem dX1_followPut_25 : decode cX1_followPut 25 = .ok (.aload_n 0, 1) := by decide +kernel
theorem dX1_followPut_26 : decode cX1_followPut 26 = .ok (.getfield 26, 3) := by decide +kernel
theorem dX1_followPut_29 : decode cX1_followPut 29 = .ok (.iload_n 2, 1) := by decide +kernel
theorem dX1_followPut_30 : decode cX1_followPut 30 = .ok (.iload_n 3, 1) := by decide +kernel
theorem dX1_followPut_31 : decode cX1_followPut 31 = .ok (.iconst 1, 1) := by decide +kernel
theorem dX1_followPut_32 : decode cX1_followPut 32 = .ok (.iadd, 1) := by decide +kernel
theorem dX1_followPut_33 : decode cX1_followPut 33 = .ok (.invokevirtual 56, 3) := by decide +kernel
theorem dX1_followPut_36 : decode cX1_followPut 36 = .ok (.goto 22, 3) := by decide +kernel
theorem dX1_followPut_39 : decode cX1_followPut 39 = .ok (.iload_n 1, 1) := by decide +kernel
theorem dX1_followPut_40 : decode cX1_followPut 40 = .ok (.iload_n 3, 1) := by decide +kernel
theorem dX1_followPut_41 : decode cX1_followPut 41 = .ok (.aload_n 0, 1) := by decide +kernel
theorem dX1_followPut_42 : decode cX1_followPut 42 = .ok (.getfield 29, 3) := by decide +kernel
theorem dX1_followPut_45 : decode cX1_followPut 45 = .ok (.iload_n 2, 1) := by decide +kernel
theorem dX1_followPut_46 : decode cX1_followPut 46 = .ok (.invokevirtual 52, 3) := by decide +kernel
theorem dX1_followPut_49 : decode cX1_followPut 49 = .ok (.iadd, 1) := by decide +kernel
theorem dX1_followPut_50 : decode cX1_followPut 50 = .ok (.if_icmp .ge 8, 3) := by decide +kernel
theorem dX1_followPut_53 : decode cX1_followPut 53 = .ok (.aload_n 0, 1) := by decide +kernel
theorem dX1_followPut_54 : decode cX1_followPut 54 = .ok (.iload_n 2, 1) := by decide +kernel
theorem dX1_followPut_55 : decode cX1_followPut 55 = .ok (.invokevirtual 60, 3) := by decide +kernel
theorem dX1_followPut_58 : decode cX1_followPut 58 = .ok (.iinc 2 (-1), 3) := by decide +kernel
theorem dX1_followPut_61 : decode cX1_followPut 61 = .ok (.goto (-54), 3) := by decide +kernel
theorem dX1_followPut_64 : decode cX1_followPut 64 = .ok (.return_, 1) := by decide +kernel
set_option maxRecDepth 20000 in
theorem ggX1_followTake_X1_ignoredCount : GoodIn wsX1_followTake wsX1_ignoredCount := goodIn_r _ [7, 8, 9, 10, 11, 12, 13, 14, 32, 33, 34, 35, 36, 37, 38, 39] (by decide +kernel) (by decide +kernel)
set_option maxRecDepth 20000 in
theorem gX1_followTake_X1_ignoredCount : GoodIn wsX1_followTake (wsV RX1 49 RX1 yX1_ignoredCount wsX1_ignoredCount) := goodIn_app (goodIn_of _ (by decide +kernel)) ggX1_followTake_X1_ignoredCount
set_option maxRecDepth 20000 in
theorem ggX1_followTake_X5_get : GoodIn wsX1_followTake wsX5_get := goodIn_ca (goodIn_r _ [18, 14, 19, 38, 39] (by decide +kernel) (by decide +kernel)) (goodIn_sub (fun _ h => List.mem_cons_of_mem _ (List.mem_append_right _ h)) (by decide +kernel))
set_option maxRecDepth 20000 in
theorem gX1_followTake_X5_get : GoodIn wsX1_followTake (wsV RX1 52 RX5 yX5_get wsX5_get) := goodIn_app (goodIn_of _ (by decide +kernel)) ggX1_followTake_X5_get
set_option maxRecDepth 20000 in
theorem ggX1_followTake_X5_set : GoodIn wsX1_followTake wsX5_set := goodIn_ca (goodIn_r _ [23, 14, 19, 38, 39] (by decide +kernel) (by decide +kernel)) (goodIn_sub (fun _ h => List.mem_cons_of_mem _ (List.mem_append_right _ h)) (by decide +kernel))
set_option maxRecDepth 20000 in
theorem gX1_followTake_X5_set : GoodIn wsX1_followTake (wsV RX1 56 RX5 yX5_set wsX5_set) := goodIn_app (goodIn_of _ (by decide +kernel)) ggX1_followTake_X5_set
set_option maxRecDepth 20000 in
theorem ggX1_followTake_X1_forget : GoodIn wsX1_followTake wsX1_forget := goodIn_ca (goodIn_r _ [27, 8, 1, 2, 28, 29, 30, 12, 31, 14, 19, 32, 33, 34, 35, 36, 37, 38, 39] (by decide +kernel) (by decide +kernel)) (goodIn_sub (fun _ h => List.mem_cons_of_mem _ (List.mem_append_right _ h)) (by decide +kernel))
set_option maxRecDepth 20000 in
theorem gX1_followTake_X1_forget : GoodIn wsX1_followTake (wsV RX1 60 RX1 yX1_forget wsX1_forget) := goodIn_app (goodIn_of _ (by decide +kernel)) ggX1_followTake_X1_forget
theorem dX1_followTake_0 : decode cX1_followTake 0 = .ok (.aload_n 0, 1) := by decide +kernel
theorem dX1_followTake_1 : decode cX1_followTake 1 = .ok (.invokevirtual 49, 3) := by decide +kernel
theorem dX1_followTake_4 : decode cX1_followTake 4 = .ok (.iconst 1, 1) := by decide +kernel
theorem dX1_followTake_5 : decode cX1_followTake 5 = .ok (.isub, 1) := by decide +kernel
theorem dX1_followTake_6 : decode cX1_followTake 6 = .ok (.istore_n 2, 1) := by decide +kernel
theorem dX1_followTake_7 : decode cX1_followTake 7 = .ok (.iload_n 2, 1) := by decide +kernel
theorem dX1_followTake_8 : decode cX1_followTake 8 = .ok (.ifCond .lt 56, 3) := by decide +kernel
theorem dX1_followTake_11 : decode cX1_followTake 11 = .ok (.aload_n 0, 1) := by decide +kernel
theorem dX1_followTake_12 : decode cX1_followTake 12 = .ok (.getfield 26, 3) := by decide +kernel
theorem dX1_followTake_15 : decode cX1_followTake 15 = .ok (.iload_n 2, 1) := by decide +kernel
theorem dX1_followTake_16 : decode cX1_followTake 16 = .ok (.invokevirtual 52, 3) := by decide +kernel
theorem dX1_followTake_19 : decode cX1_followTake 19 = .ok (.istore_n 3, 1) := by decide +kernel
theorem dX1_followTake_20 : decode cX1_followTake 20 = .ok (.iload_n 1, 1) := by decide +kernel
theorem dX1_followTake_21 : decode cX1_followTake 21 = .ok (.iload_n 3, 1) := by decide +kernel
theorem dX1_followTake_22 : decode cX1_followTake 22 = .ok (.if_icmp .ge 17, 3) := by decide +kernel
theorem dX1_followTake_25 : decode cX1_followTake 25 = .ok (.aload_n 0, 1) := by decide +kernel
theorem dX1_followTake_26 : decode cX1_followTake 26 = .ok (.getfield 26, 3) := by decide +kernel
theorem dX1_followTake_29 : decode cX1_followTake 29 = .ok (.iload_n 2, 1) := by decide +kernel
theorem dX1_followTake_30 : decode cX1_followTake 30 = .ok (.iload_n 3, 1) := by decide +kernel
theorem dX1_followTake_31 : decode cX1_followTake 31 = .ok (.iconst 1, 1) := by decide +kernel
theorem dX1_followTake_32 : decode cX1_followTake 32 = .ok (.isub, 1) := by decide +kernel
theorem dX1_followTake_33 : decode cX1_followTake 33 = .ok (.invokevirtual 56, 3) := by decide +kernel
theorem dX1_followTake_36 : decode cX1_followTake 36 = .ok (.goto 22, 3) := by decide +kernel
theorem dX1_followTake_39 : decode cX1_followTake 39 = .ok (.iload_n 1, 1) := by decide +kernel
theorem dX1_followTake_40 : decode cX1_followTake 40 = .ok (.iload_n 3, 1) := by decide +kernel
theorem dX1_followTake_41 : decode cX1_followTake 41 = .ok (.aload_n 0, 1) := by decide +kernel
theorem dX1_followTake_42 : decode cX1_followTake 42 = .ok (.getfield 29, 3) := by decide +kernel
theorem dX1_followTake_45 : decode cX1_followTake 45 = .ok (.iload_n 2, 1) := by decide +kernel
theorem dX1_followTake_46 : decode cX1_followTake 46 = .ok (.invokevirtual 52, 3) := by decide +kernel
theorem dX1_followTake_49 : decode cX1_followTake 49 = .ok (.iadd, 1) := by decide +kernel
theorem dX1_followTake_50 : decode cX1_followTake 50 = .ok (.if_icmp .ge 8, 3) := by decide +kernel
theorem dX1_followTake_53 : decode cX1_followTake 53 = .ok (.aload_n 0, 1) := by decide +kernel
theorem dX1_followTake_54 : decode cX1_followTake 54 = .ok (.iload_n 2, 1) := by decide +kernel
theorem dX1_followTake_55 : decode cX1_followTake 55 = .ok (.invokevirtual 60, 3) := by decide +kernel
theorem dX1_followTake_58 : decode cX1_followTake 58 = .ok (.iinc 2 (-1), 3) := by decide +kernel
theorem dX1_followTake_61 : decode cX1_followTake 61 = .ok (.goto (-54), 3) := by decide +kernel
theorem dX1_followTake_64 : decode cX1_followTake 64 = .ok (.return_, 1) := by decide +kernel
set_option maxRecDepth 20000 in
theorem ggX1_forget_X5_remove : GoodIn wsX1_forget wsX5_remove := goodIn_ca (goodIn_r _ [8, 9, 10, 17, 18] (by decide +kernel) (by decide +kernel)) (goodIn_sub (fun _ h => List.mem_cons_of_mem _ (List.mem_append_right _ h)) (by decide +kernel))
set_option maxRecDepth 20000 in
theorem gX1_forget_X5_remove : GoodIn wsX1_forget (wsV RX1 63 RX5 yX5_remove wsX5_remove) := goodIn_app (goodIn_of _ (by decide +kernel)) ggX1_forget_X5_remove
theorem dX1_forget_0 : decode cX1_forget 0 = .ok (.aload_n 0, 1) := by decide +kernel
theorem dX1_forget_1 : decode cX1_forget 1 = .ok (.getfield 23, 3) := by decide +kernel
theorem dX1_forget_4 : decode cX1_forget 4 = .ok (.iload_n 1, 1) := by decide +kernel
theorem dX1_forget_5 : decode cX1_forget 5 = .ok (.invokevirtual 63, 3) := by decide +kernel
theorem dX1_forget_8 : decode cX1_forget 8 = .ok (.pop, 1) := by decide +kernel
theorem dX1_forget_9 : decode cX1_forget 9 = .ok (.aload_n 0, 1) := by decide +kernel
theorem dX1_forget_10 : decode cX1_forget 10 = .ok (.getfield 26, 3) := by decide +kernel
theorem dX1_forget_13 : decode cX1_forget 13 = .ok (.iload_n 1, 1) := by decide +kernel
theorem dX1_forget_14 : decode cX1_forget 14 = .ok (.invokevirtual 63, 3) := by decide +kernel
theorem dX1_forget_17 : decode cX1_forget 17 = .ok (.pop, 1) := by decide +kernel
theorem dX1_forget_18 : decode cX1_forget 18 = .ok (.aload_n 0, 1) := by decide +kernel
theorem dX1_forget_19 : decode cX1_forget 19 = .ok (.getfield 29, 3) := by decide +kernel
theorem dX1_forget_22 : decode cX1_forget 22 = .ok (.iload_n 1, 1) := by decide +kernel
theorem dX1_forget_23 : decode cX1_forget 23 = .ok (.invokevirtual 63, 3) := by decide +kernel
theorem dX1_forget_26 : decode cX1_forget 26 = .ok (.pop, 1) := by decide +kernel
theorem dX1_forget_27 : decode cX1_forget 27 = .ok (.return_, 1) := by decide +kernel
set_option maxRecDepth 20000 in
theorem ggX1_ignoredLieWithin_X1_ignoredCount : GoodIn wsX1_ignoredLieWithin wsX1_ignoredCount := goodIn_r _ [7, 8, 9, 10, 11, 12, 13, 14, 20, 21, 22, 23, 24, 25, 26, 27] (by decide +kernel) (by decide +kernel)
set_option maxRecDepth 20000 in
theorem gX1_ignoredLieWithin_X1_ignoredCount : GoodIn wsX1_ignoredLieWithin (wsV RX1 49 RX1 yX1_ignoredCount wsX1_ignoredCount) := goodIn_app (goodIn_of _ (by decide +kernel)) ggX1_ignoredLieWithin_X1_ignoredCount
set_option maxRecDepth 20000 in
theorem ggX1_ignoredLieWithin_X5_get : GoodIn wsX1_ignoredLieWithin wsX5_get := goodIn_ca (goodIn_r _ [18, 14, 19, 26, 27] (by decide +kernel) (by decide +kernel)) (goodIn_sub (fun _ h => List.mem_cons_of_mem _ (List.mem_append_right _ h)) (by decide +kernel))
set_option maxRecDepth 20000 in
theorem gX1_ignoredLieWithin_X5_get : GoodIn wsX1_ignoredLieWithin (wsV RX1 52 RX5 yX5_get wsX5_get) := goodIn_app (goodIn_of _ (by decide +kernel)) ggX1_ignoredLieWithin_X5_get
theorem dX1_ignoredLieWithin_0 : decode cX1_ignoredLieWithin 0 = .ok (.iconst 0, 1) := by decide +kernel
theorem dX1_ignoredLieWithin_1 : decode cX1_ignoredLieWithin 1 = .ok (.istore_n 2, 1) := by decide +kernel
theorem dX1_ignoredLieWithin_2 : decode cX1_ignoredLieWithin 2 = .ok (.iload_n 2, 1) := by decide +kernel
theorem dX1_ignoredLieWithin_3 : decode cX1_ignoredLieWithin 3 = .ok (.aload_n 0, 1) := by decide +kernel
theorem dX1_ignoredLieWithin_4 : decode cX1_ignoredLieWithin 4 = .ok (.invokevirtual 49, 3) := by decide +kernel
theorem dX1_ignoredLieWithin_7 : decode cX1_ignoredLieWithin 7 = .ok (.if_icmp .ge 38, 3) := by decide +kernel
theorem dX1_ignoredLieWithin_10 : decode cX1_ignoredLieWithin 10 = .ok (.aload_n 0, 1) := by decide +kernel
theorem dX1_ignoredLieWithin_11 : decode cX1_ignoredLieWithin 11 = .ok (.getfield 26, 3) := by decide +kernel
theorem dX1_ignoredLieWithin_14 : decode cX1_ignoredLieWithin 14 = .ok (.iload_n 2, 1) := by decide +kernel
theorem dX1_ignoredLieWithin_15 : decode cX1_ignoredLieWithin 15 = .ok (.invokevirtual 52, 3) := by decide +kernel
theorem dX1_ignoredLieWithin_18 : decode cX1_ignoredLieWithin 18 = .ok (.istore_n 3, 1) := by decide +kernel
theorem dX1_ignoredLieWithin_19 : decode cX1_ignoredLieWithin 19 = .ok (.iload_n 3, 1) := by decide +kernel
theorem dX1_ignoredLieWithin_20 : decode cX1_ignoredLieWithin 20 = .ok (.ifCond .lt 17, 3) := by decide +kernel
theorem dX1_ignoredLieWithin_23 : decode cX1_ignoredLieWithin 23 = .ok (.iload_n 3, 1) := by decide +kernel
theorem dX1_ignoredLieWithin_24 : decode cX1_ignoredLieWithin 24 = .ok (.aload_n 0, 1) := by decide +kernel
theorem dX1_ignoredLieWithin_25 : decode cX1_ignoredLieWithin 25 = .ok (.getfield 29, 3) := by decide +kernel
theorem dX1_ignoredLieWithin_28 : decode cX1_ignoredLieWithin 28 = .ok (.iload_n 2, 1) := by decide +kernel
theorem dX1_ignoredLieWithin_29 : decode cX1_ignoredLieWithin 29 = .ok (.invokevirtual 52, 3) := by decide +kernel
theorem dX1_ignoredLieWithin_32 : decode cX1_ignoredLieWithin 32 = .ok (.iadd, 1) := by decide +kernel
theorem dX1_ignoredLieWithin_33 : decode cX1_ignoredLieWithin 33 = .ok (.iload_n 1, 1) := by decide +kernel
theorem dX1_ignoredLieWithin_34 : decode cX1_ignoredLieWithin 34 = .ok (.if_icmp .le 5, 3) := by decide +kernel
theorem dX1_ignoredLieWithin_37 : decode cX1_ignoredLieWithin 37 = .ok (.iconst 0, 1) := by decide +kernel
theorem dX1_ignoredLieWithin_38 : decode cX1_ignoredLieWithin 38 = .ok (.ireturn, 1) := by decide +kernel
theorem dX1_ignoredLieWithin_39 : decode cX1_ignoredLieWithin 39 = .ok (.iinc 2 1, 3) := by decide +kernel
theorem dX1_ignoredLieWithin_42 : decode cX1_ignoredLieWithin 42 = .ok (.goto (-40), 3) := by decide +kernel
theorem dX1_ignoredLieWithin_45 : decode cX1_ignoredLieWithin 45 = .ok (.iconst 1, 1) := by decide +kernel
theorem dX1_ignoredLieWithin_46 : decode cX1_ignoredLieWithin 46 = .ok (.ireturn, 1) := by decide +kernel
set_option maxRecDepth 20000 in
theorem ggX2_init_X5_init : GoodIn wsX2_init wsX5_init := goodIn_r _ [15, 16, 2, 3, 17, 18, 19, 26, 27] (by decide +kernel) (by decide +kernel)
set_option maxRecDepth 20000 in
theorem gX2_init_X5_init : GoodIn wsX2_init (wsX5_init) := ggX2_init_X5_init
theorem dX2_init_0 : decode cX2_init 0 = .ok (.aload_n 0, 1) := by decide +kernel
theorem dX2_init_1 : decode cX2_init 1 = .ok (.invokespecial 3, 3) := by decide +kernel
theorem dX2_init_4 : decode cX2_init 4 = .ok (.aload_n 0, 1) := by decide +kernel
theorem dX2_init_5 : decode cX2_init 5 = .ok (.aload_n 1, 1) := by decide +kernel
theorem dX2_init_6 : decode cX2_init 6 = .ok (.putfield 9, 3) := by decide +kernel
theorem dX2_init_9 : decode cX2_init 9 = .ok (.aload_n 0, 1) := by decide +kernel
theorem dX2_init_10 : decode cX2_init 10 = .ok (.aload_n 2, 1) := by decide +kernel
theorem dX2_init_11 : decode cX2_init 11 = .ok (.putfield 15, 3) := by decide +kernel
theorem dX2_init_14 : decode cX2_init 14 = .ok (.aload_n 0, 1) := by decide +kernel
theorem dX2_init_15 : decode cX2_init 15 = .ok (.new 19, 3) := by decide +kernel
theorem dX2_init_18 : decode cX2_init 18 = .ok (.dup, 1) := by decide +kernel
theorem dX2_init_19 : decode cX2_init 19 = .ok (.sipush 160, 3) := by decide +kernel
theorem dX2_init_22 : decode cX2_init 22 = .ok (.invokespecial 21, 3) := by decide +kernel
theorem dX2_init_25 : decode cX2_init 25 = .ok (.putfield 24, 3) := by decide +kernel
theorem dX2_init_28 : decode cX2_init 28 = .ok (.aload_n 0, 1) := by decide +kernel
theorem dX2_init_29 : decode cX2_init 29 = .ok (.new 19, 3) := by decide +kernel
theorem dX2_init_32 : decode cX2_init 32 = .ok (.dup, 1) := by decide +kernel
theorem dX2_init_33 : decode cX2_init 33 = .ok (.sipush 160, 3) := by decide +kernel
theorem dX2_init_36 : decode cX2_init 36 = .ok (.invokespecial 21, 3) := by decide +kernel
theorem dX2_init_39 : decode cX2_init 39 = .ok (.putfield 28, 3) := by decide +kernel
theorem dX2_init_42 : decode cX2_init 42 = .ok (.aload_n 0, 1) := by decide +kernel
theorem dX2_init_43 : decode cX2_init 43 = .ok (.new 19, 3) := by decide +kernel
theorem dX2_init_46 : decode cX2_init 46 = .ok (.dup, 1) := by decide +kernel
theorem dX2_init_47 : decode cX2_init 47 = .ok (.sipush 160, 3) := by decide +kernel
theorem dX2_init_50 : decode cX2_init 50 = .ok (.invokespecial 21, 3) := by decide +kernel
theorem dX2_init_53 : decode cX2_init 53 = .ok (.putfield 31, 3) := by decide +kernel
theorem dX2_init_56 : decode cX2_init 56 = .ok (.aload_n 0, 1) := by decide +kernel
theorem dX2_init_57 : decode cX2_init 57 = .ok (.new 19, 3) := by decide +kernel
theorem dX2_init_60 : decode cX2_init 60 = .ok (.dup, 1) := by decide +kernel
theorem dX2_init_61 : decode cX2_init 61 = .ok (.sipush 160, 3) := by decide +kernel
theorem dX2_init_64 : decode cX2_init 64 = .ok (.invokespecial 21, 3) := by decide +kernel
theorem dX2_init_67 : decode cX2_init 67 = .ok (.putfield 34, 3) := by decide +kernel
theorem dX2_init_70 : decode cX2_init 70 = .ok (.return_, 1) := by decide +kernel
set_option maxRecDepth 20000 in
theorem ggX2_count_X5_count : GoodIn wsX2_count wsX5_count := goodIn_r _ [6, 7, 14, 15] (by decide +kernel) (by decide +kernel)
set_option maxRecDepth 20000 in
theorem gX2_count_X5_count : GoodIn wsX2_count (wsV RX2 37 RX5 yX5_count wsX5_count) := goodIn_app (goodIn_of _ (by decide +kernel)) ggX2_count_X5_count
theorem dX2_count_0 : decode cX2_count 0 = .ok (.aload_n 0, 1) := by decide +kernel
theorem dX2_count_1 : decode cX2_count 1 = .ok (.getfield 31, 3) := by decide +kernel
theorem dX2_count_4 : decode cX2_count 4 = .ok (.invokevirtual 37, 3) := by decide +kernel
theorem dX2_count_7 : decode cX2_count 7 = .ok (.ireturn, 1) := by decide +kernel
set_option maxRecDepth 20000 in
theorem ggX2_tokenOf_X5_get : GoodIn wsX2_tokenOf wsX5_get := goodIn_ca (goodIn_r _ [6, 7, 8, 15, 16] (by decide +kernel) (by decide +kernel)) (goodIn_sub (fun _ h => List.mem_cons_of_mem _ (List.mem_append_right _ h)) (by decide +kernel))
set_option maxRecDepth 20000 in
theorem gX2_tokenOf_X5_get : GoodIn wsX2_tokenOf (wsV RX2 41 RX5 yX5_get wsX5_get) := goodIn_app (goodIn_of _ (by decide +kernel)) ggX2_tokenOf_X5_get
theorem dX2_tokenOf_0 : decode cX2_tokenOf 0 = .ok (.aload_n 0, 1) := by decide +kernel
theorem dX2_tokenOf_1 : decode cX2_tokenOf 1 = .ok (.getfield 31, 3) := by decide +kernel
theorem dX2_tokenOf_4 : decode cX2_tokenOf 4 = .ok (.iload_n 1, 1) := by decide +kernel
theorem dX2_tokenOf_5 : decode cX2_tokenOf 5 = .ok (.invokevirtual 41, 3) := by decide +kernel
theorem dX2_tokenOf_8 : decode cX2_tokenOf 8 = .ok (.ireturn, 1) := by decide +kernel
set_option maxRecDepth 20000 in
theorem ggX2_ruleOf_X5_get : GoodIn wsX2_ruleOf wsX5_get := goodIn_ca (goodIn_r _ [6, 7, 8, 15, 16] (by decide +kernel) (by decide +kernel)) (goodIn_sub (fun _ h => List.mem_cons_of_mem _ (List.mem_append_right _ h)) (by decide +kernel))
set_option maxRecDepth 20000 in
theorem gX2_ruleOf_X5_get : GoodIn wsX2_ruleOf (wsV RX2 41 RX5 yX5_get wsX5_get) := goodIn_app (goodIn_of _ (by decide +kernel)) ggX2_ruleOf_X5_get
theorem dX2_ruleOf_0 : decode cX2_ruleOf 0 = .ok (.aload_n 0, 1) := by decide +kernel
theorem dX2_ruleOf_1 : decode cX2_ruleOf 1 = .ok (.getfield 34, 3) := by decide +kernel
theorem dX2_ruleOf_4 : decode cX2_ruleOf 4 = .ok (.iload_n 1, 1) := by decide +kernel
theorem dX2_ruleOf_5 : decode cX2_ruleOf 5 = .ok (.invokevirtual 41, 3) := by decide +kernel
theorem dX2_ruleOf_8 : decode cX2_ruleOf 8 = .ok (.ireturn, 1) := by decide +kernel
set_option maxRecDepth 20000 in
theorem ggX2_fromOf_X5_get : GoodIn wsX2_fromOf wsX5_get := goodIn_ca (goodIn_r _ [7, 8, 9, 23, 24] (by decide +kernel) (by decide +kernel)) (goodIn_sub (fun _ h => List.mem_cons_of_mem _ (List.mem_append_right _ h)) (by decide +kernel))
set_option maxRecDepth 20000 in
theorem gX2_fromOf_X5_get : GoodIn wsX2_fromOf (wsV RX2 41 RX5 yX5_get wsX5_get) := goodIn_app (goodIn_of _ (by decide +kernel)) ggX2_fromOf_X5_get
set_option maxRecDepth 20000 in
theorem ggX2_fromOf_X8_fromOf : GoodIn wsX2_fromOf wsX8_fromOf := goodIn_ca (goodIn_r _ [14, 15, 16, 4, 5, 6, 7, 8, 9, 25, 26, 27, 28, 29, 30, 31, 32, 33, 34, 35, 23, 24] (by decide +kernel) (by decide +kernel)) (goodIn_sub (fun _ h => List.mem_cons_of_mem _ (List.mem_append_right _ h)) (by decide +kernel))
set_option maxRecDepth 20000 in
theorem gX2_fromOf_X8_fromOf : GoodIn wsX2_fromOf (wsV RX2 45 RX8 yX8_fromOf wsX8_fromOf) := goodIn_app (goodIn_of _ (by decide +kernel)) ggX2_fromOf_X8_fromOf
theorem dX2_fromOf_0 : decode cX2_fromOf 0 = .ok (.aload_n 0, 1) := by decide +kernel
theorem dX2_fromOf_1 : decode cX2_fromOf 1 = .ok (.getfield 15, 3) := by decide +kernel
theorem dX2_fromOf_4 : decode cX2_fromOf 4 = .ok (.aload_n 0, 1) := by decide +kernel
theorem dX2_fromOf_5 : decode cX2_fromOf 5 = .ok (.getfield 31, 3) := by decide +kernel
theorem dX2_fromOf_8 : decode cX2_fromOf 8 = .ok (.iload_n 1, 1) := by decide +kernel
theorem dX2_fromOf_9 : decode cX2_fromOf 9 = .ok (.invokevirtual 41, 3) := by decide +kernel
theorem dX2_fromOf_12 : decode cX2_fromOf 12 = .ok (.invokevirtual 45, 3) := by decide +kernel
theorem dX2_fromOf_15 : decode cX2_fromOf 15 = .ok (.ireturn, 1) := by decide +kernel
set_option maxRecDepth 20000 in
theorem ggX2_lengthOf_X5_get : GoodIn wsX2_lengthOf wsX5_get := goodIn_ca (goodIn_r _ [7, 8, 9, 65, 66] (by decide +kernel) (by decide +kernel)) (goodIn_sub (fun _ h => List.mem_cons_of_mem _ (List.mem_append_right _ h)) (by decide +kernel))
set_option maxRecDepth 20000 in
theorem gX2_lengthOf_X5_get : GoodIn wsX2_lengthOf (wsV RX2 41 RX5 yX5_get wsX5_get) := goodIn_app (goodIn_of _ (by decide +kernel)) ggX2_lengthOf_X5_get
set_option maxRecDepth 20000 in
theorem ggX2_lengthOf_X2_lengthAt : GoodIn wsX2_lengthOf wsX2_lengthAt := goodIn_ca (goodIn_r _ [14, 15, 16, 17, 18, 19, 20, 21, 22, 23, 24, 25, 26, 27, 28, 29, 30, 31, 32, 33, 34, 35, 36, 37, 38, 39, 40, 41, 42, 43, 44, 45, 46, 47, 48, 49, 50, 51, 52, 53, 4, 5, 6, 7, 8, 9, 54, 55, 56, 57, 58, 59, 60, 61, 62, 63, 64, 67, 68, 69, 70, 71, 72, 73, 74, 75, 76, 77, 78, 79, 80, 81, 82, 83, 84, 85, 86, 87, 88, 89, 65, 66] (by decide +kernel) (by decide +kernel)) (goodIn_sub (fun _ h => List.mem_cons_of_mem _ (List.mem_append_right _ h)) (by decide +kernel))
set_option maxRecDepth 20000 in
theorem gX2_lengthOf_X2_lengthAt : GoodIn wsX2_lengthOf (wsV RX2 50 RX2 yX2_lengthAt wsX2_lengthAt) := goodIn_app (goodIn_of _ (by decide +kernel)) ggX2_lengthOf_X2_lengthAt
theorem dX2_lengthOf_0 : decode cX2_lengthOf 0 = .ok (.aload_n 0, 1) := by decide +kernel
theorem dX2_lengthOf_1 : decode cX2_lengthOf 1 = .ok (.aload_n 0, 1) := by decide +kernel
theorem dX2_lengthOf_2 : decode cX2_lengthOf 2 = .ok (.getfield 34, 3) := by decide +kernel
theorem dX2_lengthOf_5 : decode cX2_lengthOf 5 = .ok (.iload_n 1, 1) := by decide +kernel
theorem dX2_lengthOf_6 : decode cX2_lengthOf 6 = .ok (.invokevirtual 41, 3) := by decide +kernel
theorem dX2_lengthOf_9 : decode cX2_lengthOf 9 = .ok (.aload_n 0, 1) := by decide +kernel
theorem dX2_lengthOf_10 : decode cX2_lengthOf 10 = .ok (.getfield 31, 3) := by decide +kernel
theorem dX2_lengthOf_13 : decode cX2_lengthOf 13 = .ok (.iload_n 1, 1) := by decide +kernel
theorem dX2_lengthOf_14 : decode cX2_lengthOf 14 = .ok (.invokevirtual 41, 3) := by decide +kernel
theorem dX2_lengthOf_17 : decode cX2_lengthOf 17 = .ok (.invokevirtual 50, 3) := by decide +kernel
theorem dX2_lengthOf_20 : decode cX2_lengthOf 20 = .ok (.ireturn, 1) := by decide +kernel
set_option maxRecDepth 20000 in
theorem ggX2_lengthAt_X0_itemsOf : GoodIn wsX2_lengthAt wsX0_itemsOf := goodIn_r _ [7, 8, 9, 10, 11, 12, 13, 14, 15, 16, 17, 18, 19, 20, 21, 22, 23, 24, 25, 26, 27, 28, 29, 30, 31, 32, 57, 58, 59, 60, 61, 62, 63, 64, 65, 66, 67, 68] (by decide +kernel) (by decide +kernel)
set_option maxRecDepth 20000 in
theorem gX2_lengthAt_X0_itemsOf : GoodIn wsX2_lengthAt (wsV RX2 54 RX0 yX0_itemsOf wsX0_itemsOf) := goodIn_app (goodIn_of _ (by decide +kernel)) ggX2_lengthAt_X0_itemsOf
set_option maxRecDepth 20000 in
theorem ggX2_lengthAt_X8_endOf : GoodIn wsX2_lengthAt wsX8_endOf := goodIn_ca (goodIn_r _ [37, 38, 39, 40, 41, 42, 43, 44, 45, 69, 70, 71, 72, 73, 74, 75, 76, 77, 78, 79, 80, 81] (by decide +kernel) (by decide +kernel)) (goodIn_sub (fun _ h => List.mem_cons_of_mem _ (List.mem_append_right _ h)) (by decide +kernel))
set_option maxRecDepth 20000 in
theorem gX2_lengthAt_X8_endOf : GoodIn wsX2_lengthAt (wsV RX2 59 RX8 yX8_endOf wsX8_endOf) := goodIn_app (goodIn_of _ (by decide +kernel)) ggX2_lengthAt_X8_endOf
set_option maxRecDepth 20000 in
theorem ggX2_lengthAt_X8_fromOf : GoodIn wsX2_lengthAt wsX8_fromOf := goodIn_ca (goodIn_r _ [49, 50, 39, 40, 41, 42, 43, 44, 45, 69, 70, 71, 72, 73, 74, 75, 76, 77, 78, 79, 80, 81] (by decide +kernel) (by decide +kernel)) (goodIn_sub (fun _ h => List.mem_cons_of_mem _ (List.mem_append_right _ h)) (by decide +kernel))
set_option maxRecDepth 20000 in
theorem gX2_lengthAt_X8_fromOf : GoodIn wsX2_lengthAt (wsV RX2 45 RX8 yX8_fromOf wsX8_fromOf) := goodIn_app (goodIn_of _ (by decide +kernel)) ggX2_lengthAt_X8_fromOf
theorem dX2_lengthAt_0 : decode cX2_lengthAt 0 = .ok (.aload_n 0, 1) := by decide +kernel
theorem dX2_lengthAt_1 : decode cX2_lengthAt 1 = .ok (.getfield 15, 3) := by decide +kernel
theorem dX2_lengthAt_4 : decode cX2_lengthAt 4 = .ok (.iload_n 2, 1) := by decide +kernel
theorem dX2_lengthAt_5 : decode cX2_lengthAt 5 = .ok (.aload_n 0, 1) := by decide +kernel
theorem dX2_lengthAt_6 : decode cX2_lengthAt 6 = .ok (.getfield 9, 3) := by decide +kernel
theorem dX2_lengthAt_9 : decode cX2_lengthAt 9 = .ok (.iload_n 1, 1) := by decide +kernel
theorem dX2_lengthAt_10 : decode cX2_lengthAt 10 = .ok (.invokevirtual 54, 3) := by decide +kernel
theorem dX2_lengthAt_13 : decode cX2_lengthAt 13 = .ok (.iadd, 1) := by decide +kernel
theorem dX2_lengthAt_14 : decode cX2_lengthAt 14 = .ok (.iconst 1, 1) := by decide +kernel
theorem dX2_lengthAt_15 : decode cX2_lengthAt 15 = .ok (.isub, 1) := by decide +kernel
theorem dX2_lengthAt_16 : decode cX2_lengthAt 16 = .ok (.invokevirtual 59, 3) := by decide +kernel
theorem dX2_lengthAt_19 : decode cX2_lengthAt 19 = .ok (.aload_n 0, 1) := by decide +kernel
theorem dX2_lengthAt_20 : decode cX2_lengthAt 20 = .ok (.getfield 15, 3) := by decide +kernel
theorem dX2_lengthAt_23 : decode cX2_lengthAt 23 = .ok (.iload_n 2, 1) := by decide +kernel
theorem dX2_lengthAt_24 : decode cX2_lengthAt 24 = .ok (.invokevirtual 45, 3) := by decide +kernel
theorem dX2_lengthAt_27 : decode cX2_lengthAt 27 = .ok (.isub, 1) := by decide +kernel
theorem dX2_lengthAt_28 : decode cX2_lengthAt 28 = .ok (.ireturn, 1) := by decide +kernel
set_option maxRecDepth 20000 in
theorem ggX2_solve_X8_count : GoodIn wsX2_solve wsX8_count := goodIn_r _ [11, 12, 13, 14, 15, 16, 17, 18, 147, 148, 149, 150, 151, 152, 153, 154, 155, 156, 157, 158, 159] (by decide +kernel) (by decide +kernel)
set_option maxRecDepth 20000 in
theorem gX2_solve_X8_count : GoodIn wsX2_solve (wsV RX2 62 RX8 yX8_count wsX8_count) := goodIn_app (goodIn_of _ (by decide +kernel)) ggX2_solve_X8_count
set_option maxRecDepth 20000 in
theorem ggX2_solve_X5_reset : GoodIn wsX2_solve wsX5_reset := goodIn_ca (goodIn_r _ [22, 18, 23, 158, 159] (by decide +kernel) (by decide +kernel)) (goodIn_sub (fun _ h => List.mem_cons_of_mem _ (List.mem_append_right _ h)) (by decide +kernel))
set_option maxRecDepth 20000 in
theorem gX2_solve_X5_reset : GoodIn wsX2_solve (wsV RX2 63 RX5 yX5_reset wsX5_reset) := goodIn_app (goodIn_of _ (by decide +kernel)) ggX2_solve_X5_reset
set_option maxRecDepth 20000 in
theorem ggX2_solve_X0_ofRank : GoodIn wsX2_solve wsX0_ofRank := goodIn_ca (goodIn_r _ [28, 29, 30, 31, 27, 32, 33, 34, 35, 36, 37, 38, 39, 40, 41, 42, 43, 16, 44, 18, 23, 45, 46, 47, 48, 49, 50, 51, 52, 53, 54, 55, 56, 57, 58, 59, 60, 61, 160, 161, 162, 163, 164, 165, 166, 167, 168, 169, 170, 171, 172, 173, 174, 175, 176, 177, 158, 159] (by decide +kernel) (by decide +kernel)) (goodIn_sub (fun _ h => List.mem_cons_of_mem _ (List.mem_append_right _ h)) (by decide +kernel))
set_option maxRecDepth 20000 in
theorem gX2_solve_X0_ofRank : GoodIn wsX2_solve (wsV RX2 66 RX0 yX0_ofRank wsX0_ofRank) := goodIn_app (goodIn_of _ (by decide +kernel)) ggX2_solve_X0_ofRank
set_option maxRecDepth 20000 in
theorem ggX2_solve_X0_foundAt : GoodIn wsX2_solve wsX0_foundAt := goodIn_ca (goodIn_r _ [65, 66, 67, 41, 42, 43, 16, 44, 18, 23, 68, 69, 70, 10, 71, 72, 73, 74, 75, 76, 77, 78, 79, 80, 81, 82, 83, 160, 161, 162, 163, 164, 165, 166, 167, 168, 158, 159, 147, 148, 149, 150, 151, 152, 153, 154, 155, 156, 157] (by decide +kernel) (by decide +kernel)) (goodIn_sub (fun _ h => List.mem_cons_of_mem _ (List.mem_append_right _ h)) (by decide +kernel))
set_option maxRecDepth 20000 in
theorem gX2_solve_X0_foundAt : GoodIn wsX2_solve (wsV RX2 70 RX0 yX0_foundAt wsX0_foundAt) := goodIn_app (goodIn_of _ (by decide +kernel)) ggX2_solve_X0_foundAt
set_option maxRecDepth 20000 in
theorem ggX2_solve_X2_takeBest : GoodIn wsX2_solve wsX2_takeBest := goodIn_ca (goodIn_r _ [88, 4, 2, 3, 89, 90, 91, 27, 92, 33, 34, 35, 36, 37, 38, 39, 40, 45, 46, 47, 48, 49, 50, 51, 52, 53, 54, 55, 56, 57, 58, 59, 60, 61, 93, 94, 95, 87, 96, 1, 97, 42, 43, 16, 44, 18, 23, 98, 99, 100, 10, 101, 12, 73, 102, 103, 104, 105, 106, 107, 108, 109, 110, 111, 112, 113, 114, 115, 116, 117, 118, 119, 120, 121, 122, 123, 14, 15, 17, 124, 125, 126, 127, 128, 129, 130, 131, 132, 141, 142, 143, 144, 145, 146, 160, 161, 162, 169, 170, 171, 172, 173, 174, 175, 176, 177, 158, 159, 147, 148, 149, 150, 151, 152, 153, 154, 155, 156, 157, 163, 164, 165, 166, 167, 168] (by decide +kernel) (by decide +kernel)) (goodIn_sub (fun _ h => List.mem_cons_of_mem _ (List.mem_append_right _ h)) (by decide +kernel))
set_option maxRecDepth 20000 in
theorem gX2_solve_X2_takeBest : GoodIn wsX2_solve (wsV RX2 74 RX2 yX2_takeBest wsX2_takeBest) := goodIn_app (goodIn_of _ (by decide +kernel)) ggX2_solve_X2_takeBest
set_option maxRecDepth 20000 in
theorem ggX2_solve_X5_clear : GoodIn wsX2_solve wsX5_clear := goodIn_r _ [136, 18, 158, 159] (by decide +kernel) (by decide +kernel)
set_option maxRecDepth 20000 in
theorem gX2_solve_X5_clear : GoodIn wsX2_solve (wsV RX2 78 RX5 yX5_clear wsX5_clear) := goodIn_app (goodIn_of _ (by decide +kernel)) ggX2_solve_X5_clear
set_option maxRecDepth 20000 in
theorem ggX2_solve_X5_get : GoodIn wsX2_solve wsX5_get := goodIn_ca (goodIn_r _ [44, 18, 23, 158, 159] (by decide +kernel) (by decide +kernel)) (goodIn_sub (fun _ h => List.mem_cons_of_mem _ (List.mem_append_right _ h)) (by decide +kernel))
set_option maxRecDepth 20000 in
theorem gX2_solve_X5_get : GoodIn wsX2_solve (wsV RX2 41 RX5 yX5_get wsX5_get) := goodIn_app (goodIn_of _ (by decide +kernel)) ggX2_solve_X5_get
set_option maxRecDepth 20000 in
theorem ggX2_solve_X5_add : GoodIn wsX2_solve wsX5_add := goodIn_ca (goodIn_r _ [140, 18, 23, 158, 159] (by decide +kernel) (by decide +kernel)) (goodIn_sub (fun _ h => List.mem_cons_of_mem _ (List.mem_append_right _ h)) (by decide +kernel))
set_option maxRecDepth 20000 in
theorem gX2_solve_X5_add : GoodIn wsX2_solve (wsV RX2 81 RX5 yX5_add wsX5_add) := goodIn_app (goodIn_of _ (by decide +kernel)) ggX2_solve_X5_add
theorem dX2_solve_0 : decode cX2_solve 0 = .ok (.aload_n 0, 1) := by decide +kernel
theorem dX2_solve_1 : decode cX2_solve 1 = .ok (.getfield 24, 3) := by decide +kernel
theorem dX2_solve_4 : decode cX2_solve 4 = .ok (.aload_n 0, 1) := by decide +kernel
theorem dX2_solve_5 : decode cX2_solve 5 = .ok (.getfield 15, 3) := by decide +kernel
theorem dX2_solve_8 : decode cX2_solve 8 = .ok (.invokevirtual 62, 3) := by decide +kernel
theorem dX2_solve_11 : decode cX2_solve 11 = .ok (.invokevirtual 63, 3) := by decide +kernel
theorem dX2_solve_14 : decode cX2_solve 14 = .ok (.aload_n 0, 1) := by decide +kernel
theorem dX2_solve_15 : decode cX2_solve 15 = .ok (.getfield 28, 3) := by decide +kernel
theorem dX2_solve_18 : decode cX2_solve 18 = .ok (.aload_n 0, 1) := by decide +kernel
theorem dX2_solve_19 : decode cX2_solve 19 = .ok (.getfield 15, 3) := by decide +kernel
theorem dX2_solve_22 : decode cX2_solve 22 = .ok (.invokevirtual 62, 3) := by decide +kernel
theorem dX2_solve_25 : decode cX2_solve 25 = .ok (.invokevirtual 63, 3) := by decide +kernel
theorem dX2_solve_28 : decode cX2_solve 28 = .ok (.bipush 9, 2) := by decide +kernel
theorem dX2_solve_30 : decode cX2_solve 30 = .ok (.istore_n 2, 1) := by decide +kernel
theorem dX2_solve_31 : decode cX2_solve 31 = .ok (.iload_n 2, 1) := by decide +kernel
theorem dX2_solve_32 : decode cX2_solve 32 = .ok (.iconst 1, 1) := by decide +kernel
theorem dX2_solve_33 : decode cX2_solve 33 = .ok (.if_icmp .lt 67, 3) := by decide +kernel
theorem dX2_solve_36 : decode cX2_solve 36 = .ok (.aload_n 0, 1) := by decide +kernel
theorem dX2_solve_37 : decode cX2_solve 37 = .ok (.getfield 9, 3) := by decide +kernel
theorem dX2_solve_40 : decode cX2_solve 40 = .ok (.aload_n 1, 1) := by decide +kernel
theorem dX2_solve_41 : decode cX2_solve 41 = .ok (.iload_n 2, 1) := by decide +kernel
theorem dX2_solve_42 : decode cX2_solve 42 = .ok (.invokevirtual 66, 3) := by decide +kernel
theorem dX2_solve_45 : decode cX2_solve 45 = .ok (.istore_n 3, 1) := by decide +kernel
theorem dX2_solve_46 : decode cX2_solve 46 = .ok (.iconst 0, 1) := by decide +kernel
theorem dX2_solve_47 : decode cX2_solve 47 = .ok (.istore 4, 2) := by decide +kernel
theorem dX2_solve_49 : decode cX2_solve 49 = .ok (.iload 4, 2) := by decide +kernel
theorem dX2_solve_51 : decode cX2_solve 51 = .ok (.aload_n 0, 1) := by decide +kernel
theorem dX2_solve_52 : decode cX2_solve 52 = .ok (.getfield 15, 3) := by decide +kernel
theorem dX2_solve_55 : decode cX2_solve 55 = .ok (.invokevirtual 62, 3) := by decide +kernel
theorem dX2_solve_58 : decode cX2_solve 58 = .ok (.if_icmp .ge 36, 3) := by decide +kernel
theorem dX2_solve_61 : decode cX2_solve 61 = .ok (.iload_n 3, 1) := by decide +kernel
theorem dX2_solve_62 : decode cX2_solve 62 = .ok (.ifCond .eq 32, 3) := by decide +kernel
theorem dX2_solve_65 : decode cX2_solve 65 = .ok (.aload_n 0, 1) := by decide +kernel
theorem dX2_solve_66 : decode cX2_solve 66 = .ok (.aload_n 1, 1) := by decide +kernel
theorem dX2_solve_67 : decode cX2_solve 67 = .ok (.iload 4, 2) := by decide +kernel
theorem dX2_solve_69 : decode cX2_solve 69 = .ok (.aload_n 0, 1) := by decide +kernel
theorem dX2_solve_70 : decode cX2_solve 70 = .ok (.getfield 9, 3) := by decide +kernel
theorem dX2_solve_73 : decode cX2_solve 73 = .ok (.aload_n 0, 1) := by decide +kernel
theorem dX2_solve_74 : decode cX2_solve 74 = .ok (.getfield 15, 3) := by decide +kernel
theorem dX2_solve_77 : decode cX2_solve 77 = .ok (.aload_n 1, 1) := by decide +kernel
theorem dX2_solve_78 : decode cX2_solve 78 = .ok (.iload 4, 2) := by decide +kernel
theorem dX2_solve_80 : decode cX2_solve 80 = .ok (.invokevirtual 70, 3) := by decide +kernel
theorem dX2_solve_83 : decode cX2_solve 83 = .ok (.iload_n 3, 1) := by decide +kernel
theorem dX2_solve_84 : decode cX2_solve 84 = .ok (.iand, 1) := by decide +kernel
theorem dX2_solve_85 : decode cX2_solve 85 = .ok (.invokevirtual 74, 3) := by decide +kernel
theorem dX2_solve_88 : decode cX2_solve 88 = .ok (.iinc 4 1, 3) := by decide +kernel
theorem dX2_solve_91 : decode cX2_solve 91 = .ok (.goto (-42), 3) := by decide +kernel
theorem dX2_solve_94 : decode cX2_solve 94 = .ok (.iinc 2 (-1), 3) := by decide +kernel
theorem dX2_solve_97 : decode cX2_solve 97 = .ok (.goto (-66), 3) := by decide +kernel
theorem dX2_solve_100 : decode cX2_solve 100 = .ok (.aload_n 0, 1) := by decide +kernel
theorem dX2_solve_101 : decode cX2_solve 101 = .ok (.getfield 31, 3) := by decide +kernel
theorem dX2_solve_104 : decode cX2_solve 104 = .ok (.invokevirtual 78, 3) := by decide +kernel
theorem dX2_solve_107 : decode cX2_solve 107 = .ok (.aload_n 0, 1) := by decide +kernel
theorem dX2_solve_108 : decode cX2_solve 108 = .ok (.getfield 34, 3) := by decide +kernel
theorem dX2_solve_111 : decode cX2_solve 111 = .ok (.invokevirtual 78, 3) := by decide +kernel
theorem dX2_solve_114 : decode cX2_solve 114 = .ok (.iconst 0, 1) := by decide +kernel
theorem dX2_solve_115 : decode cX2_solve 115 = .ok (.istore_n 2, 1) := by decide +kernel
theorem dX2_solve_116 : decode cX2_solve 116 = .ok (.iload_n 2, 1) := by decide +kernel
theorem dX2_solve_117 : decode cX2_solve 117 = .ok (.aload_n 0, 1) := by decide +kernel
theorem dX2_solve_118 : decode cX2_solve 118 = .ok (.getfield 15, 3) := by decide +kernel
theorem dX2_solve_121 : decode cX2_solve 121 = .ok (.invokevirtual 62, 3) := by decide +kernel
theorem dX2_solve_124 : decode cX2_solve 124 = .ok (.if_icmp .ge 45, 3) := by decide +kernel
theorem dX2_solve_127 : decode cX2_solve 127 = .ok (.aload_n 0, 1) := by decide +kernel
theorem dX2_solve_128 : decode cX2_solve 128 = .ok (.getfield 28, 3) := by decide +kernel
theorem dX2_solve_131 : decode cX2_solve 131 = .ok (.iload_n 2, 1) := by decide +kernel
theorem dX2_solve_132 : decode cX2_solve 132 = .ok (.invokevirtual 41, 3) := by decide +kernel
theorem dX2_solve_135 : decode cX2_solve 135 = .ok (.ifCond .eq 28, 3) := by decide +kernel
theorem dX2_solve_138 : decode cX2_solve 138 = .ok (.aload_n 0, 1) := by decide +kernel
theorem dX2_solve_139 : decode cX2_solve 139 = .ok (.getfield 31, 3) := by decide +kernel
theorem dX2_solve_142 : decode cX2_solve 142 = .ok (.iload_n 2, 1) := by decide +kernel
theorem dX2_solve_143 : decode cX2_solve 143 = .ok (.invokevirtual 81, 3) := by decide +kernel
theorem dX2_solve_146 : decode cX2_solve 146 = .ok (.aload_n 0, 1) := by decide +kernel
theorem dX2_solve_147 : decode cX2_solve 147 = .ok (.getfield 34, 3) := by decide +kernel
theorem dX2_solve_150 : decode cX2_solve 150 = .ok (.aload_n 0, 1) := by decide +kernel
theorem dX2_solve_151 : decode cX2_solve 151 = .ok (.getfield 28, 3) := by decide +kernel
theorem dX2_solve_154 : decode cX2_solve 154 = .ok (.iload_n 2, 1) := by decide +kernel
theorem dX2_solve_155 : decode cX2_solve 155 = .ok (.invokevirtual 41, 3) := by decide +kernel
theorem dX2_solve_158 : decode cX2_solve 158 = .ok (.iconst 1, 1) := by decide +kernel
theorem dX2_solve_159 : decode cX2_solve 159 = .ok (.isub, 1) := by decide +kernel
theorem dX2_solve_160 : decode cX2_solve 160 = .ok (.invokevirtual 81, 3) := by decide +kernel
theorem dX2_solve_163 : decode cX2_solve 163 = .ok (.iinc 2 1, 3) := by decide +kernel
theorem dX2_solve_166 : decode cX2_solve 166 = .ok (.goto (-50), 3) := by decide +kernel
theorem dX2_solve_169 : decode cX2_solve 169 = .ok (.return_, 1) := by decide +kernel
set_option maxRecDepth 20000 in
theorem ggX2_takeBest_X0_itemsOf : GoodIn wsX2_takeBest wsX0_itemsOf := goodIn_r _ [8, 9, 10, 11, 12, 13, 14, 15, 16, 17, 18, 19, 20, 21, 22, 23, 24, 25, 26, 27, 28, 29, 30, 31, 32, 33, 94, 95, 96, 97, 98, 99, 100, 101, 102, 103, 104, 105] (by decide +kernel) (by decide +kernel)
set_option maxRecDepth 20000 in
theorem gX2_takeBest_X0_itemsOf : GoodIn wsX2_takeBest (wsV RX2 54 RX0 yX0_itemsOf wsX0_itemsOf) := goodIn_app (goodIn_of _ (by decide +kernel)) ggX2_takeBest_X0_itemsOf
set_option maxRecDepth 20000 in
theorem ggX2_takeBest_X2_isFree : GoodIn wsX2_takeBest wsX2_isFree := goodIn_ca (goodIn_r _ [38, 39, 40, 41, 42, 43, 44, 45, 46, 88, 89, 90, 91, 92, 93, 106, 107] (by decide +kernel) (by decide +kernel)) (goodIn_sub (fun _ h => List.mem_cons_of_mem _ (List.mem_append_right _ h)) (by decide +kernel))
set_option maxRecDepth 20000 in
theorem gX2_takeBest_X2_isFree : GoodIn wsX2_takeBest (wsV RX2 84 RX2 yX2_isFree wsX2_isFree) := goodIn_app (goodIn_of _ (by decide +kernel)) ggX2_takeBest_X2_isFree
set_option maxRecDepth 20000 in
theorem ggX2_takeBest_X8_fromOf : GoodIn wsX2_takeBest wsX8_fromOf := goodIn_ca (goodIn_r _ [51, 52, 53, 41, 42, 43, 44, 45, 46, 108, 109, 110, 111, 112, 113, 114, 115, 116, 117, 118, 106, 107] (by decide +kernel) (by decide +kernel)) (goodIn_sub (fun _ h => List.mem_cons_of_mem _ (List.mem_append_right _ h)) (by decide +kernel))
set_option maxRecDepth 20000 in
theorem gX2_takeBest_X8_fromOf : GoodIn wsX2_takeBest (wsV RX2 45 RX8 yX8_fromOf wsX8_fromOf) := goodIn_app (goodIn_of _ (by decide +kernel)) ggX2_takeBest_X8_fromOf
set_option maxRecDepth 20000 in
theorem ggX2_takeBest_X2_lengthAt : GoodIn wsX2_takeBest wsX2_lengthAt := goodIn_ca (goodIn_r _ [57, 2, 1, 4, 5, 6, 7, 8, 9, 10, 11, 12, 13, 14, 15, 16, 17, 18, 19, 20, 21, 22, 23, 24, 25, 26, 27, 28, 29, 30, 31, 32, 33, 58, 59, 60, 50, 61, 62, 53, 41, 42, 43, 44, 45, 46, 47, 48, 49, 51, 52, 88, 89, 90, 91, 92, 93, 94, 95, 96, 97, 98, 99, 100, 101, 102, 103, 104, 105, 108, 109, 110, 111, 112, 113, 114, 115, 116, 117, 118, 106, 107] (by decide +kernel) (by decide +kernel)) (goodIn_sub (fun _ h => List.mem_cons_of_mem _ (List.mem_append_right _ h)) (by decide +kernel))
set_option maxRecDepth 20000 in
theorem gX2_takeBest_X2_lengthAt : GoodIn wsX2_takeBest (wsV RX2 50 RX2 yX2_lengthAt wsX2_lengthAt) := goodIn_app (goodIn_of _ (by decide +kernel)) ggX2_takeBest_X2_lengthAt
set_option maxRecDepth 20000 in
theorem ggX2_takeBest_X1_ignores : GoodIn wsX2_takeBest wsX1_ignores := goodIn_ca (goodIn_r _ [67, 68, 69, 70, 71, 72, 73, 66, 74, 75, 76, 77, 43, 78, 45, 79, 41, 42, 44, 46, 119, 120, 121, 122, 123, 124, 106, 107] (by decide +kernel) (by decide +kernel)) (goodIn_sub (fun _ h => List.mem_cons_of_mem _ (List.mem_append_right _ h)) (by decide +kernel))
set_option maxRecDepth 20000 in
theorem gX2_takeBest_X1_ignores : GoodIn wsX2_takeBest (wsV RX2 88 RX1 yX1_ignores wsX1_ignores) := goodIn_app (goodIn_of _ (by decide +kernel)) ggX2_takeBest_X1_ignores
set_option maxRecDepth 20000 in
theorem ggX2_takeBest_X2_cover : GoodIn wsX2_takeBest wsX2_cover := goodIn_ca (goodIn_r _ [83, 39, 84, 85, 86, 43, 87, 45, 46, 88, 89, 90, 91, 92, 93, 106, 107] (by decide +kernel) (by decide +kernel)) (goodIn_sub (fun _ h => List.mem_cons_of_mem _ (List.mem_append_right _ h)) (by decide +kernel))
set_option maxRecDepth 20000 in
theorem gX2_takeBest_X2_cover : GoodIn wsX2_takeBest (wsV RX2 94 RX2 yX2_cover wsX2_cover) := goodIn_app (goodIn_of _ (by decide +kernel)) ggX2_takeBest_X2_cover
set_option maxRecDepth 20000 in
theorem ggX2_takeBest_X5_set : GoodIn wsX2_takeBest wsX5_set := goodIn_ca (goodIn_r _ [87, 45, 46, 106, 107] (by decide +kernel) (by decide +kernel)) (goodIn_sub (fun _ h => List.mem_cons_of_mem _ (List.mem_append_right _ h)) (by decide +kernel))
set_option maxRecDepth 20000 in
theorem gX2_takeBest_X5_set : GoodIn wsX2_takeBest (wsV RX2 98 RX5 yX5_set wsX5_set) := goodIn_app (goodIn_of _ (by decide +kernel)) ggX2_takeBest_X5_set
theorem dX2_takeBest_0 : decode cX2_takeBest 0 = .ok (.iload_n 3, 1) := by decide +kernel
theorem dX2_takeBest_1 : decode cX2_takeBest 1 = .ok (.ifCond .ne 4, 3) := by decide +kernel
theorem dX2_takeBest_4 : decode cX2_takeBest 4 = .ok (.return_, 1) := by decide +kernel
theorem dX2_takeBest_5 : decode cX2_takeBest 5 = .ok (.iconst 3, 1) := by decide +kernel
theorem dX2_takeBest_6 : decode cX2_takeBest 6 = .ok (.istore 4, 2) := by decide +kernel
theorem dX2_takeBest_8 : decode cX2_takeBest 8 = .ok (.iload 4, 2) := by decide +kernel
theorem dX2_takeBest_10 : decode cX2_takeBest 10 = .ok (.iconst 1, 1) := by decide +kernel
theorem dX2_takeBest_11 : decode cX2_takeBest 11 = .ok (.if_icmp .lt 102, 3) := by decide +kernel
theorem dX2_takeBest_14 : decode cX2_takeBest 14 = .ok (.iconst 0, 1) := by decide +kernel
theorem dX2_takeBest_15 : decode cX2_takeBest 15 = .ok (.istore 5, 2) := by decide +kernel
theorem dX2_takeBest_17 : decode cX2_takeBest 17 = .ok (.iload 5, 2) := by decide +kernel
theorem dX2_takeBest_19 : decode cX2_takeBest 19 = .ok (.bipush 20, 2) := by decide +kernel
theorem dX2_takeBest_21 : decode cX2_takeBest 21 = .ok (.if_icmp .gt 86, 3) := by decide +kernel
theorem dX2_takeBest_24 : decode cX2_takeBest 24 = .ok (.iload_n 3, 1) := by decide +kernel
theorem dX2_takeBest_25 : decode cX2_takeBest 25 = .ok (.iconst 1, 1) := by decide +kernel
theorem dX2_takeBest_26 : decode cX2_takeBest 26 = .ok (.iload 5, 2) := by decide +kernel
theorem dX2_takeBest_28 : decode cX2_takeBest 28 = .ok (.ishl, 1) := by decide +kernel
theorem dX2_takeBest_29 : decode cX2_takeBest 29 = .ok (.iand, 1) := by decide +kernel
theorem dX2_takeBest_30 : decode cX2_takeBest 30 = .ok (.ifCond .eq 71, 3) := by decide +kernel
theorem dX2_takeBest_33 : decode cX2_takeBest 33 = .ok (.aload_n 0, 1) := by decide +kernel
theorem dX2_takeBest_34 : decode cX2_takeBest 34 = .ok (.getfield 9, 3) := by decide +kernel
theorem dX2_takeBest_37 : decode cX2_takeBest 37 = .ok (.iload 5, 2) := by decide +kernel
theorem dX2_takeBest_39 : decode cX2_takeBest 39 = .ok (.invokevirtual 54, 3) := by decide +kernel
theorem dX2_takeBest_42 : decode cX2_takeBest 42 = .ok (.iload 4, 2) := by decide +kernel
theorem dX2_takeBest_44 : decode cX2_takeBest 44 = .ok (.if_icmp .ne 57, 3) := by decide +kernel
theorem dX2_takeBest_47 : decode cX2_takeBest 47 = .ok (.aload_n 0, 1) := by decide +kernel
theorem dX2_takeBest_48 : decode cX2_takeBest 48 = .ok (.iload_n 2, 1) := by decide +kernel
theorem dX2_takeBest_49 : decode cX2_takeBest 49 = .ok (.iload 4, 2) := by decide +kernel
theorem dX2_takeBest_51 : decode cX2_takeBest 51 = .ok (.invokevirtual 84, 3) := by decide +kernel
theorem dX2_takeBest_54 : decode cX2_takeBest 54 = .ok (.ifCond .eq 47, 3) := by decide +kernel
theorem dX2_takeBest_57 : decode cX2_takeBest 57 = .ok (.aload_n 1, 1) := by decide +kernel
theorem dX2_takeBest_58 : decode cX2_takeBest 58 = .ok (.iload 5, 2) := by decide +kernel
theorem dX2_takeBest_60 : decode cX2_takeBest 60 = .ok (.aload_n 0, 1) := by decide +kernel
theorem dX2_takeBest_61 : decode cX2_takeBest 61 = .ok (.getfield 15, 3) := by decide +kernel
theorem dX2_takeBest_64 : decode cX2_takeBest 64 = .ok (.iload_n 2, 1) := by decide +kernel
theorem dX2_takeBest_65 : decode cX2_takeBest 65 = .ok (.invokevirtual 45, 3) := by decide +kernel
theorem dX2_takeBest_68 : decode cX2_takeBest 68 = .ok (.aload_n 0, 1) := by decide +kernel
theorem dX2_takeBest_69 : decode cX2_takeBest 69 = .ok (.iload 5, 2) := by decide +kernel
theorem dX2_takeBest_71 : decode cX2_takeBest 71 = .ok (.iload_n 2, 1) := by decide +kernel
theorem dX2_takeBest_72 : decode cX2_takeBest 72 = .ok (.invokevirtual 50, 3) := by decide +kernel
theorem dX2_takeBest_75 : decode cX2_takeBest 75 = .ok (.invokevirtual 88, 3) := by decide +kernel
theorem dX2_takeBest_78 : decode cX2_takeBest 78 = .ok (.ifCond .ne 23, 3) := by decide +kernel
theorem dX2_takeBest_81 : decode cX2_takeBest 81 = .ok (.aload_n 0, 1) := by decide +kernel
theorem dX2_takeBest_82 : decode cX2_takeBest 82 = .ok (.iload_n 2, 1) := by decide +kernel
theorem dX2_takeBest_83 : decode cX2_takeBest 83 = .ok (.iload 4, 2) := by decide +kernel
theorem dX2_takeBest_85 : decode cX2_takeBest 85 = .ok (.invokevirtual 94, 3) := by decide +kernel
theorem dX2_takeBest_88 : decode cX2_takeBest 88 = .ok (.aload_n 0, 1) := by decide +kernel
theorem dX2_takeBest_89 : decode cX2_takeBest 89 = .ok (.getfield 28, 3) := by decide +kernel
theorem dX2_takeBest_92 : decode cX2_takeBest 92 = .ok (.iload_n 2, 1) := by decide +kernel
theorem dX2_takeBest_93 : decode cX2_takeBest 93 = .ok (.iload 5, 2) := by decide +kernel
theorem dX2_takeBest_95 : decode cX2_takeBest 95 = .ok (.iconst 1, 1) := by decide +kernel
theorem dX2_takeBest_96 : decode cX2_takeBest 96 = .ok (.iadd, 1) := by decide +kernel
theorem dX2_takeBest_97 : decode cX2_takeBest 97 = .ok (.invokevirtual 98, 3) := by decide +kernel
theorem dX2_takeBest_100 : decode cX2_takeBest 100 = .ok (.return_, 1) := by decide +kernel
theorem dX2_takeBest_101 : decode cX2_takeBest 101 = .ok (.iinc 5 1, 3) := by decide +kernel
theorem dX2_takeBest_104 : decode cX2_takeBest 104 = .ok (.goto (-87), 3) := by decide +kernel
theorem dX2_takeBest_107 : decode cX2_takeBest 107 = .ok (.iinc 4 (-1), 3) := by decide +kernel
theorem dX2_takeBest_110 : decode cX2_takeBest 110 = .ok (.goto (-102), 3) := by decide +kernel
theorem dX2_takeBest_113 : decode cX2_takeBest 113 = .ok (.return_, 1) := by decide +kernel
set_option maxRecDepth 20000 in
theorem ggX2_isFree_X5_get : GoodIn wsX2_isFree wsX5_get := goodIn_ca (goodIn_r _ [6, 7, 8, 15, 16] (by decide +kernel) (by decide +kernel)) (goodIn_sub (fun _ h => List.mem_cons_of_mem _ (List.mem_append_right _ h)) (by decide +kernel))
set_option maxRecDepth 20000 in
theorem gX2_isFree_X5_get : GoodIn wsX2_isFree (wsV RX2 41 RX5 yX5_get wsX5_get) := goodIn_app (goodIn_of _ (by decide +kernel)) ggX2_isFree_X5_get
theorem dX2_isFree_0 : decode cX2_isFree 0 = .ok (.iconst 0, 1) := by decide +kernel
theorem dX2_isFree_1 : decode cX2_isFree 1 = .ok (.istore_n 3, 1) := by decide +kernel
theorem dX2_isFree_2 : decode cX2_isFree 2 = .ok (.iload_n 3, 1) := by decide +kernel
theorem dX2_isFree_3 : decode cX2_isFree 3 = .ok (.iload_n 2, 1) := by decide +kernel
theorem dX2_isFree_4 : decode cX2_isFree 4 = .ok (.if_icmp .ge 24, 3) := by decide +kernel
theorem dX2_isFree_7 : decode cX2_isFree 7 = .ok (.aload_n 0, 1) := by decide +kernel
theorem dX2_isFree_8 : decode cX2_isFree 8 = .ok (.getfield 24, 3) := by decide +kernel
theorem dX2_isFree_11 : decode cX2_isFree 11 = .ok (.iload_n 1, 1) := by decide +kernel
theorem dX2_isFree_12 : decode cX2_isFree 12 = .ok (.iload_n 3, 1) := by decide +kernel
theorem dX2_isFree_13 : decode cX2_isFree 13 = .ok (.iadd, 1) := by decide +kernel
theorem dX2_isFree_14 : decode cX2_isFree 14 = .ok (.invokevirtual 41, 3) := by decide +kernel
theorem dX2_isFree_17 : decode cX2_isFree 17 = .ok (.ifCond .eq 5, 3) := by decide +kernel
theorem dX2_isFree_20 : decode cX2_isFree 20 = .ok (.iconst 0, 1) := by decide +kernel
theorem dX2_isFree_21 : decode cX2_isFree 21 = .ok (.ireturn, 1) := by decide +kernel
theorem dX2_isFree_22 : decode cX2_isFree 22 = .ok (.iinc 3 1, 3) := by decide +kernel
theorem dX2_isFree_25 : decode cX2_isFree 25 = .ok (.goto (-23), 3) := by decide +kernel
theorem dX2_isFree_28 : decode cX2_isFree 28 = .ok (.iconst 1, 1) := by decide +kernel
theorem dX2_isFree_29 : decode cX2_isFree 29 = .ok (.ireturn, 1) := by decide +kernel
set_option maxRecDepth 20000 in
theorem ggX2_cover_X5_set : GoodIn wsX2_cover wsX5_set := goodIn_ca (goodIn_r _ [6, 7, 8, 15, 16] (by decide +kernel) (by decide +kernel)) (goodIn_sub (fun _ h => List.mem_cons_of_mem _ (List.mem_append_right _ h)) (by decide +kernel))
set_option maxRecDepth 20000 in
theorem gX2_cover_X5_set : GoodIn wsX2_cover (wsV RX2 98 RX5 yX5_set wsX5_set) := goodIn_app (goodIn_of _ (by decide +kernel)) ggX2_cover_X5_set
theorem dX2_cover_0 : decode cX2_cover 0 = .ok (.iconst 0, 1) := by decide +kernel
theorem dX2_cover_1 : decode cX2_cover 1 = .ok (.istore_n 3, 1) := by decide +kernel
theorem dX2_cover_2 : decode cX2_cover 2 = .ok (.iload_n 3, 1) := by decide +kernel
theorem dX2_cover_3 : decode cX2_cover 3 = .ok (.iload_n 2, 1) := by decide +kernel
theorem dX2_cover_4 : decode cX2_cover 4 = .ok (.if_icmp .ge 20, 3) := by decide +kernel
theorem dX2_cover_7 : decode cX2_cover 7 = .ok (.aload_n 0, 1) := by decide +kernel
theorem dX2_cover_8 : decode cX2_cover 8 = .ok (.getfield 24, 3) := by decide +kernel
theorem dX2_cover_11 : decode cX2_cover 11 = .ok (.iload_n 1, 1) := by decide +kernel
theorem dX2_cover_12 : decode cX2_cover 12 = .ok (.iload_n 3, 1) := by decide +kernel
theorem dX2_cover_13 : decode cX2_cover 13 = .ok (.iadd, 1) := by decide +kernel
theorem dX2_cover_14 : decode cX2_cover 14 = .ok (.iconst 1, 1) := by decide +kernel
theorem dX2_cover_15 : decode cX2_cover 15 = .ok (.invokevirtual 98, 3) := by decide +kernel
theorem dX2_cover_18 : decode cX2_cover 18 = .ok (.iinc 3 1, 3) := by decide +kernel
theorem dX2_cover_21 : decode cX2_cover 21 = .ok (.goto (-19), 3) := by decide +kernel
theorem dX2_cover_24 : decode cX2_cover 24 = .ok (.return_, 1) := by decide +kernel
set_option maxRecDepth 20000 in
theorem ggX2_shareNoSign_X2_count : GoodIn wsX2_shareNoSign wsX2_count := goodIn_r _ [5, 6, 7, 8, 9, 10, 11, 12, 75, 76, 77, 78, 79, 80, 81, 82] (by decide +kernel) (by decide +kernel)
set_option maxRecDepth 20000 in
theorem gX2_shareNoSign_X2_count : GoodIn wsX2_shareNoSign (wsV RX2 101 RX2 yX2_count wsX2_count) := goodIn_app (goodIn_of _ (by decide +kernel)) ggX2_shareNoSign_X2_count
set_option maxRecDepth 20000 in
theorem ggX2_shareNoSign_X2_fromOf : GoodIn wsX2_shareNoSign wsX2_fromOf := goodIn_ca (goodIn_r _ [16, 17, 6, 18, 19, 20, 10, 21, 12, 22, 23, 24, 25, 26, 27, 28, 29, 75, 76, 77, 78, 79, 80, 81, 82, 83, 84, 85, 86, 87, 88, 89, 90, 91, 92, 93] (by decide +kernel) (by decide +kernel)) (goodIn_sub (fun _ h => List.mem_cons_of_mem _ (List.mem_append_right _ h)) (by decide +kernel))
set_option maxRecDepth 20000 in
theorem gX2_shareNoSign_X2_fromOf : GoodIn wsX2_shareNoSign (wsV RX2 102 RX2 yX2_fromOf wsX2_fromOf) := goodIn_app (goodIn_of _ (by decide +kernel)) ggX2_shareNoSign_X2_fromOf
set_option maxRecDepth 20000 in
theorem ggX2_shareNoSign_X2_lengthOf : GoodIn wsX2_shareNoSign wsX2_lengthOf := goodIn_ca (goodIn_r _ [33, 34, 6, 18, 19, 20, 10, 21, 12, 22, 35, 36, 37, 4, 38, 17, 39, 40, 41, 42, 43, 44, 45, 46, 47, 48, 49, 50, 51, 52, 53, 54, 55, 56, 57, 58, 59, 60, 61, 62, 63, 64, 65, 66, 67, 68, 69, 70, 71, 72, 26, 73, 74, 29, 23, 24, 25, 27, 28, 75, 76, 77, 78, 79, 80, 81, 82, 94, 95, 96, 97, 98, 99, 100, 101, 102, 103, 104, 105, 83, 84, 85, 86, 87, 88, 89, 90, 91, 92, 93] (by decide +kernel) (by decide +kernel)) (goodIn_sub (fun _ h => List.mem_cons_of_mem _ (List.mem_append_right _ h)) (by decide +kernel))
set_option maxRecDepth 20000 in
theorem gX2_shareNoSign_X2_lengthOf : GoodIn wsX2_shareNoSign (wsV RX2 103 RX2 yX2_lengthOf wsX2_lengthOf) := goodIn_app (goodIn_of _ (by decide +kernel)) ggX2_shareNoSign_X2_lengthOf
theorem dX2_shareNoSign_0 : decode cX2_shareNoSign 0 = .ok (.iconst 1, 1) := by decide +kernel
theorem dX2_shareNoSign_1 : decode cX2_shareNoSign 1 = .ok (.istore_n 1, 1) := by decide +kernel
theorem dX2_shareNoSign_2 : decode cX2_shareNoSign 2 = .ok (.iload_n 1, 1) := by decide +kernel
theorem dX2_shareNoSign_3 : decode cX2_shareNoSign 3 = .ok (.aload_n 0, 1) := by decide +kernel
theorem dX2_shareNoSign_4 : decode cX2_shareNoSign 4 = .ok (.invokevirtual 101, 3) := by decide +kernel
theorem dX2_shareNoSign_7 : decode cX2_shareNoSign 7 = .ok (.if_icmp .ge 34, 3) := by decide +kernel
theorem dX2_shareNoSign_10 : decode cX2_shareNoSign 10 = .ok (.aload_n 0, 1) := by decide +kernel
theorem dX2_shareNoSign_11 : decode cX2_shareNoSign 11 = .ok (.iload_n 1, 1) := by decide +kernel
theorem dX2_shareNoSign_12 : decode cX2_shareNoSign 12 = .ok (.iconst 1, 1) := by decide +kernel
theorem dX2_shareNoSign_13 : decode cX2_shareNoSign 13 = .ok (.isub, 1) := by decide +kernel
theorem dX2_shareNoSign_14 : decode cX2_shareNoSign 14 = .ok (.invokevirtual 102, 3) := by decide +kernel
theorem dX2_shareNoSign_17 : decode cX2_shareNoSign 17 = .ok (.aload_n 0, 1) := by decide +kernel
theorem dX2_shareNoSign_18 : decode cX2_shareNoSign 18 = .ok (.iload_n 1, 1) := by decide +kernel
theorem dX2_shareNoSign_19 : decode cX2_shareNoSign 19 = .ok (.iconst 1, 1) := by decide +kernel
theorem dX2_shareNoSign_20 : decode cX2_shareNoSign 20 = .ok (.isub, 1) := by decide +kernel
theorem dX2_shareNoSign_21 : decode cX2_shareNoSign 21 = .ok (.invokevirtual 103, 3) := by decide +kernel
theorem dX2_shareNoSign_24 : decode cX2_shareNoSign 24 = .ok (.iadd, 1) := by decide +kernel
theorem dX2_shareNoSign_25 : decode cX2_shareNoSign 25 = .ok (.aload_n 0, 1) := by decide +kernel
theorem dX2_shareNoSign_26 : decode cX2_shareNoSign 26 = .ok (.iload_n 1, 1) := by decide +kernel
theorem dX2_shareNoSign_27 : decode cX2_shareNoSign 27 = .ok (.invokevirtual 102, 3) := by decide +kernel
theorem dX2_shareNoSign_30 : decode cX2_shareNoSign 30 = .ok (.if_icmp .le 5, 3) := by decide +kernel
theorem dX2_shareNoSign_33 : decode cX2_shareNoSign 33 = .ok (.iconst 0, 1) := by decide +kernel
theorem dX2_shareNoSign_34 : decode cX2_shareNoSign 34 = .ok (.ireturn, 1) := by decide +kernel
theorem dX2_shareNoSign_35 : decode cX2_shareNoSign 35 = .ok (.iinc 1 1, 3) := by decide +kernel
theorem dX2_shareNoSign_38 : decode cX2_shareNoSign 38 = .ok (.goto (-36), 3) := by decide +kernel
theorem dX2_shareNoSign_41 : decode cX2_shareNoSign 41 = .ok (.iconst 1, 1) := by decide +kernel
theorem dX2_shareNoSign_42 : decode cX2_shareNoSign 42 = .ok (.ireturn, 1) := by decide +kernel
set_option maxRecDepth 20000 in
theorem ggX2_accountForAll_X8_count : GoodIn wsX2_accountForAll wsX8_count := goodIn_r _ [8, 9, 10, 11, 12, 13, 14, 15, 127, 128, 129, 130, 131, 132, 133, 134, 135, 136, 137, 138, 139] (by decide +kernel) (by decide +kernel)
set_option maxRecDepth 20000 in
theorem gX2_accountForAll_X8_count : GoodIn wsX2_accountForAll (wsV RX2 62 RX8 yX8_count wsX8_count) := goodIn_app (goodIn_of _ (by decide +kernel)) ggX2_accountForAll_X8_count
set_option maxRecDepth 20000 in
theorem ggX2_accountForAll_X0_foundAt : GoodIn wsX2_accountForAll wsX0_foundAt := goodIn_ca (goodIn_r _ [20, 21, 22, 23, 24, 25, 13, 26, 15, 27, 28, 29, 30, 7, 31, 32, 33, 34, 35, 36, 37, 38, 39, 40, 41, 42, 43, 140, 141, 142, 143, 144, 145, 146, 147, 148, 138, 139, 127, 128, 129, 130, 131, 132, 133, 134, 135, 136, 137] (by decide +kernel) (by decide +kernel)) (goodIn_sub (fun _ h => List.mem_cons_of_mem _ (List.mem_append_right _ h)) (by decide +kernel))
set_option maxRecDepth 20000 in
theorem gX2_accountForAll_X0_foundAt : GoodIn wsX2_accountForAll (wsV RX2 70 RX0 yX0_foundAt wsX0_foundAt) := goodIn_app (goodIn_of _ (by decide +kernel)) ggX2_accountForAll_X0_foundAt
set_option maxRecDepth 20000 in
theorem ggX2_accountForAll_X5_get : GoodIn wsX2_accountForAll wsX5_get := goodIn_ca (goodIn_r _ [26, 15, 27, 138, 139] (by decide +kernel) (by decide +kernel)) (goodIn_sub (fun _ h => List.mem_cons_of_mem _ (List.mem_append_right _ h)) (by decide +kernel))
set_option maxRecDepth 20000 in
theorem gX2_accountForAll_X5_get : GoodIn wsX2_accountForAll (wsV RX2 41 RX5 yX5_get wsX5_get) := goodIn_app (goodIn_of _ (by decide +kernel)) ggX2_accountForAll_X5_get
set_option maxRecDepth 20000 in
theorem ggX2_accountForAll_X2_isLeftOut : GoodIn wsX2_accountForAll wsX2_isLeftOut := goodIn_ca (goodIn_r _ [49, 1, 50, 51, 52, 7, 53, 9, 33, 24, 25, 13, 26, 15, 27, 54, 55, 56, 48, 57, 2, 58, 59, 60, 19, 61, 62, 63, 64, 65, 66, 67, 68, 69, 70, 71, 72, 73, 74, 75, 76, 77, 78, 79, 80, 81, 82, 83, 84, 85, 86, 87, 88, 89, 90, 91, 92, 93, 94, 95, 96, 97, 98, 99, 100, 101, 102, 103, 104, 11, 12, 14, 105, 106, 107, 108, 109, 110, 111, 112, 113, 114, 115, 44, 116, 117, 118, 119, 120, 121, 122, 123, 124, 125, 126, 127, 128, 129, 130, 131, 132, 133, 134, 135, 136, 137, 138, 139, 140, 141, 142, 149, 150, 151, 152, 153, 154, 155, 156, 157, 143, 144, 145, 146, 147, 148] (by decide +kernel) (by decide +kernel)) (goodIn_sub (fun _ h => List.mem_cons_of_mem _ (List.mem_append_right _ h)) (by decide +kernel))
set_option maxRecDepth 20000 in
theorem gX2_accountForAll_X2_isLeftOut : GoodIn wsX2_accountForAll (wsV RX2 106 RX2 yX2_isLeftOut wsX2_isLeftOut) := goodIn_app (goodIn_of _ (by decide +kernel)) ggX2_accountForAll_X2_isLeftOut
theorem dX2_accountForAll_0 : decode cX2_accountForAll 0 = .ok (.iconst 0, 1) := by decide +kernel
theorem dX2_accountForAll_1 : decode cX2_accountForAll 1 = .ok (.istore_n 2, 1) := by decide +kernel
theorem dX2_accountForAll_2 : decode cX2_accountForAll 2 = .ok (.iload_n 2, 1) := by decide +kernel
theorem dX2_accountForAll_3 : decode cX2_accountForAll 3 = .ok (.aload_n 0, 1) := by decide +kernel
theorem dX2_accountForAll_4 : decode cX2_accountForAll 4 = .ok (.getfield 15, 3) := by decide +kernel
theorem dX2_accountForAll_7 : decode cX2_accountForAll 7 = .ok (.invokevirtual 62, 3) := by decide +kernel
theorem dX2_accountForAll_10 : decode cX2_accountForAll 10 = .ok (.if_icmp .ge 102, 3) := by decide +kernel
theorem dX2_accountForAll_13 : decode cX2_accountForAll 13 = .ok (.aload_n 0, 1) := by decide +kernel
theorem dX2_accountForAll_14 : decode cX2_accountForAll 14 = .ok (.getfield 9, 3) := by decide +kernel
theorem dX2_accountForAll_17 : decode cX2_accountForAll 17 = .ok (.aload_n 0, 1) := by decide +kernel
theorem dX2_accountForAll_18 : decode cX2_accountForAll 18 = .ok (.getfield 15, 3) := by decide +kernel
theorem dX2_accountForAll_21 : decode cX2_accountForAll 21 = .ok (.aload_n 1, 1) := by decide +kernel
theorem dX2_accountForAll_22 : decode cX2_accountForAll 22 = .ok (.iload_n 2, 1) := by decide +kernel
theorem dX2_accountForAll_23 : decode cX2_accountForAll 23 = .ok (.invokevirtual 70, 3) := by decide +kernel
theorem dX2_accountForAll_26 : decode cX2_accountForAll 26 = .ok (.istore_n 3, 1) := by decide +kernel
theorem dX2_accountForAll_27 : decode cX2_accountForAll 27 = .ok (.iconst 0, 1) := by decide +kernel
theorem dX2_accountForAll_28 : decode cX2_accountForAll 28 = .ok (.istore 4, 2) := by decide +kernel
theorem dX2_accountForAll_30 : decode cX2_accountForAll 30 = .ok (.iload 4, 2) := by decide +kernel
theorem dX2_accountForAll_32 : decode cX2_accountForAll 32 = .ok (.bipush 20, 2) := by decide +kernel
theorem dX2_accountForAll_34 : decode cX2_accountForAll 34 = .ok (.if_icmp .gt 72, 3) := by decide +kernel
theorem dX2_accountForAll_37 : decode cX2_accountForAll 37 = .ok (.aload_n 0, 1) := by decide +kernel
theorem dX2_accountForAll_38 : decode cX2_accountForAll 38 = .ok (.getfield 28, 3) := by decide +kernel
theorem dX2_accountForAll_41 : decode cX2_accountForAll 41 = .ok (.iload_n 2, 1) := by decide +kernel
theorem dX2_accountForAll_42 : decode cX2_accountForAll 42 = .ok (.invokevirtual 41, 3) := by decide +kernel
theorem dX2_accountForAll_45 : decode cX2_accountForAll 45 = .ok (.iload 4, 2) := by decide +kernel
theorem dX2_accountForAll_47 : decode cX2_accountForAll 47 = .ok (.iconst 1, 1) := by decide +kernel
theorem dX2_accountForAll_48 : decode cX2_accountForAll 48 = .ok (.iadd, 1) := by decide +kernel
theorem dX2_accountForAll_49 : decode cX2_accountForAll 49 = .ok (.if_icmp .ne 7, 3) := by decide +kernel
theorem dX2_accountForAll_52 : decode cX2_accountForAll 52 = .ok (.iconst 1, 1) := by decide +kernel
theorem dX2_accountForAll_53 : decode cX2_accountForAll 53 = .ok (.goto 4, 3) := by decide +kernel
theorem dX2_accountForAll_56 : decode cX2_accountForAll 56 = .ok (.iconst 0, 1) := by decide +kernel
theorem dX2_accountForAll_57 : decode cX2_accountForAll 57 = .ok (.istore 5, 2) := by decide +kernel
theorem dX2_accountForAll_59 : decode cX2_accountForAll 59 = .ok (.iload_n 3, 1) := by decide +kernel
theorem dX2_accountForAll_60 : decode cX2_accountForAll 60 = .ok (.iconst 1, 1) := by decide +kernel
theorem dX2_accountForAll_61 : decode cX2_accountForAll 61 = .ok (.iload 4, 2) := by decide +kernel
theorem dX2_accountForAll_63 : decode cX2_accountForAll 63 = .ok (.ishl, 1) := by decide +kernel
theorem dX2_accountForAll_64 : decode cX2_accountForAll 64 = .ok (.iand, 1) := by decide +kernel
theorem dX2_accountForAll_65 : decode cX2_accountForAll 65 = .ok (.ifCond .eq 7, 3) := by decide +kernel
theorem dX2_accountForAll_68 : decode cX2_accountForAll 68 = .ok (.iconst 1, 1) := by decide +kernel
theorem dX2_accountForAll_69 : decode cX2_accountForAll 69 = .ok (.goto 4, 3) := by decide +kernel
theorem dX2_accountForAll_72 : decode cX2_accountForAll 72 = .ok (.iconst 0, 1) := by decide +kernel
theorem dX2_accountForAll_73 : decode cX2_accountForAll 73 = .ok (.istore 6, 2) := by decide +kernel
theorem dX2_accountForAll_75 : decode cX2_accountForAll 75 = .ok (.iload 5, 2) := by decide +kernel
theorem dX2_accountForAll_77 : decode cX2_accountForAll 77 = .ok (.iload 6, 2) := by decide +kernel
theorem dX2_accountForAll_79 : decode cX2_accountForAll 79 = .ok (.if_icmp .eq 21, 3) := by decide +kernel
theorem dX2_accountForAll_82 : decode cX2_accountForAll 82 = .ok (.iload 5, 2) := by decide +kernel
theorem dX2_accountForAll_84 : decode cX2_accountForAll 84 = .ok (.ifCond .ne 14, 3) := by decide +kernel
theorem dX2_accountForAll_87 : decode cX2_accountForAll 87 = .ok (.aload_n 0, 1) := by decide +kernel
theorem dX2_accountForAll_88 : decode cX2_accountForAll 88 = .ok (.aload_n 1, 1) := by decide +kernel
theorem dX2_accountForAll_89 : decode cX2_accountForAll 89 = .ok (.iload 4, 2) := by decide +kernel
theorem dX2_accountForAll_91 : decode cX2_accountForAll 91 = .ok (.iload_n 2, 1) := by decide +kernel
theorem dX2_accountForAll_92 : decode cX2_accountForAll 92 = .ok (.invokevirtual 106, 3) := by decide +kernel
theorem dX2_accountForAll_95 : decode cX2_accountForAll 95 = .ok (.ifCond .ne 5, 3) := by decide +kernel
theorem dX2_accountForAll_98 : decode cX2_accountForAll 98 = .ok (.iconst 0, 1) := by decide +kernel
theorem dX2_accountForAll_99 : decode cX2_accountForAll 99 = .ok (.ireturn, 1) := by decide +kernel
theorem dX2_accountForAll_100 : decode cX2_accountForAll 100 = .ok (.iinc 4 1, 3) := by decide +kernel
theorem dX2_accountForAll_103 : decode cX2_accountForAll 103 = .ok (.goto (-73), 3) := by decide +kernel
theorem dX2_accountForAll_106 : decode cX2_accountForAll 106 = .ok (.iinc 2 1, 3) := by decide +kernel
theorem dX2_accountForAll_109 : decode cX2_accountForAll 109 = .ok (.goto (-107), 3) := by decide +kernel
theorem dX2_accountForAll_112 : decode cX2_accountForAll 112 = .ok (.iconst 1, 1) := by decide +kernel
theorem dX2_accountForAll_113 : decode cX2_accountForAll 113 = .ok (.ireturn, 1) := by decide +kernel
set_option maxRecDepth 20000 in
theorem ggX2_isLeftOut_X8_fromOf : GoodIn wsX2_isLeftOut wsX8_fromOf := goodIn_ca (goodIn_r _ [6, 7, 8, 9, 10, 11, 12, 13, 14, 95, 96, 97, 98, 99, 100, 101, 102, 103, 104, 105, 106, 107] (by decide +kernel) (by decide +kernel)) (goodIn_sub (fun _ h => List.mem_cons_of_mem _ (List.mem_append_right _ h)) (by decide +kernel))
set_option maxRecDepth 20000 in
theorem gX2_isLeftOut_X8_fromOf : GoodIn wsX2_isLeftOut (wsV RX2 45 RX8 yX8_fromOf wsX8_fromOf) := goodIn_app (goodIn_of _ (by decide +kernel)) ggX2_isLeftOut_X8_fromOf
set_option maxRecDepth 20000 in
theorem ggX2_isLeftOut_X2_lengthAt : GoodIn wsX2_isLeftOut wsX2_lengthAt := goodIn_ca (goodIn_r _ [19, 1, 20, 21, 22, 23, 24, 25, 26, 27, 28, 29, 30, 31, 32, 33, 34, 35, 36, 37, 38, 39, 40, 41, 42, 43, 44, 45, 46, 47, 48, 49, 50, 51, 52, 53, 5, 54, 55, 8, 9, 10, 11, 12, 13, 14, 2, 3, 4, 6, 7, 89, 90, 91, 92, 93, 94, 108, 109, 110, 111, 112, 113, 114, 115, 116, 117, 118, 119, 95, 96, 97, 98, 99, 100, 101, 102, 103, 104, 105, 106, 107] (by decide +kernel) (by decide +kernel)) (goodIn_sub (fun _ h => List.mem_cons_of_mem _ (List.mem_append_right _ h)) (by decide +kernel))
set_option maxRecDepth 20000 in
theorem gX2_isLeftOut_X2_lengthAt : GoodIn wsX2_isLeftOut (wsV RX2 50 RX2 yX2_lengthAt wsX2_lengthAt) := goodIn_app (goodIn_of _ (by decide +kernel)) ggX2_isLeftOut_X2_lengthAt
set_option maxRecDepth 20000 in
theorem ggX2_isLeftOut_X1_ignores : GoodIn wsX2_isLeftOut wsX1_ignores := goodIn_ca (goodIn_r _ [60, 61, 62, 63, 64, 65, 66, 59, 67, 68, 69, 70, 11, 71, 13, 72, 9, 10, 12, 14, 120, 121, 122, 123, 124, 125, 106, 107] (by decide +kernel) (by decide +kernel)) (goodIn_sub (fun _ h => List.mem_cons_of_mem _ (List.mem_append_right _ h)) (by decide +kernel))
set_option maxRecDepth 20000 in
theorem gX2_isLeftOut_X1_ignores : GoodIn wsX2_isLeftOut (wsV RX2 88 RX1 yX1_ignores wsX1_ignores) := goodIn_app (goodIn_of _ (by decide +kernel)) ggX2_isLeftOut_X1_ignores
set_option maxRecDepth 20000 in
theorem ggX2_isLeftOut_X2_count : GoodIn wsX2_isLeftOut wsX2_count := goodIn_r _ [76, 77, 78, 69, 70, 11, 71, 13, 89, 90, 91, 92, 93, 94, 106, 107] (by decide +kernel) (by decide +kernel)
set_option maxRecDepth 20000 in
theorem gX2_isLeftOut_X2_count : GoodIn wsX2_isLeftOut (wsV RX2 101 RX2 yX2_count wsX2_count) := goodIn_app (goodIn_of _ (by decide +kernel)) ggX2_isLeftOut_X2_count
set_option maxRecDepth 20000 in
theorem ggX2_isLeftOut_X2_fromOf : GoodIn wsX2_isLeftOut wsX2_fromOf := goodIn_ca (goodIn_r _ [82, 1, 77, 83, 9, 10, 11, 12, 13, 14, 2, 3, 4, 5, 6, 7, 8, 89, 90, 91, 92, 93, 94, 106, 107, 95, 96, 97, 98, 99, 100, 101, 102, 103, 104, 105] (by decide +kernel) (by decide +kernel)) (goodIn_sub (fun _ h => List.mem_cons_of_mem _ (List.mem_append_right _ h)) (by decide +kernel))
set_option maxRecDepth 20000 in
theorem gX2_isLeftOut_X2_fromOf : GoodIn wsX2_isLeftOut (wsV RX2 102 RX2 yX2_fromOf wsX2_fromOf) := goodIn_app (goodIn_of _ (by decide +kernel)) ggX2_isLeftOut_X2_fromOf
set_option maxRecDepth 20000 in
theorem ggX2_isLeftOut_X2_lengthOf : GoodIn wsX2_isLeftOut wsX2_lengthOf := goodIn_ca (goodIn_r _ [87, 88, 77, 83, 9, 10, 11, 12, 13, 14, 15, 16, 17, 18, 19, 1, 20, 21, 22, 23, 24, 25, 26, 27, 28, 29, 30, 31, 32, 33, 34, 35, 36, 37, 38, 39, 40, 41, 42, 43, 44, 45, 46, 47, 48, 49, 50, 51, 52, 53, 5, 54, 55, 8, 2, 3, 4, 6, 7, 89, 90, 91, 92, 93, 94, 106, 107, 108, 109, 110, 111, 112, 113, 114, 115, 116, 117, 118, 119, 95, 96, 97, 98, 99, 100, 101, 102, 103, 104, 105] (by decide +kernel) (by decide +kernel)) (goodIn_sub (fun _ h => List.mem_cons_of_mem _ (List.mem_append_right _ h)) (by decide +kernel))
set_option maxRecDepth 20000 in
theorem gX2_isLeftOut_X2_lengthOf : GoodIn wsX2_isLeftOut (wsV RX2 103 RX2 yX2_lengthOf wsX2_lengthOf) := goodIn_app (goodIn_of _ (by decide +kernel)) ggX2_isLeftOut_X2_lengthOf
theorem dX2_isLeftOut_0 : decode cX2_isLeftOut 0 = .ok (.aload_n 0, 1) := by decide +kernel
theorem dX2_isLeftOut_1 : decode cX2_isLeftOut 1 = .ok (.getfield 15, 3) := by decide +kernel
theorem dX2_isLeftOut_4 : decode cX2_isLeftOut 4 = .ok (.iload_n 3, 1) := by decide +kernel
theorem dX2_isLeftOut_5 : decode cX2_isLeftOut 5 = .ok (.invokevirtual 45, 3) := by decide +kernel
theorem dX2_isLeftOut_8 : decode cX2_isLeftOut 8 = .ok (.istore 4, 2) := by decide +kernel
theorem dX2_isLeftOut_10 : decode cX2_isLeftOut 10 = .ok (.aload_n 0, 1) := by decide +kernel
theorem dX2_isLeftOut_11 : decode cX2_isLeftOut 11 = .ok (.iload_n 2, 1) := by decide +kernel
theorem dX2_isLeftOut_12 : decode cX2_isLeftOut 12 = .ok (.iload_n 3, 1) := by decide +kernel
theorem dX2_isLeftOut_13 : decode cX2_isLeftOut 13 = .ok (.invokevirtual 50, 3) := by decide +kernel
theorem dX2_isLeftOut_16 : decode cX2_isLeftOut 16 = .ok (.istore 5, 2) := by decide +kernel
theorem dX2_isLeftOut_18 : decode cX2_isLeftOut 18 = .ok (.aload_n 1, 1) := by decide +kernel
theorem dX2_isLeftOut_19 : decode cX2_isLeftOut 19 = .ok (.iload_n 2, 1) := by decide +kernel
theorem dX2_isLeftOut_20 : decode cX2_isLeftOut 20 = .ok (.iload 4, 2) := by decide +kernel
theorem dX2_isLeftOut_22 : decode cX2_isLeftOut 22 = .ok (.iload 5, 2) := by decide +kernel
theorem dX2_isLeftOut_24 : decode cX2_isLeftOut 24 = .ok (.invokevirtual 88, 3) := by decide +kernel
theorem dX2_isLeftOut_27 : decode cX2_isLeftOut 27 = .ok (.ifCond .eq 5, 3) := by decide +kernel
theorem dX2_isLeftOut_30 : decode cX2_isLeftOut 30 = .ok (.iconst 1, 1) := by decide +kernel
theorem dX2_isLeftOut_31 : decode cX2_isLeftOut 31 = .ok (.ireturn, 1) := by decide +kernel
theorem dX2_isLeftOut_32 : decode cX2_isLeftOut 32 = .ok (.iconst 0, 1) := by decide +kernel
theorem dX2_isLeftOut_33 : decode cX2_isLeftOut 33 = .ok (.istore 6, 2) := by decide +kernel
theorem dX2_isLeftOut_35 : decode cX2_isLeftOut 35 = .ok (.iload 6, 2) := by decide +kernel
theorem dX2_isLeftOut_37 : decode cX2_isLeftOut 37 = .ok (.aload_n 0, 1) := by decide +kernel
theorem dX2_isLeftOut_38 : decode cX2_isLeftOut 38 = .ok (.invokevirtual 101, 3) := by decide +kernel
theorem dX2_isLeftOut_41 : decode cX2_isLeftOut 41 = .ok (.if_icmp .ge 43, 3) := by decide +kernel
theorem dX2_isLeftOut_44 : decode cX2_isLeftOut 44 = .ok (.aload_n 0, 1) := by decide +kernel
theorem dX2_isLeftOut_45 : decode cX2_isLeftOut 45 = .ok (.iload 6, 2) := by decide +kernel
theorem dX2_isLeftOut_47 : decode cX2_isLeftOut 47 = .ok (.invokevirtual 102, 3) := by decide +kernel
theorem dX2_isLeftOut_50 : decode cX2_isLeftOut 50 = .ok (.iload 4, 2) := by decide +kernel
theorem dX2_isLeftOut_52 : decode cX2_isLeftOut 52 = .ok (.iload 5, 2) := by decide +kernel
theorem dX2_isLeftOut_54 : decode cX2_isLeftOut 54 = .ok (.iadd, 1) := by decide +kernel
theorem dX2_isLeftOut_55 : decode cX2_isLeftOut 55 = .ok (.if_icmp .ge 23, 3) := by decide +kernel
theorem dX2_isLeftOut_58 : decode cX2_isLeftOut 58 = .ok (.iload 4, 2) := by decide +kernel
theorem dX2_isLeftOut_60 : decode cX2_isLeftOut 60 = .ok (.aload_n 0, 1) := by decide +kernel
theorem dX2_isLeftOut_61 : decode cX2_isLeftOut 61 = .ok (.iload 6, 2) := by decide +kernel
theorem dX2_isLeftOut_63 : decode cX2_isLeftOut 63 = .ok (.invokevirtual 102, 3) := by decide +kernel
theorem dX2_isLeftOut_66 : decode cX2_isLeftOut 66 = .ok (.aload_n 0, 1) := by decide +kernel
theorem dX2_isLeftOut_67 : decode cX2_isLeftOut 67 = .ok (.iload 6, 2) := by decide +kernel
theorem dX2_isLeftOut_69 : decode cX2_isLeftOut 69 = .ok (.invokevirtual 103, 3) := by decide +kernel
theorem dX2_isLeftOut_72 : decode cX2_isLeftOut 72 = .ok (.iadd, 1) := by decide +kernel
theorem dX2_isLeftOut_73 : decode cX2_isLeftOut 73 = .ok (.if_icmp .ge 5, 3) := by decide +kernel
theorem dX2_isLeftOut_76 : decode cX2_isLeftOut 76 = .ok (.iconst 1, 1) := by decide +kernel
theorem dX2_isLeftOut_77 : decode cX2_isLeftOut 77 = .ok (.ireturn, 1) := by decide +kernel
theorem dX2_isLeftOut_78 : decode cX2_isLeftOut 78 = .ok (.iinc 6 1, 3) := by decide +kernel
theorem dX2_isLeftOut_81 : decode cX2_isLeftOut 81 = .ok (.goto (-46), 3) := by decide +kernel
theorem dX2_isLeftOut_84 : decode cX2_isLeftOut 84 = .ok (.iconst 0, 1) := by decide +kernel
theorem dX2_isLeftOut_85 : decode cX2_isLeftOut 85 = .ok (.ireturn, 1) := by decide +kernel
set_option maxRecDepth 20000 in
theorem ggX3_init_X5_get : GoodIn wsX3_init wsX5_get := goodIn_ca (goodIn_r _ [11, 12, 13, 33, 34] (by decide +kernel) (by decide +kernel)) (goodIn_sub (fun _ h => List.mem_cons_of_mem _ (List.mem_append_right _ h)) (by decide +kernel))
set_option maxRecDepth 20000 in
theorem gX3_init_X5_get : GoodIn wsX3_init (wsV RX3 7 RX5 yX5_get wsX5_get) := goodIn_app (goodIn_of _ (by decide +kernel)) ggX3_init_X5_get
set_option maxRecDepth 20000 in
theorem ggX3_init_X5_part : GoodIn wsX3_init wsX5_part := goodIn_ca (goodIn_r _ [17, 18, 19, 10, 20, 21, 22, 23, 2, 3, 24, 13, 12, 25, 8, 9, 11, 26, 27, 28, 29, 33, 34] (by decide +kernel) (by decide +kernel)) (goodIn_sub (fun _ h => List.mem_cons_of_mem _ (List.mem_append_right _ h)) (by decide +kernel))
set_option maxRecDepth 20000 in
theorem gX3_init_X5_part : GoodIn wsX3_init (wsV RX3 22 RX5 yX5_part wsX5_part) := goodIn_app (goodIn_of _ (by decide +kernel)) ggX3_init_X5_part
theorem dX3_init_0 : decode cX3_init 0 = .ok (.aload_n 0, 1) := by decide +kernel
theorem dX3_init_1 : decode cX3_init 1 = .ok (.invokespecial 1, 3) := by decide +kernel
theorem dX3_init_4 : decode cX3_init 4 = .ok (.aload_n 0, 1) := by decide +kernel
theorem dX3_init_5 : decode cX3_init 5 = .ok (.aload_n 1, 1) := by decide +kernel
theorem dX3_init_6 : decode cX3_init 6 = .ok (.iload_n 3, 1) := by decide +kernel
theorem dX3_init_7 : decode cX3_init 7 = .ok (.iconst 1, 1) := by decide +kernel
theorem dX3_init_8 : decode cX3_init 8 = .ok (.isub, 1) := by decide +kernel
theorem dX3_init_9 : decode cX3_init 9 = .ok (.invokevirtual 7, 3) := by decide +kernel
theorem dX3_init_12 : decode cX3_init 12 = .ok (.bipush 35, 2) := by decide +kernel
theorem dX3_init_14 : decode cX3_init 14 = .ok (.if_icmp .ne 7, 3) := by decide +kernel
theorem dX3_init_17 : decode cX3_init 17 = .ok (.iconst 1, 1) := by decide +kernel
theorem dX3_init_18 : decode cX3_init 18 = .ok (.goto 4, 3) := by decide +kernel
theorem dX3_init_21 : decode cX3_init 21 = .ok (.iconst 0, 1) := by decide +kernel
theorem dX3_init_22 : decode cX3_init 22 = .ok (.putfield 13, 3) := by decide +kernel
theorem dX3_init_25 : decode cX3_init 25 = .ok (.aload_n 0, 1) := by decide +kernel
theorem dX3_init_26 : decode cX3_init 26 = .ok (.aload_n 1, 1) := by decide +kernel
theorem dX3_init_27 : decode cX3_init 27 = .ok (.iload_n 3, 1) := by decide +kernel
theorem dX3_init_28 : decode cX3_init 28 = .ok (.iconst 1, 1) := by decide +kernel
theorem dX3_init_29 : decode cX3_init 29 = .ok (.isub, 1) := by decide +kernel
theorem dX3_init_30 : decode cX3_init 30 = .ok (.invokevirtual 7, 3) := by decide +kernel
theorem dX3_init_33 : decode cX3_init 33 = .ok (.bipush 42, 2) := by decide +kernel
theorem dX3_init_35 : decode cX3_init 35 = .ok (.if_icmp .ne 7, 3) := by decide +kernel
theorem dX3_init_38 : decode cX3_init 38 = .ok (.iconst 1, 1) := by decide +kernel
theorem dX3_init_39 : decode cX3_init 39 = .ok (.goto 4, 3) := by decide +kernel
theorem dX3_init_42 : decode cX3_init 42 = .ok (.iconst 0, 1) := by decide +kernel
theorem dX3_init_43 : decode cX3_init 43 = .ok (.putfield 19, 3) := by decide +kernel
theorem dX3_init_46 : decode cX3_init 46 = .ok (.aload_n 0, 1) := by decide +kernel
theorem dX3_init_47 : decode cX3_init 47 = .ok (.aload_n 1, 1) := by decide +kernel
theorem dX3_init_48 : decode cX3_init 48 = .ok (.iload_n 2, 1) := by decide +kernel
theorem dX3_init_49 : decode cX3_init 49 = .ok (.aload_n 0, 1) := by decide +kernel
theorem dX3_init_50 : decode cX3_init 50 = .ok (.getfield 13, 3) := by decide +kernel
theorem dX3_init_53 : decode cX3_init 53 = .ok (.ifCond .ne 10, 3) := by decide +kernel
theorem dX3_init_56 : decode cX3_init 56 = .ok (.aload_n 0, 1) := by decide +kernel
theorem dX3_init_57 : decode cX3_init 57 = .ok (.getfield 19, 3) := by decide +kernel
theorem dX3_init_60 : decode cX3_init 60 = .ok (.ifCond .eq 9, 3) := by decide +kernel
theorem dX3_init_63 : decode cX3_init 63 = .ok (.iload_n 3, 1) := by decide +kernel
theorem dX3_init_64 : decode cX3_init 64 = .ok (.iconst 1, 1) := by decide +kernel
theorem dX3_init_65 : decode cX3_init 65 = .ok (.isub, 1) := by decide +kernel
theorem dX3_init_66 : decode cX3_init 66 = .ok (.goto 4, 3) := by decide +kernel
theorem dX3_init_69 : decode cX3_init 69 = .ok (.iload_n 3, 1) := by decide +kernel
theorem dX3_init_70 : decode cX3_init 70 = .ok (.invokevirtual 22, 3) := by decide +kernel
theorem dX3_init_73 : decode cX3_init 73 = .ok (.putfield 26, 3) := by decide +kernel
theorem dX3_init_76 : decode cX3_init 76 = .ok (.return_, 1) := by decide +kernel
set_option maxRecDepth 20000 in
theorem ggX3_isItem_X5_get : GoodIn wsX3_isItem wsX5_get := goodIn_ca (goodIn_r _ [5, 6, 7, 15, 16] (by decide +kernel) (by decide +kernel)) (goodIn_sub (fun _ h => List.mem_cons_of_mem _ (List.mem_append_right _ h)) (by decide +kernel))
set_option maxRecDepth 20000 in
theorem gX3_isItem_X5_get : GoodIn wsX3_isItem (wsV RX3 7 RX5 yX5_get wsX5_get) := goodIn_app (goodIn_of _ (by decide +kernel)) ggX3_isItem_X5_get
set_option maxRecDepth 20000 in
theorem ggX3_isItem_X9_isWord : GoodIn wsX3_isItem wsX9_isWord := goodIn_ca (goodIn_r _ [10, 11, 2, 3, 4, 5, 6, 7, 12, 13, 9, 14, 15, 16] (by decide +kernel) (by decide +kernel)) (goodIn_sub (fun _ h => List.mem_cons_of_mem _ (List.mem_append_right _ h)) (by decide +kernel))
set_option maxRecDepth 20000 in
theorem gX3_isItem_X9_isWord_n30 : GoodIn wsX3_isItem (wsX9_isWord) := ggX3_isItem_X9_isWord
theorem dX3_isItem_0 : decode cX3_isItem 0 = .ok (.aload_n 0, 1) := by decide +kernel
theorem dX3_isItem_1 : decode cX3_isItem 1 = .ok (.iload_n 2, 1) := by decide +kernel
theorem dX3_isItem_2 : decode cX3_isItem 2 = .ok (.iconst 1, 1) := by decide +kernel
theorem dX3_isItem_3 : decode cX3_isItem 3 = .ok (.isub, 1) := by decide +kernel
theorem dX3_isItem_4 : decode cX3_isItem 4 = .ok (.invokevirtual 7, 3) := by decide +kernel
theorem dX3_isItem_7 : decode cX3_isItem 7 = .ok (.istore_n 3, 1) := by decide +kernel
theorem dX3_isItem_8 : decode cX3_isItem 8 = .ok (.iload_n 2, 1) := by decide +kernel
theorem dX3_isItem_9 : decode cX3_isItem 9 = .ok (.iload_n 1, 1) := by decide +kernel
theorem dX3_isItem_10 : decode cX3_isItem 10 = .ok (.isub, 1) := by decide +kernel
theorem dX3_isItem_11 : decode cX3_isItem 11 = .ok (.iconst 1, 1) := by decide +kernel
theorem dX3_isItem_12 : decode cX3_isItem 12 = .ok (.if_icmp .ne 11, 3) := by decide +kernel
theorem dX3_isItem_15 : decode cX3_isItem 15 = .ok (.iload_n 3, 1) := by decide +kernel
theorem dX3_isItem_16 : decode cX3_isItem 16 = .ok (.bipush 35, 2) := by decide +kernel
theorem dX3_isItem_18 : decode cX3_isItem 18 = .ok (.if_icmp .ne 5, 3) := by decide +kernel
theorem dX3_isItem_21 : decode cX3_isItem 21 = .ok (.iconst 1, 1) := by decide +kernel
theorem dX3_isItem_22 : decode cX3_isItem 22 = .ok (.ireturn, 1) := by decide +kernel
theorem dX3_isItem_23 : decode cX3_isItem 23 = .ok (.iload_n 2, 1) := by decide +kernel
theorem dX3_isItem_24 : decode cX3_isItem 24 = .ok (.iload_n 1, 1) := by decide +kernel
theorem dX3_isItem_25 : decode cX3_isItem 25 = .ok (.if_icmp .le 33, 3) := by decide +kernel
theorem dX3_isItem_28 : decode cX3_isItem 28 = .ok (.iload_n 3, 1) := by decide +kernel
theorem dX3_isItem_29 : decode cX3_isItem 29 = .ok (.bipush 42, 2) := by decide +kernel
theorem dX3_isItem_31 : decode cX3_isItem 31 = .ok (.if_icmp .ne 27, 3) := by decide +kernel
theorem dX3_isItem_34 : decode cX3_isItem 34 = .ok (.iload_n 2, 1) := by decide +kernel
theorem dX3_isItem_35 : decode cX3_isItem 35 = .ok (.iload_n 1, 1) := by decide +kernel
theorem dX3_isItem_36 : decode cX3_isItem 36 = .ok (.isub, 1) := by decide +kernel
theorem dX3_isItem_37 : decode cX3_isItem 37 = .ok (.iconst 1, 1) := by decide +kernel
theorem dX3_isItem_38 : decode cX3_isItem 38 = .ok (.if_icmp .eq 14, 3) := by decide +kernel
theorem dX3_isItem_41 : decode cX3_isItem 41 = .ok (.aload_n 0, 1) := by decide +kernel
theorem dX3_isItem_42 : decode cX3_isItem 42 = .ok (.iload_n 1, 1) := by decide +kernel
theorem dX3_isItem_43 : decode cX3_isItem 43 = .ok (.iload_n 2, 1) := by decide +kernel
theorem dX3_isItem_44 : decode cX3_isItem 44 = .ok (.iconst 1, 1) := by decide +kernel
theorem dX3_isItem_45 : decode cX3_isItem 45 = .ok (.isub, 1) := by decide +kernel
theorem dX3_isItem_46 : decode cX3_isItem 46 = .ok (.invokestatic 30, 3) := by decide +kernel
theorem dX3_isItem_49 : decode cX3_isItem 49 = .ok (.ifCond .eq 7, 3) := by decide +kernel
theorem dX3_isItem_52 : decode cX3_isItem 52 = .ok (.iconst 1, 1) := by decide +kernel
theorem dX3_isItem_53 : decode cX3_isItem 53 = .ok (.goto 4, 3) := by decide +kernel
theorem dX3_isItem_56 : decode cX3_isItem 56 = .ok (.iconst 0, 1) := by decide +kernel
theorem dX3_isItem_57 : decode cX3_isItem 57 = .ok (.ireturn, 1) := by decide +kernel
theorem dX3_isItem_58 : decode cX3_isItem 58 = .ok (.aload_n 0, 1) := by decide +kernel
theorem dX3_isItem_59 : decode cX3_isItem 59 = .ok (.iload_n 1, 1) := by decide +kernel
theorem dX3_isItem_60 : decode cX3_isItem 60 = .ok (.iload_n 2, 1) := by decide +kernel
theorem dX3_isItem_61 : decode cX3_isItem 61 = .ok (.invokestatic 30, 3) := by decide +kernel
theorem dX3_isItem_64 : decode cX3_isItem 64 = .ok (.ireturn, 1) := by decide +kernel
set_option maxRecDepth 20000 in
theorem ggX3_fits_X8_isNumber : GoodIn wsX3_fits wsX8_isNumber := goodIn_ca (goodIn_r _ [8, 9, 10, 11, 12, 13, 14, 15, 16, 40, 41, 42, 43, 44, 45, 46, 47, 48, 49, 50, 51, 52] (by decide +kernel) (by decide +kernel)) (goodIn_sub (fun _ h => List.mem_cons_of_mem _ (List.mem_append_right _ h)) (by decide +kernel))
set_option maxRecDepth 20000 in
theorem gX3_fits_X8_isNumber : GoodIn wsX3_fits (wsV RX3 36 RX8 yX8_isNumber wsX8_isNumber) := goodIn_app (goodIn_of _ (by decide +kernel)) ggX3_fits_X8_isNumber
set_option maxRecDepth 20000 in
theorem ggX3_fits_X8_isWord : GoodIn wsX3_fits wsX8_isWord := goodIn_ca (goodIn_r _ [20, 9, 10, 11, 12, 13, 14, 15, 16, 40, 41, 42, 43, 44, 45, 46, 47, 48, 49, 50, 51, 52] (by decide +kernel) (by decide +kernel)) (goodIn_sub (fun _ h => List.mem_cons_of_mem _ (List.mem_append_right _ h)) (by decide +kernel))
set_option maxRecDepth 20000 in
theorem gX3_fits_X8_isWord : GoodIn wsX3_fits (wsV RX3 41 RX8 yX8_isWord wsX8_isWord) := goodIn_app (goodIn_of _ (by decide +kernel)) ggX3_fits_X8_isWord
set_option maxRecDepth 20000 in
theorem ggX3_fits_X8_begins : GoodIn wsX3_fits wsX8_begins := goodIn_ca (goodIn_r _ [24, 25, 26, 27, 10, 11, 12, 13, 14, 15, 16, 28, 29, 30, 31, 40, 41, 42, 43, 44, 45, 46, 47, 48, 49, 50, 51, 52] (by decide +kernel) (by decide +kernel)) (goodIn_sub (fun _ h => List.mem_cons_of_mem _ (List.mem_append_right _ h)) (by decide +kernel))
set_option maxRecDepth 20000 in
theorem gX3_fits_X8_begins : GoodIn wsX3_fits (wsV RX3 43 RX8 yX8_begins wsX8_begins) := goodIn_app (goodIn_of _ (by decide +kernel)) ggX3_fits_X8_begins
set_option maxRecDepth 20000 in
theorem ggX3_fits_X8_lengthOf : GoodIn wsX3_fits wsX8_lengthOf := goodIn_ca (goodIn_r _ [35, 26, 25, 10, 11, 12, 13, 14, 15, 16, 40, 41, 42, 43, 44, 45, 46, 47, 48, 49, 50, 51, 52] (by decide +kernel) (by decide +kernel)) (goodIn_sub (fun _ h => List.mem_cons_of_mem _ (List.mem_append_right _ h)) (by decide +kernel))
set_option maxRecDepth 20000 in
theorem gX3_fits_X8_lengthOf : GoodIn wsX3_fits (wsV RX3 47 RX8 yX8_lengthOf wsX8_lengthOf) := goodIn_app (goodIn_of _ (by decide +kernel)) ggX3_fits_X8_lengthOf
set_option maxRecDepth 20000 in
theorem ggX3_fits_X5_count : GoodIn wsX3_fits wsX5_count := goodIn_r _ [31, 15, 51, 52] (by decide +kernel) (by decide +kernel)
set_option maxRecDepth 20000 in
theorem gX3_fits_X5_count : GoodIn wsX3_fits (wsV RX3 50 RX5 yX5_count wsX5_count) := goodIn_app (goodIn_of _ (by decide +kernel)) ggX3_fits_X5_count
theorem dX3_fits_0 : decode cX3_fits 0 = .ok (.aload_n 0, 1) := by decide +kernel
theorem dX3_fits_1 : decode cX3_fits 1 = .ok (.getfield 13, 3) := by decide +kernel
theorem dX3_fits_4 : decode cX3_fits 4 = .ok (.ifCond .eq 9, 3) := by decide +kernel
theorem dX3_fits_7 : decode cX3_fits 7 = .ok (.aload_n 1, 1) := by decide +kernel
theorem dX3_fits_8 : decode cX3_fits 8 = .ok (.iload_n 2, 1) := by decide +kernel
theorem dX3_fits_9 : decode cX3_fits 9 = .ok (.invokevirtual 36, 3) := by decide +kernel
theorem dX3_fits_12 : decode cX3_fits 12 = .ok (.ireturn, 1) := by decide +kernel
theorem dX3_fits_13 : decode cX3_fits 13 = .ok (.aload_n 1, 1) := by decide +kernel
theorem dX3_fits_14 : decode cX3_fits 14 = .ok (.iload_n 2, 1) := by decide +kernel
theorem dX3_fits_15 : decode cX3_fits 15 = .ok (.invokevirtual 41, 3) := by decide +kernel
theorem dX3_fits_18 : decode cX3_fits 18 = .ok (.ifCond .eq 41, 3) := by decide +kernel
theorem dX3_fits_21 : decode cX3_fits 21 = .ok (.aload_n 1, 1) := by decide +kernel
theorem dX3_fits_22 : decode cX3_fits 22 = .ok (.iload_n 2, 1) := by decide +kernel
theorem dX3_fits_23 : decode cX3_fits 23 = .ok (.aload_n 0, 1) := by decide +kernel
theorem dX3_fits_24 : decode cX3_fits 24 = .ok (.getfield 26, 3) := by decide +kernel
theorem dX3_fits_27 : decode cX3_fits 27 = .ok (.invokevirtual 43, 3) := by decide +kernel
theorem dX3_fits_30 : decode cX3_fits 30 = .ok (.ifCond .eq 29, 3) := by decide +kernel
theorem dX3_fits_33 : decode cX3_fits 33 = .ok (.aload_n 0, 1) := by decide +kernel
theorem dX3_fits_34 : decode cX3_fits 34 = .ok (.getfield 19, 3) := by decide +kernel
theorem dX3_fits_37 : decode cX3_fits 37 = .ok (.ifCond .ne 18, 3) := by decide +kernel
theorem dX3_fits_40 : decode cX3_fits 40 = .ok (.aload_n 1, 1) := by decide +kernel
theorem dX3_fits_41 : decode cX3_fits 41 = .ok (.iload_n 2, 1) := by decide +kernel
theorem dX3_fits_42 : decode cX3_fits 42 = .ok (.invokevirtual 47, 3) := by decide +kernel
theorem dX3_fits_45 : decode cX3_fits 45 = .ok (.aload_n 0, 1) := by decide +kernel
theorem dX3_fits_46 : decode cX3_fits 46 = .ok (.getfield 26, 3) := by decide +kernel
theorem dX3_fits_49 : decode cX3_fits 49 = .ok (.invokevirtual 50, 3) := by decide +kernel
theorem dX3_fits_52 : decode cX3_fits 52 = .ok (.if_icmp .ne 7, 3) := by decide +kernel
theorem dX3_fits_55 : decode cX3_fits 55 = .ok (.iconst 1, 1) := by decide +kernel
theorem dX3_fits_56 : decode cX3_fits 56 = .ok (.goto 4, 3) := by decide +kernel
theorem dX3_fits_59 : decode cX3_fits 59 = .ok (.iconst 0, 1) := by decide +kernel
theorem dX3_fits_60 : decode cX3_fits 60 = .ok (.ireturn, 1) := by decide +kernel
theorem dX4_init_0 : decode cX4_init 0 = .ok (.aload_n 0, 1) := by decide +kernel
theorem dX4_init_1 : decode cX4_init 1 = .ok (.invokespecial 1, 3) := by decide +kernel
theorem dX4_init_4 : decode cX4_init 4 = .ok (.aload_n 0, 1) := by decide +kernel
theorem dX4_init_5 : decode cX4_init 5 = .ok (.aload_n 1, 1) := by decide +kernel
theorem dX4_init_6 : decode cX4_init 6 = .ok (.putfield 7, 3) := by decide +kernel
theorem dX4_init_9 : decode cX4_init 9 = .ok (.aload_n 0, 1) := by decide +kernel
theorem dX4_init_10 : decode cX4_init 10 = .ok (.aload_n 2, 1) := by decide +kernel
theorem dX4_init_11 : decode cX4_init 11 = .ok (.putfield 13, 3) := by decide +kernel
theorem dX4_init_14 : decode cX4_init 14 = .ok (.return_, 1) := by decide +kernel
set_option maxRecDepth 20000 in
theorem ggX4_unlike_X8_isThe : GoodIn wsX4_unlike wsX8_isThe := goodIn_ca (goodIn_r _ [7, 8, 9, 10, 6, 11, 12, 13, 14, 15, 16, 17, 18, 19, 20, 21, 22, 23, 24, 25, 26, 27, 28, 29, 30, 31, 32, 33, 36, 37, 38, 39, 40, 41, 42, 43, 44, 45, 46, 47, 48] (by decide +kernel) (by decide +kernel)) (goodIn_sub (fun _ h => List.mem_cons_of_mem _ (List.mem_append_right _ h)) (by decide +kernel))
set_option maxRecDepth 20000 in
theorem gX4_unlike_X8_isThe : GoodIn wsX4_unlike (wsV RX4 16 RX8 yX8_isThe wsX8_isThe) := goodIn_app (goodIn_of _ (by decide +kernel)) ggX4_unlike_X8_isThe
theorem dX4_unlike_0 : decode cX4_unlike 0 = .ok (.aload_n 1, 1) := by decide +kernel
theorem dX4_unlike_1 : decode cX4_unlike 1 = .ok (.aload_n 0, 1) := by decide +kernel
theorem dX4_unlike_2 : decode cX4_unlike 2 = .ok (.getfield 7, 3) := by decide +kernel
theorem dX4_unlike_5 : decode cX4_unlike 5 = .ok (.iload_n 2, 1) := by decide +kernel
theorem dX4_unlike_6 : decode cX4_unlike 6 = .ok (.invokevirtual 16, 3) := by decide +kernel
theorem dX4_unlike_9 : decode cX4_unlike 9 = .ok (.ifCond .eq 10, 3) := by decide +kernel
theorem dX4_unlike_12 : decode cX4_unlike 12 = .ok (.aload_n 0, 1) := by decide +kernel
theorem dX4_unlike_13 : decode cX4_unlike 13 = .ok (.getfield 13, 3) := by decide +kernel
theorem dX4_unlike_16 : decode cX4_unlike 16 = .ok (.goto 7, 3) := by decide +kernel
theorem dX4_unlike_19 : decode cX4_unlike 19 = .ok (.aload_n 0, 1) := by decide +kernel
theorem dX4_unlike_20 : decode cX4_unlike 20 = .ok (.getfield 7, 3) := by decide +kernel
theorem dX4_unlike_23 : decode cX4_unlike 23 = .ok (.areturn, 1) := by decide +kernel
theorem dX5_init_0 : decode cX5_init 0 = .ok (.aload_n 0, 1) := by decide +kernel
theorem dX5_init_1 : decode cX5_init 1 = .ok (.invokespecial 1, 3) := by decide +kernel
theorem dX5_init_4 : decode cX5_init 4 = .ok (.aload_n 0, 1) := by decide +kernel
theorem dX5_init_5 : decode cX5_init 5 = .ok (.iload_n 1, 1) := by decide +kernel
theorem dX5_init_6 : decode cX5_init 6 = .ok (.ifCond .le 7, 3) := by decide +kernel
theorem dX5_init_9 : decode cX5_init 9 = .ok (.iload_n 1, 1) := by decide +kernel
theorem dX5_init_10 : decode cX5_init 10 = .ok (.goto 4, 3) := by decide +kernel
theorem dX5_init_13 : decode cX5_init 13 = .ok (.iconst 0, 1) := by decide +kernel
theorem dX5_init_14 : decode cX5_init 14 = .ok (.newarray .int, 2) := by decide +kernel
theorem dX5_init_16 : decode cX5_init 16 = .ok (.putfield 7, 3) := by decide +kernel
theorem dX5_init_19 : decode cX5_init 19 = .ok (.aload_n 0, 1) := by decide +kernel
theorem dX5_init_20 : decode cX5_init 20 = .ok (.iconst 0, 1) := by decide +kernel
theorem dX5_init_21 : decode cX5_init 21 = .ok (.putfield 13, 3) := by decide +kernel
theorem dX5_init_24 : decode cX5_init 24 = .ok (.return_, 1) := by decide +kernel
theorem dX5_count_0 : decode cX5_count 0 = .ok (.aload_n 0, 1) := by decide +kernel
theorem dX5_count_1 : decode cX5_count 1 = .ok (.getfield 13, 3) := by decide +kernel
theorem dX5_count_4 : decode cX5_count 4 = .ok (.ireturn, 1) := by decide +kernel
theorem dX5_get_0 : decode cX5_get 0 = .ok (.iload_n 1, 1) := by decide +kernel
theorem dX5_get_1 : decode cX5_get 1 = .ok (.ifCond .lt 29, 3) := by decide +kernel
theorem dX5_get_4 : decode cX5_get 4 = .ok (.iload_n 1, 1) := by decide +kernel
theorem dX5_get_5 : decode cX5_get 5 = .ok (.aload_n 0, 1) := by decide +kernel
theorem dX5_get_6 : decode cX5_get 6 = .ok (.getfield 13, 3) := by decide +kernel
theorem dX5_get_9 : decode cX5_get 9 = .ok (.if_icmp .ge 21, 3) := by decide +kernel
theorem dX5_get_12 : decode cX5_get 12 = .ok (.iload_n 1, 1) := by decide +kernel
theorem dX5_get_13 : decode cX5_get 13 = .ok (.aload_n 0, 1) := by decide +kernel
theorem dX5_get_14 : decode cX5_get 14 = .ok (.getfield 7, 3) := by decide +kernel
theorem dX5_get_17 : decode cX5_get 17 = .ok (.arraylength, 1) := by decide +kernel
theorem dX5_get_18 : decode cX5_get 18 = .ok (.if_icmp .ge 12, 3) := by decide +kernel
theorem dX5_get_21 : decode cX5_get 21 = .ok (.aload_n 0, 1) := by decide +kernel
theorem dX5_get_22 : decode cX5_get 22 = .ok (.getfield 7, 3) := by decide +kernel
theorem dX5_get_25 : decode cX5_get 25 = .ok (.iload_n 1, 1) := by decide +kernel
theorem dX5_get_26 : decode cX5_get 26 = .ok (.iaload, 1) := by decide +kernel
theorem dX5_get_27 : decode cX5_get 27 = .ok (.goto 4, 3) := by decide +kernel
theorem dX5_get_30 : decode cX5_get 30 = .ok (.iconst 0, 1) := by decide +kernel
theorem dX5_get_31 : decode cX5_get 31 = .ok (.ireturn, 1) := by decide +kernel
theorem dX5_set_0 : decode cX5_set 0 = .ok (.iload_n 1, 1) := by decide +kernel
theorem dX5_set_1 : decode cX5_set 1 = .ok (.ifCond .lt 27, 3) := by decide +kernel
theorem dX5_set_4 : decode cX5_set 4 = .ok (.iload_n 1, 1) := by decide +kernel
theorem dX5_set_5 : decode cX5_set 5 = .ok (.aload_n 0, 1) := by decide +kernel
theorem dX5_set_6 : decode cX5_set 6 = .ok (.getfield 13, 3) := by decide +kernel
theorem dX5_set_9 : decode cX5_set 9 = .ok (.if_icmp .ge 19, 3) := by decide +kernel
theorem dX5_set_12 : decode cX5_set 12 = .ok (.iload_n 1, 1) := by decide +kernel
theorem dX5_set_13 : decode cX5_set 13 = .ok (.aload_n 0, 1) := by decide +kernel
theorem dX5_set_14 : decode cX5_set 14 = .ok (.getfield 7, 3) := by decide +kernel
theorem dX5_set_17 : decode cX5_set 17 = .ok (.arraylength, 1) := by decide +kernel
theorem dX5_set_18 : decode cX5_set 18 = .ok (.if_icmp .ge 10, 3) := by decide +kernel
theorem dX5_set_21 : decode cX5_set 21 = .ok (.aload_n 0, 1) := by decide +kernel
theorem dX5_set_22 : decode cX5_set 22 = .ok (.getfield 7, 3) := by decide +kernel
theorem dX5_set_25 : decode cX5_set 25 = .ok (.iload_n 1, 1) := by decide +kernel
theorem dX5_set_26 : decode cX5_set 26 = .ok (.iload_n 2, 1) := by decide +kernel
theorem dX5_set_27 : decode cX5_set 27 = .ok (.iastore, 1) := by decide +kernel
theorem dX5_set_28 : decode cX5_set 28 = .ok (.return_, 1) := by decide +kernel
theorem dX5_add_0 : decode cX5_add 0 = .ok (.aload_n 0, 1) := by decide +kernel
theorem dX5_add_1 : decode cX5_add 1 = .ok (.getfield 13, 3) := by decide +kernel
theorem dX5_add_4 : decode cX5_add 4 = .ok (.ifCond .lt 35, 3) := by decide +kernel
theorem dX5_add_7 : decode cX5_add 7 = .ok (.aload_n 0, 1) := by decide +kernel
theorem dX5_add_8 : decode cX5_add 8 = .ok (.getfield 13, 3) := by decide +kernel
theorem dX5_add_11 : decode cX5_add 11 = .ok (.aload_n 0, 1) := by decide +kernel
theorem dX5_add_12 : decode cX5_add 12 = .ok (.getfield 7, 3) := by decide +kernel
theorem dX5_add_15 : decode cX5_add 15 = .ok (.arraylength, 1) := by decide +kernel
theorem dX5_add_16 : decode cX5_add 16 = .ok (.if_icmp .ge 23, 3) := by decide +kernel
theorem dX5_add_19 : decode cX5_add 19 = .ok (.aload_n 0, 1) := by decide +kernel
theorem dX5_add_20 : decode cX5_add 20 = .ok (.getfield 7, 3) := by decide +kernel
theorem dX5_add_23 : decode cX5_add 23 = .ok (.aload_n 0, 1) := by decide +kernel
theorem dX5_add_24 : decode cX5_add 24 = .ok (.getfield 13, 3) := by decide +kernel
theorem dX5_add_27 : decode cX5_add 27 = .ok (.iload_n 1, 1) := by decide +kernel
theorem dX5_add_28 : decode cX5_add 28 = .ok (.iastore, 1) := by decide +kernel
theorem dX5_add_29 : decode cX5_add 29 = .ok (.aload_n 0, 1) := by decide +kernel
theorem dX5_add_30 : decode cX5_add 30 = .ok (.dup, 1) := by decide +kernel
theorem dX5_add_31 : decode cX5_add 31 = .ok (.getfield 13, 3) := by decide +kernel
theorem dX5_add_34 : decode cX5_add 34 = .ok (.iconst 1, 1) := by decide +kernel
theorem dX5_add_35 : decode cX5_add 35 = .ok (.iadd, 1) := by decide +kernel
theorem dX5_add_36 : decode cX5_add 36 = .ok (.putfield 13, 3) := by decide +kernel
theorem dX5_add_39 : decode cX5_add 39 = .ok (.return_, 1) := by decide +kernel
theorem dX5_insert_0 : decode cX5_insert 0 = .ok (.iload_n 1, 1) := by decide +kernel
theorem dX5_insert_1 : decode cX5_insert 1 = .ok (.ifCond .lt 23, 3) := by decide +kernel
theorem dX5_insert_4 : decode cX5_insert 4 = .ok (.iload_n 1, 1) := by decide +kernel
theorem dX5_insert_5 : decode cX5_insert 5 = .ok (.aload_n 0, 1) := by decide +kernel
theorem dX5_insert_6 : decode cX5_insert 6 = .ok (.getfield 13, 3) := by decide +kernel
theorem dX5_insert_9 : decode cX5_insert 9 = .ok (.if_icmp .gt 15, 3) := by decide +kernel
theorem dX5_insert_12 : decode cX5_insert 12 = .ok (.aload_n 0, 1) := by decide +kernel
theorem dX5_insert_13 : decode cX5_insert 13 = .ok (.getfield 13, 3) := by decide +kernel
theorem dX5_insert_16 : decode cX5_insert 16 = .ok (.aload_n 0, 1) := by decide +kernel
theorem dX5_insert_17 : decode cX5_insert 17 = .ok (.getfield 7, 3) := by decide +kernel
theorem dX5_insert_20 : decode cX5_insert 20 = .ok (.arraylength, 1) := by decide +kernel
theorem dX5_insert_21 : decode cX5_insert 21 = .ok (.if_icmp .lt 4, 3) := by decide +kernel
theorem dX5_insert_24 : decode cX5_insert 24 = .ok (.return_, 1) := by decide +kernel
theorem dX5_insert_25 : decode cX5_insert 25 = .ok (.aload_n 0, 1) := by decide +kernel
theorem dX5_insert_26 : decode cX5_insert 26 = .ok (.getfield 13, 3) := by decide +kernel
theorem dX5_insert_29 : decode cX5_insert 29 = .ok (.istore_n 3, 1) := by decide +kernel
theorem dX5_insert_30 : decode cX5_insert 30 = .ok (.iload_n 3, 1) := by decide +kernel
theorem dX5_insert_31 : decode cX5_insert 31 = .ok (.iload_n 1, 1) := by decide +kernel
theorem dX5_insert_32 : decode cX5_insert 32 = .ok (.if_icmp .le 23, 3) := by decide +kernel
theorem dX5_insert_35 : decode cX5_insert 35 = .ok (.aload_n 0, 1) := by decide +kernel
theorem dX5_insert_36 : decode cX5_insert 36 = .ok (.getfield 7, 3) := by decide +kernel
theorem dX5_insert_39 : decode cX5_insert 39 = .ok (.iload_n 3, 1) := by decide +kernel
theorem dX5_insert_40 : decode cX5_insert 40 = .ok (.aload_n 0, 1) := by decide +kernel
theorem dX5_insert_41 : decode cX5_insert 41 = .ok (.getfield 7, 3) := by decide +kernel
theorem dX5_insert_44 : decode cX5_insert 44 = .ok (.iload_n 3, 1) := by decide +kernel
theorem dX5_insert_45 : decode cX5_insert 45 = .ok (.iconst 1, 1) := by decide +kernel
theorem dX5_insert_46 : decode cX5_insert 46 = .ok (.isub, 1) := by decide +kernel
theorem dX5_insert_47 : decode cX5_insert 47 = .ok (.iaload, 1) := by decide +kernel
theorem dX5_insert_48 : decode cX5_insert 48 = .ok (.iastore, 1) := by decide +kernel
theorem dX5_insert_49 : decode cX5_insert 49 = .ok (.iinc 3 (-1), 3) := by decide +kernel
theorem dX5_insert_52 : decode cX5_insert 52 = .ok (.goto (-22), 3) := by decide +kernel
theorem dX5_insert_55 : decode cX5_insert 55 = .ok (.aload_n 0, 1) := by decide +kernel
theorem dX5_insert_56 : decode cX5_insert 56 = .ok (.getfield 7, 3) := by decide +kernel
theorem dX5_insert_59 : decode cX5_insert 59 = .ok (.iload_n 1, 1) := by decide +kernel
theorem dX5_insert_60 : decode cX5_insert 60 = .ok (.iload_n 2, 1) := by decide +kernel
theorem dX5_insert_61 : decode cX5_insert 61 = .ok (.iastore, 1) := by decide +kernel
theorem dX5_insert_62 : decode cX5_insert 62 = .ok (.aload_n 0, 1) := by decide +kernel
theorem dX5_insert_63 : decode cX5_insert 63 = .ok (.dup, 1) := by decide +kernel
theorem dX5_insert_64 : decode cX5_insert 64 = .ok (.getfield 13, 3) := by decide +kernel
theorem dX5_insert_67 : decode cX5_insert 67 = .ok (.iconst 1, 1) := by decide +kernel
theorem dX5_insert_68 : decode cX5_insert 68 = .ok (.iadd, 1) := by decide +kernel
theorem dX5_insert_69 : decode cX5_insert 69 = .ok (.putfield 13, 3) := by decide +kernel
theorem dX5_insert_72 : decode cX5_insert 72 = .ok (.return_, 1) := by decide +kernel
theorem dX5_remove_0 : decode cX5_remove 0 = .ok (.iload_n 1, 1) := by decide +kernel
theorem dX5_remove_1 : decode cX5_remove 1 = .ok (.ifCond .lt 23, 3) := by decide +kernel
theorem dX5_remove_4 : decode cX5_remove 4 = .ok (.iload_n 1, 1) := by decide +kernel
theorem dX5_remove_5 : decode cX5_remove 5 = .ok (.aload_n 0, 1) := by decide +kernel
theorem dX5_remove_6 : decode cX5_remove 6 = .ok (.getfield 13, 3) := by decide +kernel
theorem dX5_remove_9 : decode cX5_remove 9 = .ok (.if_icmp .ge 15, 3) := by decide +kernel
theorem dX5_remove_12 : decode cX5_remove 12 = .ok (.aload_n 0, 1) := by decide +kernel
theorem dX5_remove_13 : decode cX5_remove 13 = .ok (.getfield 13, 3) := by decide +kernel
theorem dX5_remove_16 : decode cX5_remove 16 = .ok (.aload_n 0, 1) := by decide +kernel
theorem dX5_remove_17 : decode cX5_remove 17 = .ok (.getfield 7, 3) := by decide +kernel
theorem dX5_remove_20 : decode cX5_remove 20 = .ok (.arraylength, 1) := by decide +kernel
theorem dX5_remove_21 : decode cX5_remove 21 = .ok (.if_icmp .le 5, 3) := by decide +kernel
theorem dX5_remove_24 : decode cX5_remove 24 = .ok (.iconst 0, 1) := by decide +kernel
theorem dX5_remove_25 : decode cX5_remove 25 = .ok (.ireturn, 1) := by decide +kernel
theorem dX5_remove_26 : decode cX5_remove 26 = .ok (.aload_n 0, 1) := by decide +kernel
theorem dX5_remove_27 : decode cX5_remove 27 = .ok (.getfield 7, 3) := by decide +kernel
theorem dX5_remove_30 : decode cX5_remove 30 = .ok (.iload_n 1, 1) := by decide +kernel
theorem dX5_remove_31 : decode cX5_remove 31 = .ok (.iaload, 1) := by decide +kernel
theorem dX5_remove_32 : decode cX5_remove 32 = .ok (.istore_n 2, 1) := by decide +kernel
theorem dX5_remove_33 : decode cX5_remove 33 = .ok (.iload_n 1, 1) := by decide +kernel
theorem dX5_remove_34 : decode cX5_remove 34 = .ok (.iconst 1, 1) := by decide +kernel
theorem dX5_remove_35 : decode cX5_remove 35 = .ok (.iadd, 1) := by decide +kernel
theorem dX5_remove_36 : decode cX5_remove 36 = .ok (.istore_n 3, 1) := by decide +kernel
theorem dX5_remove_37 : decode cX5_remove 37 = .ok (.iload_n 3, 1) := by decide +kernel
theorem dX5_remove_38 : decode cX5_remove 38 = .ok (.aload_n 0, 1) := by decide +kernel
theorem dX5_remove_39 : decode cX5_remove 39 = .ok (.getfield 13, 3) := by decide +kernel
theorem dX5_remove_42 : decode cX5_remove 42 = .ok (.if_icmp .ge 23, 3) := by decide +kernel
theorem dX5_remove_45 : decode cX5_remove 45 = .ok (.aload_n 0, 1) := by decide +kernel
theorem dX5_remove_46 : decode cX5_remove 46 = .ok (.getfield 7, 3) := by decide +kernel
theorem dX5_remove_49 : decode cX5_remove 49 = .ok (.iload_n 3, 1) := by decide +kernel
theorem dX5_remove_50 : decode cX5_remove 50 = .ok (.iconst 1, 1) := by decide +kernel
theorem dX5_remove_51 : decode cX5_remove 51 = .ok (.isub, 1) := by decide +kernel
theorem dX5_remove_52 : decode cX5_remove 52 = .ok (.aload_n 0, 1) := by decide +kernel
theorem dX5_remove_53 : decode cX5_remove 53 = .ok (.getfield 7, 3) := by decide +kernel
theorem dX5_remove_56 : decode cX5_remove 56 = .ok (.iload_n 3, 1) := by decide +kernel
theorem dX5_remove_57 : decode cX5_remove 57 = .ok (.iaload, 1) := by decide +kernel
theorem dX5_remove_58 : decode cX5_remove 58 = .ok (.iastore, 1) := by decide +kernel
theorem dX5_remove_59 : decode cX5_remove 59 = .ok (.iinc 3 1, 3) := by decide +kernel
theorem dX5_remove_62 : decode cX5_remove 62 = .ok (.goto (-25), 3) := by decide +kernel
theorem dX5_remove_65 : decode cX5_remove 65 = .ok (.aload_n 0, 1) := by decide +kernel
theorem dX5_remove_66 : decode cX5_remove 66 = .ok (.dup, 1) := by decide +kernel
theorem dX5_remove_67 : decode cX5_remove 67 = .ok (.getfield 13, 3) := by decide +kernel
theorem dX5_remove_70 : decode cX5_remove 70 = .ok (.iconst 1, 1) := by decide +kernel
theorem dX5_remove_71 : decode cX5_remove 71 = .ok (.isub, 1) := by decide +kernel
theorem dX5_remove_72 : decode cX5_remove 72 = .ok (.putfield 13, 3) := by decide +kernel
theorem dX5_remove_75 : decode cX5_remove 75 = .ok (.iload_n 2, 1) := by decide +kernel
theorem dX5_remove_76 : decode cX5_remove 76 = .ok (.ireturn, 1) := by decide +kernel
theorem dX5_clear_0 : decode cX5_clear 0 = .ok (.aload_n 0, 1) := by decide +kernel
theorem dX5_clear_1 : decode cX5_clear 1 = .ok (.iconst 0, 1) := by decide +kernel
theorem dX5_clear_2 : decode cX5_clear 2 = .ok (.putfield 13, 3) := by decide +kernel
theorem dX5_clear_5 : decode cX5_clear 5 = .ok (.return_, 1) := by decide +kernel
theorem dX5_reset_0 : decode cX5_reset 0 = .ok (.aload_n 0, 1) := by decide +kernel
theorem dX5_reset_1 : decode cX5_reset 1 = .ok (.iconst 0, 1) := by decide +kernel
theorem dX5_reset_2 : decode cX5_reset 2 = .ok (.putfield 13, 3) := by decide +kernel
theorem dX5_reset_5 : decode cX5_reset 5 = .ok (.iconst 0, 1) := by decide +kernel
theorem dX5_reset_6 : decode cX5_reset 6 = .ok (.istore_n 2, 1) := by decide +kernel
theorem dX5_reset_7 : decode cX5_reset 7 = .ok (.iload_n 2, 1) := by decide +kernel
theorem dX5_reset_8 : decode cX5_reset 8 = .ok (.iload_n 1, 1) := by decide +kernel
theorem dX5_reset_9 : decode cX5_reset 9 = .ok (.if_icmp .ge 35, 3) := by decide +kernel
theorem dX5_reset_12 : decode cX5_reset 12 = .ok (.iload_n 2, 1) := by decide +kernel
theorem dX5_reset_13 : decode cX5_reset 13 = .ok (.aload_n 0, 1) := by decide +kernel
theorem dX5_reset_14 : decode cX5_reset 14 = .ok (.getfield 7, 3) := by decide +kernel
theorem dX5_reset_17 : decode cX5_reset 17 = .ok (.arraylength, 1) := by decide +kernel
theorem dX5_reset_18 : decode cX5_reset 18 = .ok (.if_icmp .ge 26, 3) := by decide +kernel
theorem dX5_reset_21 : decode cX5_reset 21 = .ok (.aload_n 0, 1) := by decide +kernel
theorem dX5_reset_22 : decode cX5_reset 22 = .ok (.getfield 7, 3) := by decide +kernel
theorem dX5_reset_25 : decode cX5_reset 25 = .ok (.iload_n 2, 1) := by decide +kernel
theorem dX5_reset_26 : decode cX5_reset 26 = .ok (.iconst 0, 1) := by decide +kernel
theorem dX5_reset_27 : decode cX5_reset 27 = .ok (.iastore, 1) := by decide +kernel
theorem dX5_reset_28 : decode cX5_reset 28 = .ok (.aload_n 0, 1) := by decide +kernel
theorem dX5_reset_29 : decode cX5_reset 29 = .ok (.dup, 1) := by decide +kernel
theorem dX5_reset_30 : decode cX5_reset 30 = .ok (.getfield 13, 3) := by decide +kernel
theorem dX5_reset_33 : decode cX5_reset 33 = .ok (.iconst 1, 1) := by decide +kernel
theorem dX5_reset_34 : decode cX5_reset 34 = .ok (.iadd, 1) := by decide +kernel
theorem dX5_reset_35 : decode cX5_reset 35 = .ok (.putfield 13, 3) := by decide +kernel
theorem dX5_reset_38 : decode cX5_reset 38 = .ok (.iinc 2 1, 3) := by decide +kernel
theorem dX5_reset_41 : decode cX5_reset 41 = .ok (.goto (-34), 3) := by decide +kernel
theorem dX5_reset_44 : decode cX5_reset 44 = .ok (.return_, 1) := by decide +kernel
set_option maxRecDepth 20000 in
theorem ggX5_placeOf_X5_get : GoodIn wsX5_placeOf wsX5_get := goodIn_ca (goodIn_r _ [6, 1, 7, 8, 9] (by decide +kernel) (by decide +kernel)) (goodIn_sub (fun _ h => List.mem_cons_of_mem _ (List.mem_append_right _ h)) (by decide +kernel))
set_option maxRecDepth 20000 in
theorem gX5_placeOf_X5_get : GoodIn wsX5_placeOf (wsV RX5 17 RX5 yX5_get wsX5_get) := goodIn_app (goodIn_of _ (by decide +kernel)) ggX5_placeOf_X5_get
theorem dX5_placeOf_0 : decode cX5_placeOf 0 = .ok (.iconst 0, 1) := by decide +kernel
theorem dX5_placeOf_1 : decode cX5_placeOf 1 = .ok (.istore_n 2, 1) := by decide +kernel
theorem dX5_placeOf_2 : decode cX5_placeOf 2 = .ok (.iload_n 2, 1) := by decide +kernel
theorem dX5_placeOf_3 : decode cX5_placeOf 3 = .ok (.aload_n 0, 1) := by decide +kernel
theorem dX5_placeOf_4 : decode cX5_placeOf 4 = .ok (.getfield 13, 3) := by decide +kernel
theorem dX5_placeOf_7 : decode cX5_placeOf 7 = .ok (.if_icmp .ge 20, 3) := by decide +kernel
theorem dX5_placeOf_10 : decode cX5_placeOf 10 = .ok (.aload_n 0, 1) := by decide +kernel
theorem dX5_placeOf_11 : decode cX5_placeOf 11 = .ok (.iload_n 2, 1) := by decide +kernel
theorem dX5_placeOf_12 : decode cX5_placeOf 12 = .ok (.invokevirtual 17, 3) := by decide +kernel
theorem dX5_placeOf_15 : decode cX5_placeOf 15 = .ok (.iload_n 1, 1) := by decide +kernel
theorem dX5_placeOf_16 : decode cX5_placeOf 16 = .ok (.if_icmp .ne 5, 3) := by decide +kernel
theorem dX5_placeOf_19 : decode cX5_placeOf 19 = .ok (.iload_n 2, 1) := by decide +kernel
theorem dX5_placeOf_20 : decode cX5_placeOf 20 = .ok (.ireturn, 1) := by decide +kernel
theorem dX5_placeOf_21 : decode cX5_placeOf 21 = .ok (.iinc 2 1, 3) := by decide +kernel
theorem dX5_placeOf_24 : decode cX5_placeOf 24 = .ok (.goto (-22), 3) := by decide +kernel
theorem dX5_placeOf_27 : decode cX5_placeOf 27 = .ok (.iconst (-1), 1) := by decide +kernel
theorem dX5_placeOf_28 : decode cX5_placeOf 28 = .ok (.ireturn, 1) := by decide +kernel
set_option maxRecDepth 20000 in
theorem ggX5_part_X5_init : GoodIn wsX5_part wsX5_init := goodIn_r _ [6, 7, 8, 9, 10, 11, 12, 21, 22] (by decide +kernel) (by decide +kernel)
set_option maxRecDepth 20000 in
theorem gX5_part_X5_init : GoodIn wsX5_part (wsX5_init) := ggX5_part_X5_init
set_option maxRecDepth 20000 in
theorem ggX5_part_X5_get : GoodIn wsX5_part wsX5_get := goodIn_ca (goodIn_r _ [16, 12, 11, 21, 22] (by decide +kernel) (by decide +kernel)) (goodIn_sub (fun _ h => List.mem_cons_of_mem _ (List.mem_append_right _ h)) (by decide +kernel))
set_option maxRecDepth 20000 in
theorem gX5_part_X5_get : GoodIn wsX5_part (wsV RX5 17 RX5 yX5_get wsX5_get) := goodIn_app (goodIn_of _ (by decide +kernel)) ggX5_part_X5_get
set_option maxRecDepth 20000 in
theorem ggX5_part_X5_add : GoodIn wsX5_part wsX5_add := goodIn_ca (goodIn_r _ [20, 12, 11, 21, 22] (by decide +kernel) (by decide +kernel)) (goodIn_sub (fun _ h => List.mem_cons_of_mem _ (List.mem_append_right _ h)) (by decide +kernel))
set_option maxRecDepth 20000 in
theorem gX5_part_X5_add : GoodIn wsX5_part (wsV RX5 24 RX5 yX5_add wsX5_add) := goodIn_app (goodIn_of _ (by decide +kernel)) ggX5_part_X5_add
theorem dX5_part_0 : decode cX5_part 0 = .ok (.new 8, 3) := by decide +kernel
theorem dX5_part_3 : decode cX5_part 3 = .ok (.dup, 1) := by decide +kernel
theorem dX5_part_4 : decode cX5_part 4 = .ok (.iload_n 2, 1) := by decide +kernel
theorem dX5_part_5 : decode cX5_part 5 = .ok (.iload_n 1, 1) := by decide +kernel
theorem dX5_part_6 : decode cX5_part 6 = .ok (.isub, 1) := by decide +kernel
theorem dX5_part_7 : decode cX5_part 7 = .ok (.invokespecial 21, 3) := by decide +kernel
theorem dX5_part_10 : decode cX5_part 10 = .ok (.astore_n 3, 1) := by decide +kernel
theorem dX5_part_11 : decode cX5_part 11 = .ok (.iload_n 1, 1) := by decide +kernel
theorem dX5_part_12 : decode cX5_part 12 = .ok (.istore 4, 2) := by decide +kernel
theorem dX5_part_14 : decode cX5_part 14 = .ok (.iload 4, 2) := by decide +kernel
theorem dX5_part_16 : decode cX5_part 16 = .ok (.iload_n 2, 1) := by decide +kernel
theorem dX5_part_17 : decode cX5_part 17 = .ok (.if_icmp .ge 19, 3) := by decide +kernel
theorem dX5_part_20 : decode cX5_part 20 = .ok (.aload_n 3, 1) := by decide +kernel
theorem dX5_part_21 : decode cX5_part 21 = .ok (.aload_n 0, 1) := by decide +kernel
theorem dX5_part_22 : decode cX5_part 22 = .ok (.iload 4, 2) := by decide +kernel
theorem dX5_part_24 : decode cX5_part 24 = .ok (.invokevirtual 17, 3) := by decide +kernel
theorem dX5_part_27 : decode cX5_part 27 = .ok (.invokevirtual 24, 3) := by decide +kernel
theorem dX5_part_30 : decode cX5_part 30 = .ok (.iinc 4 1, 3) := by decide +kernel
theorem dX5_part_33 : decode cX5_part 33 = .ok (.goto (-19), 3) := by decide +kernel
theorem dX5_part_36 : decode cX5_part 36 = .ok (.aload_n 3, 1) := by decide +kernel
theorem dX5_part_37 : decode cX5_part 37 = .ok (.areturn, 1) := by decide +kernel
set_option maxRecDepth 20000 in
theorem ggX5_isLike_X5_get : GoodIn wsX5_isLike wsX5_get := goodIn_ca (goodIn_r _ [6, 1, 7, 8, 9] (by decide +kernel) (by decide +kernel)) (goodIn_sub (fun _ h => List.mem_cons_of_mem _ (List.mem_append_right _ h)) (by decide +kernel))
set_option maxRecDepth 20000 in
theorem gX5_isLike_X5_get : GoodIn wsX5_isLike (wsV RX5 17 RX5 yX5_get wsX5_get) := goodIn_app (goodIn_of _ (by decide +kernel)) ggX5_isLike_X5_get
theorem dX5_isLike_0 : decode cX5_isLike 0 = .ok (.aload_n 0, 1) := by decide +kernel
theorem dX5_isLike_1 : decode cX5_isLike 1 = .ok (.getfield 13, 3) := by decide +kernel
theorem dX5_isLike_4 : decode cX5_isLike 4 = .ok (.aload_n 1, 1) := by decide +kernel
theorem dX5_isLike_5 : decode cX5_isLike 5 = .ok (.getfield 13, 3) := by decide +kernel
theorem dX5_isLike_8 : decode cX5_isLike 8 = .ok (.if_icmp .eq 5, 3) := by decide +kernel
theorem dX5_isLike_11 : decode cX5_isLike 11 = .ok (.iconst 0, 1) := by decide +kernel
theorem dX5_isLike_12 : decode cX5_isLike 12 = .ok (.ireturn, 1) := by decide +kernel
theorem dX5_isLike_13 : decode cX5_isLike 13 = .ok (.iconst 0, 1) := by decide +kernel
theorem dX5_isLike_14 : decode cX5_isLike 14 = .ok (.istore_n 2, 1) := by decide +kernel
theorem dX5_isLike_15 : decode cX5_isLike 15 = .ok (.iload_n 2, 1) := by decide +kernel
theorem dX5_isLike_16 : decode cX5_isLike 16 = .ok (.aload_n 0, 1) := by decide +kernel
theorem dX5_isLike_17 : decode cX5_isLike 17 = .ok (.getfield 13, 3) := by decide +kernel
theorem dX5_isLike_20 : decode cX5_isLike 20 = .ok (.if_icmp .ge 24, 3) := by decide +kernel
theorem dX5_isLike_23 : decode cX5_isLike 23 = .ok (.aload_n 0, 1) := by decide +kernel
theorem dX5_isLike_24 : decode cX5_isLike 24 = .ok (.iload_n 2, 1) := by decide +kernel
theorem dX5_isLike_25 : decode cX5_isLike 25 = .ok (.invokevirtual 17, 3) := by decide +kernel
theorem dX5_isLike_28 : decode cX5_isLike 28 = .ok (.aload_n 1, 1) := by decide +kernel
theorem dX5_isLike_29 : decode cX5_isLike 29 = .ok (.iload_n 2, 1) := by decide +kernel
theorem dX5_isLike_30 : decode cX5_isLike 30 = .ok (.invokevirtual 17, 3) := by decide +kernel
theorem dX5_isLike_33 : decode cX5_isLike 33 = .ok (.if_icmp .eq 5, 3) := by decide +kernel
theorem dX5_isLike_36 : decode cX5_isLike 36 = .ok (.iconst 0, 1) := by decide +kernel
theorem dX5_isLike_37 : decode cX5_isLike 37 = .ok (.ireturn, 1) := by decide +kernel
theorem dX5_isLike_38 : decode cX5_isLike 38 = .ok (.iinc 2 1, 3) := by decide +kernel
theorem dX5_isLike_41 : decode cX5_isLike 41 = .ok (.goto (-26), 3) := by decide +kernel
theorem dX5_isLike_44 : decode cX5_isLike 44 = .ok (.iconst 1, 1) := by decide +kernel
theorem dX5_isLike_45 : decode cX5_isLike 45 = .ok (.ireturn, 1) := by decide +kernel
set_option maxRecDepth 20000 in
theorem ggX6_init_Jx4a65c_init_da8c8 : GoodIn wsX6_init wsJx4a65c_init_da8c8 := goodIn_r _ [18, 19, 20, 21, 22, 23, 24, 25, 26, 27, 28, 29, 30, 2, 3, 119, 120, 121] (by decide +kernel) (by decide +kernel)
set_option maxRecDepth 20000 in
theorem gX6_init_Jx4a65c_init_da8c8 : GoodIn wsX6_init (wsJx4a65c_init_da8c8) := ggX6_init_Jx4a65c_init_da8c8
set_option maxRecDepth 20000 in
theorem ggX6_init_X5_count : GoodIn wsX6_init wsX5_count := goodIn_r _ [35, 36, 131, 132] (by decide +kernel) (by decide +kernel)
set_option maxRecDepth 20000 in
theorem gX6_init_X5_count : GoodIn wsX6_init (wsV RX6 18 RX5 yX5_count wsX5_count) := goodIn_app (goodIn_of _ (by decide +kernel)) ggX6_init_X5_count
set_option maxRecDepth 20000 in
theorem ggX6_init_X5_get : GoodIn wsX6_init wsX5_get := goodIn_ca (goodIn_r _ [40, 36, 41, 131, 132] (by decide +kernel) (by decide +kernel)) (goodIn_sub (fun _ h => List.mem_cons_of_mem _ (List.mem_append_right _ h)) (by decide +kernel))
set_option maxRecDepth 20000 in
theorem gX6_init_X5_get : GoodIn wsX6_init (wsV RX6 24 RX5 yX5_get wsX5_get) := goodIn_app (goodIn_of _ (by decide +kernel)) ggX6_init_X5_get
set_option maxRecDepth 20000 in
theorem ggX6_init_X3_init : GoodIn wsX6_init wsX3_init := goodIn_ca (goodIn_r _ [44, 45, 2, 3, 46, 47, 48, 49, 38, 39, 34, 40, 36, 41, 50, 51, 52, 53, 54, 55, 56, 57, 58, 59, 60, 61, 62, 63, 64, 65, 128, 129, 130, 131, 132] (by decide +kernel) (by decide +kernel)) (goodIn_sub (fun _ h => List.mem_cons_of_mem _ (List.mem_append_right _ h)) (by decide +kernel))
set_option maxRecDepth 20000 in
theorem gX6_init_X3_init : GoodIn wsX6_init (wsX3_init) := ggX6_init_X3_init
set_option maxRecDepth 20000 in
theorem ggX6_init_Jx4a65c_add_9ea2d : GoodIn wsX6_init wsJx4a65c_add_9ea2d := goodIn_r _ [69, 70, 71, 20, 72, 73, 74, 75, 6, 76, 77, 78, 79, 80, 81, 82, 83, 84, 19, 85, 86, 87, 88, 89, 90, 91, 92, 93, 94, 95, 96, 97, 98, 99, 100, 101, 102, 103, 104, 105, 106, 107, 108, 109, 110, 111, 112, 113, 114, 115, 116, 117, 118, 119, 120, 121] (by decide +kernel) (by decide +kernel)
set_option maxRecDepth 20000 in
theorem gX6_init_Jx4a65c_add_9ea2d : GoodIn wsX6_init (wsV RX6 33 RJx4a65c yJx4a65c_add_9ea2d wsJx4a65c_add_9ea2d) := goodIn_app (goodIn_of _ (by decide +kernel)) ggX6_init_Jx4a65c_add_9ea2d
theorem dX6_init_0 : decode cX6_init 0 = .ok (.aload_n 0, 1) := by decide +kernel
theorem dX6_init_1 : decode cX6_init 1 = .ok (.invokespecial 3, 3) := by decide +kernel
theorem dX6_init_4 : decode cX6_init 4 = .ok (.aload_n 0, 1) := by decide +kernel
theorem dX6_init_5 : decode cX6_init 5 = .ok (.new 9, 3) := by decide +kernel
theorem dX6_init_8 : decode cX6_init 8 = .ok (.dup, 1) := by decide +kernel
theorem dX6_init_9 : decode cX6_init 9 = .ok (.invokespecial 11, 3) := by decide +kernel
theorem dX6_init_12 : decode cX6_init 12 = .ok (.putfield 12, 3) := by decide +kernel
theorem dX6_init_15 : decode cX6_init 15 = .ok (.iconst 0, 1) := by decide +kernel
theorem dX6_init_16 : decode cX6_init 16 = .ok (.istore 5, 2) := by decide +kernel
theorem dX6_init_18 : decode cX6_init 18 = .ok (.iconst 0, 1) := by decide +kernel
theorem dX6_init_19 : decode cX6_init 19 = .ok (.istore 6, 2) := by decide +kernel
theorem dX6_init_21 : decode cX6_init 21 = .ok (.iload 6, 2) := by decide +kernel
theorem dX6_init_23 : decode cX6_init 23 = .ok (.aload_n 1, 1) := by decide +kernel
theorem dX6_init_24 : decode cX6_init 24 = .ok (.invokevirtual 18, 3) := by decide +kernel
theorem dX6_init_27 : decode cX6_init 27 = .ok (.if_icmp .gt 55, 3) := by decide +kernel
theorem dX6_init_30 : decode cX6_init 30 = .ok (.iload 6, 2) := by decide +kernel
theorem dX6_init_32 : decode cX6_init 32 = .ok (.aload_n 1, 1) := by decide +kernel
theorem dX6_init_33 : decode cX6_init 33 = .ok (.invokevirtual 18, 3) := by decide +kernel
theorem dX6_init_36 : decode cX6_init 36 = .ok (.if_icmp .eq 14, 3) := by decide +kernel
theorem dX6_init_39 : decode cX6_init 39 = .ok (.aload_n 1, 1) := by decide +kernel
theorem dX6_init_40 : decode cX6_init 40 = .ok (.iload 6, 2) := by decide +kernel
theorem dX6_init_42 : decode cX6_init 42 = .ok (.invokevirtual 24, 3) := by decide +kernel
theorem dX6_init_45 : decode cX6_init 45 = .ok (.bipush 45, 2) := by decide +kernel
theorem dX6_init_47 : decode cX6_init 47 = .ok (.if_icmp .ne 29, 3) := by decide +kernel
theorem dX6_init_50 : decode cX6_init 50 = .ok (.aload_n 0, 1) := by decide +kernel
theorem dX6_init_51 : decode cX6_init 51 = .ok (.getfield 12, 3) := by decide +kernel
theorem dX6_init_54 : decode cX6_init 54 = .ok (.new 28, 3) := by decide +kernel
theorem dX6_init_57 : decode cX6_init 57 = .ok (.dup, 1) := by decide +kernel
theorem dX6_init_58 : decode cX6_init 58 = .ok (.aload_n 1, 1) := by decide +kernel
theorem dX6_init_59 : decode cX6_init 59 = .ok (.iload 5, 2) := by decide +kernel
theorem dX6_init_61 : decode cX6_init 61 = .ok (.iload 6, 2) := by decide +kernel
theorem dX6_init_63 : decode cX6_init 63 = .ok (.invokespecial 30, 3) := by decide +kernel
theorem dX6_init_66 : decode cX6_init 66 = .ok (.invokevirtual 33, 3) := by decide +kernel
theorem dX6_init_69 : decode cX6_init 69 = .ok (.pop, 1) := by decide +kernel
theorem dX6_init_70 : decode cX6_init 70 = .ok (.iload 6, 2) := by decide +kernel
theorem dX6_init_72 : decode cX6_init 72 = .ok (.iconst 1, 1) := by decide +kernel
theorem dX6_init_73 : decode cX6_init 73 = .ok (.iadd, 1) := by decide +kernel
theorem dX6_init_74 : decode cX6_init 74 = .ok (.istore 5, 2) := by decide +kernel
theorem dX6_init_76 : decode cX6_init 76 = .ok (.iinc 6 1, 3) := by decide +kernel
theorem dX6_init_79 : decode cX6_init 79 = .ok (.goto (-58), 3) := by decide +kernel
theorem dX6_init_82 : decode cX6_init 82 = .ok (.aload_n 0, 1) := by decide +kernel
theorem dX6_init_83 : decode cX6_init 83 = .ok (.iload_n 2, 1) := by decide +kernel
theorem dX6_init_84 : decode cX6_init 84 = .ok (.putfield 37, 3) := by decide +kernel
theorem dX6_init_87 : decode cX6_init 87 = .ok (.aload_n 0, 1) := by decide +kernel
theorem dX6_init_88 : decode cX6_init 88 = .ok (.iload_n 3, 1) := by decide +kernel
theorem dX6_init_89 : decode cX6_init 89 = .ok (.putfield 41, 3) := by decide +kernel
theorem dX6_init_92 : decode cX6_init 92 = .ok (.aload_n 0, 1) := by decide +kernel
theorem dX6_init_93 : decode cX6_init 93 = .ok (.iload 4, 2) := by decide +kernel
theorem dX6_init_95 : decode cX6_init 95 = .ok (.putfield 45, 3) := by decide +kernel
theorem dX6_init_98 : decode cX6_init 98 = .ok (.aload_n 0, 1) := by decide +kernel
theorem dX6_init_99 : decode cX6_init 99 = .ok (.new 9, 3) := by decide +kernel
theorem dX6_init_102 : decode cX6_init 102 = .ok (.dup, 1) := by decide +kernel
theorem dX6_init_103 : decode cX6_init 103 = .ok (.invokespecial 11, 3) := by decide +kernel
theorem dX6_init_106 : decode cX6_init 106 = .ok (.putfield 49, 3) := by decide +kernel
theorem dX6_init_109 : decode cX6_init 109 = .ok (.aload_n 0, 1) := by decide +kernel
theorem dX6_init_110 : decode cX6_init 110 = .ok (.new 9, 3) := by decide +kernel
theorem dX6_init_113 : decode cX6_init 113 = .ok (.dup, 1) := by decide +kernel
theorem dX6_init_114 : decode cX6_init 114 = .ok (.invokespecial 11, 3) := by decide +kernel
theorem dX6_init_117 : decode cX6_init 117 = .ok (.putfield 52, 3) := by decide +kernel
theorem dX6_init_120 : decode cX6_init 120 = .ok (.return_, 1) := by decide +kernel
set_option maxRecDepth 20000 in
theorem ggX6_isPattern_X5_count : GoodIn wsX6_isPattern wsX5_count := goodIn_r _ [5, 6, 24, 25] (by decide +kernel) (by decide +kernel)
set_option maxRecDepth 20000 in
theorem gX6_isPattern_X5_count : GoodIn wsX6_isPattern (wsV RX6 18 RX5 yX5_count wsX5_count) := goodIn_app (goodIn_of _ (by decide +kernel)) ggX6_isPattern_X5_count
set_option maxRecDepth 20000 in
theorem ggX6_isPattern_X5_get : GoodIn wsX6_isPattern wsX5_get := goodIn_ca (goodIn_r _ [10, 6, 11, 24, 25] (by decide +kernel) (by decide +kernel)) (goodIn_sub (fun _ h => List.mem_cons_of_mem _ (List.mem_append_right _ h)) (by decide +kernel))
set_option maxRecDepth 20000 in
theorem gX6_isPattern_X5_get : GoodIn wsX6_isPattern (wsV RX6 24 RX5 yX5_get wsX5_get) := goodIn_app (goodIn_of _ (by decide +kernel)) ggX6_isPattern_X5_get
set_option maxRecDepth 20000 in
theorem ggX6_isPattern_X3_isItem : GoodIn wsX6_isPattern wsX3_isItem := goodIn_ca (goodIn_r _ [15, 16, 8, 9, 4, 10, 6, 11, 17, 18, 19, 20, 21, 22, 23, 24, 25] (by decide +kernel) (by decide +kernel)) (goodIn_sub (fun _ h => List.mem_cons_of_mem _ (List.mem_append_right _ h)) (by decide +kernel))
set_option maxRecDepth 20000 in
theorem gX6_isPattern_X3_isItem : GoodIn wsX6_isPattern (va_wsS RX6 55 yX3_isItem wsX3_isItem) := goodIn_app (goodIn_of _ (by decide +kernel)) ggX6_isPattern_X3_isItem
theorem dX6_isPattern_0 : decode cX6_isPattern 0 = .ok (.iconst 0, 1) := by decide +kernel
theorem dX6_isPattern_1 : decode cX6_isPattern 1 = .ok (.istore_n 1, 1) := by decide +kernel
theorem dX6_isPattern_2 : decode cX6_isPattern 2 = .ok (.iconst 0, 1) := by decide +kernel
theorem dX6_isPattern_3 : decode cX6_isPattern 3 = .ok (.istore_n 2, 1) := by decide +kernel
theorem dX6_isPattern_4 : decode cX6_isPattern 4 = .ok (.iconst 0, 1) := by decide +kernel
theorem dX6_isPattern_5 : decode cX6_isPattern 5 = .ok (.istore_n 3, 1) := by decide +kernel
theorem dX6_isPattern_6 : decode cX6_isPattern 6 = .ok (.iload_n 3, 1) := by decide +kernel
theorem dX6_isPattern_7 : decode cX6_isPattern 7 = .ok (.aload_n 0, 1) := by decide +kernel
theorem dX6_isPattern_8 : decode cX6_isPattern 8 = .ok (.invokevirtual 18, 3) := by decide +kernel
theorem dX6_isPattern_11 : decode cX6_isPattern 11 = .ok (.if_icmp .gt 45, 3) := by decide +kernel
theorem dX6_isPattern_14 : decode cX6_isPattern 14 = .ok (.iload_n 3, 1) := by decide +kernel
theorem dX6_isPattern_15 : decode cX6_isPattern 15 = .ok (.aload_n 0, 1) := by decide +kernel
theorem dX6_isPattern_16 : decode cX6_isPattern 16 = .ok (.invokevirtual 18, 3) := by decide +kernel
theorem dX6_isPattern_19 : decode cX6_isPattern 19 = .ok (.if_icmp .eq 13, 3) := by decide +kernel
theorem dX6_isPattern_22 : decode cX6_isPattern 22 = .ok (.aload_n 0, 1) := by decide +kernel
theorem dX6_isPattern_23 : decode cX6_isPattern 23 = .ok (.iload_n 3, 1) := by decide +kernel
theorem dX6_isPattern_24 : decode cX6_isPattern 24 = .ok (.invokevirtual 24, 3) := by decide +kernel
theorem dX6_isPattern_27 : decode cX6_isPattern 27 = .ok (.bipush 45, 2) := by decide +kernel
theorem dX6_isPattern_29 : decode cX6_isPattern 29 = .ok (.if_icmp .ne 21, 3) := by decide +kernel
theorem dX6_isPattern_32 : decode cX6_isPattern 32 = .ok (.aload_n 0, 1) := by decide +kernel
theorem dX6_isPattern_33 : decode cX6_isPattern 33 = .ok (.iload_n 2, 1) := by decide +kernel
theorem dX6_isPattern_34 : decode cX6_isPattern 34 = .ok (.iload_n 3, 1) := by decide +kernel
theorem dX6_isPattern_35 : decode cX6_isPattern 35 = .ok (.invokestatic 55, 3) := by decide +kernel
theorem dX6_isPattern_38 : decode cX6_isPattern 38 = .ok (.ifCond .ne 5, 3) := by decide +kernel
theorem dX6_isPattern_41 : decode cX6_isPattern 41 = .ok (.iconst 0, 1) := by decide +kernel
theorem dX6_isPattern_42 : decode cX6_isPattern 42 = .ok (.ireturn, 1) := by decide +kernel
theorem dX6_isPattern_43 : decode cX6_isPattern 43 = .ok (.iinc 1 1, 3) := by decide +kernel
theorem dX6_isPattern_46 : decode cX6_isPattern 46 = .ok (.iload_n 3, 1) := by decide +kernel
theorem dX6_isPattern_47 : decode cX6_isPattern 47 = .ok (.iconst 1, 1) := by decide +kernel
theorem dX6_isPattern_48 : decode cX6_isPattern 48 = .ok (.iadd, 1) := by decide +kernel
theorem dX6_isPattern_49 : decode cX6_isPattern 49 = .ok (.istore_n 2, 1) := by decide +kernel
theorem dX6_isPattern_50 : decode cX6_isPattern 50 = .ok (.iinc 3 1, 3) := by decide +kernel
theorem dX6_isPattern_53 : decode cX6_isPattern 53 = .ok (.goto (-47), 3) := by decide +kernel
theorem dX6_isPattern_56 : decode cX6_isPattern 56 = .ok (.iload_n 1, 1) := by decide +kernel
theorem dX6_isPattern_57 : decode cX6_isPattern 57 = .ok (.iconst 3, 1) := by decide +kernel
theorem dX6_isPattern_58 : decode cX6_isPattern 58 = .ok (.if_icmp .gt 7, 3) := by decide +kernel
theorem dX6_isPattern_61 : decode cX6_isPattern 61 = .ok (.iconst 1, 1) := by decide +kernel
theorem dX6_isPattern_62 : decode cX6_isPattern 62 = .ok (.goto 4, 3) := by decide +kernel
theorem dX6_isPattern_65 : decode cX6_isPattern 65 = .ok (.iconst 0, 1) := by decide +kernel
theorem dX6_isPattern_66 : decode cX6_isPattern 66 = .ok (.ireturn, 1) := by decide +kernel
set_option maxRecDepth 20000 in
theorem ggX6_isSuggestion_X5_count : GoodIn wsX6_isSuggestion wsX5_count := goodIn_r _ [5, 6, 17, 18] (by decide +kernel) (by decide +kernel)
set_option maxRecDepth 20000 in
theorem gX6_isSuggestion_X5_count : GoodIn wsX6_isSuggestion (wsV RX6 18 RX5 yX5_count wsX5_count) := goodIn_app (goodIn_of _ (by decide +kernel)) ggX6_isSuggestion_X5_count
set_option maxRecDepth 20000 in
theorem ggX6_isSuggestion_X5_get : GoodIn wsX6_isSuggestion wsX5_get := goodIn_ca (goodIn_r _ [10, 6, 11, 17, 18] (by decide +kernel) (by decide +kernel)) (goodIn_sub (fun _ h => List.mem_cons_of_mem _ (List.mem_append_right _ h)) (by decide +kernel))
set_option maxRecDepth 20000 in
theorem gX6_isSuggestion_X5_get : GoodIn wsX6_isSuggestion (wsV RX6 24 RX5 yX5_get wsX5_get) := goodIn_app (goodIn_of _ (by decide +kernel)) ggX6_isSuggestion_X5_get
set_option maxRecDepth 20000 in
theorem ggX6_isSuggestion_X9_isLetter : GoodIn wsX6_isSuggestion wsX9_isLetter := goodIn_r _ [14] (by decide +kernel) (by decide +kernel)
set_option maxRecDepth 20000 in
theorem gX6_isSuggestion_X9_isLetter_n59 : GoodIn wsX6_isSuggestion (wsX9_isLetter) := ggX6_isSuggestion_X9_isLetter
set_option maxRecDepth 20000 in
theorem ggX6_isSuggestion_X9_isDigit : GoodIn wsX6_isSuggestion wsX9_isDigit := goodIn_r _ [16] (by decide +kernel) (by decide +kernel)
set_option maxRecDepth 20000 in
theorem gX6_isSuggestion_X9_isDigit_n63 : GoodIn wsX6_isSuggestion (wsX9_isDigit) := ggX6_isSuggestion_X9_isDigit
theorem dX6_isSuggestion_0 : decode cX6_isSuggestion 0 = .ok (.iconst 0, 1) := by decide +kernel
theorem dX6_isSuggestion_1 : decode cX6_isSuggestion 1 = .ok (.istore_n 1, 1) := by decide +kernel
theorem dX6_isSuggestion_2 : decode cX6_isSuggestion 2 = .ok (.iconst 0, 1) := by decide +kernel
theorem dX6_isSuggestion_3 : decode cX6_isSuggestion 3 = .ok (.istore_n 2, 1) := by decide +kernel
theorem dX6_isSuggestion_4 : decode cX6_isSuggestion 4 = .ok (.iload_n 2, 1) := by decide +kernel
theorem dX6_isSuggestion_5 : decode cX6_isSuggestion 5 = .ok (.aload_n 0, 1) := by decide +kernel
theorem dX6_isSuggestion_6 : decode cX6_isSuggestion 6 = .ok (.invokevirtual 18, 3) := by decide +kernel
theorem dX6_isSuggestion_9 : decode cX6_isSuggestion 9 = .ok (.if_icmp .ge 49, 3) := by decide +kernel
theorem dX6_isSuggestion_12 : decode cX6_isSuggestion 12 = .ok (.aload_n 0, 1) := by decide +kernel
theorem dX6_isSuggestion_13 : decode cX6_isSuggestion 13 = .ok (.iload_n 2, 1) := by decide +kernel
theorem dX6_isSuggestion_14 : decode cX6_isSuggestion 14 = .ok (.invokevirtual 24, 3) := by decide +kernel
theorem dX6_isSuggestion_17 : decode cX6_isSuggestion 17 = .ok (.istore_n 3, 1) := by decide +kernel
theorem dX6_isSuggestion_18 : decode cX6_isSuggestion 18 = .ok (.iload_n 3, 1) := by decide +kernel
theorem dX6_isSuggestion_19 : decode cX6_isSuggestion 19 = .ok (.bipush 42, 2) := by decide +kernel
theorem dX6_isSuggestion_21 : decode cX6_isSuggestion 21 = .ok (.if_icmp .ne 9, 3) := by decide +kernel
theorem dX6_isSuggestion_24 : decode cX6_isSuggestion 24 = .ok (.iinc 1 1, 3) := by decide +kernel
theorem dX6_isSuggestion_27 : decode cX6_isSuggestion 27 = .ok (.goto 25, 3) := by decide +kernel
theorem dX6_isSuggestion_30 : decode cX6_isSuggestion 30 = .ok (.iload_n 3, 1) := by decide +kernel
theorem dX6_isSuggestion_31 : decode cX6_isSuggestion 31 = .ok (.invokestatic 59, 3) := by decide +kernel
theorem dX6_isSuggestion_34 : decode cX6_isSuggestion 34 = .ok (.ifCond .ne 18, 3) := by decide +kernel
theorem dX6_isSuggestion_37 : decode cX6_isSuggestion 37 = .ok (.iload_n 3, 1) := by decide +kernel
theorem dX6_isSuggestion_38 : decode cX6_isSuggestion 38 = .ok (.invokestatic 63, 3) := by decide +kernel
theorem dX6_isSuggestion_41 : decode cX6_isSuggestion 41 = .ok (.ifCond .ne 11, 3) := by decide +kernel
theorem dX6_isSuggestion_44 : decode cX6_isSuggestion 44 = .ok (.iload_n 3, 1) := by decide +kernel
theorem dX6_isSuggestion_45 : decode cX6_isSuggestion 45 = .ok (.bipush 32, 2) := by decide +kernel
theorem dX6_isSuggestion_47 : decode cX6_isSuggestion 47 = .ok (.if_icmp .eq 5, 3) := by decide +kernel
theorem dX6_isSuggestion_50 : decode cX6_isSuggestion 50 = .ok (.iconst 0, 1) := by decide +kernel
theorem dX6_isSuggestion_51 : decode cX6_isSuggestion 51 = .ok (.ireturn, 1) := by decide +kernel
theorem dX6_isSuggestion_52 : decode cX6_isSuggestion 52 = .ok (.iinc 2 1, 3) := by decide +kernel
theorem dX6_isSuggestion_55 : decode cX6_isSuggestion 55 = .ok (.goto (-51), 3) := by decide +kernel
theorem dX6_isSuggestion_58 : decode cX6_isSuggestion 58 = .ok (.aload_n 0, 1) := by decide +kernel
theorem dX6_isSuggestion_59 : decode cX6_isSuggestion 59 = .ok (.invokevirtual 18, 3) := by decide +kernel
theorem dX6_isSuggestion_62 : decode cX6_isSuggestion 62 = .ok (.ifCond .le 12, 3) := by decide +kernel
theorem dX6_isSuggestion_65 : decode cX6_isSuggestion 65 = .ok (.iload_n 1, 1) := by decide +kernel
theorem dX6_isSuggestion_66 : decode cX6_isSuggestion 66 = .ok (.iconst 1, 1) := by decide +kernel
theorem dX6_isSuggestion_67 : decode cX6_isSuggestion 67 = .ok (.if_icmp .gt 7, 3) := by decide +kernel
theorem dX6_isSuggestion_70 : decode cX6_isSuggestion 70 = .ok (.iconst 1, 1) := by decide +kernel
theorem dX6_isSuggestion_71 : decode cX6_isSuggestion 71 = .ok (.goto 4, 3) := by decide +kernel
theorem dX6_isSuggestion_74 : decode cX6_isSuggestion 74 = .ok (.iconst 0, 1) := by decide +kernel
theorem dX6_isSuggestion_75 : decode cX6_isSuggestion 75 = .ok (.ireturn, 1) := by decide +kernel
set_option maxRecDepth 20000 in
theorem ggX6_isFoundAt_X8_isQuoted : GoodIn wsX6_isFoundAt wsX8_isQuoted := goodIn_ca (goodIn_r _ [9, 10, 11, 12, 13, 14, 15, 16, 17, 111, 112, 113, 114, 115, 116, 117, 118, 119, 120, 121, 122, 123] (by decide +kernel) (by decide +kernel)) (goodIn_sub (fun _ h => List.mem_cons_of_mem _ (List.mem_append_right _ h)) (by decide +kernel))
set_option maxRecDepth 20000 in
theorem gX6_isFoundAt_X8_isQuoted : GoodIn wsX6_isFoundAt (wsV RX6 66 RX8 yX8_isQuoted wsX8_isQuoted) := goodIn_app (goodIn_of _ (by decide +kernel)) ggX6_isFoundAt_X8_isQuoted
set_option maxRecDepth 20000 in
theorem ggX6_isFoundAt_X8_isFirst : GoodIn wsX6_isFoundAt wsX8_isFirst := goodIn_ca (goodIn_r _ [21, 22, 11, 12, 13, 14, 15, 16, 17, 111, 112, 113, 114, 115, 116, 117, 118, 119, 120, 121, 122, 123] (by decide +kernel) (by decide +kernel)) (goodIn_sub (fun _ h => List.mem_cons_of_mem _ (List.mem_append_right _ h)) (by decide +kernel))
set_option maxRecDepth 20000 in
theorem gX6_isFoundAt_X8_isFirst : GoodIn wsX6_isFoundAt (wsV RX6 71 RX8 yX8_isFirst wsX8_isFirst) := goodIn_app (goodIn_of _ (by decide +kernel)) ggX6_isFoundAt_X8_isFirst
set_option maxRecDepth 20000 in
theorem ggX6_isFoundAt_Jx4a65c_size_8abf5 : GoodIn wsX6_isFoundAt wsJx4a65c_size_8abf5 := goodIn_r _ [27, 28, 124, 125, 126] (by decide +kernel) (by decide +kernel)
set_option maxRecDepth 20000 in
theorem gX6_isFoundAt_Jx4a65c_size_8abf5 : GoodIn wsX6_isFoundAt (wsV RX6 74 RJx4a65c yJx4a65c_size_8abf5 wsJx4a65c_size_8abf5) := goodIn_app (goodIn_of _ (by decide +kernel)) ggX6_isFoundAt_Jx4a65c_size_8abf5
set_option maxRecDepth 20000 in
theorem ggX6_isFoundAt_X8_goesOn : GoodIn wsX6_isFoundAt wsX8_goesOn := goodIn_ca (goodIn_r _ [32, 33, 34, 35, 11, 12, 13, 14, 15, 16, 17, 36, 37, 38, 8, 39, 40, 41, 42, 43, 111, 112, 113, 114, 115, 116, 117, 118, 119, 120, 121, 122, 123] (by decide +kernel) (by decide +kernel)) (goodIn_sub (fun _ h => List.mem_cons_of_mem _ (List.mem_append_right _ h)) (by decide +kernel))
set_option maxRecDepth 20000 in
theorem gX6_isFoundAt_X8_goesOn : GoodIn wsX6_isFoundAt (wsV RX6 77 RX8 yX8_goesOn wsX8_goesOn) := goodIn_app (goodIn_of _ (by decide +kernel)) ggX6_isFoundAt_X8_goesOn
set_option maxRecDepth 20000 in
theorem ggX6_isFoundAt_Jx4a65c_get_915e3 : GoodIn wsX6_isFoundAt wsJx4a65c_get_915e3 := goodIn_r _ [47, 28, 48, 49, 50, 51, 52, 53, 54, 55, 56, 57, 58, 26, 59, 60, 124, 125, 126] (by decide +kernel) (by decide +kernel)
set_option maxRecDepth 20000 in
theorem gX6_isFoundAt_Jx4a65c_get_915e3 : GoodIn wsX6_isFoundAt (wsV RX6 80 RJx4a65c yJx4a65c_get_915e3 wsJx4a65c_get_915e3) := goodIn_app (goodIn_of _ (by decide +kernel)) ggX6_isFoundAt_Jx4a65c_get_915e3
set_option maxRecDepth 20000 in
theorem ggX6_isFoundAt_X3_fits : GoodIn wsX6_isFoundAt wsX3_fits := goodIn_ca (goodIn_r _ [65, 66, 67, 68, 69, 70, 71, 8, 72, 73, 11, 12, 13, 14, 15, 16, 17, 74, 75, 76, 77, 78, 79, 80, 81, 35, 33, 34, 40, 41, 42, 43, 82, 83, 84, 85, 86, 127, 128, 129, 111, 112, 113, 114, 115, 116, 117, 118, 119, 120, 121, 122, 123] (by decide +kernel) (by decide +kernel)) (goodIn_sub (fun _ h => List.mem_cons_of_mem _ (List.mem_append_right _ h)) (by decide +kernel))
set_option maxRecDepth 20000 in
theorem gX6_isFoundAt_X3_fits : GoodIn wsX6_isFoundAt (wsV RX6 83 RX3 yX3_fits wsX3_fits) := goodIn_app (goodIn_of _ (by decide +kernel)) ggX6_isFoundAt_X3_fits
set_option maxRecDepth 20000 in
theorem ggX6_isFoundAt_X6_isExcepted : GoodIn wsX6_isFoundAt wsX6_isExcepted := goodIn_ca (goodIn_r _ [91, 92, 93, 94, 95, 96, 8, 97, 98, 11, 12, 13, 14, 15, 16, 17, 23, 24, 25, 26, 27, 28, 44, 45, 46, 47, 48, 49, 50, 51, 52, 53, 54, 55, 56, 57, 58, 59, 60, 99, 100, 101, 102, 36, 37, 38, 39, 35, 40, 41, 42, 43, 103, 83, 84, 85, 33, 104, 79, 80, 81, 34, 105, 106, 107, 108, 109, 110, 111, 112, 113, 114, 115, 116, 117, 118, 119, 120, 121, 122, 123, 124, 125, 126] (by decide +kernel) (by decide +kernel)) (goodIn_sub (fun _ h => List.mem_cons_of_mem _ (List.mem_append_right _ h)) (by decide +kernel))
set_option maxRecDepth 20000 in
theorem gX6_isFoundAt_X6_isExcepted : GoodIn wsX6_isFoundAt (wsV RX6 87 RX6 yX6_isExcepted wsX6_isExcepted) := goodIn_app (goodIn_of _ (by decide +kernel)) ggX6_isFoundAt_X6_isExcepted
theorem dX6_isFoundAt_0 : decode cX6_isFoundAt 0 = .ok (.aload_n 1, 1) := by decide +kernel
theorem dX6_isFoundAt_1 : decode cX6_isFoundAt 1 = .ok (.iload_n 2, 1) := by decide +kernel
theorem dX6_isFoundAt_2 : decode cX6_isFoundAt 2 = .ok (.invokevirtual 66, 3) := by decide +kernel
theorem dX6_isFoundAt_5 : decode cX6_isFoundAt 5 = .ok (.ifCond .eq 12, 3) := by decide +kernel
theorem dX6_isFoundAt_8 : decode cX6_isFoundAt 8 = .ok (.aload_n 0, 1) := by decide +kernel
theorem dX6_isFoundAt_9 : decode cX6_isFoundAt 9 = .ok (.getfield 41, 3) := by decide +kernel
theorem dX6_isFoundAt_12 : decode cX6_isFoundAt 12 = .ok (.ifCond .ne 5, 3) := by decide +kernel
theorem dX6_isFoundAt_15 : decode cX6_isFoundAt 15 = .ok (.iconst 0, 1) := by decide +kernel
theorem dX6_isFoundAt_16 : decode cX6_isFoundAt 16 = .ok (.ireturn, 1) := by decide +kernel
theorem dX6_isFoundAt_17 : decode cX6_isFoundAt 17 = .ok (.aload_n 0, 1) := by decide +kernel
theorem dX6_isFoundAt_18 : decode cX6_isFoundAt 18 = .ok (.getfield 37, 3) := by decide +kernel
theorem dX6_isFoundAt_21 : decode cX6_isFoundAt 21 = .ok (.bipush 97, 2) := by decide +kernel
theorem dX6_isFoundAt_23 : decode cX6_isFoundAt 23 = .ok (.if_icmp .eq 27, 3) := by decide +kernel
theorem dX6_isFoundAt_26 : decode cX6_isFoundAt 26 = .ok (.aload_n 1, 1) := by decide +kernel
theorem dX6_isFoundAt_27 : decode cX6_isFoundAt 27 = .ok (.iload_n 2, 1) := by decide +kernel
theorem dX6_isFoundAt_28 : decode cX6_isFoundAt 28 = .ok (.invokevirtual 71, 3) := by decide +kernel
theorem dX6_isFoundAt_31 : decode cX6_isFoundAt 31 = .ok (.aload_n 0, 1) := by decide +kernel
theorem dX6_isFoundAt_32 : decode cX6_isFoundAt 32 = .ok (.getfield 37, 3) := by decide +kernel
theorem dX6_isFoundAt_35 : decode cX6_isFoundAt 35 = .ok (.bipush 115, 2) := by decide +kernel
theorem dX6_isFoundAt_37 : decode cX6_isFoundAt 37 = .ok (.if_icmp .ne 7, 3) := by decide +kernel
theorem dX6_isFoundAt_40 : decode cX6_isFoundAt 40 = .ok (.iconst 1, 1) := by decide +kernel
theorem dX6_isFoundAt_41 : decode cX6_isFoundAt 41 = .ok (.goto 4, 3) := by decide +kernel
theorem dX6_isFoundAt_44 : decode cX6_isFoundAt 44 = .ok (.iconst 0, 1) := by decide +kernel
theorem dX6_isFoundAt_45 : decode cX6_isFoundAt 45 = .ok (.if_icmp .eq 5, 3) := by decide +kernel
theorem dX6_isFoundAt_48 : decode cX6_isFoundAt 48 = .ok (.iconst 0, 1) := by decide +kernel
theorem dX6_isFoundAt_49 : decode cX6_isFoundAt 49 = .ok (.ireturn, 1) := by decide +kernel
theorem dX6_isFoundAt_50 : decode cX6_isFoundAt 50 = .ok (.iconst 0, 1) := by decide +kernel
theorem dX6_isFoundAt_51 : decode cX6_isFoundAt 51 = .ok (.istore_n 3, 1) := by decide +kernel
theorem dX6_isFoundAt_52 : decode cX6_isFoundAt 52 = .ok (.iload_n 3, 1) := by decide +kernel
theorem dX6_isFoundAt_53 : decode cX6_isFoundAt 53 = .ok (.aload_n 0, 1) := by decide +kernel
theorem dX6_isFoundAt_54 : decode cX6_isFoundAt 54 = .ok (.getfield 12, 3) := by decide +kernel
theorem dX6_isFoundAt_57 : decode cX6_isFoundAt 57 = .ok (.invokevirtual 74, 3) := by decide +kernel
theorem dX6_isFoundAt_60 : decode cX6_isFoundAt 60 = .ok (.if_icmp .ge 50, 3) := by decide +kernel
theorem dX6_isFoundAt_63 : decode cX6_isFoundAt 63 = .ok (.iload_n 3, 1) := by decide +kernel
theorem dX6_isFoundAt_64 : decode cX6_isFoundAt 64 = .ok (.ifCond .le 17, 3) := by decide +kernel
theorem dX6_isFoundAt_67 : decode cX6_isFoundAt 67 = .ok (.aload_n 1, 1) := by decide +kernel
theorem dX6_isFoundAt_68 : decode cX6_isFoundAt 68 = .ok (.iload_n 2, 1) := by decide +kernel
theorem dX6_isFoundAt_69 : decode cX6_isFoundAt 69 = .ok (.iload_n 3, 1) := by decide +kernel
theorem dX6_isFoundAt_70 : decode cX6_isFoundAt 70 = .ok (.iadd, 1) := by decide +kernel
theorem dX6_isFoundAt_71 : decode cX6_isFoundAt 71 = .ok (.iconst 1, 1) := by decide +kernel
theorem dX6_isFoundAt_72 : decode cX6_isFoundAt 72 = .ok (.isub, 1) := by decide +kernel
theorem dX6_isFoundAt_73 : decode cX6_isFoundAt 73 = .ok (.invokevirtual 77, 3) := by decide +kernel
theorem dX6_isFoundAt_76 : decode cX6_isFoundAt 76 = .ok (.ifCond .ne 5, 3) := by decide +kernel
theorem dX6_isFoundAt_79 : decode cX6_isFoundAt 79 = .ok (.iconst 0, 1) := by decide +kernel
theorem dX6_isFoundAt_80 : decode cX6_isFoundAt 80 = .ok (.ireturn, 1) := by decide +kernel
theorem dX6_isFoundAt_81 : decode cX6_isFoundAt 81 = .ok (.aload_n 0, 1) := by decide +kernel
theorem dX6_isFoundAt_82 : decode cX6_isFoundAt 82 = .ok (.getfield 12, 3) := by decide +kernel
theorem dX6_isFoundAt_85 : decode cX6_isFoundAt 85 = .ok (.iload_n 3, 1) := by decide +kernel
theorem dX6_isFoundAt_86 : decode cX6_isFoundAt 86 = .ok (.invokevirtual 80, 3) := by decide +kernel
theorem dX6_isFoundAt_89 : decode cX6_isFoundAt 89 = .ok (.checkcast 28, 3) := by decide +kernel
theorem dX6_isFoundAt_92 : decode cX6_isFoundAt 92 = .ok (.aload_n 1, 1) := by decide +kernel
theorem dX6_isFoundAt_93 : decode cX6_isFoundAt 93 = .ok (.iload_n 2, 1) := by decide +kernel
theorem dX6_isFoundAt_94 : decode cX6_isFoundAt 94 = .ok (.iload_n 3, 1) := by decide +kernel
theorem dX6_isFoundAt_95 : decode cX6_isFoundAt 95 = .ok (.iadd, 1) := by decide +kernel
theorem dX6_isFoundAt_96 : decode cX6_isFoundAt 96 = .ok (.invokevirtual 83, 3) := by decide +kernel
theorem dX6_isFoundAt_99 : decode cX6_isFoundAt 99 = .ok (.ifCond .ne 5, 3) := by decide +kernel
theorem dX6_isFoundAt_102 : decode cX6_isFoundAt 102 = .ok (.iconst 0, 1) := by decide +kernel
theorem dX6_isFoundAt_103 : decode cX6_isFoundAt 103 = .ok (.ireturn, 1) := by decide +kernel
theorem dX6_isFoundAt_104 : decode cX6_isFoundAt 104 = .ok (.iinc 3 1, 3) := by decide +kernel
theorem dX6_isFoundAt_107 : decode cX6_isFoundAt 107 = .ok (.goto (-55), 3) := by decide +kernel
theorem dX6_isFoundAt_110 : decode cX6_isFoundAt 110 = .ok (.aload_n 0, 1) := by decide +kernel
theorem dX6_isFoundAt_111 : decode cX6_isFoundAt 111 = .ok (.aload_n 1, 1) := by decide +kernel
theorem dX6_isFoundAt_112 : decode cX6_isFoundAt 112 = .ok (.iload_n 2, 1) := by decide +kernel
theorem dX6_isFoundAt_113 : decode cX6_isFoundAt 113 = .ok (.invokevirtual 87, 3) := by decide +kernel
theorem dX6_isFoundAt_116 : decode cX6_isFoundAt 116 = .ok (.ifCond .ne 7, 3) := by decide +kernel
theorem dX6_isFoundAt_119 : decode cX6_isFoundAt 119 = .ok (.iconst 1, 1) := by decide +kernel
theorem dX6_isFoundAt_120 : decode cX6_isFoundAt 120 = .ok (.goto 4, 3) := by decide +kernel
theorem dX6_isFoundAt_123 : decode cX6_isFoundAt 123 = .ok (.iconst 0, 1) := by decide +kernel
theorem dX6_isFoundAt_124 : decode cX6_isFoundAt 124 = .ok (.ireturn, 1) := by decide +kernel
set_option maxRecDepth 20000 in
theorem ggX6_isExcepted_X8_aheadOf : GoodIn wsX6_isExcepted wsX8_aheadOf := goodIn_ca (goodIn_r _ [7, 8, 9, 10, 11, 12, 13, 14, 15, 68, 69, 70, 71, 72, 73, 74, 75, 76, 77, 78, 79, 80] (by decide +kernel) (by decide +kernel)) (goodIn_sub (fun _ h => List.mem_cons_of_mem _ (List.mem_append_right _ h)) (by decide +kernel))
set_option maxRecDepth 20000 in
theorem gX6_isExcepted_X8_aheadOf : GoodIn wsX6_isExcepted (wsV RX6 90 RX8 yX8_aheadOf wsX8_aheadOf) := goodIn_app (goodIn_of _ (by decide +kernel)) ggX6_isExcepted_X8_aheadOf
set_option maxRecDepth 20000 in
theorem ggX6_isExcepted_Jx4a65c_size_8abf5 : GoodIn wsX6_isExcepted wsJx4a65c_size_8abf5 := goodIn_r _ [20, 21, 81, 82, 83] (by decide +kernel) (by decide +kernel)
set_option maxRecDepth 20000 in
theorem gX6_isExcepted_Jx4a65c_size_8abf5 : GoodIn wsX6_isExcepted (wsV RX6 74 RJx4a65c yJx4a65c_size_8abf5 wsJx4a65c_size_8abf5) := goodIn_app (goodIn_of _ (by decide +kernel)) ggX6_isExcepted_Jx4a65c_size_8abf5
set_option maxRecDepth 20000 in
theorem ggX6_isExcepted_Jx4a65c_get_915e3 : GoodIn wsX6_isExcepted wsJx4a65c_get_915e3 := goodIn_r _ [25, 21, 26, 27, 28, 29, 30, 31, 32, 33, 34, 35, 36, 19, 37, 38, 81, 82, 83] (by decide +kernel) (by decide +kernel)
set_option maxRecDepth 20000 in
theorem gX6_isExcepted_Jx4a65c_get_915e3 : GoodIn wsX6_isExcepted (wsV RX6 80 RJx4a65c yJx4a65c_get_915e3 wsJx4a65c_get_915e3) := goodIn_app (goodIn_of _ (by decide +kernel)) ggX6_isExcepted_Jx4a65c_get_915e3
set_option maxRecDepth 20000 in
theorem ggX6_isExcepted_X8_isThe : GoodIn wsX6_isExcepted wsX8_isThe := goodIn_ca (goodIn_r _ [42, 43, 44, 45, 6, 46, 47, 48, 49, 50, 12, 51, 14, 52, 53, 54, 55, 56, 9, 10, 11, 13, 15, 57, 58, 59, 60, 61, 68, 69, 70, 71, 72, 73, 74, 75, 76, 77, 78, 79, 80] (by decide +kernel) (by decide +kernel)) (goodIn_sub (fun _ h => List.mem_cons_of_mem _ (List.mem_append_right _ h)) (by decide +kernel))
set_option maxRecDepth 20000 in
theorem gX6_isExcepted_X8_isThe : GoodIn wsX6_isExcepted (wsV RX6 93 RX8 yX8_isThe wsX8_isThe) := goodIn_app (goodIn_of _ (by decide +kernel)) ggX6_isExcepted_X8_isThe
theorem dX6_isExcepted_0 : decode cX6_isExcepted 0 = .ok (.aload_n 1, 1) := by decide +kernel
theorem dX6_isExcepted_1 : decode cX6_isExcepted 1 = .ok (.iload_n 2, 1) := by decide +kernel
theorem dX6_isExcepted_2 : decode cX6_isExcepted 2 = .ok (.invokevirtual 90, 3) := by decide +kernel
theorem dX6_isExcepted_5 : decode cX6_isExcepted 5 = .ok (.istore_n 3, 1) := by decide +kernel
theorem dX6_isExcepted_6 : decode cX6_isExcepted 6 = .ok (.iconst 0, 1) := by decide +kernel
theorem dX6_isExcepted_7 : decode cX6_isExcepted 7 = .ok (.istore 4, 2) := by decide +kernel
theorem dX6_isExcepted_9 : decode cX6_isExcepted 9 = .ok (.iload 4, 2) := by decide +kernel
theorem dX6_isExcepted_11 : decode cX6_isExcepted 11 = .ok (.aload_n 0, 1) := by decide +kernel
theorem dX6_isExcepted_12 : decode cX6_isExcepted 12 = .ok (.getfield 49, 3) := by decide +kernel
theorem dX6_isExcepted_15 : decode cX6_isExcepted 15 = .ok (.invokevirtual 74, 3) := by decide +kernel
theorem dX6_isExcepted_18 : decode cX6_isExcepted 18 = .ok (.if_icmp .ge 31, 3) := by decide +kernel
theorem dX6_isExcepted_21 : decode cX6_isExcepted 21 = .ok (.aload_n 1, 1) := by decide +kernel
theorem dX6_isExcepted_22 : decode cX6_isExcepted 22 = .ok (.aload_n 0, 1) := by decide +kernel
theorem dX6_isExcepted_23 : decode cX6_isExcepted 23 = .ok (.getfield 49, 3) := by decide +kernel
theorem dX6_isExcepted_26 : decode cX6_isExcepted 26 = .ok (.iload 4, 2) := by decide +kernel
theorem dX6_isExcepted_28 : decode cX6_isExcepted 28 = .ok (.invokevirtual 80, 3) := by decide +kernel
theorem dX6_isExcepted_31 : decode cX6_isExcepted 31 = .ok (.checkcast 19, 3) := by decide +kernel
theorem dX6_isExcepted_34 : decode cX6_isExcepted 34 = .ok (.iload_n 3, 1) := by decide +kernel
theorem dX6_isExcepted_35 : decode cX6_isExcepted 35 = .ok (.invokevirtual 93, 3) := by decide +kernel
theorem dX6_isExcepted_38 : decode cX6_isExcepted 38 = .ok (.ifCond .eq 5, 3) := by decide +kernel
theorem dX6_isExcepted_41 : decode cX6_isExcepted 41 = .ok (.iconst 1, 1) := by decide +kernel
theorem dX6_isExcepted_42 : decode cX6_isExcepted 42 = .ok (.ireturn, 1) := by decide +kernel
theorem dX6_isExcepted_43 : decode cX6_isExcepted 43 = .ok (.iinc 4 1, 3) := by decide +kernel
theorem dX6_isExcepted_46 : decode cX6_isExcepted 46 = .ok (.goto (-37), 3) := by decide +kernel
theorem dX6_isExcepted_49 : decode cX6_isExcepted 49 = .ok (.iconst 0, 1) := by decide +kernel
theorem dX6_isExcepted_50 : decode cX6_isExcepted 50 = .ok (.ireturn, 1) := by decide +kernel
set_option maxRecDepth 20000 in
theorem ggX6_writeSuggestion_Jx4a65c_size_8abf5 : GoodIn wsX6_writeSuggestion wsJx4a65c_size_8abf5 := goodIn_r _ [7, 8, 64, 65, 66] (by decide +kernel) (by decide +kernel)
set_option maxRecDepth 20000 in
theorem gX6_writeSuggestion_Jx4a65c_size_8abf5 : GoodIn wsX6_writeSuggestion (wsV RX6 74 RJx4a65c yJx4a65c_size_8abf5 wsJx4a65c_size_8abf5) := goodIn_app (goodIn_of _ (by decide +kernel)) ggX6_writeSuggestion_Jx4a65c_size_8abf5
set_option maxRecDepth 20000 in
theorem ggX6_writeSuggestion_Jx4a65c_get_915e3 : GoodIn wsX6_writeSuggestion wsJx4a65c_get_915e3 := goodIn_r _ [12, 8, 13, 14, 15, 16, 17, 18, 19, 20, 21, 22, 23, 6, 24, 25, 64, 65, 66] (by decide +kernel) (by decide +kernel)
set_option maxRecDepth 20000 in
theorem gX6_writeSuggestion_Jx4a65c_get_915e3 : GoodIn wsX6_writeSuggestion (wsV RX6 80 RJx4a65c yJx4a65c_get_915e3 wsJx4a65c_get_915e3) := goodIn_app (goodIn_of _ (by decide +kernel)) ggX6_writeSuggestion_Jx4a65c_get_915e3
set_option maxRecDepth 20000 in
theorem ggX6_writeSuggestion_X5_count : GoodIn wsX6_writeSuggestion wsX5_count := goodIn_r _ [30, 31, 67, 68] (by decide +kernel) (by decide +kernel)
set_option maxRecDepth 20000 in
theorem gX6_writeSuggestion_X5_count : GoodIn wsX6_writeSuggestion (wsV RX6 18 RX5 yX5_count wsX5_count) := goodIn_app (goodIn_of _ (by decide +kernel)) ggX6_writeSuggestion_X5_count
set_option maxRecDepth 20000 in
theorem ggX6_writeSuggestion_X5_get : GoodIn wsX6_writeSuggestion wsX5_get := goodIn_ca (goodIn_r _ [35, 31, 36, 67, 68] (by decide +kernel) (by decide +kernel)) (goodIn_sub (fun _ h => List.mem_cons_of_mem _ (List.mem_append_right _ h)) (by decide +kernel))
set_option maxRecDepth 20000 in
theorem gX6_writeSuggestion_X5_get : GoodIn wsX6_writeSuggestion (wsV RX6 24 RX5 yX5_get wsX5_get) := goodIn_app (goodIn_of _ (by decide +kernel)) ggX6_writeSuggestion_X5_get
set_option maxRecDepth 20000 in
theorem ggX6_writeSuggestion_X6_writeTaken : GoodIn wsX6_writeSuggestion wsX6_writeTaken := goodIn_ca (goodIn_r _ [41, 42, 43, 3, 4, 5, 6, 7, 8, 9, 10, 11, 12, 13, 14, 15, 16, 17, 18, 19, 20, 21, 22, 23, 24, 25, 26, 27, 28, 29, 30, 31, 44, 45, 46, 47, 48, 49, 50, 51, 52, 33, 34, 35, 36, 53, 54, 55, 56, 58, 59, 60, 61, 62, 63, 69, 70, 71, 64, 65, 66, 67, 68, 72, 73, 74, 75, 76, 77, 78, 79, 80, 81, 82] (by decide +kernel) (by decide +kernel)) (goodIn_sub (fun _ h => List.mem_cons_of_mem _ (List.mem_append_right _ h)) (by decide +kernel))
set_option maxRecDepth 20000 in
theorem gX6_writeSuggestion_X6_writeTaken : GoodIn wsX6_writeSuggestion (wsV RX6 97 RX6 yX6_writeTaken wsX6_writeTaken) := goodIn_app (goodIn_of _ (by decide +kernel)) ggX6_writeSuggestion_X6_writeTaken
set_option maxRecDepth 20000 in
theorem ggX6_writeSuggestion_X5_add : GoodIn wsX6_writeSuggestion wsX5_add := goodIn_ca (goodIn_r _ [56, 31, 36, 67, 68] (by decide +kernel) (by decide +kernel)) (goodIn_sub (fun _ h => List.mem_cons_of_mem _ (List.mem_append_right _ h)) (by decide +kernel))
set_option maxRecDepth 20000 in
theorem gX6_writeSuggestion_X5_add : GoodIn wsX6_writeSuggestion (wsV RX6 101 RX5 yX5_add wsX5_add) := goodIn_app (goodIn_of _ (by decide +kernel)) ggX6_writeSuggestion_X5_add
theorem dX6_writeSuggestion_0 : decode cX6_writeSuggestion 0 = .ok (.iload_n 3, 1) := by decide +kernel
theorem dX6_writeSuggestion_1 : decode cX6_writeSuggestion 1 = .ok (.ifCond .lt 14, 3) := by decide +kernel
theorem dX6_writeSuggestion_4 : decode cX6_writeSuggestion 4 = .ok (.iload_n 3, 1) := by decide +kernel
theorem dX6_writeSuggestion_5 : decode cX6_writeSuggestion 5 = .ok (.aload_n 0, 1) := by decide +kernel
theorem dX6_writeSuggestion_6 : decode cX6_writeSuggestion 6 = .ok (.getfield 52, 3) := by decide +kernel
theorem dX6_writeSuggestion_9 : decode cX6_writeSuggestion 9 = .ok (.invokevirtual 74, 3) := by decide +kernel
theorem dX6_writeSuggestion_12 : decode cX6_writeSuggestion 12 = .ok (.if_icmp .lt 4, 3) := by decide +kernel
theorem dX6_writeSuggestion_15 : decode cX6_writeSuggestion 15 = .ok (.return_, 1) := by decide +kernel
theorem dX6_writeSuggestion_16 : decode cX6_writeSuggestion 16 = .ok (.aload_n 0, 1) := by decide +kernel
theorem dX6_writeSuggestion_17 : decode cX6_writeSuggestion 17 = .ok (.getfield 52, 3) := by decide +kernel
theorem dX6_writeSuggestion_20 : decode cX6_writeSuggestion 20 = .ok (.iload_n 3, 1) := by decide +kernel
theorem dX6_writeSuggestion_21 : decode cX6_writeSuggestion 21 = .ok (.invokevirtual 80, 3) := by decide +kernel
theorem dX6_writeSuggestion_24 : decode cX6_writeSuggestion 24 = .ok (.checkcast 19, 3) := by decide +kernel
theorem dX6_writeSuggestion_27 : decode cX6_writeSuggestion 27 = .ok (.astore 5, 2) := by decide +kernel
theorem dX6_writeSuggestion_29 : decode cX6_writeSuggestion 29 = .ok (.iconst 0, 1) := by decide +kernel
theorem dX6_writeSuggestion_30 : decode cX6_writeSuggestion 30 = .ok (.istore 6, 2) := by decide +kernel
theorem dX6_writeSuggestion_32 : decode cX6_writeSuggestion 32 = .ok (.iload 6, 2) := by decide +kernel
theorem dX6_writeSuggestion_34 : decode cX6_writeSuggestion 34 = .ok (.aload 5, 2) := by decide +kernel
theorem dX6_writeSuggestion_36 : decode cX6_writeSuggestion 36 = .ok (.invokevirtual 18, 3) := by decide +kernel
theorem dX6_writeSuggestion_39 : decode cX6_writeSuggestion 39 = .ok (.if_icmp .ge 44, 3) := by decide +kernel
theorem dX6_writeSuggestion_42 : decode cX6_writeSuggestion 42 = .ok (.aload 5, 2) := by decide +kernel
theorem dX6_writeSuggestion_44 : decode cX6_writeSuggestion 44 = .ok (.iload 6, 2) := by decide +kernel
theorem dX6_writeSuggestion_46 : decode cX6_writeSuggestion 46 = .ok (.invokevirtual 24, 3) := by decide +kernel
theorem dX6_writeSuggestion_49 : decode cX6_writeSuggestion 49 = .ok (.bipush 42, 2) := by decide +kernel
theorem dX6_writeSuggestion_51 : decode cX6_writeSuggestion 51 = .ok (.if_icmp .ne 14, 3) := by decide +kernel
theorem dX6_writeSuggestion_54 : decode cX6_writeSuggestion 54 = .ok (.aload_n 0, 1) := by decide +kernel
theorem dX6_writeSuggestion_55 : decode cX6_writeSuggestion 55 = .ok (.aload_n 1, 1) := by decide +kernel
theorem dX6_writeSuggestion_56 : decode cX6_writeSuggestion 56 = .ok (.iload_n 2, 1) := by decide +kernel
theorem dX6_writeSuggestion_57 : decode cX6_writeSuggestion 57 = .ok (.aload 4, 2) := by decide +kernel
theorem dX6_writeSuggestion_59 : decode cX6_writeSuggestion 59 = .ok (.invokevirtual 97, 3) := by decide +kernel
theorem dX6_writeSuggestion_62 : decode cX6_writeSuggestion 62 = .ok (.goto 15, 3) := by decide +kernel
theorem dX6_writeSuggestion_65 : decode cX6_writeSuggestion 65 = .ok (.aload 4, 2) := by decide +kernel
theorem dX6_writeSuggestion_67 : decode cX6_writeSuggestion 67 = .ok (.aload 5, 2) := by decide +kernel
theorem dX6_writeSuggestion_69 : decode cX6_writeSuggestion 69 = .ok (.iload 6, 2) := by decide +kernel
theorem dX6_writeSuggestion_71 : decode cX6_writeSuggestion 71 = .ok (.invokevirtual 24, 3) := by decide +kernel
theorem dX6_writeSuggestion_74 : decode cX6_writeSuggestion 74 = .ok (.invokevirtual 101, 3) := by decide +kernel
theorem dX6_writeSuggestion_77 : decode cX6_writeSuggestion 77 = .ok (.iinc 6 1, 3) := by decide +kernel
theorem dX6_writeSuggestion_80 : decode cX6_writeSuggestion 80 = .ok (.goto (-48), 3) := by decide +kernel
theorem dX6_writeSuggestion_83 : decode cX6_writeSuggestion 83 = .ok (.return_, 1) := by decide +kernel
set_option maxRecDepth 20000 in
theorem ggX6_writeTaken_Jx4a65c_size_8abf5 : GoodIn wsX6_writeTaken wsJx4a65c_size_8abf5 := goodIn_r _ [7, 8, 58, 59, 60] (by decide +kernel) (by decide +kernel)
set_option maxRecDepth 20000 in
theorem gX6_writeTaken_Jx4a65c_size_8abf5 : GoodIn wsX6_writeTaken (wsV RX6 74 RJx4a65c yJx4a65c_size_8abf5 wsJx4a65c_size_8abf5) := goodIn_app (goodIn_of _ (by decide +kernel)) ggX6_writeTaken_Jx4a65c_size_8abf5
set_option maxRecDepth 20000 in
theorem ggX6_writeTaken_Jx4a65c_get_915e3 : GoodIn wsX6_writeTaken wsJx4a65c_get_915e3 := goodIn_r _ [12, 8, 13, 14, 15, 16, 17, 18, 19, 20, 21, 22, 23, 6, 24, 25, 58, 59, 60] (by decide +kernel) (by decide +kernel)
set_option maxRecDepth 20000 in
theorem gX6_writeTaken_Jx4a65c_get_915e3 : GoodIn wsX6_writeTaken (wsV RX6 80 RJx4a65c yJx4a65c_get_915e3 wsJx4a65c_get_915e3) := goodIn_app (goodIn_of _ (by decide +kernel)) ggX6_writeTaken_Jx4a65c_get_915e3
set_option maxRecDepth 20000 in
theorem ggX6_writeTaken_X5_count : GoodIn wsX6_writeTaken wsX5_count := goodIn_r _ [30, 31, 61, 62] (by decide +kernel) (by decide +kernel)
set_option maxRecDepth 20000 in
theorem gX6_writeTaken_X5_count : GoodIn wsX6_writeTaken (wsV RX6 18 RX5 yX5_count wsX5_count) := goodIn_app (goodIn_of _ (by decide +kernel)) ggX6_writeTaken_X5_count
set_option maxRecDepth 20000 in
theorem ggX6_writeTaken_X8_write : GoodIn wsX6_writeTaken wsX8_write := goodIn_ca (goodIn_r _ [36, 37, 38, 39, 40, 41, 42, 29, 43, 31, 44, 45, 46, 47, 48, 63, 64, 65, 66, 67, 68, 69, 70, 71, 72, 73, 61, 62] (by decide +kernel) (by decide +kernel)) (goodIn_sub (fun _ h => List.mem_cons_of_mem _ (List.mem_append_right _ h)) (by decide +kernel))

theorem dX6_wish_5 : decode cX6_wish 5 = .ok (.ifCond .eq 11, 3) := by decide +kernel
theorem dX6_wish_8 : decode cX6_wish 8 = .ok (.aload_n 0, 1) := by decide +kernel
theorem dX6_wish_9 : decode cX6_wish 9 = .ok (.iload_n 2, 1) := by decide +kernel
theorem dX6_wish_10 : decode cX6_wish 10 = .ok (.invokevirtual 163, 3) := by decide +kernel
theorem dX6_wish_13 : decode cX6_wish 13 = .ok (.ifCond .ne 6, 3) := by decide +kernel
theorem dX6_wish_16 : decode cX6_wish 16 = .ok (.bipush (-2), 2) := by decide +kernel
theorem dX6_wish_18 : decode cX6_wish 18 = .ok (.ireturn, 1) := by decide +kernel
theorem dX6_wish_19 : decode cX6_wish 19 = .ok (.iload_n 3, 1) := by decide +kernel
theorem dX6_wish_20 : decode cX6_wish 20 = .ok (.invokestatic 203, 3) := by decide +kernel
theorem dX6_wish_23 : decode cX6_wish 23 = .ok (.ifCond .ne 6, 3) := by decide +kernel
theorem dX6_wish_26 : decode cX6_wish 26 = .ok (.bipush (-3), 2) := by decide +kernel
theorem dX6_wish_28 : decode cX6_wish 28 = .ok (.ireturn, 1) := by decide +kernel
theorem dX6_wish_29 : decode cX6_wish 29 = .ok (.aload_n 0, 1) := by decide +kernel
theorem dX6_wish_30 : decode cX6_wish 30 = .ok (.getfield 154, 3) := by decide +kernel
theorem dX6_wish_33 : decode cX6_wish 33 = .ok (.bipush 8, 2) := by decide +kernel
theorem dX6_wish_35 : decode cX6_wish 35 = .ok (.if_icmp .ne 6, 3) := by decide +kernel
theorem dX6_wish_38 : decode cX6_wish 38 = .ok (.bipush (-5), 2) := by decide +kernel
theorem dX6_wish_40 : decode cX6_wish 40 = .ok (.ireturn, 1) := by decide +kernel
theorem dX6_wish_41 : decode cX6_wish 41 = .ok (.aload_n 0, 1) := by decide +kernel
theorem dX6_wish_42 : decode cX6_wish 42 = .ok (.getfield 42, 3) := by decide +kernel
theorem dX6_wish_45 : decode cX6_wish 45 = .ok (.iconst 3, 1) := by decide +kernel
theorem dX6_wish_46 : decode cX6_wish 46 = .ok (.aload_n 0, 1) := by decide +kernel
theorem dX6_wish_47 : decode cX6_wish 47 = .ok (.getfield 154, 3) := by decide +kernel
theorem dX6_wish_50 : decode cX6_wish 50 = .ok (.imul, 1) := by decide +kernel
theorem dX6_wish_51 : decode cX6_wish 51 = .ok (.iload_n 1, 1) := by decide +kernel
theorem dX6_wish_52 : decode cX6_wish 52 = .ok (.iastore, 1) := by decide +kernel
theorem dX6_wish_53 : decode cX6_wish 53 = .ok (.aload_n 0, 1) := by decide +kernel
theorem dX6_wish_54 : decode cX6_wish 54 = .ok (.getfield 42, 3) := by decide +kernel
theorem dX6_wish_57 : decode cX6_wish 57 = .ok (.iconst 3, 1) := by decide +kernel
theorem dX6_wish_58 : decode cX6_wish 58 = .ok (.aload_n 0, 1) := by decide +kernel
theorem dX6_wish_59 : decode cX6_wish 59 = .ok (.getfield 154, 3) := by decide +kernel
theorem dX6_wish_62 : decode cX6_wish 62 = .ok (.imul, 1) := by decide +kernel
theorem dX6_wish_63 : decode cX6_wish 63 = .ok (.iconst 1, 1) := by decide +kernel
theorem dX6_wish_64 : decode cX6_wish 64 = .ok (.iadd, 1) := by decide +kernel
theorem dX6_wish_65 : decode cX6_wish 65 = .ok (.iload_n 2, 1) := by decide +kernel
theorem dX6_wish_66 : decode cX6_wish 66 = .ok (.iastore, 1) := by decide +kernel
theorem dX6_wish_67 : decode cX6_wish 67 = .ok (.aload_n 0, 1) := by decide +kernel
theorem dX6_wish_68 : decode cX6_wish 68 = .ok (.getfield 42, 3) := by decide +kernel
theorem dX6_wish_71 : decode cX6_wish 71 = .ok (.iconst 3, 1) := by decide +kernel
theorem dX6_wish_72 : decode cX6_wish 72 = .ok (.aload_n 0, 1) := by decide +kernel
theorem dX6_wish_73 : decode cX6_wish 73 = .ok (.getfield 154, 3) := by decide +kernel
theorem dX6_wish_76 : decode cX6_wish 76 = .ok (.imul, 1) := by decide +kernel
theorem dX6_wish_77 : decode cX6_wish 77 = .ok (.iconst 2, 1) := by decide +kernel
theorem dX6_wish_78 : decode cX6_wish 78 = .ok (.iadd, 1) := by decide +kernel
theorem dX6_wish_79 : decode cX6_wish 79 = .ok (.iload_n 3, 1) := by decide +kernel
theorem dX6_wish_80 : decode cX6_wish 80 = .ok (.iastore, 1) := by decide +kernel
theorem dX6_wish_81 : decode cX6_wish 81 = .ok (.aload_n 0, 1) := by decide +kernel
theorem dX6_wish_82 : decode cX6_wish 82 = .ok (.dup, 1) := by decide +kernel
theorem dX6_wish_83 : decode cX6_wish 83 = .ok (.getfield 154, 3) := by decide +kernel
theorem dX6_wish_86 : decode cX6_wish 86 = .ok (.iconst 1, 1) := by decide +kernel
theorem dX6_wish_87 : decode cX6_wish 87 = .ok (.iadd, 1) := by decide +kernel
theorem dX6_wish_88 : decode cX6_wish 88 = .ok (.putfield 154, 3) := by decide +kernel
theorem dX6_wish_91 : decode cX6_wish 91 = .ok (.aload_n 0, 1) := by decide +kernel
theorem dX6_wish_92 : decode cX6_wish 92 = .ok (.getfield 154, 3) := by decide +kernel
theorem dX6_wish_95 : decode cX6_wish 95 = .ok (.ireturn, 1) := by decide +kernel
theorem dX6_drop_0 : decode cX6_drop 0 = .ok (.aload_n 0, 1) := by decide +kernel
theorem dX6_drop_1 : decode cX6_drop 1 = .ok (.getfield 154, 3) := by decide +kernel
theorem dX6_drop_4 : decode cX6_drop 4 = .ok (.istore_n 1, 1) := by decide +kernel
theorem dX6_drop_5 : decode cX6_drop 5 = .ok (.aload_n 0, 1) := by decide +kernel
theorem dX6_drop_6 : decode cX6_drop 6 = .ok (.iconst 0, 1) := by decide +kernel
theorem dX6_drop_7 : decode cX6_drop 7 = .ok (.putfield 154, 3) := by decide +kernel
theorem dX6_drop_10 : decode cX6_drop 10 = .ok (.iload_n 1, 1) := by decide +kernel
theorem dX6_drop_11 : decode cX6_drop 11 = .ok (.ireturn, 1) := by decide +kernel
set_option maxRecDepth 20000 in
theorem ggX6_layMays_X6_can : GoodIn wsX6_layMays wsX6_can := goodIn_r _ [8, 9, 10, 11, 12, 7, 13, 14, 15, 16, 17, 18, 19, 20, 21, 22, 23, 24, 25, 26, 27, 28, 29, 30, 31, 32, 33, 34, 35, 36, 37, 38, 39, 40, 41, 42, 43, 44, 45, 46, 47, 48, 49, 50, 51, 52, 53, 54] (by decide +kernel) (by decide +kernel)
set_option maxRecDepth 20000 in
theorem gX6_layMays_X6_can : GoodIn wsX6_layMays (wsV RX6 142 RX6 yX6_can wsX6_can) := goodIn_app (goodIn_of _ (by decide +kernel)) ggX6_layMays_X6_can
theorem dX6_layMays_0 : decode cX6_layMays 0 = .ok (.iconst 0, 1) := by decide +kernel
theorem dX6_layMays_1 : decode cX6_layMays 1 = .ok (.istore_n 1, 1) := by decide +kernel
theorem dX6_layMays_2 : decode cX6_layMays 2 = .ok (.iload_n 1, 1) := by decide +kernel
theorem dX6_layMays_3 : decode cX6_layMays 3 = .ok (.aload_n 0, 1) := by decide +kernel
theorem dX6_layMays_4 : decode cX6_layMays 4 = .ok (.getfield 23, 3) := by decide +kernel
theorem dX6_layMays_7 : decode cX6_layMays 7 = .ok (.if_icmp .ge 58, 3) := by decide +kernel
theorem dX6_layMays_10 : decode cX6_layMays 10 = .ok (.aload_n 0, 1) := by decide +kernel
theorem dX6_layMays_11 : decode cX6_layMays 11 = .ok (.getfield 45, 3) := by decide +kernel
theorem dX6_layMays_14 : decode cX6_layMays 14 = .ok (.iload_n 1, 1) := by decide +kernel
theorem dX6_layMays_15 : decode cX6_layMays 15 = .ok (.bipush 64, 2) := by decide +kernel
theorem dX6_layMays_17 : decode cX6_layMays 17 = .ok (.iastore, 1) := by decide +kernel
theorem dX6_layMays_18 : decode cX6_layMays 18 = .ok (.iconst 0, 1) := by decide +kernel
theorem dX6_layMays_19 : decode cX6_layMays 19 = .ok (.istore_n 2, 1) := by decide +kernel
theorem dX6_layMays_20 : decode cX6_layMays 20 = .ok (.iload_n 2, 1) := by decide +kernel
theorem dX6_layMays_21 : decode cX6_layMays 21 = .ok (.aload_n 0, 1) := by decide +kernel
theorem dX6_layMays_22 : decode cX6_layMays 22 = .ok (.getfield 131, 3) := by decide +kernel
theorem dX6_layMays_25 : decode cX6_layMays 25 = .ok (.if_icmp .ge 34, 3) := by decide +kernel
theorem dX6_layMays_28 : decode cX6_layMays 28 = .ok (.aload_n 0, 1) := by decide +kernel
theorem dX6_layMays_29 : decode cX6_layMays 29 = .ok (.getfield 45, 3) := by decide +kernel
theorem dX6_layMays_32 : decode cX6_layMays 32 = .ok (.iload_n 1, 1) := by decide +kernel
theorem dX6_layMays_33 : decode cX6_layMays 33 = .ok (.dup2, 1) := by decide +kernel
theorem dX6_layMays_34 : decode cX6_layMays 34 = .ok (.iaload, 1) := by decide +kernel
theorem dX6_layMays_35 : decode cX6_layMays 35 = .ok (.aload_n 0, 1) := by decide +kernel
theorem dX6_layMays_36 : decode cX6_layMays 36 = .ok (.iload_n 1, 1) := by decide +kernel
theorem dX6_layMays_37 : decode cX6_layMays 37 = .ok (.iload_n 2, 1) := by decide +kernel
theorem dX6_layMays_38 : decode cX6_layMays 38 = .ok (.invokevirtual 142, 3) := by decide +kernel
theorem dX6_layMays_41 : decode cX6_layMays 41 = .ok (.ifCond .eq 9, 3) := by decide +kernel
theorem dX6_layMays_44 : decode cX6_layMays 44 = .ok (.iconst 1, 1) := by decide +kernel
theorem dX6_layMays_45 : decode cX6_layMays 45 = .ok (.iload_n 2, 1) := by decide +kernel
theorem dX6_layMays_46 : decode cX6_layMays 46 = .ok (.ishl, 1) := by decide +kernel
theorem dX6_layMays_47 : decode cX6_layMays 47 = .ok (.goto 4, 3) := by decide +kernel
theorem dX6_layMays_50 : decode cX6_layMays 50 = .ok (.iconst 0, 1) := by decide +kernel
theorem dX6_layMays_51 : decode cX6_layMays 51 = .ok (.ior, 1) := by decide +kernel
theorem dX6_layMays_52 : decode cX6_layMays 52 = .ok (.iastore, 1) := by decide +kernel
theorem dX6_layMays_53 : decode cX6_layMays 53 = .ok (.iinc 2 1, 3) := by decide +kernel
theorem dX6_layMays_56 : decode cX6_layMays 56 = .ok (.goto (-36), 3) := by decide +kernel
theorem dX6_layMays_59 : decode cX6_layMays 59 = .ok (.iinc 1 1, 3) := by decide +kernel
theorem dX6_layMays_62 : decode cX6_layMays 62 = .ok (.goto (-60), 3) := by decide +kernel
theorem dX6_layMays_65 : decode cX6_layMays 65 = .ok (.return_, 1) := by decide +kernel
set_option maxRecDepth 20000 in
theorem ggX6_rows_X6_bits : GoodIn wsX6_rows wsX6_bits := goodIn_r _ [6] (by decide +kernel) (by decide +kernel)
set_option maxRecDepth 20000 in
theorem gX6_rows_X6_bits : GoodIn wsX6_rows (va_wsS RX6 168 yX6_bits wsX6_bits) := goodIn_app (goodIn_of _ (by decide +kernel)) ggX6_rows_X6_bits
theorem dX6_rows_0 : decode cX6_rows 0 = .ok (.iconst 1, 1) := by decide +kernel
theorem dX6_rows_1 : decode cX6_rows 1 = .ok (.istore_n 1, 1) := by decide +kernel
theorem dX6_rows_2 : decode cX6_rows 2 = .ok (.iconst 0, 1) := by decide +kernel
theorem dX6_rows_3 : decode cX6_rows 3 = .ok (.istore_n 2, 1) := by decide +kernel
theorem dX6_rows_4 : decode cX6_rows 4 = .ok (.iload_n 2, 1) := by decide +kernel
theorem dX6_rows_5 : decode cX6_rows 5 = .ok (.aload_n 0, 1) := by decide +kernel
theorem dX6_rows_6 : decode cX6_rows 6 = .ok (.getfield 23, 3) := by decide +kernel
theorem dX6_rows_9 : decode cX6_rows 9 = .ok (.if_icmp .ge 21, 3) := by decide +kernel
theorem dX6_rows_12 : decode cX6_rows 12 = .ok (.iload_n 1, 1) := by decide +kernel
theorem dX6_rows_13 : decode cX6_rows 13 = .ok (.aload_n 0, 1) := by decide +kernel
theorem dX6_rows_14 : decode cX6_rows 14 = .ok (.getfield 45, 3) := by decide +kernel
theorem dX6_rows_17 : decode cX6_rows 17 = .ok (.iload_n 2, 1) := by decide +kernel
theorem dX6_rows_18 : decode cX6_rows 18 = .ok (.iaload, 1) := by decide +kernel
theorem dX6_rows_19 : decode cX6_rows 19 = .ok (.invokestatic 168, 3) := by decide +kernel
theorem dX6_rows_22 : decode cX6_rows 22 = .ok (.imul, 1) := by decide +kernel
theorem dX6_rows_23 : decode cX6_rows 23 = .ok (.istore_n 1, 1) := by decide +kernel
theorem dX6_rows_24 : decode cX6_rows 24 = .ok (.iinc 2 1, 3) := by decide +kernel
theorem dX6_rows_27 : decode cX6_rows 27 = .ok (.goto (-23), 3) := by decide +kernel
theorem dX6_rows_30 : decode cX6_rows 30 = .ok (.iload_n 1, 1) := by decide +kernel
theorem dX6_rows_31 : decode cX6_rows 31 = .ok (.ireturn, 1) := by decide +kernel
theorem dX6_none_0 : decode cX6_none 0 = .ok (.iconst 0, 1) := by decide +kernel
theorem dX6_none_1 : decode cX6_none 1 = .ok (.istore_n 1, 1) := by decide +kernel
theorem dX6_none_2 : decode cX6_none 2 = .ok (.iload_n 1, 1) := by decide +kernel
theorem dX6_none_3 : decode cX6_none 3 = .ok (.aload_n 0, 1) := by decide +kernel
theorem dX6_none_4 : decode cX6_none 4 = .ok (.getfield 23, 3) := by decide +kernel
theorem dX6_none_7 : decode cX6_none 7 = .ok (.if_icmp .ge 16, 3) := by decide +kernel
theorem dX6_none_10 : decode cX6_none 10 = .ok (.aload_n 0, 1) := by decide +kernel
theorem dX6_none_11 : decode cX6_none 11 = .ok (.getfield 45, 3) := by decide +kernel
theorem dX6_none_14 : decode cX6_none 14 = .ok (.iload_n 1, 1) := by decide +kernel
theorem dX6_none_15 : decode cX6_none 15 = .ok (.iconst 0, 1) := by decide +kernel
theorem dX6_none_16 : decode cX6_none 16 = .ok (.iastore, 1) := by decide +kernel
theorem dX6_none_17 : decode cX6_none 17 = .ok (.iinc 1 1, 3) := by decide +kernel
theorem dX6_none_20 : decode cX6_none 20 = .ok (.goto (-18), 3) := by decide +kernel
theorem dX6_none_23 : decode cX6_none 23 = .ok (.return_, 1) := by decide +kernel
set_option maxRecDepth 20000 in
theorem ggX6_bind_X6_firstOf : GoodIn wsX6_bind wsX6_firstOf := goodIn_r _ [6, 7, 8, 9, 5, 10, 11, 12, 13, 14, 15, 16, 17, 18, 19, 20, 21, 22, 23, 24, 25, 26, 27, 28, 29, 30, 31, 32, 33, 34, 35, 36, 37, 38, 39, 45, 46, 47, 48, 49, 50, 51, 52, 53, 54, 55, 56, 57, 58, 59, 60, 61, 62, 63, 64, 65, 66, 67, 68, 69, 70] (by decide +kernel) (by decide +kernel)
set_option maxRecDepth 20000 in
theorem gX6_bind_X6_firstOf : GoodIn wsX6_bind (wsV RX6 209 RX6 yX6_firstOf wsX6_firstOf) := goodIn_app (goodIn_of _ (by decide +kernel)) ggX6_bind_X6_firstOf
set_option maxRecDepth 20000 in
theorem ggX6_bind_X6_none : GoodIn wsX6_bind wsX6_none := goodIn_r _ [43, 44, 1, 45, 46, 47, 48, 49, 50, 51, 52, 53, 54, 55, 56, 57, 58, 59, 60, 61, 62, 63, 64, 65, 66, 67, 68, 69, 70] (by decide +kernel) (by decide +kernel)
set_option maxRecDepth 20000 in
theorem gX6_bind_X6_none : GoodIn wsX6_bind (wsV RX6 213 RX6 yX6_none wsX6_none) := goodIn_app (goodIn_of _ (by decide +kernel)) ggX6_bind_X6_none
theorem dX6_bind_0 : decode cX6_bind 0 = .ok (.aload_n 0, 1) := by decide +kernel
theorem dX6_bind_1 : decode cX6_bind 1 = .ok (.iload_n 1, 1) := by decide +kernel
theorem dX6_bind_2 : decode cX6_bind 2 = .ok (.iload_n 2, 1) := by decide +kernel
theorem dX6_bind_3 : decode cX6_bind 3 = .ok (.iload_n 3, 1) := by decide +kernel
theorem dX6_bind_4 : decode cX6_bind 4 = .ok (.invokevirtual 209, 3) := by decide +kernel
theorem dX6_bind_7 : decode cX6_bind 7 = .ok (.istore 4, 2) := by decide +kernel
theorem dX6_bind_9 : decode cX6_bind 9 = .ok (.iload 4, 2) := by decide +kernel
theorem dX6_bind_11 : decode cX6_bind 11 = .ok (.iconst (-1), 1) := by decide +kernel
theorem dX6_bind_12 : decode cX6_bind 12 = .ok (.if_icmp .ne 10, 3) := by decide +kernel
theorem dX6_bind_15 : decode cX6_bind 15 = .ok (.aload_n 0, 1) := by decide +kernel
theorem dX6_bind_16 : decode cX6_bind 16 = .ok (.invokevirtual 213, 3) := by decide +kernel
theorem dX6_bind_19 : decode cX6_bind 19 = .ok (.goto 16, 3) := by decide +kernel
theorem dX6_bind_22 : decode cX6_bind 22 = .ok (.aload_n 0, 1) := by decide +kernel
theorem dX6_bind_23 : decode cX6_bind 23 = .ok (.getfield 45, 3) := by decide +kernel
theorem dX6_bind_26 : decode cX6_bind 26 = .ok (.iload 4, 2) := by decide +kernel
theorem dX6_bind_28 : decode cX6_bind 28 = .ok (.dup2, 1) := by decide +kernel
theorem dX6_bind_29 : decode cX6_bind 29 = .ok (.iaload, 1) := by decide +kernel
theorem dX6_bind_30 : decode cX6_bind 30 = .ok (.iconst 1, 1) := by decide +kernel
theorem dX6_bind_31 : decode cX6_bind 31 = .ok (.iload_n 2, 1) := by decide +kernel
theorem dX6_bind_32 : decode cX6_bind 32 = .ok (.ishl, 1) := by decide +kernel
theorem dX6_bind_33 : decode cX6_bind 33 = .ok (.iand, 1) := by decide +kernel
theorem dX6_bind_34 : decode cX6_bind 34 = .ok (.iastore, 1) := by decide +kernel
theorem dX6_bind_35 : decode cX6_bind 35 = .ok (.return_, 1) := by decide +kernel
set_option maxRecDepth 20000 in
theorem ggX6_ways_X6_layMays : GoodIn wsX6_ways wsX6_layMays := goodIn_r _ [7, 8, 9, 10, 11, 12, 13, 6, 14, 15, 16, 17, 18, 19, 20, 21, 22, 23, 24, 25, 26, 27, 28, 29, 30, 31, 32, 33, 34, 60, 61, 62, 63, 64, 65, 66, 67, 68, 69, 70, 71, 72, 73, 74, 75, 76, 77, 78, 79, 80, 81, 82, 83, 84, 85] (by decide +kernel) (by decide +kernel)
set_option maxRecDepth 20000 in
theorem gX6_ways_X6_layMays : GoodIn wsX6_ways (wsV RX6 216 RX6 yX6_layMays wsX6_layMays) := goodIn_app (goodIn_of _ (by decide +kernel)) ggX6_ways_X6_layMays
set_option maxRecDepth 20000 in
theorem ggX6_ways_X6_bind : GoodIn wsX6_ways wsX6_bind := goodIn_r _ [38, 9, 39, 40, 41, 6, 42, 43, 44, 45, 46, 47, 48, 49, 50, 51, 11, 12, 13, 14, 15, 16, 17, 18, 19, 20, 21, 22, 23, 24, 25, 26, 27, 28, 29, 30, 31, 32, 33, 34, 52, 53, 54, 55, 8, 60, 61, 62, 63, 64, 65, 66, 67, 68, 69, 70, 71, 72, 73, 74, 75, 76, 77, 78, 79, 80, 81, 82, 83, 84, 85] (by decide +kernel) (by decide +kernel)
set_option maxRecDepth 20000 in
theorem gX6_ways_X6_bind : GoodIn wsX6_ways (wsV RX6 219 RX6 yX6_bind wsX6_bind) := goodIn_app (goodIn_of _ (by decide +kernel)) ggX6_ways_X6_bind
set_option maxRecDepth 20000 in
theorem ggX6_ways_X6_rows : GoodIn wsX6_ways wsX6_rows := goodIn_r _ [59, 8, 9, 29, 30, 6, 31, 60, 61, 62, 63, 64, 65, 66, 67, 68, 69, 70, 71, 72, 73, 74, 75, 76, 77, 78, 79, 80, 81, 82, 83, 84, 85] (by decide +kernel) (by decide +kernel)
set_option maxRecDepth 20000 in
theorem gX6_ways_X6_rows : GoodIn wsX6_ways (wsV RX6 223 RX6 yX6_rows wsX6_rows) := goodIn_app (goodIn_of _ (by decide +kernel)) ggX6_ways_X6_rows
theorem dX6_ways_0 : decode cX6_ways 0 = .ok (.aload_n 0, 1) := by decide +kernel
theorem dX6_ways_1 : decode cX6_ways 1 = .ok (.invokevirtual 216, 3) := by decide +kernel
theorem dX6_ways_4 : decode cX6_ways 4 = .ok (.iconst 0, 1) := by decide +kernel
theorem dX6_ways_5 : decode cX6_ways 5 = .ok (.istore_n 1, 1) := by decide +kernel
theorem dX6_ways_6 : decode cX6_ways 6 = .ok (.iload_n 1, 1) := by decide +kernel
theorem dX6_ways_7 : decode cX6_ways 7 = .ok (.aload_n 0, 1) := by decide +kernel
theorem dX6_ways_8 : decode cX6_ways 8 = .ok (.getfield 154, 3) := by decide +kernel
theorem dX6_ways_11 : decode cX6_ways 11 = .ok (.if_icmp .ge 41, 3) := by decide +kernel
theorem dX6_ways_14 : decode cX6_ways 14 = .ok (.aload_n 0, 1) := by decide +kernel
theorem dX6_ways_15 : decode cX6_ways 15 = .ok (.aload_n 0, 1) := by decide +kernel
theorem dX6_ways_16 : decode cX6_ways 16 = .ok (.getfield 42, 3) := by decide +kernel
theorem dX6_ways_19 : decode cX6_ways 19 = .ok (.iconst 3, 1) := by decide +kernel
theorem dX6_ways_20 : decode cX6_ways 20 = .ok (.iload_n 1, 1) := by decide +kernel
theorem dX6_ways_21 : decode cX6_ways 21 = .ok (.imul, 1) := by decide +kernel
theorem dX6_ways_22 : decode cX6_ways 22 = .ok (.iaload, 1) := by decide +kernel
theorem dX6_ways_23 : decode cX6_ways 23 = .ok (.aload_n 0, 1) := by decide +kernel
theorem dX6_ways_24 : decode cX6_ways 24 = .ok (.getfield 42, 3) := by decide +kernel
theorem dX6_ways_27 : decode cX6_ways 27 = .ok (.iconst 3, 1) := by decide +kernel
theorem dX6_ways_28 : decode cX6_ways 28 = .ok (.iload_n 1, 1) := by decide +kernel
theorem dX6_ways_29 : decode cX6_ways 29 = .ok (.imul, 1) := by decide +kernel
theorem dX6_ways_30 : decode cX6_ways 30 = .ok (.iconst 1, 1) := by decide +kernel
theorem dX6_ways_31 : decode cX6_ways 31 = .ok (.iadd, 1) := by decide +kernel
theorem dX6_ways_32 : decode cX6_ways 32 = .ok (.iaload, 1) := by decide +kernel
theorem dX6_ways_33 : decode cX6_ways 33 = .ok (.aload_n 0, 1) := by decide +kernel
theorem dX6_ways_34 : decode cX6_ways 34 = .ok (.getfield 42, 3) := by decide +kernel
theorem dX6_ways_37 : decode cX6_ways 37 = .ok (.iconst 3, 1) := by decide +kernel
theorem dX6_ways_38 : decode cX6_ways 38 = .ok (.iload_n 1, 1) := by decide +kernel
theorem dX6_ways_39 : decode cX6_ways 39 = .ok (.imul, 1) := by decide +kernel
theorem dX6_ways_40 : decode cX6_ways 40 = .ok (.iconst 2, 1) := by decide +kernel
theorem dX6_ways_41 : decode cX6_ways 41 = .ok (.iadd, 1) := by decide +kernel
theorem dX6_ways_42 : decode cX6_ways 42 = .ok (.iaload, 1) := by decide +kernel
theorem dX6_ways_43 : decode cX6_ways 43 = .ok (.invokevirtual 219, 3) := by decide +kernel
theorem dX6_ways_46 : decode cX6_ways 46 = .ok (.iinc 1 1, 3) := by decide +kernel
theorem dX6_ways_49 : decode cX6_ways 49 = .ok (.goto (-43), 3) := by decide +kernel
theorem dX6_ways_52 : decode cX6_ways 52 = .ok (.aload_n 0, 1) := by decide +kernel
theorem dX6_ways_53 : decode cX6_ways 53 = .ok (.invokevirtual 223, 3) := by decide +kernel
theorem dX6_ways_56 : decode cX6_ways 56 = .ok (.ireturn, 1) := by decide +kernel
theorem dX6_laySums_0 : decode cX6_laySums 0 = .ok (.aload_n 0, 1) := by decide +kernel
theorem dX6_laySums_1 : decode cX6_laySums 1 = .ok (.iconst 0, 1) := by decide +kernel
theorem dX6_laySums_2 : decode cX6_laySums 2 = .ok (.putfield 226, 3) := by decide +kernel
theorem dX6_laySums_5 : decode cX6_laySums 5 = .ok (.aload_n 0, 1) := by decide +kernel
theorem dX6_laySums_6 : decode cX6_laySums 6 = .ok (.iconst 0, 1) := by decide +kernel
theorem dX6_laySums_7 : decode cX6_laySums 7 = .ok (.putfield 229, 3) := by decide +kernel
theorem dX6_laySums_10 : decode cX6_laySums 10 = .ok (.iconst 0, 1) := by decide +kernel
theorem dX6_laySums_11 : decode cX6_laySums 11 = .ok (.istore_n 2, 1) := by decide +kernel
theorem dX6_laySums_12 : decode cX6_laySums 12 = .ok (.iload_n 2, 1) := by decide +kernel
theorem dX6_laySums_13 : decode cX6_laySums 13 = .ok (.bipush 8, 2) := by decide +kernel
theorem dX6_laySums_15 : decode cX6_laySums 15 = .ok (.iload_n 1, 1) := by decide +kernel
theorem dX6_laySums_16 : decode cX6_laySums 16 = .ok (.imul, 1) := by decide +kernel
theorem dX6_laySums_17 : decode cX6_laySums 17 = .ok (.if_icmp .ge 107, 3) := by decide +kernel
theorem dX6_laySums_20 : decode cX6_laySums 20 = .ok (.iload_n 2, 1) := by decide +kernel
theorem dX6_laySums_21 : decode cX6_laySums 21 = .ok (.bipush 8, 2) := by decide +kernel
theorem dX6_laySums_23 : decode cX6_laySums 23 = .ok (.irem, 1) := by decide +kernel
theorem dX6_laySums_24 : decode cX6_laySums 24 = .ok (.aload_n 0, 1) := by decide +kernel
theorem dX6_laySums_25 : decode cX6_laySums 25 = .ok (.getfield 23, 3) := by decide +kernel
theorem dX6_laySums_28 : decode cX6_laySums 28 = .ok (.if_icmp .ge 12, 3) := by decide +kernel
theorem dX6_laySums_31 : decode cX6_laySums 31 = .ok (.aload_n 0, 1) := by decide +kernel
theorem dX6_laySums_32 : decode cX6_laySums 32 = .ok (.getfield 39, 3) := by decide +kernel
theorem dX6_laySums_35 : decode cX6_laySums 35 = .ok (.iload_n 2, 1) := by decide +kernel
theorem dX6_laySums_36 : decode cX6_laySums 36 = .ok (.iaload, 1) := by decide +kernel
theorem dX6_laySums_37 : decode cX6_laySums 37 = .ok (.goto 4, 3) := by decide +kernel
theorem dX6_laySums_40 : decode cX6_laySums 40 = .ok (.iconst (-1), 1) := by decide +kernel
theorem dX6_laySums_41 : decode cX6_laySums 41 = .ok (.istore_n 3, 1) := by decide +kernel
theorem dX6_laySums_42 : decode cX6_laySums 42 = .ok (.aload_n 0, 1) := by decide +kernel
theorem dX6_laySums_43 : decode cX6_laySums 43 = .ok (.dup, 1) := by decide +kernel
theorem dX6_laySums_44 : decode cX6_laySums 44 = .ok (.getfield 226, 3) := by decide +kernel
theorem dX6_laySums_47 : decode cX6_laySums 47 = .ok (.iload_n 3, 1) := by decide +kernel
theorem dX6_laySums_48 : decode cX6_laySums 48 = .ok (.iconst (-1), 1) := by decide +kernel
theorem dX6_laySums_49 : decode cX6_laySums 49 = .ok (.if_icmp .ne 7, 3) := by decide +kernel
theorem dX6_laySums_52 : decode cX6_laySums 52 = .ok (.iconst 0, 1) := by decide +kernel
theorem dX6_laySums_53 : decode cX6_laySums 53 = .ok (.goto 14, 3) := by decide +kernel
theorem dX6_laySums_56 : decode cX6_laySums 56 = .ok (.aload_n 0, 1) := by decide +kernel
theorem dX6_laySums_57 : decode cX6_laySums 57 = .ok (.getfield 36, 3) := by decide +kernel
theorem dX6_laySums_60 : decode cX6_laySums 60 = .ok (.bipush 6, 2) := by decide +kernel
theorem dX6_laySums_62 : decode cX6_laySums 62 = .ok (.iload_n 3, 1) := by decide +kernel
theorem dX6_laySums_63 : decode cX6_laySums 63 = .ok (.imul, 1) := by decide +kernel
theorem dX6_laySums_64 : decode cX6_laySums 64 = .ok (.iconst 3, 1) := by decide +kernel
theorem dX6_laySums_65 : decode cX6_laySums 65 = .ok (.iadd, 1) := by decide +kernel
theorem dX6_laySums_66 : decode cX6_laySums 66 = .ok (.iaload, 1) := by decide +kernel
theorem dX6_laySums_67 : decode cX6_laySums 67 = .ok (.iadd, 1) := by decide +kernel
theorem dX6_laySums_68 : decode cX6_laySums 68 = .ok (.putfield 226, 3) := by decide +kernel
theorem dX6_laySums_71 : decode cX6_laySums 71 = .ok (.aload_n 0, 1) := by decide +kernel
theorem dX6_laySums_72 : decode cX6_laySums 72 = .ok (.dup, 1) := by decide +kernel
theorem dX6_laySums_73 : decode cX6_laySums 73 = .ok (.getfield 229, 3) := by decide +kernel
theorem dX6_laySums_76 : decode cX6_laySums 76 = .ok (.iload_n 3, 1) := by decide +kernel
theorem dX6_laySums_77 : decode cX6_laySums 77 = .ok (.iconst (-1), 1) := by decide +kernel
theorem dX6_laySums_78 : decode cX6_laySums 78 = .ok (.if_icmp .eq 21, 3) := by decide +kernel
theorem dX6_laySums_81 : decode cX6_laySums 81 = .ok (.aload_n 0, 1) := by decide +kernel
theorem dX6_laySums_82 : decode cX6_laySums 82 = .ok (.getfield 36, 3) := by decide +kernel
theorem dX6_laySums_85 : decode cX6_laySums 85 = .ok (.bipush 6, 2) := by decide +kernel
theorem dX6_laySums_87 : decode cX6_laySums 87 = .ok (.iload_n 3, 1) := by decide +kernel
theorem dX6_laySums_88 : decode cX6_laySums 88 = .ok (.imul, 1) := by decide +kernel
theorem dX6_laySums_89 : decode cX6_laySums 89 = .ok (.iconst 2, 1) := by decide +kernel
theorem dX6_laySums_90 : decode cX6_laySums 90 = .ok (.iadd, 1) := by decide +kernel
theorem dX6_laySums_91 : decode cX6_laySums 91 = .ok (.iaload, 1) := by decide +kernel
theorem dX6_laySums_92 : decode cX6_laySums 92 = .ok (.iload_n 2, 1) := by decide +kernel
theorem dX6_laySums_93 : decode cX6_laySums 93 = .ok (.bipush 8, 2) := by decide +kernel
theorem dX6_laySums_95 : decode cX6_laySums 95 = .ok (.irem, 1) := by decide +kernel
theorem dX6_laySums_96 : decode cX6_laySums 96 = .ok (.if_icmp .ne 7, 3) := by decide +kernel
theorem dX6_laySums_99 : decode cX6_laySums 99 = .ok (.iconst 0, 1) := by decide +kernel
theorem dX6_laySums_100 : decode cX6_laySums 100 = .ok (.goto 14, 3) := by decide +kernel
theorem dX6_laySums_103 : decode cX6_laySums 103 = .ok (.aload_n 0, 1) := by decide +kernel
theorem dX6_laySums_104 : decode cX6_laySums 104 = .ok (.getfield 36, 3) := by decide +kernel
theorem dX6_laySums_107 : decode cX6_laySums 107 = .ok (.bipush 6, 2) := by decide +kernel
theorem dX6_laySums_109 : decode cX6_laySums 109 = .ok (.iload_n 3, 1) := by decide +kernel
theorem dX6_laySums_110 : decode cX6_laySums 110 = .ok (.imul, 1) := by decide +kernel
theorem dX6_laySums_111 : decode cX6_laySums 111 = .ok (.iconst 4, 1) := by decide +kernel
theorem dX6_laySums_112 : decode cX6_laySums 112 = .ok (.iadd, 1) := by decide +kernel
theorem dX6_laySums_113 : decode cX6_laySums 113 = .ok (.iaload, 1) := by decide +kernel
theorem dX6_laySums_114 : decode cX6_laySums 114 = .ok (.iadd, 1) := by decide +kernel
theorem dX6_laySums_115 : decode cX6_laySums 115 = .ok (.putfield 229, 3) := by decide +kernel
theorem dX6_laySums_118 : decode cX6_laySums 118 = .ok (.iinc 2 1, 3) := by decide +kernel
theorem dX6_laySums_121 : decode cX6_laySums 121 = .ok (.goto (-109), 3) := by decide +kernel
theorem dX6_laySums_124 : decode cX6_laySums 124 = .ok (.return_, 1) := by decide +kernel
set_option maxRecDepth 20000 in
theorem ggX6_isDays_X6_in : GoodIn wsX6_isDays wsX6_in := goodIn_r _ [5] (by decide +kernel) (by decide +kernel)
set_option maxRecDepth 20000 in
theorem gX6_isDays_X6_in : GoodIn wsX6_isDays (va_wsS RX6 56 yX6_in wsX6_in) := goodIn_app (goodIn_of _ (by decide +kernel)) ggX6_isDays_X6_in
theorem dX6_isDays_0 : decode cX6_isDays 0 = .ok (.iload_n 0, 1) := by decide +kernel
theorem dX6_isDays_1 : decode cX6_isDays 1 = .ok (.i2l, 1) := by decide +kernel
theorem dX6_isDays_2 : decode cX6_isDays 2 = .ok (.lconst 1, 1) := by decide +kernel
theorem dX6_isDays_3 : decode cX6_isDays 3 = .ok (.ldc2_w 189, 3) := by decide +kernel
theorem dX6_isDays_6 : decode cX6_isDays 6 = .ok (.invokestatic 56, 3) := by decide +kernel
theorem dX6_isDays_9 : decode cX6_isDays 9 = .ok (.ireturn, 1) := by decide +kernel
set_option maxRecDepth 20000 in
theorem ggX6_sum_X6_isDays : GoodIn wsX6_sum wsX6_isDays := goodIn_r _ [6, 7, 8, 9, 5, 10] (by decide +kernel) (by decide +kernel)
set_option maxRecDepth 20000 in
theorem gX6_sum_X6_isDays : GoodIn wsX6_sum (va_wsS RX6 232 yX6_isDays wsX6_isDays) := goodIn_app (goodIn_of _ (by decide +kernel)) ggX6_sum_X6_isDays
set_option maxRecDepth 20000 in
theorem ggX6_sum_X6_in : GoodIn wsX6_sum wsX6_in := goodIn_r _ [10] (by decide +kernel) (by decide +kernel)
set_option maxRecDepth 20000 in
theorem gX6_sum_X6_in : GoodIn wsX6_sum (va_wsS RX6 56 yX6_in wsX6_in) := goodIn_app (goodIn_of _ (by decide +kernel)) ggX6_sum_X6_in
set_option maxRecDepth 20000 in
theorem ggX6_sum_X6_forbiddenNow : GoodIn wsX6_sum wsX6_forbiddenNow := goodIn_r _ [14, 15, 16, 52, 53, 54, 55, 56, 57, 58, 59, 60, 61, 62, 63, 64, 65, 66, 67, 68, 69, 70, 71, 72, 73, 74, 75, 76, 77] (by decide +kernel) (by decide +kernel)
set_option maxRecDepth 20000 in
theorem gX6_sum_X6_forbiddenNow : GoodIn wsX6_sum (wsV RX6 191 RX6 yX6_forbiddenNow wsX6_forbiddenNow) := goodIn_app (goodIn_of _ (by decide +kernel)) ggX6_sum_X6_forbiddenNow
set_option maxRecDepth 20000 in
theorem ggX6_sum_X6_layDays : GoodIn wsX6_sum wsX6_layDays := goodIn_r _ [20, 21, 22, 23, 24, 25, 26, 5, 27, 28, 29, 30, 31, 32, 16, 33, 34, 35, 36, 37, 38, 39, 40, 41, 42, 43, 44, 45, 46, 47, 52, 53, 54, 55, 56, 57, 58, 59, 60, 61, 62, 63, 64, 65, 66, 67, 68, 69, 70, 71, 72, 73, 74, 75, 76, 77] (by decide +kernel) (by decide +kernel)
set_option maxRecDepth 20000 in
theorem gX6_sum_X6_layDays : GoodIn wsX6_sum (wsV RX6 194 RX6 yX6_layDays wsX6_layDays) := goodIn_app (goodIn_of _ (by decide +kernel)) ggX6_sum_X6_layDays
set_option maxRecDepth 20000 in
theorem ggX6_sum_X6_laySums : GoodIn wsX6_sum wsX6_laySums := goodIn_r _ [51, 1, 2, 21, 22, 16, 52, 53, 54, 55, 56, 57, 58, 59, 60, 61, 62, 63, 64, 65, 66, 67, 68, 69, 70, 71, 72, 73, 74, 75, 76, 77] (by decide +kernel) (by decide +kernel)
set_option maxRecDepth 20000 in
theorem gX6_sum_X6_laySums : GoodIn wsX6_sum (wsV RX6 235 RX6 yX6_laySums wsX6_laySums) := goodIn_app (goodIn_of _ (by decide +kernel)) ggX6_sum_X6_laySums
theorem dX6_sum_0 : decode cX6_sum 0 = .ok (.iload_n 1, 1) := by decide +kernel
theorem dX6_sum_1 : decode cX6_sum 1 = .ok (.invokestatic 232, 3) := by decide +kernel
theorem dX6_sum_4 : decode cX6_sum 4 = .ok (.ifCond .eq 13, 3) := by decide +kernel
theorem dX6_sum_7 : decode cX6_sum 7 = .ok (.iload_n 2, 1) := by decide +kernel
theorem dX6_sum_8 : decode cX6_sum 8 = .ok (.i2l, 1) := by decide +kernel
theorem dX6_sum_9 : decode cX6_sum 9 = .ok (.lconst 0, 1) := by decide +kernel
theorem dX6_sum_10 : decode cX6_sum 10 = .ok (.lconst 1, 1) := by decide +kernel
theorem dX6_sum_11 : decode cX6_sum 11 = .ok (.invokestatic 56, 3) := by decide +kernel
theorem dX6_sum_14 : decode cX6_sum 14 = .ok (.ifCond .ne 6, 3) := by decide +kernel
theorem dX6_sum_17 : decode cX6_sum 17 = .ok (.bipush (-3), 2) := by decide +kernel
theorem dX6_sum_19 : decode cX6_sum 19 = .ok (.ireturn, 1) := by decide +kernel
theorem dX6_sum_20 : decode cX6_sum 20 = .ok (.aload_n 0, 1) := by decide +kernel
theorem dX6_sum_21 : decode cX6_sum 21 = .ok (.iload_n 1, 1) := by decide +kernel
theorem dX6_sum_22 : decode cX6_sum 22 = .ok (.iconst 1, 1) := by decide +kernel
theorem dX6_sum_23 : decode cX6_sum 23 = .ok (.isub, 1) := by decide +kernel
theorem dX6_sum_24 : decode cX6_sum 24 = .ok (.aload_n 0, 1) := by decide +kernel
theorem dX6_sum_25 : decode cX6_sum 25 = .ok (.invokevirtual 191, 3) := by decide +kernel
theorem dX6_sum_28 : decode cX6_sum 28 = .ok (.invokevirtual 194, 3) := by decide +kernel
theorem dX6_sum_31 : decode cX6_sum 31 = .ok (.aload_n 0, 1) := by decide +kernel
theorem dX6_sum_32 : decode cX6_sum 32 = .ok (.iload_n 1, 1) := by decide +kernel
theorem dX6_sum_33 : decode cX6_sum 33 = .ok (.invokevirtual 235, 3) := by decide +kernel
theorem dX6_sum_36 : decode cX6_sum 36 = .ok (.iload_n 2, 1) := by decide +kernel
theorem dX6_sum_37 : decode cX6_sum 37 = .ok (.ifCond .ne 10, 3) := by decide +kernel
theorem dX6_sum_40 : decode cX6_sum 40 = .ok (.aload_n 0, 1) := by decide +kernel
theorem dX6_sum_41 : decode cX6_sum 41 = .ok (.getfield 226, 3) := by decide +kernel
theorem dX6_sum_44 : decode cX6_sum 44 = .ok (.goto 7, 3) := by decide +kernel
theorem dX6_sum_47 : decode cX6_sum 47 = .ok (.aload_n 0, 1) := by decide +kernel
theorem dX6_sum_48 : decode cX6_sum 48 = .ok (.getfield 229, 3) := by decide +kernel
theorem dX6_sum_51 : decode cX6_sum 51 = .ok (.ireturn, 1) := by decide +kernel
set_option maxRecDepth 20000 in
theorem ggX6_council_X6_isDays : GoodIn wsX6_council wsX6_isDays := goodIn_r _ [8, 9, 10, 11, 7, 12] (by decide +kernel) (by decide +kernel)
set_option maxRecDepth 20000 in
theorem gX6_council_X6_isDays : GoodIn wsX6_council (va_wsS RX6 232 yX6_isDays wsX6_isDays) := goodIn_app (goodIn_of _ (by decide +kernel)) ggX6_council_X6_isDays
set_option maxRecDepth 20000 in
theorem ggX6_council_X6_in : GoodIn wsX6_council wsX6_in := goodIn_r _ [12] (by decide +kernel) (by decide +kernel)
set_option maxRecDepth 20000 in
theorem gX6_council_X6_in : GoodIn wsX6_council (va_wsS RX6 56 yX6_in wsX6_in) := goodIn_app (goodIn_of _ (by decide +kernel)) ggX6_council_X6_in
set_option maxRecDepth 20000 in
theorem ggX6_council_X6_layDays : GoodIn wsX6_council wsX6_layDays := goodIn_r _ [16, 17, 18, 19, 20, 21, 22, 7, 23, 24, 25, 26, 27, 28, 29, 30, 31, 32, 33, 34, 35, 36, 37, 38, 39, 40, 41, 42, 43, 44, 49, 50, 51, 52, 53, 54, 55, 56, 57, 58, 59, 60, 61, 62, 63, 64, 65, 66, 67, 68, 69, 70, 71, 72, 73, 74] (by decide +kernel) (by decide +kernel)
set_option maxRecDepth 20000 in
theorem gX6_council_X6_layDays : GoodIn wsX6_council (wsV RX6 194 RX6 yX6_layDays wsX6_layDays) := goodIn_app (goodIn_of _ (by decide +kernel)) ggX6_council_X6_layDays
set_option maxRecDepth 20000 in
theorem ggX6_council_X6_laySums : GoodIn wsX6_council wsX6_laySums := goodIn_r _ [48, 4, 3, 17, 18, 29, 49, 50, 51, 52, 53, 54, 55, 56, 57, 58, 59, 60, 61, 62, 63, 64, 65, 66, 67, 68, 69, 70, 71, 72, 73, 74] (by decide +kernel) (by decide +kernel)
set_option maxRecDepth 20000 in
theorem gX6_council_X6_laySums : GoodIn wsX6_council (wsV RX6 235 RX6 yX6_laySums wsX6_laySums) := goodIn_app (goodIn_of _ (by decide +kernel)) ggX6_council_X6_laySums
theorem dX6_council_0 : decode cX6_council 0 = .ok (.iload_n 1, 1) := by decide +kernel
theorem dX6_council_1 : decode cX6_council 1 = .ok (.invokestatic 232, 3) := by decide +kernel
theorem dX6_council_4 : decode cX6_council 4 = .ok (.ifCond .eq 25, 3) := by decide +kernel
theorem dX6_council_7 : decode cX6_council 7 = .ok (.iload_n 2, 1) := by decide +kernel
theorem dX6_council_8 : decode cX6_council 8 = .ok (.i2l, 1) := by decide +kernel
theorem dX6_council_9 : decode cX6_council 9 = .ok (.lconst 0, 1) := by decide +kernel
theorem dX6_council_10 : decode cX6_council 10 = .ok (.ldc2_w 238, 3) := by decide +kernel
theorem dX6_council_13 : decode cX6_council 13 = .ok (.invokestatic 56, 3) := by decide +kernel
theorem dX6_council_16 : decode cX6_council 16 = .ok (.ifCond .eq 13, 3) := by decide +kernel
theorem dX6_council_19 : decode cX6_council 19 = .ok (.iload_n 3, 1) := by decide +kernel
theorem dX6_council_20 : decode cX6_council 20 = .ok (.i2l, 1) := by decide +kernel
theorem dX6_council_21 : decode cX6_council 21 = .ok (.lconst 0, 1) := by decide +kernel
theorem dX6_council_22 : decode cX6_council 22 = .ok (.lconst 1, 1) := by decide +kernel
theorem dX6_council_23 : decode cX6_council 23 = .ok (.invokestatic 56, 3) := by decide +kernel
theorem dX6_council_26 : decode cX6_council 26 = .ok (.ifCond .ne 6, 3) := by decide +kernel
theorem dX6_council_29 : decode cX6_council 29 = .ok (.bipush (-3), 2) := by decide +kernel
theorem dX6_council_31 : decode cX6_council 31 = .ok (.ireturn, 1) := by decide +kernel
theorem dX6_council_32 : decode cX6_council 32 = .ok (.iconst (-1), 1) := by decide +kernel
theorem dX6_council_33 : decode cX6_council 33 = .ok (.istore 4, 2) := by decide +kernel
theorem dX6_council_35 : decode cX6_council 35 = .ok (.iconst (-1), 1) := by decide +kernel
theorem dX6_council_36 : decode cX6_council 36 = .ok (.istore 5, 2) := by decide +kernel
theorem dX6_council_38 : decode cX6_council 38 = .ok (.iconst 0, 1) := by decide +kernel
theorem dX6_council_39 : decode cX6_council 39 = .ok (.istore 6, 2) := by decide +kernel
theorem dX6_council_41 : decode cX6_council 41 = .ok (.iload 6, 2) := by decide +kernel
theorem dX6_council_43 : decode cX6_council 43 = .ok (.iconst 1, 1) := by decide +kernel
theorem dX6_council_44 : decode cX6_council 44 = .ok (.aload_n 0, 1) := by decide +kernel
theorem dX6_council_45 : decode cX6_council 45 = .ok (.getfield 131, 3) := by decide +kernel
theorem dX6_council_48 : decode cX6_council 48 = .ok (.ishl, 1) := by decide +kernel
theorem dX6_council_49 : decode cX6_council 49 = .ok (.if_icmp .ge 50, 3) := by decide +kernel
theorem dX6_council_52 : decode cX6_council 52 = .ok (.aload_n 0, 1) := by decide +kernel
theorem dX6_council_53 : decode cX6_council 53 = .ok (.iload_n 1, 1) := by decide +kernel
theorem dX6_council_54 : decode cX6_council 54 = .ok (.iconst 1, 1) := by decide +kernel
theorem dX6_council_55 : decode cX6_council 55 = .ok (.isub, 1) := by decide +kernel
theorem dX6_council_56 : decode cX6_council 56 = .ok (.iload 6, 2) := by decide +kernel
theorem dX6_council_58 : decode cX6_council 58 = .ok (.invokevirtual 194, 3) := by decide +kernel
theorem dX6_council_61 : decode cX6_council 61 = .ok (.aload_n 0, 1) := by decide +kernel
theorem dX6_council_62 : decode cX6_council 62 = .ok (.iload_n 1, 1) := by decide +kernel
theorem dX6_council_63 : decode cX6_council 63 = .ok (.invokevirtual 235, 3) := by decide +kernel
theorem dX6_council_66 : decode cX6_council 66 = .ok (.aload_n 0, 1) := by decide +kernel
theorem dX6_council_67 : decode cX6_council 67 = .ok (.getfield 229, 3) := by decide +kernel
theorem dX6_council_70 : decode cX6_council 70 = .ok (.iload_n 2, 1) := by decide +kernel
theorem dX6_council_71 : decode cX6_council 71 = .ok (.if_icmp .gt 22, 3) := by decide +kernel
theorem dX6_council_74 : decode cX6_council 74 = .ok (.aload_n 0, 1) := by decide +kernel
theorem dX6_council_75 : decode cX6_council 75 = .ok (.getfield 226, 3) := by decide +kernel
theorem dX6_council_78 : decode cX6_council 78 = .ok (.iload 5, 2) := by decide +kernel
theorem dX6_council_80 : decode cX6_council 80 = .ok (.if_icmp .le 13, 3) := by decide +kernel
theorem dX6_council_83 : decode cX6_council 83 = .ok (.iload 6, 2) := by decide +kernel
theorem dX6_council_85 : decode cX6_council 85 = .ok (.istore 4, 2) := by decide +kernel
theorem dX6_council_87 : decode cX6_council 87 = .ok (.aload_n 0, 1) := by decide +kernel
theorem dX6_council_88 : decode cX6_council 88 = .ok (.getfield 226, 3) := by decide +kernel
theorem dX6_council_91 : decode cX6_council 91 = .ok (.istore 5, 2) := by decide +kernel
theorem dX6_council_93 : decode cX6_council 93 = .ok (.iinc 6 1, 3) := by decide +kernel
theorem dX6_council_96 : decode cX6_council 96 = .ok (.goto (-55), 3) := by decide +kernel
theorem dX6_council_99 : decode cX6_council 99 = .ok (.iload_n 3, 1) := by decide +kernel
theorem dX6_council_100 : decode cX6_council 100 = .ok (.ifCond .ne 8, 3) := by decide +kernel
theorem dX6_council_103 : decode cX6_council 103 = .ok (.iload 4, 2) := by decide +kernel
theorem dX6_council_105 : decode cX6_council 105 = .ok (.goto 5, 3) := by decide +kernel
theorem dX6_council_108 : decode cX6_council 108 = .ok (.iload 5, 2) := by decide +kernel
theorem dX6_council_110 : decode cX6_council 110 = .ok (.ireturn, 1) := by decide +kernel
set_option maxRecDepth 20000 in
theorem ggX6_idle_X6_isHouse : GoodIn wsX6_idle wsX6_isHouse := goodIn_r _ [7, 1, 8, 9, 6, 10, 50, 51, 52, 53, 54, 55, 56, 57, 58, 59, 60, 61, 62, 63, 64, 65, 66, 67, 68, 69, 70, 71, 72, 73, 74, 75] (by decide +kernel) (by decide +kernel)
set_option maxRecDepth 20000 in
theorem gX6_idle_X6_isHouse : GoodIn wsX6_idle (wsV RX6 160 RX6 yX6_isHouse wsX6_isHouse) := goodIn_app (goodIn_of _ (by decide +kernel)) ggX6_idle_X6_isHouse
set_option maxRecDepth 20000 in
theorem ggX6_idle_X6_isTime : GoodIn wsX6_idle wsX6_isTime := goodIn_r _ [13, 14, 8, 9, 6, 10] (by decide +kernel) (by decide +kernel)
set_option maxRecDepth 20000 in
theorem gX6_idle_X6_isTime : GoodIn wsX6_idle (va_wsS RX6 203 yX6_isTime wsX6_isTime) := goodIn_app (goodIn_of _ (by decide +kernel)) ggX6_idle_X6_isTime
set_option maxRecDepth 20000 in
theorem ggX6_idle_X6_forbiddenNow : GoodIn wsX6_idle wsX6_forbiddenNow := goodIn_r _ [18, 19, 20, 50, 51, 52, 53, 54, 55, 56, 57, 58, 59, 60, 61, 62, 63, 64, 65, 66, 67, 68, 69, 70, 71, 72, 73, 74, 75] (by decide +kernel) (by decide +kernel)
set_option maxRecDepth 20000 in
theorem gX6_idle_X6_forbiddenNow : GoodIn wsX6_idle (wsV RX6 191 RX6 yX6_forbiddenNow wsX6_forbiddenNow) := goodIn_app (goodIn_of _ (by decide +kernel)) ggX6_idle_X6_forbiddenNow
set_option maxRecDepth 20000 in
theorem ggX6_idle_X6_layDays : GoodIn wsX6_idle wsX6_layDays := goodIn_r _ [24, 1, 2, 25, 26, 27, 28, 6, 29, 30, 31, 32, 33, 34, 20, 35, 36, 37, 38, 39, 40, 41, 42, 43, 44, 45, 46, 47, 48, 49, 50, 51, 52, 53, 54, 55, 56, 57, 58, 59, 60, 61, 62, 63, 64, 65, 66, 67, 68, 69, 70, 71, 72, 73, 74, 75] (by decide +kernel) (by decide +kernel)
set_option maxRecDepth 20000 in
theorem gX6_idle_X6_layDays : GoodIn wsX6_idle (wsV RX6 194 RX6 yX6_layDays wsX6_layDays) := goodIn_app (goodIn_of _ (by decide +kernel)) ggX6_idle_X6_layDays
set_option maxRecDepth 20000 in
theorem ggX6_idle_X6_layNext : GoodIn wsX6_idle wsX6_layNext := goodIn_r _ [29, 1, 30, 2, 31, 32, 33, 6, 34, 20, 35, 36, 37, 38, 39, 40, 41, 42, 43, 44, 45, 46, 47, 48, 49, 50, 51, 52, 53, 54, 55, 56, 57, 58, 59, 60, 61, 62, 63, 64, 65, 66, 67, 68, 69, 70, 71, 72, 73, 74, 75] (by decide +kernel) (by decide +kernel)
set_option maxRecDepth 20000 in
theorem gX6_idle_X6_layNext : GoodIn wsX6_idle (wsV RX6 185 RX6 yX6_layNext wsX6_layNext) := goodIn_app (goodIn_of _ (by decide +kernel)) ggX6_idle_X6_layNext
theorem dX6_idle_0 : decode cX6_idle 0 = .ok (.aload_n 0, 1) := by decide +kernel
theorem dX6_idle_1 : decode cX6_idle 1 = .ok (.iload_n 1, 1) := by decide +kernel
theorem dX6_idle_2 : decode cX6_idle 2 = .ok (.invokevirtual 160, 3) := by decide +kernel
theorem dX6_idle_5 : decode cX6_idle 5 = .ok (.ifCond .ne 6, 3) := by decide +kernel
theorem dX6_idle_8 : decode cX6_idle 8 = .ok (.bipush (-2), 2) := by decide +kernel
theorem dX6_idle_10 : decode cX6_idle 10 = .ok (.ireturn, 1) := by decide +kernel
theorem dX6_idle_11 : decode cX6_idle 11 = .ok (.iload_n 2, 1) := by decide +kernel
theorem dX6_idle_12 : decode cX6_idle 12 = .ok (.invokestatic 203, 3) := by decide +kernel
theorem dX6_idle_15 : decode cX6_idle 15 = .ok (.ifCond .eq 10, 3) := by decide +kernel
theorem dX6_idle_18 : decode cX6_idle 18 = .ok (.iload_n 3, 1) := by decide +kernel
theorem dX6_idle_19 : decode cX6_idle 19 = .ok (.invokestatic 203, 3) := by decide +kernel
theorem dX6_idle_22 : decode cX6_idle 22 = .ok (.ifCond .ne 6, 3) := by decide +kernel
theorem dX6_idle_25 : decode cX6_idle 25 = .ok (.bipush (-3), 2) := by decide +kernel
theorem dX6_idle_27 : decode cX6_idle 27 = .ok (.ireturn, 1) := by decide +kernel
theorem dX6_idle_28 : decode cX6_idle 28 = .ok (.aload_n 0, 1) := by decide +kernel
theorem dX6_idle_29 : decode cX6_idle 29 = .ok (.invokevirtual 191, 3) := by decide +kernel
theorem dX6_idle_32 : decode cX6_idle 32 = .ok (.istore 4, 2) := by decide +kernel
theorem dX6_idle_34 : decode cX6_idle 34 = .ok (.aload_n 0, 1) := by decide +kernel
theorem dX6_idle_35 : decode cX6_idle 35 = .ok (.iload_n 2, 1) := by decide +kernel
theorem dX6_idle_36 : decode cX6_idle 36 = .ok (.iload 4, 2) := by decide +kernel
theorem dX6_idle_38 : decode cX6_idle 38 = .ok (.invokevirtual 194, 3) := by decide +kernel
theorem dX6_idle_41 : decode cX6_idle 41 = .ok (.iconst 0, 1) := by decide +kernel
theorem dX6_idle_42 : decode cX6_idle 42 = .ok (.istore 5, 2) := by decide +kernel
theorem dX6_idle_44 : decode cX6_idle 44 = .ok (.iload 5, 2) := by decide +kernel
theorem dX6_idle_46 : decode cX6_idle 46 = .ok (.aload_n 0, 1) := by decide +kernel
theorem dX6_idle_47 : decode cX6_idle 47 = .ok (.getfield 23, 3) := by decide +kernel
theorem dX6_idle_50 : decode cX6_idle 50 = .ok (.if_icmp .ge 61, 3) := by decide +kernel
theorem dX6_idle_53 : decode cX6_idle 53 = .ok (.aload_n 0, 1) := by decide +kernel
theorem dX6_idle_54 : decode cX6_idle 54 = .ok (.getfield 39, 3) := by decide +kernel
theorem dX6_idle_57 : decode cX6_idle 57 = .ok (.sipush 800, 3) := by decide +kernel
theorem dX6_idle_60 : decode cX6_idle 60 = .ok (.iload 5, 2) := by decide +kernel
theorem dX6_idle_62 : decode cX6_idle 62 = .ok (.iadd, 1) := by decide +kernel
theorem dX6_idle_63 : decode cX6_idle 63 = .ok (.iload 5, 2) := by decide +kernel
theorem dX6_idle_65 : decode cX6_idle 65 = .ok (.iload_n 1, 1) := by decide +kernel
theorem dX6_idle_66 : decode cX6_idle 66 = .ok (.if_icmp .ne 7, 3) := by decide +kernel
theorem dX6_idle_69 : decode cX6_idle 69 = .ok (.iconst (-1), 1) := by decide +kernel
theorem dX6_idle_70 : decode cX6_idle 70 = .ok (.goto 15, 3) := by decide +kernel
theorem dX6_idle_73 : decode cX6_idle 73 = .ok (.aload_n 0, 1) := by decide +kernel
theorem dX6_idle_74 : decode cX6_idle 74 = .ok (.getfield 39, 3) := by decide +kernel
theorem dX6_idle_77 : decode cX6_idle 77 = .ok (.bipush 8, 2) := by decide +kernel
theorem dX6_idle_79 : decode cX6_idle 79 = .ok (.iload_n 2, 1) := by decide +kernel
theorem dX6_idle_80 : decode cX6_idle 80 = .ok (.imul, 1) := by decide +kernel
theorem dX6_idle_81 : decode cX6_idle 81 = .ok (.iload 5, 2) := by decide +kernel
theorem dX6_idle_83 : decode cX6_idle 83 = .ok (.iadd, 1) := by decide +kernel
theorem dX6_idle_84 : decode cX6_idle 84 = .ok (.iaload, 1) := by decide +kernel
theorem dX6_idle_85 : decode cX6_idle 85 = .ok (.iastore, 1) := by decide +kernel
theorem dX6_idle_86 : decode cX6_idle 86 = .ok (.aload_n 0, 1) := by decide +kernel
theorem dX6_idle_87 : decode cX6_idle 87 = .ok (.getfield 39, 3) := by decide +kernel
theorem dX6_idle_90 : decode cX6_idle 90 = .ok (.iload 5, 2) := by decide +kernel
theorem dX6_idle_92 : decode cX6_idle 92 = .ok (.aload_n 0, 1) := by decide +kernel
theorem dX6_idle_93 : decode cX6_idle 93 = .ok (.getfield 39, 3) := by decide +kernel
theorem dX6_idle_96 : decode cX6_idle 96 = .ok (.bipush 8, 2) := by decide +kernel
theorem dX6_idle_98 : decode cX6_idle 98 = .ok (.iload_n 2, 1) := by decide +kernel
theorem dX6_idle_99 : decode cX6_idle 99 = .ok (.imul, 1) := by decide +kernel
theorem dX6_idle_100 : decode cX6_idle 100 = .ok (.iload 5, 2) := by decide +kernel
theorem dX6_idle_102 : decode cX6_idle 102 = .ok (.iadd, 1) := by decide +kernel
theorem dX6_idle_103 : decode cX6_idle 103 = .ok (.iaload, 1) := by decide +kernel
theorem dX6_idle_104 : decode cX6_idle 104 = .ok (.iastore, 1) := by decide +kernel
theorem dX6_idle_105 : decode cX6_idle 105 = .ok (.iinc 5 1, 3) := by decide +kernel
theorem dX6_idle_108 : decode cX6_idle 108 = .ok (.goto (-64), 3) := by decide +kernel
theorem dX6_idle_111 : decode cX6_idle 111 = .ok (.iconst 0, 1) := by decide +kernel
theorem dX6_idle_112 : decode cX6_idle 112 = .ok (.istore 5, 2) := by decide +kernel
theorem dX6_idle_114 : decode cX6_idle 114 = .ok (.iload 5, 2) := by decide +kernel
theorem dX6_idle_116 : decode cX6_idle 116 = .ok (.iload_n 3, 1) := by decide +kernel
theorem dX6_idle_117 : decode cX6_idle 117 = .ok (.if_icmp .ge 81, 3) := by decide +kernel
theorem dX6_idle_120 : decode cX6_idle 120 = .ok (.aload_n 0, 1) := by decide +kernel
theorem dX6_idle_121 : decode cX6_idle 121 = .ok (.iconst 0, 1) := by decide +kernel
theorem dX6_idle_122 : decode cX6_idle 122 = .ok (.iload 4, 2) := by decide +kernel
theorem dX6_idle_124 : decode cX6_idle 124 = .ok (.invokevirtual 185, 3) := by decide +kernel
theorem dX6_idle_127 : decode cX6_idle 127 = .ok (.aload_n 0, 1) := by decide +kernel
theorem dX6_idle_128 : decode cX6_idle 128 = .ok (.bipush 100, 2) := by decide +kernel
theorem dX6_idle_130 : decode cX6_idle 130 = .ok (.iload 4, 2) := by decide +kernel
theorem dX6_idle_132 : decode cX6_idle 132 = .ok (.invokevirtual 185, 3) := by decide +kernel
theorem dX6_idle_135 : decode cX6_idle 135 = .ok (.iconst 0, 1) := by decide +kernel
theorem dX6_idle_136 : decode cX6_idle 136 = .ok (.istore 6, 2) := by decide +kernel
theorem dX6_idle_138 : decode cX6_idle 138 = .ok (.iload 6, 2) := by decide +kernel
theorem dX6_idle_140 : decode cX6_idle 140 = .ok (.aload_n 0, 1) := by decide +kernel
theorem dX6_idle_141 : decode cX6_idle 141 = .ok (.getfield 23, 3) := by decide +kernel
theorem dX6_idle_144 : decode cX6_idle 144 = .ok (.if_icmp .ge 48, 3) := by decide +kernel
theorem dX6_idle_147 : decode cX6_idle 147 = .ok (.aload_n 0, 1) := by decide +kernel
theorem dX6_idle_148 : decode cX6_idle 148 = .ok (.getfield 39, 3) := by decide +kernel
theorem dX6_idle_151 : decode cX6_idle 151 = .ok (.iload 6, 2) := by decide +kernel
theorem dX6_idle_153 : decode cX6_idle 153 = .ok (.aload_n 0, 1) := by decide +kernel
theorem dX6_idle_154 : decode cX6_idle 154 = .ok (.getfield 39, 3) := by decide +kernel
theorem dX6_idle_157 : decode cX6_idle 157 = .ok (.bipush 8, 2) := by decide +kernel
theorem dX6_idle_159 : decode cX6_idle 159 = .ok (.iload 6, 2) := by decide +kernel
theorem dX6_idle_161 : decode cX6_idle 161 = .ok (.iadd, 1) := by decide +kernel
theorem dX6_idle_162 : decode cX6_idle 162 = .ok (.iaload, 1) := by decide +kernel
theorem dX6_idle_163 : decode cX6_idle 163 = .ok (.iastore, 1) := by decide +kernel
theorem dX6_idle_164 : decode cX6_idle 164 = .ok (.aload_n 0, 1) := by decide +kernel
theorem dX6_idle_165 : decode cX6_idle 165 = .ok (.getfield 39, 3) := by decide +kernel
theorem dX6_idle_168 : decode cX6_idle 168 = .ok (.sipush 800, 3) := by decide +kernel
theorem dX6_idle_171 : decode cX6_idle 171 = .ok (.iload 6, 2) := by decide +kernel
theorem dX6_idle_173 : decode cX6_idle 173 = .ok (.iadd, 1) := by decide +kernel
theorem dX6_idle_174 : decode cX6_idle 174 = .ok (.aload_n 0, 1) := by decide +kernel
theorem dX6_idle_175 : decode cX6_idle 175 = .ok (.getfield 39, 3) := by decide +kernel
theorem dX6_idle_178 : decode cX6_idle 178 = .ok (.sipush 808, 3) := by decide +kernel
theorem dX6_idle_181 : decode cX6_idle 181 = .ok (.iload 6, 2) := by decide +kernel
theorem dX6_idle_183 : decode cX6_idle 183 = .ok (.iadd, 1) := by decide +kernel
theorem dX6_idle_184 : decode cX6_idle 184 = .ok (.iaload, 1) := by decide +kernel
theorem dX6_idle_185 : decode cX6_idle 185 = .ok (.iastore, 1) := by decide +kernel
theorem dX6_idle_186 : decode cX6_idle 186 = .ok (.iinc 6 1, 3) := by decide +kernel
theorem dX6_idle_189 : decode cX6_idle 189 = .ok (.goto (-51), 3) := by decide +kernel
theorem dX6_idle_192 : decode cX6_idle 192 = .ok (.iinc 5 1, 3) := by decide +kernel
theorem dX6_idle_195 : decode cX6_idle 195 = .ok (.goto (-81), 3) := by decide +kernel
theorem dX6_idle_198 : decode cX6_idle 198 = .ok (.iconst 0, 1) := by decide +kernel
theorem dX6_idle_199 : decode cX6_idle 199 = .ok (.istore 5, 2) := by decide +kernel
theorem dX6_idle_201 : decode cX6_idle 201 = .ok (.iconst 0, 1) := by decide +kernel
theorem dX6_idle_202 : decode cX6_idle 202 = .ok (.istore 6, 2) := by decide +kernel
theorem dX6_idle_204 : decode cX6_idle 204 = .ok (.iload 6, 2) := by decide +kernel
theorem dX6_idle_206 : decode cX6_idle 206 = .ok (.aload_n 0, 1) := by decide +kernel
theorem dX6_idle_207 : decode cX6_idle 207 = .ok (.getfield 23, 3) := by decide +kernel
theorem dX6_idle_210 : decode cX6_idle 210 = .ok (.if_icmp .ge 43, 3) := by decide +kernel
theorem dX6_idle_213 : decode cX6_idle 213 = .ok (.iload 5, 2) := by decide +kernel
theorem dX6_idle_215 : decode cX6_idle 215 = .ok (.aload_n 0, 1) := by decide +kernel
theorem dX6_idle_216 : decode cX6_idle 216 = .ok (.getfield 39, 3) := by decide +kernel
theorem dX6_idle_219 : decode cX6_idle 219 = .ok (.iload 6, 2) := by decide +kernel
theorem dX6_idle_221 : decode cX6_idle 221 = .ok (.iaload, 1) := by decide +kernel
theorem dX6_idle_222 : decode cX6_idle 222 = .ok (.aload_n 0, 1) := by decide +kernel
theorem dX6_idle_223 : decode cX6_idle 223 = .ok (.getfield 39, 3) := by decide +kernel
theorem dX6_idle_226 : decode cX6_idle 226 = .ok (.sipush 800, 3) := by decide +kernel
theorem dX6_idle_229 : decode cX6_idle 229 = .ok (.iload 6, 2) := by decide +kernel
theorem dX6_idle_231 : decode cX6_idle 231 = .ok (.iadd, 1) := by decide +kernel
theorem dX6_idle_232 : decode cX6_idle 232 = .ok (.iaload, 1) := by decide +kernel
theorem dX6_idle_233 : decode cX6_idle 233 = .ok (.if_icmp .ne 7, 3) := by decide +kernel
theorem dX6_idle_236 : decode cX6_idle 236 = .ok (.iconst 0, 1) := by decide +kernel
theorem dX6_idle_237 : decode cX6_idle 237 = .ok (.goto 7, 3) := by decide +kernel
theorem dX6_idle_240 : decode cX6_idle 240 = .ok (.iconst 1, 1) := by decide +kernel
theorem dX6_idle_241 : decode cX6_idle 241 = .ok (.iload 6, 2) := by decide +kernel
theorem dX6_idle_243 : decode cX6_idle 243 = .ok (.ishl, 1) := by decide +kernel
theorem dX6_idle_244 : decode cX6_idle 244 = .ok (.ior, 1) := by decide +kernel
theorem dX6_idle_245 : decode cX6_idle 245 = .ok (.istore 5, 2) := by decide +kernel
theorem dX6_idle_247 : decode cX6_idle 247 = .ok (.iinc 6 1, 3) := by decide +kernel
theorem dX6_idle_250 : decode cX6_idle 250 = .ok (.goto (-46), 3) := by decide +kernel
theorem dX6_idle_253 : decode cX6_idle 253 = .ok (.iload 5, 2) := by decide +kernel
theorem dX6_idle_255 : decode cX6_idle 255 = .ok (.ireturn, 1) := by decide +kernel
theorem dX6_divisor_0 : decode cX6_divisor 0 = .ok (.lload_n 0, 1) := by decide +kernel
theorem dX6_divisor_1 : decode cX6_divisor 1 = .ok (.lstore 4, 2) := by decide +kernel
theorem dX6_divisor_3 : decode cX6_divisor 3 = .ok (.lload_n 2, 1) := by decide +kernel
theorem dX6_divisor_4 : decode cX6_divisor 4 = .ok (.lstore 6, 2) := by decide +kernel
theorem dX6_divisor_6 : decode cX6_divisor 6 = .ok (.lload 6, 2) := by decide +kernel
theorem dX6_divisor_8 : decode cX6_divisor 8 = .ok (.lconst 0, 1) := by decide +kernel
theorem dX6_divisor_9 : decode cX6_divisor 9 = .ok (.lcmp, 1) := by decide +kernel
theorem dX6_divisor_10 : decode cX6_divisor 10 = .ok (.ifCond .eq 21, 3) := by decide +kernel
theorem dX6_divisor_13 : decode cX6_divisor 13 = .ok (.lload 4, 2) := by decide +kernel
theorem dX6_divisor_15 : decode cX6_divisor 15 = .ok (.lload 6, 2) := by decide +kernel
theorem dX6_divisor_17 : decode cX6_divisor 17 = .ok (.lrem, 1) := by decide +kernel
theorem dX6_divisor_18 : decode cX6_divisor 18 = .ok (.lstore 8, 2) := by decide +kernel
theorem dX6_divisor_20 : decode cX6_divisor 20 = .ok (.lload 6, 2) := by decide +kernel
theorem dX6_divisor_22 : decode cX6_divisor 22 = .ok (.lstore 4, 2) := by decide +kernel
theorem dX6_divisor_24 : decode cX6_divisor 24 = .ok (.lload 8, 2) := by decide +kernel
theorem dX6_divisor_26 : decode cX6_divisor 26 = .ok (.lstore 6, 2) := by decide +kernel
theorem dX6_divisor_28 : decode cX6_divisor 28 = .ok (.goto (-22), 3) := by decide +kernel
theorem dX6_divisor_31 : decode cX6_divisor 31 = .ok (.lload 4, 2) := by decide +kernel
theorem dX6_divisor_33 : decode cX6_divisor 33 = .ok (.lreturn, 1) := by decide +kernel
set_option maxRecDepth 20000 in
theorem ggX6_odds_X6_isHouse : GoodIn wsX6_odds wsX6_isHouse := goodIn_r _ [10, 11, 12, 13, 9, 14, 53, 54, 55, 56, 57, 58, 59, 60, 61, 62, 63, 64, 65, 66, 67, 68, 69, 70, 71, 72, 73, 74, 75, 76, 77, 78] (by decide +kernel) (by decide +kernel)
set_option maxRecDepth 20000 in
theorem gX6_odds_X6_isHouse : GoodIn wsX6_odds (wsV RX6 160 RX6 yX6_isHouse wsX6_isHouse) := goodIn_app (goodIn_of _ (by decide +kernel)) ggX6_odds_X6_isHouse
set_option maxRecDepth 20000 in
theorem ggX6_odds_X6_in : GoodIn wsX6_odds wsX6_in := goodIn_r _ [14] (by decide +kernel) (by decide +kernel)
set_option maxRecDepth 20000 in
theorem gX6_odds_X6_in : GoodIn wsX6_odds (va_wsS RX6 56 yX6_in wsX6_in) := goodIn_app (goodIn_of _ (by decide +kernel)) ggX6_odds_X6_in
set_option maxRecDepth 20000 in
theorem ggX6_odds_X6_forbiddenNow : GoodIn wsX6_odds wsX6_forbiddenNow := goodIn_r _ [18, 19, 20, 53, 54, 55, 56, 57, 58, 59, 60, 61, 62, 63, 64, 65, 66, 67, 68, 69, 70, 71, 72, 73, 74, 75, 76, 77, 78] (by decide +kernel) (by decide +kernel)
set_option maxRecDepth 20000 in
theorem gX6_odds_X6_forbiddenNow : GoodIn wsX6_odds (wsV RX6 191 RX6 yX6_forbiddenNow wsX6_forbiddenNow) := goodIn_app (goodIn_of _ (by decide +kernel)) ggX6_odds_X6_forbiddenNow
set_option maxRecDepth 20000 in
theorem ggX6_odds_X6_layDays : GoodIn wsX6_odds wsX6_layDays := goodIn_r _ [24, 11, 5, 25, 26, 27, 28, 9, 29, 30, 31, 32, 33, 34, 20, 35, 36, 37, 38, 39, 40, 41, 42, 43, 44, 45, 46, 47, 48, 49, 53, 54, 55, 56, 57, 58, 59, 60, 61, 62, 63, 64, 65, 66, 67, 68, 69, 70, 71, 72, 73, 74, 75, 76, 77, 78] (by decide +kernel) (by decide +kernel)
set_option maxRecDepth 20000 in
theorem gX6_odds_X6_layDays : GoodIn wsX6_odds (wsV RX6 194 RX6 yX6_layDays wsX6_layDays) := goodIn_app (goodIn_of _ (by decide +kernel)) ggX6_odds_X6_layDays
set_option maxRecDepth 20000 in
theorem ggX6_odds_X6_divisor : GoodIn wsX6_odds wsX6_divisor := goodIn_r _ [52] (by decide +kernel) (by decide +kernel)
set_option maxRecDepth 20000 in
theorem gX6_odds_X6_divisor : GoodIn wsX6_odds (va_wsS RX6 248 yX6_divisor wsX6_divisor) := goodIn_app (goodIn_of _ (by decide +kernel)) ggX6_odds_X6_divisor
theorem dX6_odds_0 : decode cX6_odds 0 = .ok (.aload_n 0, 1) := by decide +kernel
theorem dX6_odds_1 : decode cX6_odds 1 = .ok (.iload_n 1, 1) := by decide +kernel
theorem dX6_odds_2 : decode cX6_odds 2 = .ok (.invokevirtual 160, 3) := by decide +kernel
theorem dX6_odds_5 : decode cX6_odds 5 = .ok (.ifCond .ne 7, 3) := by decide +kernel
theorem dX6_odds_8 : decode cX6_odds 8 = .ok (.ldc2_w 240, 3) := by decide +kernel
theorem dX6_odds_11 : decode cX6_odds 11 = .ok (.lreturn, 1) := by decide +kernel
theorem dX6_odds_12 : decode cX6_odds 12 = .ok (.iload_n 2, 1) := by decide +kernel
theorem dX6_odds_13 : decode cX6_odds 13 = .ok (.i2l, 1) := by decide +kernel
theorem dX6_odds_14 : decode cX6_odds 14 = .ok (.lconst 0, 1) := by decide +kernel
theorem dX6_odds_15 : decode cX6_odds 15 = .ok (.ldc2_w 242, 3) := by decide +kernel
theorem dX6_odds_18 : decode cX6_odds 18 = .ok (.invokestatic 56, 3) := by decide +kernel
theorem dX6_odds_21 : decode cX6_odds 21 = .ok (.ifCond .eq 26, 3) := by decide +kernel
theorem dX6_odds_24 : decode cX6_odds 24 = .ok (.iload_n 3, 1) := by decide +kernel
theorem dX6_odds_25 : decode cX6_odds 25 = .ok (.i2l, 1) := by decide +kernel
theorem dX6_odds_26 : decode cX6_odds 26 = .ok (.lconst 0, 1) := by decide +kernel
theorem dX6_odds_27 : decode cX6_odds 27 = .ok (.ldc2_w 244, 3) := by decide +kernel
theorem dX6_odds_30 : decode cX6_odds 30 = .ok (.invokestatic 56, 3) := by decide +kernel
theorem dX6_odds_33 : decode cX6_odds 33 = .ok (.ifCond .eq 14, 3) := by decide +kernel
theorem dX6_odds_36 : decode cX6_odds 36 = .ok (.iload 4, 2) := by decide +kernel
theorem dX6_odds_38 : decode cX6_odds 38 = .ok (.i2l, 1) := by decide +kernel
theorem dX6_odds_39 : decode cX6_odds 39 = .ok (.lconst 0, 1) := by decide +kernel
theorem dX6_odds_40 : decode cX6_odds 40 = .ok (.lconst 1, 1) := by decide +kernel
theorem dX6_odds_41 : decode cX6_odds 41 = .ok (.invokestatic 56, 3) := by decide +kernel
theorem dX6_odds_44 : decode cX6_odds 44 = .ok (.ifCond .ne 7, 3) := by decide +kernel
theorem dX6_odds_47 : decode cX6_odds 47 = .ok (.ldc2_w 246, 3) := by decide +kernel
theorem dX6_odds_50 : decode cX6_odds 50 = .ok (.lreturn, 1) := by decide +kernel
theorem dX6_odds_51 : decode cX6_odds 51 = .ok (.aload_n 0, 1) := by decide +kernel
theorem dX6_odds_52 : decode cX6_odds 52 = .ok (.iload_n 2, 1) := by decide +kernel
theorem dX6_odds_53 : decode cX6_odds 53 = .ok (.aload_n 0, 1) := by decide +kernel
theorem dX6_odds_54 : decode cX6_odds 54 = .ok (.invokevirtual 191, 3) := by decide +kernel
theorem dX6_odds_57 : decode cX6_odds 57 = .ok (.invokevirtual 194, 3) := by decide +kernel
theorem dX6_odds_60 : decode cX6_odds 60 = .ok (.aload_n 0, 1) := by decide +kernel
theorem dX6_odds_61 : decode cX6_odds 61 = .ok (.getfield 39, 3) := by decide +kernel
theorem dX6_odds_64 : decode cX6_odds 64 = .ok (.bipush 8, 2) := by decide +kernel
theorem dX6_odds_66 : decode cX6_odds 66 = .ok (.iload_n 2, 1) := by decide +kernel
theorem dX6_odds_67 : decode cX6_odds 67 = .ok (.imul, 1) := by decide +kernel
theorem dX6_odds_68 : decode cX6_odds 68 = .ok (.iload_n 1, 1) := by decide +kernel
theorem dX6_odds_69 : decode cX6_odds 69 = .ok (.iadd, 1) := by decide +kernel
theorem dX6_odds_70 : decode cX6_odds 70 = .ok (.iaload, 1) := by decide +kernel
theorem dX6_odds_71 : decode cX6_odds 71 = .ok (.iconst (-1), 1) := by decide +kernel
theorem dX6_odds_72 : decode cX6_odds 72 = .ok (.if_icmp .ne 7, 3) := by decide +kernel
theorem dX6_odds_75 : decode cX6_odds 75 = .ok (.lconst 0, 1) := by decide +kernel
theorem dX6_odds_76 : decode cX6_odds 76 = .ok (.goto 4, 3) := by decide +kernel
theorem dX6_odds_79 : decode cX6_odds 79 = .ok (.lconst 1, 1) := by decide +kernel
theorem dX6_odds_80 : decode cX6_odds 80 = .ok (.lstore 5, 2) := by decide +kernel
theorem dX6_odds_82 : decode cX6_odds 82 = .ok (.lconst 1, 1) := by decide +kernel
theorem dX6_odds_83 : decode cX6_odds 83 = .ok (.lstore 7, 2) := by decide +kernel
theorem dX6_odds_85 : decode cX6_odds 85 = .ok (.iconst 0, 1) := by decide +kernel
theorem dX6_odds_86 : decode cX6_odds 86 = .ok (.istore 9, 2) := by decide +kernel
theorem dX6_odds_88 : decode cX6_odds 88 = .ok (.iload 9, 2) := by decide +kernel
theorem dX6_odds_90 : decode cX6_odds 90 = .ok (.iload_n 2, 1) := by decide +kernel
theorem dX6_odds_91 : decode cX6_odds 91 = .ok (.if_icmp .gt 27, 3) := by decide +kernel
theorem dX6_odds_94 : decode cX6_odds 94 = .ok (.lload 5, 2) := by decide +kernel
theorem dX6_odds_96 : decode cX6_odds 96 = .ok (.bipush 10, 2) := by decide +kernel
theorem dX6_odds_98 : decode cX6_odds 98 = .ok (.iload_n 3, 1) := by decide +kernel
theorem dX6_odds_99 : decode cX6_odds 99 = .ok (.isub, 1) := by decide +kernel
theorem dX6_odds_100 : decode cX6_odds 100 = .ok (.i2l, 1) := by decide +kernel
theorem dX6_odds_101 : decode cX6_odds 101 = .ok (.lmul, 1) := by decide +kernel
theorem dX6_odds_102 : decode cX6_odds 102 = .ok (.lstore 5, 2) := by decide +kernel
theorem dX6_odds_104 : decode cX6_odds 104 = .ok (.lload 7, 2) := by decide +kernel
theorem dX6_odds_106 : decode cX6_odds 106 = .ok (.ldc2_w 244, 3) := by decide +kernel
theorem dX6_odds_109 : decode cX6_odds 109 = .ok (.lmul, 1) := by decide +kernel
theorem dX6_odds_110 : decode cX6_odds 110 = .ok (.lstore 7, 2) := by decide +kernel
theorem dX6_odds_112 : decode cX6_odds 112 = .ok (.iinc 9 1, 3) := by decide +kernel
theorem dX6_odds_115 : decode cX6_odds 115 = .ok (.goto (-27), 3) := by decide +kernel
theorem dX6_odds_118 : decode cX6_odds 118 = .ok (.lload 5, 2) := by decide +kernel
theorem dX6_odds_120 : decode cX6_odds 120 = .ok (.lload 7, 2) := by decide +kernel
theorem dX6_odds_122 : decode cX6_odds 122 = .ok (.invokestatic 248, 3) := by decide +kernel
theorem dX6_odds_125 : decode cX6_odds 125 = .ok (.lstore 9, 2) := by decide +kernel
theorem dX6_odds_127 : decode cX6_odds 127 = .ok (.iload 4, 2) := by decide +kernel
theorem dX6_odds_129 : decode cX6_odds 129 = .ok (.ifCond .ne 11, 3) := by decide +kernel
theorem dX6_odds_132 : decode cX6_odds 132 = .ok (.lload 5, 2) := by decide +kernel
theorem dX6_odds_134 : decode cX6_odds 134 = .ok (.lload 9, 2) := by decide +kernel
theorem dX6_odds_136 : decode cX6_odds 136 = .ok (.ldiv, 1) := by decide +kernel
theorem dX6_odds_137 : decode cX6_odds 137 = .ok (.goto 8, 3) := by decide +kernel
theorem dX6_odds_140 : decode cX6_odds 140 = .ok (.lload 7, 2) := by decide +kernel
theorem dX6_odds_142 : decode cX6_odds 142 = .ok (.lload 9, 2) := by decide +kernel
theorem dX6_odds_144 : decode cX6_odds 144 = .ok (.ldiv, 1) := by decide +kernel
theorem dX6_odds_145 : decode cX6_odds 145 = .ok (.lreturn, 1) := by decide +kernel
set_option maxRecDepth 20000 in
theorem ggX6_withOf_X6_bits : GoodIn wsX6_withOf wsX6_bits := goodIn_r _ [6] (by decide +kernel) (by decide +kernel)
set_option maxRecDepth 20000 in
theorem gX6_withOf_X6_bits : GoodIn wsX6_withOf (va_wsS RX6 168 yX6_bits wsX6_bits) := goodIn_app (goodIn_of _ (by decide +kernel)) ggX6_withOf_X6_bits
set_option maxRecDepth 20000 in
theorem ggX6_withOf_X6_has : GoodIn wsX6_withOf wsX6_has := goodIn_r _ [9] (by decide +kernel) (by decide +kernel)
set_option maxRecDepth 20000 in
theorem gX6_withOf_X6_has : GoodIn wsX6_withOf (va_wsS RX6 178 yX6_has wsX6_has) := goodIn_app (goodIn_of _ (by decide +kernel)) ggX6_withOf_X6_has
theorem dX6_withOf_0 : decode cX6_withOf 0 = .ok (.iload_n 1, 1) := by decide +kernel
theorem dX6_withOf_1 : decode cX6_withOf 1 = .ok (.iconst 1, 1) := by decide +kernel
theorem dX6_withOf_2 : decode cX6_withOf 2 = .ok (.iload_n 2, 1) := by decide +kernel
theorem dX6_withOf_3 : decode cX6_withOf 3 = .ok (.ishl, 1) := by decide +kernel
theorem dX6_withOf_4 : decode cX6_withOf 4 = .ok (.iconst 1, 1) := by decide +kernel
theorem dX6_withOf_5 : decode cX6_withOf 5 = .ok (.iload_n 3, 1) := by decide +kernel
theorem dX6_withOf_6 : decode cX6_withOf 6 = .ok (.ishl, 1) := by decide +kernel
theorem dX6_withOf_7 : decode cX6_withOf 7 = .ok (.ior, 1) := by decide +kernel
theorem dX6_withOf_8 : decode cX6_withOf 8 = .ok (.iconst (-1), 1) := by decide +kernel
theorem dX6_withOf_9 : decode cX6_withOf 9 = .ok (.ixor, 1) := by decide +kernel
theorem dX6_withOf_10 : decode cX6_withOf 10 = .ok (.iand, 1) := by decide +kernel
theorem dX6_withOf_11 : decode cX6_withOf 11 = .ok (.istore 4, 2) := by decide +kernel
theorem dX6_withOf_13 : decode cX6_withOf 13 = .ok (.iload_n 2, 1) := by decide +kernel
theorem dX6_withOf_14 : decode cX6_withOf 14 = .ok (.iload_n 3, 1) := by decide +kernel
theorem dX6_withOf_15 : decode cX6_withOf 15 = .ok (.if_icmp .ne 21, 3) := by decide +kernel
theorem dX6_withOf_18 : decode cX6_withOf 18 = .ok (.iload_n 1, 1) := by decide +kernel
theorem dX6_withOf_19 : decode cX6_withOf 19 = .ok (.invokestatic 168, 3) := by decide +kernel
theorem dX6_withOf_22 : decode cX6_withOf 22 = .ok (.iconst 2, 1) := by decide +kernel
theorem dX6_withOf_23 : decode cX6_withOf 23 = .ok (.irem, 1) := by decide +kernel
theorem dX6_withOf_24 : decode cX6_withOf 24 = .ok (.iconst 1, 1) := by decide +kernel
theorem dX6_withOf_25 : decode cX6_withOf 25 = .ok (.if_icmp .ne 7, 3) := by decide +kernel
theorem dX6_withOf_28 : decode cX6_withOf 28 = .ok (.iconst 1, 1) := by decide +kernel
theorem dX6_withOf_29 : decode cX6_withOf 29 = .ok (.goto 12, 3) := by decide +kernel
theorem dX6_withOf_32 : decode cX6_withOf 32 = .ok (.iconst 0, 1) := by decide +kernel
theorem dX6_withOf_33 : decode cX6_withOf 33 = .ok (.goto 8, 3) := by decide +kernel
theorem dX6_withOf_36 : decode cX6_withOf 36 = .ok (.iload_n 1, 1) := by decide +kernel
theorem dX6_withOf_37 : decode cX6_withOf 37 = .ok (.iload_n 3, 1) := by decide +kernel
theorem dX6_withOf_38 : decode cX6_withOf 38 = .ok (.invokestatic 178, 3) := by decide +kernel
theorem dX6_withOf_41 : decode cX6_withOf 41 = .ok (.istore 5, 2) := by decide +kernel
theorem dX6_withOf_43 : decode cX6_withOf 43 = .ok (.iload 5, 2) := by decide +kernel
theorem dX6_withOf_45 : decode cX6_withOf 45 = .ok (.ifCond .eq 34, 3) := by decide +kernel
theorem dX6_withOf_48 : decode cX6_withOf 48 = .ok (.iload_n 2, 1) := by decide +kernel
theorem dX6_withOf_49 : decode cX6_withOf 49 = .ok (.iload_n 3, 1) := by decide +kernel
theorem dX6_withOf_50 : decode cX6_withOf 50 = .ok (.if_icmp .ne 7, 3) := by decide +kernel
theorem dX6_withOf_53 : decode cX6_withOf 53 = .ok (.iconst 0, 1) := by decide +kernel
theorem dX6_withOf_54 : decode cX6_withOf 54 = .ok (.goto 14, 3) := by decide +kernel
theorem dX6_withOf_57 : decode cX6_withOf 57 = .ok (.aload_n 0, 1) := by decide +kernel
theorem dX6_withOf_58 : decode cX6_withOf 58 = .ok (.getfield 33, 3) := by decide +kernel
theorem dX6_withOf_61 : decode cX6_withOf 61 = .ok (.bipush 8, 2) := by decide +kernel
theorem dX6_withOf_63 : decode cX6_withOf 63 = .ok (.iload_n 2, 1) := by decide +kernel
theorem dX6_withOf_64 : decode cX6_withOf 64 = .ok (.imul, 1) := by decide +kernel
theorem dX6_withOf_65 : decode cX6_withOf 65 = .ok (.iload_n 3, 1) := by decide +kernel
theorem dX6_withOf_66 : decode cX6_withOf 66 = .ok (.iadd, 1) := by decide +kernel
theorem dX6_withOf_67 : decode cX6_withOf 67 = .ok (.iaload, 1) := by decide +kernel
theorem dX6_withOf_68 : decode cX6_withOf 68 = .ok (.aload_n 0, 1) := by decide +kernel
theorem dX6_withOf_69 : decode cX6_withOf 69 = .ok (.getfield 48, 3) := by decide +kernel
theorem dX6_withOf_72 : decode cX6_withOf 72 = .ok (.iload 4, 2) := by decide +kernel
theorem dX6_withOf_74 : decode cX6_withOf 74 = .ok (.iaload, 1) := by decide +kernel
theorem dX6_withOf_75 : decode cX6_withOf 75 = .ok (.iadd, 1) := by decide +kernel
theorem dX6_withOf_76 : decode cX6_withOf 76 = .ok (.goto 4, 3) := by decide +kernel
theorem dX6_withOf_79 : decode cX6_withOf 79 = .ok (.iconst (-1), 1) := by decide +kernel
theorem dX6_withOf_80 : decode cX6_withOf 80 = .ok (.ireturn, 1) := by decide +kernel
set_option maxRecDepth 20000 in
theorem ggX6_leastOf_X6_has : GoodIn wsX6_leastOf wsX6_has := goodIn_r _ [4] (by decide +kernel) (by decide +kernel)
set_option maxRecDepth 20000 in
theorem gX6_leastOf_X6_has : GoodIn wsX6_leastOf (va_wsS RX6 178 yX6_has wsX6_has) := goodIn_app (goodIn_of _ (by decide +kernel)) ggX6_leastOf_X6_has
theorem dX6_leastOf_0 : decode cX6_leastOf 0 = .ok (.iconst 0, 1) := by decide +kernel
theorem dX6_leastOf_1 : decode cX6_leastOf 1 = .ok (.istore_n 1, 1) := by decide +kernel
theorem dX6_leastOf_2 : decode cX6_leastOf 2 = .ok (.iload_n 0, 1) := by decide +kernel
theorem dX6_leastOf_3 : decode cX6_leastOf 3 = .ok (.iload_n 1, 1) := by decide +kernel
theorem dX6_leastOf_4 : decode cX6_leastOf 4 = .ok (.invokestatic 178, 3) := by decide +kernel
theorem dX6_leastOf_7 : decode cX6_leastOf 7 = .ok (.ifCond .ne 9, 3) := by decide +kernel
theorem dX6_leastOf_10 : decode cX6_leastOf 10 = .ok (.iinc 1 1, 3) := by decide +kernel
theorem dX6_leastOf_13 : decode cX6_leastOf 13 = .ok (.goto (-11), 3) := by decide +kernel
theorem dX6_leastOf_16 : decode cX6_leastOf 16 = .ok (.iload_n 1, 1) := by decide +kernel
theorem dX6_leastOf_17 : decode cX6_leastOf 17 = .ok (.ireturn, 1) := by decide +kernel
set_option maxRecDepth 20000 in
theorem ggX6_layBests_X6_leastOf : GoodIn wsX6_layBests wsX6_leastOf := goodIn_r _ [6, 7, 8, 5, 9] (by decide +kernel) (by decide +kernel)
set_option maxRecDepth 20000 in
theorem gX6_layBests_X6_leastOf : GoodIn wsX6_layBests (va_wsS RX6 252 yX6_leastOf wsX6_leastOf) := goodIn_app (goodIn_of _ (by decide +kernel)) ggX6_layBests_X6_leastOf
set_option maxRecDepth 20000 in
theorem ggX6_layBests_X6_withOf : GoodIn wsX6_layBests wsX6_withOf := goodIn_r _ [13, 14, 1, 15, 16, 5, 17, 7, 8, 9, 18, 19, 20, 21, 22, 23, 24, 25, 26, 27, 28, 29, 30, 31, 32, 33, 34, 35, 36, 37, 38, 39, 40, 41, 42, 43] (by decide +kernel) (by decide +kernel)
set_option maxRecDepth 20000 in
theorem gX6_layBests_X6_withOf : GoodIn wsX6_layBests (wsV RX6 255 RX6 yX6_withOf wsX6_withOf) := goodIn_app (goodIn_of _ (by decide +kernel)) ggX6_layBests_X6_withOf
theorem dX6_layBests_0 : decode cX6_layBests 0 = .ok (.aload_n 0, 1) := by decide +kernel
theorem dX6_layBests_1 : decode cX6_layBests 1 = .ok (.getfield 48, 3) := by decide +kernel
theorem dX6_layBests_4 : decode cX6_layBests 4 = .ok (.iconst 0, 1) := by decide +kernel
theorem dX6_layBests_5 : decode cX6_layBests 5 = .ok (.iconst 0, 1) := by decide +kernel
theorem dX6_layBests_6 : decode cX6_layBests 6 = .ok (.iastore, 1) := by decide +kernel
theorem dX6_layBests_7 : decode cX6_layBests 7 = .ok (.iconst 1, 1) := by decide +kernel
theorem dX6_layBests_8 : decode cX6_layBests 8 = .ok (.istore_n 1, 1) := by decide +kernel
theorem dX6_layBests_9 : decode cX6_layBests 9 = .ok (.iload_n 1, 1) := by decide +kernel
theorem dX6_layBests_10 : decode cX6_layBests 10 = .ok (.iconst 1, 1) := by decide +kernel
theorem dX6_layBests_11 : decode cX6_layBests 11 = .ok (.aload_n 0, 1) := by decide +kernel
theorem dX6_layBests_12 : decode cX6_layBests 12 = .ok (.getfield 23, 3) := by decide +kernel
theorem dX6_layBests_15 : decode cX6_layBests 15 = .ok (.ishl, 1) := by decide +kernel
theorem dX6_layBests_16 : decode cX6_layBests 16 = .ok (.if_icmp .ge 64, 3) := by decide +kernel
theorem dX6_layBests_19 : decode cX6_layBests 19 = .ok (.iload_n 1, 1) := by decide +kernel
theorem dX6_layBests_20 : decode cX6_layBests 20 = .ok (.invokestatic 252, 3) := by decide +kernel
theorem dX6_layBests_23 : decode cX6_layBests 23 = .ok (.istore_n 2, 1) := by decide +kernel
theorem dX6_layBests_24 : decode cX6_layBests 24 = .ok (.iconst (-1), 1) := by decide +kernel
theorem dX6_layBests_25 : decode cX6_layBests 25 = .ok (.istore_n 3, 1) := by decide +kernel
theorem dX6_layBests_26 : decode cX6_layBests 26 = .ok (.iload_n 2, 1) := by decide +kernel
theorem dX6_layBests_27 : decode cX6_layBests 27 = .ok (.istore 4, 2) := by decide +kernel
theorem dX6_layBests_29 : decode cX6_layBests 29 = .ok (.iload 4, 2) := by decide +kernel
theorem dX6_layBests_31 : decode cX6_layBests 31 = .ok (.aload_n 0, 1) := by decide +kernel
theorem dX6_layBests_32 : decode cX6_layBests 32 = .ok (.getfield 23, 3) := by decide +kernel
theorem dX6_layBests_35 : decode cX6_layBests 35 = .ok (.if_icmp .ge 32, 3) := by decide +kernel
theorem dX6_layBests_38 : decode cX6_layBests 38 = .ok (.aload_n 0, 1) := by decide +kernel
theorem dX6_layBests_39 : decode cX6_layBests 39 = .ok (.iload_n 1, 1) := by decide +kernel
theorem dX6_layBests_40 : decode cX6_layBests 40 = .ok (.iload_n 2, 1) := by decide +kernel
theorem dX6_layBests_41 : decode cX6_layBests 41 = .ok (.iload 4, 2) := by decide +kernel
theorem dX6_layBests_43 : decode cX6_layBests 43 = .ok (.invokevirtual 255, 3) := by decide +kernel
theorem dX6_layBests_46 : decode cX6_layBests 46 = .ok (.istore 5, 2) := by decide +kernel
theorem dX6_layBests_48 : decode cX6_layBests 48 = .ok (.iload 5, 2) := by decide +kernel
theorem dX6_layBests_50 : decode cX6_layBests 50 = .ok (.iload_n 3, 1) := by decide +kernel
theorem dX6_layBests_51 : decode cX6_layBests 51 = .ok (.if_icmp .le 8, 3) := by decide +kernel
theorem dX6_layBests_54 : decode cX6_layBests 54 = .ok (.iload 5, 2) := by decide +kernel
theorem dX6_layBests_56 : decode cX6_layBests 56 = .ok (.goto 4, 3) := by decide +kernel
theorem dX6_layBests_59 : decode cX6_layBests 59 = .ok (.iload_n 3, 1) := by decide +kernel
theorem dX6_layBests_60 : decode cX6_layBests 60 = .ok (.istore_n 3, 1) := by decide +kernel
theorem dX6_layBests_61 : decode cX6_layBests 61 = .ok (.iinc 4 1, 3) := by decide +kernel
theorem dX6_layBests_64 : decode cX6_layBests 64 = .ok (.goto (-35), 3) := by decide +kernel
theorem dX6_layBests_67 : decode cX6_layBests 67 = .ok (.aload_n 0, 1) := by decide +kernel
theorem dX6_layBests_68 : decode cX6_layBests 68 = .ok (.getfield 48, 3) := by decide +kernel
theorem dX6_layBests_71 : decode cX6_layBests 71 = .ok (.iload_n 1, 1) := by decide +kernel
theorem dX6_layBests_72 : decode cX6_layBests 72 = .ok (.iload_n 3, 1) := by decide +kernel
theorem dX6_layBests_73 : decode cX6_layBests 73 = .ok (.iastore, 1) := by decide +kernel
theorem dX6_layBests_74 : decode cX6_layBests 74 = .ok (.iinc 1 1, 3) := by decide +kernel
theorem dX6_layBests_77 : decode cX6_layBests 77 = .ok (.goto (-68), 3) := by decide +kernel
theorem dX6_layBests_80 : decode cX6_layBests 80 = .ok (.return_, 1) := by decide +kernel
set_option maxRecDepth 20000 in
theorem ggX6_partnerOf_X6_leastOf : GoodIn wsX6_partnerOf wsX6_leastOf := goodIn_r _ [6, 7, 8, 5, 9] (by decide +kernel) (by decide +kernel)
set_option maxRecDepth 20000 in
theorem gX6_partnerOf_X6_leastOf : GoodIn wsX6_partnerOf (va_wsS RX6 252 yX6_leastOf wsX6_leastOf) := goodIn_app (goodIn_of _ (by decide +kernel)) ggX6_partnerOf_X6_leastOf
set_option maxRecDepth 20000 in
theorem ggX6_partnerOf_X6_withOf : GoodIn wsX6_partnerOf wsX6_withOf := goodIn_r _ [13, 14, 2, 15, 16, 5, 17, 7, 8, 9, 18, 19, 20, 21, 22, 23, 24, 25, 26, 27, 28, 29, 30, 31, 32, 33, 34, 35, 36, 37, 38, 39, 40, 41, 42, 43] (by decide +kernel) (by decide +kernel)
set_option maxRecDepth 20000 in
theorem gX6_partnerOf_X6_withOf : GoodIn wsX6_partnerOf (wsV RX6 255 RX6 yX6_withOf wsX6_withOf) := goodIn_app (goodIn_of _ (by decide +kernel)) ggX6_partnerOf_X6_withOf
theorem dX6_partnerOf_0 : decode cX6_partnerOf 0 = .ok (.iload_n 1, 1) := by decide +kernel
theorem dX6_partnerOf_1 : decode cX6_partnerOf 1 = .ok (.invokestatic 252, 3) := by decide +kernel
theorem dX6_partnerOf_4 : decode cX6_partnerOf 4 = .ok (.istore_n 2, 1) := by decide +kernel
theorem dX6_partnerOf_5 : decode cX6_partnerOf 5 = .ok (.iload_n 2, 1) := by decide +kernel
theorem dX6_partnerOf_6 : decode cX6_partnerOf 6 = .ok (.iconst 1, 1) := by decide +kernel
theorem dX6_partnerOf_7 : decode cX6_partnerOf 7 = .ok (.iadd, 1) := by decide +kernel
theorem dX6_partnerOf_8 : decode cX6_partnerOf 8 = .ok (.istore_n 3, 1) := by decide +kernel
theorem dX6_partnerOf_9 : decode cX6_partnerOf 9 = .ok (.iload_n 3, 1) := by decide +kernel
theorem dX6_partnerOf_10 : decode cX6_partnerOf 10 = .ok (.aload_n 0, 1) := by decide +kernel
theorem dX6_partnerOf_11 : decode cX6_partnerOf 11 = .ok (.getfield 23, 3) := by decide +kernel
theorem dX6_partnerOf_14 : decode cX6_partnerOf 14 = .ok (.if_icmp .ge 27, 3) := by decide +kernel
theorem dX6_partnerOf_17 : decode cX6_partnerOf 17 = .ok (.aload_n 0, 1) := by decide +kernel
theorem dX6_partnerOf_18 : decode cX6_partnerOf 18 = .ok (.iload_n 1, 1) := by decide +kernel
theorem dX6_partnerOf_19 : decode cX6_partnerOf 19 = .ok (.iload_n 2, 1) := by decide +kernel
theorem dX6_partnerOf_20 : decode cX6_partnerOf 20 = .ok (.iload_n 3, 1) := by decide +kernel
theorem dX6_partnerOf_21 : decode cX6_partnerOf 21 = .ok (.invokevirtual 255, 3) := by decide +kernel
theorem dX6_partnerOf_24 : decode cX6_partnerOf 24 = .ok (.aload_n 0, 1) := by decide +kernel
theorem dX6_partnerOf_25 : decode cX6_partnerOf 25 = .ok (.getfield 48, 3) := by decide +kernel
theorem dX6_partnerOf_28 : decode cX6_partnerOf 28 = .ok (.iload_n 1, 1) := by decide +kernel
theorem dX6_partnerOf_29 : decode cX6_partnerOf 29 = .ok (.iaload, 1) := by decide +kernel
theorem dX6_partnerOf_30 : decode cX6_partnerOf 30 = .ok (.if_icmp .ne 5, 3) := by decide +kernel
theorem dX6_partnerOf_33 : decode cX6_partnerOf 33 = .ok (.iload_n 3, 1) := by decide +kernel
theorem dX6_partnerOf_34 : decode cX6_partnerOf 34 = .ok (.ireturn, 1) := by decide +kernel
theorem dX6_partnerOf_35 : decode cX6_partnerOf 35 = .ok (.iinc 3 1, 3) := by decide +kernel
theorem dX6_partnerOf_38 : decode cX6_partnerOf 38 = .ok (.goto (-29), 3) := by decide +kernel
theorem dX6_partnerOf_41 : decode cX6_partnerOf 41 = .ok (.iload_n 2, 1) := by decide +kernel
theorem dX6_partnerOf_42 : decode cX6_partnerOf 42 = .ok (.ireturn, 1) := by decide +kernel
set_option maxRecDepth 20000 in
theorem ggX6_pair_X6_isHouse : GoodIn wsX6_pair wsX6_isHouse := goodIn_r _ [7, 1, 8, 9, 6, 10, 33, 34, 35, 36, 37, 38, 39, 40, 41, 42, 43, 44, 45, 46, 47, 48, 49, 50, 51, 52, 53, 54, 55, 56, 57, 58] (by decide +kernel) (by decide +kernel)
set_option maxRecDepth 20000 in
theorem gX6_pair_X6_isHouse : GoodIn wsX6_pair (wsV RX6 160 RX6 yX6_isHouse wsX6_isHouse) := goodIn_app (goodIn_of _ (by decide +kernel)) ggX6_pair_X6_isHouse
set_option maxRecDepth 20000 in
theorem ggX6_pair_X6_layBests : GoodIn wsX6_pair wsX6_layBests := goodIn_r _ [14, 2, 1, 15, 16, 6, 17, 18, 19, 20, 21, 22, 23, 24, 25, 26, 27, 28, 33, 34, 35, 36, 37, 38, 39, 40, 41, 42, 43, 44, 45, 46, 47, 48, 49, 50, 51, 52, 53, 54, 55, 56, 57, 58] (by decide +kernel) (by decide +kernel)
set_option maxRecDepth 20000 in
theorem gX6_pair_X6_layBests : GoodIn wsX6_pair (wsV RX6 258 RX6 yX6_layBests wsX6_layBests) := goodIn_app (goodIn_of _ (by decide +kernel)) ggX6_pair_X6_layBests
set_option maxRecDepth 20000 in
theorem ggX6_pair_X6_leastOf : GoodIn wsX6_pair wsX6_leastOf := goodIn_r _ [17, 18, 19, 6, 20] (by decide +kernel) (by decide +kernel)
set_option maxRecDepth 20000 in
theorem gX6_pair_X6_leastOf : GoodIn wsX6_pair (va_wsS RX6 252 yX6_leastOf wsX6_leastOf) := goodIn_app (goodIn_of _ (by decide +kernel)) ggX6_pair_X6_leastOf
set_option maxRecDepth 20000 in
theorem ggX6_pair_X6_partnerOf : GoodIn wsX6_pair wsX6_partnerOf := goodIn_r _ [32, 1, 2, 15, 16, 6, 17, 18, 19, 20, 21, 22, 23, 24, 25, 26, 27, 28, 33, 34, 35, 36, 37, 38, 39, 40, 41, 42, 43, 44, 45, 46, 47, 48, 49, 50, 51, 52, 53, 54, 55, 56, 57, 58] (by decide +kernel) (by decide +kernel)
set_option maxRecDepth 20000 in
theorem gX6_pair_X6_partnerOf : GoodIn wsX6_pair (wsV RX6 261 RX6 yX6_partnerOf wsX6_partnerOf) := goodIn_app (goodIn_of _ (by decide +kernel)) ggX6_pair_X6_partnerOf
theorem dX6_pair_0 : decode cX6_pair 0 = .ok (.iload_n 1, 1) := by decide +kernel
theorem dX6_pair_1 : decode cX6_pair 1 = .ok (.iconst (-1), 1) := by decide +kernel
theorem dX6_pair_2 : decode cX6_pair 2 = .ok (.if_icmp .eq 14, 3) := by decide +kernel
theorem dX6_pair_5 : decode cX6_pair 5 = .ok (.aload_n 0, 1) := by decide +kernel
theorem dX6_pair_6 : decode cX6_pair 6 = .ok (.iload_n 1, 1) := by decide +kernel
theorem dX6_pair_7 : decode cX6_pair 7 = .ok (.invokevirtual 160, 3) := by decide +kernel
theorem dX6_pair_10 : decode cX6_pair 10 = .ok (.ifCond .ne 6, 3) := by decide +kernel
theorem dX6_pair_13 : decode cX6_pair 13 = .ok (.bipush (-2), 2) := by decide +kernel
theorem dX6_pair_15 : decode cX6_pair 15 = .ok (.ireturn, 1) := by decide +kernel
theorem dX6_pair_16 : decode cX6_pair 16 = .ok (.aload_n 0, 1) := by decide +kernel
theorem dX6_pair_17 : decode cX6_pair 17 = .ok (.invokevirtual 258, 3) := by decide +kernel
theorem dX6_pair_20 : decode cX6_pair 20 = .ok (.iconst 1, 1) := by decide +kernel
theorem dX6_pair_21 : decode cX6_pair 21 = .ok (.aload_n 0, 1) := by decide +kernel
theorem dX6_pair_22 : decode cX6_pair 22 = .ok (.getfield 23, 3) := by decide +kernel
theorem dX6_pair_25 : decode cX6_pair 25 = .ok (.ishl, 1) := by decide +kernel
theorem dX6_pair_26 : decode cX6_pair 26 = .ok (.iconst 1, 1) := by decide +kernel
theorem dX6_pair_27 : decode cX6_pair 27 = .ok (.isub, 1) := by decide +kernel
theorem dX6_pair_28 : decode cX6_pair 28 = .ok (.istore_n 2, 1) := by decide +kernel
theorem dX6_pair_29 : decode cX6_pair 29 = .ok (.iload_n 1, 1) := by decide +kernel
theorem dX6_pair_30 : decode cX6_pair 30 = .ok (.iconst (-1), 1) := by decide +kernel
theorem dX6_pair_31 : decode cX6_pair 31 = .ok (.if_icmp .ne 10, 3) := by decide +kernel
theorem dX6_pair_34 : decode cX6_pair 34 = .ok (.aload_n 0, 1) := by decide +kernel
theorem dX6_pair_35 : decode cX6_pair 35 = .ok (.getfield 48, 3) := by decide +kernel
theorem dX6_pair_38 : decode cX6_pair 38 = .ok (.iload_n 2, 1) := by decide +kernel
theorem dX6_pair_39 : decode cX6_pair 39 = .ok (.iaload, 1) := by decide +kernel
theorem dX6_pair_40 : decode cX6_pair 40 = .ok (.ireturn, 1) := by decide +kernel
theorem dX6_pair_41 : decode cX6_pair 41 = .ok (.iload_n 2, 1) := by decide +kernel
theorem dX6_pair_42 : decode cX6_pair 42 = .ok (.ifCond .eq 64, 3) := by decide +kernel
theorem dX6_pair_45 : decode cX6_pair 45 = .ok (.iload_n 2, 1) := by decide +kernel
theorem dX6_pair_46 : decode cX6_pair 46 = .ok (.invokestatic 252, 3) := by decide +kernel
theorem dX6_pair_49 : decode cX6_pair 49 = .ok (.istore_n 3, 1) := by decide +kernel
theorem dX6_pair_50 : decode cX6_pair 50 = .ok (.aload_n 0, 1) := by decide +kernel
theorem dX6_pair_51 : decode cX6_pair 51 = .ok (.iload_n 2, 1) := by decide +kernel
theorem dX6_pair_52 : decode cX6_pair 52 = .ok (.invokevirtual 261, 3) := by decide +kernel
theorem dX6_pair_55 : decode cX6_pair 55 = .ok (.istore 4, 2) := by decide +kernel
theorem dX6_pair_57 : decode cX6_pair 57 = .ok (.iload_n 3, 1) := by decide +kernel
theorem dX6_pair_58 : decode cX6_pair 58 = .ok (.iload_n 1, 1) := by decide +kernel
theorem dX6_pair_59 : decode cX6_pair 59 = .ok (.if_icmp .eq 9, 3) := by decide +kernel
theorem dX6_pair_62 : decode cX6_pair 62 = .ok (.iload 4, 2) := by decide +kernel
theorem dX6_pair_64 : decode cX6_pair 64 = .ok (.iload_n 1, 1) := by decide +kernel
theorem dX6_pair_65 : decode cX6_pair 65 = .ok (.if_icmp .ne 25, 3) := by decide +kernel
theorem dX6_pair_68 : decode cX6_pair 68 = .ok (.iload_n 3, 1) := by decide +kernel
theorem dX6_pair_69 : decode cX6_pair 69 = .ok (.iload 4, 2) := by decide +kernel
theorem dX6_pair_71 : decode cX6_pair 71 = .ok (.if_icmp .ne 7, 3) := by decide +kernel
theorem dX6_pair_74 : decode cX6_pair 74 = .ok (.iconst (-1), 1) := by decide +kernel
theorem dX6_pair_75 : decode cX6_pair 75 = .ok (.goto 14, 3) := by decide +kernel
theorem dX6_pair_78 : decode cX6_pair 78 = .ok (.iload_n 3, 1) := by decide +kernel
theorem dX6_pair_79 : decode cX6_pair 79 = .ok (.iload_n 1, 1) := by decide +kernel
theorem dX6_pair_80 : decode cX6_pair 80 = .ok (.if_icmp .ne 8, 3) := by decide +kernel
theorem dX6_pair_83 : decode cX6_pair 83 = .ok (.iload 4, 2) := by decide +kernel
theorem dX6_pair_85 : decode cX6_pair 85 = .ok (.goto 4, 3) := by decide +kernel
theorem dX6_pair_88 : decode cX6_pair 88 = .ok (.iload_n 3, 1) := by decide +kernel
theorem dX6_pair_89 : decode cX6_pair 89 = .ok (.ireturn, 1) := by decide +kernel
theorem dX6_pair_90 : decode cX6_pair 90 = .ok (.iload_n 2, 1) := by decide +kernel
theorem dX6_pair_91 : decode cX6_pair 91 = .ok (.iconst 1, 1) := by decide +kernel
theorem dX6_pair_92 : decode cX6_pair 92 = .ok (.iload_n 3, 1) := by decide +kernel
theorem dX6_pair_93 : decode cX6_pair 93 = .ok (.ishl, 1) := by decide +kernel
theorem dX6_pair_94 : decode cX6_pair 94 = .ok (.iconst 1, 1) := by decide +kernel
theorem dX6_pair_95 : decode cX6_pair 95 = .ok (.iload 4, 2) := by decide +kernel
theorem dX6_pair_97 : decode cX6_pair 97 = .ok (.ishl, 1) := by decide +kernel
theorem dX6_pair_98 : decode cX6_pair 98 = .ok (.ior, 1) := by decide +kernel
theorem dX6_pair_99 : decode cX6_pair 99 = .ok (.iconst (-1), 1) := by decide +kernel
theorem dX6_pair_100 : decode cX6_pair 100 = .ok (.ixor, 1) := by decide +kernel
theorem dX6_pair_101 : decode cX6_pair 101 = .ok (.iand, 1) := by decide +kernel
theorem dX6_pair_102 : decode cX6_pair 102 = .ok (.istore_n 2, 1) := by decide +kernel
theorem dX6_pair_103 : decode cX6_pair 103 = .ok (.goto (-62), 3) := by decide +kernel
theorem dX6_pair_106 : decode cX6_pair 106 = .ok (.iconst (-1), 1) := by decide +kernel
theorem dX6_pair_107 : decode cX6_pair 107 = .ok (.ireturn, 1) := by decide +kernel
set_option maxRecDepth 20000 in
theorem ggX6_town_X6_in : GoodIn wsX6_town wsX6_in := goodIn_r _ [6] (by decide +kernel) (by decide +kernel)
set_option maxRecDepth 20000 in
theorem gX6_town_X6_in : GoodIn wsX6_town (va_wsS RX6 56 yX6_in wsX6_in) := goodIn_app (goodIn_of _ (by decide +kernel)) ggX6_town_X6_in
set_option maxRecDepth 20000 in
theorem ggX6_town_X6_wayEnd : GoodIn wsX6_town wsX6_wayEnd := goodIn_r _ [10, 11, 12, 13, 14, 15, 16, 17, 18, 19, 20, 21, 22, 23, 24, 25, 26, 27, 28, 29, 30, 31, 32, 33, 34, 35, 36, 37] (by decide +kernel) (by decide +kernel)
set_option maxRecDepth 20000 in
theorem gX6_town_X6_wayEnd : GoodIn wsX6_town (wsV RX6 197 RX6 yX6_wayEnd wsX6_wayEnd) := goodIn_app (goodIn_of _ (by decide +kernel)) ggX6_town_X6_wayEnd
theorem dX6_town_0 : decode cX6_town 0 = .ok (.iload_n 1, 1) := by decide +kernel
theorem dX6_town_1 : decode cX6_town 1 = .ok (.i2l, 1) := by decide +kernel
theorem dX6_town_2 : decode cX6_town 2 = .ok (.lconst 0, 1) := by decide +kernel
theorem dX6_town_3 : decode cX6_town 3 = .ok (.ldc2_w 264, 3) := by decide +kernel
theorem dX6_town_6 : decode cX6_town 6 = .ok (.invokestatic 56, 3) := by decide +kernel
theorem dX6_town_9 : decode cX6_town 9 = .ok (.ifCond .ne 6, 3) := by decide +kernel
theorem dX6_town_12 : decode cX6_town 12 = .ok (.bipush (-3), 2) := by decide +kernel
theorem dX6_town_14 : decode cX6_town 14 = .ok (.ireturn, 1) := by decide +kernel
theorem dX6_town_15 : decode cX6_town 15 = .ok (.iconst 0, 1) := by decide +kernel
theorem dX6_town_16 : decode cX6_town 16 = .ok (.istore_n 2, 1) := by decide +kernel
theorem dX6_town_17 : decode cX6_town 17 = .ok (.iconst 0, 1) := by decide +kernel
theorem dX6_town_18 : decode cX6_town 18 = .ok (.istore_n 3, 1) := by decide +kernel
theorem dX6_town_19 : decode cX6_town 19 = .ok (.iconst 0, 1) := by decide +kernel
theorem dX6_town_20 : decode cX6_town 20 = .ok (.istore 4, 2) := by decide +kernel
theorem dX6_town_22 : decode cX6_town 22 = .ok (.iconst 0, 1) := by decide +kernel
theorem dX6_town_23 : decode cX6_town 23 = .ok (.istore 5, 2) := by decide +kernel
theorem dX6_town_25 : decode cX6_town 25 = .ok (.iload 5, 2) := by decide +kernel
theorem dX6_town_27 : decode cX6_town 27 = .ok (.aload_n 0, 1) := by decide +kernel
theorem dX6_town_28 : decode cX6_town 28 = .ok (.getfield 23, 3) := by decide +kernel
theorem dX6_town_31 : decode cX6_town 31 = .ok (.if_icmp .ge 157, 3) := by decide +kernel
theorem dX6_town_34 : decode cX6_town 34 = .ok (.iload 4, 2) := by decide +kernel
theorem dX6_town_36 : decode cX6_town 36 = .ok (.aload_n 0, 1) := by decide +kernel
theorem dX6_town_37 : decode cX6_town 37 = .ok (.iload 5, 2) := by decide +kernel
theorem dX6_town_39 : decode cX6_town 39 = .ok (.aload_n 0, 1) := by decide +kernel
theorem dX6_town_40 : decode cX6_town 40 = .ok (.getfield 23, 3) := by decide +kernel
theorem dX6_town_43 : decode cX6_town 43 = .ok (.invokevirtual 197, 3) := by decide +kernel
theorem dX6_town_46 : decode cX6_town 46 = .ok (.iconst (-1), 1) := by decide +kernel
theorem dX6_town_47 : decode cX6_town 47 = .ok (.if_icmp .ne 10, 3) := by decide +kernel
theorem dX6_town_50 : decode cX6_town 50 = .ok (.iconst 1, 1) := by decide +kernel
theorem dX6_town_51 : decode cX6_town 51 = .ok (.iload 5, 2) := by decide +kernel
theorem dX6_town_53 : decode cX6_town 53 = .ok (.ishl, 1) := by decide +kernel
theorem dX6_town_54 : decode cX6_town 54 = .ok (.goto 4, 3) := by decide +kernel
theorem dX6_town_57 : decode cX6_town 57 = .ok (.iconst 0, 1) := by decide +kernel
theorem dX6_town_58 : decode cX6_town 58 = .ok (.ior, 1) := by decide +kernel
theorem dX6_town_59 : decode cX6_town 59 = .ok (.istore 4, 2) := by decide +kernel
theorem dX6_town_61 : decode cX6_town 61 = .ok (.iconst 0, 1) := by decide +kernel
theorem dX6_town_62 : decode cX6_town 62 = .ok (.istore 6, 2) := by decide +kernel
theorem dX6_town_64 : decode cX6_town 64 = .ok (.iconst 1, 1) := by decide +kernel
theorem dX6_town_65 : decode cX6_town 65 = .ok (.istore 7, 2) := by decide +kernel
theorem dX6_town_67 : decode cX6_town 67 = .ok (.aload_n 0, 1) := by decide +kernel
theorem dX6_town_68 : decode cX6_town 68 = .ok (.getfield 23, 3) := by decide +kernel
theorem dX6_town_71 : decode cX6_town 71 = .ok (.istore 8, 2) := by decide +kernel
theorem dX6_town_73 : decode cX6_town 73 = .ok (.iload 8, 2) := by decide +kernel
theorem dX6_town_75 : decode cX6_town 75 = .ok (.ifCond .le 35, 3) := by decide +kernel
theorem dX6_town_78 : decode cX6_town 78 = .ok (.aload_n 0, 1) := by decide +kernel
theorem dX6_town_79 : decode cX6_town 79 = .ok (.iload 5, 2) := by decide +kernel
theorem dX6_town_81 : decode cX6_town 81 = .ok (.iload 8, 2) := by decide +kernel
theorem dX6_town_83 : decode cX6_town 83 = .ok (.invokevirtual 197, 3) := by decide +kernel
theorem dX6_town_86 : decode cX6_town 86 = .ok (.istore 9, 2) := by decide +kernel
theorem dX6_town_88 : decode cX6_town 88 = .ok (.iload 9, 2) := by decide +kernel
theorem dX6_town_90 : decode cX6_town 90 = .ok (.iload 5, 2) := by decide +kernel
theorem dX6_town_92 : decode cX6_town 92 = .ok (.if_icmp .ne 8, 3) := by decide +kernel
theorem dX6_town_95 : decode cX6_town 95 = .ok (.iload 8, 2) := by decide +kernel
theorem dX6_town_97 : decode cX6_town 97 = .ok (.goto 5, 3) := by decide +kernel
theorem dX6_town_100 : decode cX6_town 100 = .ok (.iload 6, 2) := by decide +kernel
theorem dX6_town_102 : decode cX6_town 102 = .ok (.istore 6, 2) := by decide +kernel
theorem dX6_town_104 : decode cX6_town 104 = .ok (.iinc 8 (-1), 3) := by decide +kernel
theorem dX6_town_107 : decode cX6_town 107 = .ok (.goto (-34), 3) := by decide +kernel
theorem dX6_town_110 : decode cX6_town 110 = .ok (.iconst 0, 1) := by decide +kernel
theorem dX6_town_111 : decode cX6_town 111 = .ok (.istore 8, 2) := by decide +kernel
theorem dX6_town_113 : decode cX6_town 113 = .ok (.iload 8, 2) := by decide +kernel
theorem dX6_town_115 : decode cX6_town 115 = .ok (.iload 6, 2) := by decide +kernel
theorem dX6_town_117 : decode cX6_town 117 = .ok (.if_icmp .ge 34, 3) := by decide +kernel
theorem dX6_town_120 : decode cX6_town 120 = .ok (.iload 7, 2) := by decide +kernel
theorem dX6_town_122 : decode cX6_town 122 = .ok (.ifCond .eq 20, 3) := by decide +kernel
theorem dX6_town_125 : decode cX6_town 125 = .ok (.aload_n 0, 1) := by decide +kernel
theorem dX6_town_126 : decode cX6_town 126 = .ok (.iload 5, 2) := by decide +kernel
theorem dX6_town_128 : decode cX6_town 128 = .ok (.iload 8, 2) := by decide +kernel
theorem dX6_town_130 : decode cX6_town 130 = .ok (.invokevirtual 197, 3) := by decide +kernel
theorem dX6_town_133 : decode cX6_town 133 = .ok (.iload 5, 2) := by decide +kernel
theorem dX6_town_135 : decode cX6_town 135 = .ok (.if_icmp .lt 7, 3) := by decide +kernel
theorem dX6_town_138 : decode cX6_town 138 = .ok (.iconst 1, 1) := by decide +kernel
theorem dX6_town_139 : decode cX6_town 139 = .ok (.goto 4, 3) := by decide +kernel
theorem dX6_town_142 : decode cX6_town 142 = .ok (.iconst 0, 1) := by decide +kernel
theorem dX6_town_143 : decode cX6_town 143 = .ok (.istore 7, 2) := by decide +kernel
theorem dX6_town_145 : decode cX6_town 145 = .ok (.iinc 8 1, 3) := by decide +kernel
theorem dX6_town_148 : decode cX6_town 148 = .ok (.goto (-35), 3) := by decide +kernel
theorem dX6_town_151 : decode cX6_town 151 = .ok (.iload_n 2, 1) := by decide +kernel
theorem dX6_town_152 : decode cX6_town 152 = .ok (.iload 6, 2) := by decide +kernel
theorem dX6_town_154 : decode cX6_town 154 = .ok (.ifCond .le 12, 3) := by decide +kernel
theorem dX6_town_157 : decode cX6_town 157 = .ok (.iload 7, 2) := by decide +kernel
theorem dX6_town_159 : decode cX6_town 159 = .ok (.ifCond .eq 7, 3) := by decide +kernel
theorem dX6_town_162 : decode cX6_town 162 = .ok (.iconst 1, 1) := by decide +kernel
theorem dX6_town_163 : decode cX6_town 163 = .ok (.goto 4, 3) := by decide +kernel
theorem dX6_town_166 : decode cX6_town 166 = .ok (.iconst 0, 1) := by decide +kernel
theorem dX6_town_167 : decode cX6_town 167 = .ok (.iadd, 1) := by decide +kernel
theorem dX6_town_168 : decode cX6_town 168 = .ok (.istore_n 2, 1) := by decide +kernel
theorem dX6_town_169 : decode cX6_town 169 = .ok (.iload 6, 2) := by decide +kernel
theorem dX6_town_171 : decode cX6_town 171 = .ok (.iload_n 3, 1) := by decide +kernel
theorem dX6_town_172 : decode cX6_town 172 = .ok (.if_icmp .le 8, 3) := by decide +kernel
theorem dX6_town_175 : decode cX6_town 175 = .ok (.iload 6, 2) := by decide +kernel
theorem dX6_town_177 : decode cX6_town 177 = .ok (.goto 4, 3) := by decide +kernel
theorem dX6_town_180 : decode cX6_town 180 = .ok (.iload_n 3, 1) := by decide +kernel
theorem dX6_town_181 : decode cX6_town 181 = .ok (.istore_n 3, 1) := by decide +kernel
theorem dX6_town_182 : decode cX6_town 182 = .ok (.iinc 5 1, 3) := by decide +kernel
theorem dX6_town_185 : decode cX6_town 185 = .ok (.goto (-160), 3) := by decide +kernel
theorem dX6_town_188 : decode cX6_town 188 = .ok (.iload_n 1, 1) := by decide +kernel
theorem dX6_town_189 : decode cX6_town 189 = .ok (.ifCond .ne 7, 3) := by decide +kernel
theorem dX6_town_192 : decode cX6_town 192 = .ok (.iload_n 2, 1) := by decide +kernel
theorem dX6_town_193 : decode cX6_town 193 = .ok (.goto 14, 3) := by decide +kernel
theorem dX6_town_196 : decode cX6_town 196 = .ok (.iload_n 1, 1) := by decide +kernel
theorem dX6_town_197 : decode cX6_town 197 = .ok (.iconst 1, 1) := by decide +kernel
theorem dX6_town_198 : decode cX6_town 198 = .ok (.if_icmp .ne 7, 3) := by decide +kernel
theorem dX6_town_201 : decode cX6_town 201 = .ok (.iload_n 3, 1) := by decide +kernel
theorem dX6_town_202 : decode cX6_town 202 = .ok (.goto 5, 3) := by decide +kernel
theorem dX6_town_205 : decode cX6_town 205 = .ok (.iload 4, 2) := by decide +kernel
theorem dX6_town_207 : decode cX6_town 207 = .ok (.ireturn, 1) := by decide +kernel
set_option maxRecDepth 20000 in
theorem ggX6_seen_X6_isHouse : GoodIn wsX6_seen wsX6_isHouse := goodIn_r _ [7, 8, 9, 10, 6, 11, 21, 22, 23, 24, 25, 26, 27, 28, 29, 30, 31, 32, 33, 34, 35, 36, 37, 38, 39, 40, 41, 42, 43, 44, 45, 46] (by decide +kernel) (by decide +kernel)
set_option maxRecDepth 20000 in
theorem gX6_seen_X6_isHouse : GoodIn wsX6_seen (wsV RX6 160 RX6 yX6_isHouse wsX6_isHouse) := goodIn_app (goodIn_of _ (by decide +kernel)) ggX6_seen_X6_isHouse
set_option maxRecDepth 20000 in
theorem ggX6_seen_X6_isDeed : GoodIn wsX6_seen wsX6_isDeed := goodIn_r _ [15, 16, 9, 10, 6, 11, 21, 22, 23, 24, 25, 26, 27, 28, 29, 30, 31, 32, 33, 34, 35, 36, 37, 38, 39, 40, 41, 42, 43, 44, 45, 46] (by decide +kernel) (by decide +kernel)
set_option maxRecDepth 20000 in
theorem gX6_seen_X6_isDeed : GoodIn wsX6_seen (wsV RX6 163 RX6 yX6_isDeed wsX6_isDeed) := goodIn_app (goodIn_of _ (by decide +kernel)) ggX6_seen_X6_isDeed
set_option maxRecDepth 20000 in
theorem ggX6_seen_X6_isTime : GoodIn wsX6_seen wsX6_isTime := goodIn_r _ [19, 20, 9, 10, 6, 11] (by decide +kernel) (by decide +kernel)
set_option maxRecDepth 20000 in
theorem gX6_seen_X6_isTime : GoodIn wsX6_seen (va_wsS RX6 203 yX6_isTime wsX6_isTime) := goodIn_app (goodIn_of _ (by decide +kernel)) ggX6_seen_X6_isTime
theorem dX6_seen_0 : decode cX6_seen 0 = .ok (.aload_n 0, 1) := by decide +kernel
theorem dX6_seen_1 : decode cX6_seen 1 = .ok (.iload_n 1, 1) := by decide +kernel
theorem dX6_seen_2 : decode cX6_seen 2 = .ok (.invokevirtual 160, 3) := by decide +kernel
theorem dX6_seen_5 : decode cX6_seen 5 = .ok (.ifCond .eq 16, 3) := by decide +kernel
theorem dX6_seen_8 : decode cX6_seen 8 = .ok (.iload_n 2, 1) := by decide +kernel
theorem dX6_seen_9 : decode cX6_seen 9 = .ok (.iconst (-1), 1) := by decide +kernel
theorem dX6_seen_10 : decode cX6_seen 10 = .ok (.if_icmp .eq 14, 3) := by decide +kernel
theorem dX6_seen_13 : decode cX6_seen 13 = .ok (.aload_n 0, 1) := by decide +kernel
theorem dX6_seen_14 : decode cX6_seen 14 = .ok (.iload_n 2, 1) := by decide +kernel
theorem dX6_seen_15 : decode cX6_seen 15 = .ok (.invokevirtual 163, 3) := by decide +kernel
theorem dX6_seen_18 : decode cX6_seen 18 = .ok (.ifCond .ne 6, 3) := by decide +kernel
theorem dX6_seen_21 : decode cX6_seen 21 = .ok (.bipush (-2), 2) := by decide +kernel
theorem dX6_seen_23 : decode cX6_seen 23 = .ok (.ireturn, 1) := by decide +kernel
theorem dX6_seen_24 : decode cX6_seen 24 = .ok (.iload_n 3, 1) := by decide +kernel
theorem dX6_seen_25 : decode cX6_seen 25 = .ok (.invokestatic 203, 3) := by decide +kernel
theorem dX6_seen_28 : decode cX6_seen 28 = .ok (.ifCond .ne 6, 3) := by decide +kernel
theorem dX6_seen_31 : decode cX6_seen 31 = .ok (.bipush (-3), 2) := by decide +kernel
theorem dX6_seen_33 : decode cX6_seen 33 = .ok (.ireturn, 1) := by decide +kernel
theorem dX6_seen_34 : decode cX6_seen 34 = .ok (.aload_n 0, 1) := by decide +kernel
theorem dX6_seen_35 : decode cX6_seen 35 = .ok (.getfield 157, 3) := by decide +kernel
theorem dX6_seen_38 : decode cX6_seen 38 = .ok (.bipush 8, 2) := by decide +kernel
theorem dX6_seen_40 : decode cX6_seen 40 = .ok (.if_icmp .ne 6, 3) := by decide +kernel
theorem dX6_seen_43 : decode cX6_seen 43 = .ok (.bipush (-5), 2) := by decide +kernel
theorem dX6_seen_45 : decode cX6_seen 45 = .ok (.ireturn, 1) := by decide +kernel
theorem dX6_seen_46 : decode cX6_seen 46 = .ok (.aload_n 0, 1) := by decide +kernel
theorem dX6_seen_47 : decode cX6_seen 47 = .ok (.getfield 51, 3) := by decide +kernel
theorem dX6_seen_50 : decode cX6_seen 50 = .ok (.iconst 3, 1) := by decide +kernel
theorem dX6_seen_51 : decode cX6_seen 51 = .ok (.aload_n 0, 1) := by decide +kernel
theorem dX6_seen_52 : decode cX6_seen 52 = .ok (.getfield 157, 3) := by decide +kernel
theorem dX6_seen_55 : decode cX6_seen 55 = .ok (.imul, 1) := by decide +kernel
theorem dX6_seen_56 : decode cX6_seen 56 = .ok (.iload_n 1, 1) := by decide +kernel
theorem dX6_seen_57 : decode cX6_seen 57 = .ok (.iastore, 1) := by decide +kernel
theorem dX6_seen_58 : decode cX6_seen 58 = .ok (.aload_n 0, 1) := by decide +kernel
theorem dX6_seen_59 : decode cX6_seen 59 = .ok (.getfield 51, 3) := by decide +kernel
theorem dX6_seen_62 : decode cX6_seen 62 = .ok (.iconst 3, 1) := by decide +kernel
theorem dX6_seen_63 : decode cX6_seen 63 = .ok (.aload_n 0, 1) := by decide +kernel
theorem dX6_seen_64 : decode cX6_seen 64 = .ok (.getfield 157, 3) := by decide +kernel
theorem dX6_seen_67 : decode cX6_seen 67 = .ok (.imul, 1) := by decide +kernel
theorem dX6_seen_68 : decode cX6_seen 68 = .ok (.iconst 1, 1) := by decide +kernel
theorem dX6_seen_69 : decode cX6_seen 69 = .ok (.iadd, 1) := by decide +kernel
theorem dX6_seen_70 : decode cX6_seen 70 = .ok (.iload_n 2, 1) := by decide +kernel
theorem dX6_seen_71 : decode cX6_seen 71 = .ok (.iastore, 1) := by decide +kernel
theorem dX6_seen_72 : decode cX6_seen 72 = .ok (.aload_n 0, 1) := by decide +kernel
theorem dX6_seen_73 : decode cX6_seen 73 = .ok (.getfield 51, 3) := by decide +kernel
theorem dX6_seen_76 : decode cX6_seen 76 = .ok (.iconst 3, 1) := by decide +kernel
theorem dX6_seen_77 : decode cX6_seen 77 = .ok (.aload_n 0, 1) := by decide +kernel
theorem dX6_seen_78 : decode cX6_seen 78 = .ok (.getfield 157, 3) := by decide +kernel
theorem dX6_seen_81 : decode cX6_seen 81 = .ok (.imul, 1) := by decide +kernel
theorem dX6_seen_82 : decode cX6_seen 82 = .ok (.iconst 2, 1) := by decide +kernel
theorem dX6_seen_83 : decode cX6_seen 83 = .ok (.iadd, 1) := by decide +kernel
theorem dX6_seen_84 : decode cX6_seen 84 = .ok (.iload_n 3, 1) := by decide +kernel
theorem dX6_seen_85 : decode cX6_seen 85 = .ok (.iastore, 1) := by decide +kernel
theorem dX6_seen_86 : decode cX6_seen 86 = .ok (.aload_n 0, 1) := by decide +kernel
theorem dX6_seen_87 : decode cX6_seen 87 = .ok (.dup, 1) := by decide +kernel
theorem dX6_seen_88 : decode cX6_seen 88 = .ok (.getfield 157, 3) := by decide +kernel
theorem dX6_seen_91 : decode cX6_seen 91 = .ok (.iconst 1, 1) := by decide +kernel
theorem dX6_seen_92 : decode cX6_seen 92 = .ok (.iadd, 1) := by decide +kernel
theorem dX6_seen_93 : decode cX6_seen 93 = .ok (.putfield 157, 3) := by decide +kernel
theorem dX6_seen_96 : decode cX6_seen 96 = .ok (.aload_n 0, 1) := by decide +kernel
theorem dX6_seen_97 : decode cX6_seen 97 = .ok (.getfield 157, 3) := by decide +kernel
theorem dX6_seen_100 : decode cX6_seen 100 = .ok (.ireturn, 1) := by decide +kernel
theorem dX6_forget_0 : decode cX6_forget 0 = .ok (.aload_n 0, 1) := by decide +kernel
theorem dX6_forget_1 : decode cX6_forget 1 = .ok (.getfield 157, 3) := by decide +kernel
theorem dX6_forget_4 : decode cX6_forget 4 = .ok (.istore_n 1, 1) := by decide +kernel
theorem dX6_forget_5 : decode cX6_forget 5 = .ok (.aload_n 0, 1) := by decide +kernel
theorem dX6_forget_6 : decode cX6_forget 6 = .ok (.iconst 0, 1) := by decide +kernel
theorem dX6_forget_7 : decode cX6_forget 7 = .ok (.putfield 157, 3) := by decide +kernel
theorem dX6_forget_10 : decode cX6_forget 10 = .ok (.iload_n 1, 1) := by decide +kernel
theorem dX6_forget_11 : decode cX6_forget 11 = .ok (.ireturn, 1) := by decide +kernel
set_option maxRecDepth 20000 in
theorem ggX6_bindNothing_X6_wayEnd : GoodIn wsX6_bindNothing wsX6_wayEnd := goodIn_r _ [7, 8, 37, 38, 39, 40, 41, 42, 43, 44, 45, 46, 47, 48, 49, 50, 51, 52, 53, 54, 55, 56, 57, 58, 59, 60, 61, 62] (by decide +kernel) (by decide +kernel)
set_option maxRecDepth 20000 in
theorem gX6_bindNothing_X6_wayEnd : GoodIn wsX6_bindNothing (wsV RX6 197 RX6 yX6_wayEnd wsX6_wayEnd) := goodIn_app (goodIn_of _ (by decide +kernel)) ggX6_bindNothing_X6_wayEnd
set_option maxRecDepth 20000 in
theorem ggX6_bindNothing_X6_canAll : GoodIn wsX6_bindNothing wsX6_canAll := goodIn_r _ [12, 8, 13, 14, 15, 6, 16, 17, 18, 19, 20, 21, 22, 23, 24, 25, 26, 27, 28, 29, 30, 31, 32, 33, 34, 35, 36, 37, 38, 39, 40, 41, 42, 43, 44, 45, 46, 47, 48, 49, 50, 51, 52, 53, 54, 55, 56, 57, 58, 59, 60, 61, 62] (by decide +kernel) (by decide +kernel)
set_option maxRecDepth 20000 in
theorem gX6_bindNothing_X6_canAll : GoodIn wsX6_bindNothing (wsV RX6 200 RX6 yX6_canAll wsX6_canAll) := goodIn_app (goodIn_of _ (by decide +kernel)) ggX6_bindNothing_X6_canAll
theorem dX6_bindNothing_0 : decode cX6_bindNothing 0 = .ok (.aload_n 0, 1) := by decide +kernel
theorem dX6_bindNothing_1 : decode cX6_bindNothing 1 = .ok (.iload_n 1, 1) := by decide +kernel
theorem dX6_bindNothing_2 : decode cX6_bindNothing 2 = .ok (.iload_n 2, 1) := by decide +kernel
theorem dX6_bindNothing_3 : decode cX6_bindNothing 3 = .ok (.invokevirtual 197, 3) := by decide +kernel
theorem dX6_bindNothing_6 : decode cX6_bindNothing 6 = .ok (.istore_n 3, 1) := by decide +kernel
theorem dX6_bindNothing_7 : decode cX6_bindNothing 7 = .ok (.iconst 0, 1) := by decide +kernel
theorem dX6_bindNothing_8 : decode cX6_bindNothing 8 = .ok (.istore 4, 2) := by decide +kernel
theorem dX6_bindNothing_10 : decode cX6_bindNothing 10 = .ok (.iload 4, 2) := by decide +kernel
theorem dX6_bindNothing_12 : decode cX6_bindNothing 12 = .ok (.aload_n 0, 1) := by decide +kernel
theorem dX6_bindNothing_13 : decode cX6_bindNothing 13 = .ok (.getfield 131, 3) := by decide +kernel
theorem dX6_bindNothing_16 : decode cX6_bindNothing 16 = .ok (.if_icmp .ge 44, 3) := by decide +kernel
theorem dX6_bindNothing_19 : decode cX6_bindNothing 19 = .ok (.iload_n 3, 1) := by decide +kernel
theorem dX6_bindNothing_20 : decode cX6_bindNothing 20 = .ok (.iconst (-1), 1) := by decide +kernel
theorem dX6_bindNothing_21 : decode cX6_bindNothing 21 = .ok (.if_icmp .eq 39, 3) := by decide +kernel
theorem dX6_bindNothing_24 : decode cX6_bindNothing 24 = .ok (.aload_n 0, 1) := by decide +kernel
theorem dX6_bindNothing_25 : decode cX6_bindNothing 25 = .ok (.getfield 45, 3) := by decide +kernel
theorem dX6_bindNothing_28 : decode cX6_bindNothing 28 = .ok (.iload_n 3, 1) := by decide +kernel
theorem dX6_bindNothing_29 : decode cX6_bindNothing 29 = .ok (.dup2, 1) := by decide +kernel
theorem dX6_bindNothing_30 : decode cX6_bindNothing 30 = .ok (.iaload, 1) := by decide +kernel
theorem dX6_bindNothing_31 : decode cX6_bindNothing 31 = .ok (.aload_n 0, 1) := by decide +kernel
theorem dX6_bindNothing_32 : decode cX6_bindNothing 32 = .ok (.iload_n 1, 1) := by decide +kernel
theorem dX6_bindNothing_33 : decode cX6_bindNothing 33 = .ok (.iload_n 2, 1) := by decide +kernel
theorem dX6_bindNothing_34 : decode cX6_bindNothing 34 = .ok (.iload 4, 2) := by decide +kernel
theorem dX6_bindNothing_36 : decode cX6_bindNothing 36 = .ok (.invokevirtual 200, 3) := by decide +kernel
theorem dX6_bindNothing_39 : decode cX6_bindNothing 39 = .ok (.ifCond .eq 12, 3) := by decide +kernel
theorem dX6_bindNothing_42 : decode cX6_bindNothing 42 = .ok (.iconst 1, 1) := by decide +kernel
theorem dX6_bindNothing_43 : decode cX6_bindNothing 43 = .ok (.iload 4, 2) := by decide +kernel
theorem dX6_bindNothing_45 : decode cX6_bindNothing 45 = .ok (.ishl, 1) := by decide +kernel
theorem dX6_bindNothing_46 : decode cX6_bindNothing 46 = .ok (.iconst (-1), 1) := by decide +kernel
theorem dX6_bindNothing_47 : decode cX6_bindNothing 47 = .ok (.ixor, 1) := by decide +kernel
theorem dX6_bindNothing_48 : decode cX6_bindNothing 48 = .ok (.goto 4, 3) := by decide +kernel
theorem dX6_bindNothing_51 : decode cX6_bindNothing 51 = .ok (.iconst (-1), 1) := by decide +kernel
theorem dX6_bindNothing_52 : decode cX6_bindNothing 52 = .ok (.iand, 1) := by decide +kernel
theorem dX6_bindNothing_53 : decode cX6_bindNothing 53 = .ok (.iastore, 1) := by decide +kernel
theorem dX6_bindNothing_54 : decode cX6_bindNothing 54 = .ok (.iinc 4 1, 3) := by decide +kernel
theorem dX6_bindNothing_57 : decode cX6_bindNothing 57 = .ok (.goto (-47), 3) := by decide +kernel
theorem dX6_bindNothing_60 : decode cX6_bindNothing 60 = .ok (.return_, 1) := by decide +kernel
set_option maxRecDepth 20000 in
theorem ggX6_fits_X6_isHouse : GoodIn wsX6_fits wsX6_isHouse := goodIn_r _ [8, 9, 10, 11, 7, 12, 71, 72, 73, 74, 75, 76, 77, 78, 79, 80, 81, 82, 83, 84, 85, 86, 87, 88, 89, 90, 91, 92, 93, 94, 95, 96] (by decide +kernel) (by decide +kernel)
set_option maxRecDepth 20000 in
theorem gX6_fits_X6_isHouse : GoodIn wsX6_fits (wsV RX6 160 RX6 yX6_isHouse wsX6_isHouse) := goodIn_app (goodIn_of _ (by decide +kernel)) ggX6_fits_X6_isHouse
set_option maxRecDepth 20000 in
theorem ggX6_fits_X6_layMays : GoodIn wsX6_fits wsX6_layMays := goodIn_r _ [16, 9, 3, 17, 18, 19, 20, 7, 21, 22, 23, 24, 25, 26, 27, 28, 29, 30, 31, 32, 33, 34, 35, 36, 37, 38, 39, 40, 41, 71, 72, 73, 74, 75, 76, 77, 78, 79, 80, 81, 82, 83, 84, 85, 86, 87, 88, 89, 90, 91, 92, 93, 94, 95, 96] (by decide +kernel) (by decide +kernel)
set_option maxRecDepth 20000 in
theorem gX6_fits_X6_layMays : GoodIn wsX6_fits (wsV RX6 216 RX6 yX6_layMays wsX6_layMays) := goodIn_app (goodIn_of _ (by decide +kernel)) ggX6_fits_X6_layMays
set_option maxRecDepth 20000 in
theorem ggX6_fits_X6_bindNothing : GoodIn wsX6_fits wsX6_bindNothing := goodIn_r _ [45, 17, 3, 46, 47, 48, 7, 49, 50, 51, 52, 53, 54, 18, 19, 20, 21, 22, 23, 24, 25, 26, 27, 28, 29, 30, 31, 32, 33, 34, 35, 36, 37, 38, 39, 40, 41, 71, 72, 73, 74, 75, 76, 77, 78, 79, 80, 81, 82, 83, 84, 85, 86, 87, 88, 89, 90, 91, 92, 93, 94, 95, 96] (by decide +kernel) (by decide +kernel)
set_option maxRecDepth 20000 in
theorem gX6_fits_X6_bindNothing : GoodIn wsX6_fits (wsV RX6 266 RX6 yX6_bindNothing wsX6_bindNothing) := goodIn_app (goodIn_of _ (by decide +kernel)) ggX6_fits_X6_bindNothing
set_option maxRecDepth 20000 in
theorem ggX6_fits_X6_bind : GoodIn wsX6_fits wsX6_bind := goodIn_r _ [58, 3, 59, 60, 61, 7, 62, 46, 47, 48, 49, 50, 51, 52, 53, 54, 18, 19, 20, 21, 22, 23, 24, 25, 26, 27, 28, 29, 30, 31, 32, 33, 34, 35, 36, 37, 38, 39, 40, 41, 63, 64, 65, 66, 9, 71, 72, 73, 74, 75, 76, 77, 78, 79, 80, 81, 82, 83, 84, 85, 86, 87, 88, 89, 90, 91, 92, 93, 94, 95, 96] (by decide +kernel) (by decide +kernel)
set_option maxRecDepth 20000 in
theorem gX6_fits_X6_bind : GoodIn wsX6_fits (wsV RX6 219 RX6 yX6_bind wsX6_bind) := goodIn_app (goodIn_of _ (by decide +kernel)) ggX6_fits_X6_bind
set_option maxRecDepth 20000 in
theorem ggX6_fits_X6_rows : GoodIn wsX6_fits wsX6_rows := goodIn_r _ [70, 9, 3, 36, 37, 7, 38, 71, 72, 73, 74, 75, 76, 77, 78, 79, 80, 81, 82, 83, 84, 85, 86, 87, 88, 89, 90, 91, 92, 93, 94, 95, 96] (by decide +kernel) (by decide +kernel)
set_option maxRecDepth 20000 in
theorem gX6_fits_X6_rows : GoodIn wsX6_fits (wsV RX6 223 RX6 yX6_rows wsX6_rows) := goodIn_app (goodIn_of _ (by decide +kernel)) ggX6_fits_X6_rows
theorem dX6_fits_0 : decode cX6_fits 0 = .ok (.iload_n 1, 1) := by decide +kernel
theorem dX6_fits_1 : decode cX6_fits 1 = .ok (.iconst (-1), 1) := by decide +kernel
theorem dX6_fits_2 : decode cX6_fits 2 = .ok (.if_icmp .eq 14, 3) := by decide +kernel
theorem dX6_fits_5 : decode cX6_fits 5 = .ok (.aload_n 0, 1) := by decide +kernel
theorem dX6_fits_6 : decode cX6_fits 6 = .ok (.iload_n 1, 1) := by decide +kernel
theorem dX6_fits_7 : decode cX6_fits 7 = .ok (.invokevirtual 160, 3) := by decide +kernel
theorem dX6_fits_10 : decode cX6_fits 10 = .ok (.ifCond .ne 6, 3) := by decide +kernel
theorem dX6_fits_13 : decode cX6_fits 13 = .ok (.bipush (-2), 2) := by decide +kernel
theorem dX6_fits_15 : decode cX6_fits 15 = .ok (.ireturn, 1) := by decide +kernel
theorem dX6_fits_16 : decode cX6_fits 16 = .ok (.aload_n 0, 1) := by decide +kernel
theorem dX6_fits_17 : decode cX6_fits 17 = .ok (.invokevirtual 216, 3) := by decide +kernel
theorem dX6_fits_20 : decode cX6_fits 20 = .ok (.iconst 0, 1) := by decide +kernel
theorem dX6_fits_21 : decode cX6_fits 21 = .ok (.istore_n 2, 1) := by decide +kernel
theorem dX6_fits_22 : decode cX6_fits 22 = .ok (.iload_n 2, 1) := by decide +kernel
theorem dX6_fits_23 : decode cX6_fits 23 = .ok (.aload_n 0, 1) := by decide +kernel
theorem dX6_fits_24 : decode cX6_fits 24 = .ok (.getfield 157, 3) := by decide +kernel
theorem dX6_fits_27 : decode cX6_fits 27 = .ok (.if_icmp .ge 73, 3) := by decide +kernel
theorem dX6_fits_30 : decode cX6_fits 30 = .ok (.aload_n 0, 1) := by decide +kernel
theorem dX6_fits_31 : decode cX6_fits 31 = .ok (.getfield 51, 3) := by decide +kernel
theorem dX6_fits_34 : decode cX6_fits 34 = .ok (.iconst 3, 1) := by decide +kernel
theorem dX6_fits_35 : decode cX6_fits 35 = .ok (.iload_n 2, 1) := by decide +kernel
theorem dX6_fits_36 : decode cX6_fits 36 = .ok (.imul, 1) := by decide +kernel
theorem dX6_fits_37 : decode cX6_fits 37 = .ok (.iconst 1, 1) := by decide +kernel
theorem dX6_fits_38 : decode cX6_fits 38 = .ok (.iadd, 1) := by decide +kernel
theorem dX6_fits_39 : decode cX6_fits 39 = .ok (.iaload, 1) := by decide +kernel
theorem dX6_fits_40 : decode cX6_fits 40 = .ok (.istore_n 3, 1) := by decide +kernel
theorem dX6_fits_41 : decode cX6_fits 41 = .ok (.iload_n 3, 1) := by decide +kernel
theorem dX6_fits_42 : decode cX6_fits 42 = .ok (.iconst (-1), 1) := by decide +kernel
theorem dX6_fits_43 : decode cX6_fits 43 = .ok (.if_icmp .ne 28, 3) := by decide +kernel
theorem dX6_fits_46 : decode cX6_fits 46 = .ok (.aload_n 0, 1) := by decide +kernel
theorem dX6_fits_47 : decode cX6_fits 47 = .ok (.aload_n 0, 1) := by decide +kernel
theorem dX6_fits_48 : decode cX6_fits 48 = .ok (.getfield 51, 3) := by decide +kernel
theorem dX6_fits_51 : decode cX6_fits 51 = .ok (.iconst 3, 1) := by decide +kernel
theorem dX6_fits_52 : decode cX6_fits 52 = .ok (.iload_n 2, 1) := by decide +kernel
theorem dX6_fits_53 : decode cX6_fits 53 = .ok (.imul, 1) := by decide +kernel
theorem dX6_fits_54 : decode cX6_fits 54 = .ok (.iaload, 1) := by decide +kernel
theorem dX6_fits_55 : decode cX6_fits 55 = .ok (.aload_n 0, 1) := by decide +kernel
theorem dX6_fits_56 : decode cX6_fits 56 = .ok (.getfield 51, 3) := by decide +kernel
theorem dX6_fits_59 : decode cX6_fits 59 = .ok (.iconst 3, 1) := by decide +kernel
theorem dX6_fits_60 : decode cX6_fits 60 = .ok (.iload_n 2, 1) := by decide +kernel
theorem dX6_fits_61 : decode cX6_fits 61 = .ok (.imul, 1) := by decide +kernel
theorem dX6_fits_62 : decode cX6_fits 62 = .ok (.iconst 2, 1) := by decide +kernel
theorem dX6_fits_63 : decode cX6_fits 63 = .ok (.iadd, 1) := by decide +kernel
theorem dX6_fits_64 : decode cX6_fits 64 = .ok (.iaload, 1) := by decide +kernel
theorem dX6_fits_65 : decode cX6_fits 65 = .ok (.invokevirtual 266, 3) := by decide +kernel
theorem dX6_fits_68 : decode cX6_fits 68 = .ok (.goto 26, 3) := by decide +kernel
theorem dX6_fits_71 : decode cX6_fits 71 = .ok (.aload_n 0, 1) := by decide +kernel
theorem dX6_fits_72 : decode cX6_fits 72 = .ok (.aload_n 0, 1) := by decide +kernel
theorem dX6_fits_73 : decode cX6_fits 73 = .ok (.getfield 51, 3) := by decide +kernel
theorem dX6_fits_76 : decode cX6_fits 76 = .ok (.iconst 3, 1) := by decide +kernel
theorem dX6_fits_77 : decode cX6_fits 77 = .ok (.iload_n 2, 1) := by decide +kernel
theorem dX6_fits_78 : decode cX6_fits 78 = .ok (.imul, 1) := by decide +kernel
theorem dX6_fits_79 : decode cX6_fits 79 = .ok (.iaload, 1) := by decide +kernel
theorem dX6_fits_80 : decode cX6_fits 80 = .ok (.iload_n 3, 1) := by decide +kernel
theorem dX6_fits_81 : decode cX6_fits 81 = .ok (.aload_n 0, 1) := by decide +kernel
theorem dX6_fits_82 : decode cX6_fits 82 = .ok (.getfield 51, 3) := by decide +kernel
theorem dX6_fits_85 : decode cX6_fits 85 = .ok (.iconst 3, 1) := by decide +kernel
theorem dX6_fits_86 : decode cX6_fits 86 = .ok (.iload_n 2, 1) := by decide +kernel
theorem dX6_fits_87 : decode cX6_fits 87 = .ok (.imul, 1) := by decide +kernel
theorem dX6_fits_88 : decode cX6_fits 88 = .ok (.iconst 2, 1) := by decide +kernel
theorem dX6_fits_89 : decode cX6_fits 89 = .ok (.iadd, 1) := by decide +kernel
theorem dX6_fits_90 : decode cX6_fits 90 = .ok (.iaload, 1) := by decide +kernel
theorem dX6_fits_91 : decode cX6_fits 91 = .ok (.invokevirtual 219, 3) := by decide +kernel
theorem dX6_fits_94 : decode cX6_fits 94 = .ok (.iinc 2 1, 3) := by decide +kernel
theorem dX6_fits_97 : decode cX6_fits 97 = .ok (.goto (-75), 3) := by decide +kernel
theorem dX6_fits_100 : decode cX6_fits 100 = .ok (.iload_n 1, 1) := by decide +kernel
theorem dX6_fits_101 : decode cX6_fits 101 = .ok (.iconst (-1), 1) := by decide +kernel
theorem dX6_fits_102 : decode cX6_fits 102 = .ok (.if_icmp .ne 10, 3) := by decide +kernel
theorem dX6_fits_105 : decode cX6_fits 105 = .ok (.aload_n 0, 1) := by decide +kernel
theorem dX6_fits_106 : decode cX6_fits 106 = .ok (.invokevirtual 223, 3) := by decide +kernel
theorem dX6_fits_109 : decode cX6_fits 109 = .ok (.goto 20, 3) := by decide +kernel
theorem dX6_fits_112 : decode cX6_fits 112 = .ok (.aload_n 0, 1) := by decide +kernel
theorem dX6_fits_113 : decode cX6_fits 113 = .ok (.invokevirtual 223, 3) := by decide +kernel
theorem dX6_fits_116 : decode cX6_fits 116 = .ok (.ifCond .ne 7, 3) := by decide +kernel
theorem dX6_fits_119 : decode cX6_fits 119 = .ok (.iconst 0, 1) := by decide +kernel
theorem dX6_fits_120 : decode cX6_fits 120 = .ok (.goto 9, 3) := by decide +kernel
theorem dX6_fits_123 : decode cX6_fits 123 = .ok (.aload_n 0, 1) := by decide +kernel
theorem dX6_fits_124 : decode cX6_fits 124 = .ok (.getfield 45, 3) := by decide +kernel
theorem dX6_fits_127 : decode cX6_fits 127 = .ok (.iload_n 1, 1) := by decide +kernel
theorem dX6_fits_128 : decode cX6_fits 128 = .ok (.iaload, 1) := by decide +kernel
theorem dX6_fits_129 : decode cX6_fits 129 = .ok (.ireturn, 1) := by decide +kernel
theorem dX6_copy_0 : decode cX6_copy 0 = .ok (.iconst 0, 1) := by decide +kernel
theorem dX6_copy_1 : decode cX6_copy 1 = .ok (.istore_n 3, 1) := by decide +kernel
theorem dX6_copy_2 : decode cX6_copy 2 = .ok (.iload_n 3, 1) := by decide +kernel
theorem dX6_copy_3 : decode cX6_copy 3 = .ok (.bipush 17, 2) := by decide +kernel
theorem dX6_copy_5 : decode cX6_copy 5 = .ok (.if_icmp .ge 31, 3) := by decide +kernel
theorem dX6_copy_8 : decode cX6_copy 8 = .ok (.aload_n 0, 1) := by decide +kernel
theorem dX6_copy_9 : decode cX6_copy 9 = .ok (.getfield 7, 3) := by decide +kernel
theorem dX6_copy_12 : decode cX6_copy 12 = .ok (.bipush 17, 2) := by decide +kernel
theorem dX6_copy_14 : decode cX6_copy 14 = .ok (.iload_n 2, 1) := by decide +kernel
theorem dX6_copy_15 : decode cX6_copy 15 = .ok (.imul, 1) := by decide +kernel
theorem dX6_copy_16 : decode cX6_copy 16 = .ok (.iload_n 3, 1) := by decide +kernel
theorem dX6_copy_17 : decode cX6_copy 17 = .ok (.iadd, 1) := by decide +kernel
theorem dX6_copy_18 : decode cX6_copy 18 = .ok (.aload_n 0, 1) := by decide +kernel
theorem dX6_copy_19 : decode cX6_copy 19 = .ok (.getfield 7, 3) := by decide +kernel
theorem dX6_copy_22 : decode cX6_copy 22 = .ok (.bipush 17, 2) := by decide +kernel
theorem dX6_copy_24 : decode cX6_copy 24 = .ok (.iload_n 1, 1) := by decide +kernel
theorem dX6_copy_25 : decode cX6_copy 25 = .ok (.imul, 1) := by decide +kernel
theorem dX6_copy_26 : decode cX6_copy 26 = .ok (.iload_n 3, 1) := by decide +kernel
theorem dX6_copy_27 : decode cX6_copy 27 = .ok (.iadd, 1) := by decide +kernel
theorem dX6_copy_28 : decode cX6_copy 28 = .ok (.iaload, 1) := by decide +kernel
theorem dX6_copy_29 : decode cX6_copy 29 = .ok (.iastore, 1) := by decide +kernel
theorem dX6_copy_30 : decode cX6_copy 30 = .ok (.iinc 3 1, 3) := by decide +kernel
theorem dX6_copy_33 : decode cX6_copy 33 = .ok (.goto (-31), 3) := by decide +kernel
theorem dX6_copy_36 : decode cX6_copy 36 = .ok (.return_, 1) := by decide +kernel
set_option maxRecDepth 20000 in
theorem ggX6_keep_X6_in : GoodIn wsX6_keep wsX6_in := goodIn_r _ [6] (by decide +kernel) (by decide +kernel)
set_option maxRecDepth 20000 in
theorem gX6_keep_X6_in : GoodIn wsX6_keep (va_wsS RX6 56 yX6_in wsX6_in) := goodIn_app (goodIn_of _ (by decide +kernel)) ggX6_keep_X6_in
set_option maxRecDepth 20000 in
theorem ggX6_keep_X6_copy : GoodIn wsX6_keep wsX6_copy := goodIn_r _ [10, 2, 11, 12, 13, 14, 15, 16, 17, 18, 19, 20, 21, 22, 23, 24, 25, 26, 27, 28, 29, 30, 31, 32, 33, 34, 35, 36] (by decide +kernel) (by decide +kernel)
set_option maxRecDepth 20000 in
theorem gX6_keep_X6_copy : GoodIn wsX6_keep (wsV RX6 269 RX6 yX6_copy wsX6_copy) := goodIn_app (goodIn_of _ (by decide +kernel)) ggX6_keep_X6_copy
theorem dX6_keep_0 : decode cX6_keep 0 = .ok (.iload_n 1, 1) := by decide +kernel
theorem dX6_keep_1 : decode cX6_keep 1 = .ok (.i2l, 1) := by decide +kernel
theorem dX6_keep_2 : decode cX6_keep 2 = .ok (.lconst 0, 1) := by decide +kernel
theorem dX6_keep_3 : decode cX6_keep 3 = .ok (.lconst 1, 1) := by decide +kernel
theorem dX6_keep_4 : decode cX6_keep 4 = .ok (.invokestatic 56, 3) := by decide +kernel
theorem dX6_keep_7 : decode cX6_keep 7 = .ok (.ifCond .ne 6, 3) := by decide +kernel
theorem dX6_keep_10 : decode cX6_keep 10 = .ok (.bipush (-2), 2) := by decide +kernel
theorem dX6_keep_12 : decode cX6_keep 12 = .ok (.ireturn, 1) := by decide +kernel
theorem dX6_keep_13 : decode cX6_keep 13 = .ok (.aload_n 0, 1) := by decide +kernel
theorem dX6_keep_14 : decode cX6_keep 14 = .ok (.iconst 0, 1) := by decide +kernel
theorem dX6_keep_15 : decode cX6_keep 15 = .ok (.iconst 1, 1) := by decide +kernel
theorem dX6_keep_16 : decode cX6_keep 16 = .ok (.iload_n 1, 1) := by decide +kernel
theorem dX6_keep_17 : decode cX6_keep 17 = .ok (.iadd, 1) := by decide +kernel
theorem dX6_keep_18 : decode cX6_keep 18 = .ok (.invokevirtual 269, 3) := by decide +kernel
theorem dX6_keep_21 : decode cX6_keep 21 = .ok (.aload_n 0, 1) := by decide +kernel
theorem dX6_keep_22 : decode cX6_keep 22 = .ok (.getfield 13, 3) := by decide +kernel
theorem dX6_keep_25 : decode cX6_keep 25 = .ok (.iload_n 1, 1) := by decide +kernel
theorem dX6_keep_26 : decode cX6_keep 26 = .ok (.iconst 1, 1) := by decide +kernel
theorem dX6_keep_27 : decode cX6_keep 27 = .ok (.bastore, 1) := by decide +kernel
theorem dX6_keep_28 : decode cX6_keep 28 = .ok (.aload_n 0, 1) := by decide +kernel
theorem dX6_keep_29 : decode cX6_keep 29 = .ok (.getfield 7, 3) := by decide +kernel
theorem dX6_keep_32 : decode cX6_keep 32 = .ok (.bipush 8, 2) := by decide +kernel
theorem dX6_keep_34 : decode cX6_keep 34 = .ok (.iaload, 1) := by decide +kernel
theorem dX6_keep_35 : decode cX6_keep 35 = .ok (.ireturn, 1) := by decide +kernel
set_option maxRecDepth 20000 in
theorem ggX6_back_X6_in : GoodIn wsX6_back wsX6_in := goodIn_r _ [6] (by decide +kernel) (by decide +kernel)
set_option maxRecDepth 20000 in
theorem gX6_back_X6_in : GoodIn wsX6_back (va_wsS RX6 56 yX6_in wsX6_in) := goodIn_app (goodIn_of _ (by decide +kernel)) ggX6_back_X6_in
set_option maxRecDepth 20000 in
theorem ggX6_back_X6_copy : GoodIn wsX6_back wsX6_copy := goodIn_r _ [10, 2, 11, 12, 13, 14, 15, 16, 17, 18, 19, 20, 21, 22, 23, 24, 25, 26, 27, 28, 29, 30, 31, 32, 33, 34, 35, 36] (by decide +kernel) (by decide +kernel)
set_option maxRecDepth 20000 in
theorem gX6_back_X6_copy : GoodIn wsX6_back (wsV RX6 269 RX6 yX6_copy wsX6_copy) := goodIn_app (goodIn_of _ (by decide +kernel)) ggX6_back_X6_copy
theorem dX6_back_0 : decode cX6_back 0 = .ok (.iload_n 1, 1) := by decide +kernel
theorem dX6_back_1 : decode cX6_back 1 = .ok (.i2l, 1) := by decide +kernel
theorem dX6_back_2 : decode cX6_back 2 = .ok (.lconst 0, 1) := by decide +kernel
theorem dX6_back_3 : decode cX6_back 3 = .ok (.lconst 1, 1) := by decide +kernel
theorem dX6_back_4 : decode cX6_back 4 = .ok (.invokestatic 56, 3) := by decide +kernel
theorem dX6_back_7 : decode cX6_back 7 = .ok (.ifCond .ne 6, 3) := by decide +kernel
theorem dX6_back_10 : decode cX6_back 10 = .ok (.bipush (-2), 2) := by decide +kernel
theorem dX6_back_12 : decode cX6_back 12 = .ok (.ireturn, 1) := by decide +kernel
theorem dX6_back_13 : decode cX6_back 13 = .ok (.aload_n 0, 1) := by decide +kernel
theorem dX6_back_14 : decode cX6_back 14 = .ok (.getfield 13, 3) := by decide +kernel
theorem dX6_back_17 : decode cX6_back 17 = .ok (.iload_n 1, 1) := by decide +kernel
theorem dX6_back_18 : decode cX6_back 18 = .ok (.baload, 1) := by decide +kernel
theorem dX6_back_19 : decode cX6_back 19 = .ok (.ifCond .ne 6, 3) := by decide +kernel
theorem dX6_back_22 : decode cX6_back 22 = .ok (.bipush (-4), 2) := by decide +kernel
theorem dX6_back_24 : decode cX6_back 24 = .ok (.ireturn, 1) := by decide +kernel
theorem dX6_back_25 : decode cX6_back 25 = .ok (.aload_n 0, 1) := by decide +kernel
theorem dX6_back_26 : decode cX6_back 26 = .ok (.iconst 1, 1) := by decide +kernel
theorem dX6_back_27 : decode cX6_back 27 = .ok (.iload_n 1, 1) := by decide +kernel
theorem dX6_back_28 : decode cX6_back 28 = .ok (.iadd, 1) := by decide +kernel
theorem dX6_back_29 : decode cX6_back 29 = .ok (.iconst 0, 1) := by decide +kernel
theorem dX6_back_30 : decode cX6_back 30 = .ok (.invokevirtual 269, 3) := by decide +kernel
theorem dX6_back_33 : decode cX6_back 33 = .ok (.aload_n 0, 1) := by decide +kernel
theorem dX6_back_34 : decode cX6_back 34 = .ok (.getfield 7, 3) := by decide +kernel
theorem dX6_back_37 : decode cX6_back 37 = .ok (.bipush 8, 2) := by decide +kernel
theorem dX6_back_39 : decode cX6_back 39 = .ok (.iaload, 1) := by decide +kernel
theorem dX6_back_40 : decode cX6_back 40 = .ok (.ireturn, 1) := by decide +kernel
theorem dX6_count_0 : decode cX6_count 0 = .ok (.iload_n 1, 1) := by decide +kernel
theorem dX6_count_1 : decode cX6_count 1 = .ok (.ifCond .ne 10, 3) := by decide +kernel
theorem dX6_count_4 : decode cX6_count 4 = .ok (.aload_n 0, 1) := by decide +kernel
theorem dX6_count_5 : decode cX6_count 5 = .ok (.getfield 23, 3) := by decide +kernel
theorem dX6_count_8 : decode cX6_count 8 = .ok (.goto 68, 3) := by decide +kernel
theorem dX6_count_11 : decode cX6_count 11 = .ok (.iload_n 1, 1) := by decide +kernel
theorem dX6_count_12 : decode cX6_count 12 = .ok (.iconst 1, 1) := by decide +kernel
theorem dX6_count_13 : decode cX6_count 13 = .ok (.if_icmp .ne 10, 3) := by decide +kernel
theorem dX6_count_16 : decode cX6_count 16 = .ok (.aload_n 0, 1) := by decide +kernel
theorem dX6_count_17 : decode cX6_count 17 = .ok (.getfield 131, 3) := by decide +kernel
theorem dX6_count_20 : decode cX6_count 20 = .ok (.goto 56, 3) := by decide +kernel
theorem dX6_count_23 : decode cX6_count 23 = .ok (.iload_n 1, 1) := by decide +kernel
theorem dX6_count_24 : decode cX6_count 24 = .ok (.iconst 2, 1) := by decide +kernel
theorem dX6_count_25 : decode cX6_count 25 = .ok (.if_icmp .ne 13, 3) := by decide +kernel
theorem dX6_count_28 : decode cX6_count 28 = .ok (.aload_n 0, 1) := by decide +kernel
theorem dX6_count_29 : decode cX6_count 29 = .ok (.getfield 7, 3) := by decide +kernel
theorem dX6_count_32 : decode cX6_count 32 = .ok (.bipush 8, 2) := by decide +kernel
theorem dX6_count_34 : decode cX6_count 34 = .ok (.iaload, 1) := by decide +kernel
theorem dX6_count_35 : decode cX6_count 35 = .ok (.goto 41, 3) := by decide +kernel
theorem dX6_count_38 : decode cX6_count 38 = .ok (.iload_n 1, 1) := by decide +kernel
theorem dX6_count_39 : decode cX6_count 39 = .ok (.iconst 3, 1) := by decide +kernel
theorem dX6_count_40 : decode cX6_count 40 = .ok (.if_icmp .ne 10, 3) := by decide +kernel
theorem dX6_count_43 : decode cX6_count 43 = .ok (.aload_n 0, 1) := by decide +kernel
theorem dX6_count_44 : decode cX6_count 44 = .ok (.getfield 154, 3) := by decide +kernel
theorem dX6_count_47 : decode cX6_count 47 = .ok (.goto 29, 3) := by decide +kernel
theorem dX6_count_50 : decode cX6_count 50 = .ok (.iload_n 1, 1) := by decide +kernel
theorem dX6_count_51 : decode cX6_count 51 = .ok (.iconst 4, 1) := by decide +kernel
theorem dX6_count_52 : decode cX6_count 52 = .ok (.if_icmp .ne 10, 3) := by decide +kernel
theorem dX6_count_55 : decode cX6_count 55 = .ok (.aload_n 0, 1) := by decide +kernel
theorem dX6_count_56 : decode cX6_count 56 = .ok (.getfield 157, 3) := by decide +kernel
theorem dX6_count_59 : decode cX6_count 59 = .ok (.goto 17, 3) := by decide +kernel
theorem dX6_count_62 : decode cX6_count 62 = .ok (.iload_n 1, 1) := by decide +kernel
theorem dX6_count_63 : decode cX6_count 63 = .ok (.iconst 5, 1) := by decide +kernel
theorem dX6_count_64 : decode cX6_count 64 = .ok (.if_icmp .ne 10, 3) := by decide +kernel
theorem dX6_count_67 : decode cX6_count 67 = .ok (.aload_n 0, 1) := by decide +kernel
theorem dX6_count_68 : decode cX6_count 68 = .ok (.getfield 60, 3) := by decide +kernel
theorem dX6_count_71 : decode cX6_count 71 = .ok (.goto 5, 3) := by decide +kernel
theorem dX6_count_74 : decode cX6_count 74 = .ok (.bipush (-3), 2) := by decide +kernel
theorem dX6_count_76 : decode cX6_count 76 = .ok (.ireturn, 1) := by decide +kernel
theorem dJ6_numberOfTrailingZeros_0f7a4_0 : decode cJ6_numberOfTrailingZeros_0f7a4 0 = .ok (.iload_n 0, 1) := by decide +kernel
theorem dJ6_numberOfTrailingZeros_0f7a4_1 : decode cJ6_numberOfTrailingZeros_0f7a4 1 = .ok (.iconst (-1), 1) := by decide +kernel
theorem dJ6_numberOfTrailingZeros_0f7a4_2 : decode cJ6_numberOfTrailingZeros_0f7a4 2 = .ok (.ixor, 1) := by decide +kernel
theorem dJ6_numberOfTrailingZeros_0f7a4_3 : decode cJ6_numberOfTrailingZeros_0f7a4 3 = .ok (.iload_n 0, 1) := by decide +kernel
theorem dJ6_numberOfTrailingZeros_0f7a4_4 : decode cJ6_numberOfTrailingZeros_0f7a4 4 = .ok (.iconst 1, 1) := by decide +kernel
theorem dJ6_numberOfTrailingZeros_0f7a4_5 : decode cJ6_numberOfTrailingZeros_0f7a4 5 = .ok (.isub, 1) := by decide +kernel
theorem dJ6_numberOfTrailingZeros_0f7a4_6 : decode cJ6_numberOfTrailingZeros_0f7a4 6 = .ok (.iand, 1) := by decide +kernel
theorem dJ6_numberOfTrailingZeros_0f7a4_7 : decode cJ6_numberOfTrailingZeros_0f7a4 7 = .ok (.istore_n 0, 1) := by decide +kernel
theorem dJ6_numberOfTrailingZeros_0f7a4_8 : decode cJ6_numberOfTrailingZeros_0f7a4 8 = .ok (.iload_n 0, 1) := by decide +kernel
theorem dJ6_numberOfTrailingZeros_0f7a4_9 : decode cJ6_numberOfTrailingZeros_0f7a4 9 = .ok (.ifCond .gt 8, 3) := by decide +kernel
theorem dJ6_numberOfTrailingZeros_0f7a4_12 : decode cJ6_numberOfTrailingZeros_0f7a4 12 = .ok (.iload_n 0, 1) := by decide +kernel
theorem dJ6_numberOfTrailingZeros_0f7a4_13 : decode cJ6_numberOfTrailingZeros_0f7a4 13 = .ok (.bipush 32, 2) := by decide +kernel
theorem dJ6_numberOfTrailingZeros_0f7a4_15 : decode cJ6_numberOfTrailingZeros_0f7a4 15 = .ok (.iand, 1) := by decide +kernel
theorem dJ6_numberOfTrailingZeros_0f7a4_16 : decode cJ6_numberOfTrailingZeros_0f7a4 16 = .ok (.ireturn, 1) := by decide +kernel
theorem dJ6_numberOfTrailingZeros_0f7a4_17 : decode cJ6_numberOfTrailingZeros_0f7a4 17 = .ok (.iconst 1, 1) := by decide +kernel
theorem dJ6_numberOfTrailingZeros_0f7a4_18 : decode cJ6_numberOfTrailingZeros_0f7a4 18 = .ok (.istore_n 1, 1) := by decide +kernel
theorem dJ6_numberOfTrailingZeros_0f7a4_19 : decode cJ6_numberOfTrailingZeros_0f7a4 19 = .ok (.iload_n 0, 1) := by decide +kernel
theorem dJ6_numberOfTrailingZeros_0f7a4_20 : decode cJ6_numberOfTrailingZeros_0f7a4 20 = .ok (.ldc_w 264, 3) := by decide +kernel
theorem dJ6_numberOfTrailingZeros_0f7a4_23 : decode cJ6_numberOfTrailingZeros_0f7a4 23 = .ok (.if_icmp .le 11, 3) := by decide +kernel
theorem dJ6_numberOfTrailingZeros_0f7a4_26 : decode cJ6_numberOfTrailingZeros_0f7a4 26 = .ok (.iinc 1 16, 3) := by decide +kernel
theorem dJ6_numberOfTrailingZeros_0f7a4_29 : decode cJ6_numberOfTrailingZeros_0f7a4 29 = .ok (.iload_n 0, 1) := by decide +kernel
theorem dJ6_numberOfTrailingZeros_0f7a4_30 : decode cJ6_numberOfTrailingZeros_0f7a4 30 = .ok (.bipush 16, 2) := by decide +kernel
theorem dJ6_numberOfTrailingZeros_0f7a4_32 : decode cJ6_numberOfTrailingZeros_0f7a4 32 = .ok (.iushr, 1) := by decide +kernel
theorem dJ6_numberOfTrailingZeros_0f7a4_33 : decode cJ6_numberOfTrailingZeros_0f7a4 33 = .ok (.istore_n 0, 1) := by decide +kernel
theorem dJ6_numberOfTrailingZeros_0f7a4_34 : decode cJ6_numberOfTrailingZeros_0f7a4 34 = .ok (.iload_n 0, 1) := by decide +kernel
theorem dJ6_numberOfTrailingZeros_0f7a4_35 : decode cJ6_numberOfTrailingZeros_0f7a4 35 = .ok (.sipush 256, 3) := by decide +kernel
theorem dJ6_numberOfTrailingZeros_0f7a4_38 : decode cJ6_numberOfTrailingZeros_0f7a4 38 = .ok (.if_icmp .le 11, 3) := by decide +kernel
theorem dJ6_numberOfTrailingZeros_0f7a4_41 : decode cJ6_numberOfTrailingZeros_0f7a4 41 = .ok (.iinc 1 8, 3) := by decide +kernel
theorem dJ6_numberOfTrailingZeros_0f7a4_44 : decode cJ6_numberOfTrailingZeros_0f7a4 44 = .ok (.iload_n 0, 1) := by decide +kernel
theorem dJ6_numberOfTrailingZeros_0f7a4_45 : decode cJ6_numberOfTrailingZeros_0f7a4 45 = .ok (.bipush 8, 2) := by decide +kernel
theorem dJ6_numberOfTrailingZeros_0f7a4_47 : decode cJ6_numberOfTrailingZeros_0f7a4 47 = .ok (.iushr, 1) := by decide +kernel
theorem dJ6_numberOfTrailingZeros_0f7a4_48 : decode cJ6_numberOfTrailingZeros_0f7a4 48 = .ok (.istore_n 0, 1) := by decide +kernel
theorem dJ6_numberOfTrailingZeros_0f7a4_49 : decode cJ6_numberOfTrailingZeros_0f7a4 49 = .ok (.iload_n 0, 1) := by decide +kernel
theorem dJ6_numberOfTrailingZeros_0f7a4_50 : decode cJ6_numberOfTrailingZeros_0f7a4 50 = .ok (.bipush 16, 2) := by decide +kernel
theorem dJ6_numberOfTrailingZeros_0f7a4_52 : decode cJ6_numberOfTrailingZeros_0f7a4 52 = .ok (.if_icmp .le 10, 3) := by decide +kernel
theorem dJ6_numberOfTrailingZeros_0f7a4_55 : decode cJ6_numberOfTrailingZeros_0f7a4 55 = .ok (.iinc 1 4, 3) := by decide +kernel
theorem dJ6_numberOfTrailingZeros_0f7a4_58 : decode cJ6_numberOfTrailingZeros_0f7a4 58 = .ok (.iload_n 0, 1) := by decide +kernel
theorem dJ6_numberOfTrailingZeros_0f7a4_59 : decode cJ6_numberOfTrailingZeros_0f7a4 59 = .ok (.iconst 4, 1) := by decide +kernel
theorem dJ6_numberOfTrailingZeros_0f7a4_60 : decode cJ6_numberOfTrailingZeros_0f7a4 60 = .ok (.iushr, 1) := by decide +kernel
theorem dJ6_numberOfTrailingZeros_0f7a4_61 : decode cJ6_numberOfTrailingZeros_0f7a4 61 = .ok (.istore_n 0, 1) := by decide +kernel
theorem dJ6_numberOfTrailingZeros_0f7a4_62 : decode cJ6_numberOfTrailingZeros_0f7a4 62 = .ok (.iload_n 0, 1) := by decide +kernel
theorem dJ6_numberOfTrailingZeros_0f7a4_63 : decode cJ6_numberOfTrailingZeros_0f7a4 63 = .ok (.iconst 4, 1) := by decide +kernel
theorem dJ6_numberOfTrailingZeros_0f7a4_64 : decode cJ6_numberOfTrailingZeros_0f7a4 64 = .ok (.if_icmp .le 10, 3) := by decide +kernel
theorem dJ6_numberOfTrailingZeros_0f7a4_67 : decode cJ6_numberOfTrailingZeros_0f7a4 67 = .ok (.iinc 1 2, 3) := by decide +kernel
theorem dJ6_numberOfTrailingZeros_0f7a4_70 : decode cJ6_numberOfTrailingZeros_0f7a4 70 = .ok (.iload_n 0, 1) := by decide +kernel
theorem dJ6_numberOfTrailingZeros_0f7a4_71 : decode cJ6_numberOfTrailingZeros_0f7a4 71 = .ok (.iconst 2, 1) := by decide +kernel
theorem dJ6_numberOfTrailingZeros_0f7a4_72 : decode cJ6_numberOfTrailingZeros_0f7a4 72 = .ok (.iushr, 1) := by decide +kernel
theorem dJ6_numberOfTrailingZeros_0f7a4_73 : decode cJ6_numberOfTrailingZeros_0f7a4 73 = .ok (.istore_n 0, 1) := by decide +kernel
theorem dJ6_numberOfTrailingZeros_0f7a4_74 : decode cJ6_numberOfTrailingZeros_0f7a4 74 = .ok (.iload_n 1, 1) := by decide +kernel
theorem dJ6_numberOfTrailingZeros_0f7a4_75 : decode cJ6_numberOfTrailingZeros_0f7a4 75 = .ok (.iload_n 0, 1) := by decide +kernel
theorem dJ6_numberOfTrailingZeros_0f7a4_76 : decode cJ6_numberOfTrailingZeros_0f7a4 76 = .ok (.iconst 1, 1) := by decide +kernel
theorem dJ6_numberOfTrailingZeros_0f7a4_77 : decode cJ6_numberOfTrailingZeros_0f7a4 77 = .ok (.iushr, 1) := by decide +kernel
theorem dJ6_numberOfTrailingZeros_0f7a4_78 : decode cJ6_numberOfTrailingZeros_0f7a4 78 = .ok (.iadd, 1) := by decide +kernel
theorem dJ6_numberOfTrailingZeros_0f7a4_79 : decode cJ6_numberOfTrailingZeros_0f7a4 79 = .ok (.ireturn, 1) := by decide +kernel
theorem dJ6_bitCount_0f7a4_0 : decode cJ6_bitCount_0f7a4 0 = .ok (.iload_n 0, 1) := by decide +kernel
theorem dJ6_bitCount_0f7a4_1 : decode cJ6_bitCount_0f7a4 1 = .ok (.iload_n 0, 1) := by decide +kernel
theorem dJ6_bitCount_0f7a4_2 : decode cJ6_bitCount_0f7a4 2 = .ok (.iconst 1, 1) := by decide +kernel
theorem dJ6_bitCount_0f7a4_3 : decode cJ6_bitCount_0f7a4 3 = .ok (.iushr, 1) := by decide +kernel
theorem dJ6_bitCount_0f7a4_4 : decode cJ6_bitCount_0f7a4 4 = .ok (.ldc_w 265, 3) := by decide +kernel
theorem dJ6_bitCount_0f7a4_7 : decode cJ6_bitCount_0f7a4 7 = .ok (.iand, 1) := by decide +kernel
theorem dJ6_bitCount_0f7a4_8 : decode cJ6_bitCount_0f7a4 8 = .ok (.isub, 1) := by decide +kernel
theorem dJ6_bitCount_0f7a4_9 : decode cJ6_bitCount_0f7a4 9 = .ok (.istore_n 0, 1) := by decide +kernel
theorem dJ6_bitCount_0f7a4_10 : decode cJ6_bitCount_0f7a4 10 = .ok (.iload_n 0, 1) := by decide +kernel
theorem dJ6_bitCount_0f7a4_11 : decode cJ6_bitCount_0f7a4 11 = .ok (.ldc_w 266, 3) := by decide +kernel
theorem dJ6_bitCount_0f7a4_14 : decode cJ6_bitCount_0f7a4 14 = .ok (.iand, 1) := by decide +kernel
theorem dJ6_bitCount_0f7a4_15 : decode cJ6_bitCount_0f7a4 15 = .ok (.iload_n 0, 1) := by decide +kernel
theorem dJ6_bitCount_0f7a4_16 : decode cJ6_bitCount_0f7a4 16 = .ok (.iconst 2, 1) := by decide +kernel
theorem dJ6_bitCount_0f7a4_17 : decode cJ6_bitCount_0f7a4 17 = .ok (.iushr, 1) := by decide +kernel
theorem dJ6_bitCount_0f7a4_18 : decode cJ6_bitCount_0f7a4 18 = .ok (.ldc_w 266, 3) := by decide +kernel
theorem dJ6_bitCount_0f7a4_21 : decode cJ6_bitCount_0f7a4 21 = .ok (.iand, 1) := by decide +kernel
theorem dJ6_bitCount_0f7a4_22 : decode cJ6_bitCount_0f7a4 22 = .ok (.iadd, 1) := by decide +kernel
theorem dJ6_bitCount_0f7a4_23 : decode cJ6_bitCount_0f7a4 23 = .ok (.istore_n 0, 1) := by decide +kernel
theorem dJ6_bitCount_0f7a4_24 : decode cJ6_bitCount_0f7a4 24 = .ok (.iload_n 0, 1) := by decide +kernel
theorem dJ6_bitCount_0f7a4_25 : decode cJ6_bitCount_0f7a4 25 = .ok (.iload_n 0, 1) := by decide +kernel
theorem dJ6_bitCount_0f7a4_26 : decode cJ6_bitCount_0f7a4 26 = .ok (.iconst 4, 1) := by decide +kernel
theorem dJ6_bitCount_0f7a4_27 : decode cJ6_bitCount_0f7a4 27 = .ok (.iushr, 1) := by decide +kernel
theorem dJ6_bitCount_0f7a4_28 : decode cJ6_bitCount_0f7a4 28 = .ok (.iadd, 1) := by decide +kernel
theorem dJ6_bitCount_0f7a4_29 : decode cJ6_bitCount_0f7a4 29 = .ok (.ldc_w 267, 3) := by decide +kernel
theorem dJ6_bitCount_0f7a4_32 : decode cJ6_bitCount_0f7a4 32 = .ok (.iand, 1) := by decide +kernel
theorem dJ6_bitCount_0f7a4_33 : decode cJ6_bitCount_0f7a4 33 = .ok (.istore_n 0, 1) := by decide +kernel
theorem dJ6_bitCount_0f7a4_34 : decode cJ6_bitCount_0f7a4 34 = .ok (.iload_n 0, 1) := by decide +kernel
theorem dJ6_bitCount_0f7a4_35 : decode cJ6_bitCount_0f7a4 35 = .ok (.iload_n 0, 1) := by decide +kernel
theorem dJ6_bitCount_0f7a4_36 : decode cJ6_bitCount_0f7a4 36 = .ok (.bipush 8, 2) := by decide +kernel
theorem dJ6_bitCount_0f7a4_38 : decode cJ6_bitCount_0f7a4 38 = .ok (.iushr, 1) := by decide +kernel
theorem dJ6_bitCount_0f7a4_39 : decode cJ6_bitCount_0f7a4 39 = .ok (.iadd, 1) := by decide +kernel
theorem dJ6_bitCount_0f7a4_40 : decode cJ6_bitCount_0f7a4 40 = .ok (.istore_n 0, 1) := by decide +kernel
theorem dJ6_bitCount_0f7a4_41 : decode cJ6_bitCount_0f7a4 41 = .ok (.iload_n 0, 1) := by decide +kernel
theorem dJ6_bitCount_0f7a4_42 : decode cJ6_bitCount_0f7a4 42 = .ok (.iload_n 0, 1) := by decide +kernel
theorem dJ6_bitCount_0f7a4_43 : decode cJ6_bitCount_0f7a4 43 = .ok (.bipush 16, 2) := by decide +kernel
theorem dJ6_bitCount_0f7a4_45 : decode cJ6_bitCount_0f7a4 45 = .ok (.iushr, 1) := by decide +kernel
theorem dJ6_bitCount_0f7a4_46 : decode cJ6_bitCount_0f7a4 46 = .ok (.iadd, 1) := by decide +kernel
theorem dJ6_bitCount_0f7a4_47 : decode cJ6_bitCount_0f7a4 47 = .ok (.istore_n 0, 1) := by decide +kernel
theorem dJ6_bitCount_0f7a4_48 : decode cJ6_bitCount_0f7a4 48 = .ok (.iload_n 0, 1) := by decide +kernel
theorem dJ6_bitCount_0f7a4_49 : decode cJ6_bitCount_0f7a4 49 = .ok (.bipush 63, 2) := by decide +kernel
theorem dJ6_bitCount_0f7a4_51 : decode cJ6_bitCount_0f7a4 51 = .ok (.iand, 1) := by decide +kernel
theorem dJ6_bitCount_0f7a4_52 : decode cJ6_bitCount_0f7a4 52 = .ok (.ireturn, 1) := by decide +kernel
theorem dJ9_max_7cf53_0 : decode cJ9_max_7cf53 0 = .ok (.iload_n 0, 1) := by decide +kernel
theorem dJ9_max_7cf53_1 : decode cJ9_max_7cf53 1 = .ok (.iload_n 1, 1) := by decide +kernel
theorem dJ9_max_7cf53_2 : decode cJ9_max_7cf53 2 = .ok (.if_icmp .lt 7, 3) := by decide +kernel
theorem dJ9_max_7cf53_5 : decode cJ9_max_7cf53 5 = .ok (.iload_n 0, 1) := by decide +kernel
theorem dJ9_max_7cf53_6 : decode cJ9_max_7cf53 6 = .ok (.goto 4, 3) := by decide +kernel
theorem dJ9_max_7cf53_9 : decode cJ9_max_7cf53 9 = .ok (.iload_n 1, 1) := by decide +kernel
theorem dJ9_max_7cf53_10 : decode cJ9_max_7cf53 10 = .ok (.ireturn, 1) := by decide +kernel
set_option maxRecDepth 20000 in
theorem ggJ0_length_8abf5_J0_coder_7d493 : GoodIn wsJ0_length_8abf5 wsJ0_coder_7d493 := goodIn_r _ [6, 7, 8] (by decide +kernel) (by decide +kernel)
set_option maxRecDepth 20000 in
theorem gJ0_length_8abf5_J0_coder_7d493 : GoodIn wsJ0_length_8abf5 (wsV RJ0 335 RJ0 yJ0_coder_7d493 wsJ0_coder_7d493) := goodIn_app (goodIn_of _ (by decide +kernel)) ggJ0_length_8abf5_J0_coder_7d493
theorem dJ0_length_8abf5_0 : decode cJ0_length_8abf5 0 = .ok (.aload_n 0, 1) := by decide +kernel
theorem dJ0_length_8abf5_1 : decode cJ0_length_8abf5 1 = .ok (.getfield 9, 3) := by decide +kernel
theorem dJ0_length_8abf5_4 : decode cJ0_length_8abf5 4 = .ok (.arraylength, 1) := by decide +kernel
theorem dJ0_length_8abf5_5 : decode cJ0_length_8abf5 5 = .ok (.aload_n 0, 1) := by decide +kernel
theorem dJ0_length_8abf5_6 : decode cJ0_length_8abf5 6 = .ok (.invokevirtual 335, 3) := by decide +kernel
theorem dJ0_length_8abf5_9 : decode cJ0_length_8abf5 9 = .ok (.ishr, 1) := by decide +kernel
theorem dJ0_length_8abf5_10 : decode cJ0_length_8abf5 10 = .ok (.ireturn, 1) := by decide +kernel
set_option maxRecDepth 20000 in
theorem ggJ0_charAt_5068e_J0_isLatin1_aae02 : GoodIn wsJ0_charAt_5068e wsJ0_isLatin1_aae02 := goodIn_r _ [6, 7, 8] (by decide +kernel) (by decide +kernel)
set_option maxRecDepth 20000 in
theorem gJ0_charAt_5068e_J0_isLatin1_aae02 : GoodIn wsJ0_charAt_5068e (wsV RJ0 492 RJ0 yJ0_isLatin1_aae02 wsJ0_isLatin1_aae02) := goodIn_app (goodIn_of _ (by decide +kernel)) ggJ0_charAt_5068e_J0_isLatin1_aae02
set_option maxRecDepth 20000 in
theorem ggJ0_charAt_5068e_J1_charAt_3b067 : GoodIn wsJ0_charAt_5068e wsJ1_charAt_3b067 := goodIn_r _ [12, 13, 14, 5, 15, 16, 17, 18, 19, 20] (by decide +kernel) (by decide +kernel)
set_option maxRecDepth 20000 in
theorem gJ0_charAt_5068e_J1_charAt_3b067 : GoodIn wsJ0_charAt_5068e (va_wsS RJ0 495 yJ1_charAt_3b067 wsJ1_charAt_3b067) := goodIn_app (goodIn_of _ (by decide +kernel)) ggJ0_charAt_5068e_J1_charAt_3b067
set_option maxRecDepth 20000 in
theorem ggJ0_charAt_5068e_J2_charAt_3b067 : GoodIn wsJ0_charAt_5068e wsJ2_charAt_3b067 := goodIn_r _ [24, 25, 26, 23, 27, 28, 29, 30, 31, 14, 5, 15, 16, 17, 18, 19, 20, 32, 33, 34, 35, 36, 37] (by decide +kernel) (by decide +kernel)
set_option maxRecDepth 20000 in
theorem gJ0_charAt_5068e_J2_charAt_3b067 : GoodIn wsJ0_charAt_5068e (va_wsS RJ0 498 yJ2_charAt_3b067 wsJ2_charAt_3b067) := goodIn_app (goodIn_of _ (by decide +kernel)) ggJ0_charAt_5068e_J2_charAt_3b067
theorem dJ0_charAt_5068e_0 : decode cJ0_charAt_5068e 0 = .ok (.aload_n 0, 1) := by decide +kernel
theorem dJ0_charAt_5068e_1 : decode cJ0_charAt_5068e 1 = .ok (.invokevirtual 492, 3) := by decide +kernel
theorem dJ0_charAt_5068e_4 : decode cJ0_charAt_5068e 4 = .ok (.ifCond .eq 12, 3) := by decide +kernel
theorem dJ0_charAt_5068e_7 : decode cJ0_charAt_5068e 7 = .ok (.aload_n 0, 1) := by decide +kernel
theorem dJ0_charAt_5068e_8 : decode cJ0_charAt_5068e 8 = .ok (.getfield 9, 3) := by decide +kernel
theorem dJ0_charAt_5068e_11 : decode cJ0_charAt_5068e 11 = .ok (.iload_n 1, 1) := by decide +kernel
theorem dJ0_charAt_5068e_12 : decode cJ0_charAt_5068e 12 = .ok (.invokestatic 495, 3) := by decide +kernel
theorem dJ0_charAt_5068e_15 : decode cJ0_charAt_5068e 15 = .ok (.ireturn, 1) := by decide +kernel
theorem dJ0_charAt_5068e_16 : decode cJ0_charAt_5068e 16 = .ok (.aload_n 0, 1) := by decide +kernel
theorem dJ0_charAt_5068e_17 : decode cJ0_charAt_5068e 17 = .ok (.getfield 9, 3) := by decide +kernel
theorem dJ0_charAt_5068e_20 : decode cJ0_charAt_5068e 20 = .ok (.iload_n 1, 1) := by decide +kernel
theorem dJ0_charAt_5068e_21 : decode cJ0_charAt_5068e 21 = .ok (.invokestatic 498, 3) := by decide +kernel
theorem dJ0_charAt_5068e_24 : decode cJ0_charAt_5068e 24 = .ok (.ireturn, 1) := by decide +kernel
theorem dJ0_coder_7d493_0 : decode cJ0_coder_7d493 0 = .ok (.getstatic 38, 3) := by decide +kernel
theorem dJ0_coder_7d493_3 : decode cJ0_coder_7d493 3 = .ok (.ifCond .eq 10, 3) := by decide +kernel
theorem dJ0_coder_7d493_6 : decode cJ0_coder_7d493 6 = .ok (.aload_n 0, 1) := by decide +kernel
theorem dJ0_coder_7d493_7 : decode cJ0_coder_7d493 7 = .ok (.getfield 15, 3) := by decide +kernel
theorem dJ0_coder_7d493_10 : decode cJ0_coder_7d493 10 = .ok (.goto 4, 3) := by decide +kernel
theorem dJ0_coder_7d493_13 : decode cJ0_coder_7d493 13 = .ok (.iconst 1, 1) := by decide +kernel
theorem dJ0_coder_7d493_14 : decode cJ0_coder_7d493 14 = .ok (.ireturn, 1) := by decide +kernel
theorem dJ0_isLatin1_aae02_0 : decode cJ0_isLatin1_aae02 0 = .ok (.getstatic 38, 3) := by decide +kernel
theorem dJ0_isLatin1_aae02_3 : decode cJ0_isLatin1_aae02 3 = .ok (.ifCond .eq 14, 3) := by decide +kernel
theorem dJ0_isLatin1_aae02_6 : decode cJ0_isLatin1_aae02 6 = .ok (.aload_n 0, 1) := by decide +kernel
theorem dJ0_isLatin1_aae02_7 : decode cJ0_isLatin1_aae02 7 = .ok (.getfield 15, 3) := by decide +kernel
theorem dJ0_isLatin1_aae02_10 : decode cJ0_isLatin1_aae02 10 = .ok (.ifCond .ne 7, 3) := by decide +kernel
theorem dJ0_isLatin1_aae02_13 : decode cJ0_isLatin1_aae02 13 = .ok (.iconst 1, 1) := by decide +kernel
theorem dJ0_isLatin1_aae02_14 : decode cJ0_isLatin1_aae02 14 = .ok (.goto 4, 3) := by decide +kernel
theorem dJ0_isLatin1_aae02_17 : decode cJ0_isLatin1_aae02 17 = .ok (.iconst 0, 1) := by decide +kernel
theorem dJ0_isLatin1_aae02_18 : decode cJ0_isLatin1_aae02 18 = .ok (.ireturn, 1) := by decide +kernel
set_option maxRecDepth 20000 in
theorem ggJ0_checkIndex_df160_J3_checkIndex_8e157 : GoodIn wsJ0_checkIndex_df160 wsJ3_checkIndex_8e157 := goodIn_r _ [5] (by decide +kernel) (by decide +kernel)
set_option maxRecDepth 20000 in
theorem gJ0_checkIndex_df160_J3_checkIndex_8e157 : GoodIn wsJ0_checkIndex_df160 (va_wsS RJ0 1059 yJ3_checkIndex_8e157 wsJ3_checkIndex_8e157) := goodIn_app (goodIn_of _ (by decide +kernel)) ggJ0_checkIndex_df160_J3_checkIndex_8e157
theorem dJ0_checkIndex_df160_0 : decode cJ0_checkIndex_df160 0 = .ok (.iload_n 0, 1) := by decide +kernel
theorem dJ0_checkIndex_df160_1 : decode cJ0_checkIndex_df160 1 = .ok (.iload_n 1, 1) := by decide +kernel
theorem dJ0_checkIndex_df160_2 : decode cJ0_checkIndex_df160 2 = .ok (.getstatic 1053, 3) := by decide +kernel
theorem dJ0_checkIndex_df160_5 : decode cJ0_checkIndex_df160 5 = .ok (.invokestatic 1059, 3) := by decide +kernel
theorem dJ0_checkIndex_df160_8 : decode cJ0_checkIndex_df160 8 = .ok (.pop, 1) := by decide +kernel
theorem dJ0_checkIndex_df160_9 : decode cJ0_checkIndex_df160 9 = .ok (.return_, 1) := by decide +kernel
set_option maxRecDepth 20000 in
theorem ggJ1_charAt_3b067_J0_checkIndex_df160 : GoodIn wsJ1_charAt_3b067 wsJ0_checkIndex_df160 := goodIn_r _ [4, 5, 6, 7, 8, 9] (by decide +kernel) (by decide +kernel)
set_option maxRecDepth 20000 in
theorem gJ1_charAt_3b067_J0_checkIndex_df160 : GoodIn wsJ1_charAt_3b067 (va_wsS RJ1 9 yJ0_checkIndex_df160 wsJ0_checkIndex_df160) := goodIn_app (goodIn_of _ (by decide +kernel)) ggJ1_charAt_3b067_J0_checkIndex_df160
theorem dJ1_charAt_3b067_0 : decode cJ1_charAt_3b067 0 = .ok (.iload_n 1, 1) := by decide +kernel
theorem dJ1_charAt_3b067_1 : decode cJ1_charAt_3b067 1 = .ok (.aload_n 0, 1) := by decide +kernel
theorem dJ1_charAt_3b067_2 : decode cJ1_charAt_3b067 2 = .ok (.arraylength, 1) := by decide +kernel
theorem dJ1_charAt_3b067_3 : decode cJ1_charAt_3b067 3 = .ok (.invokestatic 9, 3) := by decide +kernel
theorem dJ1_charAt_3b067_6 : decode cJ1_charAt_3b067 6 = .ok (.aload_n 0, 1) := by decide +kernel
theorem dJ1_charAt_3b067_7 : decode cJ1_charAt_3b067 7 = .ok (.iload_n 1, 1) := by decide +kernel
theorem dJ1_charAt_3b067_8 : decode cJ1_charAt_3b067 8 = .ok (.baload, 1) := by decide +kernel
theorem dJ1_charAt_3b067_9 : decode cJ1_charAt_3b067 9 = .ok (.sipush 255, 3) := by decide +kernel
theorem dJ1_charAt_3b067_12 : decode cJ1_charAt_3b067 12 = .ok (.iand, 1) := by decide +kernel
theorem dJ1_charAt_3b067_13 : decode cJ1_charAt_3b067 13 = .ok (.i2c, 1) := by decide +kernel
theorem dJ1_charAt_3b067_14 : decode cJ1_charAt_3b067 14 = .ok (.ireturn, 1) := by decide +kernel
set_option maxRecDepth 20000 in
theorem ggJ2_getChar_3b067_J2_length_9d52b : GoodIn wsJ2_getChar_3b067 wsJ2_length_9d52b := goodIn_r _ [7] (by decide +kernel) (by decide +kernel)
set_option maxRecDepth 20000 in
theorem gJ2_getChar_3b067_J2_length_9d52b : GoodIn wsJ2_getChar_3b067 (va_wsS RJ2 48 yJ2_length_9d52b wsJ2_length_9d52b) := goodIn_app (goodIn_of _ (by decide +kernel)) ggJ2_getChar_3b067_J2_length_9d52b
theorem dJ2_getChar_3b067_0 : decode cJ2_getChar_3b067 0 = .ok (.getstatic 44, 3) := by decide +kernel
theorem dJ2_getChar_3b067_3 : decode cJ2_getChar_3b067 3 = .ok (.ifCond .ne 25, 3) := by decide +kernel
theorem dJ2_getChar_3b067_6 : decode cJ2_getChar_3b067 6 = .ok (.iload_n 1, 1) := by decide +kernel
theorem dJ2_getChar_3b067_7 : decode cJ2_getChar_3b067 7 = .ok (.ifCond .lt 11, 3) := by decide +kernel
theorem dJ2_getChar_3b067_10 : decode cJ2_getChar_3b067 10 = .ok (.iload_n 1, 1) := by decide +kernel
theorem dJ2_getChar_3b067_11 : decode cJ2_getChar_3b067 11 = .ok (.aload_n 0, 1) := by decide +kernel
theorem dJ2_getChar_3b067_12 : decode cJ2_getChar_3b067 12 = .ok (.invokestatic 48, 3) := by decide +kernel
theorem dJ2_getChar_3b067_15 : decode cJ2_getChar_3b067 15 = .ok (.if_icmp .lt 13, 3) := by decide +kernel
theorem dJ2_getChar_3b067_18 : decode cJ2_getChar_3b067 18 = .ok (.new 52, 3) := by decide +kernel
theorem dJ2_getChar_3b067_21 : decode cJ2_getChar_3b067 21 = .ok (.dup, 1) := by decide +kernel
theorem dJ2_getChar_3b067_22 : decode cJ2_getChar_3b067 22 = .ok (.ldc 54, 2) := by decide +kernel
theorem dJ2_getChar_3b067_24 : decode cJ2_getChar_3b067 24 = .ok (.invokespecial 56, 3) := by decide +kernel
theorem dJ2_getChar_3b067_27 : decode cJ2_getChar_3b067 27 = .ok (.athrow, 1) := by decide +kernel
theorem dJ2_getChar_3b067_28 : decode cJ2_getChar_3b067 28 = .ok (.iload_n 1, 1) := by decide +kernel
theorem dJ2_getChar_3b067_29 : decode cJ2_getChar_3b067 29 = .ok (.iconst 1, 1) := by decide +kernel
theorem dJ2_getChar_3b067_30 : decode cJ2_getChar_3b067 30 = .ok (.ishl, 1) := by decide +kernel
theorem dJ2_getChar_3b067_31 : decode cJ2_getChar_3b067 31 = .ok (.istore_n 1, 1) := by decide +kernel
theorem dJ2_getChar_3b067_32 : decode cJ2_getChar_3b067 32 = .ok (.aload_n 0, 1) := by decide +kernel
theorem dJ2_getChar_3b067_33 : decode cJ2_getChar_3b067 33 = .ok (.iload_n 1, 1) := by decide +kernel
theorem dJ2_getChar_3b067_34 : decode cJ2_getChar_3b067 34 = .ok (.iinc 1 1, 3) := by decide +kernel
theorem dJ2_getChar_3b067_37 : decode cJ2_getChar_3b067 37 = .ok (.baload, 1) := by decide +kernel
theorem dJ2_getChar_3b067_38 : decode cJ2_getChar_3b067 38 = .ok (.sipush 255, 3) := by decide +kernel
theorem dJ2_getChar_3b067_41 : decode cJ2_getChar_3b067 41 = .ok (.iand, 1) := by decide +kernel
theorem dJ2_getChar_3b067_42 : decode cJ2_getChar_3b067 42 = .ok (.getstatic 59, 3) := by decide +kernel
theorem dJ2_getChar_3b067_45 : decode cJ2_getChar_3b067 45 = .ok (.ishl, 1) := by decide +kernel
theorem dJ2_getChar_3b067_46 : decode cJ2_getChar_3b067 46 = .ok (.aload_n 0, 1) := by decide +kernel
theorem dJ2_getChar_3b067_47 : decode cJ2_getChar_3b067 47 = .ok (.iload_n 1, 1) := by decide +kernel
theorem dJ2_getChar_3b067_48 : decode cJ2_getChar_3b067 48 = .ok (.baload, 1) := by decide +kernel
theorem dJ2_getChar_3b067_49 : decode cJ2_getChar_3b067 49 = .ok (.sipush 255, 3) := by decide +kernel
theorem dJ2_getChar_3b067_52 : decode cJ2_getChar_3b067 52 = .ok (.iand, 1) := by decide +kernel
theorem dJ2_getChar_3b067_53 : decode cJ2_getChar_3b067 53 = .ok (.getstatic 63, 3) := by decide +kernel
theorem dJ2_getChar_3b067_56 : decode cJ2_getChar_3b067 56 = .ok (.ishl, 1) := by decide +kernel
theorem dJ2_getChar_3b067_57 : decode cJ2_getChar_3b067 57 = .ok (.ior, 1) := by decide +kernel
theorem dJ2_getChar_3b067_58 : decode cJ2_getChar_3b067 58 = .ok (.i2c, 1) := by decide +kernel
theorem dJ2_getChar_3b067_59 : decode cJ2_getChar_3b067 59 = .ok (.ireturn, 1) := by decide +kernel
theorem dJ2_length_9d52b_0 : decode cJ2_length_9d52b 0 = .ok (.aload_n 0, 1) := by decide +kernel
theorem dJ2_length_9d52b_1 : decode cJ2_length_9d52b 1 = .ok (.arraylength, 1) := by decide +kernel
theorem dJ2_length_9d52b_2 : decode cJ2_length_9d52b 2 = .ok (.iconst 1, 1) := by decide +kernel
theorem dJ2_length_9d52b_3 : decode cJ2_length_9d52b 3 = .ok (.ishr, 1) := by decide +kernel
theorem dJ2_length_9d52b_4 : decode cJ2_length_9d52b 4 = .ok (.ireturn, 1) := by decide +kernel
set_option maxRecDepth 20000 in
theorem ggJ2_charAt_3b067_J2_checkIndex_2214a : GoodIn wsJ2_charAt_3b067 wsJ2_checkIndex_2214a := goodIn_r _ [4, 5, 6, 3, 7, 8, 9, 10, 11, 12, 13, 14, 15, 16] (by decide +kernel) (by decide +kernel)
set_option maxRecDepth 20000 in
theorem gJ2_charAt_3b067_J2_checkIndex_2214a : GoodIn wsJ2_charAt_3b067 (va_wsS RJ2 67 yJ2_checkIndex_2214a wsJ2_checkIndex_2214a) := goodIn_app (goodIn_of _ (by decide +kernel)) ggJ2_charAt_3b067_J2_checkIndex_2214a
set_option maxRecDepth 20000 in
theorem ggJ2_charAt_3b067_J2_getChar_3b067 : GoodIn wsJ2_charAt_3b067 wsJ2_getChar_3b067 := goodIn_r _ [19, 20, 21, 22, 5, 6, 3, 7] (by decide +kernel) (by decide +kernel)
set_option maxRecDepth 20000 in
theorem gJ2_charAt_3b067_J2_getChar_3b067 : GoodIn wsJ2_charAt_3b067 (va_wsS RJ2 71 yJ2_getChar_3b067 wsJ2_getChar_3b067) := goodIn_app (goodIn_of _ (by decide +kernel)) ggJ2_charAt_3b067_J2_getChar_3b067
theorem dJ2_charAt_3b067_0 : decode cJ2_charAt_3b067 0 = .ok (.iload_n 1, 1) := by decide +kernel
theorem dJ2_charAt_3b067_1 : decode cJ2_charAt_3b067 1 = .ok (.aload_n 0, 1) := by decide +kernel
theorem dJ2_charAt_3b067_2 : decode cJ2_charAt_3b067 2 = .ok (.invokestatic 67, 3) := by decide +kernel
theorem dJ2_charAt_3b067_5 : decode cJ2_charAt_3b067 5 = .ok (.aload_n 0, 1) := by decide +kernel
theorem dJ2_charAt_3b067_6 : decode cJ2_charAt_3b067 6 = .ok (.iload_n 1, 1) := by decide +kernel
theorem dJ2_charAt_3b067_7 : decode cJ2_charAt_3b067 7 = .ok (.invokestatic 71, 3) := by decide +kernel
theorem dJ2_charAt_3b067_10 : decode cJ2_charAt_3b067 10 = .ok (.ireturn, 1) := by decide +kernel
set_option maxRecDepth 20000 in
theorem ggJ2_checkIndex_2214a_J2_length_9d52b : GoodIn wsJ2_checkIndex_2214a wsJ2_length_9d52b := goodIn_r _ [4] (by decide +kernel) (by decide +kernel)
set_option maxRecDepth 20000 in
theorem gJ2_checkIndex_2214a_J2_length_9d52b : GoodIn wsJ2_checkIndex_2214a (va_wsS RJ2 48 yJ2_length_9d52b wsJ2_length_9d52b) := goodIn_app (goodIn_of _ (by decide +kernel)) ggJ2_checkIndex_2214a_J2_length_9d52b
set_option maxRecDepth 20000 in
theorem ggJ2_checkIndex_2214a_J0_checkIndex_df160 : GoodIn wsJ2_checkIndex_2214a wsJ0_checkIndex_df160 := goodIn_r _ [8, 9, 10, 11, 12, 13] (by decide +kernel) (by decide +kernel)
set_option maxRecDepth 20000 in
theorem gJ2_checkIndex_2214a_J0_checkIndex_df160 : GoodIn wsJ2_checkIndex_2214a (va_wsS RJ2 414 yJ0_checkIndex_df160 wsJ0_checkIndex_df160) := goodIn_app (goodIn_of _ (by decide +kernel)) ggJ2_checkIndex_2214a_J0_checkIndex_df160
theorem dJ2_checkIndex_2214a_0 : decode cJ2_checkIndex_2214a 0 = .ok (.iload_n 0, 1) := by decide +kernel
theorem dJ2_checkIndex_2214a_1 : decode cJ2_checkIndex_2214a 1 = .ok (.aload_n 1, 1) := by decide +kernel
theorem dJ2_checkIndex_2214a_2 : decode cJ2_checkIndex_2214a 2 = .ok (.invokestatic 48, 3) := by decide +kernel
theorem dJ2_checkIndex_2214a_5 : decode cJ2_checkIndex_2214a 5 = .ok (.invokestatic 414, 3) := by decide +kernel
theorem dJ2_checkIndex_2214a_8 : decode cJ2_checkIndex_2214a 8 = .ok (.return_, 1) := by decide +kernel
theorem dJ3_checkIndex_8e157_0 : decode cJ3_checkIndex_8e157 0 = .ok (.iload_n 0, 1) := by decide +kernel
theorem dJ3_checkIndex_8e157_1 : decode cJ3_checkIndex_8e157 1 = .ok (.ifCond .lt 8, 3) := by decide +kernel
theorem dJ3_checkIndex_8e157_4 : decode cJ3_checkIndex_8e157 4 = .ok (.iload_n 0, 1) := by decide +kernel
theorem dJ3_checkIndex_8e157_5 : decode cJ3_checkIndex_8e157 5 = .ok (.iload_n 1, 1) := by decide +kernel
theorem dJ3_checkIndex_8e157_6 : decode cJ3_checkIndex_8e157 6 = .ok (.if_icmp .lt 10, 3) := by decide +kernel
theorem dJ3_checkIndex_8e157_9 : decode cJ3_checkIndex_8e157 9 = .ok (.aload_n 2, 1) := by decide +kernel
theorem dJ3_checkIndex_8e157_10 : decode cJ3_checkIndex_8e157 10 = .ok (.iload_n 0, 1) := by decide +kernel
theorem dJ3_checkIndex_8e157_11 : decode cJ3_checkIndex_8e157 11 = .ok (.iload_n 1, 1) := by decide +kernel
theorem dJ3_checkIndex_8e157_12 : decode cJ3_checkIndex_8e157 12 = .ok (.invokestatic 95, 3) := by decide +kernel
theorem dJ3_checkIndex_8e157_15 : decode cJ3_checkIndex_8e157 15 = .ok (.athrow, 1) := by decide +kernel
theorem dJ3_checkIndex_8e157_16 : decode cJ3_checkIndex_8e157 16 = .ok (.iload_n 0, 1) := by decide +kernel
theorem dJ3_checkIndex_8e157_17 : decode cJ3_checkIndex_8e157 17 = .ok (.ireturn, 1) := by decide +kernel

theorem dX5_again_46 : decode cX5_again 46 = .ok (.if_icmp .ne 15, 3) := by decide +kernel
theorem dX5_again_49 : decode cX5_again 49 = .ok (.iload_n 1, 1) := by decide +kernel
theorem dX5_again_50 : decode cX5_again 50 = .ok (.ifCond .ne 7, 3) := by decide +kernel
theorem dX5_again_53 : decode cX5_again 53 = .ok (.iload_n 2, 1) := by decide +kernel
theorem dX5_again_54 : decode cX5_again 54 = .ok (.goto 6, 3) := by decide +kernel
theorem dX5_again_57 : decode cX5_again 57 = .ok (.iload_n 3, 1) := by decide +kernel
theorem dX5_again_58 : decode cX5_again 58 = .ok (.iload_n 2, 1) := by decide +kernel
theorem dX5_again_59 : decode cX5_again 59 = .ok (.isub, 1) := by decide +kernel
theorem dX5_again_60 : decode cX5_again 60 = .ok (.ireturn, 1) := by decide +kernel
theorem dX5_again_61 : decode cX5_again 61 = .ok (.iinc 3 1, 3) := by decide +kernel
theorem dX5_again_64 : decode cX5_again 64 = .ok (.goto (-36), 3) := by decide +kernel
theorem dX5_again_67 : decode cX5_again 67 = .ok (.iinc 2 1, 3) := by decide +kernel
theorem dX5_again_70 : decode cX5_again 70 = .ok (.goto (-52), 3) := by decide +kernel
theorem dX5_again_73 : decode cX5_again 73 = .ok (.iconst (-1), 1) := by decide +kernel
theorem dX5_again_74 : decode cX5_again 74 = .ok (.ireturn, 1) := by decide +kernel
set_option maxRecDepth 20000 in
theorem ggX5_first_X5_refusalOf : GoodIn wsX5_first wsX5_refusalOf := goodIn_r _ [6, 1, 7, 8, 9, 10, 11, 12, 5, 13, 14, 15, 16, 17, 18, 46, 47, 48, 49, 50, 51, 52, 53, 54, 55, 56, 57, 58, 59, 60, 61, 62, 63, 64, 65, 66, 67, 68, 69, 70] (by decide +kernel) (by decide +kernel)
set_option maxRecDepth 20000 in
theorem gX5_first_X5_refusalOf : GoodIn wsX5_first (wsV RX5 184 RX5 yX5_refusalOf wsX5_refusalOf) := goodIn_app (goodIn_of _ (by decide +kernel)) ggX5_first_X5_refusalOf
set_option maxRecDepth 20000 in
theorem ggX5_first_X4_passing : GoodIn wsX5_first wsX4_passing := goodIn_r _ [21, 22, 23, 24, 25, 8, 26, 17, 27, 28, 29, 30, 31, 32, 33, 34, 35, 36, 5, 37, 38, 39, 40, 41, 59, 60, 61, 62, 63, 64, 65, 66, 67, 68, 69, 70] (by decide +kernel) (by decide +kernel)
set_option maxRecDepth 20000 in
theorem gX5_first_X4_passing_n188 : GoodIn wsX5_first (wsX4_passing) := ggX5_first_X4_passing
set_option maxRecDepth 20000 in
theorem ggX5_first_X5_has : GoodIn wsX5_first wsX5_has := goodIn_r _ [37] (by decide +kernel) (by decide +kernel)
set_option maxRecDepth 20000 in
theorem gX5_first_X5_has : GoodIn wsX5_first (va_wsS RX5 151 yX5_has wsX5_has) := goodIn_app (goodIn_of _ (by decide +kernel)) ggX5_first_X5_has
set_option maxRecDepth 20000 in
theorem ggX5_first_X4_wayEnd : GoodIn wsX5_first wsX4_wayEnd := goodIn_r _ [45, 22, 59, 60, 61, 62, 63, 64, 65, 66, 67, 68, 69, 70] (by decide +kernel) (by decide +kernel)
set_option maxRecDepth 20000 in
theorem gX5_first_X4_wayEnd_n191 : GoodIn wsX5_first (wsX4_wayEnd) := ggX5_first_X4_wayEnd
theorem dX5_first_0 : decode cX5_first 0 = .ok (.aload_n 0, 1) := by decide +kernel
theorem dX5_first_1 : decode cX5_first 1 = .ok (.iload_n 1, 1) := by decide +kernel
theorem dX5_first_2 : decode cX5_first 2 = .ok (.iload_n 2, 1) := by decide +kernel
theorem dX5_first_3 : decode cX5_first 3 = .ok (.iload_n 3, 1) := by decide +kernel
theorem dX5_first_4 : decode cX5_first 4 = .ok (.invokevirtual 184, 3) := by decide +kernel
theorem dX5_first_7 : decode cX5_first 7 = .ok (.istore 4, 2) := by decide +kernel
theorem dX5_first_9 : decode cX5_first 9 = .ok (.iload 4, 2) := by decide +kernel
theorem dX5_first_11 : decode cX5_first 11 = .ok (.ifCond .eq 6, 3) := by decide +kernel
theorem dX5_first_14 : decode cX5_first 14 = .ok (.iload 4, 2) := by decide +kernel
theorem dX5_first_16 : decode cX5_first 16 = .ok (.ireturn, 1) := by decide +kernel
theorem dX5_first_17 : decode cX5_first 17 = .ok (.aload_n 0, 1) := by decide +kernel
theorem dX5_first_18 : decode cX5_first 18 = .ok (.getfield 19, 3) := by decide +kernel
theorem dX5_first_21 : decode cX5_first 21 = .ok (.iload_n 1, 1) := by decide +kernel
theorem dX5_first_22 : decode cX5_first 22 = .ok (.iload_n 3, 1) := by decide +kernel
theorem dX5_first_23 : decode cX5_first 23 = .ok (.invokevirtual 188, 3) := by decide +kernel
theorem dX5_first_26 : decode cX5_first 26 = .ok (.iload_n 2, 1) := by decide +kernel
theorem dX5_first_27 : decode cX5_first 27 = .ok (.invokestatic 151, 3) := by decide +kernel
theorem dX5_first_30 : decode cX5_first 30 = .ok (.ifCond .eq 15, 3) := by decide +kernel
theorem dX5_first_33 : decode cX5_first 33 = .ok (.aload_n 0, 1) := by decide +kernel
theorem dX5_first_34 : decode cX5_first 34 = .ok (.getfield 19, 3) := by decide +kernel
theorem dX5_first_37 : decode cX5_first 37 = .ok (.iload_n 1, 1) := by decide +kernel
theorem dX5_first_38 : decode cX5_first 38 = .ok (.iload_n 3, 1) := by decide +kernel
theorem dX5_first_39 : decode cX5_first 39 = .ok (.invokevirtual 191, 3) := by decide +kernel
theorem dX5_first_42 : decode cX5_first 42 = .ok (.goto 4, 3) := by decide +kernel
theorem dX5_first_45 : decode cX5_first 45 = .ok (.iconst (-1), 1) := by decide +kernel
theorem dX5_first_46 : decode cX5_first 46 = .ok (.ireturn, 1) := by decide +kernel
set_option maxRecDepth 20000 in
theorem ggX5_lack_X5_refusalOf : GoodIn wsX5_lack wsX5_refusalOf := goodIn_r _ [6, 1, 7, 8, 9, 10, 11, 12, 5, 13, 14, 15, 16, 17, 18, 40, 41, 42, 43, 44, 45, 46, 47, 48, 49, 50, 51, 52, 53, 54, 55, 56, 57, 58, 59, 60, 61, 62, 63, 64] (by decide +kernel) (by decide +kernel)
set_option maxRecDepth 20000 in
theorem gX5_lack_X5_refusalOf : GoodIn wsX5_lack (wsV RX5 184 RX5 yX5_refusalOf wsX5_refusalOf) := goodIn_app (goodIn_of _ (by decide +kernel)) ggX5_lack_X5_refusalOf
set_option maxRecDepth 20000 in
theorem ggX5_lack_X5_has : GoodIn wsX5_lack wsX5_has := goodIn_r _ [21] (by decide +kernel) (by decide +kernel)
set_option maxRecDepth 20000 in
theorem gX5_lack_X5_has : GoodIn wsX5_lack (va_wsS RX5 151 yX5_has wsX5_has) := goodIn_app (goodIn_of _ (by decide +kernel)) ggX5_lack_X5_has
set_option maxRecDepth 20000 in
theorem ggX5_lack_X4_lacking : GoodIn wsX5_lack wsX4_lacking := goodIn_r _ [24, 25, 26, 27, 28, 29, 30, 8, 31, 32, 33, 34, 35, 36, 37, 38, 39, 53, 54, 55, 56, 57, 58, 59, 60, 61, 62, 63, 64] (by decide +kernel) (by decide +kernel)
set_option maxRecDepth 20000 in
theorem gX5_lack_X4_lacking_n194 : GoodIn wsX5_lack (wsX4_lacking) := ggX5_lack_X4_lacking
theorem dX5_lack_0 : decode cX5_lack 0 = .ok (.aload_n 0, 1) := by decide +kernel
theorem dX5_lack_1 : decode cX5_lack 1 = .ok (.iload_n 1, 1) := by decide +kernel
theorem dX5_lack_2 : decode cX5_lack 2 = .ok (.iload_n 2, 1) := by decide +kernel
theorem dX5_lack_3 : decode cX5_lack 3 = .ok (.iload_n 3, 1) := by decide +kernel
theorem dX5_lack_4 : decode cX5_lack 4 = .ok (.invokevirtual 184, 3) := by decide +kernel
theorem dX5_lack_7 : decode cX5_lack 7 = .ok (.istore 4, 2) := by decide +kernel
theorem dX5_lack_9 : decode cX5_lack 9 = .ok (.iload 4, 2) := by decide +kernel
theorem dX5_lack_11 : decode cX5_lack 11 = .ok (.ifCond .eq 6, 3) := by decide +kernel
theorem dX5_lack_14 : decode cX5_lack 14 = .ok (.iload 4, 2) := by decide +kernel
theorem dX5_lack_16 : decode cX5_lack 16 = .ok (.ireturn, 1) := by decide +kernel
theorem dX5_lack_17 : decode cX5_lack 17 = .ok (.iload_n 1, 1) := by decide +kernel
theorem dX5_lack_18 : decode cX5_lack 18 = .ok (.istore 5, 2) := by decide +kernel
theorem dX5_lack_20 : decode cX5_lack 20 = .ok (.iconst 0, 1) := by decide +kernel
theorem dX5_lack_21 : decode cX5_lack 21 = .ok (.istore 6, 2) := by decide +kernel
theorem dX5_lack_23 : decode cX5_lack 23 = .ok (.iconst 0, 1) := by decide +kernel
theorem dX5_lack_24 : decode cX5_lack 24 = .ok (.istore 7, 2) := by decide +kernel
theorem dX5_lack_26 : decode cX5_lack 26 = .ok (.iconst 0, 1) := by decide +kernel
theorem dX5_lack_27 : decode cX5_lack 27 = .ok (.istore 8, 2) := by decide +kernel
theorem dX5_lack_29 : decode cX5_lack 29 = .ok (.iload 8, 2) := by decide +kernel
theorem dX5_lack_31 : decode cX5_lack 31 = .ok (.iload_n 3, 1) := by decide +kernel
theorem dX5_lack_32 : decode cX5_lack 32 = .ok (.if_icmp .gt 63, 3) := by decide +kernel
theorem dX5_lack_35 : decode cX5_lack 35 = .ok (.iload 5, 2) := by decide +kernel
theorem dX5_lack_37 : decode cX5_lack 37 = .ok (.iconst (-1), 1) := by decide +kernel
theorem dX5_lack_38 : decode cX5_lack 38 = .ok (.if_icmp .ne 5, 3) := by decide +kernel
theorem dX5_lack_41 : decode cX5_lack 41 = .ok (.iconst (-1), 1) := by decide +kernel
theorem dX5_lack_42 : decode cX5_lack 42 = .ok (.ireturn, 1) := by decide +kernel
theorem dX5_lack_43 : decode cX5_lack 43 = .ok (.iload 6, 2) := by decide +kernel
theorem dX5_lack_45 : decode cX5_lack 45 = .ok (.iload 5, 2) := by decide +kernel
theorem dX5_lack_47 : decode cX5_lack 47 = .ok (.invokestatic 151, 3) := by decide +kernel
theorem dX5_lack_50 : decode cX5_lack 50 = .ok (.ifCond .ne 18, 3) := by decide +kernel
theorem dX5_lack_53 : decode cX5_lack 53 = .ok (.iload 7, 2) := by decide +kernel
theorem dX5_lack_55 : decode cX5_lack 55 = .ok (.aload_n 0, 1) := by decide +kernel
theorem dX5_lack_56 : decode cX5_lack 56 = .ok (.getfield 19, 3) := by decide +kernel
theorem dX5_lack_59 : decode cX5_lack 59 = .ok (.iload 5, 2) := by decide +kernel
theorem dX5_lack_61 : decode cX5_lack 61 = .ok (.iload_n 2, 1) := by decide +kernel
theorem dX5_lack_62 : decode cX5_lack 62 = .ok (.invokevirtual 194, 3) := by decide +kernel
theorem dX5_lack_65 : decode cX5_lack 65 = .ok (.iadd, 1) := by decide +kernel
theorem dX5_lack_66 : decode cX5_lack 66 = .ok (.istore 7, 2) := by decide +kernel
theorem dX5_lack_68 : decode cX5_lack 68 = .ok (.iload 6, 2) := by decide +kernel
theorem dX5_lack_70 : decode cX5_lack 70 = .ok (.iconst 1, 1) := by decide +kernel
theorem dX5_lack_71 : decode cX5_lack 71 = .ok (.iload 5, 2) := by decide +kernel
theorem dX5_lack_73 : decode cX5_lack 73 = .ok (.ishl, 1) := by decide +kernel
theorem dX5_lack_74 : decode cX5_lack 74 = .ok (.ior, 1) := by decide +kernel
theorem dX5_lack_75 : decode cX5_lack 75 = .ok (.istore 6, 2) := by decide +kernel
theorem dX5_lack_77 : decode cX5_lack 77 = .ok (.aload_n 0, 1) := by decide +kernel
theorem dX5_lack_78 : decode cX5_lack 78 = .ok (.getfield 19, 3) := by decide +kernel
theorem dX5_lack_81 : decode cX5_lack 81 = .ok (.getfield 118, 3) := by decide +kernel
theorem dX5_lack_84 : decode cX5_lack 84 = .ok (.iload 5, 2) := by decide +kernel
theorem dX5_lack_86 : decode cX5_lack 86 = .ok (.iaload, 1) := by decide +kernel
theorem dX5_lack_87 : decode cX5_lack 87 = .ok (.istore 5, 2) := by decide +kernel
theorem dX5_lack_89 : decode cX5_lack 89 = .ok (.iinc 8 1, 3) := by decide +kernel
theorem dX5_lack_92 : decode cX5_lack 92 = .ok (.goto (-63), 3) := by decide +kernel
theorem dX5_lack_95 : decode cX5_lack 95 = .ok (.iload 7, 2) := by decide +kernel
theorem dX5_lack_97 : decode cX5_lack 97 = .ok (.ireturn, 1) := by decide +kernel
set_option maxRecDepth 20000 in
theorem ggX5_wish_X5_refusalOf : GoodIn wsX5_wish wsX5_refusalOf := goodIn_r _ [6, 7, 8, 9, 10, 11, 12, 13, 5, 14, 15, 16, 17, 18, 19, 28, 29, 30, 31, 32, 33, 34, 35, 36, 37, 38, 39, 40, 41, 42, 43, 44, 45, 46, 47, 48, 49, 50, 51, 52] (by decide +kernel) (by decide +kernel)
set_option maxRecDepth 20000 in
theorem gX5_wish_X5_refusalOf : GoodIn wsX5_wish (wsV RX5 184 RX5 yX5_refusalOf wsX5_refusalOf) := goodIn_app (goodIn_of _ (by decide +kernel)) ggX5_wish_X5_refusalOf
set_option maxRecDepth 20000 in
theorem ggX5_wish_X3_add : GoodIn wsX5_wish wsX3_add := goodIn_r _ [23, 24, 25, 26, 27, 53, 54, 55, 56] (by decide +kernel) (by decide +kernel)
set_option maxRecDepth 20000 in
theorem gX5_wish_X3_add_n197 : GoodIn wsX5_wish (wsX3_add) := ggX5_wish_X3_add
theorem dX5_wish_0 : decode cX5_wish 0 = .ok (.aload_n 0, 1) := by decide +kernel
theorem dX5_wish_1 : decode cX5_wish 1 = .ok (.iload_n 1, 1) := by decide +kernel
theorem dX5_wish_2 : decode cX5_wish 2 = .ok (.iload_n 2, 1) := by decide +kernel
theorem dX5_wish_3 : decode cX5_wish 3 = .ok (.iload_n 3, 1) := by decide +kernel
theorem dX5_wish_4 : decode cX5_wish 4 = .ok (.invokevirtual 184, 3) := by decide +kernel
theorem dX5_wish_7 : decode cX5_wish 7 = .ok (.istore 4, 2) := by decide +kernel
theorem dX5_wish_9 : decode cX5_wish 9 = .ok (.iload 4, 2) := by decide +kernel
theorem dX5_wish_11 : decode cX5_wish 11 = .ok (.ifCond .eq 8, 3) := by decide +kernel
theorem dX5_wish_14 : decode cX5_wish 14 = .ok (.iload 4, 2) := by decide +kernel
theorem dX5_wish_16 : decode cX5_wish 16 = .ok (.goto 13, 3) := by decide +kernel
theorem dX5_wish_19 : decode cX5_wish 19 = .ok (.aload_n 0, 1) := by decide +kernel
theorem dX5_wish_20 : decode cX5_wish 20 = .ok (.getfield 37, 3) := by decide +kernel
theorem dX5_wish_23 : decode cX5_wish 23 = .ok (.iload_n 1, 1) := by decide +kernel
theorem dX5_wish_24 : decode cX5_wish 24 = .ok (.iload_n 2, 1) := by decide +kernel
theorem dX5_wish_25 : decode cX5_wish 25 = .ok (.iload_n 3, 1) := by decide +kernel
theorem dX5_wish_26 : decode cX5_wish 26 = .ok (.invokevirtual 197, 3) := by decide +kernel
theorem dX5_wish_29 : decode cX5_wish 29 = .ok (.ireturn, 1) := by decide +kernel
set_option maxRecDepth 20000 in
theorem ggX5_drop_X3_clear : GoodIn wsX5_drop wsX3_clear := goodIn_r _ [5, 6, 20, 21, 22, 23] (by decide +kernel) (by decide +kernel)
set_option maxRecDepth 20000 in
theorem gX5_drop_X3_clear_n107 : GoodIn wsX5_drop (wsX3_clear) := ggX5_drop_X3_clear
theorem dX5_drop_0 : decode cX5_drop 0 = .ok (.aload_n 0, 1) := by decide +kernel
theorem dX5_drop_1 : decode cX5_drop 1 = .ok (.getfield 37, 3) := by decide +kernel
theorem dX5_drop_4 : decode cX5_drop 4 = .ok (.invokevirtual 107, 3) := by decide +kernel
theorem dX5_drop_7 : decode cX5_drop 7 = .ok (.ireturn, 1) := by decide +kernel
set_option maxRecDepth 20000 in
theorem ggX5_ways_X5_rowsThatFit : GoodIn wsX5_ways wsX5_rowsThatFit := goodIn_r _ [6, 7, 8, 9, 10, 11, 12, 13, 14, 15, 16, 17, 18, 19, 20, 21, 22, 23, 5, 24, 25, 26, 27, 28, 29, 30, 31, 32, 33, 34, 35, 36, 37, 38, 39, 40, 41, 42, 43, 44, 45, 46, 47, 48, 49, 50, 51, 52, 53, 54, 55, 56, 57, 58, 59, 60, 61, 62, 63, 64, 65, 66, 67, 68, 69, 70, 71, 72, 73, 74, 75, 76] (by decide +kernel) (by decide +kernel)
set_option maxRecDepth 20000 in
theorem gX5_ways_X5_rowsThatFit : GoodIn wsX5_ways (wsV RX5 200 RX5 yX5_rowsThatFit wsX5_rowsThatFit) := goodIn_app (goodIn_of _ (by decide +kernel)) ggX5_ways_X5_rowsThatFit
theorem dX5_ways_0 : decode cX5_ways 0 = .ok (.aload_n 0, 1) := by decide +kernel
theorem dX5_ways_1 : decode cX5_ways 1 = .ok (.aload_n 0, 1) := by decide +kernel
theorem dX5_ways_2 : decode cX5_ways 2 = .ok (.getfield 37, 3) := by decide +kernel
theorem dX5_ways_5 : decode cX5_ways 5 = .ok (.invokevirtual 200, 3) := by decide +kernel
theorem dX5_ways_8 : decode cX5_ways 8 = .ok (.ireturn, 1) := by decide +kernel
set_option maxRecDepth 20000 in
theorem ggX5_sum_X5_within : GoodIn wsX5_sum wsX5_within := goodIn_r _ [6] (by decide +kernel) (by decide +kernel)
set_option maxRecDepth 20000 in
theorem gX5_sum_X5_within : GoodIn wsX5_sum (va_wsS RX5 70 yX5_within wsX5_within) := goodIn_app (goodIn_of _ (by decide +kernel)) ggX5_sum_X5_within
set_option maxRecDepth 20000 in
theorem ggX5_sum_X5_tally : GoodIn wsX5_sum wsX5_tally := goodIn_r _ [10, 2, 11, 12, 13, 14, 15, 16, 17, 18, 19, 20, 5, 21, 22, 23, 24, 25, 26, 27, 28, 29, 30, 31, 32, 33, 34, 35, 36, 37, 38, 39, 40, 41, 42, 43, 44, 45, 46, 47, 48, 49, 50, 51, 52, 53, 54, 55, 56, 57, 58, 59, 60, 61, 62, 63, 64, 65, 66, 67, 68, 69, 70, 71, 72, 73, 74, 75, 76, 77, 78, 79, 80, 81, 82, 83, 84, 85, 86] (by decide +kernel) (by decide +kernel)
set_option maxRecDepth 20000 in
theorem gX5_sum_X5_tally : GoodIn wsX5_sum (wsV RX5 204 RX5 yX5_tally wsX5_tally) := goodIn_app (goodIn_of _ (by decide +kernel)) ggX5_sum_X5_tally
theorem dX5_sum_0 : decode cX5_sum 0 = .ok (.iload_n 1, 1) := by decide +kernel
theorem dX5_sum_1 : decode cX5_sum 1 = .ok (.iconst 1, 1) := by decide +kernel
theorem dX5_sum_2 : decode cX5_sum 2 = .ok (.bipush 99, 2) := by decide +kernel
theorem dX5_sum_4 : decode cX5_sum 4 = .ok (.invokestatic 70, 3) := by decide +kernel
theorem dX5_sum_7 : decode cX5_sum 7 = .ok (.ifCond .eq 12, 3) := by decide +kernel
theorem dX5_sum_10 : decode cX5_sum 10 = .ok (.iload_n 2, 1) := by decide +kernel
theorem dX5_sum_11 : decode cX5_sum 11 = .ok (.iconst 0, 1) := by decide +kernel
theorem dX5_sum_12 : decode cX5_sum 12 = .ok (.iconst 1, 1) := by decide +kernel
theorem dX5_sum_13 : decode cX5_sum 13 = .ok (.invokestatic 70, 3) := by decide +kernel
theorem dX5_sum_16 : decode cX5_sum 16 = .ok (.ifCond .ne 6, 3) := by decide +kernel
theorem dX5_sum_19 : decode cX5_sum 19 = .ok (.bipush (-3), 2) := by decide +kernel
theorem dX5_sum_21 : decode cX5_sum 21 = .ok (.ireturn, 1) := by decide +kernel
theorem dX5_sum_22 : decode cX5_sum 22 = .ok (.aload_n 0, 1) := by decide +kernel
theorem dX5_sum_23 : decode cX5_sum 23 = .ok (.aload_n 0, 1) := by decide +kernel
theorem dX5_sum_24 : decode cX5_sum 24 = .ok (.getfield 63, 3) := by decide +kernel
theorem dX5_sum_27 : decode cX5_sum 27 = .ok (.iload_n 1, 1) := by decide +kernel
theorem dX5_sum_28 : decode cX5_sum 28 = .ok (.aload_n 0, 1) := by decide +kernel
theorem dX5_sum_29 : decode cX5_sum 29 = .ok (.getfield 19, 3) := by decide +kernel
theorem dX5_sum_32 : decode cX5_sum 32 = .ok (.getfield 148, 3) := by decide +kernel
theorem dX5_sum_35 : decode cX5_sum 35 = .ok (.invokevirtual 204, 3) := by decide +kernel
theorem dX5_sum_38 : decode cX5_sum 38 = .ok (.iconst 0, 1) := by decide +kernel
theorem dX5_sum_39 : decode cX5_sum 39 = .ok (.istore_n 3, 1) := by decide +kernel
theorem dX5_sum_40 : decode cX5_sum 40 = .ok (.iconst 0, 1) := by decide +kernel
theorem dX5_sum_41 : decode cX5_sum 41 = .ok (.istore 4, 2) := by decide +kernel
theorem dX5_sum_43 : decode cX5_sum 43 = .ok (.iload 4, 2) := by decide +kernel
theorem dX5_sum_45 : decode cX5_sum 45 = .ok (.aload_n 0, 1) := by decide +kernel
theorem dX5_sum_46 : decode cX5_sum 46 = .ok (.getfield 19, 3) := by decide +kernel
theorem dX5_sum_49 : decode cX5_sum 49 = .ok (.getfield 91, 3) := by decide +kernel
theorem dX5_sum_52 : decode cX5_sum 52 = .ok (.if_icmp .ge 39, 3) := by decide +kernel
theorem dX5_sum_55 : decode cX5_sum 55 = .ok (.iload_n 3, 1) := by decide +kernel
theorem dX5_sum_56 : decode cX5_sum 56 = .ok (.iload_n 2, 1) := by decide +kernel
theorem dX5_sum_57 : decode cX5_sum 57 = .ok (.ifCond .ne 16, 3) := by decide +kernel
theorem dX5_sum_60 : decode cX5_sum 60 = .ok (.aload_n 0, 1) := by decide +kernel
theorem dX5_sum_61 : decode cX5_sum 61 = .ok (.getfield 63, 3) := by decide +kernel
theorem dX5_sum_64 : decode cX5_sum 64 = .ok (.getfield 208, 3) := by decide +kernel
theorem dX5_sum_67 : decode cX5_sum 67 = .ok (.iload 4, 2) := by decide +kernel
theorem dX5_sum_69 : decode cX5_sum 69 = .ok (.iaload, 1) := by decide +kernel
theorem dX5_sum_70 : decode cX5_sum 70 = .ok (.goto 13, 3) := by decide +kernel
theorem dX5_sum_73 : decode cX5_sum 73 = .ok (.aload_n 0, 1) := by decide +kernel
theorem dX5_sum_74 : decode cX5_sum 74 = .ok (.getfield 63, 3) := by decide +kernel
theorem dX5_sum_77 : decode cX5_sum 77 = .ok (.getfield 211, 3) := by decide +kernel
theorem dX5_sum_80 : decode cX5_sum 80 = .ok (.iload 4, 2) := by decide +kernel
theorem dX5_sum_82 : decode cX5_sum 82 = .ok (.iaload, 1) := by decide +kernel
theorem dX5_sum_83 : decode cX5_sum 83 = .ok (.iadd, 1) := by decide +kernel
theorem dX5_sum_84 : decode cX5_sum 84 = .ok (.istore_n 3, 1) := by decide +kernel
theorem dX5_sum_85 : decode cX5_sum 85 = .ok (.iinc 4 1, 3) := by decide +kernel
theorem dX5_sum_88 : decode cX5_sum 88 = .ok (.goto (-45), 3) := by decide +kernel
theorem dX5_sum_91 : decode cX5_sum 91 = .ok (.iload_n 3, 1) := by decide +kernel
theorem dX5_sum_92 : decode cX5_sum 92 = .ok (.ireturn, 1) := by decide +kernel
set_option maxRecDepth 20000 in
theorem ggX5_council_X5_within : GoodIn wsX5_council wsX5_within := goodIn_r _ [7] (by decide +kernel) (by decide +kernel)
set_option maxRecDepth 20000 in
theorem gX5_council_X5_within : GoodIn wsX5_council (va_wsS RX5 70 yX5_within wsX5_within) := goodIn_app (goodIn_of _ (by decide +kernel)) ggX5_council_X5_within
set_option maxRecDepth 20000 in
theorem ggX5_council_X5_tally : GoodIn wsX5_council wsX5_tally := goodIn_r _ [11, 3, 12, 13, 14, 15, 16, 17, 18, 19, 20, 21, 6, 22, 23, 24, 25, 26, 27, 28, 29, 30, 31, 32, 33, 34, 35, 36, 37, 38, 39, 40, 41, 42, 43, 44, 45, 46, 47, 48, 49, 50, 51, 52, 53, 54, 55, 56, 58, 59, 60, 61, 62, 63, 64, 65, 66, 67, 68, 69, 70, 71, 72, 73, 74, 75, 76, 77, 78, 79, 80, 81, 82, 83, 84, 85, 86, 87, 88] (by decide +kernel) (by decide +kernel)
set_option maxRecDepth 20000 in
theorem gX5_council_X5_tally : GoodIn wsX5_council (wsV RX5 204 RX5 yX5_tally wsX5_tally) := goodIn_app (goodIn_of _ (by decide +kernel)) ggX5_council_X5_tally
set_option maxRecDepth 20000 in
theorem ggX5_council_X5_has : GoodIn wsX5_council wsX5_has := goodIn_r _ [49] (by decide +kernel) (by decide +kernel)
set_option maxRecDepth 20000 in
theorem gX5_council_X5_has : GoodIn wsX5_council (va_wsS RX5 151 yX5_has wsX5_has) := goodIn_app (goodIn_of _ (by decide +kernel)) ggX5_council_X5_has
theorem dX5_council_0 : decode cX5_council 0 = .ok (.iload_n 1, 1) := by decide +kernel
theorem dX5_council_1 : decode cX5_council 1 = .ok (.iconst 1, 1) := by decide +kernel
theorem dX5_council_2 : decode cX5_council 2 = .ok (.bipush 99, 2) := by decide +kernel
theorem dX5_council_4 : decode cX5_council 4 = .ok (.invokestatic 70, 3) := by decide +kernel
theorem dX5_council_7 : decode cX5_council 7 = .ok (.ifCond .eq 23, 3) := by decide +kernel
theorem dX5_council_10 : decode cX5_council 10 = .ok (.iload_n 2, 1) := by decide +kernel
theorem dX5_council_11 : decode cX5_council 11 = .ok (.iconst 0, 1) := by decide +kernel
theorem dX5_council_12 : decode cX5_council 12 = .ok (.sipush 9999, 3) := by decide +kernel
theorem dX5_council_15 : decode cX5_council 15 = .ok (.invokestatic 70, 3) := by decide +kernel
theorem dX5_council_18 : decode cX5_council 18 = .ok (.ifCond .eq 12, 3) := by decide +kernel
theorem dX5_council_21 : decode cX5_council 21 = .ok (.iload_n 3, 1) := by decide +kernel
theorem dX5_council_22 : decode cX5_council 22 = .ok (.iconst 0, 1) := by decide +kernel
theorem dX5_council_23 : decode cX5_council 23 = .ok (.iconst 1, 1) := by decide +kernel
theorem dX5_council_24 : decode cX5_council 24 = .ok (.invokestatic 70, 3) := by decide +kernel
theorem dX5_council_27 : decode cX5_council 27 = .ok (.ifCond .ne 6, 3) := by decide +kernel
theorem dX5_council_30 : decode cX5_council 30 = .ok (.bipush (-3), 2) := by decide +kernel
theorem dX5_council_32 : decode cX5_council 32 = .ok (.ireturn, 1) := by decide +kernel
theorem dX5_council_33 : decode cX5_council 33 = .ok (.aload_n 0, 1) := by decide +kernel
theorem dX5_council_34 : decode cX5_council 34 = .ok (.aload_n 0, 1) := by decide +kernel
theorem dX5_council_35 : decode cX5_council 35 = .ok (.getfield 63, 3) := by decide +kernel
theorem dX5_council_38 : decode cX5_council 38 = .ok (.iload_n 1, 1) := by decide +kernel
theorem dX5_council_39 : decode cX5_council 39 = .ok (.iconst 0, 1) := by decide +kernel
theorem dX5_council_40 : decode cX5_council 40 = .ok (.invokevirtual 204, 3) := by decide +kernel
theorem dX5_council_43 : decode cX5_council 43 = .ok (.aload_n 0, 1) := by decide +kernel
theorem dX5_council_44 : decode cX5_council 44 = .ok (.aload_n 0, 1) := by decide +kernel
theorem dX5_council_45 : decode cX5_council 45 = .ok (.getfield 67, 3) := by decide +kernel
theorem dX5_council_48 : decode cX5_council 48 = .ok (.iload_n 1, 1) := by decide +kernel
theorem dX5_council_49 : decode cX5_council 49 = .ok (.bipush 63, 2) := by decide +kernel
theorem dX5_council_51 : decode cX5_council 51 = .ok (.invokevirtual 204, 3) := by decide +kernel
theorem dX5_council_54 : decode cX5_council 54 = .ok (.iconst (-1), 1) := by decide +kernel
theorem dX5_council_55 : decode cX5_council 55 = .ok (.istore 4, 2) := by decide +kernel
theorem dX5_council_57 : decode cX5_council 57 = .ok (.iconst (-1), 1) := by decide +kernel
theorem dX5_council_58 : decode cX5_council 58 = .ok (.istore 5, 2) := by decide +kernel
theorem dX5_council_60 : decode cX5_council 60 = .ok (.iconst 0, 1) := by decide +kernel
theorem dX5_council_61 : decode cX5_council 61 = .ok (.istore 6, 2) := by decide +kernel
theorem dX5_council_63 : decode cX5_council 63 = .ok (.iload 6, 2) := by decide +kernel
theorem dX5_council_65 : decode cX5_council 65 = .ok (.iconst 1, 1) := by decide +kernel
theorem dX5_council_66 : decode cX5_council 66 = .ok (.aload_n 0, 1) := by decide +kernel
theorem dX5_council_67 : decode cX5_council 67 = .ok (.getfield 19, 3) := by decide +kernel
theorem dX5_council_70 : decode cX5_council 70 = .ok (.getfield 91, 3) := by decide +kernel
theorem dX5_council_73 : decode cX5_council 73 = .ok (.ishl, 1) := by decide +kernel
theorem dX5_council_74 : decode cX5_council 74 = .ok (.if_icmp .ge 106, 3) := by decide +kernel
theorem dX5_council_77 : decode cX5_council 77 = .ok (.iconst 0, 1) := by decide +kernel
theorem dX5_council_78 : decode cX5_council 78 = .ok (.istore 7, 2) := by decide +kernel
theorem dX5_council_80 : decode cX5_council 80 = .ok (.iconst 0, 1) := by decide +kernel
theorem dX5_council_81 : decode cX5_council 81 = .ok (.istore 8, 2) := by decide +kernel
theorem dX5_council_83 : decode cX5_council 83 = .ok (.iconst 0, 1) := by decide +kernel
theorem dX5_council_84 : decode cX5_council 84 = .ok (.istore 9, 2) := by decide +kernel
theorem dX5_council_86 : decode cX5_council 86 = .ok (.iload 9, 2) := by decide +kernel
theorem dX5_council_88 : decode cX5_council 88 = .ok (.aload_n 0, 1) := by decide +kernel
theorem dX5_council_89 : decode cX5_council 89 = .ok (.getfield 19, 3) := by decide +kernel
theorem dX5_council_92 : decode cX5_council 92 = .ok (.getfield 91, 3) := by decide +kernel
theorem dX5_council_95 : decode cX5_council 95 = .ok (.if_icmp .ge 58, 3) := by decide +kernel
theorem dX5_council_98 : decode cX5_council 98 = .ok (.iload 6, 2) := by decide +kernel
theorem dX5_council_100 : decode cX5_council 100 = .ok (.iload 9, 2) := by decide +kernel
theorem dX5_council_102 : decode cX5_council 102 = .ok (.invokestatic 151, 3) := by decide +kernel
theorem dX5_council_105 : decode cX5_council 105 = .ok (.ifCond .eq 10, 3) := by decide +kernel
theorem dX5_council_108 : decode cX5_council 108 = .ok (.aload_n 0, 1) := by decide +kernel
theorem dX5_council_109 : decode cX5_council 109 = .ok (.getfield 67, 3) := by decide +kernel
theorem dX5_council_112 : decode cX5_council 112 = .ok (.goto 7, 3) := by decide +kernel
theorem dX5_council_115 : decode cX5_council 115 = .ok (.aload_n 0, 1) := by decide +kernel
theorem dX5_council_116 : decode cX5_council 116 = .ok (.getfield 63, 3) := by decide +kernel
theorem dX5_council_119 : decode cX5_council 119 = .ok (.astore 10, 2) := by decide +kernel
theorem dX5_council_121 : decode cX5_council 121 = .ok (.iload 7, 2) := by decide +kernel
theorem dX5_council_123 : decode cX5_council 123 = .ok (.aload 10, 2) := by decide +kernel
theorem dX5_council_125 : decode cX5_council 125 = .ok (.getfield 208, 3) := by decide +kernel
theorem dX5_council_128 : decode cX5_council 128 = .ok (.iload 9, 2) := by decide +kernel
theorem dX5_council_130 : decode cX5_council 130 = .ok (.iaload, 1) := by decide +kernel
theorem dX5_council_131 : decode cX5_council 131 = .ok (.iadd, 1) := by decide +kernel
theorem dX5_council_132 : decode cX5_council 132 = .ok (.istore 7, 2) := by decide +kernel
theorem dX5_council_134 : decode cX5_council 134 = .ok (.iload 8, 2) := by decide +kernel
theorem dX5_council_136 : decode cX5_council 136 = .ok (.aload 10, 2) := by decide +kernel
theorem dX5_council_138 : decode cX5_council 138 = .ok (.getfield 211, 3) := by decide +kernel
theorem dX5_council_141 : decode cX5_council 141 = .ok (.iload 9, 2) := by decide +kernel
theorem dX5_council_143 : decode cX5_council 143 = .ok (.iaload, 1) := by decide +kernel
theorem dX5_council_144 : decode cX5_council 144 = .ok (.iadd, 1) := by decide +kernel
theorem dX5_council_145 : decode cX5_council 145 = .ok (.istore 8, 2) := by decide +kernel
theorem dX5_council_147 : decode cX5_council 147 = .ok (.iinc 9 1, 3) := by decide +kernel
theorem dX5_council_150 : decode cX5_council 150 = .ok (.goto (-64), 3) := by decide +kernel
theorem dX5_council_153 : decode cX5_council 153 = .ok (.iload 8, 2) := by decide +kernel
theorem dX5_council_155 : decode cX5_council 155 = .ok (.iload_n 2, 1) := by decide +kernel
theorem dX5_council_156 : decode cX5_council 156 = .ok (.if_icmp .gt 18, 3) := by decide +kernel
theorem dX5_council_159 : decode cX5_council 159 = .ok (.iload 7, 2) := by decide +kernel
theorem dX5_council_161 : decode cX5_council 161 = .ok (.iload 4, 2) := by decide +kernel
theorem dX5_council_163 : decode cX5_council 163 = .ok (.if_icmp .le 11, 3) := by decide +kernel
theorem dX5_council_166 : decode cX5_council 166 = .ok (.iload 7, 2) := by decide +kernel
theorem dX5_council_168 : decode cX5_council 168 = .ok (.istore 4, 2) := by decide +kernel
theorem dX5_council_170 : decode cX5_council 170 = .ok (.iload 6, 2) := by decide +kernel
theorem dX5_council_172 : decode cX5_council 172 = .ok (.istore 5, 2) := by decide +kernel
theorem dX5_council_174 : decode cX5_council 174 = .ok (.iinc 6 1, 3) := by decide +kernel
theorem dX5_council_177 : decode cX5_council 177 = .ok (.goto (-114), 3) := by decide +kernel
theorem dX5_council_180 : decode cX5_council 180 = .ok (.iload_n 3, 1) := by decide +kernel
theorem dX5_council_181 : decode cX5_council 181 = .ok (.ifCond .ne 8, 3) := by decide +kernel
theorem dX5_council_184 : decode cX5_council 184 = .ok (.iload 5, 2) := by decide +kernel
theorem dX5_council_186 : decode cX5_council 186 = .ok (.goto 5, 3) := by decide +kernel
theorem dX5_council_189 : decode cX5_council 189 = .ok (.iload 4, 2) := by decide +kernel
theorem dX5_council_191 : decode cX5_council 191 = .ok (.ireturn, 1) := by decide +kernel
set_option maxRecDepth 20000 in
theorem ggX5_idle_X4_hasHouse : GoodIn wsX5_idle wsX4_hasHouse := goodIn_r _ [11, 12, 13, 14, 15, 59, 60, 61, 62, 63, 64, 65, 66, 67, 68, 69, 70] (by decide +kernel) (by decide +kernel)
set_option maxRecDepth 20000 in
theorem gX5_idle_X4_hasHouse_n114 : GoodIn wsX5_idle (wsX4_hasHouse) := ggX5_idle_X4_hasHouse
set_option maxRecDepth 20000 in
theorem ggX5_idle_X5_within : GoodIn wsX5_idle wsX5_within := goodIn_r _ [15] (by decide +kernel) (by decide +kernel)
set_option maxRecDepth 20000 in
theorem gX5_idle_X5_within : GoodIn wsX5_idle (va_wsS RX5 70 yX5_within wsX5_within) := goodIn_app (goodIn_of _ (by decide +kernel)) ggX5_idle_X5_within
set_option maxRecDepth 20000 in
theorem ggX5_idle_X5_foresee : GoodIn wsX5_idle wsX5_foresee := goodIn_r _ [20, 21, 2, 4, 5, 6, 7, 1, 22, 9, 23, 24, 12, 25, 26, 27, 28, 29, 30, 31, 32, 33, 34, 35, 36, 37, 38, 39, 40, 14, 41, 42, 43, 44, 45, 46, 47, 48, 49, 50, 51, 52, 53, 54, 55, 56, 57, 58, 71, 72, 73, 74, 59, 60, 61, 62, 63, 64, 65, 66, 67, 68, 69, 70] (by decide +kernel) (by decide +kernel)
set_option maxRecDepth 20000 in
theorem gX5_idle_X5_foresee : GoodIn wsX5_idle (wsV RX5 178 RX5 yX5_foresee wsX5_foresee) := goodIn_app (goodIn_of _ (by decide +kernel)) ggX5_idle_X5_foresee
set_option maxRecDepth 20000 in
theorem ggX5_idle_X4_passDay : GoodIn wsX5_idle wsX4_passDay := goodIn_r _ [24, 12, 25, 26, 5, 6, 7, 27, 28, 29, 9, 30, 31, 32, 33, 34, 35, 36, 37, 38, 39, 40, 14, 41, 42, 43, 44, 45, 59, 60, 61, 62, 63, 64, 65, 66, 67, 68, 69, 70] (by decide +kernel) (by decide +kernel)
set_option maxRecDepth 20000 in
theorem gX5_idle_X4_passDay_n174 : GoodIn wsX5_idle (wsX4_passDay) := ggX5_idle_X4_passDay
theorem dX5_idle_0 : decode cX5_idle 0 = .ok (.aload_n 0, 1) := by decide +kernel
theorem dX5_idle_1 : decode cX5_idle 1 = .ok (.getfield 19, 3) := by decide +kernel
theorem dX5_idle_4 : decode cX5_idle 4 = .ok (.iload_n 1, 1) := by decide +kernel
theorem dX5_idle_5 : decode cX5_idle 5 = .ok (.invokevirtual 114, 3) := by decide +kernel
theorem dX5_idle_8 : decode cX5_idle 8 = .ok (.ifCond .ne 6, 3) := by decide +kernel
theorem dX5_idle_11 : decode cX5_idle 11 = .ok (.bipush (-2), 2) := by decide +kernel
theorem dX5_idle_13 : decode cX5_idle 13 = .ok (.ireturn, 1) := by decide +kernel
theorem dX5_idle_14 : decode cX5_idle 14 = .ok (.iload_n 2, 1) := by decide +kernel
theorem dX5_idle_15 : decode cX5_idle 15 = .ok (.iconst 0, 1) := by decide +kernel
theorem dX5_idle_16 : decode cX5_idle 16 = .ok (.bipush 99, 2) := by decide +kernel
theorem dX5_idle_18 : decode cX5_idle 18 = .ok (.invokestatic 70, 3) := by decide +kernel
theorem dX5_idle_21 : decode cX5_idle 21 = .ok (.ifCond .eq 13, 3) := by decide +kernel
theorem dX5_idle_24 : decode cX5_idle 24 = .ok (.iload_n 3, 1) := by decide +kernel
theorem dX5_idle_25 : decode cX5_idle 25 = .ok (.iconst 0, 1) := by decide +kernel
theorem dX5_idle_26 : decode cX5_idle 26 = .ok (.bipush 99, 2) := by decide +kernel
theorem dX5_idle_28 : decode cX5_idle 28 = .ok (.invokestatic 70, 3) := by decide +kernel
theorem dX5_idle_31 : decode cX5_idle 31 = .ok (.ifCond .ne 6, 3) := by decide +kernel
theorem dX5_idle_34 : decode cX5_idle 34 = .ok (.bipush (-3), 2) := by decide +kernel
theorem dX5_idle_36 : decode cX5_idle 36 = .ok (.ireturn, 1) := by decide +kernel
theorem dX5_idle_37 : decode cX5_idle 37 = .ok (.aload_n 0, 1) := by decide +kernel
theorem dX5_idle_38 : decode cX5_idle 38 = .ok (.iload_n 2, 1) := by decide +kernel
theorem dX5_idle_39 : decode cX5_idle 39 = .ok (.invokevirtual 178, 3) := by decide +kernel
theorem dX5_idle_42 : decode cX5_idle 42 = .ok (.aload_n 0, 1) := by decide +kernel
theorem dX5_idle_43 : decode cX5_idle 43 = .ok (.getfield 44, 3) := by decide +kernel
theorem dX5_idle_46 : decode cX5_idle 46 = .ok (.iconst 0, 1) := by decide +kernel
theorem dX5_idle_47 : decode cX5_idle 47 = .ok (.aload_n 0, 1) := by decide +kernel
theorem dX5_idle_48 : decode cX5_idle 48 = .ok (.getfield 48, 3) := by decide +kernel
theorem dX5_idle_51 : decode cX5_idle 51 = .ok (.iconst 0, 1) := by decide +kernel
theorem dX5_idle_52 : decode cX5_idle 52 = .ok (.bipush 8, 2) := by decide +kernel
theorem dX5_idle_54 : decode cX5_idle 54 = .ok (.invokestatic 214, 3) := by decide +kernel
theorem dX5_idle_57 : decode cX5_idle 57 = .ok (.aload_n 0, 1) := by decide +kernel
theorem dX5_idle_58 : decode cX5_idle 58 = .ok (.getfield 48, 3) := by decide +kernel
theorem dX5_idle_61 : decode cX5_idle 61 = .ok (.iload_n 1, 1) := by decide +kernel
theorem dX5_idle_62 : decode cX5_idle 62 = .ok (.iconst (-1), 1) := by decide +kernel
theorem dX5_idle_63 : decode cX5_idle 63 = .ok (.iastore, 1) := by decide +kernel
theorem dX5_idle_64 : decode cX5_idle 64 = .ok (.iconst 0, 1) := by decide +kernel
theorem dX5_idle_65 : decode cX5_idle 65 = .ok (.istore 4, 2) := by decide +kernel
theorem dX5_idle_67 : decode cX5_idle 67 = .ok (.iload 4, 2) := by decide +kernel
theorem dX5_idle_69 : decode cX5_idle 69 = .ok (.iload_n 3, 1) := by decide +kernel
theorem dX5_idle_70 : decode cX5_idle 70 = .ok (.if_icmp .ge 45, 3) := by decide +kernel
theorem dX5_idle_73 : decode cX5_idle 73 = .ok (.aload_n 0, 1) := by decide +kernel
theorem dX5_idle_74 : decode cX5_idle 74 = .ok (.getfield 19, 3) := by decide +kernel
theorem dX5_idle_77 : decode cX5_idle 77 = .ok (.aload_n 0, 1) := by decide +kernel
theorem dX5_idle_78 : decode cX5_idle 78 = .ok (.getfield 44, 3) := by decide +kernel
theorem dX5_idle_81 : decode cX5_idle 81 = .ok (.aload_n 0, 1) := by decide +kernel
theorem dX5_idle_82 : decode cX5_idle 82 = .ok (.getfield 19, 3) := by decide +kernel
theorem dX5_idle_85 : decode cX5_idle 85 = .ok (.getfield 148, 3) := by decide +kernel
theorem dX5_idle_88 : decode cX5_idle 88 = .ok (.invokevirtual 174, 3) := by decide +kernel
theorem dX5_idle_91 : decode cX5_idle 91 = .ok (.aload_n 0, 1) := by decide +kernel
theorem dX5_idle_92 : decode cX5_idle 92 = .ok (.getfield 19, 3) := by decide +kernel
theorem dX5_idle_95 : decode cX5_idle 95 = .ok (.aload_n 0, 1) := by decide +kernel
theorem dX5_idle_96 : decode cX5_idle 96 = .ok (.getfield 48, 3) := by decide +kernel
theorem dX5_idle_99 : decode cX5_idle 99 = .ok (.aload_n 0, 1) := by decide +kernel
theorem dX5_idle_100 : decode cX5_idle 100 = .ok (.getfield 19, 3) := by decide +kernel
theorem dX5_idle_103 : decode cX5_idle 103 = .ok (.getfield 148, 3) := by decide +kernel
theorem dX5_idle_106 : decode cX5_idle 106 = .ok (.invokevirtual 174, 3) := by decide +kernel
theorem dX5_idle_109 : decode cX5_idle 109 = .ok (.iinc 4 1, 3) := by decide +kernel
theorem dX5_idle_112 : decode cX5_idle 112 = .ok (.goto (-45), 3) := by decide +kernel
theorem dX5_idle_115 : decode cX5_idle 115 = .ok (.iconst 0, 1) := by decide +kernel
theorem dX5_idle_116 : decode cX5_idle 116 = .ok (.istore 4, 2) := by decide +kernel
theorem dX5_idle_118 : decode cX5_idle 118 = .ok (.iconst 0, 1) := by decide +kernel
theorem dX5_idle_119 : decode cX5_idle 119 = .ok (.istore 5, 2) := by decide +kernel
theorem dX5_idle_121 : decode cX5_idle 121 = .ok (.iload 5, 2) := by decide +kernel
theorem dX5_idle_123 : decode cX5_idle 123 = .ok (.aload_n 0, 1) := by decide +kernel
theorem dX5_idle_124 : decode cX5_idle 124 = .ok (.getfield 19, 3) := by decide +kernel
theorem dX5_idle_127 : decode cX5_idle 127 = .ok (.getfield 88, 3) := by decide +kernel
theorem dX5_idle_130 : decode cX5_idle 130 = .ok (.if_icmp .ge 35, 3) := by decide +kernel
theorem dX5_idle_133 : decode cX5_idle 133 = .ok (.aload_n 0, 1) := by decide +kernel
theorem dX5_idle_134 : decode cX5_idle 134 = .ok (.getfield 44, 3) := by decide +kernel
theorem dX5_idle_137 : decode cX5_idle 137 = .ok (.iload 5, 2) := by decide +kernel
theorem dX5_idle_139 : decode cX5_idle 139 = .ok (.iaload, 1) := by decide +kernel
theorem dX5_idle_140 : decode cX5_idle 140 = .ok (.aload_n 0, 1) := by decide +kernel
theorem dX5_idle_141 : decode cX5_idle 141 = .ok (.getfield 48, 3) := by decide +kernel
theorem dX5_idle_144 : decode cX5_idle 144 = .ok (.iload 5, 2) := by decide +kernel
theorem dX5_idle_146 : decode cX5_idle 146 = .ok (.iaload, 1) := by decide +kernel
theorem dX5_idle_147 : decode cX5_idle 147 = .ok (.if_icmp .eq 12, 3) := by decide +kernel
theorem dX5_idle_150 : decode cX5_idle 150 = .ok (.iload 4, 2) := by decide +kernel
theorem dX5_idle_152 : decode cX5_idle 152 = .ok (.iconst 1, 1) := by decide +kernel
theorem dX5_idle_153 : decode cX5_idle 153 = .ok (.iload 5, 2) := by decide +kernel
theorem dX5_idle_155 : decode cX5_idle 155 = .ok (.ishl, 1) := by decide +kernel
theorem dX5_idle_156 : decode cX5_idle 156 = .ok (.ior, 1) := by decide +kernel
theorem dX5_idle_157 : decode cX5_idle 157 = .ok (.istore 4, 2) := by decide +kernel
theorem dX5_idle_159 : decode cX5_idle 159 = .ok (.iinc 5 1, 3) := by decide +kernel
theorem dX5_idle_162 : decode cX5_idle 162 = .ok (.goto (-41), 3) := by decide +kernel
theorem dX5_idle_165 : decode cX5_idle 165 = .ok (.iload 4, 2) := by decide +kernel
theorem dX5_idle_167 : decode cX5_idle 167 = .ok (.ireturn, 1) := by decide +kernel
set_option maxRecDepth 20000 in
theorem ggX5_odds_X4_hasHouse : GoodIn wsX5_odds wsX4_hasHouse := goodIn_r _ [8, 9, 10, 11, 12, 63, 64, 65, 66, 67, 68, 69, 70, 71, 72, 73, 74] (by decide +kernel) (by decide +kernel)
set_option maxRecDepth 20000 in
theorem gX5_odds_X4_hasHouse_n114 : GoodIn wsX5_odds (wsX4_hasHouse) := ggX5_odds_X4_hasHouse
set_option maxRecDepth 20000 in
theorem ggX5_odds_X5_within : GoodIn wsX5_odds wsX5_within := goodIn_r _ [12] (by decide +kernel) (by decide +kernel)
set_option maxRecDepth 20000 in
theorem gX5_odds_X5_within : GoodIn wsX5_odds (va_wsS RX5 70 yX5_within wsX5_within) := goodIn_app (goodIn_of _ (by decide +kernel)) ggX5_odds_X5_within
set_option maxRecDepth 20000 in
theorem ggX5_odds_X5_foresee : GoodIn wsX5_odds wsX5_foresee := goodIn_r _ [17, 18, 4, 19, 20, 21, 22, 1, 23, 6, 24, 25, 9, 26, 27, 28, 29, 30, 31, 32, 33, 34, 35, 36, 37, 38, 39, 40, 41, 11, 42, 43, 44, 45, 46, 50, 51, 52, 53, 54, 55, 56, 57, 58, 59, 60, 61, 62, 75, 76, 77, 78, 63, 64, 65, 66, 67, 68, 69, 70, 71, 72, 73, 74] (by decide +kernel) (by decide +kernel)
set_option maxRecDepth 20000 in
theorem gX5_odds_X5_foresee : GoodIn wsX5_odds (wsV RX5 178 RX5 yX5_foresee wsX5_foresee) := goodIn_app (goodIn_of _ (by decide +kernel)) ggX5_odds_X5_foresee
set_option maxRecDepth 20000 in
theorem ggX5_odds_X5_power : GoodIn wsX5_odds wsX5_power := goodIn_r _ [49] (by decide +kernel) (by decide +kernel)
set_option maxRecDepth 20000 in
theorem gX5_odds_X5_power : GoodIn wsX5_odds (va_wsS RX5 224 yX5_power wsX5_power) := goodIn_app (goodIn_of _ (by decide +kernel)) ggX5_odds_X5_power
theorem dX5_odds_0 : decode cX5_odds 0 = .ok (.aload_n 0, 1) := by decide +kernel
theorem dX5_odds_1 : decode cX5_odds 1 = .ok (.getfield 19, 3) := by decide +kernel
theorem dX5_odds_4 : decode cX5_odds 4 = .ok (.iload_n 1, 1) := by decide +kernel
theorem dX5_odds_5 : decode cX5_odds 5 = .ok (.invokevirtual 114, 3) := by decide +kernel
theorem dX5_odds_8 : decode cX5_odds 8 = .ok (.ifCond .ne 7, 3) := by decide +kernel
theorem dX5_odds_11 : decode cX5_odds 11 = .ok (.ldc2_w 220, 3) := by decide +kernel
theorem dX5_odds_14 : decode cX5_odds 14 = .ok (.lreturn, 1) := by decide +kernel
theorem dX5_odds_15 : decode cX5_odds 15 = .ok (.iload_n 2, 1) := by decide +kernel
theorem dX5_odds_16 : decode cX5_odds 16 = .ok (.iconst 0, 1) := by decide +kernel
theorem dX5_odds_17 : decode cX5_odds 17 = .ok (.bipush 9, 2) := by decide +kernel
theorem dX5_odds_19 : decode cX5_odds 19 = .ok (.invokestatic 70, 3) := by decide +kernel
theorem dX5_odds_22 : decode cX5_odds 22 = .ok (.ifCond .eq 23, 3) := by decide +kernel
theorem dX5_odds_25 : decode cX5_odds 25 = .ok (.iload_n 3, 1) := by decide +kernel
theorem dX5_odds_26 : decode cX5_odds 26 = .ok (.iconst 0, 1) := by decide +kernel
theorem dX5_odds_27 : decode cX5_odds 27 = .ok (.bipush 10, 2) := by decide +kernel
theorem dX5_odds_29 : decode cX5_odds 29 = .ok (.invokestatic 70, 3) := by decide +kernel
theorem dX5_odds_32 : decode cX5_odds 32 = .ok (.ifCond .eq 13, 3) := by decide +kernel
theorem dX5_odds_35 : decode cX5_odds 35 = .ok (.iload 4, 2) := by decide +kernel
theorem dX5_odds_37 : decode cX5_odds 37 = .ok (.iconst 0, 1) := by decide +kernel
theorem dX5_odds_38 : decode cX5_odds 38 = .ok (.iconst 1, 1) := by decide +kernel
theorem dX5_odds_39 : decode cX5_odds 39 = .ok (.invokestatic 70, 3) := by decide +kernel
theorem dX5_odds_42 : decode cX5_odds 42 = .ok (.ifCond .ne 7, 3) := by decide +kernel
theorem dX5_odds_45 : decode cX5_odds 45 = .ok (.ldc2_w 222, 3) := by decide +kernel
theorem dX5_odds_48 : decode cX5_odds 48 = .ok (.lreturn, 1) := by decide +kernel
theorem dX5_odds_49 : decode cX5_odds 49 = .ok (.aload_n 0, 1) := by decide +kernel
theorem dX5_odds_50 : decode cX5_odds 50 = .ok (.iload_n 2, 1) := by decide +kernel
theorem dX5_odds_51 : decode cX5_odds 51 = .ok (.invokevirtual 178, 3) := by decide +kernel
theorem dX5_odds_54 : decode cX5_odds 54 = .ok (.aload_n 0, 1) := by decide +kernel
theorem dX5_odds_55 : decode cX5_odds 55 = .ok (.getfield 44, 3) := by decide +kernel
theorem dX5_odds_58 : decode cX5_odds 58 = .ok (.iload_n 1, 1) := by decide +kernel
theorem dX5_odds_59 : decode cX5_odds 59 = .ok (.iaload, 1) := by decide +kernel
theorem dX5_odds_60 : decode cX5_odds 60 = .ok (.iconst (-1), 1) := by decide +kernel
theorem dX5_odds_61 : decode cX5_odds 61 = .ok (.if_icmp .ne 7, 3) := by decide +kernel
theorem dX5_odds_64 : decode cX5_odds 64 = .ok (.iconst 0, 1) := by decide +kernel
theorem dX5_odds_65 : decode cX5_odds 65 = .ok (.goto 7, 3) := by decide +kernel
theorem dX5_odds_68 : decode cX5_odds 68 = .ok (.bipush 10, 2) := by decide +kernel
theorem dX5_odds_70 : decode cX5_odds 70 = .ok (.iload_n 3, 1) := by decide +kernel
theorem dX5_odds_71 : decode cX5_odds 71 = .ok (.isub, 1) := by decide +kernel
theorem dX5_odds_72 : decode cX5_odds 72 = .ok (.istore 5, 2) := by decide +kernel
theorem dX5_odds_74 : decode cX5_odds 74 = .ok (.bipush 10, 2) := by decide +kernel
theorem dX5_odds_76 : decode cX5_odds 76 = .ok (.istore 6, 2) := by decide +kernel
theorem dX5_odds_78 : decode cX5_odds 78 = .ok (.iload 5, 2) := by decide +kernel
theorem dX5_odds_80 : decode cX5_odds 80 = .ok (.iconst 2, 1) := by decide +kernel
theorem dX5_odds_81 : decode cX5_odds 81 = .ok (.irem, 1) := by decide +kernel
theorem dX5_odds_82 : decode cX5_odds 82 = .ok (.ifCond .ne 15, 3) := by decide +kernel
theorem dX5_odds_85 : decode cX5_odds 85 = .ok (.iload 5, 2) := by decide +kernel
theorem dX5_odds_87 : decode cX5_odds 87 = .ok (.iconst 2, 1) := by decide +kernel
theorem dX5_odds_88 : decode cX5_odds 88 = .ok (.idiv, 1) := by decide +kernel
theorem dX5_odds_89 : decode cX5_odds 89 = .ok (.istore 5, 2) := by decide +kernel
theorem dX5_odds_91 : decode cX5_odds 91 = .ok (.iload 6, 2) := by decide +kernel
theorem dX5_odds_93 : decode cX5_odds 93 = .ok (.iconst 2, 1) := by decide +kernel
theorem dX5_odds_94 : decode cX5_odds 94 = .ok (.idiv, 1) := by decide +kernel
theorem dX5_odds_95 : decode cX5_odds 95 = .ok (.istore 6, 2) := by decide +kernel
theorem dX5_odds_97 : decode cX5_odds 97 = .ok (.iload 5, 2) := by decide +kernel
theorem dX5_odds_99 : decode cX5_odds 99 = .ok (.iconst 5, 1) := by decide +kernel
theorem dX5_odds_100 : decode cX5_odds 100 = .ok (.irem, 1) := by decide +kernel
theorem dX5_odds_101 : decode cX5_odds 101 = .ok (.ifCond .ne 15, 3) := by decide +kernel
theorem dX5_odds_104 : decode cX5_odds 104 = .ok (.iload 5, 2) := by decide +kernel
theorem dX5_odds_106 : decode cX5_odds 106 = .ok (.iconst 5, 1) := by decide +kernel
theorem dX5_odds_107 : decode cX5_odds 107 = .ok (.idiv, 1) := by decide +kernel
theorem dX5_odds_108 : decode cX5_odds 108 = .ok (.istore 5, 2) := by decide +kernel
theorem dX5_odds_110 : decode cX5_odds 110 = .ok (.iload 6, 2) := by decide +kernel
theorem dX5_odds_112 : decode cX5_odds 112 = .ok (.iconst 5, 1) := by decide +kernel
theorem dX5_odds_113 : decode cX5_odds 113 = .ok (.idiv, 1) := by decide +kernel
theorem dX5_odds_114 : decode cX5_odds 114 = .ok (.istore 6, 2) := by decide +kernel
theorem dX5_odds_116 : decode cX5_odds 116 = .ok (.iload 4, 2) := by decide +kernel
theorem dX5_odds_118 : decode cX5_odds 118 = .ok (.ifCond .ne 9, 3) := by decide +kernel
theorem dX5_odds_121 : decode cX5_odds 121 = .ok (.iload 5, 2) := by decide +kernel
theorem dX5_odds_123 : decode cX5_odds 123 = .ok (.i2l, 1) := by decide +kernel
theorem dX5_odds_124 : decode cX5_odds 124 = .ok (.goto 6, 3) := by decide +kernel
theorem dX5_odds_127 : decode cX5_odds 127 = .ok (.iload 6, 2) := by decide +kernel
theorem dX5_odds_129 : decode cX5_odds 129 = .ok (.i2l, 1) := by decide +kernel
theorem dX5_odds_130 : decode cX5_odds 130 = .ok (.iload_n 2, 1) := by decide +kernel
theorem dX5_odds_131 : decode cX5_odds 131 = .ok (.iconst 1, 1) := by decide +kernel
theorem dX5_odds_132 : decode cX5_odds 132 = .ok (.iadd, 1) := by decide +kernel
theorem dX5_odds_133 : decode cX5_odds 133 = .ok (.invokestatic 224, 3) := by decide +kernel
theorem dX5_odds_136 : decode cX5_odds 136 = .ok (.lreturn, 1) := by decide +kernel
set_option maxRecDepth 20000 in
theorem ggX5_pair_X4_hasHouse : GoodIn wsX5_pair wsX4_hasHouse := goodIn_r _ [6, 7, 8, 9, 10, 58, 59, 60, 61, 62, 63, 64, 65, 66, 67, 68, 69] (by decide +kernel) (by decide +kernel)
set_option maxRecDepth 20000 in
theorem gX5_pair_X4_hasHouse_n114 : GoodIn wsX5_pair (wsX4_hasHouse) := ggX5_pair_X4_hasHouse
set_option maxRecDepth 20000 in
theorem ggX5_pair_X5_likeBest : GoodIn wsX5_pair wsX5_likeBest := goodIn_r _ [14, 2, 1, 15, 16, 17, 18, 19, 20, 21, 22, 23, 24, 25, 26, 27, 28, 29, 30, 31, 9, 32, 33, 34, 35, 36, 45, 46, 47, 48, 49, 50, 51, 52, 53, 54, 55, 56, 57, 58, 59, 60, 61, 62, 63, 64, 65, 66, 67, 68, 69] (by decide +kernel) (by decide +kernel)
set_option maxRecDepth 20000 in
theorem gX5_pair_X5_likeBest : GoodIn wsX5_pair (wsV RX5 228 RX5 yX5_likeBest wsX5_likeBest) := goodIn_app (goodIn_of _ (by decide +kernel)) ggX5_pair_X5_likeBest
set_option maxRecDepth 20000 in
theorem ggX5_pair_X5_bestPartner : GoodIn wsX5_pair wsX5_bestPartner := goodIn_r _ [40, 1, 30, 31, 9, 32, 41, 42, 43, 44, 2, 33, 34, 35, 36, 45, 46, 47, 48, 49, 50, 51, 52, 53, 54, 55, 56, 57, 58, 59, 60, 61, 62, 63, 64, 65, 66, 67, 68, 69] (by decide +kernel) (by decide +kernel)
set_option maxRecDepth 20000 in
theorem gX5_pair_X5_bestPartner : GoodIn wsX5_pair (wsV RX5 231 RX5 yX5_bestPartner wsX5_bestPartner) := goodIn_app (goodIn_of _ (by decide +kernel)) ggX5_pair_X5_bestPartner
theorem dX5_pair_0 : decode cX5_pair 0 = .ok (.iload_n 1, 1) := by decide +kernel
theorem dX5_pair_1 : decode cX5_pair 1 = .ok (.iconst (-1), 1) := by decide +kernel
theorem dX5_pair_2 : decode cX5_pair 2 = .ok (.if_icmp .eq 17, 3) := by decide +kernel
theorem dX5_pair_5 : decode cX5_pair 5 = .ok (.aload_n 0, 1) := by decide +kernel
theorem dX5_pair_6 : decode cX5_pair 6 = .ok (.getfield 19, 3) := by decide +kernel
theorem dX5_pair_9 : decode cX5_pair 9 = .ok (.iload_n 1, 1) := by decide +kernel
theorem dX5_pair_10 : decode cX5_pair 10 = .ok (.invokevirtual 114, 3) := by decide +kernel
theorem dX5_pair_13 : decode cX5_pair 13 = .ok (.ifCond .ne 6, 3) := by decide +kernel
theorem dX5_pair_16 : decode cX5_pair 16 = .ok (.bipush (-2), 2) := by decide +kernel
theorem dX5_pair_18 : decode cX5_pair 18 = .ok (.ireturn, 1) := by decide +kernel
theorem dX5_pair_19 : decode cX5_pair 19 = .ok (.aload_n 0, 1) := by decide +kernel
theorem dX5_pair_20 : decode cX5_pair 20 = .ok (.invokevirtual 228, 3) := by decide +kernel
theorem dX5_pair_23 : decode cX5_pair 23 = .ok (.iload_n 1, 1) := by decide +kernel
theorem dX5_pair_24 : decode cX5_pair 24 = .ok (.iconst (-1), 1) := by decide +kernel
theorem dX5_pair_25 : decode cX5_pair 25 = .ok (.if_icmp .ne 22, 3) := by decide +kernel
theorem dX5_pair_28 : decode cX5_pair 28 = .ok (.aload_n 0, 1) := by decide +kernel
theorem dX5_pair_29 : decode cX5_pair 29 = .ok (.getfield 57, 3) := by decide +kernel
theorem dX5_pair_32 : decode cX5_pair 32 = .ok (.iconst 1, 1) := by decide +kernel
theorem dX5_pair_33 : decode cX5_pair 33 = .ok (.aload_n 0, 1) := by decide +kernel
theorem dX5_pair_34 : decode cX5_pair 34 = .ok (.getfield 19, 3) := by decide +kernel
theorem dX5_pair_37 : decode cX5_pair 37 = .ok (.getfield 88, 3) := by decide +kernel
theorem dX5_pair_40 : decode cX5_pair 40 = .ok (.ishl, 1) := by decide +kernel
theorem dX5_pair_41 : decode cX5_pair 41 = .ok (.iconst 1, 1) := by decide +kernel
theorem dX5_pair_42 : decode cX5_pair 42 = .ok (.isub, 1) := by decide +kernel
theorem dX5_pair_43 : decode cX5_pair 43 = .ok (.iaload, 1) := by decide +kernel
theorem dX5_pair_44 : decode cX5_pair 44 = .ok (.goto 8, 3) := by decide +kernel
theorem dX5_pair_47 : decode cX5_pair 47 = .ok (.aload_n 0, 1) := by decide +kernel
theorem dX5_pair_48 : decode cX5_pair 48 = .ok (.iload_n 1, 1) := by decide +kernel
theorem dX5_pair_49 : decode cX5_pair 49 = .ok (.invokevirtual 231, 3) := by decide +kernel
theorem dX5_pair_52 : decode cX5_pair 52 = .ok (.ireturn, 1) := by decide +kernel
set_option maxRecDepth 20000 in
theorem ggX5_town_X5_within : GoodIn wsX5_town wsX5_within := goodIn_r _ [9] (by decide +kernel) (by decide +kernel)
set_option maxRecDepth 20000 in
theorem gX5_town_X5_within : GoodIn wsX5_town (va_wsS RX5 70 yX5_within wsX5_within) := goodIn_app (goodIn_of _ (by decide +kernel)) ggX5_town_X5_within
set_option maxRecDepth 20000 in
theorem ggX5_town_X4_roundOf : GoodIn wsX5_town wsX4_roundOf := goodIn_r _ [13, 14, 15, 43, 44, 45, 46, 47, 48, 49, 50, 51, 52, 53, 54] (by decide +kernel) (by decide +kernel)
set_option maxRecDepth 20000 in
theorem gX5_town_X4_roundOf_n234 : GoodIn wsX5_town (wsX4_roundOf) := ggX5_town_X4_roundOf
set_option maxRecDepth 20000 in
theorem ggX5_town_J6_numberOfTrailingZeros_0f7a4 : GoodIn wsX5_town wsJ6_numberOfTrailingZeros_0f7a4 := goodIn_r _ [19, 20] (by decide +kernel) (by decide +kernel)
set_option maxRecDepth 20000 in
theorem gX5_town_J6_numberOfTrailingZeros_0f7a4 : GoodIn wsX5_town (va_wsS RX5 237 yJ6_numberOfTrailingZeros_0f7a4 wsJ6_numberOfTrailingZeros_0f7a4) := goodIn_app (goodIn_of _ (by decide +kernel)) ggX5_town_J6_numberOfTrailingZeros_0f7a4
set_option maxRecDepth 20000 in
theorem ggX5_town_J6_bitCount_0f7a4 : GoodIn wsX5_town wsJ6_bitCount_0f7a4 := goodIn_r _ [23, 24, 25, 26] (by decide +kernel) (by decide +kernel)
set_option maxRecDepth 20000 in
theorem gX5_town_J6_bitCount_0f7a4 : GoodIn wsX5_town (va_wsS RX5 242 yJ6_bitCount_0f7a4 wsJ6_bitCount_0f7a4) := goodIn_app (goodIn_of _ (by decide +kernel)) ggX5_town_J6_bitCount_0f7a4
set_option maxRecDepth 20000 in
theorem ggX5_town_X4_wayEnd : GoodIn wsX5_town wsX4_wayEnd := goodIn_r _ [29, 15, 43, 44, 45, 46, 47, 48, 49, 50, 51, 52, 53, 54] (by decide +kernel) (by decide +kernel)
set_option maxRecDepth 20000 in
theorem gX5_town_X4_wayEnd_n191 : GoodIn wsX5_town (wsX4_wayEnd) := ggX5_town_X4_wayEnd
theorem dX5_town_0 : decode cX5_town 0 = .ok (.iload_n 1, 1) := by decide +kernel
theorem dX5_town_1 : decode cX5_town 1 = .ok (.iconst 0, 1) := by decide +kernel
theorem dX5_town_2 : decode cX5_town 2 = .ok (.iconst 2, 1) := by decide +kernel
theorem dX5_town_3 : decode cX5_town 3 = .ok (.invokestatic 70, 3) := by decide +kernel
theorem dX5_town_6 : decode cX5_town 6 = .ok (.ifCond .ne 6, 3) := by decide +kernel
theorem dX5_town_9 : decode cX5_town 9 = .ok (.bipush (-3), 2) := by decide +kernel
theorem dX5_town_11 : decode cX5_town 11 = .ok (.ireturn, 1) := by decide +kernel
theorem dX5_town_12 : decode cX5_town 12 = .ok (.iconst 0, 1) := by decide +kernel
theorem dX5_town_13 : decode cX5_town 13 = .ok (.istore_n 2, 1) := by decide +kernel
theorem dX5_town_14 : decode cX5_town 14 = .ok (.iconst 0, 1) := by decide +kernel
theorem dX5_town_15 : decode cX5_town 15 = .ok (.istore_n 3, 1) := by decide +kernel
theorem dX5_town_16 : decode cX5_town 16 = .ok (.iconst 0, 1) := by decide +kernel
theorem dX5_town_17 : decode cX5_town 17 = .ok (.istore 4, 2) := by decide +kernel
theorem dX5_town_19 : decode cX5_town 19 = .ok (.iconst 0, 1) := by decide +kernel
theorem dX5_town_20 : decode cX5_town 20 = .ok (.istore 5, 2) := by decide +kernel
theorem dX5_town_22 : decode cX5_town 22 = .ok (.iload 5, 2) := by decide +kernel
theorem dX5_town_24 : decode cX5_town 24 = .ok (.aload_n 0, 1) := by decide +kernel
theorem dX5_town_25 : decode cX5_town 25 = .ok (.getfield 19, 3) := by decide +kernel
theorem dX5_town_28 : decode cX5_town 28 = .ok (.getfield 88, 3) := by decide +kernel
theorem dX5_town_31 : decode cX5_town 31 = .ok (.if_icmp .ge 77, 3) := by decide +kernel
theorem dX5_town_34 : decode cX5_town 34 = .ok (.aload_n 0, 1) := by decide +kernel
theorem dX5_town_35 : decode cX5_town 35 = .ok (.getfield 19, 3) := by decide +kernel
theorem dX5_town_38 : decode cX5_town 38 = .ok (.iload 5, 2) := by decide +kernel
theorem dX5_town_40 : decode cX5_town 40 = .ok (.invokevirtual 234, 3) := by decide +kernel
theorem dX5_town_43 : decode cX5_town 43 = .ok (.istore 6, 2) := by decide +kernel
theorem dX5_town_45 : decode cX5_town 45 = .ok (.iload 6, 2) := by decide +kernel
theorem dX5_town_47 : decode cX5_town 47 = .ok (.ifCond .eq 26, 3) := by decide +kernel
theorem dX5_town_50 : decode cX5_town 50 = .ok (.iload 6, 2) := by decide +kernel
theorem dX5_town_52 : decode cX5_town 52 = .ok (.invokestatic 237, 3) := by decide +kernel
theorem dX5_town_55 : decode cX5_town 55 = .ok (.iload 5, 2) := by decide +kernel
theorem dX5_town_57 : decode cX5_town 57 = .ok (.if_icmp .ne 16, 3) := by decide +kernel
theorem dX5_town_60 : decode cX5_town 60 = .ok (.iinc 2 1, 3) := by decide +kernel
theorem dX5_town_63 : decode cX5_town 63 = .ok (.iload_n 3, 1) := by decide +kernel
theorem dX5_town_64 : decode cX5_town 64 = .ok (.iload 6, 2) := by decide +kernel
theorem dX5_town_66 : decode cX5_town 66 = .ok (.invokestatic 242, 3) := by decide +kernel
theorem dX5_town_69 : decode cX5_town 69 = .ok (.invokestatic 245, 3) := by decide +kernel
theorem dX5_town_72 : decode cX5_town 72 = .ok (.istore_n 3, 1) := by decide +kernel
theorem dX5_town_73 : decode cX5_town 73 = .ok (.aload_n 0, 1) := by decide +kernel
theorem dX5_town_74 : decode cX5_town 74 = .ok (.getfield 19, 3) := by decide +kernel
theorem dX5_town_77 : decode cX5_town 77 = .ok (.iload 5, 2) := by decide +kernel
theorem dX5_town_79 : decode cX5_town 79 = .ok (.aload_n 0, 1) := by decide +kernel
theorem dX5_town_80 : decode cX5_town 80 = .ok (.getfield 19, 3) := by decide +kernel
theorem dX5_town_83 : decode cX5_town 83 = .ok (.getfield 88, 3) := by decide +kernel
theorem dX5_town_86 : decode cX5_town 86 = .ok (.invokevirtual 191, 3) := by decide +kernel
theorem dX5_town_89 : decode cX5_town 89 = .ok (.iconst (-1), 1) := by decide +kernel
theorem dX5_town_90 : decode cX5_town 90 = .ok (.if_icmp .ne 12, 3) := by decide +kernel
theorem dX5_town_93 : decode cX5_town 93 = .ok (.iload 4, 2) := by decide +kernel
theorem dX5_town_95 : decode cX5_town 95 = .ok (.iconst 1, 1) := by decide +kernel
theorem dX5_town_96 : decode cX5_town 96 = .ok (.iload 5, 2) := by decide +kernel
theorem dX5_town_98 : decode cX5_town 98 = .ok (.ishl, 1) := by decide +kernel
theorem dX5_town_99 : decode cX5_town 99 = .ok (.ior, 1) := by decide +kernel
theorem dX5_town_100 : decode cX5_town 100 = .ok (.istore 4, 2) := by decide +kernel
theorem dX5_town_102 : decode cX5_town 102 = .ok (.iinc 5 1, 3) := by decide +kernel
theorem dX5_town_105 : decode cX5_town 105 = .ok (.goto (-83), 3) := by decide +kernel
theorem dX5_town_108 : decode cX5_town 108 = .ok (.iload_n 1, 1) := by decide +kernel
theorem dX5_town_109 : decode cX5_town 109 = .ok (.ifCond .ne 7, 3) := by decide +kernel
theorem dX5_town_112 : decode cX5_town 112 = .ok (.iload_n 2, 1) := by decide +kernel
theorem dX5_town_113 : decode cX5_town 113 = .ok (.goto 14, 3) := by decide +kernel
theorem dX5_town_116 : decode cX5_town 116 = .ok (.iload_n 1, 1) := by decide +kernel
theorem dX5_town_117 : decode cX5_town 117 = .ok (.iconst 1, 1) := by decide +kernel
theorem dX5_town_118 : decode cX5_town 118 = .ok (.if_icmp .ne 7, 3) := by decide +kernel
theorem dX5_town_121 : decode cX5_town 121 = .ok (.iload_n 3, 1) := by decide +kernel
theorem dX5_town_122 : decode cX5_town 122 = .ok (.goto 5, 3) := by decide +kernel
theorem dX5_town_125 : decode cX5_town 125 = .ok (.iload 4, 2) := by decide +kernel
theorem dX5_town_127 : decode cX5_town 127 = .ok (.ireturn, 1) := by decide +kernel
set_option maxRecDepth 20000 in
theorem ggX5_seen_X4_hasHouse : GoodIn wsX5_seen wsX4_hasHouse := goodIn_r _ [6, 7, 8, 9, 10, 41, 42, 43, 44, 45, 46, 47, 48, 49, 50, 51, 52] (by decide +kernel) (by decide +kernel)
set_option maxRecDepth 20000 in
theorem gX5_seen_X4_hasHouse_n114 : GoodIn wsX5_seen (wsX4_hasHouse) := ggX5_seen_X4_hasHouse
set_option maxRecDepth 20000 in
theorem ggX5_seen_X5_isDeedOrNone : GoodIn wsX5_seen wsX5_isDeedOrNone := goodIn_r _ [14, 1, 15, 4, 16, 17, 18, 8, 9, 10, 28, 29, 30, 31, 32, 33, 34, 35, 36, 37, 38, 39, 40, 41, 42, 43, 44, 45, 46, 47, 48, 49, 50, 51, 52] (by decide +kernel) (by decide +kernel)
set_option maxRecDepth 20000 in
theorem gX5_seen_X5_isDeedOrNone : GoodIn wsX5_seen (wsV RX5 162 RX5 yX5_isDeedOrNone wsX5_isDeedOrNone) := goodIn_app (goodIn_of _ (by decide +kernel)) ggX5_seen_X5_isDeedOrNone
set_option maxRecDepth 20000 in
theorem ggX5_seen_X5_within : GoodIn wsX5_seen wsX5_within := goodIn_r _ [10] (by decide +kernel) (by decide +kernel)
set_option maxRecDepth 20000 in
theorem gX5_seen_X5_within : GoodIn wsX5_seen (va_wsS RX5 70 yX5_within wsX5_within) := goodIn_app (goodIn_of _ (by decide +kernel)) ggX5_seen_X5_within
set_option maxRecDepth 20000 in
theorem ggX5_seen_X3_add : GoodIn wsX5_seen wsX3_add := goodIn_r _ [23, 24, 25, 26, 27, 53, 54, 55, 56] (by decide +kernel) (by decide +kernel)
set_option maxRecDepth 20000 in
theorem gX5_seen_X3_add_n197 : GoodIn wsX5_seen (wsX3_add) := ggX5_seen_X3_add
theorem dX5_seen_0 : decode cX5_seen 0 = .ok (.aload_n 0, 1) := by decide +kernel
theorem dX5_seen_1 : decode cX5_seen 1 = .ok (.getfield 19, 3) := by decide +kernel
theorem dX5_seen_4 : decode cX5_seen 4 = .ok (.iload_n 1, 1) := by decide +kernel
theorem dX5_seen_5 : decode cX5_seen 5 = .ok (.invokevirtual 114, 3) := by decide +kernel
theorem dX5_seen_8 : decode cX5_seen 8 = .ok (.ifCond .eq 11, 3) := by decide +kernel
theorem dX5_seen_11 : decode cX5_seen 11 = .ok (.aload_n 0, 1) := by decide +kernel
theorem dX5_seen_12 : decode cX5_seen 12 = .ok (.iload_n 2, 1) := by decide +kernel
theorem dX5_seen_13 : decode cX5_seen 13 = .ok (.invokevirtual 162, 3) := by decide +kernel
theorem dX5_seen_16 : decode cX5_seen 16 = .ok (.ifCond .ne 6, 3) := by decide +kernel
theorem dX5_seen_19 : decode cX5_seen 19 = .ok (.bipush (-2), 2) := by decide +kernel
theorem dX5_seen_21 : decode cX5_seen 21 = .ok (.ireturn, 1) := by decide +kernel
theorem dX5_seen_22 : decode cX5_seen 22 = .ok (.iload_n 3, 1) := by decide +kernel
theorem dX5_seen_23 : decode cX5_seen 23 = .ok (.iconst 0, 1) := by decide +kernel
theorem dX5_seen_24 : decode cX5_seen 24 = .ok (.bipush 99, 2) := by decide +kernel
theorem dX5_seen_26 : decode cX5_seen 26 = .ok (.invokestatic 70, 3) := by decide +kernel
theorem dX5_seen_29 : decode cX5_seen 29 = .ok (.ifCond .eq 16, 3) := by decide +kernel
theorem dX5_seen_32 : decode cX5_seen 32 = .ok (.aload_n 0, 1) := by decide +kernel
theorem dX5_seen_33 : decode cX5_seen 33 = .ok (.getfield 41, 3) := by decide +kernel
theorem dX5_seen_36 : decode cX5_seen 36 = .ok (.iload_n 1, 1) := by decide +kernel
theorem dX5_seen_37 : decode cX5_seen 37 = .ok (.iload_n 2, 1) := by decide +kernel
theorem dX5_seen_38 : decode cX5_seen 38 = .ok (.iload_n 3, 1) := by decide +kernel
theorem dX5_seen_39 : decode cX5_seen 39 = .ok (.invokevirtual 197, 3) := by decide +kernel
theorem dX5_seen_42 : decode cX5_seen 42 = .ok (.goto 5, 3) := by decide +kernel
theorem dX5_seen_45 : decode cX5_seen 45 = .ok (.bipush (-3), 2) := by decide +kernel
theorem dX5_seen_47 : decode cX5_seen 47 = .ok (.ireturn, 1) := by decide +kernel
set_option maxRecDepth 20000 in
theorem ggX5_forget_X3_clear : GoodIn wsX5_forget wsX3_clear := goodIn_r _ [5, 6, 20, 21, 22, 23] (by decide +kernel) (by decide +kernel)
set_option maxRecDepth 20000 in
theorem gX5_forget_X3_clear_n107 : GoodIn wsX5_forget (wsX3_clear) := ggX5_forget_X3_clear
theorem dX5_forget_0 : decode cX5_forget 0 = .ok (.aload_n 0, 1) := by decide +kernel
theorem dX5_forget_1 : decode cX5_forget 1 = .ok (.getfield 41, 3) := by decide +kernel
theorem dX5_forget_4 : decode cX5_forget 4 = .ok (.invokevirtual 107, 3) := by decide +kernel
theorem dX5_forget_7 : decode cX5_forget 7 = .ok (.ireturn, 1) := by decide +kernel
set_option maxRecDepth 20000 in
theorem ggX5_fits_X4_hasHouse : GoodIn wsX5_fits wsX4_hasHouse := goodIn_r _ [7, 8, 9, 10, 11, 67, 68, 69, 70, 71, 72, 73, 74, 75, 76, 77, 78] (by decide +kernel) (by decide +kernel)
set_option maxRecDepth 20000 in
theorem gX5_fits_X4_hasHouse_n114 : GoodIn wsX5_fits (wsX4_hasHouse) := ggX5_fits_X4_hasHouse
set_option maxRecDepth 20000 in
theorem ggX5_fits_X5_rowsThatFit : GoodIn wsX5_fits wsX5_rowsThatFit := goodIn_r _ [15, 1, 3, 16, 5, 17, 18, 19, 20, 21, 22, 23, 24, 25, 26, 27, 28, 29, 10, 30, 31, 32, 33, 34, 35, 36, 37, 38, 39, 40, 41, 42, 43, 44, 45, 46, 47, 48, 49, 50, 51, 52, 53, 54, 55, 56, 57, 58, 59, 60, 61, 62, 63, 64, 65, 66, 67, 68, 69, 70, 71, 72, 73, 74, 75, 76, 77, 78, 79, 80, 81, 82] (by decide +kernel) (by decide +kernel)
set_option maxRecDepth 20000 in
theorem gX5_fits_X5_rowsThatFit : GoodIn wsX5_fits (wsV RX5 200 RX5 yX5_rowsThatFit wsX5_rowsThatFit) := goodIn_app (goodIn_of _ (by decide +kernel)) ggX5_fits_X5_rowsThatFit
theorem dX5_fits_0 : decode cX5_fits 0 = .ok (.iload_n 1, 1) := by decide +kernel
theorem dX5_fits_1 : decode cX5_fits 1 = .ok (.iconst (-1), 1) := by decide +kernel
theorem dX5_fits_2 : decode cX5_fits 2 = .ok (.if_icmp .eq 17, 3) := by decide +kernel
theorem dX5_fits_5 : decode cX5_fits 5 = .ok (.aload_n 0, 1) := by decide +kernel
theorem dX5_fits_6 : decode cX5_fits 6 = .ok (.getfield 19, 3) := by decide +kernel
theorem dX5_fits_9 : decode cX5_fits 9 = .ok (.iload_n 1, 1) := by decide +kernel
theorem dX5_fits_10 : decode cX5_fits 10 = .ok (.invokevirtual 114, 3) := by decide +kernel
theorem dX5_fits_13 : decode cX5_fits 13 = .ok (.ifCond .ne 6, 3) := by decide +kernel
theorem dX5_fits_16 : decode cX5_fits 16 = .ok (.bipush (-2), 2) := by decide +kernel
theorem dX5_fits_18 : decode cX5_fits 18 = .ok (.ireturn, 1) := by decide +kernel
theorem dX5_fits_19 : decode cX5_fits 19 = .ok (.aload_n 0, 1) := by decide +kernel
theorem dX5_fits_20 : decode cX5_fits 20 = .ok (.aload_n 0, 1) := by decide +kernel
theorem dX5_fits_21 : decode cX5_fits 21 = .ok (.getfield 41, 3) := by decide +kernel
theorem dX5_fits_24 : decode cX5_fits 24 = .ok (.invokevirtual 200, 3) := by decide +kernel
theorem dX5_fits_27 : decode cX5_fits 27 = .ok (.istore_n 2, 1) := by decide +kernel
theorem dX5_fits_28 : decode cX5_fits 28 = .ok (.iload_n 1, 1) := by decide +kernel
theorem dX5_fits_29 : decode cX5_fits 29 = .ok (.iconst (-1), 1) := by decide +kernel
theorem dX5_fits_30 : decode cX5_fits 30 = .ok (.if_icmp .eq 7, 3) := by decide +kernel
theorem dX5_fits_33 : decode cX5_fits 33 = .ok (.iload_n 2, 1) := by decide +kernel
theorem dX5_fits_34 : decode cX5_fits 34 = .ok (.ifCond .ne 7, 3) := by decide +kernel
theorem dX5_fits_37 : decode cX5_fits 37 = .ok (.iload_n 2, 1) := by decide +kernel
theorem dX5_fits_38 : decode cX5_fits 38 = .ok (.goto 9, 3) := by decide +kernel
theorem dX5_fits_41 : decode cX5_fits 41 = .ok (.aload_n 0, 1) := by decide +kernel
theorem dX5_fits_42 : decode cX5_fits 42 = .ok (.getfield 51, 3) := by decide +kernel
theorem dX5_fits_45 : decode cX5_fits 45 = .ok (.iload_n 1, 1) := by decide +kernel
theorem dX5_fits_46 : decode cX5_fits 46 = .ok (.iaload, 1) := by decide +kernel
theorem dX5_fits_47 : decode cX5_fits 47 = .ok (.ireturn, 1) := by decide +kernel
set_option maxRecDepth 20000 in
theorem ggX5_keep_X5_within : GoodIn wsX5_keep wsX5_within := goodIn_r _ [6] (by decide +kernel) (by decide +kernel)
set_option maxRecDepth 20000 in
theorem gX5_keep_X5_within : GoodIn wsX5_keep (va_wsS RX5 70 yX5_within wsX5_within) := goodIn_app (goodIn_of _ (by decide +kernel)) ggX5_keep_X5_within
set_option maxRecDepth 20000 in
theorem ggX5_keep_X0_copy : GoodIn wsX5_keep wsX0_copy := goodIn_r _ [10, 11, 12, 13, 14, 15, 16, 17, 31, 32, 33, 34] (by decide +kernel) (by decide +kernel)
set_option maxRecDepth 20000 in
theorem gX5_keep_X0_copy_n250 : GoodIn wsX5_keep (wsX0_copy) := ggX5_keep_X0_copy
theorem dX5_keep_0 : decode cX5_keep 0 = .ok (.iload_n 1, 1) := by decide +kernel
theorem dX5_keep_1 : decode cX5_keep 1 = .ok (.iconst 0, 1) := by decide +kernel
theorem dX5_keep_2 : decode cX5_keep 2 = .ok (.iconst 1, 1) := by decide +kernel
theorem dX5_keep_3 : decode cX5_keep 3 = .ok (.invokestatic 70, 3) := by decide +kernel
theorem dX5_keep_6 : decode cX5_keep 6 = .ok (.ifCond .ne 6, 3) := by decide +kernel
theorem dX5_keep_9 : decode cX5_keep 9 = .ok (.bipush (-2), 2) := by decide +kernel
theorem dX5_keep_11 : decode cX5_keep 11 = .ok (.ireturn, 1) := by decide +kernel
theorem dX5_keep_12 : decode cX5_keep 12 = .ok (.aload_n 0, 1) := by decide +kernel
theorem dX5_keep_13 : decode cX5_keep 13 = .ok (.getfield 30, 3) := by decide +kernel
theorem dX5_keep_16 : decode cX5_keep 16 = .ok (.iload_n 1, 1) := by decide +kernel
theorem dX5_keep_17 : decode cX5_keep 17 = .ok (.aaload, 1) := by decide +kernel
theorem dX5_keep_18 : decode cX5_keep 18 = .ok (.aload_n 0, 1) := by decide +kernel
theorem dX5_keep_19 : decode cX5_keep 19 = .ok (.getfield 26, 3) := by decide +kernel
theorem dX5_keep_22 : decode cX5_keep 22 = .ok (.invokevirtual 250, 3) := by decide +kernel
theorem dX5_keep_25 : decode cX5_keep 25 = .ok (.aload_n 0, 1) := by decide +kernel
theorem dX5_keep_26 : decode cX5_keep 26 = .ok (.getfield 30, 3) := by decide +kernel
theorem dX5_keep_29 : decode cX5_keep 29 = .ok (.iload_n 1, 1) := by decide +kernel
theorem dX5_keep_30 : decode cX5_keep 30 = .ok (.aaload, 1) := by decide +kernel
theorem dX5_keep_31 : decode cX5_keep 31 = .ok (.iconst 1, 1) := by decide +kernel
theorem dX5_keep_32 : decode cX5_keep 32 = .ok (.putfield 110, 3) := by decide +kernel
theorem dX5_keep_35 : decode cX5_keep 35 = .ok (.aload_n 0, 1) := by decide +kernel
theorem dX5_keep_36 : decode cX5_keep 36 = .ok (.getfield 26, 3) := by decide +kernel
theorem dX5_keep_39 : decode cX5_keep 39 = .ok (.getfield 168, 3) := by decide +kernel
theorem dX5_keep_42 : decode cX5_keep 42 = .ok (.ireturn, 1) := by decide +kernel
set_option maxRecDepth 20000 in
theorem ggX5_back_X5_within : GoodIn wsX5_back wsX5_within := goodIn_r _ [6] (by decide +kernel) (by decide +kernel)
set_option maxRecDepth 20000 in
theorem gX5_back_X5_within : GoodIn wsX5_back (va_wsS RX5 70 yX5_within wsX5_within) := goodIn_app (goodIn_of _ (by decide +kernel)) ggX5_back_X5_within
set_option maxRecDepth 20000 in
theorem ggX5_back_X0_copy : GoodIn wsX5_back wsX0_copy := goodIn_r _ [10, 11, 12, 13, 14, 15, 16, 17, 31, 32, 33, 34] (by decide +kernel) (by decide +kernel)
set_option maxRecDepth 20000 in
theorem gX5_back_X0_copy_n250 : GoodIn wsX5_back (wsX0_copy) := ggX5_back_X0_copy
theorem dX5_back_0 : decode cX5_back 0 = .ok (.iload_n 1, 1) := by decide +kernel
theorem dX5_back_1 : decode cX5_back 1 = .ok (.iconst 0, 1) := by decide +kernel
theorem dX5_back_2 : decode cX5_back 2 = .ok (.iconst 1, 1) := by decide +kernel
theorem dX5_back_3 : decode cX5_back 3 = .ok (.invokestatic 70, 3) := by decide +kernel
theorem dX5_back_6 : decode cX5_back 6 = .ok (.ifCond .ne 6, 3) := by decide +kernel
theorem dX5_back_9 : decode cX5_back 9 = .ok (.bipush (-2), 2) := by decide +kernel
theorem dX5_back_11 : decode cX5_back 11 = .ok (.ireturn, 1) := by decide +kernel
theorem dX5_back_12 : decode cX5_back 12 = .ok (.aload_n 0, 1) := by decide +kernel
theorem dX5_back_13 : decode cX5_back 13 = .ok (.getfield 30, 3) := by decide +kernel
theorem dX5_back_16 : decode cX5_back 16 = .ok (.iload_n 1, 1) := by decide +kernel
theorem dX5_back_17 : decode cX5_back 17 = .ok (.aaload, 1) := by decide +kernel
theorem dX5_back_18 : decode cX5_back 18 = .ok (.getfield 110, 3) := by decide +kernel
theorem dX5_back_21 : decode cX5_back 21 = .ok (.ifCond .ne 6, 3) := by decide +kernel
theorem dX5_back_24 : decode cX5_back 24 = .ok (.bipush (-4), 2) := by decide +kernel
theorem dX5_back_26 : decode cX5_back 26 = .ok (.ireturn, 1) := by decide +kernel
theorem dX5_back_27 : decode cX5_back 27 = .ok (.aload_n 0, 1) := by decide +kernel
theorem dX5_back_28 : decode cX5_back 28 = .ok (.getfield 26, 3) := by decide +kernel
theorem dX5_back_31 : decode cX5_back 31 = .ok (.aload_n 0, 1) := by decide +kernel
theorem dX5_back_32 : decode cX5_back 32 = .ok (.getfield 30, 3) := by decide +kernel
theorem dX5_back_35 : decode cX5_back 35 = .ok (.iload_n 1, 1) := by decide +kernel
theorem dX5_back_36 : decode cX5_back 36 = .ok (.aaload, 1) := by decide +kernel
theorem dX5_back_37 : decode cX5_back 37 = .ok (.invokevirtual 250, 3) := by decide +kernel
theorem dX5_back_40 : decode cX5_back 40 = .ok (.aload_n 0, 1) := by decide +kernel
theorem dX5_back_41 : decode cX5_back 41 = .ok (.getfield 26, 3) := by decide +kernel
theorem dX5_back_44 : decode cX5_back 44 = .ok (.getfield 168, 3) := by decide +kernel
theorem dX5_back_47 : decode cX5_back 47 = .ok (.ireturn, 1) := by decide +kernel
theorem dX5_count_0 : decode cX5_count 0 = .ok (.iload_n 1, 1) := by decide +kernel
theorem dX5_count_1 : decode cX5_count 1 = .ok (.tableswitch 87 0 5 #[39, 47, 55, 63, 71, 79], 39) := by decide +kernel
theorem dX5_count_40 : decode cX5_count 40 = .ok (.aload_n 0, 1) := by decide +kernel
theorem dX5_count_41 : decode cX5_count 41 = .ok (.getfield 19, 3) := by decide +kernel
theorem dX5_count_44 : decode cX5_count 44 = .ok (.getfield 88, 3) := by decide +kernel
theorem dX5_count_47 : decode cX5_count 47 = .ok (.ireturn, 1) := by decide +kernel
theorem dX5_count_48 : decode cX5_count 48 = .ok (.aload_n 0, 1) := by decide +kernel
theorem dX5_count_49 : decode cX5_count 49 = .ok (.getfield 19, 3) := by decide +kernel
theorem dX5_count_52 : decode cX5_count 52 = .ok (.getfield 91, 3) := by decide +kernel
theorem dX5_count_55 : decode cX5_count 55 = .ok (.ireturn, 1) := by decide +kernel
theorem dX5_count_56 : decode cX5_count 56 = .ok (.aload_n 0, 1) := by decide +kernel
theorem dX5_count_57 : decode cX5_count 57 = .ok (.getfield 26, 3) := by decide +kernel
theorem dX5_count_60 : decode cX5_count 60 = .ok (.getfield 168, 3) := by decide +kernel
theorem dX5_count_63 : decode cX5_count 63 = .ok (.ireturn, 1) := by decide +kernel
theorem dX5_count_64 : decode cX5_count 64 = .ok (.aload_n 0, 1) := by decide +kernel
theorem dX5_count_65 : decode cX5_count 65 = .ok (.getfield 37, 3) := by decide +kernel
theorem dX5_count_68 : decode cX5_count 68 = .ok (.getfield 254, 3) := by decide +kernel
theorem dX5_count_71 : decode cX5_count 71 = .ok (.ireturn, 1) := by decide +kernel
theorem dX5_count_72 : decode cX5_count 72 = .ok (.aload_n 0, 1) := by decide +kernel
theorem dX5_count_73 : decode cX5_count 73 = .ok (.getfield 41, 3) := by decide +kernel
theorem dX5_count_76 : decode cX5_count 76 = .ok (.getfield 254, 3) := by decide +kernel
theorem dX5_count_79 : decode cX5_count 79 = .ok (.ireturn, 1) := by decide +kernel
theorem dX5_count_80 : decode cX5_count 80 = .ok (.aload_n 0, 1) := by decide +kernel
theorem dX5_count_81 : decode cX5_count 81 = .ok (.getfield 12, 3) := by decide +kernel
theorem dX5_count_84 : decode cX5_count 84 = .ok (.getfield 74, 3) := by decide +kernel
theorem dX5_count_87 : decode cX5_count 87 = .ok (.ireturn, 1) := by decide +kernel
theorem dX5_count_88 : decode cX5_count 88 = .ok (.bipush (-3), 2) := by decide +kernel
theorem dX5_count_90 : decode cX5_count 90 = .ok (.ireturn, 1) := by decide +kernel
theorem dX5_within_0 : decode cX5_within 0 = .ok (.iload_n 0, 1) := by decide +kernel
theorem dX5_within_1 : decode cX5_within 1 = .ok (.iload_n 1, 1) := by decide +kernel
theorem dX5_within_2 : decode cX5_within 2 = .ok (.if_icmp .lt 12, 3) := by decide +kernel
theorem dX5_within_5 : decode cX5_within 5 = .ok (.iload_n 0, 1) := by decide +kernel
theorem dX5_within_6 : decode cX5_within 6 = .ok (.iload_n 2, 1) := by decide +kernel
theorem dX5_within_7 : decode cX5_within 7 = .ok (.if_icmp .gt 7, 3) := by decide +kernel
theorem dX5_within_10 : decode cX5_within 10 = .ok (.iconst 1, 1) := by decide +kernel
theorem dX5_within_11 : decode cX5_within 11 = .ok (.goto 4, 3) := by decide +kernel
theorem dX5_within_14 : decode cX5_within 14 = .ok (.iconst 0, 1) := by decide +kernel
theorem dX5_within_15 : decode cX5_within 15 = .ok (.ireturn, 1) := by decide +kernel
theorem dX5_has_0 : decode cX5_has 0 = .ok (.iload_n 0, 1) := by decide +kernel
theorem dX5_has_1 : decode cX5_has 1 = .ok (.iload_n 1, 1) := by decide +kernel
theorem dX5_has_2 : decode cX5_has 2 = .ok (.ishr, 1) := by decide +kernel
theorem dX5_has_3 : decode cX5_has 3 = .ok (.iconst 1, 1) := by decide +kernel
theorem dX5_has_4 : decode cX5_has 4 = .ok (.iand, 1) := by decide +kernel
theorem dX5_has_5 : decode cX5_has 5 = .ok (.ifCond .eq 7, 3) := by decide +kernel
theorem dX5_has_8 : decode cX5_has 8 = .ok (.iconst 1, 1) := by decide +kernel
theorem dX5_has_9 : decode cX5_has 9 = .ok (.goto 4, 3) := by decide +kernel
theorem dX5_has_12 : decode cX5_has 12 = .ok (.iconst 0, 1) := by decide +kernel
theorem dX5_has_13 : decode cX5_has 13 = .ok (.ireturn, 1) := by decide +kernel
theorem dX5_power_0 : decode cX5_power 0 = .ok (.lconst 1, 1) := by decide +kernel
theorem dX5_power_1 : decode cX5_power 1 = .ok (.lstore_n 3, 1) := by decide +kernel
theorem dX5_power_2 : decode cX5_power 2 = .ok (.iconst 0, 1) := by decide +kernel
theorem dX5_power_3 : decode cX5_power 3 = .ok (.istore 5, 2) := by decide +kernel
theorem dX5_power_5 : decode cX5_power 5 = .ok (.iload 5, 2) := by decide +kernel
theorem dX5_power_7 : decode cX5_power 7 = .ok (.iload_n 2, 1) := by decide +kernel
theorem dX5_power_8 : decode cX5_power 8 = .ok (.if_icmp .ge 13, 3) := by decide +kernel
theorem dX5_power_11 : decode cX5_power 11 = .ok (.lload_n 3, 1) := by decide +kernel
theorem dX5_power_12 : decode cX5_power 12 = .ok (.lload_n 0, 1) := by decide +kernel
theorem dX5_power_13 : decode cX5_power 13 = .ok (.lmul, 1) := by decide +kernel
theorem dX5_power_14 : decode cX5_power 14 = .ok (.lstore_n 3, 1) := by decide +kernel
theorem dX5_power_15 : decode cX5_power 15 = .ok (.iinc 5 1, 3) := by decide +kernel
theorem dX5_power_18 : decode cX5_power 18 = .ok (.goto (-13), 3) := by decide +kernel
theorem dX5_power_21 : decode cX5_power 21 = .ok (.lload_n 3, 1) := by decide +kernel
theorem dX5_power_22 : decode cX5_power 22 = .ok (.lreturn, 1) := by decide +kernel
set_option maxRecDepth 20000 in
theorem ggX5_isDeedOrNone_X4_hasDeed : GoodIn wsX5_isDeedOrNone wsX4_hasDeed := goodIn_r _ [5, 6, 7, 8, 9, 23, 24, 25, 26, 27, 28, 29, 30, 31, 32, 33, 34] (by decide +kernel) (by decide +kernel)
set_option maxRecDepth 20000 in
theorem gX5_isDeedOrNone_X4_hasDeed_n130 : GoodIn wsX5_isDeedOrNone (wsX4_hasDeed) := ggX5_isDeedOrNone_X4_hasDeed
theorem dX5_isDeedOrNone_0 : decode cX5_isDeedOrNone 0 = .ok (.iload_n 1, 1) := by decide +kernel
theorem dX5_isDeedOrNone_1 : decode cX5_isDeedOrNone 1 = .ok (.iconst (-1), 1) := by decide +kernel
theorem dX5_isDeedOrNone_2 : decode cX5_isDeedOrNone 2 = .ok (.if_icmp .eq 14, 3) := by decide +kernel
theorem dX5_isDeedOrNone_5 : decode cX5_isDeedOrNone 5 = .ok (.aload_n 0, 1) := by decide +kernel
theorem dX5_isDeedOrNone_6 : decode cX5_isDeedOrNone 6 = .ok (.getfield 19, 3) := by decide +kernel
theorem dX5_isDeedOrNone_9 : decode cX5_isDeedOrNone 9 = .ok (.iload_n 1, 1) := by decide +kernel
theorem dX5_isDeedOrNone_10 : decode cX5_isDeedOrNone 10 = .ok (.invokevirtual 130, 3) := by decide +kernel
theorem dX5_isDeedOrNone_13 : decode cX5_isDeedOrNone 13 = .ok (.ifCond .eq 7, 3) := by decide +kernel
theorem dX5_isDeedOrNone_16 : decode cX5_isDeedOrNone 16 = .ok (.iconst 1, 1) := by decide +kernel
theorem dX5_isDeedOrNone_17 : decode cX5_isDeedOrNone 17 = .ok (.goto 4, 3) := by decide +kernel
theorem dX5_isDeedOrNone_20 : decode cX5_isDeedOrNone 20 = .ok (.iconst 0, 1) := by decide +kernel
theorem dX5_isDeedOrNone_21 : decode cX5_isDeedOrNone 21 = .ok (.ireturn, 1) := by decide +kernel
set_option maxRecDepth 20000 in
theorem ggX5_refusalOf_X4_hasHouse : GoodIn wsX5_refusalOf wsX4_hasHouse := goodIn_r _ [5, 6, 7, 8, 9, 28, 29, 30, 31, 32, 33, 34, 35, 36, 37, 38, 39] (by decide +kernel) (by decide +kernel)
set_option maxRecDepth 20000 in
theorem gX5_refusalOf_X4_hasHouse_n114 : GoodIn wsX5_refusalOf (wsX4_hasHouse) := ggX5_refusalOf_X4_hasHouse
set_option maxRecDepth 20000 in
theorem ggX5_refusalOf_X4_hasDeed : GoodIn wsX5_refusalOf wsX4_hasDeed := goodIn_r _ [12, 13, 7, 8, 9, 28, 29, 30, 31, 32, 33, 34, 35, 36, 37, 38, 39] (by decide +kernel) (by decide +kernel)
set_option maxRecDepth 20000 in
theorem gX5_refusalOf_X4_hasDeed_n130 : GoodIn wsX5_refusalOf (wsX4_hasDeed) := ggX5_refusalOf_X4_hasDeed
set_option maxRecDepth 20000 in
theorem ggX5_refusalOf_X5_within : GoodIn wsX5_refusalOf wsX5_within := goodIn_r _ [9] (by decide +kernel) (by decide +kernel)
set_option maxRecDepth 20000 in
theorem gX5_refusalOf_X5_within : GoodIn wsX5_refusalOf (va_wsS RX5 70 yX5_within wsX5_within) := goodIn_app (goodIn_of _ (by decide +kernel)) ggX5_refusalOf_X5_within
theorem dX5_refusalOf_0 : decode cX5_refusalOf 0 = .ok (.aload_n 0, 1) := by decide +kernel
theorem dX5_refusalOf_1 : decode cX5_refusalOf 1 = .ok (.getfield 19, 3) := by decide +kernel
theorem dX5_refusalOf_4 : decode cX5_refusalOf 4 = .ok (.iload_n 1, 1) := by decide +kernel
theorem dX5_refusalOf_5 : decode cX5_refusalOf 5 = .ok (.invokevirtual 114, 3) := by decide +kernel
theorem dX5_refusalOf_8 : decode cX5_refusalOf 8 = .ok (.ifCond .eq 14, 3) := by decide +kernel
theorem dX5_refusalOf_11 : decode cX5_refusalOf 11 = .ok (.aload_n 0, 1) := by decide +kernel
theorem dX5_refusalOf_12 : decode cX5_refusalOf 12 = .ok (.getfield 19, 3) := by decide +kernel
theorem dX5_refusalOf_15 : decode cX5_refusalOf 15 = .ok (.iload_n 2, 1) := by decide +kernel
theorem dX5_refusalOf_16 : decode cX5_refusalOf 16 = .ok (.invokevirtual 130, 3) := by decide +kernel
theorem dX5_refusalOf_19 : decode cX5_refusalOf 19 = .ok (.ifCond .ne 6, 3) := by decide +kernel
theorem dX5_refusalOf_22 : decode cX5_refusalOf 22 = .ok (.bipush (-2), 2) := by decide +kernel
theorem dX5_refusalOf_24 : decode cX5_refusalOf 24 = .ok (.ireturn, 1) := by decide +kernel
theorem dX5_refusalOf_25 : decode cX5_refusalOf 25 = .ok (.iload_n 3, 1) := by decide +kernel
theorem dX5_refusalOf_26 : decode cX5_refusalOf 26 = .ok (.iconst 0, 1) := by decide +kernel
theorem dX5_refusalOf_27 : decode cX5_refusalOf 27 = .ok (.bipush 99, 2) := by decide +kernel
theorem dX5_refusalOf_29 : decode cX5_refusalOf 29 = .ok (.invokestatic 70, 3) := by decide +kernel
theorem dX5_refusalOf_32 : decode cX5_refusalOf 32 = .ok (.ifCond .eq 7, 3) := by decide +kernel
theorem dX5_refusalOf_35 : decode cX5_refusalOf 35 = .ok (.iconst 0, 1) := by decide +kernel
theorem dX5_refusalOf_36 : decode cX5_refusalOf 36 = .ok (.goto 5, 3) := by decide +kernel
theorem dX5_refusalOf_39 : decode cX5_refusalOf 39 = .ok (.bipush (-3), 2) := by decide +kernel
theorem dX5_refusalOf_41 : decode cX5_refusalOf 41 = .ok (.ireturn, 1) := by decide +kernel
set_option maxRecDepth 20000 in
theorem ggX5_perform_X2_number : GoodIn wsX5_perform wsX2_number := goodIn_r _ [7, 8, 58, 59, 60, 61, 62, 63, 64, 65, 66] (by decide +kernel) (by decide +kernel)
set_option maxRecDepth 20000 in
theorem gX5_perform_X2_number_n257 : GoodIn wsX5_perform (wsX2_number) := ggX5_perform_X2_number
set_option maxRecDepth 20000 in
theorem ggX5_perform_X4_restart : GoodIn wsX5_perform wsX4_restart := goodIn_r _ [12, 13, 14, 15, 16, 17, 18, 67, 68, 69, 70, 71, 72, 73, 74, 75, 76, 77, 78] (by decide +kernel) (by decide +kernel)
set_option maxRecDepth 20000 in
theorem gX5_perform_X4_restart_n263 : GoodIn wsX5_perform (wsX4_restart) := ggX5_perform_X4_restart
set_option maxRecDepth 20000 in
theorem ggX5_perform_X0_idleAll : GoodIn wsX5_perform wsX0_idleAll := goodIn_r _ [22, 23, 79, 80, 81, 82] (by decide +kernel) (by decide +kernel)
set_option maxRecDepth 20000 in
theorem gX5_perform_X0_idleAll_n265 : GoodIn wsX5_perform (wsX0_idleAll) := ggX5_perform_X0_idleAll
set_option maxRecDepth 20000 in
theorem ggX5_perform_X4_can : GoodIn wsX5_perform wsX4_can := goodIn_r _ [26, 27, 28, 29, 17, 30, 31, 32, 33, 34, 35, 10, 36, 67, 68, 69, 70, 71, 72, 73, 74, 75, 76, 77, 78] (by decide +kernel) (by decide +kernel)
set_option maxRecDepth 20000 in
theorem gX5_perform_X4_can_n165 : GoodIn wsX5_perform (wsX4_can) := ggX5_perform_X4_can
set_option maxRecDepth 20000 in
theorem ggX5_perform_X4_setLiking : GoodIn wsX5_perform wsX4_setLiking := goodIn_r _ [39, 18, 67, 68, 69, 70, 71, 72, 73, 74, 75, 76, 77, 78] (by decide +kernel) (by decide +kernel)
set_option maxRecDepth 20000 in
theorem gX5_perform_X4_setLiking_n268 : GoodIn wsX5_perform (wsX4_setLiking) := ggX5_perform_X4_setLiking
set_option maxRecDepth 20000 in
theorem ggX5_perform_X4_addDeed : GoodIn wsX5_perform wsX4_addDeed := goodIn_r _ [42, 14, 28, 29, 27, 43, 44, 67, 68, 69, 70, 71, 72, 73, 74, 75, 76, 77, 78] (by decide +kernel) (by decide +kernel)
set_option maxRecDepth 20000 in
theorem gX5_perform_X4_addDeed_n272 : GoodIn wsX5_perform (wsX4_addDeed) := ggX5_perform_X4_addDeed
theorem dX5_perform_0 : decode cX5_perform 0 = .ok (.aload_n 0, 1) := by decide +kernel
theorem dX5_perform_1 : decode cX5_perform 1 = .ok (.getfield 12, 3) := by decide +kernel
theorem dX5_perform_4 : decode cX5_perform 4 = .ok (.iload_n 1, 1) := by decide +kernel
theorem dX5_perform_5 : decode cX5_perform 5 = .ok (.iconst 0, 1) := by decide +kernel
theorem dX5_perform_6 : decode cX5_perform 6 = .ok (.invokevirtual 257, 3) := by decide +kernel
theorem dX5_perform_9 : decode cX5_perform 9 = .ok (.istore_n 2, 1) := by decide +kernel
theorem dX5_perform_10 : decode cX5_perform 10 = .ok (.aload_n 0, 1) := by decide +kernel
theorem dX5_perform_11 : decode cX5_perform 11 = .ok (.getfield 12, 3) := by decide +kernel
theorem dX5_perform_14 : decode cX5_perform 14 = .ok (.iload_n 1, 1) := by decide +kernel
theorem dX5_perform_15 : decode cX5_perform 15 = .ok (.iconst 1, 1) := by decide +kernel
theorem dX5_perform_16 : decode cX5_perform 16 = .ok (.invokevirtual 257, 3) := by decide +kernel
theorem dX5_perform_19 : decode cX5_perform 19 = .ok (.istore_n 3, 1) := by decide +kernel
theorem dX5_perform_20 : decode cX5_perform 20 = .ok (.aload_n 0, 1) := by decide +kernel
theorem dX5_perform_21 : decode cX5_perform 21 = .ok (.getfield 12, 3) := by decide +kernel
theorem dX5_perform_24 : decode cX5_perform 24 = .ok (.iload_n 1, 1) := by decide +kernel
theorem dX5_perform_25 : decode cX5_perform 25 = .ok (.iconst 2, 1) := by decide +kernel
theorem dX5_perform_26 : decode cX5_perform 26 = .ok (.invokevirtual 257, 3) := by decide +kernel
theorem dX5_perform_29 : decode cX5_perform 29 = .ok (.istore 4, 2) := by decide +kernel
theorem dX5_perform_31 : decode cX5_perform 31 = .ok (.aload_n 0, 1) := by decide +kernel
theorem dX5_perform_32 : decode cX5_perform 32 = .ok (.getfield 12, 3) := by decide +kernel
theorem dX5_perform_35 : decode cX5_perform 35 = .ok (.iload_n 1, 1) := by decide +kernel
theorem dX5_perform_36 : decode cX5_perform 36 = .ok (.iconst 3, 1) := by decide +kernel
theorem dX5_perform_37 : decode cX5_perform 37 = .ok (.invokevirtual 257, 3) := by decide +kernel
theorem dX5_perform_40 : decode cX5_perform 40 = .ok (.istore 5, 2) := by decide +kernel
theorem dX5_perform_42 : decode cX5_perform 42 = .ok (.aload_n 0, 1) := by decide +kernel
theorem dX5_perform_43 : decode cX5_perform 43 = .ok (.getfield 12, 3) := by decide +kernel
theorem dX5_perform_46 : decode cX5_perform 46 = .ok (.getfield 260, 3) := by decide +kernel
theorem dX5_perform_49 : decode cX5_perform 49 = .ok (.iload_n 1, 1) := by decide +kernel
theorem dX5_perform_50 : decode cX5_perform 50 = .ok (.iaload, 1) := by decide +kernel
theorem dX5_perform_51 : decode cX5_perform 51 = .ok (.istore 6, 2) := by decide +kernel
theorem dX5_perform_53 : decode cX5_perform 53 = .ok (.iload 6, 2) := by decide +kernel
theorem dX5_perform_55 : decode cX5_perform 55 = .ok (.tableswitch 207 4 12 #[49, 67, 80, 93, 106, 142, 155, 169, 187], 49) := by decide +kernel
theorem dX5_perform_104 : decode cX5_perform 104 = .ok (.aload_n 0, 1) := by decide +kernel
theorem dX5_perform_105 : decode cX5_perform 105 = .ok (.getfield 19, 3) := by decide +kernel
theorem dX5_perform_108 : decode cX5_perform 108 = .ok (.iload_n 2, 1) := by decide +kernel
theorem dX5_perform_109 : decode cX5_perform 109 = .ok (.invokevirtual 263, 3) := by decide +kernel
theorem dX5_perform_112 : decode cX5_perform 112 = .ok (.aload_n 0, 1) := by decide +kernel
theorem dX5_perform_113 : decode cX5_perform 113 = .ok (.getfield 26, 3) := by decide +kernel
theorem dX5_perform_116 : decode cX5_perform 116 = .ok (.invokevirtual 265, 3) := by decide +kernel
theorem dX5_perform_119 : decode cX5_perform 119 = .ok (.goto 158, 3) := by decide +kernel
theorem dX5_perform_122 : decode cX5_perform 122 = .ok (.aload_n 0, 1) := by decide +kernel
theorem dX5_perform_123 : decode cX5_perform 123 = .ok (.getfield 19, 3) := by decide +kernel
theorem dX5_perform_126 : decode cX5_perform 126 = .ok (.getfield 118, 3) := by decide +kernel
theorem dX5_perform_129 : decode cX5_perform 129 = .ok (.iload_n 2, 1) := by decide +kernel
theorem dX5_perform_130 : decode cX5_perform 130 = .ok (.iload_n 3, 1) := by decide +kernel
theorem dX5_perform_131 : decode cX5_perform 131 = .ok (.iastore, 1) := by decide +kernel
theorem dX5_perform_132 : decode cX5_perform 132 = .ok (.goto 145, 3) := by decide +kernel
theorem dX5_perform_135 : decode cX5_perform 135 = .ok (.aload_n 0, 1) := by decide +kernel
theorem dX5_perform_136 : decode cX5_perform 136 = .ok (.getfield 19, 3) := by decide +kernel
theorem dX5_perform_139 : decode cX5_perform 139 = .ok (.getfield 118, 3) := by decide +kernel
theorem dX5_perform_142 : decode cX5_perform 142 = .ok (.iload_n 2, 1) := by decide +kernel
theorem dX5_perform_143 : decode cX5_perform 143 = .ok (.iconst (-1), 1) := by decide +kernel
theorem dX5_perform_144 : decode cX5_perform 144 = .ok (.iastore, 1) := by decide +kernel
theorem dX5_perform_145 : decode cX5_perform 145 = .ok (.goto 132, 3) := by decide +kernel
theorem dX5_perform_148 : decode cX5_perform 148 = .ok (.aload_n 0, 1) := by decide +kernel
theorem dX5_perform_149 : decode cX5_perform 149 = .ok (.getfield 19, 3) := by decide +kernel
theorem dX5_perform_152 : decode cX5_perform 152 = .ok (.getfield 121, 3) := by decide +kernel
theorem dX5_perform_155 : decode cX5_perform 155 = .ok (.iload_n 2, 1) := by decide +kernel
theorem dX5_perform_156 : decode cX5_perform 156 = .ok (.iload_n 3, 1) := by decide +kernel
theorem dX5_perform_157 : decode cX5_perform 157 = .ok (.iastore, 1) := by decide +kernel
theorem dX5_perform_158 : decode cX5_perform 158 = .ok (.goto 119, 3) := by decide +kernel
theorem dX5_perform_161 : decode cX5_perform 161 = .ok (.aload_n 0, 1) := by decide +kernel
theorem dX5_perform_162 : decode cX5_perform 162 = .ok (.getfield 26, 3) := by decide +kernel
theorem dX5_perform_165 : decode cX5_perform 165 = .ok (.getfield 124, 3) := by decide +kernel
theorem dX5_perform_168 : decode cX5_perform 168 = .ok (.iload_n 2, 1) := by decide +kernel
theorem dX5_perform_169 : decode cX5_perform 169 = .ok (.aload_n 0, 1) := by decide +kernel
theorem dX5_perform_170 : decode cX5_perform 170 = .ok (.getfield 19, 3) := by decide +kernel
theorem dX5_perform_173 : decode cX5_perform 173 = .ok (.iload_n 2, 1) := by decide +kernel
theorem dX5_perform_174 : decode cX5_perform 174 = .ok (.iload_n 3, 1) := by decide +kernel
theorem dX5_perform_175 : decode cX5_perform 175 = .ok (.aload_n 0, 1) := by decide +kernel
theorem dX5_perform_176 : decode cX5_perform 176 = .ok (.getfield 19, 3) := by decide +kernel
theorem dX5_perform_179 : decode cX5_perform 179 = .ok (.getfield 148, 3) := by decide +kernel
theorem dX5_perform_182 : decode cX5_perform 182 = .ok (.invokevirtual 165, 3) := by decide +kernel
theorem dX5_perform_185 : decode cX5_perform 185 = .ok (.ifCond .eq 7, 3) := by decide +kernel
theorem dX5_perform_188 : decode cX5_perform 188 = .ok (.iload_n 3, 1) := by decide +kernel
theorem dX5_perform_189 : decode cX5_perform 189 = .ok (.goto 4, 3) := by decide +kernel
theorem dX5_perform_192 : decode cX5_perform 192 = .ok (.iconst (-1), 1) := by decide +kernel
theorem dX5_perform_193 : decode cX5_perform 193 = .ok (.iastore, 1) := by decide +kernel
theorem dX5_perform_194 : decode cX5_perform 194 = .ok (.goto 83, 3) := by decide +kernel
theorem dX5_perform_197 : decode cX5_perform 197 = .ok (.aload_n 0, 1) := by decide +kernel
theorem dX5_perform_198 : decode cX5_perform 198 = .ok (.getfield 26, 3) := by decide +kernel
theorem dX5_perform_201 : decode cX5_perform 201 = .ok (.getfield 124, 3) := by decide +kernel
theorem dX5_perform_204 : decode cX5_perform 204 = .ok (.iload_n 2, 1) := by decide +kernel
theorem dX5_perform_205 : decode cX5_perform 205 = .ok (.iconst (-1), 1) := by decide +kernel
theorem dX5_perform_206 : decode cX5_perform 206 = .ok (.iastore, 1) := by decide +kernel
theorem dX5_perform_207 : decode cX5_perform 207 = .ok (.goto 70, 3) := by decide +kernel
theorem dX5_perform_210 : decode cX5_perform 210 = .ok (.aload_n 0, 1) := by decide +kernel
theorem dX5_perform_211 : decode cX5_perform 211 = .ok (.getfield 19, 3) := by decide +kernel
theorem dX5_perform_214 : decode cX5_perform 214 = .ok (.iload_n 2, 1) := by decide +kernel
theorem dX5_perform_215 : decode cX5_perform 215 = .ok (.iload_n 3, 1) := by decide +kernel
theorem dX5_perform_216 : decode cX5_perform 216 = .ok (.iload 4, 2) := by decide +kernel
theorem dX5_perform_218 : decode cX5_perform 218 = .ok (.invokevirtual 268, 3) := by decide +kernel
theorem dX5_perform_221 : decode cX5_perform 221 = .ok (.goto 56, 3) := by decide +kernel
theorem dX5_perform_224 : decode cX5_perform 224 = .ok (.aload_n 0, 1) := by decide +kernel
theorem dX5_perform_225 : decode cX5_perform 225 = .ok (.getfield 19, 3) := by decide +kernel
theorem dX5_perform_228 : decode cX5_perform 228 = .ok (.dup, 1) := by decide +kernel
theorem dX5_perform_229 : decode cX5_perform 229 = .ok (.getfield 148, 3) := by decide +kernel
theorem dX5_perform_232 : decode cX5_perform 232 = .ok (.iconst 1, 1) := by decide +kernel
theorem dX5_perform_233 : decode cX5_perform 233 = .ok (.iload_n 2, 1) := by decide +kernel
theorem dX5_perform_234 : decode cX5_perform 234 = .ok (.ishl, 1) := by decide +kernel
theorem dX5_perform_235 : decode cX5_perform 235 = .ok (.ior, 1) := by decide +kernel
theorem dX5_perform_236 : decode cX5_perform 236 = .ok (.putfield 148, 3) := by decide +kernel
theorem dX5_perform_239 : decode cX5_perform 239 = .ok (.goto 38, 3) := by decide +kernel
theorem dX5_perform_242 : decode cX5_perform 242 = .ok (.aload_n 0, 1) := by decide +kernel
theorem dX5_perform_243 : decode cX5_perform 243 = .ok (.getfield 19, 3) := by decide +kernel
theorem dX5_perform_246 : decode cX5_perform 246 = .ok (.dup, 1) := by decide +kernel
theorem dX5_perform_247 : decode cX5_perform 247 = .ok (.getfield 148, 3) := by decide +kernel
theorem dX5_perform_250 : decode cX5_perform 250 = .ok (.iconst 1, 1) := by decide +kernel
theorem dX5_perform_251 : decode cX5_perform 251 = .ok (.iload_n 2, 1) := by decide +kernel
theorem dX5_perform_252 : decode cX5_perform 252 = .ok (.ishl, 1) := by decide +kernel
theorem dX5_perform_253 : decode cX5_perform 253 = .ok (.iconst (-1), 1) := by decide +kernel
theorem dX5_perform_254 : decode cX5_perform 254 = .ok (.ixor, 1) := by decide +kernel
theorem dX5_perform_255 : decode cX5_perform 255 = .ok (.iand, 1) := by decide +kernel
theorem dX5_perform_256 : decode cX5_perform 256 = .ok (.putfield 148, 3) := by decide +kernel
theorem dX5_perform_259 : decode cX5_perform 259 = .ok (.goto 18, 3) := by decide +kernel
theorem dX5_perform_262 : decode cX5_perform 262 = .ok (.aload_n 0, 1) := by decide +kernel
theorem dX5_perform_263 : decode cX5_perform 263 = .ok (.getfield 19, 3) := by decide +kernel
theorem dX5_perform_266 : decode cX5_perform 266 = .ok (.iload 6, 2) := by decide +kernel
theorem dX5_perform_268 : decode cX5_perform 268 = .ok (.iload_n 2, 1) := by decide +kernel
theorem dX5_perform_269 : decode cX5_perform 269 = .ok (.iload_n 3, 1) := by decide +kernel
theorem dX5_perform_270 : decode cX5_perform 270 = .ok (.iload 4, 2) := by decide +kernel
theorem dX5_perform_272 : decode cX5_perform 272 = .ok (.iload 5, 2) := by decide +kernel
theorem dX5_perform_274 : decode cX5_perform 274 = .ok (.invokevirtual 272, 3) := by decide +kernel
theorem dX5_perform_277 : decode cX5_perform 277 = .ok (.return_, 1) := by decide +kernel
set_option maxRecDepth 20000 in
theorem ggX5_foresee_X4_passDay : GoodIn wsX5_foresee wsX4_passDay := goodIn_r _ [11, 12, 13, 14, 4, 5, 6, 15, 16, 17, 9, 18, 19, 20, 21, 22, 23, 24, 25, 26, 27, 28, 29, 30, 31, 32, 33, 34, 52, 53, 54, 55, 56, 57, 58, 59, 60, 61, 62, 63] (by decide +kernel) (by decide +kernel)
set_option maxRecDepth 20000 in
theorem gX5_foresee_X4_passDay_n174 : GoodIn wsX5_foresee (wsX4_passDay) := ggX5_foresee_X4_passDay
theorem dX5_foresee_0 : decode cX5_foresee 0 = .ok (.aload_n 0, 1) := by decide +kernel
theorem dX5_foresee_1 : decode cX5_foresee 1 = .ok (.getfield 26, 3) := by decide +kernel
theorem dX5_foresee_4 : decode cX5_foresee 4 = .ok (.getfield 124, 3) := by decide +kernel
theorem dX5_foresee_7 : decode cX5_foresee 7 = .ok (.iconst 0, 1) := by decide +kernel
theorem dX5_foresee_8 : decode cX5_foresee 8 = .ok (.aload_n 0, 1) := by decide +kernel
theorem dX5_foresee_9 : decode cX5_foresee 9 = .ok (.getfield 44, 3) := by decide +kernel
theorem dX5_foresee_12 : decode cX5_foresee 12 = .ok (.iconst 0, 1) := by decide +kernel
theorem dX5_foresee_13 : decode cX5_foresee 13 = .ok (.bipush 8, 2) := by decide +kernel
theorem dX5_foresee_15 : decode cX5_foresee 15 = .ok (.invokestatic 214, 3) := by decide +kernel
theorem dX5_foresee_18 : decode cX5_foresee 18 = .ok (.iconst 0, 1) := by decide +kernel
theorem dX5_foresee_19 : decode cX5_foresee 19 = .ok (.istore_n 2, 1) := by decide +kernel
theorem dX5_foresee_20 : decode cX5_foresee 20 = .ok (.iload_n 2, 1) := by decide +kernel
theorem dX5_foresee_21 : decode cX5_foresee 21 = .ok (.iload_n 1, 1) := by decide +kernel
theorem dX5_foresee_22 : decode cX5_foresee 22 = .ok (.if_icmp .ge 27, 3) := by decide +kernel
theorem dX5_foresee_25 : decode cX5_foresee 25 = .ok (.aload_n 0, 1) := by decide +kernel
theorem dX5_foresee_26 : decode cX5_foresee 26 = .ok (.getfield 19, 3) := by decide +kernel
theorem dX5_foresee_29 : decode cX5_foresee 29 = .ok (.aload_n 0, 1) := by decide +kernel
theorem dX5_foresee_30 : decode cX5_foresee 30 = .ok (.getfield 44, 3) := by decide +kernel
theorem dX5_foresee_33 : decode cX5_foresee 33 = .ok (.aload_n 0, 1) := by decide +kernel
theorem dX5_foresee_34 : decode cX5_foresee 34 = .ok (.getfield 19, 3) := by decide +kernel
theorem dX5_foresee_37 : decode cX5_foresee 37 = .ok (.getfield 148, 3) := by decide +kernel
theorem dX5_foresee_40 : decode cX5_foresee 40 = .ok (.invokevirtual 174, 3) := by decide +kernel
theorem dX5_foresee_43 : decode cX5_foresee 43 = .ok (.iinc 2 1, 3) := by decide +kernel
theorem dX5_foresee_46 : decode cX5_foresee 46 = .ok (.goto (-26), 3) := by decide +kernel
theorem dX5_foresee_49 : decode cX5_foresee 49 = .ok (.return_, 1) := by decide +kernel
set_option maxRecDepth 20000 in
theorem ggX5_foreseeStates_X5_foresee : GoodIn wsX5_foreseeStates wsX5_foresee := goodIn_r _ [8, 9, 2, 10, 11, 12, 13, 1, 14, 15, 16, 17, 18, 19, 20, 21, 22, 23, 24, 25, 26, 27, 28, 29, 30, 31, 32, 33, 34, 7, 35, 36, 37, 38, 39, 40, 41, 42, 43, 44, 45, 46, 47, 48, 49, 50, 51, 52, 65, 66, 67, 68, 53, 54, 55, 56, 57, 58, 59, 60, 61, 62, 63, 64] (by decide +kernel) (by decide +kernel)
set_option maxRecDepth 20000 in
theorem gX5_foreseeStates_X5_foresee : GoodIn wsX5_foreseeStates (wsV RX5 178 RX5 yX5_foresee wsX5_foresee) := goodIn_app (goodIn_of _ (by decide +kernel)) ggX5_foreseeStates_X5_foresee
set_option maxRecDepth 20000 in
theorem ggX5_foreseeStates_X4_passDay : GoodIn wsX5_foreseeStates wsX4_passDay := goodIn_r _ [17, 18, 19, 20, 11, 12, 13, 21, 22, 23, 15, 24, 25, 26, 27, 28, 29, 30, 31, 32, 33, 34, 7, 35, 36, 37, 38, 39, 53, 54, 55, 56, 57, 58, 59, 60, 61, 62, 63, 64] (by decide +kernel) (by decide +kernel)
set_option maxRecDepth 20000 in
theorem gX5_foreseeStates_X4_passDay_n174 : GoodIn wsX5_foreseeStates (wsX4_passDay) := ggX5_foreseeStates_X4_passDay
theorem dX5_foreseeStates_0 : decode cX5_foreseeStates 0 = .ok (.aload_n 0, 1) := by decide +kernel
theorem dX5_foreseeStates_1 : decode cX5_foreseeStates 1 = .ok (.iconst 0, 1) := by decide +kernel
theorem dX5_foreseeStates_2 : decode cX5_foreseeStates 2 = .ok (.invokevirtual 178, 3) := by decide +kernel
theorem dX5_foreseeStates_5 : decode cX5_foreseeStates 5 = .ok (.iconst 0, 1) := by decide +kernel
theorem dX5_foreseeStates_6 : decode cX5_foreseeStates 6 = .ok (.istore_n 1, 1) := by decide +kernel
theorem dX5_foreseeStates_7 : decode cX5_foreseeStates 7 = .ok (.iload_n 1, 1) := by decide +kernel
theorem dX5_foreseeStates_8 : decode cX5_foreseeStates 8 = .ok (.bipush 32, 2) := by decide +kernel
theorem dX5_foreseeStates_10 : decode cX5_foreseeStates 10 = .ok (.if_icmp .ge 69, 3) := by decide +kernel
theorem dX5_foreseeStates_13 : decode cX5_foreseeStates 13 = .ok (.iconst 0, 1) := by decide +kernel
theorem dX5_foreseeStates_14 : decode cX5_foreseeStates 14 = .ok (.istore_n 2, 1) := by decide +kernel
theorem dX5_foreseeStates_15 : decode cX5_foreseeStates 15 = .ok (.iconst 0, 1) := by decide +kernel
theorem dX5_foreseeStates_16 : decode cX5_foreseeStates 16 = .ok (.istore_n 3, 1) := by decide +kernel
theorem dX5_foreseeStates_17 : decode cX5_foreseeStates 17 = .ok (.iload_n 3, 1) := by decide +kernel
theorem dX5_foreseeStates_18 : decode cX5_foreseeStates 18 = .ok (.aload_n 0, 1) := by decide +kernel
theorem dX5_foreseeStates_19 : decode cX5_foreseeStates 19 = .ok (.getfield 19, 3) := by decide +kernel
theorem dX5_foreseeStates_22 : decode cX5_foreseeStates 22 = .ok (.getfield 88, 3) := by decide +kernel
theorem dX5_foreseeStates_25 : decode cX5_foreseeStates 25 = .ok (.if_icmp .ge 23, 3) := by decide +kernel
theorem dX5_foreseeStates_28 : decode cX5_foreseeStates 28 = .ok (.iload_n 2, 1) := by decide +kernel
theorem dX5_foreseeStates_29 : decode cX5_foreseeStates 29 = .ok (.bipush 7, 2) := by decide +kernel
theorem dX5_foreseeStates_31 : decode cX5_foreseeStates 31 = .ok (.imul, 1) := by decide +kernel
theorem dX5_foreseeStates_32 : decode cX5_foreseeStates 32 = .ok (.aload_n 0, 1) := by decide +kernel
theorem dX5_foreseeStates_33 : decode cX5_foreseeStates 33 = .ok (.getfield 44, 3) := by decide +kernel
theorem dX5_foreseeStates_36 : decode cX5_foreseeStates 36 = .ok (.iload_n 3, 1) := by decide +kernel
theorem dX5_foreseeStates_37 : decode cX5_foreseeStates 37 = .ok (.iaload, 1) := by decide +kernel
theorem dX5_foreseeStates_38 : decode cX5_foreseeStates 38 = .ok (.iadd, 1) := by decide +kernel
theorem dX5_foreseeStates_39 : decode cX5_foreseeStates 39 = .ok (.iconst 1, 1) := by decide +kernel
theorem dX5_foreseeStates_40 : decode cX5_foreseeStates 40 = .ok (.iadd, 1) := by decide +kernel
theorem dX5_foreseeStates_41 : decode cX5_foreseeStates 41 = .ok (.istore_n 2, 1) := by decide +kernel
theorem dX5_foreseeStates_42 : decode cX5_foreseeStates 42 = .ok (.iinc 3 1, 3) := by decide +kernel
theorem dX5_foreseeStates_45 : decode cX5_foreseeStates 45 = .ok (.goto (-28), 3) := by decide +kernel
theorem dX5_foreseeStates_48 : decode cX5_foreseeStates 48 = .ok (.aload_n 0, 1) := by decide +kernel
theorem dX5_foreseeStates_49 : decode cX5_foreseeStates 49 = .ok (.getfield 54, 3) := by decide +kernel
theorem dX5_foreseeStates_52 : decode cX5_foreseeStates 52 = .ok (.iload_n 1, 1) := by decide +kernel
theorem dX5_foreseeStates_53 : decode cX5_foreseeStates 53 = .ok (.iload_n 2, 1) := by decide +kernel
theorem dX5_foreseeStates_54 : decode cX5_foreseeStates 54 = .ok (.iastore, 1) := by decide +kernel
theorem dX5_foreseeStates_55 : decode cX5_foreseeStates 55 = .ok (.aload_n 0, 1) := by decide +kernel
theorem dX5_foreseeStates_56 : decode cX5_foreseeStates 56 = .ok (.getfield 19, 3) := by decide +kernel
theorem dX5_foreseeStates_59 : decode cX5_foreseeStates 59 = .ok (.aload_n 0, 1) := by decide +kernel
theorem dX5_foreseeStates_60 : decode cX5_foreseeStates 60 = .ok (.getfield 44, 3) := by decide +kernel
theorem dX5_foreseeStates_63 : decode cX5_foreseeStates 63 = .ok (.aload_n 0, 1) := by decide +kernel
theorem dX5_foreseeStates_64 : decode cX5_foreseeStates 64 = .ok (.getfield 19, 3) := by decide +kernel
theorem dX5_foreseeStates_67 : decode cX5_foreseeStates 67 = .ok (.getfield 148, 3) := by decide +kernel
theorem dX5_foreseeStates_70 : decode cX5_foreseeStates 70 = .ok (.invokevirtual 174, 3) := by decide +kernel
theorem dX5_foreseeStates_73 : decode cX5_foreseeStates 73 = .ok (.iinc 1 1, 3) := by decide +kernel
theorem dX5_foreseeStates_76 : decode cX5_foreseeStates 76 = .ok (.goto (-69), 3) := by decide +kernel
theorem dX5_foreseeStates_79 : decode cX5_foreseeStates 79 = .ok (.return_, 1) := by decide +kernel
set_option maxRecDepth 20000 in
theorem ggX5_tally_X1_clear : GoodIn wsX5_tally wsX1_clear := goodIn_r _ [6, 7, 8, 73, 74] (by decide +kernel) (by decide +kernel)
set_option maxRecDepth 20000 in
theorem gX5_tally_X1_clear_n276 : GoodIn wsX5_tally (wsX1_clear) := ggX5_tally_X1_clear
set_option maxRecDepth 20000 in
theorem ggX5_tally_X5_foresee : GoodIn wsX5_tally wsX5_foresee := goodIn_r _ [13, 14, 2, 15, 16, 17, 18, 1, 19, 20, 21, 22, 23, 24, 25, 26, 27, 28, 29, 30, 31, 32, 33, 34, 35, 36, 37, 38, 39, 12, 40, 41, 42, 43, 44, 48, 49, 50, 51, 52, 53, 54, 55, 56, 57, 58, 59, 60, 75, 76, 77, 78, 61, 62, 63, 64, 65, 66, 67, 68, 69, 70, 71, 72] (by decide +kernel) (by decide +kernel)
set_option maxRecDepth 20000 in
theorem gX5_tally_X5_foresee : GoodIn wsX5_tally (wsV RX5 178 RX5 yX5_foresee wsX5_foresee) := goodIn_app (goodIn_of _ (by decide +kernel)) ggX5_tally_X5_foresee
set_option maxRecDepth 20000 in
theorem ggX5_tally_X1_note : GoodIn wsX5_tally wsX1_note := goodIn_r _ [47, 7, 8, 73, 74, 61, 62, 63, 64, 65, 66, 67, 68, 69, 70, 71, 72] (by decide +kernel) (by decide +kernel)
set_option maxRecDepth 20000 in
theorem gX5_tally_X1_note_n278 : GoodIn wsX5_tally (wsX1_note) := ggX5_tally_X1_note
set_option maxRecDepth 20000 in
theorem ggX5_tally_X4_passDay : GoodIn wsX5_tally wsX4_passDay := goodIn_r _ [22, 23, 24, 25, 16, 17, 18, 26, 27, 28, 20, 29, 30, 31, 32, 33, 34, 35, 36, 37, 38, 39, 12, 40, 41, 42, 43, 44, 61, 62, 63, 64, 65, 66, 67, 68, 69, 70, 71, 72] (by decide +kernel) (by decide +kernel)
set_option maxRecDepth 20000 in
theorem gX5_tally_X4_passDay_n174 : GoodIn wsX5_tally (wsX4_passDay) := ggX5_tally_X4_passDay
theorem dX5_tally_0 : decode cX5_tally 0 = .ok (.aload_n 1, 1) := by decide +kernel
theorem dX5_tally_1 : decode cX5_tally 1 = .ok (.invokevirtual 276, 3) := by decide +kernel
theorem dX5_tally_4 : decode cX5_tally 4 = .ok (.aload_n 0, 1) := by decide +kernel
theorem dX5_tally_5 : decode cX5_tally 5 = .ok (.iconst 0, 1) := by decide +kernel
theorem dX5_tally_6 : decode cX5_tally 6 = .ok (.invokevirtual 178, 3) := by decide +kernel
theorem dX5_tally_9 : decode cX5_tally 9 = .ok (.iconst 0, 1) := by decide +kernel
theorem dX5_tally_10 : decode cX5_tally 10 = .ok (.istore 4, 2) := by decide +kernel
theorem dX5_tally_12 : decode cX5_tally 12 = .ok (.iload 4, 2) := by decide +kernel
theorem dX5_tally_14 : decode cX5_tally 14 = .ok (.iload_n 2, 1) := by decide +kernel
theorem dX5_tally_15 : decode cX5_tally 15 = .ok (.if_icmp .ge 70, 3) := by decide +kernel
theorem dX5_tally_18 : decode cX5_tally 18 = .ok (.iconst 0, 1) := by decide +kernel
theorem dX5_tally_19 : decode cX5_tally 19 = .ok (.istore 5, 2) := by decide +kernel
theorem dX5_tally_21 : decode cX5_tally 21 = .ok (.iload 5, 2) := by decide +kernel
theorem dX5_tally_23 : decode cX5_tally 23 = .ok (.aload_n 0, 1) := by decide +kernel
theorem dX5_tally_24 : decode cX5_tally 24 = .ok (.getfield 19, 3) := by decide +kernel
theorem dX5_tally_27 : decode cX5_tally 27 = .ok (.getfield 88, 3) := by decide +kernel
theorem dX5_tally_30 : decode cX5_tally 30 = .ok (.if_icmp .ge 37, 3) := by decide +kernel
theorem dX5_tally_33 : decode cX5_tally 33 = .ok (.aload_n 0, 1) := by decide +kernel
theorem dX5_tally_34 : decode cX5_tally 34 = .ok (.getfield 44, 3) := by decide +kernel
theorem dX5_tally_37 : decode cX5_tally 37 = .ok (.iload 5, 2) := by decide +kernel
theorem dX5_tally_39 : decode cX5_tally 39 = .ok (.iaload, 1) := by decide +kernel
theorem dX5_tally_40 : decode cX5_tally 40 = .ok (.iconst (-1), 1) := by decide +kernel
theorem dX5_tally_41 : decode cX5_tally 41 = .ok (.if_icmp .eq 20, 3) := by decide +kernel
theorem dX5_tally_44 : decode cX5_tally 44 = .ok (.aload_n 1, 1) := by decide +kernel
theorem dX5_tally_45 : decode cX5_tally 45 = .ok (.aload_n 0, 1) := by decide +kernel
theorem dX5_tally_46 : decode cX5_tally 46 = .ok (.getfield 19, 3) := by decide +kernel
theorem dX5_tally_49 : decode cX5_tally 49 = .ok (.iload 5, 2) := by decide +kernel
theorem dX5_tally_51 : decode cX5_tally 51 = .ok (.aload_n 0, 1) := by decide +kernel
theorem dX5_tally_52 : decode cX5_tally 52 = .ok (.getfield 44, 3) := by decide +kernel
theorem dX5_tally_55 : decode cX5_tally 55 = .ok (.iload 5, 2) := by decide +kernel
theorem dX5_tally_57 : decode cX5_tally 57 = .ok (.iaload, 1) := by decide +kernel
theorem dX5_tally_58 : decode cX5_tally 58 = .ok (.invokevirtual 278, 3) := by decide +kernel
theorem dX5_tally_61 : decode cX5_tally 61 = .ok (.iinc 5 1, 3) := by decide +kernel
theorem dX5_tally_64 : decode cX5_tally 64 = .ok (.goto (-43), 3) := by decide +kernel
theorem dX5_tally_67 : decode cX5_tally 67 = .ok (.aload_n 0, 1) := by decide +kernel
theorem dX5_tally_68 : decode cX5_tally 68 = .ok (.getfield 19, 3) := by decide +kernel
theorem dX5_tally_71 : decode cX5_tally 71 = .ok (.aload_n 0, 1) := by decide +kernel
theorem dX5_tally_72 : decode cX5_tally 72 = .ok (.getfield 44, 3) := by decide +kernel
theorem dX5_tally_75 : decode cX5_tally 75 = .ok (.iload_n 3, 1) := by decide +kernel
theorem dX5_tally_76 : decode cX5_tally 76 = .ok (.invokevirtual 174, 3) := by decide +kernel
theorem dX5_tally_79 : decode cX5_tally 79 = .ok (.iinc 4 1, 3) := by decide +kernel
theorem dX5_tally_82 : decode cX5_tally 82 = .ok (.goto (-70), 3) := by decide +kernel
theorem dX5_tally_85 : decode cX5_tally 85 = .ok (.return_, 1) := by decide +kernel
set_option maxRecDepth 20000 in
theorem ggX5_rowsThatFit_X4_abilities : GoodIn wsX5_rowsThatFit wsX4_abilities := goodIn_r _ [6, 7, 8, 9, 10, 11, 4, 12, 13, 14, 15, 16, 17, 18, 19, 20, 21, 22, 23, 56, 57, 58, 59, 60, 61, 62, 63, 64, 65, 66, 67] (by decide +kernel) (by decide +kernel)
set_option maxRecDepth 20000 in
theorem gX5_rowsThatFit_X4_abilities_n282 : GoodIn wsX5_rowsThatFit (wsX4_abilities) := ggX5_rowsThatFit_X4_abilities
set_option maxRecDepth 20000 in
theorem ggX5_rowsThatFit_X5_narrow : GoodIn wsX5_rowsThatFit wsX5_narrow := goodIn_r _ [27, 1, 2, 28, 4, 29, 30, 31, 32, 33, 34, 35, 3, 5, 6, 7, 8, 9, 10, 11, 12, 13, 14, 15, 16, 17, 18, 19, 20, 21, 22, 23, 43, 44, 45, 46, 47, 48, 49, 50, 51, 52, 53, 54, 55, 56, 57, 58, 59, 60, 61, 62, 63, 64, 65, 66, 67] (by decide +kernel) (by decide +kernel)
set_option maxRecDepth 20000 in
theorem gX5_rowsThatFit_X5_narrow : GoodIn wsX5_rowsThatFit (wsV RX5 291 RX5 yX5_narrow wsX5_narrow) := goodIn_app (goodIn_of _ (by decide +kernel)) ggX5_rowsThatFit_X5_narrow
set_option maxRecDepth 20000 in
theorem ggX5_rowsThatFit_J6_bitCount_0f7a4 : GoodIn wsX5_rowsThatFit wsJ6_bitCount_0f7a4 := goodIn_r _ [39, 40, 41, 42] (by decide +kernel) (by decide +kernel)
set_option maxRecDepth 20000 in
theorem gX5_rowsThatFit_J6_bitCount_0f7a4 : GoodIn wsX5_rowsThatFit (va_wsS RX5 242 yJ6_bitCount_0f7a4 wsJ6_bitCount_0f7a4) := goodIn_app (goodIn_of _ (by decide +kernel)) ggX5_rowsThatFit_J6_bitCount_0f7a4
theorem dX5_rowsThatFit_0 : decode cX5_rowsThatFit 0 = .ok (.iconst 0, 1) := by decide +kernel
theorem dX5_rowsThatFit_1 : decode cX5_rowsThatFit 1 = .ok (.istore_n 2, 1) := by decide +kernel
theorem dX5_rowsThatFit_2 : decode cX5_rowsThatFit 2 = .ok (.iload_n 2, 1) := by decide +kernel
theorem dX5_rowsThatFit_3 : decode cX5_rowsThatFit 3 = .ok (.aload_n 0, 1) := by decide +kernel
theorem dX5_rowsThatFit_4 : decode cX5_rowsThatFit 4 = .ok (.getfield 19, 3) := by decide +kernel
theorem dX5_rowsThatFit_7 : decode cX5_rowsThatFit 7 = .ok (.getfield 88, 3) := by decide +kernel
theorem dX5_rowsThatFit_10 : decode cX5_rowsThatFit 10 = .ok (.if_icmp .ge 26, 3) := by decide +kernel
theorem dX5_rowsThatFit_13 : decode cX5_rowsThatFit 13 = .ok (.aload_n 0, 1) := by decide +kernel
theorem dX5_rowsThatFit_14 : decode cX5_rowsThatFit 14 = .ok (.getfield 51, 3) := by decide +kernel
theorem dX5_rowsThatFit_17 : decode cX5_rowsThatFit 17 = .ok (.iload_n 2, 1) := by decide +kernel
theorem dX5_rowsThatFit_18 : decode cX5_rowsThatFit 18 = .ok (.aload_n 0, 1) := by decide +kernel
theorem dX5_rowsThatFit_19 : decode cX5_rowsThatFit 19 = .ok (.getfield 19, 3) := by decide +kernel
theorem dX5_rowsThatFit_22 : decode cX5_rowsThatFit 22 = .ok (.iload_n 2, 1) := by decide +kernel
theorem dX5_rowsThatFit_23 : decode cX5_rowsThatFit 23 = .ok (.invokevirtual 282, 3) := by decide +kernel
theorem dX5_rowsThatFit_26 : decode cX5_rowsThatFit 26 = .ok (.bipush 64, 2) := by decide +kernel
theorem dX5_rowsThatFit_28 : decode cX5_rowsThatFit 28 = .ok (.ior, 1) := by decide +kernel
theorem dX5_rowsThatFit_29 : decode cX5_rowsThatFit 29 = .ok (.iastore, 1) := by decide +kernel
theorem dX5_rowsThatFit_30 : decode cX5_rowsThatFit 30 = .ok (.iinc 2 1, 3) := by decide +kernel
theorem dX5_rowsThatFit_33 : decode cX5_rowsThatFit 33 = .ok (.goto (-31), 3) := by decide +kernel
theorem dX5_rowsThatFit_36 : decode cX5_rowsThatFit 36 = .ok (.iconst 0, 1) := by decide +kernel
theorem dX5_rowsThatFit_37 : decode cX5_rowsThatFit 37 = .ok (.istore_n 2, 1) := by decide +kernel
theorem dX5_rowsThatFit_38 : decode cX5_rowsThatFit 38 = .ok (.iload_n 2, 1) := by decide +kernel
theorem dX5_rowsThatFit_39 : decode cX5_rowsThatFit 39 = .ok (.aload_n 1, 1) := by decide +kernel
theorem dX5_rowsThatFit_40 : decode cX5_rowsThatFit 40 = .ok (.getfield 254, 3) := by decide +kernel
theorem dX5_rowsThatFit_43 : decode cX5_rowsThatFit 43 = .ok (.if_icmp .ge 31, 3) := by decide +kernel
theorem dX5_rowsThatFit_46 : decode cX5_rowsThatFit 46 = .ok (.aload_n 0, 1) := by decide +kernel
theorem dX5_rowsThatFit_47 : decode cX5_rowsThatFit 47 = .ok (.aload_n 1, 1) := by decide +kernel
theorem dX5_rowsThatFit_48 : decode cX5_rowsThatFit 48 = .ok (.getfield 285, 3) := by decide +kernel
theorem dX5_rowsThatFit_51 : decode cX5_rowsThatFit 51 = .ok (.iload_n 2, 1) := by decide +kernel
theorem dX5_rowsThatFit_52 : decode cX5_rowsThatFit 52 = .ok (.iaload, 1) := by decide +kernel
theorem dX5_rowsThatFit_53 : decode cX5_rowsThatFit 53 = .ok (.aload_n 1, 1) := by decide +kernel
theorem dX5_rowsThatFit_54 : decode cX5_rowsThatFit 54 = .ok (.getfield 287, 3) := by decide +kernel
theorem dX5_rowsThatFit_57 : decode cX5_rowsThatFit 57 = .ok (.iload_n 2, 1) := by decide +kernel
theorem dX5_rowsThatFit_58 : decode cX5_rowsThatFit 58 = .ok (.iaload, 1) := by decide +kernel
theorem dX5_rowsThatFit_59 : decode cX5_rowsThatFit 59 = .ok (.aload_n 1, 1) := by decide +kernel
theorem dX5_rowsThatFit_60 : decode cX5_rowsThatFit 60 = .ok (.getfield 289, 3) := by decide +kernel
theorem dX5_rowsThatFit_63 : decode cX5_rowsThatFit 63 = .ok (.iload_n 2, 1) := by decide +kernel
theorem dX5_rowsThatFit_64 : decode cX5_rowsThatFit 64 = .ok (.iaload, 1) := by decide +kernel
theorem dX5_rowsThatFit_65 : decode cX5_rowsThatFit 65 = .ok (.invokevirtual 291, 3) := by decide +kernel
theorem dX5_rowsThatFit_68 : decode cX5_rowsThatFit 68 = .ok (.iinc 2 1, 3) := by decide +kernel
theorem dX5_rowsThatFit_71 : decode cX5_rowsThatFit 71 = .ok (.goto (-33), 3) := by decide +kernel
theorem dX5_rowsThatFit_74 : decode cX5_rowsThatFit 74 = .ok (.iconst 1, 1) := by decide +kernel
theorem dX5_rowsThatFit_75 : decode cX5_rowsThatFit 75 = .ok (.istore_n 2, 1) := by decide +kernel
theorem dX5_rowsThatFit_76 : decode cX5_rowsThatFit 76 = .ok (.iconst 0, 1) := by decide +kernel
theorem dX5_rowsThatFit_77 : decode cX5_rowsThatFit 77 = .ok (.istore_n 3, 1) := by decide +kernel
theorem dX5_rowsThatFit_78 : decode cX5_rowsThatFit 78 = .ok (.iload_n 3, 1) := by decide +kernel
theorem dX5_rowsThatFit_79 : decode cX5_rowsThatFit 79 = .ok (.aload_n 0, 1) := by decide +kernel
theorem dX5_rowsThatFit_80 : decode cX5_rowsThatFit 80 = .ok (.getfield 19, 3) := by decide +kernel
theorem dX5_rowsThatFit_83 : decode cX5_rowsThatFit 83 = .ok (.getfield 88, 3) := by decide +kernel
theorem dX5_rowsThatFit_86 : decode cX5_rowsThatFit 86 = .ok (.if_icmp .ge 21, 3) := by decide +kernel
theorem dX5_rowsThatFit_89 : decode cX5_rowsThatFit 89 = .ok (.iload_n 2, 1) := by decide +kernel
theorem dX5_rowsThatFit_90 : decode cX5_rowsThatFit 90 = .ok (.aload_n 0, 1) := by decide +kernel
theorem dX5_rowsThatFit_91 : decode cX5_rowsThatFit 91 = .ok (.getfield 51, 3) := by decide +kernel
theorem dX5_rowsThatFit_94 : decode cX5_rowsThatFit 94 = .ok (.iload_n 3, 1) := by decide +kernel
theorem dX5_rowsThatFit_95 : decode cX5_rowsThatFit 95 = .ok (.iaload, 1) := by decide +kernel
theorem dX5_rowsThatFit_96 : decode cX5_rowsThatFit 96 = .ok (.invokestatic 242, 3) := by decide +kernel
theorem dX5_rowsThatFit_99 : decode cX5_rowsThatFit 99 = .ok (.imul, 1) := by decide +kernel
theorem dX5_rowsThatFit_100 : decode cX5_rowsThatFit 100 = .ok (.istore_n 2, 1) := by decide +kernel
theorem dX5_rowsThatFit_101 : decode cX5_rowsThatFit 101 = .ok (.iinc 3 1, 3) := by decide +kernel
theorem dX5_rowsThatFit_104 : decode cX5_rowsThatFit 104 = .ok (.goto (-26), 3) := by decide +kernel
theorem dX5_rowsThatFit_107 : decode cX5_rowsThatFit 107 = .ok (.iload_n 2, 1) := by decide +kernel
theorem dX5_rowsThatFit_108 : decode cX5_rowsThatFit 108 = .ok (.ireturn, 1) := by decide +kernel
set_option maxRecDepth 20000 in
theorem ggX5_narrow_X4_wayEnd : GoodIn wsX5_narrow wsX4_wayEnd := goodIn_r _ [6, 7, 45, 46, 47, 48, 49, 50, 51, 52, 53, 54, 55, 56] (by decide +kernel) (by decide +kernel)
set_option maxRecDepth 20000 in
theorem gX5_narrow_X4_wayEnd_n191 : GoodIn wsX5_narrow (wsX4_wayEnd) := ggX5_narrow_X4_wayEnd
set_option maxRecDepth 20000 in
theorem ggX5_narrow_X4_passing : GoodIn wsX5_narrow wsX4_passing := goodIn_r _ [10, 7, 11, 12, 13, 4, 14, 15, 16, 17, 18, 19, 20, 21, 22, 23, 24, 25, 26, 27, 28, 29, 30, 31, 45, 46, 47, 48, 49, 50, 51, 52, 53, 54, 55, 56] (by decide +kernel) (by decide +kernel)
set_option maxRecDepth 20000 in
theorem gX5_narrow_X4_passing_n188 : GoodIn wsX5_narrow (wsX4_passing) := ggX5_narrow_X4_passing
theorem dX5_narrow_0 : decode cX5_narrow 0 = .ok (.aload_n 0, 1) := by decide +kernel
theorem dX5_narrow_1 : decode cX5_narrow 1 = .ok (.getfield 19, 3) := by decide +kernel
theorem dX5_narrow_4 : decode cX5_narrow 4 = .ok (.iload_n 1, 1) := by decide +kernel
theorem dX5_narrow_5 : decode cX5_narrow 5 = .ok (.iload_n 3, 1) := by decide +kernel
theorem dX5_narrow_6 : decode cX5_narrow 6 = .ok (.invokevirtual 191, 3) := by decide +kernel
theorem dX5_narrow_9 : decode cX5_narrow 9 = .ok (.istore 4, 2) := by decide +kernel
theorem dX5_narrow_11 : decode cX5_narrow 11 = .ok (.iload 4, 2) := by decide +kernel
theorem dX5_narrow_13 : decode cX5_narrow 13 = .ok (.iconst (-1), 1) := by decide +kernel
theorem dX5_narrow_14 : decode cX5_narrow 14 = .ok (.if_icmp .ne 16, 3) := by decide +kernel
theorem dX5_narrow_17 : decode cX5_narrow 17 = .ok (.iload_n 2, 1) := by decide +kernel
theorem dX5_narrow_18 : decode cX5_narrow 18 = .ok (.iconst (-1), 1) := by decide +kernel
theorem dX5_narrow_19 : decode cX5_narrow 19 = .ok (.if_icmp .eq 10, 3) := by decide +kernel
theorem dX5_narrow_22 : decode cX5_narrow 22 = .ok (.aload_n 0, 1) := by decide +kernel
theorem dX5_narrow_23 : decode cX5_narrow 23 = .ok (.getfield 51, 3) := by decide +kernel
theorem dX5_narrow_26 : decode cX5_narrow 26 = .ok (.iload_n 1, 1) := by decide +kernel
theorem dX5_narrow_27 : decode cX5_narrow 27 = .ok (.iconst 0, 1) := by decide +kernel
theorem dX5_narrow_28 : decode cX5_narrow 28 = .ok (.iastore, 1) := by decide +kernel
theorem dX5_narrow_29 : decode cX5_narrow 29 = .ok (.return_, 1) := by decide +kernel
theorem dX5_narrow_30 : decode cX5_narrow 30 = .ok (.aload_n 0, 1) := by decide +kernel
theorem dX5_narrow_31 : decode cX5_narrow 31 = .ok (.getfield 19, 3) := by decide +kernel
theorem dX5_narrow_34 : decode cX5_narrow 34 = .ok (.iload_n 1, 1) := by decide +kernel
theorem dX5_narrow_35 : decode cX5_narrow 35 = .ok (.iload_n 3, 1) := by decide +kernel
theorem dX5_narrow_36 : decode cX5_narrow 36 = .ok (.invokevirtual 188, 3) := by decide +kernel
theorem dX5_narrow_39 : decode cX5_narrow 39 = .ok (.istore 5, 2) := by decide +kernel
theorem dX5_narrow_41 : decode cX5_narrow 41 = .ok (.aload_n 0, 1) := by decide +kernel
theorem dX5_narrow_42 : decode cX5_narrow 42 = .ok (.getfield 51, 3) := by decide +kernel
theorem dX5_narrow_45 : decode cX5_narrow 45 = .ok (.iload 4, 2) := by decide +kernel
theorem dX5_narrow_47 : decode cX5_narrow 47 = .ok (.dup2, 1) := by decide +kernel
theorem dX5_narrow_48 : decode cX5_narrow 48 = .ok (.iaload, 1) := by decide +kernel
theorem dX5_narrow_49 : decode cX5_narrow 49 = .ok (.iload_n 2, 1) := by decide +kernel
theorem dX5_narrow_50 : decode cX5_narrow 50 = .ok (.iconst (-1), 1) := by decide +kernel
theorem dX5_narrow_51 : decode cX5_narrow 51 = .ok (.if_icmp .ne 10, 3) := by decide +kernel
theorem dX5_narrow_54 : decode cX5_narrow 54 = .ok (.iload 5, 2) := by decide +kernel
theorem dX5_narrow_56 : decode cX5_narrow 56 = .ok (.iconst (-1), 1) := by decide +kernel
theorem dX5_narrow_57 : decode cX5_narrow 57 = .ok (.ixor, 1) := by decide +kernel
theorem dX5_narrow_58 : decode cX5_narrow 58 = .ok (.goto 9, 3) := by decide +kernel
theorem dX5_narrow_61 : decode cX5_narrow 61 = .ok (.iload 5, 2) := by decide +kernel
theorem dX5_narrow_63 : decode cX5_narrow 63 = .ok (.iconst 1, 1) := by decide +kernel
theorem dX5_narrow_64 : decode cX5_narrow 64 = .ok (.iload_n 2, 1) := by decide +kernel
theorem dX5_narrow_65 : decode cX5_narrow 65 = .ok (.ishl, 1) := by decide +kernel
theorem dX5_narrow_66 : decode cX5_narrow 66 = .ok (.iand, 1) := by decide +kernel
theorem dX5_narrow_67 : decode cX5_narrow 67 = .ok (.iand, 1) := by decide +kernel
theorem dX5_narrow_68 : decode cX5_narrow 68 = .ok (.iastore, 1) := by decide +kernel
theorem dX5_narrow_69 : decode cX5_narrow 69 = .ok (.return_, 1) := by decide +kernel
set_option maxRecDepth 20000 in
theorem ggX5_likeBest_J6_numberOfTrailingZeros_0f7a4 : GoodIn wsX5_likeBest wsJ6_numberOfTrailingZeros_0f7a4 := goodIn_r _ [10, 11] (by decide +kernel) (by decide +kernel)
set_option maxRecDepth 20000 in
theorem gX5_likeBest_J6_numberOfTrailingZeros_0f7a4 : GoodIn wsX5_likeBest (va_wsS RX5 237 yJ6_numberOfTrailingZeros_0f7a4 wsJ6_numberOfTrailingZeros_0f7a4) := goodIn_app (goodIn_of _ (by decide +kernel)) ggX5_likeBest_J6_numberOfTrailingZeros_0f7a4
set_option maxRecDepth 20000 in
theorem ggX5_likeBest_J6_bitCount_0f7a4 : GoodIn wsX5_likeBest wsJ6_bitCount_0f7a4 := goodIn_r _ [14, 15, 16, 17] (by decide +kernel) (by decide +kernel)
set_option maxRecDepth 20000 in
theorem gX5_likeBest_J6_bitCount_0f7a4 : GoodIn wsX5_likeBest (va_wsS RX5 242 yJ6_bitCount_0f7a4 wsJ6_bitCount_0f7a4) := goodIn_app (goodIn_of _ (by decide +kernel)) ggX5_likeBest_J6_bitCount_0f7a4
set_option maxRecDepth 20000 in
theorem ggX5_likeBest_X5_has : GoodIn wsX5_likeBest wsX5_has := goodIn_r _ [21] (by decide +kernel) (by decide +kernel)
set_option maxRecDepth 20000 in
theorem gX5_likeBest_X5_has : GoodIn wsX5_likeBest (va_wsS RX5 151 yX5_has wsX5_has) := goodIn_app (goodIn_of _ (by decide +kernel)) ggX5_likeBest_X5_has
set_option maxRecDepth 20000 in
theorem ggX5_likeBest_X5_likingWith : GoodIn wsX5_likeBest wsX5_likingWith := goodIn_r _ [25, 2, 1, 26, 27, 28, 29, 30, 31, 32, 33, 34, 35, 36, 37, 38, 39, 40, 41, 42, 43, 44, 45, 46, 47, 48, 49, 50] (by decide +kernel) (by decide +kernel)
set_option maxRecDepth 20000 in
theorem gX5_likeBest_X5_likingWith : GoodIn wsX5_likeBest (wsV RX5 294 RX5 yX5_likingWith wsX5_likingWith) := goodIn_app (goodIn_of _ (by decide +kernel)) ggX5_likeBest_X5_likingWith
theorem dX5_likeBest_0 : decode cX5_likeBest 0 = .ok (.aload_n 0, 1) := by decide +kernel
theorem dX5_likeBest_1 : decode cX5_likeBest 1 = .ok (.getfield 57, 3) := by decide +kernel
theorem dX5_likeBest_4 : decode cX5_likeBest 4 = .ok (.iconst 0, 1) := by decide +kernel
theorem dX5_likeBest_5 : decode cX5_likeBest 5 = .ok (.iconst 0, 1) := by decide +kernel
theorem dX5_likeBest_6 : decode cX5_likeBest 6 = .ok (.iastore, 1) := by decide +kernel
theorem dX5_likeBest_7 : decode cX5_likeBest 7 = .ok (.iconst 1, 1) := by decide +kernel
theorem dX5_likeBest_8 : decode cX5_likeBest 8 = .ok (.istore_n 1, 1) := by decide +kernel
theorem dX5_likeBest_9 : decode cX5_likeBest 9 = .ok (.iload_n 1, 1) := by decide +kernel
theorem dX5_likeBest_10 : decode cX5_likeBest 10 = .ok (.iconst 1, 1) := by decide +kernel
theorem dX5_likeBest_11 : decode cX5_likeBest 11 = .ok (.aload_n 0, 1) := by decide +kernel
theorem dX5_likeBest_12 : decode cX5_likeBest 12 = .ok (.getfield 19, 3) := by decide +kernel
theorem dX5_likeBest_15 : decode cX5_likeBest 15 = .ok (.getfield 88, 3) := by decide +kernel
theorem dX5_likeBest_18 : decode cX5_likeBest 18 = .ok (.ishl, 1) := by decide +kernel
theorem dX5_likeBest_19 : decode cX5_likeBest 19 = .ok (.if_icmp .ge 99, 3) := by decide +kernel
theorem dX5_likeBest_22 : decode cX5_likeBest 22 = .ok (.iload_n 1, 1) := by decide +kernel
theorem dX5_likeBest_23 : decode cX5_likeBest 23 = .ok (.invokestatic 237, 3) := by decide +kernel
theorem dX5_likeBest_26 : decode cX5_likeBest 26 = .ok (.istore_n 2, 1) := by decide +kernel
theorem dX5_likeBest_27 : decode cX5_likeBest 27 = .ok (.iload_n 1, 1) := by decide +kernel
theorem dX5_likeBest_28 : decode cX5_likeBest 28 = .ok (.iconst 1, 1) := by decide +kernel
theorem dX5_likeBest_29 : decode cX5_likeBest 29 = .ok (.iload_n 2, 1) := by decide +kernel
theorem dX5_likeBest_30 : decode cX5_likeBest 30 = .ok (.ishl, 1) := by decide +kernel
theorem dX5_likeBest_31 : decode cX5_likeBest 31 = .ok (.iconst (-1), 1) := by decide +kernel
theorem dX5_likeBest_32 : decode cX5_likeBest 32 = .ok (.ixor, 1) := by decide +kernel
theorem dX5_likeBest_33 : decode cX5_likeBest 33 = .ok (.iand, 1) := by decide +kernel
theorem dX5_likeBest_34 : decode cX5_likeBest 34 = .ok (.istore_n 3, 1) := by decide +kernel
theorem dX5_likeBest_35 : decode cX5_likeBest 35 = .ok (.iload_n 1, 1) := by decide +kernel
theorem dX5_likeBest_36 : decode cX5_likeBest 36 = .ok (.invokestatic 242, 3) := by decide +kernel
theorem dX5_likeBest_39 : decode cX5_likeBest 39 = .ok (.iconst 2, 1) := by decide +kernel
theorem dX5_likeBest_40 : decode cX5_likeBest 40 = .ok (.irem, 1) := by decide +kernel
theorem dX5_likeBest_41 : decode cX5_likeBest 41 = .ok (.iconst 1, 1) := by decide +kernel
theorem dX5_likeBest_42 : decode cX5_likeBest 42 = .ok (.if_icmp .ne 12, 3) := by decide +kernel
theorem dX5_likeBest_45 : decode cX5_likeBest 45 = .ok (.aload_n 0, 1) := by decide +kernel
theorem dX5_likeBest_46 : decode cX5_likeBest 46 = .ok (.getfield 57, 3) := by decide +kernel
theorem dX5_likeBest_49 : decode cX5_likeBest 49 = .ok (.iload_n 3, 1) := by decide +kernel
theorem dX5_likeBest_50 : decode cX5_likeBest 50 = .ok (.iaload, 1) := by decide +kernel
theorem dX5_likeBest_51 : decode cX5_likeBest 51 = .ok (.goto 4, 3) := by decide +kernel
theorem dX5_likeBest_54 : decode cX5_likeBest 54 = .ok (.iconst (-1), 1) := by decide +kernel
theorem dX5_likeBest_55 : decode cX5_likeBest 55 = .ok (.istore 4, 2) := by decide +kernel
theorem dX5_likeBest_57 : decode cX5_likeBest 57 = .ok (.iload_n 2, 1) := by decide +kernel
theorem dX5_likeBest_58 : decode cX5_likeBest 58 = .ok (.iconst 1, 1) := by decide +kernel
theorem dX5_likeBest_59 : decode cX5_likeBest 59 = .ok (.iadd, 1) := by decide +kernel
theorem dX5_likeBest_60 : decode cX5_likeBest 60 = .ok (.istore 5, 2) := by decide +kernel
theorem dX5_likeBest_62 : decode cX5_likeBest 62 = .ok (.iload 5, 2) := by decide +kernel
theorem dX5_likeBest_64 : decode cX5_likeBest 64 = .ok (.aload_n 0, 1) := by decide +kernel
theorem dX5_likeBest_65 : decode cX5_likeBest 65 = .ok (.getfield 19, 3) := by decide +kernel
theorem dX5_likeBest_68 : decode cX5_likeBest 68 = .ok (.getfield 88, 3) := by decide +kernel
theorem dX5_likeBest_71 : decode cX5_likeBest 71 = .ok (.if_icmp .ge 33, 3) := by decide +kernel
theorem dX5_likeBest_74 : decode cX5_likeBest 74 = .ok (.iload_n 3, 1) := by decide +kernel
theorem dX5_likeBest_75 : decode cX5_likeBest 75 = .ok (.iload 5, 2) := by decide +kernel
theorem dX5_likeBest_77 : decode cX5_likeBest 77 = .ok (.invokestatic 151, 3) := by decide +kernel
theorem dX5_likeBest_80 : decode cX5_likeBest 80 = .ok (.ifCond .eq 18, 3) := by decide +kernel
theorem dX5_likeBest_83 : decode cX5_likeBest 83 = .ok (.iload 4, 2) := by decide +kernel
theorem dX5_likeBest_85 : decode cX5_likeBest 85 = .ok (.aload_n 0, 1) := by decide +kernel
theorem dX5_likeBest_86 : decode cX5_likeBest 86 = .ok (.iload_n 2, 1) := by decide +kernel
theorem dX5_likeBest_87 : decode cX5_likeBest 87 = .ok (.iload 5, 2) := by decide +kernel
theorem dX5_likeBest_89 : decode cX5_likeBest 89 = .ok (.iload_n 3, 1) := by decide +kernel
theorem dX5_likeBest_90 : decode cX5_likeBest 90 = .ok (.invokevirtual 294, 3) := by decide +kernel
theorem dX5_likeBest_93 : decode cX5_likeBest 93 = .ok (.invokestatic 245, 3) := by decide +kernel
theorem dX5_likeBest_96 : decode cX5_likeBest 96 = .ok (.istore 4, 2) := by decide +kernel
theorem dX5_likeBest_98 : decode cX5_likeBest 98 = .ok (.iinc 5 1, 3) := by decide +kernel
theorem dX5_likeBest_101 : decode cX5_likeBest 101 = .ok (.goto (-39), 3) := by decide +kernel
theorem dX5_likeBest_104 : decode cX5_likeBest 104 = .ok (.aload_n 0, 1) := by decide +kernel
theorem dX5_likeBest_105 : decode cX5_likeBest 105 = .ok (.getfield 57, 3) := by decide +kernel
theorem dX5_likeBest_108 : decode cX5_likeBest 108 = .ok (.iload_n 1, 1) := by decide +kernel
theorem dX5_likeBest_109 : decode cX5_likeBest 109 = .ok (.iload 4, 2) := by decide +kernel
theorem dX5_likeBest_111 : decode cX5_likeBest 111 = .ok (.iastore, 1) := by decide +kernel
theorem dX5_likeBest_112 : decode cX5_likeBest 112 = .ok (.iinc 1 1, 3) := by decide +kernel
theorem dX5_likeBest_115 : decode cX5_likeBest 115 = .ok (.goto (-106), 3) := by decide +kernel
theorem dX5_likeBest_118 : decode cX5_likeBest 118 = .ok (.return_, 1) := by decide +kernel
theorem dX5_likingWith_0 : decode cX5_likingWith 0 = .ok (.aload_n 0, 1) := by decide +kernel
theorem dX5_likingWith_1 : decode cX5_likingWith 1 = .ok (.getfield 19, 3) := by decide +kernel
theorem dX5_likingWith_4 : decode cX5_likingWith 4 = .ok (.getfield 297, 3) := by decide +kernel
theorem dX5_likingWith_7 : decode cX5_likingWith 7 = .ok (.iload_n 1, 1) := by decide +kernel
theorem dX5_likingWith_8 : decode cX5_likingWith 8 = .ok (.bipush 8, 2) := by decide +kernel
theorem dX5_likingWith_10 : decode cX5_likingWith 10 = .ok (.imul, 1) := by decide +kernel
theorem dX5_likingWith_11 : decode cX5_likingWith 11 = .ok (.iload_n 2, 1) := by decide +kernel
theorem dX5_likingWith_12 : decode cX5_likingWith 12 = .ok (.iadd, 1) := by decide +kernel
theorem dX5_likingWith_13 : decode cX5_likingWith 13 = .ok (.iaload, 1) := by decide +kernel
theorem dX5_likingWith_14 : decode cX5_likingWith 14 = .ok (.aload_n 0, 1) := by decide +kernel
theorem dX5_likingWith_15 : decode cX5_likingWith 15 = .ok (.getfield 57, 3) := by decide +kernel
theorem dX5_likingWith_18 : decode cX5_likingWith 18 = .ok (.iload_n 3, 1) := by decide +kernel
theorem dX5_likingWith_19 : decode cX5_likingWith 19 = .ok (.iconst 1, 1) := by decide +kernel
theorem dX5_likingWith_20 : decode cX5_likingWith 20 = .ok (.iload_n 2, 1) := by decide +kernel
theorem dX5_likingWith_21 : decode cX5_likingWith 21 = .ok (.ishl, 1) := by decide +kernel
theorem dX5_likingWith_22 : decode cX5_likingWith 22 = .ok (.iconst (-1), 1) := by decide +kernel
theorem dX5_likingWith_23 : decode cX5_likingWith 23 = .ok (.ixor, 1) := by decide +kernel
theorem dX5_likingWith_24 : decode cX5_likingWith 24 = .ok (.iand, 1) := by decide +kernel
theorem dX5_likingWith_25 : decode cX5_likingWith 25 = .ok (.iaload, 1) := by decide +kernel
theorem dX5_likingWith_26 : decode cX5_likingWith 26 = .ok (.iadd, 1) := by decide +kernel
theorem dX5_likingWith_27 : decode cX5_likingWith 27 = .ok (.ireturn, 1) := by decide +kernel
set_option maxRecDepth 20000 in
theorem ggX5_bestPartner_X5_has : GoodIn wsX5_bestPartner wsX5_has := goodIn_r _ [5] (by decide +kernel) (by decide +kernel)
set_option maxRecDepth 20000 in
theorem gX5_bestPartner_X5_has : GoodIn wsX5_bestPartner (va_wsS RX5 151 yX5_has wsX5_has) := goodIn_app (goodIn_of _ (by decide +kernel)) ggX5_bestPartner_X5_has
set_option maxRecDepth 20000 in
theorem ggX5_bestPartner_X5_leastPartner : GoodIn wsX5_bestPartner wsX5_leastPartner := goodIn_r _ [9, 1, 10, 2, 3, 4, 5, 11, 12, 13, 14, 15, 16, 17, 18, 19, 20, 21, 22, 23, 24, 25, 26, 27, 28, 29, 30, 31, 32, 33, 34, 35, 36, 37, 38, 39] (by decide +kernel) (by decide +kernel)
set_option maxRecDepth 20000 in
theorem gX5_bestPartner_X5_leastPartner : GoodIn wsX5_bestPartner (wsV RX5 300 RX5 yX5_leastPartner wsX5_leastPartner) := goodIn_app (goodIn_of _ (by decide +kernel)) ggX5_bestPartner_X5_leastPartner
theorem dX5_bestPartner_0 : decode cX5_bestPartner 0 = .ok (.iconst 1, 1) := by decide +kernel
theorem dX5_bestPartner_1 : decode cX5_bestPartner 1 = .ok (.aload_n 0, 1) := by decide +kernel
theorem dX5_bestPartner_2 : decode cX5_bestPartner 2 = .ok (.getfield 19, 3) := by decide +kernel
theorem dX5_bestPartner_5 : decode cX5_bestPartner 5 = .ok (.getfield 88, 3) := by decide +kernel
theorem dX5_bestPartner_8 : decode cX5_bestPartner 8 = .ok (.ishl, 1) := by decide +kernel
theorem dX5_bestPartner_9 : decode cX5_bestPartner 9 = .ok (.iconst 1, 1) := by decide +kernel
theorem dX5_bestPartner_10 : decode cX5_bestPartner 10 = .ok (.isub, 1) := by decide +kernel
theorem dX5_bestPartner_11 : decode cX5_bestPartner 11 = .ok (.istore_n 2, 1) := by decide +kernel
theorem dX5_bestPartner_12 : decode cX5_bestPartner 12 = .ok (.iconst 0, 1) := by decide +kernel
theorem dX5_bestPartner_13 : decode cX5_bestPartner 13 = .ok (.istore_n 3, 1) := by decide +kernel
theorem dX5_bestPartner_14 : decode cX5_bestPartner 14 = .ok (.iload_n 3, 1) := by decide +kernel
theorem dX5_bestPartner_15 : decode cX5_bestPartner 15 = .ok (.aload_n 0, 1) := by decide +kernel
theorem dX5_bestPartner_16 : decode cX5_bestPartner 16 = .ok (.getfield 19, 3) := by decide +kernel
theorem dX5_bestPartner_19 : decode cX5_bestPartner 19 = .ok (.getfield 88, 3) := by decide +kernel
theorem dX5_bestPartner_22 : decode cX5_bestPartner 22 = .ok (.if_icmp .ge 64, 3) := by decide +kernel
theorem dX5_bestPartner_25 : decode cX5_bestPartner 25 = .ok (.iload_n 2, 1) := by decide +kernel
theorem dX5_bestPartner_26 : decode cX5_bestPartner 26 = .ok (.iload_n 3, 1) := by decide +kernel
theorem dX5_bestPartner_27 : decode cX5_bestPartner 27 = .ok (.invokestatic 151, 3) := by decide +kernel
theorem dX5_bestPartner_30 : decode cX5_bestPartner 30 = .ok (.ifCond .eq 50, 3) := by decide +kernel
theorem dX5_bestPartner_33 : decode cX5_bestPartner 33 = .ok (.aload_n 0, 1) := by decide +kernel
theorem dX5_bestPartner_34 : decode cX5_bestPartner 34 = .ok (.iload_n 3, 1) := by decide +kernel
theorem dX5_bestPartner_35 : decode cX5_bestPartner 35 = .ok (.iload_n 2, 1) := by decide +kernel
theorem dX5_bestPartner_36 : decode cX5_bestPartner 36 = .ok (.invokevirtual 300, 3) := by decide +kernel
theorem dX5_bestPartner_39 : decode cX5_bestPartner 39 = .ok (.istore 4, 2) := by decide +kernel
theorem dX5_bestPartner_41 : decode cX5_bestPartner 41 = .ok (.iload_n 3, 1) := by decide +kernel
theorem dX5_bestPartner_42 : decode cX5_bestPartner 42 = .ok (.iload_n 1, 1) := by decide +kernel
theorem dX5_bestPartner_43 : decode cX5_bestPartner 43 = .ok (.if_icmp .ne 6, 3) := by decide +kernel
theorem dX5_bestPartner_46 : decode cX5_bestPartner 46 = .ok (.iload 4, 2) := by decide +kernel
theorem dX5_bestPartner_48 : decode cX5_bestPartner 48 = .ok (.ireturn, 1) := by decide +kernel
theorem dX5_bestPartner_49 : decode cX5_bestPartner 49 = .ok (.iload 4, 2) := by decide +kernel
theorem dX5_bestPartner_51 : decode cX5_bestPartner 51 = .ok (.iload_n 1, 1) := by decide +kernel
theorem dX5_bestPartner_52 : decode cX5_bestPartner 52 = .ok (.if_icmp .ne 5, 3) := by decide +kernel
theorem dX5_bestPartner_55 : decode cX5_bestPartner 55 = .ok (.iload_n 3, 1) := by decide +kernel
theorem dX5_bestPartner_56 : decode cX5_bestPartner 56 = .ok (.ireturn, 1) := by decide +kernel
theorem dX5_bestPartner_57 : decode cX5_bestPartner 57 = .ok (.iload_n 2, 1) := by decide +kernel
theorem dX5_bestPartner_58 : decode cX5_bestPartner 58 = .ok (.iconst 1, 1) := by decide +kernel
theorem dX5_bestPartner_59 : decode cX5_bestPartner 59 = .ok (.iload_n 3, 1) := by decide +kernel
theorem dX5_bestPartner_60 : decode cX5_bestPartner 60 = .ok (.ishl, 1) := by decide +kernel
theorem dX5_bestPartner_61 : decode cX5_bestPartner 61 = .ok (.iconst (-1), 1) := by decide +kernel
theorem dX5_bestPartner_62 : decode cX5_bestPartner 62 = .ok (.ixor, 1) := by decide +kernel
theorem dX5_bestPartner_63 : decode cX5_bestPartner 63 = .ok (.iand, 1) := by decide +kernel
theorem dX5_bestPartner_64 : decode cX5_bestPartner 64 = .ok (.istore_n 2, 1) := by decide +kernel
theorem dX5_bestPartner_65 : decode cX5_bestPartner 65 = .ok (.iload 4, 2) := by decide +kernel
theorem dX5_bestPartner_67 : decode cX5_bestPartner 67 = .ok (.iconst (-1), 1) := by decide +kernel
theorem dX5_bestPartner_68 : decode cX5_bestPartner 68 = .ok (.if_icmp .eq 12, 3) := by decide +kernel
theorem dX5_bestPartner_71 : decode cX5_bestPartner 71 = .ok (.iload_n 2, 1) := by decide +kernel
theorem dX5_bestPartner_72 : decode cX5_bestPartner 72 = .ok (.iconst 1, 1) := by decide +kernel
theorem dX5_bestPartner_73 : decode cX5_bestPartner 73 = .ok (.iload 4, 2) := by decide +kernel
theorem dX5_bestPartner_75 : decode cX5_bestPartner 75 = .ok (.ishl, 1) := by decide +kernel
theorem dX5_bestPartner_76 : decode cX5_bestPartner 76 = .ok (.iconst (-1), 1) := by decide +kernel
theorem dX5_bestPartner_77 : decode cX5_bestPartner 77 = .ok (.ixor, 1) := by decide +kernel
theorem dX5_bestPartner_78 : decode cX5_bestPartner 78 = .ok (.iand, 1) := by decide +kernel
theorem dX5_bestPartner_79 : decode cX5_bestPartner 79 = .ok (.istore_n 2, 1) := by decide +kernel
theorem dX5_bestPartner_80 : decode cX5_bestPartner 80 = .ok (.iinc 3 1, 3) := by decide +kernel
theorem dX5_bestPartner_83 : decode cX5_bestPartner 83 = .ok (.goto (-69), 3) := by decide +kernel
theorem dX5_bestPartner_86 : decode cX5_bestPartner 86 = .ok (.iconst (-1), 1) := by decide +kernel
theorem dX5_bestPartner_87 : decode cX5_bestPartner 87 = .ok (.ireturn, 1) := by decide +kernel
set_option maxRecDepth 20000 in
theorem ggX5_leastPartner_X5_has : GoodIn wsX5_leastPartner wsX5_has := goodIn_r _ [6] (by decide +kernel) (by decide +kernel)
set_option maxRecDepth 20000 in
theorem gX5_leastPartner_X5_has : GoodIn wsX5_leastPartner (va_wsS RX5 151 yX5_has wsX5_has) := goodIn_app (goodIn_of _ (by decide +kernel)) ggX5_leastPartner_X5_has
set_option maxRecDepth 20000 in
theorem ggX5_leastPartner_X5_likingWith : GoodIn wsX5_leastPartner wsX5_likingWith := goodIn_r _ [10, 1, 2, 11, 12, 13, 14, 15, 16, 17, 18, 19, 20, 21, 22, 23, 24, 25, 26, 27, 28, 29, 30, 31, 32, 33, 34, 35] (by decide +kernel) (by decide +kernel)
set_option maxRecDepth 20000 in
theorem gX5_leastPartner_X5_likingWith : GoodIn wsX5_leastPartner (wsV RX5 294 RX5 yX5_likingWith wsX5_likingWith) := goodIn_app (goodIn_of _ (by decide +kernel)) ggX5_leastPartner_X5_likingWith
theorem dX5_leastPartner_0 : decode cX5_leastPartner 0 = .ok (.iload_n 2, 1) := by decide +kernel
theorem dX5_leastPartner_1 : decode cX5_leastPartner 1 = .ok (.iconst 1, 1) := by decide +kernel
theorem dX5_leastPartner_2 : decode cX5_leastPartner 2 = .ok (.iload_n 1, 1) := by decide +kernel
theorem dX5_leastPartner_3 : decode cX5_leastPartner 3 = .ok (.ishl, 1) := by decide +kernel
theorem dX5_leastPartner_4 : decode cX5_leastPartner 4 = .ok (.iconst (-1), 1) := by decide +kernel
theorem dX5_leastPartner_5 : decode cX5_leastPartner 5 = .ok (.ixor, 1) := by decide +kernel
theorem dX5_leastPartner_6 : decode cX5_leastPartner 6 = .ok (.iand, 1) := by decide +kernel
theorem dX5_leastPartner_7 : decode cX5_leastPartner 7 = .ok (.istore_n 3, 1) := by decide +kernel
theorem dX5_leastPartner_8 : decode cX5_leastPartner 8 = .ok (.iload_n 1, 1) := by decide +kernel
theorem dX5_leastPartner_9 : decode cX5_leastPartner 9 = .ok (.iconst 1, 1) := by decide +kernel
theorem dX5_leastPartner_10 : decode cX5_leastPartner 10 = .ok (.iadd, 1) := by decide +kernel
theorem dX5_leastPartner_11 : decode cX5_leastPartner 11 = .ok (.istore 4, 2) := by decide +kernel
theorem dX5_leastPartner_13 : decode cX5_leastPartner 13 = .ok (.iload 4, 2) := by decide +kernel
theorem dX5_leastPartner_15 : decode cX5_leastPartner 15 = .ok (.aload_n 0, 1) := by decide +kernel
theorem dX5_leastPartner_16 : decode cX5_leastPartner 16 = .ok (.getfield 19, 3) := by decide +kernel
theorem dX5_leastPartner_19 : decode cX5_leastPartner 19 = .ok (.getfield 88, 3) := by decide +kernel
theorem dX5_leastPartner_22 : decode cX5_leastPartner 22 = .ok (.if_icmp .ge 38, 3) := by decide +kernel
theorem dX5_leastPartner_25 : decode cX5_leastPartner 25 = .ok (.iload_n 3, 1) := by decide +kernel
theorem dX5_leastPartner_26 : decode cX5_leastPartner 26 = .ok (.iload 4, 2) := by decide +kernel
theorem dX5_leastPartner_28 : decode cX5_leastPartner 28 = .ok (.invokestatic 151, 3) := by decide +kernel
theorem dX5_leastPartner_31 : decode cX5_leastPartner 31 = .ok (.ifCond .eq 23, 3) := by decide +kernel
theorem dX5_leastPartner_34 : decode cX5_leastPartner 34 = .ok (.aload_n 0, 1) := by decide +kernel
theorem dX5_leastPartner_35 : decode cX5_leastPartner 35 = .ok (.iload_n 1, 1) := by decide +kernel
theorem dX5_leastPartner_36 : decode cX5_leastPartner 36 = .ok (.iload 4, 2) := by decide +kernel
theorem dX5_leastPartner_38 : decode cX5_leastPartner 38 = .ok (.iload_n 3, 1) := by decide +kernel
theorem dX5_leastPartner_39 : decode cX5_leastPartner 39 = .ok (.invokevirtual 294, 3) := by decide +kernel
theorem dX5_leastPartner_42 : decode cX5_leastPartner 42 = .ok (.aload_n 0, 1) := by decide +kernel
theorem dX5_leastPartner_43 : decode cX5_leastPartner 43 = .ok (.getfield 57, 3) := by decide +kernel
theorem dX5_leastPartner_46 : decode cX5_leastPartner 46 = .ok (.iload_n 2, 1) := by decide +kernel
theorem dX5_leastPartner_47 : decode cX5_leastPartner 47 = .ok (.iaload, 1) := by decide +kernel
theorem dX5_leastPartner_48 : decode cX5_leastPartner 48 = .ok (.if_icmp .ne 6, 3) := by decide +kernel
theorem dX5_leastPartner_51 : decode cX5_leastPartner 51 = .ok (.iload 4, 2) := by decide +kernel
theorem dX5_leastPartner_53 : decode cX5_leastPartner 53 = .ok (.ireturn, 1) := by decide +kernel
theorem dX5_leastPartner_54 : decode cX5_leastPartner 54 = .ok (.iinc 4 1, 3) := by decide +kernel
theorem dX5_leastPartner_57 : decode cX5_leastPartner 57 = .ok (.goto (-44), 3) := by decide +kernel
theorem dX5_leastPartner_60 : decode cX5_leastPartner 60 = .ok (.iconst (-1), 1) := by decide +kernel
theorem dX5_leastPartner_61 : decode cX5_leastPartner 61 = .ok (.ireturn, 1) := by decide +kernel
theorem dX6_init_0 : decode cX6_init 0 = .ok (.aload_n 0, 1) := by decide +kernel
theorem dX6_init_1 : decode cX6_init 1 = .ok (.invokespecial 1, 3) := by decide +kernel
theorem dX6_init_4 : decode cX6_init 4 = .ok (.aload_n 0, 1) := by decide +kernel
theorem dX6_init_5 : decode cX6_init 5 = .ok (.bipush 51, 2) := by decide +kernel
theorem dX6_init_7 : decode cX6_init 7 = .ok (.newarray .int, 2) := by decide +kernel
theorem dX6_init_9 : decode cX6_init 9 = .ok (.putfield 7, 3) := by decide +kernel
theorem dX6_init_12 : decode cX6_init 12 = .ok (.aload_n 0, 1) := by decide +kernel
theorem dX6_init_13 : decode cX6_init 13 = .ok (.iconst 2, 1) := by decide +kernel
theorem dX6_init_14 : decode cX6_init 14 = .ok (.newarray .boolean, 2) := by decide +kernel
theorem dX6_init_16 : decode cX6_init 16 = .ok (.putfield 13, 3) := by decide +kernel
theorem dX6_init_19 : decode cX6_init 19 = .ok (.aload_n 0, 1) := by decide +kernel
theorem dX6_init_20 : decode cX6_init 20 = .ok (.sipush 200, 3) := by decide +kernel
theorem dX6_init_23 : decode cX6_init 23 = .ok (.newarray .int, 2) := by decide +kernel
theorem dX6_init_25 : decode cX6_init 25 = .ok (.putfield 17, 3) := by decide +kernel
theorem dX6_init_28 : decode cX6_init 28 = .ok (.aload_n 0, 1) := by decide +kernel
theorem dX6_init_29 : decode cX6_init 29 = .ok (.bipush 50, 2) := by decide +kernel
theorem dX6_init_31 : decode cX6_init 31 = .ok (.newarray .int, 2) := by decide +kernel
theorem dX6_init_33 : decode cX6_init 33 = .ok (.putfield 20, 3) := by decide +kernel
theorem dX6_init_36 : decode cX6_init 36 = .ok (.aload_n 0, 1) := by decide +kernel
theorem dX6_init_37 : decode cX6_init 37 = .ok (.iconst 2, 1) := by decide +kernel
theorem dX6_init_38 : decode cX6_init 38 = .ok (.putfield 23, 3) := by decide +kernel
theorem dX6_init_41 : decode cX6_init 41 = .ok (.aload_n 0, 1) := by decide +kernel
theorem dX6_init_42 : decode cX6_init 42 = .ok (.bipush 8, 2) := by decide +kernel
theorem dX6_init_44 : decode cX6_init 44 = .ok (.newarray .int, 2) := by decide +kernel
theorem dX6_init_46 : decode cX6_init 46 = .ok (.dup, 1) := by decide +kernel
theorem dX6_init_47 : decode cX6_init 47 = .ok (.iconst 0, 1) := by decide +kernel
theorem dX6_init_48 : decode cX6_init 48 = .ok (.iconst (-1), 1) := by decide +kernel
theorem dX6_init_49 : decode cX6_init 49 = .ok (.iastore, 1) := by decide +kernel
theorem dX6_init_50 : decode cX6_init 50 = .ok (.dup, 1) := by decide +kernel
theorem dX6_init_51 : decode cX6_init 51 = .ok (.iconst 1, 1) := by decide +kernel
theorem dX6_init_52 : decode cX6_init 52 = .ok (.iconst (-1), 1) := by decide +kernel
theorem dX6_init_53 : decode cX6_init 53 = .ok (.iastore, 1) := by decide +kernel
theorem dX6_init_54 : decode cX6_init 54 = .ok (.dup, 1) := by decide +kernel
theorem dX6_init_55 : decode cX6_init 55 = .ok (.iconst 2, 1) := by decide +kernel
theorem dX6_init_56 : decode cX6_init 56 = .ok (.iconst (-1), 1) := by decide +kernel
theorem dX6_init_57 : decode cX6_init 57 = .ok (.iastore, 1) := by decide +kernel
theorem dX6_init_58 : decode cX6_init 58 = .ok (.dup, 1) := by decide +kernel
theorem dX6_init_59 : decode cX6_init 59 = .ok (.iconst 3, 1) := by decide +kernel
theorem dX6_init_60 : decode cX6_init 60 = .ok (.iconst (-1), 1) := by decide +kernel
theorem dX6_init_61 : decode cX6_init 61 = .ok (.iastore, 1) := by decide +kernel
theorem dX6_init_62 : decode cX6_init 62 = .ok (.dup, 1) := by decide +kernel
theorem dX6_init_63 : decode cX6_init 63 = .ok (.iconst 4, 1) := by decide +kernel
theorem dX6_init_64 : decode cX6_init 64 = .ok (.iconst (-1), 1) := by decide +kernel
theorem dX6_init_65 : decode cX6_init 65 = .ok (.iastore, 1) := by decide +kernel
theorem dX6_init_66 : decode cX6_init 66 = .ok (.dup, 1) := by decide +kernel
theorem dX6_init_67 : decode cX6_init 67 = .ok (.iconst 5, 1) := by decide +kernel
theorem dX6_init_68 : decode cX6_init 68 = .ok (.iconst (-1), 1) := by decide +kernel
theorem dX6_init_69 : decode cX6_init 69 = .ok (.iastore, 1) := by decide +kernel
theorem dX6_init_70 : decode cX6_init 70 = .ok (.dup, 1) := by decide +kernel
theorem dX6_init_71 : decode cX6_init 71 = .ok (.bipush 6, 2) := by decide +kernel
theorem dX6_init_73 : decode cX6_init 73 = .ok (.iconst (-1), 1) := by decide +kernel
theorem dX6_init_74 : decode cX6_init 74 = .ok (.iastore, 1) := by decide +kernel
theorem dX6_init_75 : decode cX6_init 75 = .ok (.dup, 1) := by decide +kernel
theorem dX6_init_76 : decode cX6_init 76 = .ok (.bipush 7, 2) := by decide +kernel
theorem dX6_init_78 : decode cX6_init 78 = .ok (.iconst (-1), 1) := by decide +kernel
theorem dX6_init_79 : decode cX6_init 79 = .ok (.iastore, 1) := by decide +kernel
theorem dX6_init_80 : decode cX6_init 80 = .ok (.putfield 27, 3) := by decide +kernel
theorem dX6_init_83 : decode cX6_init 83 = .ok (.aload_n 0, 1) := by decide +kernel
theorem dX6_init_84 : decode cX6_init 84 = .ok (.bipush 8, 2) := by decide +kernel
theorem dX6_init_86 : decode cX6_init 86 = .ok (.newarray .int, 2) := by decide +kernel
theorem dX6_init_88 : decode cX6_init 88 = .ok (.putfield 30, 3) := by decide +kernel
theorem dX6_init_91 : decode cX6_init 91 = .ok (.aload_n 0, 1) := by decide +kernel
theorem dX6_init_92 : decode cX6_init 92 = .ok (.bipush 64, 2) := by decide +kernel
theorem dX6_init_94 : decode cX6_init 94 = .ok (.newarray .int, 2) := by decide +kernel
theorem dX6_init_96 : decode cX6_init 96 = .ok (.putfield 33, 3) := by decide +kernel
theorem dX6_init_99 : decode cX6_init 99 = .ok (.aload_n 0, 1) := by decide +kernel
theorem dX6_init_100 : decode cX6_init 100 = .ok (.bipush 36, 2) := by decide +kernel
theorem dX6_init_102 : decode cX6_init 102 = .ok (.newarray .int, 2) := by decide +kernel
theorem dX6_init_104 : decode cX6_init 104 = .ok (.putfield 36, 3) := by decide +kernel
theorem dX6_init_107 : decode cX6_init 107 = .ok (.aload_n 0, 1) := by decide +kernel
theorem dX6_init_108 : decode cX6_init 108 = .ok (.sipush 1600, 3) := by decide +kernel
theorem dX6_init_111 : decode cX6_init 111 = .ok (.newarray .int, 2) := by decide +kernel
theorem dX6_init_113 : decode cX6_init 113 = .ok (.putfield 39, 3) := by decide +kernel
theorem dX6_init_116 : decode cX6_init 116 = .ok (.aload_n 0, 1) := by decide +kernel
theorem dX6_init_117 : decode cX6_init 117 = .ok (.bipush 24, 2) := by decide +kernel
theorem dX6_init_119 : decode cX6_init 119 = .ok (.newarray .int, 2) := by decide +kernel
theorem dX6_init_121 : decode cX6_init 121 = .ok (.putfield 42, 3) := by decide +kernel
theorem dX6_init_124 : decode cX6_init 124 = .ok (.aload_n 0, 1) := by decide +kernel
theorem dX6_init_125 : decode cX6_init 125 = .ok (.bipush 8, 2) := by decide +kernel
theorem dX6_init_127 : decode cX6_init 127 = .ok (.newarray .int, 2) := by decide +kernel
theorem dX6_init_129 : decode cX6_init 129 = .ok (.putfield 45, 3) := by decide +kernel
theorem dX6_init_132 : decode cX6_init 132 = .ok (.aload_n 0, 1) := by decide +kernel
theorem dX6_init_133 : decode cX6_init 133 = .ok (.sipush 256, 3) := by decide +kernel
theorem dX6_init_136 : decode cX6_init 136 = .ok (.newarray .int, 2) := by decide +kernel
theorem dX6_init_138 : decode cX6_init 138 = .ok (.putfield 48, 3) := by decide +kernel
theorem dX6_init_141 : decode cX6_init 141 = .ok (.aload_n 0, 1) := by decide +kernel
theorem dX6_init_142 : decode cX6_init 142 = .ok (.bipush 24, 2) := by decide +kernel
theorem dX6_init_144 : decode cX6_init 144 = .ok (.newarray .int, 2) := by decide +kernel
theorem dX6_init_146 : decode cX6_init 146 = .ok (.putfield 51, 3) := by decide +kernel
theorem dX6_init_149 : decode cX6_init 149 = .ok (.iconst 0, 1) := by decide +kernel
theorem dX6_init_150 : decode cX6_init 150 = .ok (.istore_n 1, 1) := by decide +kernel
theorem dX6_init_151 : decode cX6_init 151 = .ok (.iload_n 1, 1) := by decide +kernel
theorem dX6_init_152 : decode cX6_init 152 = .ok (.bipush 8, 2) := by decide +kernel
theorem dX6_init_154 : decode cX6_init 154 = .ok (.if_icmp .ge 16, 3) := by decide +kernel
theorem dX6_init_157 : decode cX6_init 157 = .ok (.aload_n 0, 1) := by decide +kernel
theorem dX6_init_158 : decode cX6_init 158 = .ok (.getfield 7, 3) := by decide +kernel
theorem dX6_init_161 : decode cX6_init 161 = .ok (.iload_n 1, 1) := by decide +kernel
theorem dX6_init_162 : decode cX6_init 162 = .ok (.iconst (-1), 1) := by decide +kernel
theorem dX6_init_163 : decode cX6_init 163 = .ok (.iastore, 1) := by decide +kernel
theorem dX6_init_164 : decode cX6_init 164 = .ok (.iinc 1 1, 3) := by decide +kernel
theorem dX6_init_167 : decode cX6_init 167 = .ok (.goto (-16), 3) := by decide +kernel
theorem dX6_init_170 : decode cX6_init 170 = .ok (.return_, 1) := by decide +kernel
theorem dX6_in_0 : decode cX6_in 0 = .ok (.lload_n 0, 1) := by decide +kernel
theorem dX6_in_1 : decode cX6_in 1 = .ok (.lload_n 2, 1) := by decide +kernel
theorem dX6_in_2 : decode cX6_in 2 = .ok (.lcmp, 1) := by decide +kernel
theorem dX6_in_3 : decode cX6_in 3 = .ok (.ifCond .lt 14, 3) := by decide +kernel
theorem dX6_in_6 : decode cX6_in 6 = .ok (.lload_n 0, 1) := by decide +kernel
theorem dX6_in_7 : decode cX6_in 7 = .ok (.lload 4, 2) := by decide +kernel
theorem dX6_in_9 : decode cX6_in 9 = .ok (.lcmp, 1) := by decide +kernel
theorem dX6_in_10 : decode cX6_in 10 = .ok (.ifCond .gt 7, 3) := by decide +kernel
theorem dX6_in_13 : decode cX6_in 13 = .ok (.iconst 1, 1) := by decide +kernel
theorem dX6_in_14 : decode cX6_in 14 = .ok (.goto 4, 3) := by decide +kernel
theorem dX6_in_17 : decode cX6_in 17 = .ok (.iconst 0, 1) := by decide +kernel
theorem dX6_in_18 : decode cX6_in 18 = .ok (.ireturn, 1) := by decide +kernel
theorem dX6_has_0 : decode cX6_has 0 = .ok (.iload_n 0, 1) := by decide +kernel
theorem dX6_has_1 : decode cX6_has 1 = .ok (.iload_n 1, 1) := by decide +kernel
theorem dX6_has_2 : decode cX6_has 2 = .ok (.ishr, 1) := by decide +kernel
theorem dX6_has_3 : decode cX6_has 3 = .ok (.iconst 1, 1) := by decide +kernel
theorem dX6_has_4 : decode cX6_has 4 = .ok (.iand, 1) := by decide +kernel
theorem dX6_has_5 : decode cX6_has 5 = .ok (.iconst 1, 1) := by decide +kernel
theorem dX6_has_6 : decode cX6_has 6 = .ok (.if_icmp .ne 7, 3) := by decide +kernel
theorem dX6_has_9 : decode cX6_has 9 = .ok (.iconst 1, 1) := by decide +kernel
theorem dX6_has_10 : decode cX6_has 10 = .ok (.goto 4, 3) := by decide +kernel
theorem dX6_has_13 : decode cX6_has 13 = .ok (.iconst 0, 1) := by decide +kernel
theorem dX6_has_14 : decode cX6_has 14 = .ok (.ireturn, 1) := by decide +kernel
theorem dX6_bits_0 : decode cX6_bits 0 = .ok (.iconst 0, 1) := by decide +kernel
theorem dX6_bits_1 : decode cX6_bits 1 = .ok (.istore_n 1, 1) := by decide +kernel
theorem dX6_bits_2 : decode cX6_bits 2 = .ok (.iconst 0, 1) := by decide +kernel
theorem dX6_bits_3 : decode cX6_bits 3 = .ok (.istore_n 2, 1) := by decide +kernel
theorem dX6_bits_4 : decode cX6_bits 4 = .ok (.iload_n 2, 1) := by decide +kernel
theorem dX6_bits_5 : decode cX6_bits 5 = .ok (.bipush 8, 2) := by decide +kernel
theorem dX6_bits_7 : decode cX6_bits 7 = .ok (.if_icmp .ge 17, 3) := by decide +kernel
theorem dX6_bits_10 : decode cX6_bits 10 = .ok (.iload_n 1, 1) := by decide +kernel
theorem dX6_bits_11 : decode cX6_bits 11 = .ok (.iload_n 0, 1) := by decide +kernel
theorem dX6_bits_12 : decode cX6_bits 12 = .ok (.iload_n 2, 1) := by decide +kernel
theorem dX6_bits_13 : decode cX6_bits 13 = .ok (.ishr, 1) := by decide +kernel
theorem dX6_bits_14 : decode cX6_bits 14 = .ok (.iconst 1, 1) := by decide +kernel
theorem dX6_bits_15 : decode cX6_bits 15 = .ok (.iand, 1) := by decide +kernel
theorem dX6_bits_16 : decode cX6_bits 16 = .ok (.iadd, 1) := by decide +kernel
theorem dX6_bits_17 : decode cX6_bits 17 = .ok (.istore_n 1, 1) := by decide +kernel
theorem dX6_bits_18 : decode cX6_bits 18 = .ok (.iinc 2 1, 3) := by decide +kernel
theorem dX6_bits_21 : decode cX6_bits 21 = .ok (.goto (-17), 3) := by decide +kernel
theorem dX6_bits_24 : decode cX6_bits 24 = .ok (.iload_n 1, 1) := by decide +kernel
theorem dX6_bits_25 : decode cX6_bits 25 = .ok (.ireturn, 1) := by decide +kernel
set_option maxRecDepth 20000 in
theorem ggX6_write_X6_in : GoodIn wsX6_write wsX6_in := goodIn_r _ [8] (by decide +kernel) (by decide +kernel)
set_option maxRecDepth 20000 in
theorem gX6_write_X6_in : GoodIn wsX6_write (va_wsS RX6 56 yX6_in wsX6_in) := goodIn_app (goodIn_of _ (by decide +kernel)) ggX6_write_X6_in
theorem dX6_write_0 : decode cX6_write 0 = .ok (.iload_n 3, 1) := by decide +kernel
theorem dX6_write_1 : decode cX6_write 1 = .ok (.i2l, 1) := by decide +kernel
theorem dX6_write_2 : decode cX6_write 2 = .ok (.lconst 1, 1) := by decide +kernel
theorem dX6_write_3 : decode cX6_write 3 = .ok (.ldc2_w 54, 3) := by decide +kernel
theorem dX6_write_6 : decode cX6_write 6 = .ok (.invokestatic 56, 3) := by decide +kernel
theorem dX6_write_9 : decode cX6_write 9 = .ok (.ifCond .ne 6, 3) := by decide +kernel
theorem dX6_write_12 : decode cX6_write 12 = .ok (.bipush (-3), 2) := by decide +kernel
theorem dX6_write_14 : decode cX6_write 14 = .ok (.ireturn, 1) := by decide +kernel
theorem dX6_write_15 : decode cX6_write 15 = .ok (.aload_n 0, 1) := by decide +kernel
theorem dX6_write_16 : decode cX6_write 16 = .ok (.getfield 60, 3) := by decide +kernel
theorem dX6_write_19 : decode cX6_write 19 = .ok (.iload_n 3, 1) := by decide +kernel
theorem dX6_write_20 : decode cX6_write 20 = .ok (.iadd, 1) := by decide +kernel
theorem dX6_write_21 : decode cX6_write 21 = .ok (.sipush 200, 3) := by decide +kernel
theorem dX6_write_24 : decode cX6_write 24 = .ok (.if_icmp .le 6, 3) := by decide +kernel
theorem dX6_write_27 : decode cX6_write 27 = .ok (.bipush (-5), 2) := by decide +kernel
theorem dX6_write_29 : decode cX6_write 29 = .ok (.ireturn, 1) := by decide +kernel
theorem dX6_write_30 : decode cX6_write 30 = .ok (.iconst 0, 1) := by decide +kernel
theorem dX6_write_31 : decode cX6_write 31 = .ok (.istore 4, 2) := by decide +kernel
theorem dX6_write_33 : decode cX6_write 33 = .ok (.iload 4, 2) := by decide +kernel
theorem dX6_write_35 : decode cX6_write 35 = .ok (.iload_n 3, 1) := by decide +kernel
theorem dX6_write_36 : decode cX6_write 36 = .ok (.if_icmp .ge 40, 3) := by decide +kernel
theorem dX6_write_39 : decode cX6_write 39 = .ok (.aload_n 0, 1) := by decide +kernel
theorem dX6_write_40 : decode cX6_write 40 = .ok (.getfield 17, 3) := by decide +kernel
theorem dX6_write_43 : decode cX6_write 43 = .ok (.aload_n 0, 1) := by decide +kernel
theorem dX6_write_44 : decode cX6_write 44 = .ok (.getfield 60, 3) := by decide +kernel
theorem dX6_write_47 : decode cX6_write 47 = .ok (.lload_n 1, 1) := by decide +kernel
theorem dX6_write_48 : decode cX6_write 48 = .ok (.bipush 8, 2) := by decide +kernel
theorem dX6_write_50 : decode cX6_write 50 = .ok (.iload 4, 2) := by decide +kernel
theorem dX6_write_52 : decode cX6_write 52 = .ok (.imul, 1) := by decide +kernel
theorem dX6_write_53 : decode cX6_write 53 = .ok (.lshr, 1) := by decide +kernel
theorem dX6_write_54 : decode cX6_write 54 = .ok (.ldc2_w 63, 3) := by decide +kernel
theorem dX6_write_57 : decode cX6_write 57 = .ok (.land, 1) := by decide +kernel
theorem dX6_write_58 : decode cX6_write 58 = .ok (.l2i, 1) := by decide +kernel
theorem dX6_write_59 : decode cX6_write 59 = .ok (.iastore, 1) := by decide +kernel
theorem dX6_write_60 : decode cX6_write 60 = .ok (.aload_n 0, 1) := by decide +kernel
theorem dX6_write_61 : decode cX6_write 61 = .ok (.dup, 1) := by decide +kernel
theorem dX6_write_62 : decode cX6_write 62 = .ok (.getfield 60, 3) := by decide +kernel
theorem dX6_write_65 : decode cX6_write 65 = .ok (.iconst 1, 1) := by decide +kernel
theorem dX6_write_66 : decode cX6_write 66 = .ok (.iadd, 1) := by decide +kernel
theorem dX6_write_67 : decode cX6_write 67 = .ok (.putfield 60, 3) := by decide +kernel
theorem dX6_write_70 : decode cX6_write 70 = .ok (.iinc 4 1, 3) := by decide +kernel
theorem dX6_write_73 : decode cX6_write 73 = .ok (.goto (-40), 3) := by decide +kernel
theorem dX6_write_76 : decode cX6_write 76 = .ok (.aload_n 0, 1) := by decide +kernel
theorem dX6_write_77 : decode cX6_write 77 = .ok (.getfield 60, 3) := by decide +kernel
theorem dX6_write_80 : decode cX6_write 80 = .ok (.ireturn, 1) := by decide +kernel
theorem dX6_erase_0 : decode cX6_erase 0 = .ok (.aload_n 0, 1) := by decide +kernel
theorem dX6_erase_1 : decode cX6_erase 1 = .ok (.getfield 60, 3) := by decide +kernel
theorem dX6_erase_4 : decode cX6_erase 4 = .ok (.istore_n 1, 1) := by decide +kernel
theorem dX6_erase_5 : decode cX6_erase 5 = .ok (.aload_n 0, 1) := by decide +kernel
theorem dX6_erase_6 : decode cX6_erase 6 = .ok (.iconst 0, 1) := by decide +kernel
theorem dX6_erase_7 : decode cX6_erase 7 = .ok (.putfield 60, 3) := by decide +kernel
theorem dX6_erase_10 : decode cX6_erase 10 = .ok (.iload_n 1, 1) := by decide +kernel
theorem dX6_erase_11 : decode cX6_erase 11 = .ok (.ireturn, 1) := by decide +kernel
theorem dX6_sort_0 : decode cX6_sort 0 = .ok (.iload_n 0, 1) := by decide +kernel
theorem dX6_sort_1 : decode cX6_sort 1 = .ok (.bipush 97, 2) := by decide +kernel
theorem dX6_sort_3 : decode cX6_sort 3 = .ok (.if_icmp .lt 13, 3) := by decide +kernel
theorem dX6_sort_6 : decode cX6_sort 6 = .ok (.iload_n 0, 1) := by decide +kernel
theorem dX6_sort_7 : decode cX6_sort 7 = .ok (.bipush 122, 2) := by decide +kernel
theorem dX6_sort_9 : decode cX6_sort 9 = .ok (.if_icmp .gt 7, 3) := by decide +kernel
theorem dX6_sort_12 : decode cX6_sort 12 = .ok (.iconst 1, 1) := by decide +kernel
theorem dX6_sort_13 : decode cX6_sort 13 = .ok (.goto 20, 3) := by decide +kernel
theorem dX6_sort_16 : decode cX6_sort 16 = .ok (.iload_n 0, 1) := by decide +kernel
theorem dX6_sort_17 : decode cX6_sort 17 = .ok (.bipush 48, 2) := by decide +kernel
theorem dX6_sort_19 : decode cX6_sort 19 = .ok (.if_icmp .lt 13, 3) := by decide +kernel
theorem dX6_sort_22 : decode cX6_sort 22 = .ok (.iload_n 0, 1) := by decide +kernel
theorem dX6_sort_23 : decode cX6_sort 23 = .ok (.bipush 57, 2) := by decide +kernel
theorem dX6_sort_25 : decode cX6_sort 25 = .ok (.if_icmp .gt 7, 3) := by decide +kernel
theorem dX6_sort_28 : decode cX6_sort 28 = .ok (.iconst 2, 1) := by decide +kernel
theorem dX6_sort_29 : decode cX6_sort 29 = .ok (.goto 4, 3) := by decide +kernel
theorem dX6_sort_32 : decode cX6_sort 32 = .ok (.iconst 0, 1) := by decide +kernel
theorem dX6_sort_33 : decode cX6_sort 33 = .ok (.ireturn, 1) := by decide +kernel
set_option maxRecDepth 20000 in
theorem ggX6_token_X6_sort : GoodIn wsX6_token wsX6_sort := goodIn_r _ [9] (by decide +kernel) (by decide +kernel)
set_option maxRecDepth 20000 in
theorem gX6_token_X6_sort : GoodIn wsX6_token (va_wsS RX6 71 yX6_sort wsX6_sort) := goodIn_app (goodIn_of _ (by decide +kernel)) ggX6_token_X6_sort
theorem dX6_token_0 : decode cX6_token 0 = .ok (.aload_n 0, 1) := by decide +kernel
theorem dX6_token_1 : decode cX6_token 1 = .ok (.getfield 65, 3) := by decide +kernel
theorem dX6_token_4 : decode cX6_token 4 = .ok (.aload_n 0, 1) := by decide +kernel
theorem dX6_token_5 : decode cX6_token 5 = .ok (.getfield 60, 3) := by decide +kernel
theorem dX6_token_8 : decode cX6_token 8 = .ok (.if_icmp .ge 30, 3) := by decide +kernel
theorem dX6_token_11 : decode cX6_token 11 = .ok (.aload_n 0, 1) := by decide +kernel
theorem dX6_token_12 : decode cX6_token 12 = .ok (.getfield 17, 3) := by decide +kernel
theorem dX6_token_15 : decode cX6_token 15 = .ok (.aload_n 0, 1) := by decide +kernel
theorem dX6_token_16 : decode cX6_token 16 = .ok (.getfield 65, 3) := by decide +kernel
theorem dX6_token_19 : decode cX6_token 19 = .ok (.iaload, 1) := by decide +kernel
theorem dX6_token_20 : decode cX6_token 20 = .ok (.bipush 32, 2) := by decide +kernel
theorem dX6_token_22 : decode cX6_token 22 = .ok (.if_icmp .ne 16, 3) := by decide +kernel
theorem dX6_token_25 : decode cX6_token 25 = .ok (.aload_n 0, 1) := by decide +kernel
theorem dX6_token_26 : decode cX6_token 26 = .ok (.dup, 1) := by decide +kernel
theorem dX6_token_27 : decode cX6_token 27 = .ok (.getfield 65, 3) := by decide +kernel
theorem dX6_token_30 : decode cX6_token 30 = .ok (.iconst 1, 1) := by decide +kernel
theorem dX6_token_31 : decode cX6_token 31 = .ok (.iadd, 1) := by decide +kernel
theorem dX6_token_32 : decode cX6_token 32 = .ok (.putfield 65, 3) := by decide +kernel
theorem dX6_token_35 : decode cX6_token 35 = .ok (.goto (-35), 3) := by decide +kernel
theorem dX6_token_38 : decode cX6_token 38 = .ok (.aload_n 0, 1) := by decide +kernel
theorem dX6_token_39 : decode cX6_token 39 = .ok (.aload_n 0, 1) := by decide +kernel
theorem dX6_token_40 : decode cX6_token 40 = .ok (.getfield 65, 3) := by decide +kernel
theorem dX6_token_43 : decode cX6_token 43 = .ok (.putfield 68, 3) := by decide +kernel
theorem dX6_token_46 : decode cX6_token 46 = .ok (.aload_n 0, 1) := by decide +kernel
theorem dX6_token_47 : decode cX6_token 47 = .ok (.dup, 1) := by decide +kernel
theorem dX6_token_48 : decode cX6_token 48 = .ok (.getfield 65, 3) := by decide +kernel
theorem dX6_token_51 : decode cX6_token 51 = .ok (.aload_n 0, 1) := by decide +kernel
theorem dX6_token_52 : decode cX6_token 52 = .ok (.getfield 65, 3) := by decide +kernel
theorem dX6_token_55 : decode cX6_token 55 = .ok (.aload_n 0, 1) := by decide +kernel
theorem dX6_token_56 : decode cX6_token 56 = .ok (.getfield 60, 3) := by decide +kernel
theorem dX6_token_59 : decode cX6_token 59 = .ok (.if_icmp .ge 7, 3) := by decide +kernel
theorem dX6_token_62 : decode cX6_token 62 = .ok (.iconst 1, 1) := by decide +kernel
theorem dX6_token_63 : decode cX6_token 63 = .ok (.goto 4, 3) := by decide +kernel
theorem dX6_token_66 : decode cX6_token 66 = .ok (.iconst 0, 1) := by decide +kernel
theorem dX6_token_67 : decode cX6_token 67 = .ok (.iadd, 1) := by decide +kernel
theorem dX6_token_68 : decode cX6_token 68 = .ok (.putfield 65, 3) := by decide +kernel
theorem dX6_token_71 : decode cX6_token 71 = .ok (.aload_n 0, 1) := by decide +kernel
theorem dX6_token_72 : decode cX6_token 72 = .ok (.getfield 65, 3) := by decide +kernel
theorem dX6_token_75 : decode cX6_token 75 = .ok (.aload_n 0, 1) := by decide +kernel
theorem dX6_token_76 : decode cX6_token 76 = .ok (.getfield 60, 3) := by decide +kernel
theorem dX6_token_79 : decode cX6_token 79 = .ok (.if_icmp .ge 58, 3) := by decide +kernel
theorem dX6_token_82 : decode cX6_token 82 = .ok (.aload_n 0, 1) := by decide +kernel
theorem dX6_token_83 : decode cX6_token 83 = .ok (.getfield 17, 3) := by decide +kernel
theorem dX6_token_86 : decode cX6_token 86 = .ok (.aload_n 0, 1) := by decide +kernel
theorem dX6_token_87 : decode cX6_token 87 = .ok (.getfield 68, 3) := by decide +kernel
theorem dX6_token_90 : decode cX6_token 90 = .ok (.iaload, 1) := by decide +kernel
theorem dX6_token_91 : decode cX6_token 91 = .ok (.invokestatic 71, 3) := by decide +kernel
theorem dX6_token_94 : decode cX6_token 94 = .ok (.ifCond .le 43, 3) := by decide +kernel
theorem dX6_token_97 : decode cX6_token 97 = .ok (.aload_n 0, 1) := by decide +kernel
theorem dX6_token_98 : decode cX6_token 98 = .ok (.getfield 17, 3) := by decide +kernel
theorem dX6_token_101 : decode cX6_token 101 = .ok (.aload_n 0, 1) := by decide +kernel
theorem dX6_token_102 : decode cX6_token 102 = .ok (.getfield 65, 3) := by decide +kernel
theorem dX6_token_105 : decode cX6_token 105 = .ok (.iaload, 1) := by decide +kernel
theorem dX6_token_106 : decode cX6_token 106 = .ok (.invokestatic 71, 3) := by decide +kernel
theorem dX6_token_109 : decode cX6_token 109 = .ok (.aload_n 0, 1) := by decide +kernel
theorem dX6_token_110 : decode cX6_token 110 = .ok (.getfield 17, 3) := by decide +kernel
theorem dX6_token_113 : decode cX6_token 113 = .ok (.aload_n 0, 1) := by decide +kernel
theorem dX6_token_114 : decode cX6_token 114 = .ok (.getfield 68, 3) := by decide +kernel
theorem dX6_token_117 : decode cX6_token 117 = .ok (.iaload, 1) := by decide +kernel
theorem dX6_token_118 : decode cX6_token 118 = .ok (.invokestatic 71, 3) := by decide +kernel
theorem dX6_token_121 : decode cX6_token 121 = .ok (.if_icmp .ne 16, 3) := by decide +kernel
theorem dX6_token_124 : decode cX6_token 124 = .ok (.aload_n 0, 1) := by decide +kernel
theorem dX6_token_125 : decode cX6_token 125 = .ok (.dup, 1) := by decide +kernel
theorem dX6_token_126 : decode cX6_token 126 = .ok (.getfield 65, 3) := by decide +kernel
theorem dX6_token_129 : decode cX6_token 129 = .ok (.iconst 1, 1) := by decide +kernel
theorem dX6_token_130 : decode cX6_token 130 = .ok (.iadd, 1) := by decide +kernel
theorem dX6_token_131 : decode cX6_token 131 = .ok (.putfield 65, 3) := by decide +kernel
theorem dX6_token_134 : decode cX6_token 134 = .ok (.goto (-63), 3) := by decide +kernel
theorem dX6_token_137 : decode cX6_token 137 = .ok (.aload_n 0, 1) := by decide +kernel
theorem dX6_token_138 : decode cX6_token 138 = .ok (.aload_n 0, 1) := by decide +kernel
theorem dX6_token_139 : decode cX6_token 139 = .ok (.getfield 65, 3) := by decide +kernel
theorem dX6_token_142 : decode cX6_token 142 = .ok (.putfield 75, 3) := by decide +kernel
theorem dX6_token_145 : decode cX6_token 145 = .ok (.return_, 1) := by decide +kernel
theorem dX6_isWord_0 : decode cX6_isWord 0 = .ok (.aload_n 0, 1) := by decide +kernel
theorem dX6_isWord_1 : decode cX6_isWord 1 = .ok (.getfield 75, 3) := by decide +kernel
theorem dX6_isWord_4 : decode cX6_isWord 4 = .ok (.aload_n 0, 1) := by decide +kernel
theorem dX6_isWord_5 : decode cX6_isWord 5 = .ok (.getfield 68, 3) := by decide +kernel
theorem dX6_isWord_8 : decode cX6_isWord 8 = .ok (.isub, 1) := by decide +kernel
theorem dX6_isWord_9 : decode cX6_isWord 9 = .ok (.iload_n 2, 1) := by decide +kernel
theorem dX6_isWord_10 : decode cX6_isWord 10 = .ok (.if_icmp .ne 7, 3) := by decide +kernel

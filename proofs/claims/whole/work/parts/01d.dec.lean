theorem dX6_isWord_13 : decode cX6_isWord 13 = .ok (.iconst 1, 1) := by decide +kernel
theorem dX6_isWord_14 : decode cX6_isWord 14 = .ok (.goto 4, 3) := by decide +kernel
theorem dX6_isWord_17 : decode cX6_isWord 17 = .ok (.iconst 0, 1) := by decide +kernel
theorem dX6_isWord_18 : decode cX6_isWord 18 = .ok (.istore_n 3, 1) := by decide +kernel
theorem dX6_isWord_19 : decode cX6_isWord 19 = .ok (.iconst 0, 1) := by decide +kernel
theorem dX6_isWord_20 : decode cX6_isWord 20 = .ok (.istore 4, 2) := by decide +kernel
theorem dX6_isWord_22 : decode cX6_isWord 22 = .ok (.iload_n 3, 1) := by decide +kernel
theorem dX6_isWord_23 : decode cX6_isWord 23 = .ok (.ifCond .eq 48, 3) := by decide +kernel
theorem dX6_isWord_26 : decode cX6_isWord 26 = .ok (.iload 4, 2) := by decide +kernel
theorem dX6_isWord_28 : decode cX6_isWord 28 = .ok (.iload_n 2, 1) := by decide +kernel
theorem dX6_isWord_29 : decode cX6_isWord 29 = .ok (.if_icmp .ge 42, 3) := by decide +kernel
theorem dX6_isWord_32 : decode cX6_isWord 32 = .ok (.aload_n 0, 1) := by decide +kernel
theorem dX6_isWord_33 : decode cX6_isWord 33 = .ok (.getfield 17, 3) := by decide +kernel
theorem dX6_isWord_36 : decode cX6_isWord 36 = .ok (.aload_n 0, 1) := by decide +kernel
theorem dX6_isWord_37 : decode cX6_isWord 37 = .ok (.getfield 68, 3) := by decide +kernel
theorem dX6_isWord_40 : decode cX6_isWord 40 = .ok (.iload 4, 2) := by decide +kernel
theorem dX6_isWord_42 : decode cX6_isWord 42 = .ok (.iadd, 1) := by decide +kernel
theorem dX6_isWord_43 : decode cX6_isWord 43 = .ok (.iaload, 1) := by decide +kernel
theorem dX6_isWord_44 : decode cX6_isWord 44 = .ok (.bipush 96, 2) := by decide +kernel
theorem dX6_isWord_46 : decode cX6_isWord 46 = .ok (.iload_n 1, 1) := by decide +kernel
theorem dX6_isWord_47 : decode cX6_isWord 47 = .ok (.iconst 5, 1) := by decide +kernel
theorem dX6_isWord_48 : decode cX6_isWord 48 = .ok (.iload 4, 2) := by decide +kernel
theorem dX6_isWord_50 : decode cX6_isWord 50 = .ok (.imul, 1) := by decide +kernel
theorem dX6_isWord_51 : decode cX6_isWord 51 = .ok (.ishr, 1) := by decide +kernel
theorem dX6_isWord_52 : decode cX6_isWord 52 = .ok (.bipush 31, 2) := by decide +kernel
theorem dX6_isWord_54 : decode cX6_isWord 54 = .ok (.iand, 1) := by decide +kernel
theorem dX6_isWord_55 : decode cX6_isWord 55 = .ok (.iadd, 1) := by decide +kernel
theorem dX6_isWord_56 : decode cX6_isWord 56 = .ok (.if_icmp .ne 7, 3) := by decide +kernel
theorem dX6_isWord_59 : decode cX6_isWord 59 = .ok (.iconst 1, 1) := by decide +kernel
theorem dX6_isWord_60 : decode cX6_isWord 60 = .ok (.goto 4, 3) := by decide +kernel
theorem dX6_isWord_63 : decode cX6_isWord 63 = .ok (.iconst 0, 1) := by decide +kernel
theorem dX6_isWord_64 : decode cX6_isWord 64 = .ok (.istore_n 3, 1) := by decide +kernel
theorem dX6_isWord_65 : decode cX6_isWord 65 = .ok (.iinc 4 1, 3) := by decide +kernel
theorem dX6_isWord_68 : decode cX6_isWord 68 = .ok (.goto (-46), 3) := by decide +kernel
theorem dX6_isWord_71 : decode cX6_isWord 71 = .ok (.iload_n 3, 1) := by decide +kernel
theorem dX6_isWord_72 : decode cX6_isWord 72 = .ok (.ireturn, 1) := by decide +kernel
set_option maxRecDepth 20000 in
theorem ggX6_deedWord_X6_isWord : GoodIn wsX6_deedWord wsX6_isWord := goodIn_r _ [9, 10, 11, 12, 13, 14, 15, 16, 17, 18, 19, 20, 21, 22, 23, 24, 25, 26, 27, 28, 29, 30, 31, 32, 33, 34, 35, 36, 37, 38] (by decide +kernel) (by decide +kernel)
set_option maxRecDepth 20000 in
theorem gX6_deedWord_X6_isWord : GoodIn wsX6_deedWord (wsV RX6 79 RX6 yX6_isWord wsX6_isWord) := goodIn_app (goodIn_of _ (by decide +kernel)) ggX6_deedWord_X6_isWord
theorem dX6_deedWord_0 : decode cX6_deedWord 0 = .ok (.aload_n 0, 1) := by decide +kernel
theorem dX6_deedWord_1 : decode cX6_deedWord 1 = .ok (.ldc 78, 2) := by decide +kernel
theorem dX6_deedWord_3 : decode cX6_deedWord 3 = .ok (.iconst 5, 1) := by decide +kernel
theorem dX6_deedWord_4 : decode cX6_deedWord 4 = .ok (.invokevirtual 79, 3) := by decide +kernel
theorem dX6_deedWord_7 : decode cX6_deedWord 7 = .ok (.ifCond .eq 7, 3) := by decide +kernel
theorem dX6_deedWord_10 : decode cX6_deedWord 10 = .ok (.iconst 4, 1) := by decide +kernel
theorem dX6_deedWord_11 : decode cX6_deedWord 11 = .ok (.goto 50, 3) := by decide +kernel
theorem dX6_deedWord_14 : decode cX6_deedWord 14 = .ok (.aload_n 0, 1) := by decide +kernel
theorem dX6_deedWord_15 : decode cX6_deedWord 15 = .ok (.ldc 83, 2) := by decide +kernel
theorem dX6_deedWord_17 : decode cX6_deedWord 17 = .ok (.bipush 6, 2) := by decide +kernel
theorem dX6_deedWord_19 : decode cX6_deedWord 19 = .ok (.invokevirtual 79, 3) := by decide +kernel
theorem dX6_deedWord_22 : decode cX6_deedWord 22 = .ok (.ifCond .eq 7, 3) := by decide +kernel
theorem dX6_deedWord_25 : decode cX6_deedWord 25 = .ok (.iconst 5, 1) := by decide +kernel
theorem dX6_deedWord_26 : decode cX6_deedWord 26 = .ok (.goto 35, 3) := by decide +kernel
theorem dX6_deedWord_29 : decode cX6_deedWord 29 = .ok (.aload_n 0, 1) := by decide +kernel
theorem dX6_deedWord_30 : decode cX6_deedWord 30 = .ok (.ldc 84, 2) := by decide +kernel
theorem dX6_deedWord_32 : decode cX6_deedWord 32 = .ok (.bipush 6, 2) := by decide +kernel
theorem dX6_deedWord_34 : decode cX6_deedWord 34 = .ok (.invokevirtual 79, 3) := by decide +kernel
theorem dX6_deedWord_37 : decode cX6_deedWord 37 = .ok (.ifCond .eq 8, 3) := by decide +kernel
theorem dX6_deedWord_40 : decode cX6_deedWord 40 = .ok (.bipush 6, 2) := by decide +kernel
theorem dX6_deedWord_42 : decode cX6_deedWord 42 = .ok (.goto 19, 3) := by decide +kernel
theorem dX6_deedWord_45 : decode cX6_deedWord 45 = .ok (.aload_n 0, 1) := by decide +kernel
theorem dX6_deedWord_46 : decode cX6_deedWord 46 = .ok (.ldc 85, 2) := by decide +kernel
theorem dX6_deedWord_48 : decode cX6_deedWord 48 = .ok (.iconst 5, 1) := by decide +kernel
theorem dX6_deedWord_49 : decode cX6_deedWord 49 = .ok (.invokevirtual 79, 3) := by decide +kernel
theorem dX6_deedWord_52 : decode cX6_deedWord 52 = .ok (.ifCond .eq 8, 3) := by decide +kernel
theorem dX6_deedWord_55 : decode cX6_deedWord 55 = .ok (.bipush 7, 2) := by decide +kernel
theorem dX6_deedWord_57 : decode cX6_deedWord 57 = .ok (.goto 4, 3) := by decide +kernel
theorem dX6_deedWord_60 : decode cX6_deedWord 60 = .ok (.iconst (-1), 1) := by decide +kernel
theorem dX6_deedWord_61 : decode cX6_deedWord 61 = .ok (.ireturn, 1) := by decide +kernel
set_option maxRecDepth 20000 in
theorem ggX6_houseWord_X6_isWord : GoodIn wsX6_houseWord wsX6_isWord := goodIn_r _ [8, 9, 10, 11, 12, 13, 14, 15, 16, 17, 18, 19, 20, 21, 22, 23, 24, 25, 26, 27, 28, 29, 30, 31, 32, 33, 34, 35, 36, 37] (by decide +kernel) (by decide +kernel)
set_option maxRecDepth 20000 in
theorem gX6_houseWord_X6_isWord : GoodIn wsX6_houseWord (wsV RX6 79 RX6 yX6_isWord wsX6_isWord) := goodIn_app (goodIn_of _ (by decide +kernel)) ggX6_houseWord_X6_isWord
theorem dX6_houseWord_0 : decode cX6_houseWord 0 = .ok (.aload_n 0, 1) := by decide +kernel
theorem dX6_houseWord_1 : decode cX6_houseWord 1 = .ok (.ldc 86, 2) := by decide +kernel
theorem dX6_houseWord_3 : decode cX6_houseWord 3 = .ok (.bipush 6, 2) := by decide +kernel
theorem dX6_houseWord_5 : decode cX6_houseWord 5 = .ok (.invokevirtual 79, 3) := by decide +kernel
theorem dX6_houseWord_8 : decode cX6_houseWord 8 = .ok (.ifCond .eq 7, 3) := by decide +kernel
theorem dX6_houseWord_11 : decode cX6_houseWord 11 = .ok (.iconst 0, 1) := by decide +kernel
theorem dX6_houseWord_12 : decode cX6_houseWord 12 = .ok (.goto 48, 3) := by decide +kernel
theorem dX6_houseWord_15 : decode cX6_houseWord 15 = .ok (.aload_n 0, 1) := by decide +kernel
theorem dX6_houseWord_16 : decode cX6_houseWord 16 = .ok (.ldc 87, 2) := by decide +kernel
theorem dX6_houseWord_18 : decode cX6_houseWord 18 = .ok (.bipush 6, 2) := by decide +kernel
theorem dX6_houseWord_20 : decode cX6_houseWord 20 = .ok (.invokevirtual 79, 3) := by decide +kernel
theorem dX6_houseWord_23 : decode cX6_houseWord 23 = .ok (.ifCond .eq 7, 3) := by decide +kernel
theorem dX6_houseWord_26 : decode cX6_houseWord 26 = .ok (.iconst 1, 1) := by decide +kernel
theorem dX6_houseWord_27 : decode cX6_houseWord 27 = .ok (.goto 33, 3) := by decide +kernel
theorem dX6_houseWord_30 : decode cX6_houseWord 30 = .ok (.aload_n 0, 1) := by decide +kernel
theorem dX6_houseWord_31 : decode cX6_houseWord 31 = .ok (.sipush 16423, 3) := by decide +kernel
theorem dX6_houseWord_34 : decode cX6_houseWord 34 = .ok (.iconst 3, 1) := by decide +kernel
theorem dX6_houseWord_35 : decode cX6_houseWord 35 = .ok (.invokevirtual 79, 3) := by decide +kernel
theorem dX6_houseWord_38 : decode cX6_houseWord 38 = .ok (.ifCond .eq 7, 3) := by decide +kernel
theorem dX6_houseWord_41 : decode cX6_houseWord 41 = .ok (.iconst 2, 1) := by decide +kernel
theorem dX6_houseWord_42 : decode cX6_houseWord 42 = .ok (.goto 18, 3) := by decide +kernel
theorem dX6_houseWord_45 : decode cX6_houseWord 45 = .ok (.aload_n 0, 1) := by decide +kernel
theorem dX6_houseWord_46 : decode cX6_houseWord 46 = .ok (.ldc 88, 2) := by decide +kernel
theorem dX6_houseWord_48 : decode cX6_houseWord 48 = .ok (.iconst 5, 1) := by decide +kernel
theorem dX6_houseWord_49 : decode cX6_houseWord 49 = .ok (.invokevirtual 79, 3) := by decide +kernel
theorem dX6_houseWord_52 : decode cX6_houseWord 52 = .ok (.ifCond .eq 7, 3) := by decide +kernel
theorem dX6_houseWord_55 : decode cX6_houseWord 55 = .ok (.iconst 3, 1) := by decide +kernel
theorem dX6_houseWord_56 : decode cX6_houseWord 56 = .ok (.goto 4, 3) := by decide +kernel
theorem dX6_houseWord_59 : decode cX6_houseWord 59 = .ok (.iconst (-1), 1) := by decide +kernel
theorem dX6_houseWord_60 : decode cX6_houseWord 60 = .ok (.ireturn, 1) := by decide +kernel
set_option maxRecDepth 20000 in
theorem ggX6_wordOf_X6_deedWord : GoodIn wsX6_wordOf wsX6_deedWord := goodIn_r _ [10, 11, 12, 13, 14, 15, 16, 17, 9, 18, 19, 20, 21, 29, 30, 31, 32, 33, 34, 35, 36, 37, 38, 39, 40, 41, 42, 43, 44, 45, 46, 47, 48, 49, 50, 51, 52, 53, 54] (by decide +kernel) (by decide +kernel)
set_option maxRecDepth 20000 in
theorem gX6_wordOf_X6_deedWord : GoodIn wsX6_wordOf (wsV RX6 89 RX6 yX6_deedWord wsX6_deedWord) := goodIn_app (goodIn_of _ (by decide +kernel)) ggX6_wordOf_X6_deedWord
set_option maxRecDepth 20000 in
theorem ggX6_wordOf_X6_houseWord : GoodIn wsX6_wordOf wsX6_houseWord := goodIn_r _ [25, 26, 27, 28, 15, 16, 17, 9, 18, 19, 20, 21, 29, 30, 31, 32, 33, 34, 35, 36, 37, 38, 39, 40, 41, 42, 43, 44, 45, 46, 47, 48, 49, 50, 51, 52, 53, 54] (by decide +kernel) (by decide +kernel)
set_option maxRecDepth 20000 in
theorem gX6_wordOf_X6_houseWord : GoodIn wsX6_wordOf (wsV RX6 93 RX6 yX6_houseWord wsX6_houseWord) := goodIn_app (goodIn_of _ (by decide +kernel)) ggX6_wordOf_X6_houseWord
set_option maxRecDepth 20000 in
theorem ggX6_wordOf_X6_isWord : GoodIn wsX6_wordOf wsX6_isWord := goodIn_r _ [18, 19, 20, 21, 29, 30, 31, 32, 33, 34, 35, 36, 37, 38, 39, 40, 41, 42, 43, 44, 45, 46, 47, 48, 49, 50, 51, 52, 53, 54] (by decide +kernel) (by decide +kernel)
set_option maxRecDepth 20000 in
theorem gX6_wordOf_X6_isWord : GoodIn wsX6_wordOf (wsV RX6 79 RX6 yX6_isWord wsX6_isWord) := goodIn_app (goodIn_of _ (by decide +kernel)) ggX6_wordOf_X6_isWord
theorem dX6_wordOf_0 : decode cX6_wordOf 0 = .ok (.aload_n 0, 1) := by decide +kernel
theorem dX6_wordOf_1 : decode cX6_wordOf 1 = .ok (.invokevirtual 89, 3) := by decide +kernel
theorem dX6_wordOf_4 : decode cX6_wordOf 4 = .ok (.istore_n 1, 1) := by decide +kernel
theorem dX6_wordOf_5 : decode cX6_wordOf 5 = .ok (.aload_n 0, 1) := by decide +kernel
theorem dX6_wordOf_6 : decode cX6_wordOf 6 = .ok (.invokevirtual 93, 3) := by decide +kernel
theorem dX6_wordOf_9 : decode cX6_wordOf 9 = .ok (.istore_n 2, 1) := by decide +kernel
theorem dX6_wordOf_10 : decode cX6_wordOf 10 = .ok (.iload_n 1, 1) := by decide +kernel
theorem dX6_wordOf_11 : decode cX6_wordOf 11 = .ok (.iconst (-1), 1) := by decide +kernel
theorem dX6_wordOf_12 : decode cX6_wordOf 12 = .ok (.if_icmp .eq 7, 3) := by decide +kernel
theorem dX6_wordOf_15 : decode cX6_wordOf 15 = .ok (.iload_n 1, 1) := by decide +kernel
theorem dX6_wordOf_16 : decode cX6_wordOf 16 = .ok (.goto 89, 3) := by decide +kernel
theorem dX6_wordOf_19 : decode cX6_wordOf 19 = .ok (.iload_n 2, 1) := by decide +kernel
theorem dX6_wordOf_20 : decode cX6_wordOf 20 = .ok (.iconst (-1), 1) := by decide +kernel
theorem dX6_wordOf_21 : decode cX6_wordOf 21 = .ok (.if_icmp .eq 7, 3) := by decide +kernel
theorem dX6_wordOf_24 : decode cX6_wordOf 24 = .ok (.iload_n 2, 1) := by decide +kernel
theorem dX6_wordOf_25 : decode cX6_wordOf 25 = .ok (.goto 80, 3) := by decide +kernel
theorem dX6_wordOf_28 : decode cX6_wordOf 28 = .ok (.aload_n 0, 1) := by decide +kernel
theorem dX6_wordOf_29 : decode cX6_wordOf 29 = .ok (.ldc 96, 2) := by decide +kernel
theorem dX6_wordOf_31 : decode cX6_wordOf 31 = .ok (.iconst 4, 1) := by decide +kernel
theorem dX6_wordOf_32 : decode cX6_wordOf 32 = .ok (.invokevirtual 79, 3) := by decide +kernel
theorem dX6_wordOf_35 : decode cX6_wordOf 35 = .ok (.ifCond .eq 8, 3) := by decide +kernel
theorem dX6_wordOf_38 : decode cX6_wordOf 38 = .ok (.bipush 8, 2) := by decide +kernel
theorem dX6_wordOf_40 : decode cX6_wordOf 40 = .ok (.goto 65, 3) := by decide +kernel
theorem dX6_wordOf_43 : decode cX6_wordOf 43 = .ok (.aload_n 0, 1) := by decide +kernel
theorem dX6_wordOf_44 : decode cX6_wordOf 44 = .ok (.ldc 97, 2) := by decide +kernel
theorem dX6_wordOf_46 : decode cX6_wordOf 46 = .ok (.iconst 4, 1) := by decide +kernel
theorem dX6_wordOf_47 : decode cX6_wordOf 47 = .ok (.invokevirtual 79, 3) := by decide +kernel
theorem dX6_wordOf_50 : decode cX6_wordOf 50 = .ok (.ifCond .eq 8, 3) := by decide +kernel
theorem dX6_wordOf_53 : decode cX6_wordOf 53 = .ok (.bipush 9, 2) := by decide +kernel
theorem dX6_wordOf_55 : decode cX6_wordOf 55 = .ok (.goto 50, 3) := by decide +kernel
theorem dX6_wordOf_58 : decode cX6_wordOf 58 = .ok (.aload_n 0, 1) := by decide +kernel
theorem dX6_wordOf_59 : decode cX6_wordOf 59 = .ok (.ldc 98, 2) := by decide +kernel
theorem dX6_wordOf_61 : decode cX6_wordOf 61 = .ok (.iconst 4, 1) := by decide +kernel
theorem dX6_wordOf_62 : decode cX6_wordOf 62 = .ok (.invokevirtual 79, 3) := by decide +kernel
theorem dX6_wordOf_65 : decode cX6_wordOf 65 = .ok (.ifCond .eq 8, 3) := by decide +kernel
theorem dX6_wordOf_68 : decode cX6_wordOf 68 = .ok (.bipush 10, 2) := by decide +kernel
theorem dX6_wordOf_70 : decode cX6_wordOf 70 = .ok (.goto 35, 3) := by decide +kernel
theorem dX6_wordOf_73 : decode cX6_wordOf 73 = .ok (.aload_n 0, 1) := by decide +kernel
theorem dX6_wordOf_74 : decode cX6_wordOf 74 = .ok (.ldc 99, 2) := by decide +kernel
theorem dX6_wordOf_76 : decode cX6_wordOf 76 = .ok (.bipush 6, 2) := by decide +kernel
theorem dX6_wordOf_78 : decode cX6_wordOf 78 = .ok (.invokevirtual 79, 3) := by decide +kernel
theorem dX6_wordOf_81 : decode cX6_wordOf 81 = .ok (.ifCond .eq 8, 3) := by decide +kernel
theorem dX6_wordOf_84 : decode cX6_wordOf 84 = .ok (.bipush 11, 2) := by decide +kernel
theorem dX6_wordOf_86 : decode cX6_wordOf 86 = .ok (.goto 19, 3) := by decide +kernel
theorem dX6_wordOf_89 : decode cX6_wordOf 89 = .ok (.aload_n 0, 1) := by decide +kernel
theorem dX6_wordOf_90 : decode cX6_wordOf 90 = .ok (.ldc 100, 2) := by decide +kernel
theorem dX6_wordOf_92 : decode cX6_wordOf 92 = .ok (.iconst 5, 1) := by decide +kernel
theorem dX6_wordOf_93 : decode cX6_wordOf 93 = .ok (.invokevirtual 79, 3) := by decide +kernel
theorem dX6_wordOf_96 : decode cX6_wordOf 96 = .ok (.ifCond .eq 8, 3) := by decide +kernel
theorem dX6_wordOf_99 : decode cX6_wordOf 99 = .ok (.bipush 12, 2) := by decide +kernel
theorem dX6_wordOf_101 : decode cX6_wordOf 101 = .ok (.goto 4, 3) := by decide +kernel
theorem dX6_wordOf_104 : decode cX6_wordOf 104 = .ok (.iconst (-1), 1) := by decide +kernel
theorem dX6_wordOf_105 : decode cX6_wordOf 105 = .ok (.ireturn, 1) := by decide +kernel
set_option maxRecDepth 20000 in
theorem ggX6_reads_X6_sort : GoodIn wsX6_reads wsX6_sort := goodIn_r _ [10] (by decide +kernel) (by decide +kernel)
set_option maxRecDepth 20000 in
theorem gX6_reads_X6_sort : GoodIn wsX6_reads (va_wsS RX6 71 yX6_sort wsX6_sort) := goodIn_app (goodIn_of _ (by decide +kernel)) ggX6_reads_X6_sort
set_option maxRecDepth 20000 in
theorem ggX6_reads_X6_in : GoodIn wsX6_reads wsX6_in := goodIn_r _ [13] (by decide +kernel) (by decide +kernel)
set_option maxRecDepth 20000 in
theorem gX6_reads_X6_in : GoodIn wsX6_reads (va_wsS RX6 56 yX6_in wsX6_in) := goodIn_app (goodIn_of _ (by decide +kernel)) ggX6_reads_X6_in
set_option maxRecDepth 20000 in
theorem ggX6_reads_X6_token : GoodIn wsX6_reads wsX6_token := goodIn_r _ [17, 18, 2, 3, 1, 4, 7, 8, 9, 10, 19, 20, 21, 22, 23, 24, 25, 26, 27, 28, 29, 30, 31, 32, 33, 34, 35, 36, 37, 38, 39, 40, 41, 42, 43, 44] (by decide +kernel) (by decide +kernel)
set_option maxRecDepth 20000 in
theorem gX6_reads_X6_token : GoodIn wsX6_reads (wsV RX6 104 RX6 yX6_token wsX6_token) := goodIn_app (goodIn_of _ (by decide +kernel)) ggX6_reads_X6_token
theorem dX6_reads_0 : decode cX6_reads 0 = .ok (.aload_n 0, 1) := by decide +kernel
theorem dX6_reads_1 : decode cX6_reads 1 = .ok (.getfield 68, 3) := by decide +kernel
theorem dX6_reads_4 : decode cX6_reads 4 = .ok (.aload_n 0, 1) := by decide +kernel
theorem dX6_reads_5 : decode cX6_reads 5 = .ok (.getfield 60, 3) := by decide +kernel
theorem dX6_reads_8 : decode cX6_reads 8 = .ok (.if_icmp .eq 32, 3) := by decide +kernel
theorem dX6_reads_11 : decode cX6_reads 11 = .ok (.aload_n 0, 1) := by decide +kernel
theorem dX6_reads_12 : decode cX6_reads 12 = .ok (.getfield 17, 3) := by decide +kernel
theorem dX6_reads_15 : decode cX6_reads 15 = .ok (.aload_n 0, 1) := by decide +kernel
theorem dX6_reads_16 : decode cX6_reads 16 = .ok (.getfield 68, 3) := by decide +kernel
theorem dX6_reads_19 : decode cX6_reads 19 = .ok (.iaload, 1) := by decide +kernel
theorem dX6_reads_20 : decode cX6_reads 20 = .ok (.invokestatic 71, 3) := by decide +kernel
theorem dX6_reads_23 : decode cX6_reads 23 = .ok (.iconst 2, 1) := by decide +kernel
theorem dX6_reads_24 : decode cX6_reads 24 = .ok (.if_icmp .ne 16, 3) := by decide +kernel
theorem dX6_reads_27 : decode cX6_reads 27 = .ok (.aload_n 0, 1) := by decide +kernel
theorem dX6_reads_28 : decode cX6_reads 28 = .ok (.getfield 75, 3) := by decide +kernel
theorem dX6_reads_31 : decode cX6_reads 31 = .ok (.aload_n 0, 1) := by decide +kernel
theorem dX6_reads_32 : decode cX6_reads 32 = .ok (.getfield 68, 3) := by decide +kernel
theorem dX6_reads_35 : decode cX6_reads 35 = .ok (.isub, 1) := by decide +kernel
theorem dX6_reads_36 : decode cX6_reads 36 = .ok (.iconst 2, 1) := by decide +kernel
theorem dX6_reads_37 : decode cX6_reads 37 = .ok (.if_icmp .le 5, 3) := by decide +kernel
theorem dX6_reads_40 : decode cX6_reads 40 = .ok (.iconst 0, 1) := by decide +kernel
theorem dX6_reads_41 : decode cX6_reads 41 = .ok (.ireturn, 1) := by decide +kernel
theorem dX6_reads_42 : decode cX6_reads 42 = .ok (.iconst 0, 1) := by decide +kernel
theorem dX6_reads_43 : decode cX6_reads 43 = .ok (.istore 5, 2) := by decide +kernel
theorem dX6_reads_45 : decode cX6_reads 45 = .ok (.aload_n 0, 1) := by decide +kernel
theorem dX6_reads_46 : decode cX6_reads 46 = .ok (.getfield 68, 3) := by decide +kernel
theorem dX6_reads_49 : decode cX6_reads 49 = .ok (.istore 6, 2) := by decide +kernel
theorem dX6_reads_51 : decode cX6_reads 51 = .ok (.iload 6, 2) := by decide +kernel
theorem dX6_reads_53 : decode cX6_reads 53 = .ok (.aload_n 0, 1) := by decide +kernel
theorem dX6_reads_54 : decode cX6_reads 54 = .ok (.getfield 75, 3) := by decide +kernel
theorem dX6_reads_57 : decode cX6_reads 57 = .ok (.if_icmp .ge 27, 3) := by decide +kernel
theorem dX6_reads_60 : decode cX6_reads 60 = .ok (.bipush 10, 2) := by decide +kernel
theorem dX6_reads_62 : decode cX6_reads 62 = .ok (.iload 5, 2) := by decide +kernel
theorem dX6_reads_64 : decode cX6_reads 64 = .ok (.imul, 1) := by decide +kernel
theorem dX6_reads_65 : decode cX6_reads 65 = .ok (.aload_n 0, 1) := by decide +kernel
theorem dX6_reads_66 : decode cX6_reads 66 = .ok (.getfield 17, 3) := by decide +kernel
theorem dX6_reads_69 : decode cX6_reads 69 = .ok (.iload 6, 2) := by decide +kernel
theorem dX6_reads_71 : decode cX6_reads 71 = .ok (.iaload, 1) := by decide +kernel
theorem dX6_reads_72 : decode cX6_reads 72 = .ok (.iadd, 1) := by decide +kernel
theorem dX6_reads_73 : decode cX6_reads 73 = .ok (.bipush 48, 2) := by decide +kernel
theorem dX6_reads_75 : decode cX6_reads 75 = .ok (.isub, 1) := by decide +kernel
theorem dX6_reads_76 : decode cX6_reads 76 = .ok (.istore 5, 2) := by decide +kernel
theorem dX6_reads_78 : decode cX6_reads 78 = .ok (.iinc 6 1, 3) := by decide +kernel
theorem dX6_reads_81 : decode cX6_reads 81 = .ok (.goto (-30), 3) := by decide +kernel
theorem dX6_reads_84 : decode cX6_reads 84 = .ok (.iload 5, 2) := by decide +kernel
theorem dX6_reads_86 : decode cX6_reads 86 = .ok (.i2l, 1) := by decide +kernel
theorem dX6_reads_87 : decode cX6_reads 87 = .ok (.iload_n 2, 1) := by decide +kernel
theorem dX6_reads_88 : decode cX6_reads 88 = .ok (.i2l, 1) := by decide +kernel
theorem dX6_reads_89 : decode cX6_reads 89 = .ok (.iload_n 3, 1) := by decide +kernel
theorem dX6_reads_90 : decode cX6_reads 90 = .ok (.i2l, 1) := by decide +kernel
theorem dX6_reads_91 : decode cX6_reads 91 = .ok (.invokestatic 56, 3) := by decide +kernel
theorem dX6_reads_94 : decode cX6_reads 94 = .ok (.ifCond .eq 10, 3) := by decide +kernel
theorem dX6_reads_97 : decode cX6_reads 97 = .ok (.iload 5, 2) := by decide +kernel
theorem dX6_reads_99 : decode cX6_reads 99 = .ok (.iload 4, 2) := by decide +kernel
theorem dX6_reads_101 : decode cX6_reads 101 = .ok (.if_icmp .ne 5, 3) := by decide +kernel
theorem dX6_reads_104 : decode cX6_reads 104 = .ok (.iconst 0, 1) := by decide +kernel
theorem dX6_reads_105 : decode cX6_reads 105 = .ok (.ireturn, 1) := by decide +kernel
theorem dX6_reads_106 : decode cX6_reads 106 = .ok (.aload_n 0, 1) := by decide +kernel
theorem dX6_reads_107 : decode cX6_reads 107 = .ok (.getfield 20, 3) := by decide +kernel
theorem dX6_reads_110 : decode cX6_reads 110 = .ok (.iconst 5, 1) := by decide +kernel
theorem dX6_reads_111 : decode cX6_reads 111 = .ok (.aload_n 0, 1) := by decide +kernel
theorem dX6_reads_112 : decode cX6_reads 112 = .ok (.getfield 101, 3) := by decide +kernel
theorem dX6_reads_115 : decode cX6_reads 115 = .ok (.imul, 1) := by decide +kernel
theorem dX6_reads_116 : decode cX6_reads 116 = .ok (.iconst 1, 1) := by decide +kernel
theorem dX6_reads_117 : decode cX6_reads 117 = .ok (.iadd, 1) := by decide +kernel
theorem dX6_reads_118 : decode cX6_reads 118 = .ok (.iload_n 1, 1) := by decide +kernel
theorem dX6_reads_119 : decode cX6_reads 119 = .ok (.iadd, 1) := by decide +kernel
theorem dX6_reads_120 : decode cX6_reads 120 = .ok (.iload 5, 2) := by decide +kernel
theorem dX6_reads_122 : decode cX6_reads 122 = .ok (.iastore, 1) := by decide +kernel
theorem dX6_reads_123 : decode cX6_reads 123 = .ok (.aload_n 0, 1) := by decide +kernel
theorem dX6_reads_124 : decode cX6_reads 124 = .ok (.invokevirtual 104, 3) := by decide +kernel
theorem dX6_reads_127 : decode cX6_reads 127 = .ok (.iconst 1, 1) := by decide +kernel
theorem dX6_reads_128 : decode cX6_reads 128 = .ok (.ireturn, 1) := by decide +kernel
set_option maxRecDepth 20000 in
theorem ggX6_readsRest_X6_reads : GoodIn wsX6_readsRest wsX6_reads := goodIn_r _ [9, 10, 11, 12, 13, 3, 4, 14, 15, 8, 16, 17, 18, 19, 20, 21, 22, 23, 24, 25, 26, 27, 28, 29, 30, 31, 32, 33, 34, 35, 36, 37, 38, 39, 40, 41, 42, 43, 44, 45, 46, 47, 48, 49, 50] (by decide +kernel) (by decide +kernel)
set_option maxRecDepth 20000 in
theorem gX6_readsRest_X6_reads : GoodIn wsX6_readsRest (wsV RX6 113 RX6 yX6_reads wsX6_reads) := goodIn_app (goodIn_of _ (by decide +kernel)) ggX6_readsRest_X6_reads
theorem dX6_readsRest_0 : decode cX6_readsRest 0 = .ok (.aload_n 0, 1) := by decide +kernel
theorem dX6_readsRest_1 : decode cX6_readsRest 1 = .ok (.getfield 107, 3) := by decide +kernel
theorem dX6_readsRest_4 : decode cX6_readsRest 4 = .ok (.iconst 1, 1) := by decide +kernel
theorem dX6_readsRest_5 : decode cX6_readsRest 5 = .ok (.isub, 1) := by decide +kernel
theorem dX6_readsRest_6 : decode cX6_readsRest 6 = .ok (.istore_n 2, 1) := by decide +kernel
theorem dX6_readsRest_7 : decode cX6_readsRest 7 = .ok (.aload_n 0, 1) := by decide +kernel
theorem dX6_readsRest_8 : decode cX6_readsRest 8 = .ok (.getfield 110, 3) := by decide +kernel
theorem dX6_readsRest_11 : decode cX6_readsRest 11 = .ok (.iconst 1, 1) := by decide +kernel
theorem dX6_readsRest_12 : decode cX6_readsRest 12 = .ok (.isub, 1) := by decide +kernel
theorem dX6_readsRest_13 : decode cX6_readsRest 13 = .ok (.istore_n 3, 1) := by decide +kernel
theorem dX6_readsRest_14 : decode cX6_readsRest 14 = .ok (.iload_n 1, 1) := by decide +kernel
theorem dX6_readsRest_15 : decode cX6_readsRest 15 = .ok (.tableswitch 230 0 12 #[65, 75, 103, 112, 230, 230, 230, 230, 141, 103, 169, 221, 221], 65) := by decide +kernel
theorem dX6_readsRest_80 : decode cX6_readsRest 80 = .ok (.aload_n 0, 1) := by decide +kernel
theorem dX6_readsRest_81 : decode cX6_readsRest 81 = .ok (.iconst 0, 1) := by decide +kernel
theorem dX6_readsRest_82 : decode cX6_readsRest 82 = .ok (.iconst 2, 1) := by decide +kernel
theorem dX6_readsRest_83 : decode cX6_readsRest 83 = .ok (.bipush 8, 2) := by decide +kernel
theorem dX6_readsRest_85 : decode cX6_readsRest 85 = .ok (.iconst (-1), 1) := by decide +kernel
theorem dX6_readsRest_86 : decode cX6_readsRest 86 = .ok (.invokevirtual 113, 3) := by decide +kernel
theorem dX6_readsRest_89 : decode cX6_readsRest 89 = .ok (.ireturn, 1) := by decide +kernel
theorem dX6_readsRest_90 : decode cX6_readsRest 90 = .ok (.aload_n 0, 1) := by decide +kernel
theorem dX6_readsRest_91 : decode cX6_readsRest 91 = .ok (.iconst 0, 1) := by decide +kernel
theorem dX6_readsRest_92 : decode cX6_readsRest 92 = .ok (.iconst 0, 1) := by decide +kernel
theorem dX6_readsRest_93 : decode cX6_readsRest 93 = .ok (.iload_n 2, 1) := by decide +kernel
theorem dX6_readsRest_94 : decode cX6_readsRest 94 = .ok (.iconst (-1), 1) := by decide +kernel
theorem dX6_readsRest_95 : decode cX6_readsRest 95 = .ok (.invokevirtual 113, 3) := by decide +kernel
theorem dX6_readsRest_98 : decode cX6_readsRest 98 = .ok (.ifCond .eq 18, 3) := by decide +kernel
theorem dX6_readsRest_101 : decode cX6_readsRest 101 = .ok (.aload_n 0, 1) := by decide +kernel
theorem dX6_readsRest_102 : decode cX6_readsRest 102 = .ok (.iconst 1, 1) := by decide +kernel
theorem dX6_readsRest_103 : decode cX6_readsRest 103 = .ok (.iconst 0, 1) := by decide +kernel
theorem dX6_readsRest_104 : decode cX6_readsRest 104 = .ok (.iload_n 2, 1) := by decide +kernel
theorem dX6_readsRest_105 : decode cX6_readsRest 105 = .ok (.iconst (-1), 1) := by decide +kernel
theorem dX6_readsRest_106 : decode cX6_readsRest 106 = .ok (.invokevirtual 113, 3) := by decide +kernel
theorem dX6_readsRest_109 : decode cX6_readsRest 109 = .ok (.ifCond .eq 7, 3) := by decide +kernel
theorem dX6_readsRest_112 : decode cX6_readsRest 112 = .ok (.iconst 1, 1) := by decide +kernel
theorem dX6_readsRest_113 : decode cX6_readsRest 113 = .ok (.goto 4, 3) := by decide +kernel
theorem dX6_readsRest_116 : decode cX6_readsRest 116 = .ok (.iconst 0, 1) := by decide +kernel
theorem dX6_readsRest_117 : decode cX6_readsRest 117 = .ok (.ireturn, 1) := by decide +kernel
theorem dX6_readsRest_118 : decode cX6_readsRest 118 = .ok (.aload_n 0, 1) := by decide +kernel
theorem dX6_readsRest_119 : decode cX6_readsRest 119 = .ok (.iconst 0, 1) := by decide +kernel
theorem dX6_readsRest_120 : decode cX6_readsRest 120 = .ok (.iconst 0, 1) := by decide +kernel
theorem dX6_readsRest_121 : decode cX6_readsRest 121 = .ok (.iload_n 2, 1) := by decide +kernel
theorem dX6_readsRest_122 : decode cX6_readsRest 122 = .ok (.iconst (-1), 1) := by decide +kernel
theorem dX6_readsRest_123 : decode cX6_readsRest 123 = .ok (.invokevirtual 113, 3) := by decide +kernel
theorem dX6_readsRest_126 : decode cX6_readsRest 126 = .ok (.ireturn, 1) := by decide +kernel
theorem dX6_readsRest_127 : decode cX6_readsRest 127 = .ok (.aload_n 0, 1) := by decide +kernel
theorem dX6_readsRest_128 : decode cX6_readsRest 128 = .ok (.iconst 0, 1) := by decide +kernel
theorem dX6_readsRest_129 : decode cX6_readsRest 129 = .ok (.iconst 0, 1) := by decide +kernel
theorem dX6_readsRest_130 : decode cX6_readsRest 130 = .ok (.iload_n 2, 1) := by decide +kernel
theorem dX6_readsRest_131 : decode cX6_readsRest 131 = .ok (.iconst (-1), 1) := by decide +kernel
theorem dX6_readsRest_132 : decode cX6_readsRest 132 = .ok (.invokevirtual 113, 3) := by decide +kernel
theorem dX6_readsRest_135 : decode cX6_readsRest 135 = .ok (.ifCond .eq 19, 3) := by decide +kernel
theorem dX6_readsRest_138 : decode cX6_readsRest 138 = .ok (.aload_n 0, 1) := by decide +kernel
theorem dX6_readsRest_139 : decode cX6_readsRest 139 = .ok (.iconst 1, 1) := by decide +kernel
theorem dX6_readsRest_140 : decode cX6_readsRest 140 = .ok (.iconst 0, 1) := by decide +kernel
theorem dX6_readsRest_141 : decode cX6_readsRest 141 = .ok (.bipush 15, 2) := by decide +kernel
theorem dX6_readsRest_143 : decode cX6_readsRest 143 = .ok (.iconst (-1), 1) := by decide +kernel
theorem dX6_readsRest_144 : decode cX6_readsRest 144 = .ok (.invokevirtual 113, 3) := by decide +kernel
theorem dX6_readsRest_147 : decode cX6_readsRest 147 = .ok (.ifCond .eq 7, 3) := by decide +kernel
theorem dX6_readsRest_150 : decode cX6_readsRest 150 = .ok (.iconst 1, 1) := by decide +kernel
theorem dX6_readsRest_151 : decode cX6_readsRest 151 = .ok (.goto 4, 3) := by decide +kernel
theorem dX6_readsRest_154 : decode cX6_readsRest 154 = .ok (.iconst 0, 1) := by decide +kernel
theorem dX6_readsRest_155 : decode cX6_readsRest 155 = .ok (.ireturn, 1) := by decide +kernel
theorem dX6_readsRest_156 : decode cX6_readsRest 156 = .ok (.aload_n 0, 1) := by decide +kernel
theorem dX6_readsRest_157 : decode cX6_readsRest 157 = .ok (.iconst 0, 1) := by decide +kernel
theorem dX6_readsRest_158 : decode cX6_readsRest 158 = .ok (.iconst 0, 1) := by decide +kernel
theorem dX6_readsRest_159 : decode cX6_readsRest 159 = .ok (.iload_n 2, 1) := by decide +kernel
theorem dX6_readsRest_160 : decode cX6_readsRest 160 = .ok (.iconst (-1), 1) := by decide +kernel
theorem dX6_readsRest_161 : decode cX6_readsRest 161 = .ok (.invokevirtual 113, 3) := by decide +kernel
theorem dX6_readsRest_164 : decode cX6_readsRest 164 = .ok (.ifCond .eq 18, 3) := by decide +kernel
theorem dX6_readsRest_167 : decode cX6_readsRest 167 = .ok (.aload_n 0, 1) := by decide +kernel
theorem dX6_readsRest_168 : decode cX6_readsRest 168 = .ok (.iconst 1, 1) := by decide +kernel
theorem dX6_readsRest_169 : decode cX6_readsRest 169 = .ok (.iconst 0, 1) := by decide +kernel
theorem dX6_readsRest_170 : decode cX6_readsRest 170 = .ok (.iload_n 3, 1) := by decide +kernel
theorem dX6_readsRest_171 : decode cX6_readsRest 171 = .ok (.iconst (-1), 1) := by decide +kernel
theorem dX6_readsRest_172 : decode cX6_readsRest 172 = .ok (.invokevirtual 113, 3) := by decide +kernel
theorem dX6_readsRest_175 : decode cX6_readsRest 175 = .ok (.ifCond .eq 7, 3) := by decide +kernel
theorem dX6_readsRest_178 : decode cX6_readsRest 178 = .ok (.iconst 1, 1) := by decide +kernel
theorem dX6_readsRest_179 : decode cX6_readsRest 179 = .ok (.goto 4, 3) := by decide +kernel
theorem dX6_readsRest_182 : decode cX6_readsRest 182 = .ok (.iconst 0, 1) := by decide +kernel
theorem dX6_readsRest_183 : decode cX6_readsRest 183 = .ok (.ireturn, 1) := by decide +kernel
theorem dX6_readsRest_184 : decode cX6_readsRest 184 = .ok (.aload_n 0, 1) := by decide +kernel
theorem dX6_readsRest_185 : decode cX6_readsRest 185 = .ok (.iconst 0, 1) := by decide +kernel
theorem dX6_readsRest_186 : decode cX6_readsRest 186 = .ok (.iconst 0, 1) := by decide +kernel
theorem dX6_readsRest_187 : decode cX6_readsRest 187 = .ok (.iload_n 2, 1) := by decide +kernel
theorem dX6_readsRest_188 : decode cX6_readsRest 188 = .ok (.iconst (-1), 1) := by decide +kernel
theorem dX6_readsRest_189 : decode cX6_readsRest 189 = .ok (.invokevirtual 113, 3) := by decide +kernel
theorem dX6_readsRest_192 : decode cX6_readsRest 192 = .ok (.ifCond .eq 42, 3) := by decide +kernel
theorem dX6_readsRest_195 : decode cX6_readsRest 195 = .ok (.aload_n 0, 1) := by decide +kernel
theorem dX6_readsRest_196 : decode cX6_readsRest 196 = .ok (.iconst 1, 1) := by decide +kernel
theorem dX6_readsRest_197 : decode cX6_readsRest 197 = .ok (.iconst 0, 1) := by decide +kernel
theorem dX6_readsRest_198 : decode cX6_readsRest 198 = .ok (.iload_n 2, 1) := by decide +kernel
theorem dX6_readsRest_199 : decode cX6_readsRest 199 = .ok (.aload_n 0, 1) := by decide +kernel
theorem dX6_readsRest_200 : decode cX6_readsRest 200 = .ok (.getfield 20, 3) := by decide +kernel
theorem dX6_readsRest_203 : decode cX6_readsRest 203 = .ok (.iconst 5, 1) := by decide +kernel
theorem dX6_readsRest_204 : decode cX6_readsRest 204 = .ok (.aload_n 0, 1) := by decide +kernel
theorem dX6_readsRest_205 : decode cX6_readsRest 205 = .ok (.getfield 101, 3) := by decide +kernel
theorem dX6_readsRest_208 : decode cX6_readsRest 208 = .ok (.imul, 1) := by decide +kernel
theorem dX6_readsRest_209 : decode cX6_readsRest 209 = .ok (.iconst 1, 1) := by decide +kernel
theorem dX6_readsRest_210 : decode cX6_readsRest 210 = .ok (.iadd, 1) := by decide +kernel
theorem dX6_readsRest_211 : decode cX6_readsRest 211 = .ok (.iaload, 1) := by decide +kernel
theorem dX6_readsRest_212 : decode cX6_readsRest 212 = .ok (.invokevirtual 113, 3) := by decide +kernel
theorem dX6_readsRest_215 : decode cX6_readsRest 215 = .ok (.ifCond .eq 19, 3) := by decide +kernel
theorem dX6_readsRest_218 : decode cX6_readsRest 218 = .ok (.aload_n 0, 1) := by decide +kernel
theorem dX6_readsRest_219 : decode cX6_readsRest 219 = .ok (.iconst 2, 1) := by decide +kernel
theorem dX6_readsRest_220 : decode cX6_readsRest 220 = .ok (.iconst 0, 1) := by decide +kernel
theorem dX6_readsRest_221 : decode cX6_readsRest 221 = .ok (.bipush 9, 2) := by decide +kernel
theorem dX6_readsRest_223 : decode cX6_readsRest 223 = .ok (.iconst (-1), 1) := by decide +kernel
theorem dX6_readsRest_224 : decode cX6_readsRest 224 = .ok (.invokevirtual 113, 3) := by decide +kernel
theorem dX6_readsRest_227 : decode cX6_readsRest 227 = .ok (.ifCond .eq 7, 3) := by decide +kernel
theorem dX6_readsRest_230 : decode cX6_readsRest 230 = .ok (.iconst 1, 1) := by decide +kernel
theorem dX6_readsRest_231 : decode cX6_readsRest 231 = .ok (.goto 4, 3) := by decide +kernel
theorem dX6_readsRest_234 : decode cX6_readsRest 234 = .ok (.iconst 0, 1) := by decide +kernel
theorem dX6_readsRest_235 : decode cX6_readsRest 235 = .ok (.ireturn, 1) := by decide +kernel
theorem dX6_readsRest_236 : decode cX6_readsRest 236 = .ok (.aload_n 0, 1) := by decide +kernel
theorem dX6_readsRest_237 : decode cX6_readsRest 237 = .ok (.iconst 0, 1) := by decide +kernel
theorem dX6_readsRest_238 : decode cX6_readsRest 238 = .ok (.iconst 0, 1) := by decide +kernel
theorem dX6_readsRest_239 : decode cX6_readsRest 239 = .ok (.iload_n 3, 1) := by decide +kernel
theorem dX6_readsRest_240 : decode cX6_readsRest 240 = .ok (.iconst (-1), 1) := by decide +kernel
theorem dX6_readsRest_241 : decode cX6_readsRest 241 = .ok (.invokevirtual 113, 3) := by decide +kernel
theorem dX6_readsRest_244 : decode cX6_readsRest 244 = .ok (.ireturn, 1) := by decide +kernel
theorem dX6_readsRest_245 : decode cX6_readsRest 245 = .ok (.aload_n 0, 1) := by decide +kernel
theorem dX6_readsRest_246 : decode cX6_readsRest 246 = .ok (.iconst 0, 1) := by decide +kernel
theorem dX6_readsRest_247 : decode cX6_readsRest 247 = .ok (.iconst 0, 1) := by decide +kernel
theorem dX6_readsRest_248 : decode cX6_readsRest 248 = .ok (.bipush 15, 2) := by decide +kernel
theorem dX6_readsRest_250 : decode cX6_readsRest 250 = .ok (.iconst (-1), 1) := by decide +kernel
theorem dX6_readsRest_251 : decode cX6_readsRest 251 = .ok (.invokevirtual 113, 3) := by decide +kernel
theorem dX6_readsRest_254 : decode cX6_readsRest 254 = .ok (.ifCond .eq 42, 3) := by decide +kernel
theorem dX6_readsRest_257 : decode cX6_readsRest 257 = .ok (.aload_n 0, 1) := by decide +kernel
theorem dX6_readsRest_258 : decode cX6_readsRest 258 = .ok (.iconst 1, 1) := by decide +kernel
theorem dX6_readsRest_259 : decode cX6_readsRest 259 = .ok (.iconst 0, 1) := by decide +kernel
theorem dX6_readsRest_260 : decode cX6_readsRest 260 = .ok (.iload_n 2, 1) := by decide +kernel
theorem dX6_readsRest_261 : decode cX6_readsRest 261 = .ok (.iconst (-1), 1) := by decide +kernel
theorem dX6_readsRest_262 : decode cX6_readsRest 262 = .ok (.invokevirtual 113, 3) := by decide +kernel
theorem dX6_readsRest_265 : decode cX6_readsRest 265 = .ok (.ifCond .eq 31, 3) := by decide +kernel
theorem dX6_readsRest_268 : decode cX6_readsRest 268 = .ok (.aload_n 0, 1) := by decide +kernel
theorem dX6_readsRest_269 : decode cX6_readsRest 269 = .ok (.iconst 2, 1) := by decide +kernel
theorem dX6_readsRest_270 : decode cX6_readsRest 270 = .ok (.iconst 0, 1) := by decide +kernel
theorem dX6_readsRest_271 : decode cX6_readsRest 271 = .ok (.bipush 9, 2) := by decide +kernel
theorem dX6_readsRest_273 : decode cX6_readsRest 273 = .ok (.iconst (-1), 1) := by decide +kernel
theorem dX6_readsRest_274 : decode cX6_readsRest 274 = .ok (.invokevirtual 113, 3) := by decide +kernel
theorem dX6_readsRest_277 : decode cX6_readsRest 277 = .ok (.ifCond .eq 19, 3) := by decide +kernel
theorem dX6_readsRest_280 : decode cX6_readsRest 280 = .ok (.aload_n 0, 1) := by decide +kernel
theorem dX6_readsRest_281 : decode cX6_readsRest 281 = .ok (.iconst 3, 1) := by decide +kernel
theorem dX6_readsRest_282 : decode cX6_readsRest 282 = .ok (.iconst 0, 1) := by decide +kernel
theorem dX6_readsRest_283 : decode cX6_readsRest 283 = .ok (.bipush 9, 2) := by decide +kernel
theorem dX6_readsRest_285 : decode cX6_readsRest 285 = .ok (.iconst (-1), 1) := by decide +kernel
theorem dX6_readsRest_286 : decode cX6_readsRest 286 = .ok (.invokevirtual 113, 3) := by decide +kernel
theorem dX6_readsRest_289 : decode cX6_readsRest 289 = .ok (.ifCond .eq 7, 3) := by decide +kernel
theorem dX6_readsRest_292 : decode cX6_readsRest 292 = .ok (.iconst 1, 1) := by decide +kernel
theorem dX6_readsRest_293 : decode cX6_readsRest 293 = .ok (.goto 4, 3) := by decide +kernel
theorem dX6_readsRest_296 : decode cX6_readsRest 296 = .ok (.iconst 0, 1) := by decide +kernel
theorem dX6_readsRest_297 : decode cX6_readsRest 297 = .ok (.ireturn, 1) := by decide +kernel
set_option maxRecDepth 20000 in
theorem ggX6_isDeedLine_X6_in : GoodIn wsX6_isDeedLine wsX6_in := goodIn_r _ [6] (by decide +kernel) (by decide +kernel)
set_option maxRecDepth 20000 in
theorem gX6_isDeedLine_X6_in : GoodIn wsX6_isDeedLine (va_wsS RX6 56 yX6_in wsX6_in) := goodIn_app (goodIn_of _ (by decide +kernel)) ggX6_isDeedLine_X6_in
theorem dX6_isDeedLine_0 : decode cX6_isDeedLine 0 = .ok (.iload_n 0, 1) := by decide +kernel
theorem dX6_isDeedLine_1 : decode cX6_isDeedLine 1 = .ok (.i2l, 1) := by decide +kernel
theorem dX6_isDeedLine_2 : decode cX6_isDeedLine 2 = .ok (.ldc2_w 117, 3) := by decide +kernel
theorem dX6_isDeedLine_5 : decode cX6_isDeedLine 5 = .ok (.ldc2_w 119, 3) := by decide +kernel
theorem dX6_isDeedLine_8 : decode cX6_isDeedLine 8 = .ok (.invokestatic 56, 3) := by decide +kernel
theorem dX6_isDeedLine_11 : decode cX6_isDeedLine 11 = .ok (.ireturn, 1) := by decide +kernel
set_option maxRecDepth 20000 in
theorem ggX6_readsLine_X6_wordOf : GoodIn wsX6_readsLine wsX6_wordOf := goodIn_r _ [9, 10, 11, 12, 13, 14, 15, 16, 17, 8, 18, 19, 20, 21, 22, 23, 24, 25, 26, 27, 28, 29, 30, 31, 32, 33, 34, 35, 36, 62, 63, 64, 65, 66, 67, 68, 69, 70, 71, 72, 73, 74, 75, 76, 77, 78, 79, 80, 81, 82, 83, 84, 85, 86, 87] (by decide +kernel) (by decide +kernel)
set_option maxRecDepth 20000 in
theorem gX6_readsLine_X6_wordOf : GoodIn wsX6_readsLine (wsV RX6 121 RX6 yX6_wordOf wsX6_wordOf) := goodIn_app (goodIn_of _ (by decide +kernel)) ggX6_readsLine_X6_wordOf
set_option maxRecDepth 20000 in
theorem ggX6_readsLine_X6_isDeedLine : GoodIn wsX6_readsLine wsX6_isDeedLine := goodIn_r _ [39, 40, 41, 42, 43, 8, 44] (by decide +kernel) (by decide +kernel)
set_option maxRecDepth 20000 in
theorem gX6_readsLine_X6_isDeedLine : GoodIn wsX6_readsLine (va_wsS RX6 124 yX6_isDeedLine wsX6_isDeedLine) := goodIn_app (goodIn_of _ (by decide +kernel)) ggX6_readsLine_X6_isDeedLine
set_option maxRecDepth 20000 in
theorem ggX6_readsLine_X6_token : GoodIn wsX6_readsLine wsX6_token := goodIn_r _ [48, 49, 50, 29, 28, 27, 51, 52, 8, 53, 62, 63, 64, 65, 66, 67, 68, 69, 70, 71, 72, 73, 74, 75, 76, 77, 78, 79, 80, 81, 82, 83, 84, 85, 86, 87] (by decide +kernel) (by decide +kernel)
set_option maxRecDepth 20000 in
theorem gX6_readsLine_X6_token : GoodIn wsX6_readsLine (wsV RX6 104 RX6 yX6_token wsX6_token) := goodIn_app (goodIn_of _ (by decide +kernel)) ggX6_readsLine_X6_token
set_option maxRecDepth 20000 in
theorem ggX6_readsLine_X6_readsRest : GoodIn wsX6_readsLine wsX6_readsRest := goodIn_r _ [57, 4, 1, 2, 3, 58, 59, 60, 8, 61, 28, 50, 29, 27, 51, 52, 53, 42, 43, 44, 45, 46, 47, 48, 49, 62, 63, 64, 65, 66, 67, 68, 69, 70, 71, 72, 73, 74, 75, 76, 77, 78, 79, 80, 81, 82, 83, 84, 85, 86, 87] (by decide +kernel) (by decide +kernel)
set_option maxRecDepth 20000 in
theorem gX6_readsLine_X6_readsRest : GoodIn wsX6_readsLine (wsV RX6 128 RX6 yX6_readsRest wsX6_readsRest) := goodIn_app (goodIn_of _ (by decide +kernel)) ggX6_readsLine_X6_readsRest
theorem dX6_readsLine_0 : decode cX6_readsLine 0 = .ok (.aload_n 0, 1) := by decide +kernel
theorem dX6_readsLine_1 : decode cX6_readsLine 1 = .ok (.invokevirtual 121, 3) := by decide +kernel
theorem dX6_readsLine_4 : decode cX6_readsLine 4 = .ok (.istore_n 1, 1) := by decide +kernel
theorem dX6_readsLine_5 : decode cX6_readsLine 5 = .ok (.iload_n 1, 1) := by decide +kernel
theorem dX6_readsLine_6 : decode cX6_readsLine 6 = .ok (.iconst (-1), 1) := by decide +kernel
theorem dX6_readsLine_7 : decode cX6_readsLine 7 = .ok (.if_icmp .eq 19, 3) := by decide +kernel
theorem dX6_readsLine_10 : decode cX6_readsLine 10 = .ok (.iload_n 1, 1) := by decide +kernel
theorem dX6_readsLine_11 : decode cX6_readsLine 11 = .ok (.invokestatic 124, 3) := by decide +kernel
theorem dX6_readsLine_14 : decode cX6_readsLine 14 = .ok (.ifCond .eq 14, 3) := by decide +kernel
theorem dX6_readsLine_17 : decode cX6_readsLine 17 = .ok (.aload_n 0, 1) := by decide +kernel
theorem dX6_readsLine_18 : decode cX6_readsLine 18 = .ok (.getfield 110, 3) := by decide +kernel
theorem dX6_readsLine_21 : decode cX6_readsLine 21 = .ok (.bipush 6, 2) := by decide +kernel
theorem dX6_readsLine_23 : decode cX6_readsLine 23 = .ok (.if_icmp .ne 5, 3) := by decide +kernel
theorem dX6_readsLine_26 : decode cX6_readsLine 26 = .ok (.iconst 0, 1) := by decide +kernel
theorem dX6_readsLine_27 : decode cX6_readsLine 27 = .ok (.ireturn, 1) := by decide +kernel
theorem dX6_readsLine_28 : decode cX6_readsLine 28 = .ok (.aload_n 0, 1) := by decide +kernel
theorem dX6_readsLine_29 : decode cX6_readsLine 29 = .ok (.invokevirtual 104, 3) := by decide +kernel
theorem dX6_readsLine_32 : decode cX6_readsLine 32 = .ok (.aload_n 0, 1) := by decide +kernel
theorem dX6_readsLine_33 : decode cX6_readsLine 33 = .ok (.getfield 20, 3) := by decide +kernel
theorem dX6_readsLine_36 : decode cX6_readsLine 36 = .ok (.iconst 5, 1) := by decide +kernel
theorem dX6_readsLine_37 : decode cX6_readsLine 37 = .ok (.aload_n 0, 1) := by decide +kernel
theorem dX6_readsLine_38 : decode cX6_readsLine 38 = .ok (.getfield 101, 3) := by decide +kernel
theorem dX6_readsLine_41 : decode cX6_readsLine 41 = .ok (.imul, 1) := by decide +kernel
theorem dX6_readsLine_42 : decode cX6_readsLine 42 = .ok (.iload_n 1, 1) := by decide +kernel
theorem dX6_readsLine_43 : decode cX6_readsLine 43 = .ok (.iastore, 1) := by decide +kernel
theorem dX6_readsLine_44 : decode cX6_readsLine 44 = .ok (.aload_n 0, 1) := by decide +kernel
theorem dX6_readsLine_45 : decode cX6_readsLine 45 = .ok (.iload_n 1, 1) := by decide +kernel
theorem dX6_readsLine_46 : decode cX6_readsLine 46 = .ok (.invokevirtual 128, 3) := by decide +kernel
theorem dX6_readsLine_49 : decode cX6_readsLine 49 = .ok (.ifCond .ne 5, 3) := by decide +kernel
theorem dX6_readsLine_52 : decode cX6_readsLine 52 = .ok (.iconst 0, 1) := by decide +kernel
theorem dX6_readsLine_53 : decode cX6_readsLine 53 = .ok (.ireturn, 1) := by decide +kernel
theorem dX6_readsLine_54 : decode cX6_readsLine 54 = .ok (.aload_n 0, 1) := by decide +kernel
theorem dX6_readsLine_55 : decode cX6_readsLine 55 = .ok (.iload_n 1, 1) := by decide +kernel
theorem dX6_readsLine_56 : decode cX6_readsLine 56 = .ok (.ifCond .ne 19, 3) := by decide +kernel
theorem dX6_readsLine_59 : decode cX6_readsLine 59 = .ok (.aload_n 0, 1) := by decide +kernel
theorem dX6_readsLine_60 : decode cX6_readsLine 60 = .ok (.getfield 20, 3) := by decide +kernel
theorem dX6_readsLine_63 : decode cX6_readsLine 63 = .ok (.iconst 5, 1) := by decide +kernel
theorem dX6_readsLine_64 : decode cX6_readsLine 64 = .ok (.aload_n 0, 1) := by decide +kernel
theorem dX6_readsLine_65 : decode cX6_readsLine 65 = .ok (.getfield 101, 3) := by decide +kernel
theorem dX6_readsLine_68 : decode cX6_readsLine 68 = .ok (.imul, 1) := by decide +kernel
theorem dX6_readsLine_69 : decode cX6_readsLine 69 = .ok (.iconst 1, 1) := by decide +kernel
theorem dX6_readsLine_70 : decode cX6_readsLine 70 = .ok (.iadd, 1) := by decide +kernel
theorem dX6_readsLine_71 : decode cX6_readsLine 71 = .ok (.iaload, 1) := by decide +kernel
theorem dX6_readsLine_72 : decode cX6_readsLine 72 = .ok (.goto 7, 3) := by decide +kernel
theorem dX6_readsLine_75 : decode cX6_readsLine 75 = .ok (.aload_n 0, 1) := by decide +kernel
theorem dX6_readsLine_76 : decode cX6_readsLine 76 = .ok (.getfield 107, 3) := by decide +kernel
theorem dX6_readsLine_79 : decode cX6_readsLine 79 = .ok (.putfield 107, 3) := by decide +kernel
theorem dX6_readsLine_82 : decode cX6_readsLine 82 = .ok (.aload_n 0, 1) := by decide +kernel
theorem dX6_readsLine_83 : decode cX6_readsLine 83 = .ok (.iload_n 1, 1) := by decide +kernel
theorem dX6_readsLine_84 : decode cX6_readsLine 84 = .ok (.ifCond .ne 7, 3) := by decide +kernel
theorem dX6_readsLine_87 : decode cX6_readsLine 87 = .ok (.iconst 0, 1) := by decide +kernel
theorem dX6_readsLine_88 : decode cX6_readsLine 88 = .ok (.goto 23, 3) := by decide +kernel
theorem dX6_readsLine_91 : decode cX6_readsLine 91 = .ok (.iload_n 1, 1) := by decide +kernel
theorem dX6_readsLine_92 : decode cX6_readsLine 92 = .ok (.invokestatic 124, 3) := by decide +kernel
theorem dX6_readsLine_95 : decode cX6_readsLine 95 = .ok (.ifCond .eq 12, 3) := by decide +kernel
theorem dX6_readsLine_98 : decode cX6_readsLine 98 = .ok (.aload_n 0, 1) := by decide +kernel
theorem dX6_readsLine_99 : decode cX6_readsLine 99 = .ok (.getfield 110, 3) := by decide +kernel
theorem dX6_readsLine_102 : decode cX6_readsLine 102 = .ok (.iconst 1, 1) := by decide +kernel
theorem dX6_readsLine_103 : decode cX6_readsLine 103 = .ok (.iadd, 1) := by decide +kernel
theorem dX6_readsLine_104 : decode cX6_readsLine 104 = .ok (.goto 7, 3) := by decide +kernel
theorem dX6_readsLine_107 : decode cX6_readsLine 107 = .ok (.aload_n 0, 1) := by decide +kernel
theorem dX6_readsLine_108 : decode cX6_readsLine 108 = .ok (.getfield 110, 3) := by decide +kernel
theorem dX6_readsLine_111 : decode cX6_readsLine 111 = .ok (.putfield 110, 3) := by decide +kernel
theorem dX6_readsLine_114 : decode cX6_readsLine 114 = .ok (.aload_n 0, 1) := by decide +kernel
theorem dX6_readsLine_115 : decode cX6_readsLine 115 = .ok (.dup, 1) := by decide +kernel
theorem dX6_readsLine_116 : decode cX6_readsLine 116 = .ok (.getfield 101, 3) := by decide +kernel
theorem dX6_readsLine_119 : decode cX6_readsLine 119 = .ok (.iconst 1, 1) := by decide +kernel
theorem dX6_readsLine_120 : decode cX6_readsLine 120 = .ok (.iadd, 1) := by decide +kernel
theorem dX6_readsLine_121 : decode cX6_readsLine 121 = .ok (.putfield 101, 3) := by decide +kernel
theorem dX6_readsLine_124 : decode cX6_readsLine 124 = .ok (.iconst 1, 1) := by decide +kernel
theorem dX6_readsLine_125 : decode cX6_readsLine 125 = .ok (.ireturn, 1) := by decide +kernel
set_option maxRecDepth 20000 in
theorem ggX6_fault_X6_token : GoodIn wsX6_fault wsX6_token := goodIn_r _ [15, 1, 8, 10, 7, 9, 16, 17, 14, 18, 68, 69, 70, 71, 72, 73, 74, 75, 76, 77, 78, 79, 80, 81, 82, 83, 84, 85, 86, 87, 88, 89, 90, 91, 92, 93] (by decide +kernel) (by decide +kernel)
set_option maxRecDepth 20000 in
theorem gX6_fault_X6_token : GoodIn wsX6_fault (wsV RX6 104 RX6 yX6_token wsX6_token) := goodIn_app (goodIn_of _ (by decide +kernel)) ggX6_fault_X6_token
set_option maxRecDepth 20000 in
theorem ggX6_fault_X6_readsLine : GoodIn wsX6_fault wsX6_readsLine := goodIn_r _ [22, 6, 23, 2, 4, 24, 25, 26, 14, 27, 28, 29, 30, 31, 32, 33, 34, 35, 36, 37, 38, 39, 40, 41, 42, 43, 44, 9, 7, 10, 45, 46, 47, 48, 49, 50, 51, 52, 53, 54, 55, 56, 57, 58, 59, 11, 12, 13, 15, 1, 8, 16, 17, 18, 60, 61, 62, 63, 64, 65, 66, 67, 68, 69, 70, 71, 72, 73, 74, 75, 76, 77, 78, 79, 80, 81, 82, 83, 84, 85, 86, 87, 88, 89, 90, 91, 92, 93] (by decide +kernel) (by decide +kernel)
set_option maxRecDepth 20000 in
theorem gX6_fault_X6_readsLine : GoodIn wsX6_fault (wsV RX6 134 RX6 yX6_readsLine wsX6_readsLine) := goodIn_app (goodIn_of _ (by decide +kernel)) ggX6_fault_X6_readsLine
theorem dX6_fault_0 : decode cX6_fault 0 = .ok (.aload_n 0, 1) := by decide +kernel
theorem dX6_fault_1 : decode cX6_fault 1 = .ok (.iconst 0, 1) := by decide +kernel
theorem dX6_fault_2 : decode cX6_fault 2 = .ok (.putfield 65, 3) := by decide +kernel
theorem dX6_fault_5 : decode cX6_fault 5 = .ok (.aload_n 0, 1) := by decide +kernel
theorem dX6_fault_6 : decode cX6_fault 6 = .ok (.iconst 0, 1) := by decide +kernel
theorem dX6_fault_7 : decode cX6_fault 7 = .ok (.putfield 101, 3) := by decide +kernel
theorem dX6_fault_10 : decode cX6_fault 10 = .ok (.aload_n 0, 1) := by decide +kernel
theorem dX6_fault_11 : decode cX6_fault 11 = .ok (.aload_n 0, 1) := by decide +kernel
theorem dX6_fault_12 : decode cX6_fault 12 = .ok (.getfield 23, 3) := by decide +kernel
theorem dX6_fault_15 : decode cX6_fault 15 = .ok (.putfield 107, 3) := by decide +kernel
theorem dX6_fault_18 : decode cX6_fault 18 = .ok (.aload_n 0, 1) := by decide +kernel
theorem dX6_fault_19 : decode cX6_fault 19 = .ok (.aload_n 0, 1) := by decide +kernel
theorem dX6_fault_20 : decode cX6_fault 20 = .ok (.getfield 131, 3) := by decide +kernel
theorem dX6_fault_23 : decode cX6_fault 23 = .ok (.putfield 110, 3) := by decide +kernel
theorem dX6_fault_26 : decode cX6_fault 26 = .ok (.aload_n 0, 1) := by decide +kernel
theorem dX6_fault_27 : decode cX6_fault 27 = .ok (.invokevirtual 104, 3) := by decide +kernel
theorem dX6_fault_30 : decode cX6_fault 30 = .ok (.aload_n 0, 1) := by decide +kernel
theorem dX6_fault_31 : decode cX6_fault 31 = .ok (.invokevirtual 134, 3) := by decide +kernel
theorem dX6_fault_34 : decode cX6_fault 34 = .ok (.ifCond .ne 8, 3) := by decide +kernel
theorem dX6_fault_37 : decode cX6_fault 37 = .ok (.aload_n 0, 1) := by decide +kernel
theorem dX6_fault_38 : decode cX6_fault 38 = .ok (.getfield 68, 3) := by decide +kernel
theorem dX6_fault_41 : decode cX6_fault 41 = .ok (.ireturn, 1) := by decide +kernel
theorem dX6_fault_42 : decode cX6_fault 42 = .ok (.aload_n 0, 1) := by decide +kernel
theorem dX6_fault_43 : decode cX6_fault 43 = .ok (.getfield 68, 3) := by decide +kernel
theorem dX6_fault_46 : decode cX6_fault 46 = .ok (.aload_n 0, 1) := by decide +kernel
theorem dX6_fault_47 : decode cX6_fault 47 = .ok (.getfield 60, 3) := by decide +kernel
theorem dX6_fault_50 : decode cX6_fault 50 = .ok (.if_icmp .ge 70, 3) := by decide +kernel
theorem dX6_fault_53 : decode cX6_fault 53 = .ok (.aload_n 0, 1) := by decide +kernel
theorem dX6_fault_54 : decode cX6_fault 54 = .ok (.getfield 75, 3) := by decide +kernel
theorem dX6_fault_57 : decode cX6_fault 57 = .ok (.aload_n 0, 1) := by decide +kernel
theorem dX6_fault_58 : decode cX6_fault 58 = .ok (.getfield 68, 3) := by decide +kernel
theorem dX6_fault_61 : decode cX6_fault 61 = .ok (.isub, 1) := by decide +kernel
theorem dX6_fault_62 : decode cX6_fault 62 = .ok (.iconst 1, 1) := by decide +kernel
theorem dX6_fault_63 : decode cX6_fault 63 = .ok (.if_icmp .ne 30, 3) := by decide +kernel
theorem dX6_fault_66 : decode cX6_fault 66 = .ok (.aload_n 0, 1) := by decide +kernel
theorem dX6_fault_67 : decode cX6_fault 67 = .ok (.getfield 17, 3) := by decide +kernel
theorem dX6_fault_70 : decode cX6_fault 70 = .ok (.aload_n 0, 1) := by decide +kernel
theorem dX6_fault_71 : decode cX6_fault 71 = .ok (.getfield 68, 3) := by decide +kernel
theorem dX6_fault_74 : decode cX6_fault 74 = .ok (.iaload, 1) := by decide +kernel
theorem dX6_fault_75 : decode cX6_fault 75 = .ok (.bipush 59, 2) := by decide +kernel
theorem dX6_fault_77 : decode cX6_fault 77 = .ok (.if_icmp .ne 16, 3) := by decide +kernel
theorem dX6_fault_80 : decode cX6_fault 80 = .ok (.aload_n 0, 1) := by decide +kernel
theorem dX6_fault_81 : decode cX6_fault 81 = .ok (.getfield 101, 3) := by decide +kernel
theorem dX6_fault_84 : decode cX6_fault 84 = .ok (.bipush 10, 2) := by decide +kernel
theorem dX6_fault_86 : decode cX6_fault 86 = .ok (.if_icmp .ge 7, 3) := by decide +kernel
theorem dX6_fault_89 : decode cX6_fault 89 = .ok (.iconst 1, 1) := by decide +kernel
theorem dX6_fault_90 : decode cX6_fault 90 = .ok (.goto 4, 3) := by decide +kernel
theorem dX6_fault_93 : decode cX6_fault 93 = .ok (.iconst 0, 1) := by decide +kernel
theorem dX6_fault_94 : decode cX6_fault 94 = .ok (.istore_n 1, 1) := by decide +kernel
theorem dX6_fault_95 : decode cX6_fault 95 = .ok (.iload_n 1, 1) := by decide +kernel
theorem dX6_fault_96 : decode cX6_fault 96 = .ok (.ifCond .eq 12, 3) := by decide +kernel
theorem dX6_fault_99 : decode cX6_fault 99 = .ok (.aload_n 0, 1) := by decide +kernel
theorem dX6_fault_100 : decode cX6_fault 100 = .ok (.invokevirtual 104, 3) := by decide +kernel
theorem dX6_fault_103 : decode cX6_fault 103 = .ok (.aload_n 0, 1) := by decide +kernel
theorem dX6_fault_104 : decode cX6_fault 104 = .ok (.invokevirtual 134, 3) := by decide +kernel
theorem dX6_fault_107 : decode cX6_fault 107 = .ok (.istore_n 1, 1) := by decide +kernel
theorem dX6_fault_108 : decode cX6_fault 108 = .ok (.iload_n 1, 1) := by decide +kernel
theorem dX6_fault_109 : decode cX6_fault 109 = .ok (.ifCond .ne 8, 3) := by decide +kernel
theorem dX6_fault_112 : decode cX6_fault 112 = .ok (.aload_n 0, 1) := by decide +kernel
theorem dX6_fault_113 : decode cX6_fault 113 = .ok (.getfield 68, 3) := by decide +kernel
theorem dX6_fault_116 : decode cX6_fault 116 = .ok (.ireturn, 1) := by decide +kernel
theorem dX6_fault_117 : decode cX6_fault 117 = .ok (.goto (-75), 3) := by decide +kernel
theorem dX6_fault_120 : decode cX6_fault 120 = .ok (.iconst (-1), 1) := by decide +kernel
theorem dX6_fault_121 : decode cX6_fault 121 = .ok (.ireturn, 1) := by decide +kernel
theorem dX6_clear_0 : decode cX6_clear 0 = .ok (.aload_n 0, 1) := by decide +kernel
theorem dX6_clear_1 : decode cX6_clear 1 = .ok (.iload_n 1, 1) := by decide +kernel
theorem dX6_clear_2 : decode cX6_clear 2 = .ok (.putfield 23, 3) := by decide +kernel
theorem dX6_clear_5 : decode cX6_clear 5 = .ok (.aload_n 0, 1) := by decide +kernel
theorem dX6_clear_6 : decode cX6_clear 6 = .ok (.iconst 0, 1) := by decide +kernel
theorem dX6_clear_7 : decode cX6_clear 7 = .ok (.putfield 131, 3) := by decide +kernel
theorem dX6_clear_10 : decode cX6_clear 10 = .ok (.iconst 0, 1) := by decide +kernel
theorem dX6_clear_11 : decode cX6_clear 11 = .ok (.istore_n 2, 1) := by decide +kernel
theorem dX6_clear_12 : decode cX6_clear 12 = .ok (.iload_n 2, 1) := by decide +kernel
theorem dX6_clear_13 : decode cX6_clear 13 = .ok (.bipush 8, 2) := by decide +kernel
theorem dX6_clear_15 : decode cX6_clear 15 = .ok (.if_icmp .ge 30, 3) := by decide +kernel
theorem dX6_clear_18 : decode cX6_clear 18 = .ok (.aload_n 0, 1) := by decide +kernel
theorem dX6_clear_19 : decode cX6_clear 19 = .ok (.getfield 27, 3) := by decide +kernel
theorem dX6_clear_22 : decode cX6_clear 22 = .ok (.iload_n 2, 1) := by decide +kernel
theorem dX6_clear_23 : decode cX6_clear 23 = .ok (.iconst (-1), 1) := by decide +kernel
theorem dX6_clear_24 : decode cX6_clear 24 = .ok (.iastore, 1) := by decide +kernel
theorem dX6_clear_25 : decode cX6_clear 25 = .ok (.aload_n 0, 1) := by decide +kernel
theorem dX6_clear_26 : decode cX6_clear 26 = .ok (.getfield 30, 3) := by decide +kernel
theorem dX6_clear_29 : decode cX6_clear 29 = .ok (.iload_n 2, 1) := by decide +kernel
theorem dX6_clear_30 : decode cX6_clear 30 = .ok (.iconst 0, 1) := by decide +kernel
theorem dX6_clear_31 : decode cX6_clear 31 = .ok (.iastore, 1) := by decide +kernel
theorem dX6_clear_32 : decode cX6_clear 32 = .ok (.aload_n 0, 1) := by decide +kernel
theorem dX6_clear_33 : decode cX6_clear 33 = .ok (.getfield 7, 3) := by decide +kernel
theorem dX6_clear_36 : decode cX6_clear 36 = .ok (.iload_n 2, 1) := by decide +kernel
theorem dX6_clear_37 : decode cX6_clear 37 = .ok (.iconst (-1), 1) := by decide +kernel
theorem dX6_clear_38 : decode cX6_clear 38 = .ok (.iastore, 1) := by decide +kernel
theorem dX6_clear_39 : decode cX6_clear 39 = .ok (.iinc 2 1, 3) := by decide +kernel
theorem dX6_clear_42 : decode cX6_clear 42 = .ok (.goto (-30), 3) := by decide +kernel
theorem dX6_clear_45 : decode cX6_clear 45 = .ok (.iconst 0, 1) := by decide +kernel
theorem dX6_clear_46 : decode cX6_clear 46 = .ok (.istore_n 2, 1) := by decide +kernel
theorem dX6_clear_47 : decode cX6_clear 47 = .ok (.iload_n 2, 1) := by decide +kernel
theorem dX6_clear_48 : decode cX6_clear 48 = .ok (.bipush 64, 2) := by decide +kernel
theorem dX6_clear_50 : decode cX6_clear 50 = .ok (.if_icmp .ge 16, 3) := by decide +kernel
theorem dX6_clear_53 : decode cX6_clear 53 = .ok (.aload_n 0, 1) := by decide +kernel
theorem dX6_clear_54 : decode cX6_clear 54 = .ok (.getfield 33, 3) := by decide +kernel
theorem dX6_clear_57 : decode cX6_clear 57 = .ok (.iload_n 2, 1) := by decide +kernel
theorem dX6_clear_58 : decode cX6_clear 58 = .ok (.iconst 0, 1) := by decide +kernel
theorem dX6_clear_59 : decode cX6_clear 59 = .ok (.iastore, 1) := by decide +kernel
theorem dX6_clear_60 : decode cX6_clear 60 = .ok (.iinc 2 1, 3) := by decide +kernel
theorem dX6_clear_63 : decode cX6_clear 63 = .ok (.goto (-16), 3) := by decide +kernel
theorem dX6_clear_66 : decode cX6_clear 66 = .ok (.return_, 1) := by decide +kernel
theorem dX6_tellDeed_0 : decode cX6_tellDeed 0 = .ok (.aload_n 0, 1) := by decide +kernel
theorem dX6_tellDeed_1 : decode cX6_tellDeed 1 = .ok (.getfield 36, 3) := by decide +kernel
theorem dX6_tellDeed_4 : decode cX6_tellDeed 4 = .ok (.bipush 6, 2) := by decide +kernel
theorem dX6_tellDeed_6 : decode cX6_tellDeed 6 = .ok (.aload_n 0, 1) := by decide +kernel
theorem dX6_tellDeed_7 : decode cX6_tellDeed 7 = .ok (.getfield 131, 3) := by decide +kernel
theorem dX6_tellDeed_10 : decode cX6_tellDeed 10 = .ok (.imul, 1) := by decide +kernel
theorem dX6_tellDeed_11 : decode cX6_tellDeed 11 = .ok (.iconst 0, 1) := by decide +kernel
theorem dX6_tellDeed_12 : decode cX6_tellDeed 12 = .ok (.iadd, 1) := by decide +kernel
theorem dX6_tellDeed_13 : decode cX6_tellDeed 13 = .ok (.aload_n 0, 1) := by decide +kernel
theorem dX6_tellDeed_14 : decode cX6_tellDeed 14 = .ok (.getfield 20, 3) := by decide +kernel
theorem dX6_tellDeed_17 : decode cX6_tellDeed 17 = .ok (.iload_n 1, 1) := by decide +kernel
theorem dX6_tellDeed_18 : decode cX6_tellDeed 18 = .ok (.iaload, 1) := by decide +kernel
theorem dX6_tellDeed_19 : decode cX6_tellDeed 19 = .ok (.iconst 4, 1) := by decide +kernel
theorem dX6_tellDeed_20 : decode cX6_tellDeed 20 = .ok (.isub, 1) := by decide +kernel
theorem dX6_tellDeed_21 : decode cX6_tellDeed 21 = .ok (.iastore, 1) := by decide +kernel
theorem dX6_tellDeed_22 : decode cX6_tellDeed 22 = .ok (.iconst 0, 1) := by decide +kernel
theorem dX6_tellDeed_23 : decode cX6_tellDeed 23 = .ok (.istore_n 2, 1) := by decide +kernel
theorem dX6_tellDeed_24 : decode cX6_tellDeed 24 = .ok (.iload_n 2, 1) := by decide +kernel
theorem dX6_tellDeed_25 : decode cX6_tellDeed 25 = .ok (.iconst 4, 1) := by decide +kernel
theorem dX6_tellDeed_26 : decode cX6_tellDeed 26 = .ok (.if_icmp .ge 35, 3) := by decide +kernel
theorem dX6_tellDeed_29 : decode cX6_tellDeed 29 = .ok (.aload_n 0, 1) := by decide +kernel
theorem dX6_tellDeed_30 : decode cX6_tellDeed 30 = .ok (.getfield 36, 3) := by decide +kernel
theorem dX6_tellDeed_33 : decode cX6_tellDeed 33 = .ok (.bipush 6, 2) := by decide +kernel
theorem dX6_tellDeed_35 : decode cX6_tellDeed 35 = .ok (.aload_n 0, 1) := by decide +kernel
theorem dX6_tellDeed_36 : decode cX6_tellDeed 36 = .ok (.getfield 131, 3) := by decide +kernel
theorem dX6_tellDeed_39 : decode cX6_tellDeed 39 = .ok (.imul, 1) := by decide +kernel
theorem dX6_tellDeed_40 : decode cX6_tellDeed 40 = .ok (.iconst 1, 1) := by decide +kernel
theorem dX6_tellDeed_41 : decode cX6_tellDeed 41 = .ok (.iadd, 1) := by decide +kernel
theorem dX6_tellDeed_42 : decode cX6_tellDeed 42 = .ok (.iload_n 2, 1) := by decide +kernel
theorem dX6_tellDeed_43 : decode cX6_tellDeed 43 = .ok (.iadd, 1) := by decide +kernel
theorem dX6_tellDeed_44 : decode cX6_tellDeed 44 = .ok (.aload_n 0, 1) := by decide +kernel
theorem dX6_tellDeed_45 : decode cX6_tellDeed 45 = .ok (.getfield 20, 3) := by decide +kernel
theorem dX6_tellDeed_48 : decode cX6_tellDeed 48 = .ok (.iload_n 1, 1) := by decide +kernel
theorem dX6_tellDeed_49 : decode cX6_tellDeed 49 = .ok (.iconst 1, 1) := by decide +kernel
theorem dX6_tellDeed_50 : decode cX6_tellDeed 50 = .ok (.iadd, 1) := by decide +kernel
theorem dX6_tellDeed_51 : decode cX6_tellDeed 51 = .ok (.iload_n 2, 1) := by decide +kernel
theorem dX6_tellDeed_52 : decode cX6_tellDeed 52 = .ok (.iadd, 1) := by decide +kernel
theorem dX6_tellDeed_53 : decode cX6_tellDeed 53 = .ok (.iaload, 1) := by decide +kernel
theorem dX6_tellDeed_54 : decode cX6_tellDeed 54 = .ok (.iastore, 1) := by decide +kernel
theorem dX6_tellDeed_55 : decode cX6_tellDeed 55 = .ok (.iinc 2 1, 3) := by decide +kernel
theorem dX6_tellDeed_58 : decode cX6_tellDeed 58 = .ok (.goto (-34), 3) := by decide +kernel
theorem dX6_tellDeed_61 : decode cX6_tellDeed 61 = .ok (.aload_n 0, 1) := by decide +kernel
theorem dX6_tellDeed_62 : decode cX6_tellDeed 62 = .ok (.getfield 36, 3) := by decide +kernel
theorem dX6_tellDeed_65 : decode cX6_tellDeed 65 = .ok (.bipush 6, 2) := by decide +kernel
theorem dX6_tellDeed_67 : decode cX6_tellDeed 67 = .ok (.aload_n 0, 1) := by decide +kernel
theorem dX6_tellDeed_68 : decode cX6_tellDeed 68 = .ok (.getfield 131, 3) := by decide +kernel
theorem dX6_tellDeed_71 : decode cX6_tellDeed 71 = .ok (.imul, 1) := by decide +kernel
theorem dX6_tellDeed_72 : decode cX6_tellDeed 72 = .ok (.iconst 5, 1) := by decide +kernel
theorem dX6_tellDeed_73 : decode cX6_tellDeed 73 = .ok (.iadd, 1) := by decide +kernel
theorem dX6_tellDeed_74 : decode cX6_tellDeed 74 = .ok (.iconst 0, 1) := by decide +kernel
theorem dX6_tellDeed_75 : decode cX6_tellDeed 75 = .ok (.iastore, 1) := by decide +kernel
theorem dX6_tellDeed_76 : decode cX6_tellDeed 76 = .ok (.aload_n 0, 1) := by decide +kernel
theorem dX6_tellDeed_77 : decode cX6_tellDeed 77 = .ok (.dup, 1) := by decide +kernel
theorem dX6_tellDeed_78 : decode cX6_tellDeed 78 = .ok (.getfield 131, 3) := by decide +kernel
theorem dX6_tellDeed_81 : decode cX6_tellDeed 81 = .ok (.iconst 1, 1) := by decide +kernel
theorem dX6_tellDeed_82 : decode cX6_tellDeed 82 = .ok (.iadd, 1) := by decide +kernel
theorem dX6_tellDeed_83 : decode cX6_tellDeed 83 = .ok (.putfield 131, 3) := by decide +kernel
theorem dX6_tellDeed_86 : decode cX6_tellDeed 86 = .ok (.return_, 1) := by decide +kernel
set_option maxRecDepth 20000 in
theorem ggX6_tell_X6_clear : GoodIn wsX6_tell wsX6_clear := goodIn_r _ [11, 12, 13, 2, 3, 4, 5, 40, 41, 42, 43, 44, 45, 46, 47, 48, 49, 50, 51, 52, 53, 54, 55, 56, 57, 58, 59, 60, 61, 62, 63, 64, 65] (by decide +kernel) (by decide +kernel)
set_option maxRecDepth 20000 in
theorem gX6_tell_X6_clear : GoodIn wsX6_tell (wsV RX6 138 RX6 yX6_clear wsX6_clear) := goodIn_app (goodIn_of _ (by decide +kernel)) ggX6_tell_X6_clear
set_option maxRecDepth 20000 in
theorem ggX6_tell_X6_can : GoodIn wsX6_tell wsX6_can := goodIn_r _ [17, 6, 18, 19, 20, 10, 21, 22, 23, 24, 25, 26, 27, 28, 29, 3, 30, 31, 32, 33, 34, 35, 40, 41, 42, 43, 44, 45, 46, 47, 48, 49, 50, 51, 52, 53, 54, 55, 56, 57, 58, 59, 60, 61, 62, 63, 64, 65] (by decide +kernel) (by decide +kernel)
set_option maxRecDepth 20000 in
theorem gX6_tell_X6_can : GoodIn wsX6_tell (wsV RX6 142 RX6 yX6_can wsX6_can) := goodIn_app (goodIn_of _ (by decide +kernel)) ggX6_tell_X6_can
set_option maxRecDepth 20000 in
theorem ggX6_tell_X6_tellDeed : GoodIn wsX6_tell wsX6_tellDeed := goodIn_r _ [39, 6, 13, 1, 40, 41, 42, 43, 44, 45, 46, 47, 48, 49, 50, 51, 52, 53, 54, 55, 56, 57, 58, 59, 60, 61, 62, 63, 64, 65] (by decide +kernel) (by decide +kernel)
set_option maxRecDepth 20000 in
theorem gX6_tell_X6_tellDeed : GoodIn wsX6_tell (wsV RX6 145 RX6 yX6_tellDeed wsX6_tellDeed) := goodIn_app (goodIn_of _ (by decide +kernel)) ggX6_tell_X6_tellDeed
theorem dX6_tell_0 : decode cX6_tell 0 = .ok (.aload_n 0, 1) := by decide +kernel
theorem dX6_tell_1 : decode cX6_tell 1 = .ok (.getfield 20, 3) := by decide +kernel
theorem dX6_tell_4 : decode cX6_tell 4 = .ok (.iload_n 1, 1) := by decide +kernel
theorem dX6_tell_5 : decode cX6_tell 5 = .ok (.iconst 1, 1) := by decide +kernel
theorem dX6_tell_6 : decode cX6_tell 6 = .ok (.iadd, 1) := by decide +kernel
theorem dX6_tell_7 : decode cX6_tell 7 = .ok (.iaload, 1) := by decide +kernel
theorem dX6_tell_8 : decode cX6_tell 8 = .ok (.istore_n 2, 1) := by decide +kernel
theorem dX6_tell_9 : decode cX6_tell 9 = .ok (.aload_n 0, 1) := by decide +kernel
theorem dX6_tell_10 : decode cX6_tell 10 = .ok (.getfield 20, 3) := by decide +kernel
theorem dX6_tell_13 : decode cX6_tell 13 = .ok (.iload_n 1, 1) := by decide +kernel
theorem dX6_tell_14 : decode cX6_tell 14 = .ok (.iconst 2, 1) := by decide +kernel
theorem dX6_tell_15 : decode cX6_tell 15 = .ok (.iadd, 1) := by decide +kernel
theorem dX6_tell_16 : decode cX6_tell 16 = .ok (.iaload, 1) := by decide +kernel
theorem dX6_tell_17 : decode cX6_tell 17 = .ok (.istore_n 3, 1) := by decide +kernel
theorem dX6_tell_18 : decode cX6_tell 18 = .ok (.aload_n 0, 1) := by decide +kernel
theorem dX6_tell_19 : decode cX6_tell 19 = .ok (.getfield 20, 3) := by decide +kernel
theorem dX6_tell_22 : decode cX6_tell 22 = .ok (.iload_n 1, 1) := by decide +kernel
theorem dX6_tell_23 : decode cX6_tell 23 = .ok (.iaload, 1) := by decide +kernel
theorem dX6_tell_24 : decode cX6_tell 24 = .ok (.tableswitch 194 0 12 #[68, 74, 82, 90, 194, 194, 194, 194, 98, 119, 127, 166, 166], 68) := by decide +kernel
theorem dX6_tell_92 : decode cX6_tell 92 = .ok (.aload_n 0, 1) := by decide +kernel
theorem dX6_tell_93 : decode cX6_tell 93 = .ok (.iload_n 2, 1) := by decide +kernel
theorem dX6_tell_94 : decode cX6_tell 94 = .ok (.invokevirtual 138, 3) := by decide +kernel
theorem dX6_tell_97 : decode cX6_tell 97 = .ok (.return_, 1) := by decide +kernel
theorem dX6_tell_98 : decode cX6_tell 98 = .ok (.aload_n 0, 1) := by decide +kernel
theorem dX6_tell_99 : decode cX6_tell 99 = .ok (.getfield 27, 3) := by decide +kernel
theorem dX6_tell_102 : decode cX6_tell 102 = .ok (.iload_n 2, 1) := by decide +kernel
theorem dX6_tell_103 : decode cX6_tell 103 = .ok (.iload_n 3, 1) := by decide +kernel
theorem dX6_tell_104 : decode cX6_tell 104 = .ok (.iastore, 1) := by decide +kernel
theorem dX6_tell_105 : decode cX6_tell 105 = .ok (.return_, 1) := by decide +kernel
theorem dX6_tell_106 : decode cX6_tell 106 = .ok (.aload_n 0, 1) := by decide +kernel
theorem dX6_tell_107 : decode cX6_tell 107 = .ok (.getfield 27, 3) := by decide +kernel
theorem dX6_tell_110 : decode cX6_tell 110 = .ok (.iload_n 2, 1) := by decide +kernel
theorem dX6_tell_111 : decode cX6_tell 111 = .ok (.iconst (-1), 1) := by decide +kernel
theorem dX6_tell_112 : decode cX6_tell 112 = .ok (.iastore, 1) := by decide +kernel
theorem dX6_tell_113 : decode cX6_tell 113 = .ok (.return_, 1) := by decide +kernel
theorem dX6_tell_114 : decode cX6_tell 114 = .ok (.aload_n 0, 1) := by decide +kernel
theorem dX6_tell_115 : decode cX6_tell 115 = .ok (.getfield 30, 3) := by decide +kernel
theorem dX6_tell_118 : decode cX6_tell 118 = .ok (.iload_n 2, 1) := by decide +kernel
theorem dX6_tell_119 : decode cX6_tell 119 = .ok (.iload_n 3, 1) := by decide +kernel
theorem dX6_tell_120 : decode cX6_tell 120 = .ok (.iastore, 1) := by decide +kernel
theorem dX6_tell_121 : decode cX6_tell 121 = .ok (.return_, 1) := by decide +kernel
theorem dX6_tell_122 : decode cX6_tell 122 = .ok (.aload_n 0, 1) := by decide +kernel
theorem dX6_tell_123 : decode cX6_tell 123 = .ok (.getfield 7, 3) := by decide +kernel
theorem dX6_tell_126 : decode cX6_tell 126 = .ok (.iload_n 2, 1) := by decide +kernel
theorem dX6_tell_127 : decode cX6_tell 127 = .ok (.aload_n 0, 1) := by decide +kernel
theorem dX6_tell_128 : decode cX6_tell 128 = .ok (.iload_n 2, 1) := by decide +kernel
theorem dX6_tell_129 : decode cX6_tell 129 = .ok (.iload_n 3, 1) := by decide +kernel
theorem dX6_tell_130 : decode cX6_tell 130 = .ok (.invokevirtual 142, 3) := by decide +kernel
theorem dX6_tell_133 : decode cX6_tell 133 = .ok (.ifCond .eq 7, 3) := by decide +kernel
theorem dX6_tell_136 : decode cX6_tell 136 = .ok (.iload_n 3, 1) := by decide +kernel
theorem dX6_tell_137 : decode cX6_tell 137 = .ok (.goto 4, 3) := by decide +kernel
theorem dX6_tell_140 : decode cX6_tell 140 = .ok (.iconst (-1), 1) := by decide +kernel
theorem dX6_tell_141 : decode cX6_tell 141 = .ok (.iastore, 1) := by decide +kernel
theorem dX6_tell_142 : decode cX6_tell 142 = .ok (.return_, 1) := by decide +kernel
theorem dX6_tell_143 : decode cX6_tell 143 = .ok (.aload_n 0, 1) := by decide +kernel
theorem dX6_tell_144 : decode cX6_tell 144 = .ok (.getfield 7, 3) := by decide +kernel
theorem dX6_tell_147 : decode cX6_tell 147 = .ok (.iload_n 2, 1) := by decide +kernel
theorem dX6_tell_148 : decode cX6_tell 148 = .ok (.iconst (-1), 1) := by decide +kernel
theorem dX6_tell_149 : decode cX6_tell 149 = .ok (.iastore, 1) := by decide +kernel
theorem dX6_tell_150 : decode cX6_tell 150 = .ok (.return_, 1) := by decide +kernel
theorem dX6_tell_151 : decode cX6_tell 151 = .ok (.aload_n 0, 1) := by decide +kernel
theorem dX6_tell_152 : decode cX6_tell 152 = .ok (.getfield 33, 3) := by decide +kernel
theorem dX6_tell_155 : decode cX6_tell 155 = .ok (.bipush 8, 2) := by decide +kernel
theorem dX6_tell_157 : decode cX6_tell 157 = .ok (.iload_n 2, 1) := by decide +kernel
theorem dX6_tell_158 : decode cX6_tell 158 = .ok (.imul, 1) := by decide +kernel
theorem dX6_tell_159 : decode cX6_tell 159 = .ok (.iload_n 3, 1) := by decide +kernel
theorem dX6_tell_160 : decode cX6_tell 160 = .ok (.iadd, 1) := by decide +kernel
theorem dX6_tell_161 : decode cX6_tell 161 = .ok (.aload_n 0, 1) := by decide +kernel
theorem dX6_tell_162 : decode cX6_tell 162 = .ok (.getfield 20, 3) := by decide +kernel
theorem dX6_tell_165 : decode cX6_tell 165 = .ok (.iload_n 1, 1) := by decide +kernel
theorem dX6_tell_166 : decode cX6_tell 166 = .ok (.iconst 3, 1) := by decide +kernel
theorem dX6_tell_167 : decode cX6_tell 167 = .ok (.iadd, 1) := by decide +kernel
theorem dX6_tell_168 : decode cX6_tell 168 = .ok (.iaload, 1) := by decide +kernel
theorem dX6_tell_169 : decode cX6_tell 169 = .ok (.iastore, 1) := by decide +kernel
theorem dX6_tell_170 : decode cX6_tell 170 = .ok (.aload_n 0, 1) := by decide +kernel
theorem dX6_tell_171 : decode cX6_tell 171 = .ok (.getfield 33, 3) := by decide +kernel
theorem dX6_tell_174 : decode cX6_tell 174 = .ok (.bipush 8, 2) := by decide +kernel
theorem dX6_tell_176 : decode cX6_tell 176 = .ok (.iload_n 3, 1) := by decide +kernel
theorem dX6_tell_177 : decode cX6_tell 177 = .ok (.imul, 1) := by decide +kernel
theorem dX6_tell_178 : decode cX6_tell 178 = .ok (.iload_n 2, 1) := by decide +kernel
theorem dX6_tell_179 : decode cX6_tell 179 = .ok (.iadd, 1) := by decide +kernel
theorem dX6_tell_180 : decode cX6_tell 180 = .ok (.aload_n 0, 1) := by decide +kernel
theorem dX6_tell_181 : decode cX6_tell 181 = .ok (.getfield 20, 3) := by decide +kernel
theorem dX6_tell_184 : decode cX6_tell 184 = .ok (.iload_n 1, 1) := by decide +kernel
theorem dX6_tell_185 : decode cX6_tell 185 = .ok (.iconst 3, 1) := by decide +kernel
theorem dX6_tell_186 : decode cX6_tell 186 = .ok (.iadd, 1) := by decide +kernel
theorem dX6_tell_187 : decode cX6_tell 187 = .ok (.iaload, 1) := by decide +kernel
theorem dX6_tell_188 : decode cX6_tell 188 = .ok (.iastore, 1) := by decide +kernel
theorem dX6_tell_189 : decode cX6_tell 189 = .ok (.return_, 1) := by decide +kernel
theorem dX6_tell_190 : decode cX6_tell 190 = .ok (.aload_n 0, 1) := by decide +kernel
theorem dX6_tell_191 : decode cX6_tell 191 = .ok (.getfield 36, 3) := by decide +kernel
theorem dX6_tell_194 : decode cX6_tell 194 = .ok (.bipush 6, 2) := by decide +kernel
theorem dX6_tell_196 : decode cX6_tell 196 = .ok (.iload_n 2, 1) := by decide +kernel
theorem dX6_tell_197 : decode cX6_tell 197 = .ok (.imul, 1) := by decide +kernel
theorem dX6_tell_198 : decode cX6_tell 198 = .ok (.iconst 5, 1) := by decide +kernel
theorem dX6_tell_199 : decode cX6_tell 199 = .ok (.iadd, 1) := by decide +kernel
theorem dX6_tell_200 : decode cX6_tell 200 = .ok (.aload_n 0, 1) := by decide +kernel
theorem dX6_tell_201 : decode cX6_tell 201 = .ok (.getfield 20, 3) := by decide +kernel
theorem dX6_tell_204 : decode cX6_tell 204 = .ok (.iload_n 1, 1) := by decide +kernel
theorem dX6_tell_205 : decode cX6_tell 205 = .ok (.iaload, 1) := by decide +kernel
theorem dX6_tell_206 : decode cX6_tell 206 = .ok (.bipush 11, 2) := by decide +kernel
theorem dX6_tell_208 : decode cX6_tell 208 = .ok (.if_icmp .ne 7, 3) := by decide +kernel
theorem dX6_tell_211 : decode cX6_tell 211 = .ok (.iconst 1, 1) := by decide +kernel
theorem dX6_tell_212 : decode cX6_tell 212 = .ok (.goto 4, 3) := by decide +kernel
theorem dX6_tell_215 : decode cX6_tell 215 = .ok (.iconst 0, 1) := by decide +kernel
theorem dX6_tell_216 : decode cX6_tell 216 = .ok (.iastore, 1) := by decide +kernel
theorem dX6_tell_217 : decode cX6_tell 217 = .ok (.return_, 1) := by decide +kernel
theorem dX6_tell_218 : decode cX6_tell 218 = .ok (.aload_n 0, 1) := by decide +kernel
theorem dX6_tell_219 : decode cX6_tell 219 = .ok (.iload_n 1, 1) := by decide +kernel
theorem dX6_tell_220 : decode cX6_tell 220 = .ok (.invokevirtual 145, 3) := by decide +kernel
theorem dX6_tell_223 : decode cX6_tell 223 = .ok (.return_, 1) := by decide +kernel
set_option maxRecDepth 20000 in
theorem ggX6_street_X6_fault : GoodIn wsX6_street wsX6_fault := goodIn_r _ [11, 12, 1, 13, 14, 15, 16, 17, 6, 18, 19, 20, 21, 22, 10, 23, 24, 25, 26, 27, 28, 29, 30, 31, 32, 33, 34, 35, 36, 37, 38, 39, 40, 41, 42, 43, 44, 45, 46, 47, 48, 49, 50, 51, 52, 53, 54, 55, 56, 57, 58, 59, 60, 61, 62, 63, 64, 65, 66, 67, 68, 69, 70, 71, 72, 73, 74, 75, 114, 115, 116, 117, 118, 119, 120, 121, 122, 123, 124, 125, 126, 127, 128, 129, 130, 131, 132, 133, 134, 135, 136, 137, 138, 139] (by decide +kernel) (by decide +kernel)
set_option maxRecDepth 20000 in
theorem gX6_street_X6_fault : GoodIn wsX6_street (wsV RX6 148 RX6 yX6_fault wsX6_fault) := goodIn_app (goodIn_of _ (by decide +kernel)) ggX6_street_X6_fault
set_option maxRecDepth 20000 in
theorem ggX6_street_X6_tell : GoodIn wsX6_street wsX6_tell := goodIn_r _ [79, 31, 80, 81, 2, 82, 83, 84, 85, 86, 10, 87, 13, 15, 88, 89, 90, 91, 92, 93, 94, 95, 96, 97, 98, 99, 100, 101, 102, 103, 104, 105, 106, 107, 108, 109, 110, 111, 112, 113, 114, 115, 116, 117, 118, 119, 120, 121, 122, 123, 124, 125, 126, 127, 128, 129, 130, 131, 132, 133, 134, 135, 136, 137, 138, 139] (by decide +kernel) (by decide +kernel)
set_option maxRecDepth 20000 in
theorem gX6_street_X6_tell : GoodIn wsX6_street (wsV RX6 151 RX6 yX6_tell wsX6_tell) := goodIn_app (goodIn_of _ (by decide +kernel)) ggX6_street_X6_tell
theorem dX6_street_0 : decode cX6_street 0 = .ok (.aload_n 0, 1) := by decide +kernel
theorem dX6_street_1 : decode cX6_street 1 = .ok (.invokevirtual 148, 3) := by decide +kernel
theorem dX6_street_4 : decode cX6_street 4 = .ok (.iconst (-1), 1) := by decide +kernel
theorem dX6_street_5 : decode cX6_street 5 = .ok (.if_icmp .eq 6, 3) := by decide +kernel
theorem dX6_street_8 : decode cX6_street 8 = .ok (.bipush (-4), 2) := by decide +kernel
theorem dX6_street_10 : decode cX6_street 10 = .ok (.ireturn, 1) := by decide +kernel
theorem dX6_street_11 : decode cX6_street 11 = .ok (.iconst 0, 1) := by decide +kernel
theorem dX6_street_12 : decode cX6_street 12 = .ok (.istore_n 1, 1) := by decide +kernel
theorem dX6_street_13 : decode cX6_street 13 = .ok (.iload_n 1, 1) := by decide +kernel
theorem dX6_street_14 : decode cX6_street 14 = .ok (.aload_n 0, 1) := by decide +kernel
theorem dX6_street_15 : decode cX6_street 15 = .ok (.getfield 101, 3) := by decide +kernel
theorem dX6_street_18 : decode cX6_street 18 = .ok (.if_icmp .ge 16, 3) := by decide +kernel
theorem dX6_street_21 : decode cX6_street 21 = .ok (.aload_n 0, 1) := by decide +kernel
theorem dX6_street_22 : decode cX6_street 22 = .ok (.iconst 5, 1) := by decide +kernel
theorem dX6_street_23 : decode cX6_street 23 = .ok (.iload_n 1, 1) := by decide +kernel
theorem dX6_street_24 : decode cX6_street 24 = .ok (.imul, 1) := by decide +kernel
theorem dX6_street_25 : decode cX6_street 25 = .ok (.invokevirtual 151, 3) := by decide +kernel
theorem dX6_street_28 : decode cX6_street 28 = .ok (.iinc 1 1, 3) := by decide +kernel
theorem dX6_street_31 : decode cX6_street 31 = .ok (.goto (-18), 3) := by decide +kernel
theorem dX6_street_34 : decode cX6_street 34 = .ok (.bipush 8, 2) := by decide +kernel
theorem dX6_street_36 : decode cX6_street 36 = .ok (.istore_n 1, 1) := by decide +kernel
theorem dX6_street_37 : decode cX6_street 37 = .ok (.iload_n 1, 1) := by decide +kernel
theorem dX6_street_38 : decode cX6_street 38 = .ok (.bipush 17, 2) := by decide +kernel
theorem dX6_street_40 : decode cX6_street 40 = .ok (.if_icmp .ge 16, 3) := by decide +kernel
theorem dX6_street_43 : decode cX6_street 43 = .ok (.aload_n 0, 1) := by decide +kernel
theorem dX6_street_44 : decode cX6_street 44 = .ok (.getfield 7, 3) := by decide +kernel
theorem dX6_street_47 : decode cX6_street 47 = .ok (.iload_n 1, 1) := by decide +kernel
theorem dX6_street_48 : decode cX6_street 48 = .ok (.iconst 0, 1) := by decide +kernel
theorem dX6_street_49 : decode cX6_street 49 = .ok (.iastore, 1) := by decide +kernel
theorem dX6_street_50 : decode cX6_street 50 = .ok (.iinc 1 1, 3) := by decide +kernel
theorem dX6_street_53 : decode cX6_street 53 = .ok (.goto (-16), 3) := by decide +kernel
theorem dX6_street_56 : decode cX6_street 56 = .ok (.aload_n 0, 1) := by decide +kernel
theorem dX6_street_57 : decode cX6_street 57 = .ok (.iconst 0, 1) := by decide +kernel
theorem dX6_street_58 : decode cX6_street 58 = .ok (.putfield 154, 3) := by decide +kernel
theorem dX6_street_61 : decode cX6_street 61 = .ok (.aload_n 0, 1) := by decide +kernel
theorem dX6_street_62 : decode cX6_street 62 = .ok (.iconst 0, 1) := by decide +kernel
theorem dX6_street_63 : decode cX6_street 63 = .ok (.putfield 157, 3) := by decide +kernel
theorem dX6_street_66 : decode cX6_street 66 = .ok (.aload_n 0, 1) := by decide +kernel
theorem dX6_street_67 : decode cX6_street 67 = .ok (.getfield 13, 3) := by decide +kernel
theorem dX6_street_70 : decode cX6_street 70 = .ok (.iconst 0, 1) := by decide +kernel
theorem dX6_street_71 : decode cX6_street 71 = .ok (.iconst 0, 1) := by decide +kernel
theorem dX6_street_72 : decode cX6_street 72 = .ok (.bastore, 1) := by decide +kernel
theorem dX6_street_73 : decode cX6_street 73 = .ok (.aload_n 0, 1) := by decide +kernel
theorem dX6_street_74 : decode cX6_street 74 = .ok (.getfield 13, 3) := by decide +kernel
theorem dX6_street_77 : decode cX6_street 77 = .ok (.iconst 1, 1) := by decide +kernel
theorem dX6_street_78 : decode cX6_street 78 = .ok (.iconst 0, 1) := by decide +kernel
theorem dX6_street_79 : decode cX6_street 79 = .ok (.bastore, 1) := by decide +kernel
theorem dX6_street_80 : decode cX6_street 80 = .ok (.aload_n 0, 1) := by decide +kernel
theorem dX6_street_81 : decode cX6_street 81 = .ok (.iconst 0, 1) := by decide +kernel
theorem dX6_street_82 : decode cX6_street 82 = .ok (.putfield 60, 3) := by decide +kernel
theorem dX6_street_85 : decode cX6_street 85 = .ok (.aload_n 0, 1) := by decide +kernel
theorem dX6_street_86 : decode cX6_street 86 = .ok (.getfield 101, 3) := by decide +kernel
theorem dX6_street_89 : decode cX6_street 89 = .ok (.ireturn, 1) := by decide +kernel
set_option maxRecDepth 20000 in
theorem ggX6_isHouse_X6_in : GoodIn wsX6_isHouse wsX6_in := goodIn_r _ [5] (by decide +kernel) (by decide +kernel)
set_option maxRecDepth 20000 in
theorem gX6_isHouse_X6_in : GoodIn wsX6_isHouse (va_wsS RX6 56 yX6_in wsX6_in) := goodIn_app (goodIn_of _ (by decide +kernel)) ggX6_isHouse_X6_in
theorem dX6_isHouse_0 : decode cX6_isHouse 0 = .ok (.iload_n 1, 1) := by decide +kernel
theorem dX6_isHouse_1 : decode cX6_isHouse 1 = .ok (.i2l, 1) := by decide +kernel
theorem dX6_isHouse_2 : decode cX6_isHouse 2 = .ok (.lconst 0, 1) := by decide +kernel
theorem dX6_isHouse_3 : decode cX6_isHouse 3 = .ok (.aload_n 0, 1) := by decide +kernel
theorem dX6_isHouse_4 : decode cX6_isHouse 4 = .ok (.getfield 23, 3) := by decide +kernel
theorem dX6_isHouse_7 : decode cX6_isHouse 7 = .ok (.iconst 1, 1) := by decide +kernel
theorem dX6_isHouse_8 : decode cX6_isHouse 8 = .ok (.isub, 1) := by decide +kernel
theorem dX6_isHouse_9 : decode cX6_isHouse 9 = .ok (.i2l, 1) := by decide +kernel
theorem dX6_isHouse_10 : decode cX6_isHouse 10 = .ok (.invokestatic 56, 3) := by decide +kernel
theorem dX6_isHouse_13 : decode cX6_isHouse 13 = .ok (.ireturn, 1) := by decide +kernel
set_option maxRecDepth 20000 in
theorem ggX6_isDeed_X6_in : GoodIn wsX6_isDeed wsX6_in := goodIn_r _ [5] (by decide +kernel) (by decide +kernel)
set_option maxRecDepth 20000 in
theorem gX6_isDeed_X6_in : GoodIn wsX6_isDeed (va_wsS RX6 56 yX6_in wsX6_in) := goodIn_app (goodIn_of _ (by decide +kernel)) ggX6_isDeed_X6_in
theorem dX6_isDeed_0 : decode cX6_isDeed 0 = .ok (.iload_n 1, 1) := by decide +kernel
theorem dX6_isDeed_1 : decode cX6_isDeed 1 = .ok (.i2l, 1) := by decide +kernel
theorem dX6_isDeed_2 : decode cX6_isDeed 2 = .ok (.lconst 0, 1) := by decide +kernel
theorem dX6_isDeed_3 : decode cX6_isDeed 3 = .ok (.aload_n 0, 1) := by decide +kernel
theorem dX6_isDeed_4 : decode cX6_isDeed 4 = .ok (.getfield 131, 3) := by decide +kernel
theorem dX6_isDeed_7 : decode cX6_isDeed 7 = .ok (.iconst 1, 1) := by decide +kernel
theorem dX6_isDeed_8 : decode cX6_isDeed 8 = .ok (.isub, 1) := by decide +kernel
theorem dX6_isDeed_9 : decode cX6_isDeed 9 = .ok (.i2l, 1) := by decide +kernel
theorem dX6_isDeed_10 : decode cX6_isDeed 10 = .ok (.invokestatic 56, 3) := by decide +kernel
theorem dX6_isDeed_13 : decode cX6_isDeed 13 = .ok (.ireturn, 1) := by decide +kernel
set_option maxRecDepth 20000 in
theorem ggX6_house_X6_isHouse : GoodIn wsX6_house wsX6_isHouse := goodIn_r _ [8, 9, 10, 11, 7, 12, 13, 14, 15, 16, 17, 18, 19, 20, 21, 22, 23, 24, 25, 26, 27, 28, 29, 30, 31, 32, 33, 34, 35, 36, 37, 38] (by decide +kernel) (by decide +kernel)
set_option maxRecDepth 20000 in
theorem gX6_house_X6_isHouse : GoodIn wsX6_house (wsV RX6 160 RX6 yX6_isHouse wsX6_isHouse) := goodIn_app (goodIn_of _ (by decide +kernel)) ggX6_house_X6_isHouse
theorem dX6_house_0 : decode cX6_house 0 = .ok (.aload_n 0, 1) := by decide +kernel
theorem dX6_house_1 : decode cX6_house 1 = .ok (.iload_n 1, 1) := by decide +kernel
theorem dX6_house_2 : decode cX6_house 2 = .ok (.invokevirtual 160, 3) := by decide +kernel
theorem dX6_house_5 : decode cX6_house 5 = .ok (.ifCond .ne 6, 3) := by decide +kernel
theorem dX6_house_8 : decode cX6_house 8 = .ok (.bipush (-2), 2) := by decide +kernel
theorem dX6_house_10 : decode cX6_house 10 = .ok (.ireturn, 1) := by decide +kernel
theorem dX6_house_11 : decode cX6_house 11 = .ok (.iload_n 2, 1) := by decide +kernel
theorem dX6_house_12 : decode cX6_house 12 = .ok (.tableswitch 63 0 3 #[32, 39, 46, 53], 32) := by decide +kernel
theorem dX6_house_44 : decode cX6_house 44 = .ok (.aload_n 0, 1) := by decide +kernel
theorem dX6_house_45 : decode cX6_house 45 = .ok (.getfield 27, 3) := by decide +kernel
theorem dX6_house_48 : decode cX6_house 48 = .ok (.iload_n 1, 1) := by decide +kernel
theorem dX6_house_49 : decode cX6_house 49 = .ok (.iaload, 1) := by decide +kernel
theorem dX6_house_50 : decode cX6_house 50 = .ok (.ireturn, 1) := by decide +kernel
theorem dX6_house_51 : decode cX6_house 51 = .ok (.aload_n 0, 1) := by decide +kernel
theorem dX6_house_52 : decode cX6_house 52 = .ok (.getfield 30, 3) := by decide +kernel
theorem dX6_house_55 : decode cX6_house 55 = .ok (.iload_n 1, 1) := by decide +kernel
theorem dX6_house_56 : decode cX6_house 56 = .ok (.iaload, 1) := by decide +kernel
theorem dX6_house_57 : decode cX6_house 57 = .ok (.ireturn, 1) := by decide +kernel
theorem dX6_house_58 : decode cX6_house 58 = .ok (.aload_n 0, 1) := by decide +kernel
theorem dX6_house_59 : decode cX6_house 59 = .ok (.getfield 7, 3) := by decide +kernel
theorem dX6_house_62 : decode cX6_house 62 = .ok (.iload_n 1, 1) := by decide +kernel
theorem dX6_house_63 : decode cX6_house 63 = .ok (.iaload, 1) := by decide +kernel
theorem dX6_house_64 : decode cX6_house 64 = .ok (.ireturn, 1) := by decide +kernel
theorem dX6_house_65 : decode cX6_house 65 = .ok (.aload_n 0, 1) := by decide +kernel
theorem dX6_house_66 : decode cX6_house 66 = .ok (.getfield 7, 3) := by decide +kernel
theorem dX6_house_69 : decode cX6_house 69 = .ok (.bipush 9, 2) := by decide +kernel
theorem dX6_house_71 : decode cX6_house 71 = .ok (.iload_n 1, 1) := by decide +kernel
theorem dX6_house_72 : decode cX6_house 72 = .ok (.iadd, 1) := by decide +kernel
theorem dX6_house_73 : decode cX6_house 73 = .ok (.iaload, 1) := by decide +kernel
theorem dX6_house_74 : decode cX6_house 74 = .ok (.ireturn, 1) := by decide +kernel
theorem dX6_house_75 : decode cX6_house 75 = .ok (.bipush (-3), 2) := by decide +kernel
theorem dX6_house_77 : decode cX6_house 77 = .ok (.ireturn, 1) := by decide +kernel
set_option maxRecDepth 20000 in
theorem ggX6_deed_X6_isDeed : GoodIn wsX6_deed wsX6_isDeed := goodIn_r _ [7, 8, 9, 10, 6, 11, 12, 13, 14, 15, 16, 17, 18, 19, 20, 21, 22, 23, 24, 25, 26, 27, 28, 29, 30, 31, 32, 33, 34, 35, 36, 37] (by decide +kernel) (by decide +kernel)
set_option maxRecDepth 20000 in
theorem gX6_deed_X6_isDeed : GoodIn wsX6_deed (wsV RX6 163 RX6 yX6_isDeed wsX6_isDeed) := goodIn_app (goodIn_of _ (by decide +kernel)) ggX6_deed_X6_isDeed
set_option maxRecDepth 20000 in
theorem ggX6_deed_X6_in : GoodIn wsX6_deed wsX6_in := goodIn_r _ [11] (by decide +kernel) (by decide +kernel)
set_option maxRecDepth 20000 in
theorem gX6_deed_X6_in : GoodIn wsX6_deed (va_wsS RX6 56 yX6_in wsX6_in) := goodIn_app (goodIn_of _ (by decide +kernel)) ggX6_deed_X6_in
theorem dX6_deed_0 : decode cX6_deed 0 = .ok (.aload_n 0, 1) := by decide +kernel
theorem dX6_deed_1 : decode cX6_deed 1 = .ok (.iload_n 1, 1) := by decide +kernel
theorem dX6_deed_2 : decode cX6_deed 2 = .ok (.invokevirtual 163, 3) := by decide +kernel
theorem dX6_deed_5 : decode cX6_deed 5 = .ok (.ifCond .ne 6, 3) := by decide +kernel
theorem dX6_deed_8 : decode cX6_deed 8 = .ok (.bipush (-2), 2) := by decide +kernel
theorem dX6_deed_10 : decode cX6_deed 10 = .ok (.ireturn, 1) := by decide +kernel
theorem dX6_deed_11 : decode cX6_deed 11 = .ok (.iload_n 2, 1) := by decide +kernel
theorem dX6_deed_12 : decode cX6_deed 12 = .ok (.i2l, 1) := by decide +kernel
theorem dX6_deed_13 : decode cX6_deed 13 = .ok (.lconst 0, 1) := by decide +kernel
theorem dX6_deed_14 : decode cX6_deed 14 = .ok (.ldc2_w 166, 3) := by decide +kernel
theorem dX6_deed_17 : decode cX6_deed 17 = .ok (.invokestatic 56, 3) := by decide +kernel
theorem dX6_deed_20 : decode cX6_deed 20 = .ok (.ifCond .eq 17, 3) := by decide +kernel
theorem dX6_deed_23 : decode cX6_deed 23 = .ok (.aload_n 0, 1) := by decide +kernel
theorem dX6_deed_24 : decode cX6_deed 24 = .ok (.getfield 36, 3) := by decide +kernel
theorem dX6_deed_27 : decode cX6_deed 27 = .ok (.bipush 6, 2) := by decide +kernel
theorem dX6_deed_29 : decode cX6_deed 29 = .ok (.iload_n 1, 1) := by decide +kernel
theorem dX6_deed_30 : decode cX6_deed 30 = .ok (.imul, 1) := by decide +kernel
theorem dX6_deed_31 : decode cX6_deed 31 = .ok (.iload_n 2, 1) := by decide +kernel
theorem dX6_deed_32 : decode cX6_deed 32 = .ok (.iadd, 1) := by decide +kernel
theorem dX6_deed_33 : decode cX6_deed 33 = .ok (.iaload, 1) := by decide +kernel
theorem dX6_deed_34 : decode cX6_deed 34 = .ok (.goto 5, 3) := by decide +kernel
theorem dX6_deed_37 : decode cX6_deed 37 = .ok (.bipush (-3), 2) := by decide +kernel
theorem dX6_deed_39 : decode cX6_deed 39 = .ok (.ireturn, 1) := by decide +kernel
set_option maxRecDepth 20000 in
theorem ggX6_lacks_X6_bits : GoodIn wsX6_lacks wsX6_bits := goodIn_r _ [6] (by decide +kernel) (by decide +kernel)
set_option maxRecDepth 20000 in
theorem gX6_lacks_X6_bits : GoodIn wsX6_lacks (va_wsS RX6 168 yX6_bits wsX6_bits) := goodIn_app (goodIn_of _ (by decide +kernel)) ggX6_lacks_X6_bits
theorem dX6_lacks_0 : decode cX6_lacks 0 = .ok (.aload_n 0, 1) := by decide +kernel
theorem dX6_lacks_1 : decode cX6_lacks 1 = .ok (.getfield 36, 3) := by decide +kernel
theorem dX6_lacks_4 : decode cX6_lacks 4 = .ok (.bipush 6, 2) := by decide +kernel
theorem dX6_lacks_6 : decode cX6_lacks 6 = .ok (.iload_n 2, 1) := by decide +kernel
theorem dX6_lacks_7 : decode cX6_lacks 7 = .ok (.imul, 1) := by decide +kernel
theorem dX6_lacks_8 : decode cX6_lacks 8 = .ok (.iconst 0, 1) := by decide +kernel
theorem dX6_lacks_9 : decode cX6_lacks 9 = .ok (.iadd, 1) := by decide +kernel
theorem dX6_lacks_10 : decode cX6_lacks 10 = .ok (.iaload, 1) := by decide +kernel
theorem dX6_lacks_11 : decode cX6_lacks 11 = .ok (.istore_n 3, 1) := by decide +kernel
theorem dX6_lacks_12 : decode cX6_lacks 12 = .ok (.aload_n 0, 1) := by decide +kernel
theorem dX6_lacks_13 : decode cX6_lacks 13 = .ok (.getfield 36, 3) := by decide +kernel
theorem dX6_lacks_16 : decode cX6_lacks 16 = .ok (.bipush 6, 2) := by decide +kernel
theorem dX6_lacks_18 : decode cX6_lacks 18 = .ok (.iload_n 2, 1) := by decide +kernel
theorem dX6_lacks_19 : decode cX6_lacks 19 = .ok (.imul, 1) := by decide +kernel
theorem dX6_lacks_20 : decode cX6_lacks 20 = .ok (.iconst 1, 1) := by decide +kernel
theorem dX6_lacks_21 : decode cX6_lacks 21 = .ok (.iadd, 1) := by decide +kernel
theorem dX6_lacks_22 : decode cX6_lacks 22 = .ok (.iaload, 1) := by decide +kernel
theorem dX6_lacks_23 : decode cX6_lacks 23 = .ok (.istore 4, 2) := by decide +kernel
theorem dX6_lacks_25 : decode cX6_lacks 25 = .ok (.iload_n 3, 1) := by decide +kernel
theorem dX6_lacks_26 : decode cX6_lacks 26 = .ok (.ifCond .eq 23, 3) := by decide +kernel
theorem dX6_lacks_29 : decode cX6_lacks 29 = .ok (.iload_n 3, 1) := by decide +kernel
theorem dX6_lacks_30 : decode cX6_lacks 30 = .ok (.iconst 2, 1) := by decide +kernel
theorem dX6_lacks_31 : decode cX6_lacks 31 = .ok (.if_icmp .le 20, 3) := by decide +kernel
theorem dX6_lacks_34 : decode cX6_lacks 34 = .ok (.aload_n 0, 1) := by decide +kernel
theorem dX6_lacks_35 : decode cX6_lacks 35 = .ok (.getfield 36, 3) := by decide +kernel
theorem dX6_lacks_38 : decode cX6_lacks 38 = .ok (.bipush 6, 2) := by decide +kernel
theorem dX6_lacks_40 : decode cX6_lacks 40 = .ok (.iload_n 2, 1) := by decide +kernel
theorem dX6_lacks_41 : decode cX6_lacks 41 = .ok (.imul, 1) := by decide +kernel
theorem dX6_lacks_42 : decode cX6_lacks 42 = .ok (.iconst 2, 1) := by decide +kernel
theorem dX6_lacks_43 : decode cX6_lacks 43 = .ok (.iadd, 1) := by decide +kernel
theorem dX6_lacks_44 : decode cX6_lacks 44 = .ok (.iaload, 1) := by decide +kernel
theorem dX6_lacks_45 : decode cX6_lacks 45 = .ok (.iload_n 1, 1) := by decide +kernel
theorem dX6_lacks_46 : decode cX6_lacks 46 = .ok (.if_icmp .ne 5, 3) := by decide +kernel
theorem dX6_lacks_49 : decode cX6_lacks 49 = .ok (.iconst 0, 1) := by decide +kernel
theorem dX6_lacks_50 : decode cX6_lacks 50 = .ok (.ireturn, 1) := by decide +kernel
theorem dX6_lacks_51 : decode cX6_lacks 51 = .ok (.iload_n 3, 1) := by decide +kernel
theorem dX6_lacks_52 : decode cX6_lacks 52 = .ok (.iconst 2, 1) := by decide +kernel
theorem dX6_lacks_53 : decode cX6_lacks 53 = .ok (.if_icmp .ne 28, 3) := by decide +kernel
theorem dX6_lacks_56 : decode cX6_lacks 56 = .ok (.iload 4, 2) := by decide +kernel
theorem dX6_lacks_58 : decode cX6_lacks 58 = .ok (.ifCond .eq 19, 3) := by decide +kernel
theorem dX6_lacks_61 : decode cX6_lacks 61 = .ok (.iload 4, 2) := by decide +kernel
theorem dX6_lacks_63 : decode cX6_lacks 63 = .ok (.aload_n 0, 1) := by decide +kernel
theorem dX6_lacks_64 : decode cX6_lacks 64 = .ok (.getfield 30, 3) := by decide +kernel
theorem dX6_lacks_67 : decode cX6_lacks 67 = .ok (.iload_n 1, 1) := by decide +kernel
theorem dX6_lacks_68 : decode cX6_lacks 68 = .ok (.iaload, 1) := by decide +kernel
theorem dX6_lacks_69 : decode cX6_lacks 69 = .ok (.iand, 1) := by decide +kernel
theorem dX6_lacks_70 : decode cX6_lacks 70 = .ok (.ifCond .ne 7, 3) := by decide +kernel
theorem dX6_lacks_73 : decode cX6_lacks 73 = .ok (.iconst 1, 1) := by decide +kernel
theorem dX6_lacks_74 : decode cX6_lacks 74 = .ok (.goto 21, 3) := by decide +kernel
theorem dX6_lacks_77 : decode cX6_lacks 77 = .ok (.iconst 0, 1) := by decide +kernel
theorem dX6_lacks_78 : decode cX6_lacks 78 = .ok (.goto 17, 3) := by decide +kernel
theorem dX6_lacks_81 : decode cX6_lacks 81 = .ok (.iload 4, 2) := by decide +kernel
theorem dX6_lacks_83 : decode cX6_lacks 83 = .ok (.aload_n 0, 1) := by decide +kernel
theorem dX6_lacks_84 : decode cX6_lacks 84 = .ok (.getfield 30, 3) := by decide +kernel
theorem dX6_lacks_87 : decode cX6_lacks 87 = .ok (.iload_n 1, 1) := by decide +kernel
theorem dX6_lacks_88 : decode cX6_lacks 88 = .ok (.iaload, 1) := by decide +kernel
theorem dX6_lacks_89 : decode cX6_lacks 89 = .ok (.iconst (-1), 1) := by decide +kernel
theorem dX6_lacks_90 : decode cX6_lacks 90 = .ok (.ixor, 1) := by decide +kernel
theorem dX6_lacks_91 : decode cX6_lacks 91 = .ok (.iand, 1) := by decide +kernel
theorem dX6_lacks_92 : decode cX6_lacks 92 = .ok (.invokestatic 168, 3) := by decide +kernel
theorem dX6_lacks_95 : decode cX6_lacks 95 = .ok (.ireturn, 1) := by decide +kernel
set_option maxRecDepth 20000 in
theorem ggX6_canElse_X6_lacks : GoodIn wsX6_canElse wsX6_lacks := goodIn_r _ [6, 1, 7, 8, 9, 5, 10, 11, 12, 13, 14, 15, 16, 17, 18, 19, 20, 21, 22, 23, 24, 25, 26, 27, 28, 29, 30, 31, 32, 33, 34, 35, 36] (by decide +kernel) (by decide +kernel)
set_option maxRecDepth 20000 in
theorem gX6_canElse_X6_lacks : GoodIn wsX6_canElse (wsV RX6 171 RX6 yX6_lacks wsX6_lacks) := goodIn_app (goodIn_of _ (by decide +kernel)) ggX6_canElse_X6_lacks
theorem dX6_canElse_0 : decode cX6_canElse 0 = .ok (.aload_n 0, 1) := by decide +kernel
theorem dX6_canElse_1 : decode cX6_canElse 1 = .ok (.getfield 36, 3) := by decide +kernel
theorem dX6_canElse_4 : decode cX6_canElse 4 = .ok (.bipush 6, 2) := by decide +kernel
theorem dX6_canElse_6 : decode cX6_canElse 6 = .ok (.iload_n 2, 1) := by decide +kernel
theorem dX6_canElse_7 : decode cX6_canElse 7 = .ok (.imul, 1) := by decide +kernel
theorem dX6_canElse_8 : decode cX6_canElse 8 = .ok (.iconst 0, 1) := by decide +kernel
theorem dX6_canElse_9 : decode cX6_canElse 9 = .ok (.iadd, 1) := by decide +kernel
theorem dX6_canElse_10 : decode cX6_canElse 10 = .ok (.iaload, 1) := by decide +kernel
theorem dX6_canElse_11 : decode cX6_canElse 11 = .ok (.iconst 2, 1) := by decide +kernel
theorem dX6_canElse_12 : decode cX6_canElse 12 = .ok (.if_icmp .ne 21, 3) := by decide +kernel
theorem dX6_canElse_15 : decode cX6_canElse 15 = .ok (.aload_n 0, 1) := by decide +kernel
theorem dX6_canElse_16 : decode cX6_canElse 16 = .ok (.getfield 36, 3) := by decide +kernel
theorem dX6_canElse_19 : decode cX6_canElse 19 = .ok (.bipush 6, 2) := by decide +kernel
theorem dX6_canElse_21 : decode cX6_canElse 21 = .ok (.iload_n 2, 1) := by decide +kernel
theorem dX6_canElse_22 : decode cX6_canElse 22 = .ok (.imul, 1) := by decide +kernel
theorem dX6_canElse_23 : decode cX6_canElse 23 = .ok (.iconst 1, 1) := by decide +kernel
theorem dX6_canElse_24 : decode cX6_canElse 24 = .ok (.iadd, 1) := by decide +kernel
theorem dX6_canElse_25 : decode cX6_canElse 25 = .ok (.iaload, 1) := by decide +kernel
theorem dX6_canElse_26 : decode cX6_canElse 26 = .ok (.ifCond .ne 7, 3) := by decide +kernel
theorem dX6_canElse_29 : decode cX6_canElse 29 = .ok (.iconst 1, 1) := by decide +kernel
theorem dX6_canElse_30 : decode cX6_canElse 30 = .ok (.goto 4, 3) := by decide +kernel
theorem dX6_canElse_33 : decode cX6_canElse 33 = .ok (.iconst 0, 1) := by decide +kernel
theorem dX6_canElse_34 : decode cX6_canElse 34 = .ok (.istore_n 3, 1) := by decide +kernel
theorem dX6_canElse_35 : decode cX6_canElse 35 = .ok (.iload_n 3, 1) := by decide +kernel
theorem dX6_canElse_36 : decode cX6_canElse 36 = .ok (.ifCond .ne 16, 3) := by decide +kernel
theorem dX6_canElse_39 : decode cX6_canElse 39 = .ok (.aload_n 0, 1) := by decide +kernel
theorem dX6_canElse_40 : decode cX6_canElse 40 = .ok (.iload_n 1, 1) := by decide +kernel
theorem dX6_canElse_41 : decode cX6_canElse 41 = .ok (.iload_n 2, 1) := by decide +kernel
theorem dX6_canElse_42 : decode cX6_canElse 42 = .ok (.invokevirtual 171, 3) := by decide +kernel
theorem dX6_canElse_45 : decode cX6_canElse 45 = .ok (.ifCond .ne 7, 3) := by decide +kernel
theorem dX6_canElse_48 : decode cX6_canElse 48 = .ok (.iconst 1, 1) := by decide +kernel
theorem dX6_canElse_49 : decode cX6_canElse 49 = .ok (.goto 4, 3) := by decide +kernel
theorem dX6_canElse_52 : decode cX6_canElse 52 = .ok (.iconst 0, 1) := by decide +kernel
theorem dX6_canElse_53 : decode cX6_canElse 53 = .ok (.ireturn, 1) := by decide +kernel
set_option maxRecDepth 20000 in
theorem ggX6_canBy_X6_canElse : GoodIn wsX6_canBy wsX6_canElse := goodIn_r _ [6, 1, 7, 8, 9, 5, 10, 11, 12, 13, 14, 18, 19, 20, 21, 22, 23, 24, 25, 26, 27, 28, 29, 30, 31, 32, 33, 34, 35, 36, 37, 38, 39, 40, 41, 42, 43] (by decide +kernel) (by decide +kernel)
set_option maxRecDepth 20000 in
theorem gX6_canBy_X6_canElse : GoodIn wsX6_canBy (wsV RX6 175 RX6 yX6_canElse wsX6_canElse) := goodIn_app (goodIn_of _ (by decide +kernel)) ggX6_canBy_X6_canElse
set_option maxRecDepth 20000 in
theorem ggX6_canBy_X6_has : GoodIn wsX6_canBy wsX6_has := goodIn_r _ [17] (by decide +kernel) (by decide +kernel)
set_option maxRecDepth 20000 in
theorem gX6_canBy_X6_has : GoodIn wsX6_canBy (va_wsS RX6 178 yX6_has wsX6_has) := goodIn_app (goodIn_of _ (by decide +kernel)) ggX6_canBy_X6_has
theorem dX6_canBy_0 : decode cX6_canBy 0 = .ok (.aload_n 0, 1) := by decide +kernel
theorem dX6_canBy_1 : decode cX6_canBy 1 = .ok (.iload_n 1, 1) := by decide +kernel
theorem dX6_canBy_2 : decode cX6_canBy 2 = .ok (.iload_n 2, 1) := by decide +kernel
theorem dX6_canBy_3 : decode cX6_canBy 3 = .ok (.invokevirtual 175, 3) := by decide +kernel
theorem dX6_canBy_6 : decode cX6_canBy 6 = .ok (.ifCond .eq 30, 3) := by decide +kernel
theorem dX6_canBy_9 : decode cX6_canBy 9 = .ok (.iload_n 3, 1) := by decide +kernel
theorem dX6_canBy_10 : decode cX6_canBy 10 = .ok (.iload_n 2, 1) := by decide +kernel
theorem dX6_canBy_11 : decode cX6_canBy 11 = .ok (.invokestatic 178, 3) := by decide +kernel
theorem dX6_canBy_14 : decode cX6_canBy 14 = .ok (.ifCond .eq 18, 3) := by decide +kernel
theorem dX6_canBy_17 : decode cX6_canBy 17 = .ok (.aload_n 0, 1) := by decide +kernel
theorem dX6_canBy_18 : decode cX6_canBy 18 = .ok (.getfield 36, 3) := by decide +kernel
theorem dX6_canBy_21 : decode cX6_canBy 21 = .ok (.bipush 6, 2) := by decide +kernel
theorem dX6_canBy_23 : decode cX6_canBy 23 = .ok (.iload_n 2, 1) := by decide +kernel
theorem dX6_canBy_24 : decode cX6_canBy 24 = .ok (.imul, 1) := by decide +kernel
theorem dX6_canBy_25 : decode cX6_canBy 25 = .ok (.iconst 2, 1) := by decide +kernel
theorem dX6_canBy_26 : decode cX6_canBy 26 = .ok (.iadd, 1) := by decide +kernel
theorem dX6_canBy_27 : decode cX6_canBy 27 = .ok (.iaload, 1) := by decide +kernel
theorem dX6_canBy_28 : decode cX6_canBy 28 = .ok (.iload_n 1, 1) := by decide +kernel
theorem dX6_canBy_29 : decode cX6_canBy 29 = .ok (.if_icmp .ne 7, 3) := by decide +kernel
theorem dX6_canBy_32 : decode cX6_canBy 32 = .ok (.iconst 1, 1) := by decide +kernel
theorem dX6_canBy_33 : decode cX6_canBy 33 = .ok (.goto 4, 3) := by decide +kernel
theorem dX6_canBy_36 : decode cX6_canBy 36 = .ok (.iconst 0, 1) := by decide +kernel
theorem dX6_canBy_37 : decode cX6_canBy 37 = .ok (.ireturn, 1) := by decide +kernel
theorem dX6_forbiddenNow_0 : decode cX6_forbiddenNow 0 = .ok (.iconst 0, 1) := by decide +kernel
theorem dX6_forbiddenNow_1 : decode cX6_forbiddenNow 1 = .ok (.istore_n 1, 1) := by decide +kernel
theorem dX6_forbiddenNow_2 : decode cX6_forbiddenNow 2 = .ok (.iconst 0, 1) := by decide +kernel
theorem dX6_forbiddenNow_3 : decode cX6_forbiddenNow 3 = .ok (.istore_n 2, 1) := by decide +kernel
theorem dX6_forbiddenNow_4 : decode cX6_forbiddenNow 4 = .ok (.iload_n 2, 1) := by decide +kernel
theorem dX6_forbiddenNow_5 : decode cX6_forbiddenNow 5 = .ok (.aload_n 0, 1) := by decide +kernel
theorem dX6_forbiddenNow_6 : decode cX6_forbiddenNow 6 = .ok (.getfield 131, 3) := by decide +kernel
theorem dX6_forbiddenNow_9 : decode cX6_forbiddenNow 9 = .ok (.if_icmp .ge 25, 3) := by decide +kernel
theorem dX6_forbiddenNow_12 : decode cX6_forbiddenNow 12 = .ok (.iload_n 1, 1) := by decide +kernel
theorem dX6_forbiddenNow_13 : decode cX6_forbiddenNow 13 = .ok (.aload_n 0, 1) := by decide +kernel
theorem dX6_forbiddenNow_14 : decode cX6_forbiddenNow 14 = .ok (.getfield 36, 3) := by decide +kernel
theorem dX6_forbiddenNow_17 : decode cX6_forbiddenNow 17 = .ok (.bipush 6, 2) := by decide +kernel
theorem dX6_forbiddenNow_19 : decode cX6_forbiddenNow 19 = .ok (.iload_n 2, 1) := by decide +kernel
theorem dX6_forbiddenNow_20 : decode cX6_forbiddenNow 20 = .ok (.imul, 1) := by decide +kernel
theorem dX6_forbiddenNow_21 : decode cX6_forbiddenNow 21 = .ok (.iconst 5, 1) := by decide +kernel
theorem dX6_forbiddenNow_22 : decode cX6_forbiddenNow 22 = .ok (.iadd, 1) := by decide +kernel
theorem dX6_forbiddenNow_23 : decode cX6_forbiddenNow 23 = .ok (.iaload, 1) := by decide +kernel
theorem dX6_forbiddenNow_24 : decode cX6_forbiddenNow 24 = .ok (.iload_n 2, 1) := by decide +kernel
theorem dX6_forbiddenNow_25 : decode cX6_forbiddenNow 25 = .ok (.ishl, 1) := by decide +kernel
theorem dX6_forbiddenNow_26 : decode cX6_forbiddenNow 26 = .ok (.ior, 1) := by decide +kernel
theorem dX6_forbiddenNow_27 : decode cX6_forbiddenNow 27 = .ok (.istore_n 1, 1) := by decide +kernel
theorem dX6_forbiddenNow_28 : decode cX6_forbiddenNow 28 = .ok (.iinc 2 1, 3) := by decide +kernel
theorem dX6_forbiddenNow_31 : decode cX6_forbiddenNow 31 = .ok (.goto (-27), 3) := by decide +kernel
theorem dX6_forbiddenNow_34 : decode cX6_forbiddenNow 34 = .ok (.iload_n 1, 1) := by decide +kernel
theorem dX6_forbiddenNow_35 : decode cX6_forbiddenNow 35 = .ok (.ireturn, 1) := by decide +kernel
set_option maxRecDepth 20000 in
theorem ggX6_can_X6_canBy : GoodIn wsX6_can wsX6_canBy := goodIn_r _ [6, 1, 7, 8, 9, 5, 10, 11, 12, 13, 14, 15, 16, 17, 18, 19, 20, 21, 22, 23, 24, 25, 26, 27, 28, 29, 30, 31, 32, 33, 34, 35, 36, 37, 38, 39, 40, 41, 42, 43, 44, 45, 46, 47] (by decide +kernel) (by decide +kernel)
set_option maxRecDepth 20000 in
theorem gX6_can_X6_canBy : GoodIn wsX6_can (wsV RX6 181 RX6 yX6_canBy wsX6_canBy) := goodIn_app (goodIn_of _ (by decide +kernel)) ggX6_can_X6_canBy
theorem dX6_can_0 : decode cX6_can 0 = .ok (.aload_n 0, 1) := by decide +kernel
theorem dX6_can_1 : decode cX6_can 1 = .ok (.iload_n 1, 1) := by decide +kernel
theorem dX6_can_2 : decode cX6_can 2 = .ok (.iload_n 2, 1) := by decide +kernel
theorem dX6_can_3 : decode cX6_can 3 = .ok (.aload_n 0, 1) := by decide +kernel
theorem dX6_can_4 : decode cX6_can 4 = .ok (.getfield 36, 3) := by decide +kernel
theorem dX6_can_7 : decode cX6_can 7 = .ok (.bipush 6, 2) := by decide +kernel
theorem dX6_can_9 : decode cX6_can 9 = .ok (.iload_n 2, 1) := by decide +kernel
theorem dX6_can_10 : decode cX6_can 10 = .ok (.imul, 1) := by decide +kernel
theorem dX6_can_11 : decode cX6_can 11 = .ok (.iconst 5, 1) := by decide +kernel
theorem dX6_can_12 : decode cX6_can 12 = .ok (.iadd, 1) := by decide +kernel
theorem dX6_can_13 : decode cX6_can 13 = .ok (.iaload, 1) := by decide +kernel
theorem dX6_can_14 : decode cX6_can 14 = .ok (.iload_n 2, 1) := by decide +kernel
theorem dX6_can_15 : decode cX6_can 15 = .ok (.ishl, 1) := by decide +kernel
theorem dX6_can_16 : decode cX6_can 16 = .ok (.invokevirtual 181, 3) := by decide +kernel
theorem dX6_can_19 : decode cX6_can 19 = .ok (.ireturn, 1) := by decide +kernel
set_option maxRecDepth 20000 in
theorem ggX6_as_X6_isDeed : GoodIn wsX6_as wsX6_isDeed := goodIn_r _ [8, 9, 10, 11, 7, 12, 36, 37, 38, 39, 40, 41, 42, 43, 44, 45, 46, 47, 48, 49, 50, 51, 52, 53, 54, 55, 56, 57, 58, 59, 60, 61] (by decide +kernel) (by decide +kernel)
set_option maxRecDepth 20000 in
theorem gX6_as_X6_isDeed : GoodIn wsX6_as (wsV RX6 163 RX6 yX6_isDeed wsX6_isDeed) := goodIn_app (goodIn_of _ (by decide +kernel)) ggX6_as_X6_isDeed
set_option maxRecDepth 20000 in
theorem ggX6_as_X6_in : GoodIn wsX6_as wsX6_in := goodIn_r _ [12] (by decide +kernel) (by decide +kernel)
set_option maxRecDepth 20000 in
theorem gX6_as_X6_in : GoodIn wsX6_as (va_wsS RX6 56 yX6_in wsX6_in) := goodIn_app (goodIn_of _ (by decide +kernel)) ggX6_as_X6_in
set_option maxRecDepth 20000 in
theorem ggX6_as_X6_can : GoodIn wsX6_as wsX6_can := goodIn_r _ [16, 2, 17, 18, 19, 7, 20, 21, 22, 23, 24, 25, 26, 27, 28, 29, 30, 31, 32, 33, 34, 35, 36, 37, 38, 39, 40, 41, 42, 43, 44, 45, 46, 47, 48, 49, 50, 51, 52, 53, 54, 55, 56, 57, 58, 59, 60, 61] (by decide +kernel) (by decide +kernel)
set_option maxRecDepth 20000 in
theorem gX6_as_X6_can : GoodIn wsX6_as (wsV RX6 142 RX6 yX6_can wsX6_can) := goodIn_app (goodIn_of _ (by decide +kernel)) ggX6_as_X6_can
theorem dX6_as_0 : decode cX6_as 0 = .ok (.aload_n 0, 1) := by decide +kernel
theorem dX6_as_1 : decode cX6_as 1 = .ok (.iload_n 1, 1) := by decide +kernel
theorem dX6_as_2 : decode cX6_as 2 = .ok (.invokevirtual 163, 3) := by decide +kernel
theorem dX6_as_5 : decode cX6_as 5 = .ok (.ifCond .ne 6, 3) := by decide +kernel
theorem dX6_as_8 : decode cX6_as 8 = .ok (.bipush (-2), 2) := by decide +kernel
theorem dX6_as_10 : decode cX6_as 10 = .ok (.ireturn, 1) := by decide +kernel
theorem dX6_as_11 : decode cX6_as 11 = .ok (.iload_n 2, 1) := by decide +kernel
theorem dX6_as_12 : decode cX6_as 12 = .ok (.i2l, 1) := by decide +kernel
theorem dX6_as_13 : decode cX6_as 13 = .ok (.lconst 0, 1) := by decide +kernel
theorem dX6_as_14 : decode cX6_as 14 = .ok (.ldc2_w 117, 3) := by decide +kernel
theorem dX6_as_17 : decode cX6_as 17 = .ok (.invokestatic 56, 3) := by decide +kernel
theorem dX6_as_20 : decode cX6_as 20 = .ok (.ifCond .ne 6, 3) := by decide +kernel
theorem dX6_as_23 : decode cX6_as 23 = .ok (.bipush (-3), 2) := by decide +kernel
theorem dX6_as_25 : decode cX6_as 25 = .ok (.ireturn, 1) := by decide +kernel
theorem dX6_as_26 : decode cX6_as 26 = .ok (.aload_n 0, 1) := by decide +kernel
theorem dX6_as_27 : decode cX6_as 27 = .ok (.getfield 36, 3) := by decide +kernel
theorem dX6_as_30 : decode cX6_as 30 = .ok (.bipush 6, 2) := by decide +kernel
theorem dX6_as_32 : decode cX6_as 32 = .ok (.iload_n 1, 1) := by decide +kernel
theorem dX6_as_33 : decode cX6_as 33 = .ok (.imul, 1) := by decide +kernel
theorem dX6_as_34 : decode cX6_as 34 = .ok (.iconst 0, 1) := by decide +kernel
theorem dX6_as_35 : decode cX6_as 35 = .ok (.iadd, 1) := by decide +kernel
theorem dX6_as_36 : decode cX6_as 36 = .ok (.iaload, 1) := by decide +kernel
theorem dX6_as_37 : decode cX6_as 37 = .ok (.istore_n 3, 1) := by decide +kernel
theorem dX6_as_38 : decode cX6_as 38 = .ok (.iload_n 2, 1) := by decide +kernel
theorem dX6_as_39 : decode cX6_as 39 = .ok (.ifCond .eq 41, 3) := by decide +kernel
theorem dX6_as_42 : decode cX6_as 42 = .ok (.iload_n 2, 1) := by decide +kernel
theorem dX6_as_43 : decode cX6_as 43 = .ok (.iconst 1, 1) := by decide +kernel
theorem dX6_as_44 : decode cX6_as 44 = .ok (.if_icmp .ne 7, 3) := by decide +kernel
theorem dX6_as_47 : decode cX6_as 47 = .ok (.iload_n 3, 1) := by decide +kernel
theorem dX6_as_48 : decode cX6_as 48 = .ok (.ifCond .eq 32, 3) := by decide +kernel
theorem dX6_as_51 : decode cX6_as 51 = .ok (.iload_n 2, 1) := by decide +kernel
theorem dX6_as_52 : decode cX6_as 52 = .ok (.iconst 2, 1) := by decide +kernel
theorem dX6_as_53 : decode cX6_as 53 = .ok (.if_icmp .ne 7, 3) := by decide +kernel
theorem dX6_as_56 : decode cX6_as 56 = .ok (.iload_n 3, 1) := by decide +kernel
theorem dX6_as_57 : decode cX6_as 57 = .ok (.ifCond .ne 23, 3) := by decide +kernel
theorem dX6_as_60 : decode cX6_as 60 = .ok (.iload_n 2, 1) := by decide +kernel
theorem dX6_as_61 : decode cX6_as 61 = .ok (.iconst 3, 1) := by decide +kernel
theorem dX6_as_62 : decode cX6_as 62 = .ok (.if_icmp .ne 8, 3) := by decide +kernel
theorem dX6_as_65 : decode cX6_as 65 = .ok (.iload_n 3, 1) := by decide +kernel
theorem dX6_as_66 : decode cX6_as 66 = .ok (.iconst 2, 1) := by decide +kernel
theorem dX6_as_67 : decode cX6_as 67 = .ok (.if_icmp .eq 13, 3) := by decide +kernel
theorem dX6_as_70 : decode cX6_as 70 = .ok (.iload_n 2, 1) := by decide +kernel
theorem dX6_as_71 : decode cX6_as 71 = .ok (.iconst 4, 1) := by decide +kernel
theorem dX6_as_72 : decode cX6_as 72 = .ok (.if_icmp .ne 12, 3) := by decide +kernel
theorem dX6_as_75 : decode cX6_as 75 = .ok (.iload_n 3, 1) := by decide +kernel
theorem dX6_as_76 : decode cX6_as 76 = .ok (.iconst 2, 1) := by decide +kernel
theorem dX6_as_77 : decode cX6_as 77 = .ok (.if_icmp .le 7, 3) := by decide +kernel
theorem dX6_as_80 : decode cX6_as 80 = .ok (.iconst 1, 1) := by decide +kernel
theorem dX6_as_81 : decode cX6_as 81 = .ok (.goto 4, 3) := by decide +kernel
theorem dX6_as_84 : decode cX6_as 84 = .ok (.iconst 0, 1) := by decide +kernel
theorem dX6_as_85 : decode cX6_as 85 = .ok (.istore 4, 2) := by decide +kernel
theorem dX6_as_87 : decode cX6_as 87 = .ok (.iload 4, 2) := by decide +kernel
theorem dX6_as_89 : decode cX6_as 89 = .ok (.ifCond .ne 6, 3) := by decide +kernel
theorem dX6_as_92 : decode cX6_as 92 = .ok (.bipush (-4), 2) := by decide +kernel
theorem dX6_as_94 : decode cX6_as 94 = .ok (.ireturn, 1) := by decide +kernel
theorem dX6_as_95 : decode cX6_as 95 = .ok (.iconst 0, 1) := by decide +kernel
theorem dX6_as_96 : decode cX6_as 96 = .ok (.istore 5, 2) := by decide +kernel
theorem dX6_as_98 : decode cX6_as 98 = .ok (.iconst 0, 1) := by decide +kernel
theorem dX6_as_99 : decode cX6_as 99 = .ok (.istore 6, 2) := by decide +kernel
theorem dX6_as_101 : decode cX6_as 101 = .ok (.iload 6, 2) := by decide +kernel
theorem dX6_as_103 : decode cX6_as 103 = .ok (.aload_n 0, 1) := by decide +kernel
theorem dX6_as_104 : decode cX6_as 104 = .ok (.getfield 23, 3) := by decide +kernel
theorem dX6_as_107 : decode cX6_as 107 = .ok (.if_icmp .ge 32, 3) := by decide +kernel
theorem dX6_as_110 : decode cX6_as 110 = .ok (.iload 5, 2) := by decide +kernel
theorem dX6_as_112 : decode cX6_as 112 = .ok (.aload_n 0, 1) := by decide +kernel
theorem dX6_as_113 : decode cX6_as 113 = .ok (.iload 6, 2) := by decide +kernel
theorem dX6_as_115 : decode cX6_as 115 = .ok (.iload_n 1, 1) := by decide +kernel
theorem dX6_as_116 : decode cX6_as 116 = .ok (.invokevirtual 142, 3) := by decide +kernel
theorem dX6_as_119 : decode cX6_as 119 = .ok (.ifCond .eq 10, 3) := by decide +kernel
theorem dX6_as_122 : decode cX6_as 122 = .ok (.iconst 1, 1) := by decide +kernel
theorem dX6_as_123 : decode cX6_as 123 = .ok (.iload 6, 2) := by decide +kernel
theorem dX6_as_125 : decode cX6_as 125 = .ok (.ishl, 1) := by decide +kernel
theorem dX6_as_126 : decode cX6_as 126 = .ok (.goto 4, 3) := by decide +kernel
theorem dX6_as_129 : decode cX6_as 129 = .ok (.iconst 0, 1) := by decide +kernel
theorem dX6_as_130 : decode cX6_as 130 = .ok (.ior, 1) := by decide +kernel
theorem dX6_as_131 : decode cX6_as 131 = .ok (.istore 5, 2) := by decide +kernel
theorem dX6_as_133 : decode cX6_as 133 = .ok (.iinc 6 1, 3) := by decide +kernel
theorem dX6_as_136 : decode cX6_as 136 = .ok (.goto (-35), 3) := by decide +kernel
theorem dX6_as_139 : decode cX6_as 139 = .ok (.iload 5, 2) := by decide +kernel
theorem dX6_as_141 : decode cX6_as 141 = .ok (.ireturn, 1) := by decide +kernel
set_option maxRecDepth 20000 in
theorem ggX6_set_X6_isHouse : GoodIn wsX6_set wsX6_isHouse := goodIn_r _ [6, 7, 8, 9, 5, 10, 40, 41, 42, 43, 44, 45, 46, 47, 48, 49, 50, 51, 52, 53, 54, 55, 56, 57, 58, 59, 60, 61, 62, 63, 64, 65] (by decide +kernel) (by decide +kernel)
set_option maxRecDepth 20000 in
theorem gX6_set_X6_isHouse : GoodIn wsX6_set (wsV RX6 160 RX6 yX6_isHouse wsX6_isHouse) := goodIn_app (goodIn_of _ (by decide +kernel)) ggX6_set_X6_isHouse
set_option maxRecDepth 20000 in
theorem ggX6_set_X6_isDeed : GoodIn wsX6_set wsX6_isDeed := goodIn_r _ [14, 15, 8, 9, 5, 10, 40, 41, 42, 43, 44, 45, 46, 47, 48, 49, 50, 51, 52, 53, 54, 55, 56, 57, 58, 59, 60, 61, 62, 63, 64, 65] (by decide +kernel) (by decide +kernel)
set_option maxRecDepth 20000 in
theorem gX6_set_X6_isDeed : GoodIn wsX6_set (wsV RX6 163 RX6 yX6_isDeed wsX6_isDeed) := goodIn_app (goodIn_of _ (by decide +kernel)) ggX6_set_X6_isDeed
set_option maxRecDepth 20000 in
theorem ggX6_set_X6_can : GoodIn wsX6_set wsX6_can := goodIn_r _ [19, 20, 21, 22, 23, 5, 24, 25, 26, 27, 28, 29, 30, 31, 32, 33, 34, 35, 36, 37, 38, 39, 40, 41, 42, 43, 44, 45, 46, 47, 48, 49, 50, 51, 52, 53, 54, 55, 56, 57, 58, 59, 60, 61, 62, 63, 64, 65] (by decide +kernel) (by decide +kernel)
set_option maxRecDepth 20000 in
theorem gX6_set_X6_can : GoodIn wsX6_set (wsV RX6 142 RX6 yX6_can wsX6_can) := goodIn_app (goodIn_of _ (by decide +kernel)) ggX6_set_X6_can
theorem dX6_set_0 : decode cX6_set 0 = .ok (.aload_n 0, 1) := by decide +kernel
theorem dX6_set_1 : decode cX6_set 1 = .ok (.iload_n 1, 1) := by decide +kernel
theorem dX6_set_2 : decode cX6_set 2 = .ok (.invokevirtual 160, 3) := by decide +kernel
theorem dX6_set_5 : decode cX6_set 5 = .ok (.ifCond .eq 16, 3) := by decide +kernel
theorem dX6_set_8 : decode cX6_set 8 = .ok (.iload_n 2, 1) := by decide +kernel
theorem dX6_set_9 : decode cX6_set 9 = .ok (.iconst (-1), 1) := by decide +kernel
theorem dX6_set_10 : decode cX6_set 10 = .ok (.if_icmp .eq 14, 3) := by decide +kernel
theorem dX6_set_13 : decode cX6_set 13 = .ok (.aload_n 0, 1) := by decide +kernel
theorem dX6_set_14 : decode cX6_set 14 = .ok (.iload_n 2, 1) := by decide +kernel
theorem dX6_set_15 : decode cX6_set 15 = .ok (.invokevirtual 163, 3) := by decide +kernel
theorem dX6_set_18 : decode cX6_set 18 = .ok (.ifCond .ne 6, 3) := by decide +kernel
theorem dX6_set_21 : decode cX6_set 21 = .ok (.bipush (-2), 2) := by decide +kernel
theorem dX6_set_23 : decode cX6_set 23 = .ok (.ireturn, 1) := by decide +kernel
theorem dX6_set_24 : decode cX6_set 24 = .ok (.iload_n 2, 1) := by decide +kernel
theorem dX6_set_25 : decode cX6_set 25 = .ok (.iconst (-1), 1) := by decide +kernel
theorem dX6_set_26 : decode cX6_set 26 = .ok (.if_icmp .eq 15, 3) := by decide +kernel
theorem dX6_set_29 : decode cX6_set 29 = .ok (.aload_n 0, 1) := by decide +kernel
theorem dX6_set_30 : decode cX6_set 30 = .ok (.iload_n 1, 1) := by decide +kernel
theorem dX6_set_31 : decode cX6_set 31 = .ok (.iload_n 2, 1) := by decide +kernel
theorem dX6_set_32 : decode cX6_set 32 = .ok (.invokevirtual 142, 3) := by decide +kernel
theorem dX6_set_35 : decode cX6_set 35 = .ok (.ifCond .ne 6, 3) := by decide +kernel
theorem dX6_set_38 : decode cX6_set 38 = .ok (.bipush (-4), 2) := by decide +kernel
theorem dX6_set_40 : decode cX6_set 40 = .ok (.ireturn, 1) := by decide +kernel
theorem dX6_set_41 : decode cX6_set 41 = .ok (.aload_n 0, 1) := by decide +kernel
theorem dX6_set_42 : decode cX6_set 42 = .ok (.getfield 7, 3) := by decide +kernel
theorem dX6_set_45 : decode cX6_set 45 = .ok (.iload_n 1, 1) := by decide +kernel
theorem dX6_set_46 : decode cX6_set 46 = .ok (.iaload, 1) := by decide +kernel
theorem dX6_set_47 : decode cX6_set 47 = .ok (.istore_n 3, 1) := by decide +kernel
theorem dX6_set_48 : decode cX6_set 48 = .ok (.aload_n 0, 1) := by decide +kernel
theorem dX6_set_49 : decode cX6_set 49 = .ok (.getfield 7, 3) := by decide +kernel
theorem dX6_set_52 : decode cX6_set 52 = .ok (.iload_n 1, 1) := by decide +kernel
theorem dX6_set_53 : decode cX6_set 53 = .ok (.iload_n 2, 1) := by decide +kernel
theorem dX6_set_54 : decode cX6_set 54 = .ok (.iastore, 1) := by decide +kernel
theorem dX6_set_55 : decode cX6_set 55 = .ok (.iload_n 3, 1) := by decide +kernel
theorem dX6_set_56 : decode cX6_set 56 = .ok (.ireturn, 1) := by decide +kernel
set_option maxRecDepth 20000 in
theorem ggX6_layNext_X6_canBy : GoodIn wsX6_layNext wsX6_canBy := goodIn_r _ [8, 9, 10, 11, 12, 7, 13, 14, 15, 16, 17, 18, 19, 20, 21, 22, 23, 24, 25, 26, 27, 28, 29, 30, 31, 32, 33, 34, 35, 36, 37, 38, 39, 40, 41, 42, 43, 44, 45, 46, 47, 48, 49, 50] (by decide +kernel) (by decide +kernel)
set_option maxRecDepth 20000 in
theorem gX6_layNext_X6_canBy : GoodIn wsX6_layNext (wsV RX6 181 RX6 yX6_canBy wsX6_canBy) := goodIn_app (goodIn_of _ (by decide +kernel)) ggX6_layNext_X6_canBy
theorem dX6_layNext_0 : decode cX6_layNext 0 = .ok (.iconst 0, 1) := by decide +kernel
theorem dX6_layNext_1 : decode cX6_layNext 1 = .ok (.istore_n 3, 1) := by decide +kernel
theorem dX6_layNext_2 : decode cX6_layNext 2 = .ok (.iload_n 3, 1) := by decide +kernel
theorem dX6_layNext_3 : decode cX6_layNext 3 = .ok (.aload_n 0, 1) := by decide +kernel
theorem dX6_layNext_4 : decode cX6_layNext 4 = .ok (.getfield 23, 3) := by decide +kernel
theorem dX6_layNext_7 : decode cX6_layNext 7 = .ok (.if_icmp .ge 78, 3) := by decide +kernel
theorem dX6_layNext_10 : decode cX6_layNext 10 = .ok (.aload_n 0, 1) := by decide +kernel
theorem dX6_layNext_11 : decode cX6_layNext 11 = .ok (.getfield 27, 3) := by decide +kernel
theorem dX6_layNext_14 : decode cX6_layNext 14 = .ok (.iload_n 3, 1) := by decide +kernel
theorem dX6_layNext_15 : decode cX6_layNext 15 = .ok (.iaload, 1) := by decide +kernel
theorem dX6_layNext_16 : decode cX6_layNext 16 = .ok (.iconst (-1), 1) := by decide +kernel
theorem dX6_layNext_17 : decode cX6_layNext 17 = .ok (.if_icmp .ne 7, 3) := by decide +kernel
theorem dX6_layNext_20 : decode cX6_layNext 20 = .ok (.iconst (-1), 1) := by decide +kernel
theorem dX6_layNext_21 : decode cX6_layNext 21 = .ok (.goto 19, 3) := by decide +kernel
theorem dX6_layNext_24 : decode cX6_layNext 24 = .ok (.aload_n 0, 1) := by decide +kernel
theorem dX6_layNext_25 : decode cX6_layNext 25 = .ok (.getfield 39, 3) := by decide +kernel
theorem dX6_layNext_28 : decode cX6_layNext 28 = .ok (.bipush 8, 2) := by decide +kernel
theorem dX6_layNext_30 : decode cX6_layNext 30 = .ok (.iload_n 1, 1) := by decide +kernel
theorem dX6_layNext_31 : decode cX6_layNext 31 = .ok (.imul, 1) := by decide +kernel
theorem dX6_layNext_32 : decode cX6_layNext 32 = .ok (.aload_n 0, 1) := by decide +kernel
theorem dX6_layNext_33 : decode cX6_layNext 33 = .ok (.getfield 27, 3) := by decide +kernel
theorem dX6_layNext_36 : decode cX6_layNext 36 = .ok (.iload_n 3, 1) := by decide +kernel
theorem dX6_layNext_37 : decode cX6_layNext 37 = .ok (.iaload, 1) := by decide +kernel
theorem dX6_layNext_38 : decode cX6_layNext 38 = .ok (.iadd, 1) := by decide +kernel
theorem dX6_layNext_39 : decode cX6_layNext 39 = .ok (.iaload, 1) := by decide +kernel
theorem dX6_layNext_40 : decode cX6_layNext 40 = .ok (.istore 4, 2) := by decide +kernel
theorem dX6_layNext_42 : decode cX6_layNext 42 = .ok (.aload_n 0, 1) := by decide +kernel
theorem dX6_layNext_43 : decode cX6_layNext 43 = .ok (.getfield 39, 3) := by decide +kernel
theorem dX6_layNext_46 : decode cX6_layNext 46 = .ok (.bipush 8, 2) := by decide +kernel
theorem dX6_layNext_48 : decode cX6_layNext 48 = .ok (.iload_n 1, 1) := by decide +kernel
theorem dX6_layNext_49 : decode cX6_layNext 49 = .ok (.imul, 1) := by decide +kernel
theorem dX6_layNext_50 : decode cX6_layNext 50 = .ok (.bipush 8, 2) := by decide +kernel
theorem dX6_layNext_52 : decode cX6_layNext 52 = .ok (.iadd, 1) := by decide +kernel
theorem dX6_layNext_53 : decode cX6_layNext 53 = .ok (.iload_n 3, 1) := by decide +kernel
theorem dX6_layNext_54 : decode cX6_layNext 54 = .ok (.iadd, 1) := by decide +kernel
theorem dX6_layNext_55 : decode cX6_layNext 55 = .ok (.iload 4, 2) := by decide +kernel
theorem dX6_layNext_57 : decode cX6_layNext 57 = .ok (.iconst (-1), 1) := by decide +kernel
theorem dX6_layNext_58 : decode cX6_layNext 58 = .ok (.if_icmp .eq 19, 3) := by decide +kernel
theorem dX6_layNext_61 : decode cX6_layNext 61 = .ok (.aload_n 0, 1) := by decide +kernel
theorem dX6_layNext_62 : decode cX6_layNext 62 = .ok (.iload_n 3, 1) := by decide +kernel
theorem dX6_layNext_63 : decode cX6_layNext 63 = .ok (.iload 4, 2) := by decide +kernel
theorem dX6_layNext_65 : decode cX6_layNext 65 = .ok (.iload_n 2, 1) := by decide +kernel
theorem dX6_layNext_66 : decode cX6_layNext 66 = .ok (.invokevirtual 181, 3) := by decide +kernel
theorem dX6_layNext_69 : decode cX6_layNext 69 = .ok (.ifCond .eq 8, 3) := by decide +kernel
theorem dX6_layNext_72 : decode cX6_layNext 72 = .ok (.iload 4, 2) := by decide +kernel
theorem dX6_layNext_74 : decode cX6_layNext 74 = .ok (.goto 4, 3) := by decide +kernel
theorem dX6_layNext_77 : decode cX6_layNext 77 = .ok (.iconst (-1), 1) := by decide +kernel
theorem dX6_layNext_78 : decode cX6_layNext 78 = .ok (.iastore, 1) := by decide +kernel
theorem dX6_layNext_79 : decode cX6_layNext 79 = .ok (.iinc 3 1, 3) := by decide +kernel
theorem dX6_layNext_82 : decode cX6_layNext 82 = .ok (.goto (-80), 3) := by decide +kernel
theorem dX6_layNext_85 : decode cX6_layNext 85 = .ok (.return_, 1) := by decide +kernel
set_option maxRecDepth 20000 in
theorem ggX6_layDays_X6_layNext : GoodIn wsX6_layDays wsX6_layNext := goodIn_r _ [8, 1, 9, 2, 10, 11, 12, 7, 13, 14, 15, 16, 17, 18, 19, 20, 21, 22, 23, 24, 25, 26, 27, 28, 29, 30, 31, 32, 33, 34, 35, 36, 37, 38, 39, 40, 41, 42, 43, 44, 45, 46, 47, 48, 49, 50, 51, 52, 53, 54, 55] (by decide +kernel) (by decide +kernel)
set_option maxRecDepth 20000 in
theorem gX6_layDays_X6_layNext : GoodIn wsX6_layDays (wsV RX6 185 RX6 yX6_layNext wsX6_layNext) := goodIn_app (goodIn_of _ (by decide +kernel)) ggX6_layDays_X6_layNext
theorem dX6_layDays_0 : decode cX6_layDays 0 = .ok (.iconst 0, 1) := by decide +kernel
theorem dX6_layDays_1 : decode cX6_layDays 1 = .ok (.istore_n 3, 1) := by decide +kernel
theorem dX6_layDays_2 : decode cX6_layDays 2 = .ok (.iload_n 3, 1) := by decide +kernel
theorem dX6_layDays_3 : decode cX6_layDays 3 = .ok (.aload_n 0, 1) := by decide +kernel
theorem dX6_layDays_4 : decode cX6_layDays 4 = .ok (.getfield 23, 3) := by decide +kernel
theorem dX6_layDays_7 : decode cX6_layDays 7 = .ok (.if_icmp .ge 21, 3) := by decide +kernel
theorem dX6_layDays_10 : decode cX6_layDays 10 = .ok (.aload_n 0, 1) := by decide +kernel
theorem dX6_layDays_11 : decode cX6_layDays 11 = .ok (.getfield 39, 3) := by decide +kernel
theorem dX6_layDays_14 : decode cX6_layDays 14 = .ok (.iload_n 3, 1) := by decide +kernel
theorem dX6_layDays_15 : decode cX6_layDays 15 = .ok (.aload_n 0, 1) := by decide +kernel
theorem dX6_layDays_16 : decode cX6_layDays 16 = .ok (.getfield 7, 3) := by decide +kernel
theorem dX6_layDays_19 : decode cX6_layDays 19 = .ok (.iload_n 3, 1) := by decide +kernel
theorem dX6_layDays_20 : decode cX6_layDays 20 = .ok (.iaload, 1) := by decide +kernel
theorem dX6_layDays_21 : decode cX6_layDays 21 = .ok (.iastore, 1) := by decide +kernel
theorem dX6_layDays_22 : decode cX6_layDays 22 = .ok (.iinc 3 1, 3) := by decide +kernel
theorem dX6_layDays_25 : decode cX6_layDays 25 = .ok (.goto (-23), 3) := by decide +kernel
theorem dX6_layDays_28 : decode cX6_layDays 28 = .ok (.iconst 0, 1) := by decide +kernel
theorem dX6_layDays_29 : decode cX6_layDays 29 = .ok (.istore_n 3, 1) := by decide +kernel
theorem dX6_layDays_30 : decode cX6_layDays 30 = .ok (.iload_n 3, 1) := by decide +kernel
theorem dX6_layDays_31 : decode cX6_layDays 31 = .ok (.iload_n 1, 1) := by decide +kernel
theorem dX6_layDays_32 : decode cX6_layDays 32 = .ok (.if_icmp .ge 15, 3) := by decide +kernel
theorem dX6_layDays_35 : decode cX6_layDays 35 = .ok (.aload_n 0, 1) := by decide +kernel
theorem dX6_layDays_36 : decode cX6_layDays 36 = .ok (.iload_n 3, 1) := by decide +kernel
theorem dX6_layDays_37 : decode cX6_layDays 37 = .ok (.iload_n 2, 1) := by decide +kernel
theorem dX6_layDays_38 : decode cX6_layDays 38 = .ok (.invokevirtual 185, 3) := by decide +kernel
theorem dX6_layDays_41 : decode cX6_layDays 41 = .ok (.iinc 3 1, 3) := by decide +kernel
theorem dX6_layDays_44 : decode cX6_layDays 44 = .ok (.goto (-14), 3) := by decide +kernel
theorem dX6_layDays_47 : decode cX6_layDays 47 = .ok (.return_, 1) := by decide +kernel
set_option maxRecDepth 20000 in
theorem ggX6_go_X6_in : GoodIn wsX6_go wsX6_in := goodIn_r _ [8] (by decide +kernel) (by decide +kernel)
set_option maxRecDepth 20000 in
theorem gX6_go_X6_in : GoodIn wsX6_go (va_wsS RX6 56 yX6_in wsX6_in) := goodIn_app (goodIn_of _ (by decide +kernel)) ggX6_go_X6_in
set_option maxRecDepth 20000 in
theorem ggX6_go_X6_forbiddenNow : GoodIn wsX6_go wsX6_forbiddenNow := goodIn_r _ [12, 13, 14, 43, 44, 45, 46, 47, 48, 49, 50, 51, 52, 53, 54, 55, 56, 57, 58, 59, 60, 61, 62, 63, 64, 65, 66, 67, 68] (by decide +kernel) (by decide +kernel)
set_option maxRecDepth 20000 in
theorem gX6_go_X6_forbiddenNow : GoodIn wsX6_go (wsV RX6 191 RX6 yX6_forbiddenNow wsX6_forbiddenNow) := goodIn_app (goodIn_of _ (by decide +kernel)) ggX6_go_X6_forbiddenNow
set_option maxRecDepth 20000 in
theorem ggX6_go_X6_layDays : GoodIn wsX6_go wsX6_layDays := goodIn_r _ [18, 3, 4, 2, 19, 20, 21, 7, 22, 23, 24, 25, 26, 27, 14, 28, 29, 30, 31, 32, 33, 34, 35, 36, 37, 38, 39, 40, 41, 42, 43, 44, 45, 46, 47, 48, 49, 50, 51, 52, 53, 54, 55, 56, 57, 58, 59, 60, 61, 62, 63, 64, 65, 66, 67, 68] (by decide +kernel) (by decide +kernel)
set_option maxRecDepth 20000 in
theorem gX6_go_X6_layDays : GoodIn wsX6_go (wsV RX6 194 RX6 yX6_layDays wsX6_layDays) := goodIn_app (goodIn_of _ (by decide +kernel)) ggX6_go_X6_layDays
theorem dX6_go_0 : decode cX6_go 0 = .ok (.iload_n 1, 1) := by decide +kernel
theorem dX6_go_1 : decode cX6_go 1 = .ok (.i2l, 1) := by decide +kernel
theorem dX6_go_2 : decode cX6_go 2 = .ok (.lconst 1, 1) := by decide +kernel
theorem dX6_go_3 : decode cX6_go 3 = .ok (.ldc2_w 189, 3) := by decide +kernel
theorem dX6_go_6 : decode cX6_go 6 = .ok (.invokestatic 56, 3) := by decide +kernel
theorem dX6_go_9 : decode cX6_go 9 = .ok (.ifCond .ne 6, 3) := by decide +kernel
theorem dX6_go_12 : decode cX6_go 12 = .ok (.bipush (-3), 2) := by decide +kernel
theorem dX6_go_14 : decode cX6_go 14 = .ok (.ireturn, 1) := by decide +kernel
theorem dX6_go_15 : decode cX6_go 15 = .ok (.aload_n 0, 1) := by decide +kernel
theorem dX6_go_16 : decode cX6_go 16 = .ok (.getfield 7, 3) := by decide +kernel
theorem dX6_go_19 : decode cX6_go 19 = .ok (.bipush 8, 2) := by decide +kernel
theorem dX6_go_21 : decode cX6_go 21 = .ok (.iaload, 1) := by decide +kernel
theorem dX6_go_22 : decode cX6_go 22 = .ok (.iload_n 1, 1) := by decide +kernel
theorem dX6_go_23 : decode cX6_go 23 = .ok (.iadd, 1) := by decide +kernel
theorem dX6_go_24 : decode cX6_go 24 = .ok (.sipush 9999, 3) := by decide +kernel
theorem dX6_go_27 : decode cX6_go 27 = .ok (.if_icmp .le 6, 3) := by decide +kernel
theorem dX6_go_30 : decode cX6_go 30 = .ok (.bipush (-5), 2) := by decide +kernel
theorem dX6_go_32 : decode cX6_go 32 = .ok (.ireturn, 1) := by decide +kernel
theorem dX6_go_33 : decode cX6_go 33 = .ok (.aload_n 0, 1) := by decide +kernel
theorem dX6_go_34 : decode cX6_go 34 = .ok (.iload_n 1, 1) := by decide +kernel
theorem dX6_go_35 : decode cX6_go 35 = .ok (.aload_n 0, 1) := by decide +kernel
theorem dX6_go_36 : decode cX6_go 36 = .ok (.invokevirtual 191, 3) := by decide +kernel
theorem dX6_go_39 : decode cX6_go 39 = .ok (.invokevirtual 194, 3) := by decide +kernel
theorem dX6_go_42 : decode cX6_go 42 = .ok (.iconst 0, 1) := by decide +kernel
theorem dX6_go_43 : decode cX6_go 43 = .ok (.istore_n 2, 1) := by decide +kernel
theorem dX6_go_44 : decode cX6_go 44 = .ok (.iload_n 2, 1) := by decide +kernel
theorem dX6_go_45 : decode cX6_go 45 = .ok (.iload_n 1, 1) := by decide +kernel
theorem dX6_go_46 : decode cX6_go 46 = .ok (.if_icmp .ge 57, 3) := by decide +kernel
theorem dX6_go_49 : decode cX6_go 49 = .ok (.iconst 0, 1) := by decide +kernel
theorem dX6_go_50 : decode cX6_go 50 = .ok (.istore_n 3, 1) := by decide +kernel
theorem dX6_go_51 : decode cX6_go 51 = .ok (.iload_n 3, 1) := by decide +kernel
theorem dX6_go_52 : decode cX6_go 52 = .ok (.aload_n 0, 1) := by decide +kernel
theorem dX6_go_53 : decode cX6_go 53 = .ok (.getfield 23, 3) := by decide +kernel
theorem dX6_go_56 : decode cX6_go 56 = .ok (.if_icmp .ge 41, 3) := by decide +kernel
theorem dX6_go_59 : decode cX6_go 59 = .ok (.aload_n 0, 1) := by decide +kernel
theorem dX6_go_60 : decode cX6_go 60 = .ok (.getfield 7, 3) := by decide +kernel
theorem dX6_go_63 : decode cX6_go 63 = .ok (.bipush 9, 2) := by decide +kernel
theorem dX6_go_65 : decode cX6_go 65 = .ok (.iload_n 3, 1) := by decide +kernel
theorem dX6_go_66 : decode cX6_go 66 = .ok (.iadd, 1) := by decide +kernel
theorem dX6_go_67 : decode cX6_go 67 = .ok (.dup2, 1) := by decide +kernel
theorem dX6_go_68 : decode cX6_go 68 = .ok (.iaload, 1) := by decide +kernel
theorem dX6_go_69 : decode cX6_go 69 = .ok (.aload_n 0, 1) := by decide +kernel
theorem dX6_go_70 : decode cX6_go 70 = .ok (.getfield 39, 3) := by decide +kernel
theorem dX6_go_73 : decode cX6_go 73 = .ok (.bipush 8, 2) := by decide +kernel
theorem dX6_go_75 : decode cX6_go 75 = .ok (.iload_n 2, 1) := by decide +kernel
theorem dX6_go_76 : decode cX6_go 76 = .ok (.imul, 1) := by decide +kernel
theorem dX6_go_77 : decode cX6_go 77 = .ok (.iload_n 3, 1) := by decide +kernel
theorem dX6_go_78 : decode cX6_go 78 = .ok (.iadd, 1) := by decide +kernel
theorem dX6_go_79 : decode cX6_go 79 = .ok (.iaload, 1) := by decide +kernel
theorem dX6_go_80 : decode cX6_go 80 = .ok (.iconst (-1), 1) := by decide +kernel
theorem dX6_go_81 : decode cX6_go 81 = .ok (.if_icmp .ne 7, 3) := by decide +kernel
theorem dX6_go_84 : decode cX6_go 84 = .ok (.iconst 0, 1) := by decide +kernel
theorem dX6_go_85 : decode cX6_go 85 = .ok (.goto 4, 3) := by decide +kernel
theorem dX6_go_88 : decode cX6_go 88 = .ok (.iconst 1, 1) := by decide +kernel
theorem dX6_go_89 : decode cX6_go 89 = .ok (.iadd, 1) := by decide +kernel
theorem dX6_go_90 : decode cX6_go 90 = .ok (.iastore, 1) := by decide +kernel
theorem dX6_go_91 : decode cX6_go 91 = .ok (.iinc 3 1, 3) := by decide +kernel
theorem dX6_go_94 : decode cX6_go 94 = .ok (.goto (-43), 3) := by decide +kernel
theorem dX6_go_97 : decode cX6_go 97 = .ok (.iinc 2 1, 3) := by decide +kernel
theorem dX6_go_100 : decode cX6_go 100 = .ok (.goto (-56), 3) := by decide +kernel
theorem dX6_go_103 : decode cX6_go 103 = .ok (.iconst 0, 1) := by decide +kernel
theorem dX6_go_104 : decode cX6_go 104 = .ok (.istore_n 2, 1) := by decide +kernel
theorem dX6_go_105 : decode cX6_go 105 = .ok (.iload_n 2, 1) := by decide +kernel
theorem dX6_go_106 : decode cX6_go 106 = .ok (.aload_n 0, 1) := by decide +kernel
theorem dX6_go_107 : decode cX6_go 107 = .ok (.getfield 23, 3) := by decide +kernel
theorem dX6_go_110 : decode cX6_go 110 = .ok (.if_icmp .ge 26, 3) := by decide +kernel
theorem dX6_go_113 : decode cX6_go 113 = .ok (.aload_n 0, 1) := by decide +kernel
theorem dX6_go_114 : decode cX6_go 114 = .ok (.getfield 7, 3) := by decide +kernel
theorem dX6_go_117 : decode cX6_go 117 = .ok (.iload_n 2, 1) := by decide +kernel
theorem dX6_go_118 : decode cX6_go 118 = .ok (.aload_n 0, 1) := by decide +kernel
theorem dX6_go_119 : decode cX6_go 119 = .ok (.getfield 39, 3) := by decide +kernel
theorem dX6_go_122 : decode cX6_go 122 = .ok (.bipush 8, 2) := by decide +kernel
theorem dX6_go_124 : decode cX6_go 124 = .ok (.iload_n 1, 1) := by decide +kernel
theorem dX6_go_125 : decode cX6_go 125 = .ok (.imul, 1) := by decide +kernel
theorem dX6_go_126 : decode cX6_go 126 = .ok (.iload_n 2, 1) := by decide +kernel
theorem dX6_go_127 : decode cX6_go 127 = .ok (.iadd, 1) := by decide +kernel
theorem dX6_go_128 : decode cX6_go 128 = .ok (.iaload, 1) := by decide +kernel
theorem dX6_go_129 : decode cX6_go 129 = .ok (.iastore, 1) := by decide +kernel
theorem dX6_go_130 : decode cX6_go 130 = .ok (.iinc 2 1, 3) := by decide +kernel
theorem dX6_go_133 : decode cX6_go 133 = .ok (.goto (-28), 3) := by decide +kernel
theorem dX6_go_136 : decode cX6_go 136 = .ok (.aload_n 0, 1) := by decide +kernel
theorem dX6_go_137 : decode cX6_go 137 = .ok (.getfield 7, 3) := by decide +kernel
theorem dX6_go_140 : decode cX6_go 140 = .ok (.bipush 8, 2) := by decide +kernel
theorem dX6_go_142 : decode cX6_go 142 = .ok (.dup2, 1) := by decide +kernel
theorem dX6_go_143 : decode cX6_go 143 = .ok (.iaload, 1) := by decide +kernel
theorem dX6_go_144 : decode cX6_go 144 = .ok (.iload_n 1, 1) := by decide +kernel
theorem dX6_go_145 : decode cX6_go 145 = .ok (.iadd, 1) := by decide +kernel
theorem dX6_go_146 : decode cX6_go 146 = .ok (.iastore, 1) := by decide +kernel
theorem dX6_go_147 : decode cX6_go 147 = .ok (.aload_n 0, 1) := by decide +kernel
theorem dX6_go_148 : decode cX6_go 148 = .ok (.getfield 7, 3) := by decide +kernel
theorem dX6_go_151 : decode cX6_go 151 = .ok (.bipush 8, 2) := by decide +kernel
theorem dX6_go_153 : decode cX6_go 153 = .ok (.iaload, 1) := by decide +kernel
theorem dX6_go_154 : decode cX6_go 154 = .ok (.ireturn, 1) := by decide +kernel
set_option maxRecDepth 20000 in
theorem ggX6_isTime_X6_in : GoodIn wsX6_isTime wsX6_in := goodIn_r _ [5] (by decide +kernel) (by decide +kernel)
set_option maxRecDepth 20000 in
theorem gX6_isTime_X6_in : GoodIn wsX6_isTime (va_wsS RX6 56 yX6_in wsX6_in) := goodIn_app (goodIn_of _ (by decide +kernel)) ggX6_isTime_X6_in
theorem dX6_isTime_0 : decode cX6_isTime 0 = .ok (.iload_n 0, 1) := by decide +kernel
theorem dX6_isTime_1 : decode cX6_isTime 1 = .ok (.i2l, 1) := by decide +kernel
theorem dX6_isTime_2 : decode cX6_isTime 2 = .ok (.lconst 0, 1) := by decide +kernel
theorem dX6_isTime_3 : decode cX6_isTime 3 = .ok (.ldc2_w 189, 3) := by decide +kernel
theorem dX6_isTime_6 : decode cX6_isTime 6 = .ok (.invokestatic 56, 3) := by decide +kernel
theorem dX6_isTime_9 : decode cX6_isTime 9 = .ok (.ireturn, 1) := by decide +kernel
theorem dX6_wayEnd_0 : decode cX6_wayEnd 0 = .ok (.iload_n 1, 1) := by decide +kernel
theorem dX6_wayEnd_1 : decode cX6_wayEnd 1 = .ok (.istore_n 3, 1) := by decide +kernel
theorem dX6_wayEnd_2 : decode cX6_wayEnd 2 = .ok (.iconst 0, 1) := by decide +kernel
theorem dX6_wayEnd_3 : decode cX6_wayEnd 3 = .ok (.istore 4, 2) := by decide +kernel
theorem dX6_wayEnd_5 : decode cX6_wayEnd 5 = .ok (.iload 4, 2) := by decide +kernel
theorem dX6_wayEnd_7 : decode cX6_wayEnd 7 = .ok (.iload_n 2, 1) := by decide +kernel
theorem dX6_wayEnd_8 : decode cX6_wayEnd 8 = .ok (.if_icmp .ge 21, 3) := by decide +kernel
theorem dX6_wayEnd_11 : decode cX6_wayEnd 11 = .ok (.iload_n 3, 1) := by decide +kernel
theorem dX6_wayEnd_12 : decode cX6_wayEnd 12 = .ok (.iconst (-1), 1) := by decide +kernel
theorem dX6_wayEnd_13 : decode cX6_wayEnd 13 = .ok (.if_icmp .eq 16, 3) := by decide +kernel
theorem dX6_wayEnd_16 : decode cX6_wayEnd 16 = .ok (.aload_n 0, 1) := by decide +kernel
theorem dX6_wayEnd_17 : decode cX6_wayEnd 17 = .ok (.getfield 27, 3) := by decide +kernel
theorem dX6_wayEnd_20 : decode cX6_wayEnd 20 = .ok (.iload_n 3, 1) := by decide +kernel
theorem dX6_wayEnd_21 : decode cX6_wayEnd 21 = .ok (.iaload, 1) := by decide +kernel
theorem dX6_wayEnd_22 : decode cX6_wayEnd 22 = .ok (.istore_n 3, 1) := by decide +kernel
theorem dX6_wayEnd_23 : decode cX6_wayEnd 23 = .ok (.iinc 4 1, 3) := by decide +kernel
theorem dX6_wayEnd_26 : decode cX6_wayEnd 26 = .ok (.goto (-21), 3) := by decide +kernel
theorem dX6_wayEnd_29 : decode cX6_wayEnd 29 = .ok (.iload_n 3, 1) := by decide +kernel
theorem dX6_wayEnd_30 : decode cX6_wayEnd 30 = .ok (.ireturn, 1) := by decide +kernel
set_option maxRecDepth 20000 in
theorem ggX6_canAll_X6_can : GoodIn wsX6_canAll wsX6_can := goodIn_r _ [6, 7, 8, 9, 10, 5, 11, 12, 13, 14, 15, 16, 17, 18, 19, 20, 21, 22, 23, 24, 25, 26, 27, 28, 29, 30, 31, 32, 33, 34, 35, 36, 37, 38, 39, 40, 41, 42, 43, 44, 45, 46, 47, 48, 49, 50, 51, 52] (by decide +kernel) (by decide +kernel)
set_option maxRecDepth 20000 in
theorem gX6_canAll_X6_can : GoodIn wsX6_canAll (wsV RX6 142 RX6 yX6_can wsX6_can) := goodIn_app (goodIn_of _ (by decide +kernel)) ggX6_canAll_X6_can
theorem dX6_canAll_0 : decode cX6_canAll 0 = .ok (.iload_n 1, 1) := by decide +kernel
theorem dX6_canAll_1 : decode cX6_canAll 1 = .ok (.istore 4, 2) := by decide +kernel
theorem dX6_canAll_3 : decode cX6_canAll 3 = .ok (.aload_n 0, 1) := by decide +kernel
theorem dX6_canAll_4 : decode cX6_canAll 4 = .ok (.iload_n 1, 1) := by decide +kernel
theorem dX6_canAll_5 : decode cX6_canAll 5 = .ok (.iload_n 3, 1) := by decide +kernel
theorem dX6_canAll_6 : decode cX6_canAll 6 = .ok (.invokevirtual 142, 3) := by decide +kernel
theorem dX6_canAll_9 : decode cX6_canAll 9 = .ok (.istore 5, 2) := by decide +kernel
theorem dX6_canAll_11 : decode cX6_canAll 11 = .ok (.iconst 0, 1) := by decide +kernel
theorem dX6_canAll_12 : decode cX6_canAll 12 = .ok (.istore 6, 2) := by decide +kernel
theorem dX6_canAll_14 : decode cX6_canAll 14 = .ok (.iload 6, 2) := by decide +kernel
theorem dX6_canAll_16 : decode cX6_canAll 16 = .ok (.iload_n 2, 1) := by decide +kernel
theorem dX6_canAll_17 : decode cX6_canAll 17 = .ok (.if_icmp .ge 40, 3) := by decide +kernel
theorem dX6_canAll_20 : decode cX6_canAll 20 = .ok (.aload_n 0, 1) := by decide +kernel
theorem dX6_canAll_21 : decode cX6_canAll 21 = .ok (.getfield 27, 3) := by decide +kernel
theorem dX6_canAll_24 : decode cX6_canAll 24 = .ok (.iload 4, 2) := by decide +kernel
theorem dX6_canAll_26 : decode cX6_canAll 26 = .ok (.iaload, 1) := by decide +kernel
theorem dX6_canAll_27 : decode cX6_canAll 27 = .ok (.istore 4, 2) := by decide +kernel
theorem dX6_canAll_29 : decode cX6_canAll 29 = .ok (.iload 5, 2) := by decide +kernel
theorem dX6_canAll_31 : decode cX6_canAll 31 = .ok (.ifCond .eq 17, 3) := by decide +kernel
theorem dX6_canAll_34 : decode cX6_canAll 34 = .ok (.aload_n 0, 1) := by decide +kernel
theorem dX6_canAll_35 : decode cX6_canAll 35 = .ok (.iload 4, 2) := by decide +kernel
theorem dX6_canAll_37 : decode cX6_canAll 37 = .ok (.iload_n 3, 1) := by decide +kernel
theorem dX6_canAll_38 : decode cX6_canAll 38 = .ok (.invokevirtual 142, 3) := by decide +kernel
theorem dX6_canAll_41 : decode cX6_canAll 41 = .ok (.ifCond .eq 7, 3) := by decide +kernel
theorem dX6_canAll_44 : decode cX6_canAll 44 = .ok (.iconst 1, 1) := by decide +kernel
theorem dX6_canAll_45 : decode cX6_canAll 45 = .ok (.goto 4, 3) := by decide +kernel
theorem dX6_canAll_48 : decode cX6_canAll 48 = .ok (.iconst 0, 1) := by decide +kernel
theorem dX6_canAll_49 : decode cX6_canAll 49 = .ok (.istore 5, 2) := by decide +kernel
theorem dX6_canAll_51 : decode cX6_canAll 51 = .ok (.iinc 6 1, 3) := by decide +kernel
theorem dX6_canAll_54 : decode cX6_canAll 54 = .ok (.goto (-40), 3) := by decide +kernel
theorem dX6_canAll_57 : decode cX6_canAll 57 = .ok (.iload 5, 2) := by decide +kernel
theorem dX6_canAll_59 : decode cX6_canAll 59 = .ok (.ireturn, 1) := by decide +kernel
set_option maxRecDepth 20000 in
theorem ggX6_firstOf_X6_wayEnd : GoodIn wsX6_firstOf wsX6_wayEnd := goodIn_r _ [5, 6, 35, 36, 37, 38, 39, 40, 41, 42, 43, 44, 45, 46, 47, 48, 49, 50, 51, 52, 53, 54, 55, 56, 57, 58, 59, 60] (by decide +kernel) (by decide +kernel)
set_option maxRecDepth 20000 in
theorem gX6_firstOf_X6_wayEnd : GoodIn wsX6_firstOf (wsV RX6 197 RX6 yX6_wayEnd wsX6_wayEnd) := goodIn_app (goodIn_of _ (by decide +kernel)) ggX6_firstOf_X6_wayEnd
set_option maxRecDepth 20000 in
theorem ggX6_firstOf_X6_canAll : GoodIn wsX6_firstOf wsX6_canAll := goodIn_r _ [10, 6, 11, 12, 13, 4, 14, 15, 16, 17, 18, 19, 20, 21, 22, 23, 24, 25, 26, 27, 28, 29, 30, 31, 32, 33, 34, 35, 36, 37, 38, 39, 40, 41, 42, 43, 44, 45, 46, 47, 48, 49, 50, 51, 52, 53, 54, 55, 56, 57, 58, 59, 60] (by decide +kernel) (by decide +kernel)
set_option maxRecDepth 20000 in
theorem gX6_firstOf_X6_canAll : GoodIn wsX6_firstOf (wsV RX6 200 RX6 yX6_canAll wsX6_canAll) := goodIn_app (goodIn_of _ (by decide +kernel)) ggX6_firstOf_X6_canAll
theorem dX6_firstOf_0 : decode cX6_firstOf 0 = .ok (.aload_n 0, 1) := by decide +kernel
theorem dX6_firstOf_1 : decode cX6_firstOf 1 = .ok (.iload_n 1, 1) := by decide +kernel
theorem dX6_firstOf_2 : decode cX6_firstOf 2 = .ok (.iload_n 3, 1) := by decide +kernel
theorem dX6_firstOf_3 : decode cX6_firstOf 3 = .ok (.invokevirtual 197, 3) := by decide +kernel
theorem dX6_firstOf_6 : decode cX6_firstOf 6 = .ok (.istore 4, 2) := by decide +kernel
theorem dX6_firstOf_8 : decode cX6_firstOf 8 = .ok (.iload 4, 2) := by decide +kernel
theorem dX6_firstOf_10 : decode cX6_firstOf 10 = .ok (.iconst (-1), 1) := by decide +kernel
theorem dX6_firstOf_11 : decode cX6_firstOf 11 = .ok (.if_icmp .eq 18, 3) := by decide +kernel
theorem dX6_firstOf_14 : decode cX6_firstOf 14 = .ok (.aload_n 0, 1) := by decide +kernel
theorem dX6_firstOf_15 : decode cX6_firstOf 15 = .ok (.iload_n 1, 1) := by decide +kernel
theorem dX6_firstOf_16 : decode cX6_firstOf 16 = .ok (.iload_n 3, 1) := by decide +kernel
theorem dX6_firstOf_17 : decode cX6_firstOf 17 = .ok (.iload_n 2, 1) := by decide +kernel
theorem dX6_firstOf_18 : decode cX6_firstOf 18 = .ok (.invokevirtual 200, 3) := by decide +kernel
theorem dX6_firstOf_21 : decode cX6_firstOf 21 = .ok (.ifCond .eq 8, 3) := by decide +kernel
theorem dX6_firstOf_24 : decode cX6_firstOf 24 = .ok (.iload 4, 2) := by decide +kernel
theorem dX6_firstOf_26 : decode cX6_firstOf 26 = .ok (.goto 4, 3) := by decide +kernel
theorem dX6_firstOf_29 : decode cX6_firstOf 29 = .ok (.iconst (-1), 1) := by decide +kernel
theorem dX6_firstOf_30 : decode cX6_firstOf 30 = .ok (.ireturn, 1) := by decide +kernel
set_option maxRecDepth 20000 in
theorem ggX6_later_X6_isHouse : GoodIn wsX6_later wsX6_isHouse := goodIn_r _ [6, 7, 8, 9, 5, 10, 50, 51, 52, 53, 54, 55, 56, 57, 58, 59, 60, 61, 62, 63, 64, 65, 66, 67, 68, 69, 70, 71, 72, 73, 74, 75] (by decide +kernel) (by decide +kernel)
set_option maxRecDepth 20000 in
theorem gX6_later_X6_isHouse : GoodIn wsX6_later (wsV RX6 160 RX6 yX6_isHouse wsX6_isHouse) := goodIn_app (goodIn_of _ (by decide +kernel)) ggX6_later_X6_isHouse
set_option maxRecDepth 20000 in
theorem ggX6_later_X6_isTime : GoodIn wsX6_later wsX6_isTime := goodIn_r _ [13, 14, 8, 9, 5, 10] (by decide +kernel) (by decide +kernel)
set_option maxRecDepth 20000 in
theorem gX6_later_X6_isTime : GoodIn wsX6_later (va_wsS RX6 203 yX6_isTime wsX6_isTime) := goodIn_app (goodIn_of _ (by decide +kernel)) ggX6_later_X6_isTime
set_option maxRecDepth 20000 in
theorem ggX6_later_X6_forbiddenNow : GoodIn wsX6_later wsX6_forbiddenNow := goodIn_r _ [18, 19, 20, 50, 51, 52, 53, 54, 55, 56, 57, 58, 59, 60, 61, 62, 63, 64, 65, 66, 67, 68, 69, 70, 71, 72, 73, 74, 75] (by decide +kernel) (by decide +kernel)
set_option maxRecDepth 20000 in
theorem gX6_later_X6_forbiddenNow : GoodIn wsX6_later (wsV RX6 191 RX6 yX6_forbiddenNow wsX6_forbiddenNow) := goodIn_app (goodIn_of _ (by decide +kernel)) ggX6_later_X6_forbiddenNow
set_option maxRecDepth 20000 in
theorem ggX6_later_X6_layDays : GoodIn wsX6_later wsX6_layDays := goodIn_r _ [24, 7, 1, 25, 26, 27, 28, 5, 29, 30, 31, 32, 33, 34, 20, 35, 36, 37, 38, 39, 40, 41, 42, 43, 44, 45, 46, 47, 48, 49, 50, 51, 52, 53, 54, 55, 56, 57, 58, 59, 60, 61, 62, 63, 64, 65, 66, 67, 68, 69, 70, 71, 72, 73, 74, 75] (by decide +kernel) (by decide +kernel)
set_option maxRecDepth 20000 in
theorem gX6_later_X6_layDays : GoodIn wsX6_later (wsV RX6 194 RX6 yX6_layDays wsX6_layDays) := goodIn_app (goodIn_of _ (by decide +kernel)) ggX6_later_X6_layDays
theorem dX6_later_0 : decode cX6_later 0 = .ok (.aload_n 0, 1) := by decide +kernel
theorem dX6_later_1 : decode cX6_later 1 = .ok (.iload_n 1, 1) := by decide +kernel
theorem dX6_later_2 : decode cX6_later 2 = .ok (.invokevirtual 160, 3) := by decide +kernel
theorem dX6_later_5 : decode cX6_later 5 = .ok (.ifCond .ne 6, 3) := by decide +kernel
theorem dX6_later_8 : decode cX6_later 8 = .ok (.bipush (-2), 2) := by decide +kernel
theorem dX6_later_10 : decode cX6_later 10 = .ok (.ireturn, 1) := by decide +kernel
theorem dX6_later_11 : decode cX6_later 11 = .ok (.iload_n 2, 1) := by decide +kernel
theorem dX6_later_12 : decode cX6_later 12 = .ok (.invokestatic 203, 3) := by decide +kernel
theorem dX6_later_15 : decode cX6_later 15 = .ok (.ifCond .ne 6, 3) := by decide +kernel
theorem dX6_later_18 : decode cX6_later 18 = .ok (.bipush (-3), 2) := by decide +kernel
theorem dX6_later_20 : decode cX6_later 20 = .ok (.ireturn, 1) := by decide +kernel
theorem dX6_later_21 : decode cX6_later 21 = .ok (.aload_n 0, 1) := by decide +kernel
theorem dX6_later_22 : decode cX6_later 22 = .ok (.iload_n 2, 1) := by decide +kernel
theorem dX6_later_23 : decode cX6_later 23 = .ok (.aload_n 0, 1) := by decide +kernel
theorem dX6_later_24 : decode cX6_later 24 = .ok (.invokevirtual 191, 3) := by decide +kernel
theorem dX6_later_27 : decode cX6_later 27 = .ok (.invokevirtual 194, 3) := by decide +kernel
theorem dX6_later_30 : decode cX6_later 30 = .ok (.aload_n 0, 1) := by decide +kernel
theorem dX6_later_31 : decode cX6_later 31 = .ok (.getfield 39, 3) := by decide +kernel
theorem dX6_later_34 : decode cX6_later 34 = .ok (.bipush 8, 2) := by decide +kernel
theorem dX6_later_36 : decode cX6_later 36 = .ok (.iload_n 2, 1) := by decide +kernel
theorem dX6_later_37 : decode cX6_later 37 = .ok (.imul, 1) := by decide +kernel
theorem dX6_later_38 : decode cX6_later 38 = .ok (.iload_n 1, 1) := by decide +kernel
theorem dX6_later_39 : decode cX6_later 39 = .ok (.iadd, 1) := by decide +kernel
theorem dX6_later_40 : decode cX6_later 40 = .ok (.iaload, 1) := by decide +kernel
theorem dX6_later_41 : decode cX6_later 41 = .ok (.ireturn, 1) := by decide +kernel
theorem dX6_areAlike_0 : decode cX6_areAlike 0 = .ok (.iconst 1, 1) := by decide +kernel
theorem dX6_areAlike_1 : decode cX6_areAlike 1 = .ok (.istore_n 3, 1) := by decide +kernel
theorem dX6_areAlike_2 : decode cX6_areAlike 2 = .ok (.iconst 0, 1) := by decide +kernel
theorem dX6_areAlike_3 : decode cX6_areAlike 3 = .ok (.istore 4, 2) := by decide +kernel
theorem dX6_areAlike_5 : decode cX6_areAlike 5 = .ok (.iload 4, 2) := by decide +kernel
theorem dX6_areAlike_7 : decode cX6_areAlike 7 = .ok (.aload_n 0, 1) := by decide +kernel
theorem dX6_areAlike_8 : decode cX6_areAlike 8 = .ok (.getfield 23, 3) := by decide +kernel
theorem dX6_areAlike_11 : decode cX6_areAlike 11 = .ok (.if_icmp .ge 46, 3) := by decide +kernel
theorem dX6_areAlike_14 : decode cX6_areAlike 14 = .ok (.iload_n 3, 1) := by decide +kernel
theorem dX6_areAlike_15 : decode cX6_areAlike 15 = .ok (.ifCond .eq 34, 3) := by decide +kernel
theorem dX6_areAlike_18 : decode cX6_areAlike 18 = .ok (.aload_n 0, 1) := by decide +kernel
theorem dX6_areAlike_19 : decode cX6_areAlike 19 = .ok (.getfield 39, 3) := by decide +kernel
theorem dX6_areAlike_22 : decode cX6_areAlike 22 = .ok (.bipush 8, 2) := by decide +kernel
theorem dX6_areAlike_24 : decode cX6_areAlike 24 = .ok (.iload_n 1, 1) := by decide +kernel
theorem dX6_areAlike_25 : decode cX6_areAlike 25 = .ok (.imul, 1) := by decide +kernel
theorem dX6_areAlike_26 : decode cX6_areAlike 26 = .ok (.iload 4, 2) := by decide +kernel
theorem dX6_areAlike_28 : decode cX6_areAlike 28 = .ok (.iadd, 1) := by decide +kernel
theorem dX6_areAlike_29 : decode cX6_areAlike 29 = .ok (.iaload, 1) := by decide +kernel
theorem dX6_areAlike_30 : decode cX6_areAlike 30 = .ok (.aload_n 0, 1) := by decide +kernel
theorem dX6_areAlike_31 : decode cX6_areAlike 31 = .ok (.getfield 39, 3) := by decide +kernel
theorem dX6_areAlike_34 : decode cX6_areAlike 34 = .ok (.bipush 8, 2) := by decide +kernel
theorem dX6_areAlike_36 : decode cX6_areAlike 36 = .ok (.iload_n 2, 1) := by decide +kernel
theorem dX6_areAlike_37 : decode cX6_areAlike 37 = .ok (.imul, 1) := by decide +kernel
theorem dX6_areAlike_38 : decode cX6_areAlike 38 = .ok (.iload 4, 2) := by decide +kernel
theorem dX6_areAlike_40 : decode cX6_areAlike 40 = .ok (.iadd, 1) := by decide +kernel
theorem dX6_areAlike_41 : decode cX6_areAlike 41 = .ok (.iaload, 1) := by decide +kernel
theorem dX6_areAlike_42 : decode cX6_areAlike 42 = .ok (.if_icmp .ne 7, 3) := by decide +kernel
theorem dX6_areAlike_45 : decode cX6_areAlike 45 = .ok (.iconst 1, 1) := by decide +kernel
theorem dX6_areAlike_46 : decode cX6_areAlike 46 = .ok (.goto 4, 3) := by decide +kernel
theorem dX6_areAlike_49 : decode cX6_areAlike 49 = .ok (.iconst 0, 1) := by decide +kernel
theorem dX6_areAlike_50 : decode cX6_areAlike 50 = .ok (.istore_n 3, 1) := by decide +kernel
theorem dX6_areAlike_51 : decode cX6_areAlike 51 = .ok (.iinc 4 1, 3) := by decide +kernel
theorem dX6_areAlike_54 : decode cX6_areAlike 54 = .ok (.goto (-49), 3) := by decide +kernel
theorem dX6_areAlike_57 : decode cX6_areAlike 57 = .ok (.iload_n 3, 1) := by decide +kernel
theorem dX6_areAlike_58 : decode cX6_areAlike 58 = .ok (.ireturn, 1) := by decide +kernel
set_option maxRecDepth 20000 in
theorem ggX6_again_X6_in : GoodIn wsX6_again wsX6_in := goodIn_r _ [4] (by decide +kernel) (by decide +kernel)
set_option maxRecDepth 20000 in
theorem gX6_again_X6_in : GoodIn wsX6_again (va_wsS RX6 56 yX6_in wsX6_in) := goodIn_app (goodIn_of _ (by decide +kernel)) ggX6_again_X6_in
set_option maxRecDepth 20000 in
theorem ggX6_again_X6_forbiddenNow : GoodIn wsX6_again wsX6_forbiddenNow := goodIn_r _ [8, 9, 10, 46, 47, 48, 49, 50, 51, 52, 53, 54, 55, 56, 57, 58, 59, 60, 61, 62, 63, 64, 65, 66, 67, 68, 69, 70, 71] (by decide +kernel) (by decide +kernel)
set_option maxRecDepth 20000 in
theorem gX6_again_X6_forbiddenNow : GoodIn wsX6_again (wsV RX6 191 RX6 yX6_forbiddenNow wsX6_forbiddenNow) := goodIn_app (goodIn_of _ (by decide +kernel)) ggX6_again_X6_forbiddenNow
set_option maxRecDepth 20000 in
theorem ggX6_again_X6_layDays : GoodIn wsX6_again wsX6_layDays := goodIn_r _ [14, 15, 16, 17, 18, 19, 20, 3, 21, 22, 23, 24, 25, 26, 10, 27, 28, 29, 30, 31, 32, 33, 34, 35, 36, 37, 38, 39, 40, 41, 46, 47, 48, 49, 50, 51, 52, 53, 54, 55, 56, 57, 58, 59, 60, 61, 62, 63, 64, 65, 66, 67, 68, 69, 70, 71] (by decide +kernel) (by decide +kernel)
set_option maxRecDepth 20000 in
theorem gX6_again_X6_layDays : GoodIn wsX6_again (wsV RX6 194 RX6 yX6_layDays wsX6_layDays) := goodIn_app (goodIn_of _ (by decide +kernel)) ggX6_again_X6_layDays
set_option maxRecDepth 20000 in
theorem ggX6_again_X6_areAlike : GoodIn wsX6_again wsX6_areAlike := goodIn_r _ [45, 15, 16, 46, 47, 48, 49, 50, 51, 52, 53, 54, 55, 56, 57, 58, 59, 60, 61, 62, 63, 64, 65, 66, 67, 68, 69, 70, 71] (by decide +kernel) (by decide +kernel)
set_option maxRecDepth 20000 in
theorem gX6_again_X6_areAlike : GoodIn wsX6_again (wsV RX6 206 RX6 yX6_areAlike wsX6_areAlike) := goodIn_app (goodIn_of _ (by decide +kernel)) ggX6_again_X6_areAlike
theorem dX6_again_0 : decode cX6_again 0 = .ok (.iload_n 1, 1) := by decide +kernel
theorem dX6_again_1 : decode cX6_again 1 = .ok (.i2l, 1) := by decide +kernel
theorem dX6_again_2 : decode cX6_again 2 = .ok (.lconst 0, 1) := by decide +kernel
theorem dX6_again_3 : decode cX6_again 3 = .ok (.lconst 1, 1) := by decide +kernel
theorem dX6_again_4 : decode cX6_again 4 = .ok (.invokestatic 56, 3) := by decide +kernel
theorem dX6_again_7 : decode cX6_again 7 = .ok (.ifCond .ne 6, 3) := by decide +kernel
theorem dX6_again_10 : decode cX6_again 10 = .ok (.bipush (-3), 2) := by decide +kernel
theorem dX6_again_12 : decode cX6_again 12 = .ok (.ireturn, 1) := by decide +kernel
theorem dX6_again_13 : decode cX6_again 13 = .ok (.aload_n 0, 1) := by decide +kernel
theorem dX6_again_14 : decode cX6_again 14 = .ok (.sipush 150, 3) := by decide +kernel
theorem dX6_again_17 : decode cX6_again 17 = .ok (.aload_n 0, 1) := by decide +kernel
theorem dX6_again_18 : decode cX6_again 18 = .ok (.invokevirtual 191, 3) := by decide +kernel
theorem dX6_again_21 : decode cX6_again 21 = .ok (.invokevirtual 194, 3) := by decide +kernel
theorem dX6_again_24 : decode cX6_again 24 = .ok (.iconst 0, 1) := by decide +kernel
theorem dX6_again_25 : decode cX6_again 25 = .ok (.istore_n 2, 1) := by decide +kernel
theorem dX6_again_26 : decode cX6_again 26 = .ok (.iload_n 2, 1) := by decide +kernel
theorem dX6_again_27 : decode cX6_again 27 = .ok (.bipush 70, 2) := by decide +kernel
theorem dX6_again_29 : decode cX6_again 29 = .ok (.if_icmp .ge 44, 3) := by decide +kernel
theorem dX6_again_32 : decode cX6_again 32 = .ok (.iconst 1, 1) := by decide +kernel
theorem dX6_again_33 : decode cX6_again 33 = .ok (.istore_n 3, 1) := by decide +kernel
theorem dX6_again_34 : decode cX6_again 34 = .ok (.iload_n 3, 1) := by decide +kernel
theorem dX6_again_35 : decode cX6_again 35 = .ok (.bipush 70, 2) := by decide +kernel
theorem dX6_again_37 : decode cX6_again 37 = .ok (.if_icmp .ge 30, 3) := by decide +kernel
theorem dX6_again_40 : decode cX6_again 40 = .ok (.aload_n 0, 1) := by decide +kernel
theorem dX6_again_41 : decode cX6_again 41 = .ok (.iload_n 2, 1) := by decide +kernel
theorem dX6_again_42 : decode cX6_again 42 = .ok (.iload_n 2, 1) := by decide +kernel
theorem dX6_again_43 : decode cX6_again 43 = .ok (.iload_n 3, 1) := by decide +kernel
theorem dX6_again_44 : decode cX6_again 44 = .ok (.iadd, 1) := by decide +kernel
theorem dX6_again_45 : decode cX6_again 45 = .ok (.invokevirtual 206, 3) := by decide +kernel
theorem dX6_again_48 : decode cX6_again 48 = .ok (.ifCond .eq 13, 3) := by decide +kernel
theorem dX6_again_51 : decode cX6_again 51 = .ok (.iload_n 1, 1) := by decide +kernel
theorem dX6_again_52 : decode cX6_again 52 = .ok (.ifCond .ne 7, 3) := by decide +kernel
theorem dX6_again_55 : decode cX6_again 55 = .ok (.iload_n 2, 1) := by decide +kernel
theorem dX6_again_56 : decode cX6_again 56 = .ok (.goto 4, 3) := by decide +kernel
theorem dX6_again_59 : decode cX6_again 59 = .ok (.iload_n 3, 1) := by decide +kernel
theorem dX6_again_60 : decode cX6_again 60 = .ok (.ireturn, 1) := by decide +kernel
theorem dX6_again_61 : decode cX6_again 61 = .ok (.iinc 3 1, 3) := by decide +kernel
theorem dX6_again_64 : decode cX6_again 64 = .ok (.goto (-30), 3) := by decide +kernel
theorem dX6_again_67 : decode cX6_again 67 = .ok (.iinc 2 1, 3) := by decide +kernel
theorem dX6_again_70 : decode cX6_again 70 = .ok (.goto (-44), 3) := by decide +kernel
theorem dX6_again_73 : decode cX6_again 73 = .ok (.iconst (-1), 1) := by decide +kernel
theorem dX6_again_74 : decode cX6_again 74 = .ok (.ireturn, 1) := by decide +kernel
set_option maxRecDepth 20000 in
theorem ggX6_first_X6_isHouse : GoodIn wsX6_first wsX6_isHouse := goodIn_r _ [5, 6, 7, 8, 4, 9, 56, 57, 58, 59, 60, 61, 62, 63, 64, 65, 66, 67, 68, 69, 70, 71, 72, 73, 74, 75, 76, 77, 78, 79, 80, 81] (by decide +kernel) (by decide +kernel)
set_option maxRecDepth 20000 in
theorem gX6_first_X6_isHouse : GoodIn wsX6_first (wsV RX6 160 RX6 yX6_isHouse wsX6_isHouse) := goodIn_app (goodIn_of _ (by decide +kernel)) ggX6_first_X6_isHouse
set_option maxRecDepth 20000 in
theorem ggX6_first_X6_isDeed : GoodIn wsX6_first wsX6_isDeed := goodIn_r _ [13, 14, 7, 8, 4, 9, 56, 57, 58, 59, 60, 61, 62, 63, 64, 65, 66, 67, 68, 69, 70, 71, 72, 73, 74, 75, 76, 77, 78, 79, 80, 81] (by decide +kernel) (by decide +kernel)
set_option maxRecDepth 20000 in
theorem gX6_first_X6_isDeed : GoodIn wsX6_first (wsV RX6 163 RX6 yX6_isDeed wsX6_isDeed) := goodIn_app (goodIn_of _ (by decide +kernel)) ggX6_first_X6_isDeed
set_option maxRecDepth 20000 in
theorem ggX6_first_X6_isTime : GoodIn wsX6_first wsX6_isTime := goodIn_r _ [17, 18, 7, 8, 4, 9] (by decide +kernel) (by decide +kernel)
set_option maxRecDepth 20000 in
theorem gX6_first_X6_isTime : GoodIn wsX6_first (va_wsS RX6 203 yX6_isTime wsX6_isTime) := goodIn_app (goodIn_of _ (by decide +kernel)) ggX6_first_X6_isTime
set_option maxRecDepth 20000 in
theorem ggX6_first_X6_firstOf : GoodIn wsX6_first wsX6_firstOf := goodIn_r _ [22, 23, 24, 25, 4, 26, 27, 28, 29, 30, 31, 32, 33, 34, 35, 36, 37, 38, 39, 40, 41, 42, 43, 44, 45, 46, 47, 48, 49, 50, 51, 52, 53, 54, 55, 56, 57, 58, 59, 60, 61, 62, 63, 64, 65, 66, 67, 68, 69, 70, 71, 72, 73, 74, 75, 76, 77, 78, 79, 80, 81] (by decide +kernel) (by decide +kernel)
set_option maxRecDepth 20000 in
theorem gX6_first_X6_firstOf : GoodIn wsX6_first (wsV RX6 209 RX6 yX6_firstOf wsX6_firstOf) := goodIn_app (goodIn_of _ (by decide +kernel)) ggX6_first_X6_firstOf
theorem dX6_first_0 : decode cX6_first 0 = .ok (.aload_n 0, 1) := by decide +kernel
theorem dX6_first_1 : decode cX6_first 1 = .ok (.iload_n 1, 1) := by decide +kernel
theorem dX6_first_2 : decode cX6_first 2 = .ok (.invokevirtual 160, 3) := by decide +kernel
theorem dX6_first_5 : decode cX6_first 5 = .ok (.ifCond .eq 11, 3) := by decide +kernel
theorem dX6_first_8 : decode cX6_first 8 = .ok (.aload_n 0, 1) := by decide +kernel
theorem dX6_first_9 : decode cX6_first 9 = .ok (.iload_n 2, 1) := by decide +kernel
theorem dX6_first_10 : decode cX6_first 10 = .ok (.invokevirtual 163, 3) := by decide +kernel
theorem dX6_first_13 : decode cX6_first 13 = .ok (.ifCond .ne 6, 3) := by decide +kernel
theorem dX6_first_16 : decode cX6_first 16 = .ok (.bipush (-2), 2) := by decide +kernel
theorem dX6_first_18 : decode cX6_first 18 = .ok (.ireturn, 1) := by decide +kernel
theorem dX6_first_19 : decode cX6_first 19 = .ok (.iload_n 3, 1) := by decide +kernel
theorem dX6_first_20 : decode cX6_first 20 = .ok (.invokestatic 203, 3) := by decide +kernel
theorem dX6_first_23 : decode cX6_first 23 = .ok (.ifCond .eq 13, 3) := by decide +kernel
theorem dX6_first_26 : decode cX6_first 26 = .ok (.aload_n 0, 1) := by decide +kernel
theorem dX6_first_27 : decode cX6_first 27 = .ok (.iload_n 1, 1) := by decide +kernel
theorem dX6_first_28 : decode cX6_first 28 = .ok (.iload_n 2, 1) := by decide +kernel
theorem dX6_first_29 : decode cX6_first 29 = .ok (.iload_n 3, 1) := by decide +kernel
theorem dX6_first_30 : decode cX6_first 30 = .ok (.invokevirtual 209, 3) := by decide +kernel
theorem dX6_first_33 : decode cX6_first 33 = .ok (.goto 5, 3) := by decide +kernel
theorem dX6_first_36 : decode cX6_first 36 = .ok (.bipush (-3), 2) := by decide +kernel
theorem dX6_first_38 : decode cX6_first 38 = .ok (.ireturn, 1) := by decide +kernel
set_option maxRecDepth 20000 in
theorem ggX6_lack_X6_isHouse : GoodIn wsX6_lack wsX6_isHouse := goodIn_r _ [6, 7, 8, 9, 5, 10, 36, 37, 38, 39, 40, 41, 42, 43, 44, 45, 46, 47, 48, 49, 50, 51, 52, 53, 54, 55, 56, 57, 58, 59, 60, 61] (by decide +kernel) (by decide +kernel)
set_option maxRecDepth 20000 in
theorem gX6_lack_X6_isHouse : GoodIn wsX6_lack (wsV RX6 160 RX6 yX6_isHouse wsX6_isHouse) := goodIn_app (goodIn_of _ (by decide +kernel)) ggX6_lack_X6_isHouse
set_option maxRecDepth 20000 in
theorem ggX6_lack_X6_isDeed : GoodIn wsX6_lack wsX6_isDeed := goodIn_r _ [14, 15, 8, 9, 5, 10, 36, 37, 38, 39, 40, 41, 42, 43, 44, 45, 46, 47, 48, 49, 50, 51, 52, 53, 54, 55, 56, 57, 58, 59, 60, 61] (by decide +kernel) (by decide +kernel)
set_option maxRecDepth 20000 in
theorem gX6_lack_X6_isDeed : GoodIn wsX6_lack (wsV RX6 163 RX6 yX6_isDeed wsX6_isDeed) := goodIn_app (goodIn_of _ (by decide +kernel)) ggX6_lack_X6_isDeed
set_option maxRecDepth 20000 in
theorem ggX6_lack_X6_isTime : GoodIn wsX6_lack wsX6_isTime := goodIn_r _ [18, 19, 8, 9, 5, 10] (by decide +kernel) (by decide +kernel)
set_option maxRecDepth 20000 in
theorem gX6_lack_X6_isTime : GoodIn wsX6_lack (va_wsS RX6 203 yX6_isTime wsX6_isTime) := goodIn_app (goodIn_of _ (by decide +kernel)) ggX6_lack_X6_isTime
set_option maxRecDepth 20000 in
theorem ggX6_lack_X6_wayEnd : GoodIn wsX6_lack wsX6_wayEnd := goodIn_r _ [23, 1, 36, 37, 38, 39, 40, 41, 42, 43, 44, 45, 46, 47, 48, 49, 50, 51, 52, 53, 54, 55, 56, 57, 58, 59, 60, 61] (by decide +kernel) (by decide +kernel)
set_option maxRecDepth 20000 in
theorem gX6_lack_X6_wayEnd : GoodIn wsX6_lack (wsV RX6 197 RX6 yX6_wayEnd wsX6_wayEnd) := goodIn_app (goodIn_of _ (by decide +kernel)) ggX6_lack_X6_wayEnd
set_option maxRecDepth 20000 in
theorem ggX6_lack_X6_has : GoodIn wsX6_lack wsX6_has := goodIn_r _ [26] (by decide +kernel) (by decide +kernel)
set_option maxRecDepth 20000 in
theorem gX6_lack_X6_has : GoodIn wsX6_lack (va_wsS RX6 178 yX6_has wsX6_has) := goodIn_app (goodIn_of _ (by decide +kernel)) ggX6_lack_X6_has
set_option maxRecDepth 20000 in
theorem ggX6_lack_X6_lacks : GoodIn wsX6_lack wsX6_lacks := goodIn_r _ [30, 31, 32, 33, 34, 5, 35, 36, 37, 38, 39, 40, 41, 42, 43, 44, 45, 46, 47, 48, 49, 50, 51, 52, 53, 54, 55, 56, 57, 58, 59, 60, 61] (by decide +kernel) (by decide +kernel)
set_option maxRecDepth 20000 in
theorem gX6_lack_X6_lacks : GoodIn wsX6_lack (wsV RX6 171 RX6 yX6_lacks wsX6_lacks) := goodIn_app (goodIn_of _ (by decide +kernel)) ggX6_lack_X6_lacks
theorem dX6_lack_0 : decode cX6_lack 0 = .ok (.aload_n 0, 1) := by decide +kernel
theorem dX6_lack_1 : decode cX6_lack 1 = .ok (.iload_n 1, 1) := by decide +kernel
theorem dX6_lack_2 : decode cX6_lack 2 = .ok (.invokevirtual 160, 3) := by decide +kernel
theorem dX6_lack_5 : decode cX6_lack 5 = .ok (.ifCond .eq 11, 3) := by decide +kernel
theorem dX6_lack_8 : decode cX6_lack 8 = .ok (.aload_n 0, 1) := by decide +kernel
theorem dX6_lack_9 : decode cX6_lack 9 = .ok (.iload_n 2, 1) := by decide +kernel
theorem dX6_lack_10 : decode cX6_lack 10 = .ok (.invokevirtual 163, 3) := by decide +kernel
theorem dX6_lack_13 : decode cX6_lack 13 = .ok (.ifCond .ne 6, 3) := by decide +kernel
theorem dX6_lack_16 : decode cX6_lack 16 = .ok (.bipush (-2), 2) := by decide +kernel
theorem dX6_lack_18 : decode cX6_lack 18 = .ok (.ireturn, 1) := by decide +kernel
theorem dX6_lack_19 : decode cX6_lack 19 = .ok (.iload_n 3, 1) := by decide +kernel
theorem dX6_lack_20 : decode cX6_lack 20 = .ok (.invokestatic 203, 3) := by decide +kernel
theorem dX6_lack_23 : decode cX6_lack 23 = .ok (.ifCond .ne 6, 3) := by decide +kernel
theorem dX6_lack_26 : decode cX6_lack 26 = .ok (.bipush (-3), 2) := by decide +kernel
theorem dX6_lack_28 : decode cX6_lack 28 = .ok (.ireturn, 1) := by decide +kernel
theorem dX6_lack_29 : decode cX6_lack 29 = .ok (.aload_n 0, 1) := by decide +kernel
theorem dX6_lack_30 : decode cX6_lack 30 = .ok (.iload_n 1, 1) := by decide +kernel
theorem dX6_lack_31 : decode cX6_lack 31 = .ok (.iload_n 3, 1) := by decide +kernel
theorem dX6_lack_32 : decode cX6_lack 32 = .ok (.invokevirtual 197, 3) := by decide +kernel
theorem dX6_lack_35 : decode cX6_lack 35 = .ok (.iconst (-1), 1) := by decide +kernel
theorem dX6_lack_36 : decode cX6_lack 36 = .ok (.if_icmp .ne 5, 3) := by decide +kernel
theorem dX6_lack_39 : decode cX6_lack 39 = .ok (.iconst (-1), 1) := by decide +kernel
theorem dX6_lack_40 : decode cX6_lack 40 = .ok (.ireturn, 1) := by decide +kernel
theorem dX6_lack_41 : decode cX6_lack 41 = .ok (.iconst 0, 1) := by decide +kernel
theorem dX6_lack_42 : decode cX6_lack 42 = .ok (.istore 4, 2) := by decide +kernel
theorem dX6_lack_44 : decode cX6_lack 44 = .ok (.iconst 0, 1) := by decide +kernel
theorem dX6_lack_45 : decode cX6_lack 45 = .ok (.istore 5, 2) := by decide +kernel
theorem dX6_lack_47 : decode cX6_lack 47 = .ok (.iload_n 1, 1) := by decide +kernel
theorem dX6_lack_48 : decode cX6_lack 48 = .ok (.istore 6, 2) := by decide +kernel
theorem dX6_lack_50 : decode cX6_lack 50 = .ok (.iconst 0, 1) := by decide +kernel
theorem dX6_lack_51 : decode cX6_lack 51 = .ok (.istore 7, 2) := by decide +kernel
theorem dX6_lack_53 : decode cX6_lack 53 = .ok (.iload 7, 2) := by decide +kernel
theorem dX6_lack_55 : decode cX6_lack 55 = .ok (.iload_n 3, 1) := by decide +kernel
theorem dX6_lack_56 : decode cX6_lack 56 = .ok (.if_icmp .gt 64, 3) := by decide +kernel
theorem dX6_lack_59 : decode cX6_lack 59 = .ok (.iload 5, 2) := by decide +kernel
theorem dX6_lack_61 : decode cX6_lack 61 = .ok (.iload 4, 2) := by decide +kernel
theorem dX6_lack_63 : decode cX6_lack 63 = .ok (.iload 6, 2) := by decide +kernel
theorem dX6_lack_65 : decode cX6_lack 65 = .ok (.invokestatic 178, 3) := by decide +kernel
theorem dX6_lack_68 : decode cX6_lack 68 = .ok (.ifCond .eq 7, 3) := by decide +kernel
theorem dX6_lack_71 : decode cX6_lack 71 = .ok (.iconst 0, 1) := by decide +kernel
theorem dX6_lack_72 : decode cX6_lack 72 = .ok (.goto 10, 3) := by decide +kernel
theorem dX6_lack_75 : decode cX6_lack 75 = .ok (.aload_n 0, 1) := by decide +kernel
theorem dX6_lack_76 : decode cX6_lack 76 = .ok (.iload 6, 2) := by decide +kernel
theorem dX6_lack_78 : decode cX6_lack 78 = .ok (.iload_n 2, 1) := by decide +kernel
theorem dX6_lack_79 : decode cX6_lack 79 = .ok (.invokevirtual 171, 3) := by decide +kernel
theorem dX6_lack_82 : decode cX6_lack 82 = .ok (.iadd, 1) := by decide +kernel
theorem dX6_lack_83 : decode cX6_lack 83 = .ok (.istore 5, 2) := by decide +kernel
theorem dX6_lack_85 : decode cX6_lack 85 = .ok (.iload 4, 2) := by decide +kernel
theorem dX6_lack_87 : decode cX6_lack 87 = .ok (.iconst 1, 1) := by decide +kernel
theorem dX6_lack_88 : decode cX6_lack 88 = .ok (.iload 6, 2) := by decide +kernel
theorem dX6_lack_90 : decode cX6_lack 90 = .ok (.ishl, 1) := by decide +kernel
theorem dX6_lack_91 : decode cX6_lack 91 = .ok (.ior, 1) := by decide +kernel
theorem dX6_lack_92 : decode cX6_lack 92 = .ok (.istore 4, 2) := by decide +kernel
theorem dX6_lack_94 : decode cX6_lack 94 = .ok (.iload 7, 2) := by decide +kernel
theorem dX6_lack_96 : decode cX6_lack 96 = .ok (.iload_n 3, 1) := by decide +kernel
theorem dX6_lack_97 : decode cX6_lack 97 = .ok (.if_icmp .ge 13, 3) := by decide +kernel
theorem dX6_lack_100 : decode cX6_lack 100 = .ok (.aload_n 0, 1) := by decide +kernel
theorem dX6_lack_101 : decode cX6_lack 101 = .ok (.getfield 27, 3) := by decide +kernel
theorem dX6_lack_104 : decode cX6_lack 104 = .ok (.iload 6, 2) := by decide +kernel
theorem dX6_lack_106 : decode cX6_lack 106 = .ok (.iaload, 1) := by decide +kernel
theorem dX6_lack_107 : decode cX6_lack 107 = .ok (.goto 5, 3) := by decide +kernel
theorem dX6_lack_110 : decode cX6_lack 110 = .ok (.iload 6, 2) := by decide +kernel
theorem dX6_lack_112 : decode cX6_lack 112 = .ok (.istore 6, 2) := by decide +kernel
theorem dX6_lack_114 : decode cX6_lack 114 = .ok (.iinc 7 1, 3) := by decide +kernel
theorem dX6_lack_117 : decode cX6_lack 117 = .ok (.goto (-64), 3) := by decide +kernel
theorem dX6_lack_120 : decode cX6_lack 120 = .ok (.iload 5, 2) := by decide +kernel
theorem dX6_lack_122 : decode cX6_lack 122 = .ok (.ireturn, 1) := by decide +kernel
set_option maxRecDepth 20000 in
theorem ggX6_wish_X6_isHouse : GoodIn wsX6_wish wsX6_isHouse := goodIn_r _ [7, 8, 9, 10, 6, 11, 21, 22, 23, 24, 25, 26, 27, 28, 29, 30, 31, 32, 33, 34, 35, 36, 37, 38, 39, 40, 41, 42, 43, 44, 45, 46] (by decide +kernel) (by decide +kernel)
set_option maxRecDepth 20000 in
theorem gX6_wish_X6_isHouse : GoodIn wsX6_wish (wsV RX6 160 RX6 yX6_isHouse wsX6_isHouse) := goodIn_app (goodIn_of _ (by decide +kernel)) ggX6_wish_X6_isHouse
set_option maxRecDepth 20000 in
theorem ggX6_wish_X6_isDeed : GoodIn wsX6_wish wsX6_isDeed := goodIn_r _ [15, 16, 9, 10, 6, 11, 21, 22, 23, 24, 25, 26, 27, 28, 29, 30, 31, 32, 33, 34, 35, 36, 37, 38, 39, 40, 41, 42, 43, 44, 45, 46] (by decide +kernel) (by decide +kernel)
set_option maxRecDepth 20000 in
theorem gX6_wish_X6_isDeed : GoodIn wsX6_wish (wsV RX6 163 RX6 yX6_isDeed wsX6_isDeed) := goodIn_app (goodIn_of _ (by decide +kernel)) ggX6_wish_X6_isDeed
set_option maxRecDepth 20000 in
theorem ggX6_wish_X6_isTime : GoodIn wsX6_wish wsX6_isTime := goodIn_r _ [19, 20, 9, 10, 6, 11] (by decide +kernel) (by decide +kernel)
set_option maxRecDepth 20000 in
theorem gX6_wish_X6_isTime : GoodIn wsX6_wish (va_wsS RX6 203 yX6_isTime wsX6_isTime) := goodIn_app (goodIn_of _ (by decide +kernel)) ggX6_wish_X6_isTime
theorem dX6_wish_0 : decode cX6_wish 0 = .ok (.aload_n 0, 1) := by decide +kernel
theorem dX6_wish_1 : decode cX6_wish 1 = .ok (.iload_n 1, 1) := by decide +kernel
theorem dX6_wish_2 : decode cX6_wish 2 = .ok (.invokevirtual 160, 3) := by decide +kernel

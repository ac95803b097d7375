set_option maxRecDepth 20000 in
theorem ggX0_init_X0_idleAll : GoodIn wsX0_init wsX0_idleAll := goodIn_r _ [11, 5, 12, 13, 14, 15] (by decide +kernel) (by decide +kernel)
set_option maxRecDepth 20000 in
theorem gX0_init_X0_idleAll : GoodIn wsX0_init (wsV RX0 18 RX0 yX0_idleAll wsX0_idleAll) := goodIn_app (goodIn_of _ (by decide +kernel)) ggX0_init_X0_idleAll
theorem dX0_init_0 : decode cX0_init 0 = .ok (.aload_n 0, 1) := by decide +kernel
theorem dX0_init_1 : decode cX0_init 1 = .ok (.invokespecial 3, 3) := by decide +kernel
theorem dX0_init_4 : decode cX0_init 4 = .ok (.aload_n 0, 1) := by decide +kernel
theorem dX0_init_5 : decode cX0_init 5 = .ok (.bipush 8, 2) := by decide +kernel
theorem dX0_init_7 : decode cX0_init 7 = .ok (.newarray .int, 2) := by decide +kernel
theorem dX0_init_9 : decode cX0_init 9 = .ok (.putfield 9, 3) := by decide +kernel
theorem dX0_init_12 : decode cX0_init 12 = .ok (.aload_n 0, 1) := by decide +kernel
theorem dX0_init_13 : decode cX0_init 13 = .ok (.bipush 8, 2) := by decide +kernel
theorem dX0_init_15 : decode cX0_init 15 = .ok (.newarray .int, 2) := by decide +kernel
theorem dX0_init_17 : decode cX0_init 17 = .ok (.putfield 15, 3) := by decide +kernel
theorem dX0_init_20 : decode cX0_init 20 = .ok (.aload_n 0, 1) := by decide +kernel
theorem dX0_init_21 : decode cX0_init 21 = .ok (.invokevirtual 18, 3) := by decide +kernel
theorem dX0_init_24 : decode cX0_init 24 = .ok (.return_, 1) := by decide +kernel
theorem dX0_idleAll_0 : decode cX0_idleAll 0 = .ok (.iconst 0, 1) := by decide +kernel
theorem dX0_idleAll_1 : decode cX0_idleAll 1 = .ok (.istore_n 1, 1) := by decide +kernel
theorem dX0_idleAll_2 : decode cX0_idleAll 2 = .ok (.iload_n 1, 1) := by decide +kernel
theorem dX0_idleAll_3 : decode cX0_idleAll 3 = .ok (.bipush 8, 2) := by decide +kernel
theorem dX0_idleAll_5 : decode cX0_idleAll 5 = .ok (.if_icmp .ge 16, 3) := by decide +kernel
theorem dX0_idleAll_8 : decode cX0_idleAll 8 = .ok (.aload_n 0, 1) := by decide +kernel
theorem dX0_idleAll_9 : decode cX0_idleAll 9 = .ok (.getfield 9, 3) := by decide +kernel
theorem dX0_idleAll_12 : decode cX0_idleAll 12 = .ok (.iload_n 1, 1) := by decide +kernel
theorem dX0_idleAll_13 : decode cX0_idleAll 13 = .ok (.iconst (-1), 1) := by decide +kernel
theorem dX0_idleAll_14 : decode cX0_idleAll 14 = .ok (.iastore, 1) := by decide +kernel
theorem dX0_idleAll_15 : decode cX0_idleAll 15 = .ok (.iinc 1 1, 3) := by decide +kernel
theorem dX0_idleAll_18 : decode cX0_idleAll 18 = .ok (.goto (-16), 3) := by decide +kernel
theorem dX0_idleAll_21 : decode cX0_idleAll 21 = .ok (.return_, 1) := by decide +kernel
theorem dX0_restart_0 : decode cX0_restart 0 = .ok (.aload_n 0, 1) := by decide +kernel
theorem dX0_restart_1 : decode cX0_restart 1 = .ok (.iconst 0, 1) := by decide +kernel
theorem dX0_restart_2 : decode cX0_restart 2 = .ok (.putfield 21, 3) := by decide +kernel
theorem dX0_restart_5 : decode cX0_restart 5 = .ok (.iconst 0, 1) := by decide +kernel
theorem dX0_restart_6 : decode cX0_restart 6 = .ok (.istore_n 1, 1) := by decide +kernel
theorem dX0_restart_7 : decode cX0_restart 7 = .ok (.iload_n 1, 1) := by decide +kernel
theorem dX0_restart_8 : decode cX0_restart 8 = .ok (.bipush 8, 2) := by decide +kernel
theorem dX0_restart_10 : decode cX0_restart 10 = .ok (.if_icmp .ge 16, 3) := by decide +kernel
theorem dX0_restart_13 : decode cX0_restart 13 = .ok (.aload_n 0, 1) := by decide +kernel
theorem dX0_restart_14 : decode cX0_restart 14 = .ok (.getfield 15, 3) := by decide +kernel
theorem dX0_restart_17 : decode cX0_restart 17 = .ok (.iload_n 1, 1) := by decide +kernel
theorem dX0_restart_18 : decode cX0_restart 18 = .ok (.iconst 0, 1) := by decide +kernel
theorem dX0_restart_19 : decode cX0_restart 19 = .ok (.iastore, 1) := by decide +kernel
theorem dX0_restart_20 : decode cX0_restart 20 = .ok (.iinc 1 1, 3) := by decide +kernel
theorem dX0_restart_23 : decode cX0_restart 23 = .ok (.goto (-16), 3) := by decide +kernel
theorem dX0_restart_26 : decode cX0_restart 26 = .ok (.return_, 1) := by decide +kernel
theorem dX0_noteDoers_0 : decode cX0_noteDoers 0 = .ok (.iconst 0, 1) := by decide +kernel
theorem dX0_noteDoers_1 : decode cX0_noteDoers 1 = .ok (.istore_n 1, 1) := by decide +kernel
theorem dX0_noteDoers_2 : decode cX0_noteDoers 2 = .ok (.iload_n 1, 1) := by decide +kernel
theorem dX0_noteDoers_3 : decode cX0_noteDoers 3 = .ok (.bipush 8, 2) := by decide +kernel
theorem dX0_noteDoers_5 : decode cX0_noteDoers 5 = .ok (.if_icmp .ge 29, 3) := by decide +kernel
theorem dX0_noteDoers_8 : decode cX0_noteDoers 8 = .ok (.aload_n 0, 1) := by decide +kernel
theorem dX0_noteDoers_9 : decode cX0_noteDoers 9 = .ok (.getfield 9, 3) := by decide +kernel
theorem dX0_noteDoers_12 : decode cX0_noteDoers 12 = .ok (.iload_n 1, 1) := by decide +kernel
theorem dX0_noteDoers_13 : decode cX0_noteDoers 13 = .ok (.iaload, 1) := by decide +kernel
theorem dX0_noteDoers_14 : decode cX0_noteDoers 14 = .ok (.iconst (-1), 1) := by decide +kernel
theorem dX0_noteDoers_15 : decode cX0_noteDoers 15 = .ok (.if_icmp .eq 13, 3) := by decide +kernel
theorem dX0_noteDoers_18 : decode cX0_noteDoers 18 = .ok (.aload_n 0, 1) := by decide +kernel
theorem dX0_noteDoers_19 : decode cX0_noteDoers 19 = .ok (.getfield 15, 3) := by decide +kernel
theorem dX0_noteDoers_22 : decode cX0_noteDoers 22 = .ok (.iload_n 1, 1) := by decide +kernel
theorem dX0_noteDoers_23 : decode cX0_noteDoers 23 = .ok (.dup2, 1) := by decide +kernel
theorem dX0_noteDoers_24 : decode cX0_noteDoers 24 = .ok (.iaload, 1) := by decide +kernel
theorem dX0_noteDoers_25 : decode cX0_noteDoers 25 = .ok (.iconst 1, 1) := by decide +kernel
theorem dX0_noteDoers_26 : decode cX0_noteDoers 26 = .ok (.iadd, 1) := by decide +kernel
theorem dX0_noteDoers_27 : decode cX0_noteDoers 27 = .ok (.iastore, 1) := by decide +kernel
theorem dX0_noteDoers_28 : decode cX0_noteDoers 28 = .ok (.iinc 1 1, 3) := by decide +kernel
theorem dX0_noteDoers_31 : decode cX0_noteDoers 31 = .ok (.goto (-29), 3) := by decide +kernel
theorem dX0_noteDoers_34 : decode cX0_noteDoers 34 = .ok (.return_, 1) := by decide +kernel
theorem dX0_copy_0 : decode cX0_copy 0 = .ok (.aload_n 0, 1) := by decide +kernel
theorem dX0_copy_1 : decode cX0_copy 1 = .ok (.aload_n 1, 1) := by decide +kernel
theorem dX0_copy_2 : decode cX0_copy 2 = .ok (.getfield 21, 3) := by decide +kernel
theorem dX0_copy_5 : decode cX0_copy 5 = .ok (.putfield 21, 3) := by decide +kernel
theorem dX0_copy_8 : decode cX0_copy 8 = .ok (.aload_n 1, 1) := by decide +kernel
theorem dX0_copy_9 : decode cX0_copy 9 = .ok (.getfield 9, 3) := by decide +kernel
theorem dX0_copy_12 : decode cX0_copy 12 = .ok (.iconst 0, 1) := by decide +kernel
theorem dX0_copy_13 : decode cX0_copy 13 = .ok (.aload_n 0, 1) := by decide +kernel
theorem dX0_copy_14 : decode cX0_copy 14 = .ok (.getfield 9, 3) := by decide +kernel
theorem dX0_copy_17 : decode cX0_copy 17 = .ok (.iconst 0, 1) := by decide +kernel
theorem dX0_copy_18 : decode cX0_copy 18 = .ok (.bipush 8, 2) := by decide +kernel
theorem dX0_copy_20 : decode cX0_copy 20 = .ok (.invokestatic 25, 3) := by decide +kernel
theorem dX0_copy_23 : decode cX0_copy 23 = .ok (.aload_n 1, 1) := by decide +kernel
theorem dX0_copy_24 : decode cX0_copy 24 = .ok (.getfield 15, 3) := by decide +kernel
theorem dX0_copy_27 : decode cX0_copy 27 = .ok (.iconst 0, 1) := by decide +kernel
theorem dX0_copy_28 : decode cX0_copy 28 = .ok (.aload_n 0, 1) := by decide +kernel
theorem dX0_copy_29 : decode cX0_copy 29 = .ok (.getfield 15, 3) := by decide +kernel
theorem dX0_copy_32 : decode cX0_copy 32 = .ok (.iconst 0, 1) := by decide +kernel
theorem dX0_copy_33 : decode cX0_copy 33 = .ok (.bipush 8, 2) := by decide +kernel
theorem dX0_copy_35 : decode cX0_copy 35 = .ok (.invokestatic 25, 3) := by decide +kernel
theorem dX0_copy_38 : decode cX0_copy 38 = .ok (.return_, 1) := by decide +kernel
theorem dX1_init_0 : decode cX1_init 0 = .ok (.aload_n 0, 1) := by decide +kernel
theorem dX1_init_1 : decode cX1_init 1 = .ok (.invokespecial 3, 3) := by decide +kernel
theorem dX1_init_4 : decode cX1_init 4 = .ok (.aload_n 0, 1) := by decide +kernel
theorem dX1_init_5 : decode cX1_init 5 = .ok (.bipush 6, 2) := by decide +kernel
theorem dX1_init_7 : decode cX1_init 7 = .ok (.newarray .int, 2) := by decide +kernel
theorem dX1_init_9 : decode cX1_init 9 = .ok (.putfield 9, 3) := by decide +kernel
theorem dX1_init_12 : decode cX1_init 12 = .ok (.aload_n 0, 1) := by decide +kernel
theorem dX1_init_13 : decode cX1_init 13 = .ok (.bipush 6, 2) := by decide +kernel
theorem dX1_init_15 : decode cX1_init 15 = .ok (.newarray .int, 2) := by decide +kernel
theorem dX1_init_17 : decode cX1_init 17 = .ok (.putfield 15, 3) := by decide +kernel
theorem dX1_init_20 : decode cX1_init 20 = .ok (.return_, 1) := by decide +kernel
theorem dX1_clear_0 : decode cX1_clear 0 = .ok (.iconst 0, 1) := by decide +kernel
theorem dX1_clear_1 : decode cX1_clear 1 = .ok (.istore_n 1, 1) := by decide +kernel
theorem dX1_clear_2 : decode cX1_clear 2 = .ok (.iload_n 1, 1) := by decide +kernel
theorem dX1_clear_3 : decode cX1_clear 3 = .ok (.bipush 6, 2) := by decide +kernel
theorem dX1_clear_5 : decode cX1_clear 5 = .ok (.if_icmp .ge 23, 3) := by decide +kernel
theorem dX1_clear_8 : decode cX1_clear 8 = .ok (.aload_n 0, 1) := by decide +kernel
theorem dX1_clear_9 : decode cX1_clear 9 = .ok (.getfield 9, 3) := by decide +kernel
theorem dX1_clear_12 : decode cX1_clear 12 = .ok (.iload_n 1, 1) := by decide +kernel
theorem dX1_clear_13 : decode cX1_clear 13 = .ok (.iconst 0, 1) := by decide +kernel
theorem dX1_clear_14 : decode cX1_clear 14 = .ok (.iastore, 1) := by decide +kernel
theorem dX1_clear_15 : decode cX1_clear 15 = .ok (.aload_n 0, 1) := by decide +kernel
theorem dX1_clear_16 : decode cX1_clear 16 = .ok (.getfield 15, 3) := by decide +kernel
theorem dX1_clear_19 : decode cX1_clear 19 = .ok (.iload_n 1, 1) := by decide +kernel
theorem dX1_clear_20 : decode cX1_clear 20 = .ok (.iconst 0, 1) := by decide +kernel
theorem dX1_clear_21 : decode cX1_clear 21 = .ok (.iastore, 1) := by decide +kernel
theorem dX1_clear_22 : decode cX1_clear 22 = .ok (.iinc 1 1, 3) := by decide +kernel
theorem dX1_clear_25 : decode cX1_clear 25 = .ok (.goto (-23), 3) := by decide +kernel
theorem dX1_clear_28 : decode cX1_clear 28 = .ok (.return_, 1) := by decide +kernel
theorem dX1_note_0 : decode cX1_note 0 = .ok (.aload_n 0, 1) := by decide +kernel
theorem dX1_note_1 : decode cX1_note 1 = .ok (.getfield 9, 3) := by decide +kernel
theorem dX1_note_4 : decode cX1_note 4 = .ok (.iload_n 3, 1) := by decide +kernel
theorem dX1_note_5 : decode cX1_note 5 = .ok (.dup2, 1) := by decide +kernel
theorem dX1_note_6 : decode cX1_note 6 = .ok (.iaload, 1) := by decide +kernel
theorem dX1_note_7 : decode cX1_note 7 = .ok (.aload_n 1, 1) := by decide +kernel
theorem dX1_note_8 : decode cX1_note 8 = .ok (.getfield 18, 3) := by decide +kernel
theorem dX1_note_11 : decode cX1_note 11 = .ok (.iload_n 3, 1) := by decide +kernel
theorem dX1_note_12 : decode cX1_note 12 = .ok (.iaload, 1) := by decide +kernel
theorem dX1_note_13 : decode cX1_note 13 = .ok (.iadd, 1) := by decide +kernel
theorem dX1_note_14 : decode cX1_note 14 = .ok (.iastore, 1) := by decide +kernel
theorem dX1_note_15 : decode cX1_note 15 = .ok (.aload_n 1, 1) := by decide +kernel
theorem dX1_note_16 : decode cX1_note 16 = .ok (.getfield 23, 3) := by decide +kernel
theorem dX1_note_19 : decode cX1_note 19 = .ok (.iload_n 3, 1) := by decide +kernel
theorem dX1_note_20 : decode cX1_note 20 = .ok (.iaload, 1) := by decide +kernel
theorem dX1_note_21 : decode cX1_note 21 = .ok (.iload_n 2, 1) := by decide +kernel
theorem dX1_note_22 : decode cX1_note 22 = .ok (.if_icmp .eq 18, 3) := by decide +kernel
theorem dX1_note_25 : decode cX1_note 25 = .ok (.aload_n 0, 1) := by decide +kernel
theorem dX1_note_26 : decode cX1_note 26 = .ok (.getfield 15, 3) := by decide +kernel
theorem dX1_note_29 : decode cX1_note 29 = .ok (.iload_n 3, 1) := by decide +kernel
theorem dX1_note_30 : decode cX1_note 30 = .ok (.dup2, 1) := by decide +kernel
theorem dX1_note_31 : decode cX1_note 31 = .ok (.iaload, 1) := by decide +kernel
theorem dX1_note_32 : decode cX1_note 32 = .ok (.aload_n 1, 1) := by decide +kernel
theorem dX1_note_33 : decode cX1_note 33 = .ok (.getfield 26, 3) := by decide +kernel
theorem dX1_note_36 : decode cX1_note 36 = .ok (.iload_n 3, 1) := by decide +kernel
theorem dX1_note_37 : decode cX1_note 37 = .ok (.iaload, 1) := by decide +kernel
theorem dX1_note_38 : decode cX1_note 38 = .ok (.iadd, 1) := by decide +kernel
theorem dX1_note_39 : decode cX1_note 39 = .ok (.iastore, 1) := by decide +kernel
theorem dX1_note_40 : decode cX1_note 40 = .ok (.return_, 1) := by decide +kernel
theorem dX2_init_0 : decode cX2_init 0 = .ok (.aload_n 0, 1) := by decide +kernel
theorem dX2_init_1 : decode cX2_init 1 = .ok (.invokespecial 3, 3) := by decide +kernel
theorem dX2_init_4 : decode cX2_init 4 = .ok (.aload_n 0, 1) := by decide +kernel
theorem dX2_init_5 : decode cX2_init 5 = .ok (.sipush 200, 3) := by decide +kernel
theorem dX2_init_8 : decode cX2_init 8 = .ok (.newarray .int, 2) := by decide +kernel
theorem dX2_init_10 : decode cX2_init 10 = .ok (.putfield 9, 3) := by decide +kernel
theorem dX2_init_13 : decode cX2_init 13 = .ok (.aload_n 0, 1) := by decide +kernel
theorem dX2_init_14 : decode cX2_init 14 = .ok (.bipush 10, 2) := by decide +kernel
theorem dX2_init_16 : decode cX2_init 16 = .ok (.newarray .int, 2) := by decide +kernel
theorem dX2_init_18 : decode cX2_init 18 = .ok (.putfield 15, 3) := by decide +kernel
theorem dX2_init_21 : decode cX2_init 21 = .ok (.aload_n 0, 1) := by decide +kernel
theorem dX2_init_22 : decode cX2_init 22 = .ok (.bipush 40, 2) := by decide +kernel
theorem dX2_init_24 : decode cX2_init 24 = .ok (.newarray .int, 2) := by decide +kernel
theorem dX2_init_26 : decode cX2_init 26 = .ok (.putfield 18, 3) := by decide +kernel
theorem dX2_init_29 : decode cX2_init 29 = .ok (.return_, 1) := by decide +kernel
theorem dX2_append_0 : decode cX2_append 0 = .ok (.aload_n 0, 1) := by decide +kernel
theorem dX2_append_1 : decode cX2_append 1 = .ok (.getfield 21, 3) := by decide +kernel
theorem dX2_append_4 : decode cX2_append 4 = .ok (.sipush 200, 3) := by decide +kernel
theorem dX2_append_7 : decode cX2_append 7 = .ok (.if_icmp .ge 23, 3) := by decide +kernel
theorem dX2_append_10 : decode cX2_append 10 = .ok (.aload_n 0, 1) := by decide +kernel
theorem dX2_append_11 : decode cX2_append 11 = .ok (.getfield 9, 3) := by decide +kernel
theorem dX2_append_14 : decode cX2_append 14 = .ok (.aload_n 0, 1) := by decide +kernel
theorem dX2_append_15 : decode cX2_append 15 = .ok (.getfield 21, 3) := by decide +kernel
theorem dX2_append_18 : decode cX2_append 18 = .ok (.iload_n 1, 1) := by decide +kernel
theorem dX2_append_19 : decode cX2_append 19 = .ok (.iastore, 1) := by decide +kernel
theorem dX2_append_20 : decode cX2_append 20 = .ok (.aload_n 0, 1) := by decide +kernel
theorem dX2_append_21 : decode cX2_append 21 = .ok (.dup, 1) := by decide +kernel
theorem dX2_append_22 : decode cX2_append 22 = .ok (.getfield 21, 3) := by decide +kernel
theorem dX2_append_25 : decode cX2_append 25 = .ok (.iconst 1, 1) := by decide +kernel
theorem dX2_append_26 : decode cX2_append 26 = .ok (.iadd, 1) := by decide +kernel
theorem dX2_append_27 : decode cX2_append 27 = .ok (.putfield 21, 3) := by decide +kernel
theorem dX2_append_30 : decode cX2_append 30 = .ok (.return_, 1) := by decide +kernel
theorem dX2_empty_0 : decode cX2_empty 0 = .ok (.aload_n 0, 1) := by decide +kernel
theorem dX2_empty_1 : decode cX2_empty 1 = .ok (.getfield 21, 3) := by decide +kernel
theorem dX2_empty_4 : decode cX2_empty 4 = .ok (.istore_n 1, 1) := by decide +kernel
theorem dX2_empty_5 : decode cX2_empty 5 = .ok (.aload_n 0, 1) := by decide +kernel
theorem dX2_empty_6 : decode cX2_empty 6 = .ok (.iconst 0, 1) := by decide +kernel
theorem dX2_empty_7 : decode cX2_empty 7 = .ok (.putfield 21, 3) := by decide +kernel
theorem dX2_empty_10 : decode cX2_empty 10 = .ok (.iload_n 1, 1) := by decide +kernel
theorem dX2_empty_11 : decode cX2_empty 11 = .ok (.ireturn, 1) := by decide +kernel
theorem dX2_number_0 : decode cX2_number 0 = .ok (.aload_n 0, 1) := by decide +kernel
theorem dX2_number_1 : decode cX2_number 1 = .ok (.getfield 18, 3) := by decide +kernel
theorem dX2_number_4 : decode cX2_number 4 = .ok (.iload_n 1, 1) := by decide +kernel
theorem dX2_number_5 : decode cX2_number 5 = .ok (.iconst 4, 1) := by decide +kernel
theorem dX2_number_6 : decode cX2_number 6 = .ok (.imul, 1) := by decide +kernel
theorem dX2_number_7 : decode cX2_number 7 = .ok (.iload_n 2, 1) := by decide +kernel
theorem dX2_number_8 : decode cX2_number 8 = .ok (.iadd, 1) := by decide +kernel
theorem dX2_number_9 : decode cX2_number 9 = .ok (.iaload, 1) := by decide +kernel
theorem dX2_number_10 : decode cX2_number 10 = .ok (.ireturn, 1) := by decide +kernel
set_option maxRecDepth 20000 in
theorem ggX2_faultPlace_X2_readLine : GoodIn wsX2_faultPlace wsX2_readLine := goodIn_r _ [12, 2, 13, 3, 14, 1, 15, 16, 17, 11, 18, 4, 5, 6, 7, 19, 20, 21, 22, 23, 24, 25, 26, 27, 28, 29, 30, 31, 32, 33, 34, 35, 36, 37, 38, 39, 40, 41, 42, 43, 44, 45, 46, 47, 48, 49, 50, 51, 52, 53, 54, 55, 56, 57, 58, 59, 60, 61, 62, 63, 64, 65, 66, 67, 68, 69, 70, 71, 72, 73, 74, 75, 76, 77, 78, 79, 80, 81, 82, 83, 84, 85, 86, 87, 88, 89, 90, 91, 92, 93, 94, 95, 96, 97, 98, 99, 100, 101, 102, 103, 104, 105, 106, 107, 108, 109, 110, 111] (by decide +kernel) (by decide +kernel)
set_option maxRecDepth 20000 in
theorem gX2_faultPlace_X2_readLine : GoodIn wsX2_faultPlace (wsV RX2 37 RX2 yX2_readLine wsX2_readLine) := goodIn_app (goodIn_of _ (by decide +kernel)) ggX2_faultPlace_X2_readLine
set_option maxRecDepth 20000 in
theorem ggX2_faultPlace_X2_readToken : GoodIn wsX2_faultPlace wsX2_readToken := goodIn_r _ [18, 4, 5, 6, 7, 19, 20, 11, 21, 22, 23, 24, 103, 104, 105, 106, 107, 108, 109, 110, 111] (by decide +kernel) (by decide +kernel)
set_option maxRecDepth 20000 in
theorem gX2_faultPlace_X2_readToken : GoodIn wsX2_faultPlace (wsV RX2 44 RX2 yX2_readToken wsX2_readToken) := goodIn_app (goodIn_of _ (by decide +kernel)) ggX2_faultPlace_X2_readToken
theorem dX2_faultPlace_0 : decode cX2_faultPlace 0 = .ok (.aload_n 0, 1) := by decide +kernel
theorem dX2_faultPlace_1 : decode cX2_faultPlace 1 = .ok (.iload_n 1, 1) := by decide +kernel
theorem dX2_faultPlace_2 : decode cX2_faultPlace 2 = .ok (.putfield 25, 3) := by decide +kernel
theorem dX2_faultPlace_5 : decode cX2_faultPlace 5 = .ok (.aload_n 0, 1) := by decide +kernel
theorem dX2_faultPlace_6 : decode cX2_faultPlace 6 = .ok (.iload_n 2, 1) := by decide +kernel
theorem dX2_faultPlace_7 : decode cX2_faultPlace 7 = .ok (.putfield 28, 3) := by decide +kernel
theorem dX2_faultPlace_10 : decode cX2_faultPlace 10 = .ok (.aload_n 0, 1) := by decide +kernel
theorem dX2_faultPlace_11 : decode cX2_faultPlace 11 = .ok (.iconst 0, 1) := by decide +kernel
theorem dX2_faultPlace_12 : decode cX2_faultPlace 12 = .ok (.putfield 31, 3) := by decide +kernel
theorem dX2_faultPlace_15 : decode cX2_faultPlace 15 = .ok (.aload_n 0, 1) := by decide +kernel
theorem dX2_faultPlace_16 : decode cX2_faultPlace 16 = .ok (.iconst 0, 1) := by decide +kernel
theorem dX2_faultPlace_17 : decode cX2_faultPlace 17 = .ok (.putfield 34, 3) := by decide +kernel
theorem dX2_faultPlace_20 : decode cX2_faultPlace 20 = .ok (.aload_n 0, 1) := by decide +kernel
theorem dX2_faultPlace_21 : decode cX2_faultPlace 21 = .ok (.getfield 31, 3) := by decide +kernel
theorem dX2_faultPlace_24 : decode cX2_faultPlace 24 = .ok (.bipush 10, 2) := by decide +kernel
theorem dX2_faultPlace_26 : decode cX2_faultPlace 26 = .ok (.if_icmp .ge 61, 3) := by decide +kernel
theorem dX2_faultPlace_29 : decode cX2_faultPlace 29 = .ok (.aload_n 0, 1) := by decide +kernel
theorem dX2_faultPlace_30 : decode cX2_faultPlace 30 = .ok (.invokevirtual 37, 3) := by decide +kernel
theorem dX2_faultPlace_33 : decode cX2_faultPlace 33 = .ok (.ifCond .ne 8, 3) := by decide +kernel
theorem dX2_faultPlace_36 : decode cX2_faultPlace 36 = .ok (.aload_n 0, 1) := by decide +kernel
theorem dX2_faultPlace_37 : decode cX2_faultPlace 37 = .ok (.getfield 41, 3) := by decide +kernel
theorem dX2_faultPlace_40 : decode cX2_faultPlace 40 = .ok (.ireturn, 1) := by decide +kernel
theorem dX2_faultPlace_41 : decode cX2_faultPlace 41 = .ok (.aload_n 0, 1) := by decide +kernel
theorem dX2_faultPlace_42 : decode cX2_faultPlace 42 = .ok (.dup, 1) := by decide +kernel
theorem dX2_faultPlace_43 : decode cX2_faultPlace 43 = .ok (.getfield 31, 3) := by decide +kernel
theorem dX2_faultPlace_46 : decode cX2_faultPlace 46 = .ok (.iconst 1, 1) := by decide +kernel
theorem dX2_faultPlace_47 : decode cX2_faultPlace 47 = .ok (.iadd, 1) := by decide +kernel
theorem dX2_faultPlace_48 : decode cX2_faultPlace 48 = .ok (.putfield 31, 3) := by decide +kernel
theorem dX2_faultPlace_51 : decode cX2_faultPlace 51 = .ok (.aload_n 0, 1) := by decide +kernel
theorem dX2_faultPlace_52 : decode cX2_faultPlace 52 = .ok (.invokevirtual 44, 3) := by decide +kernel
theorem dX2_faultPlace_55 : decode cX2_faultPlace 55 = .ok (.aload_n 0, 1) := by decide +kernel
theorem dX2_faultPlace_56 : decode cX2_faultPlace 56 = .ok (.getfield 41, 3) := by decide +kernel
theorem dX2_faultPlace_59 : decode cX2_faultPlace 59 = .ok (.aload_n 0, 1) := by decide +kernel
theorem dX2_faultPlace_60 : decode cX2_faultPlace 60 = .ok (.getfield 21, 3) := by decide +kernel
theorem dX2_faultPlace_63 : decode cX2_faultPlace 63 = .ok (.if_icmp .ne 5, 3) := by decide +kernel
theorem dX2_faultPlace_66 : decode cX2_faultPlace 66 = .ok (.iconst (-1), 1) := by decide +kernel
theorem dX2_faultPlace_67 : decode cX2_faultPlace 67 = .ok (.ireturn, 1) := by decide +kernel
theorem dX2_faultPlace_68 : decode cX2_faultPlace 68 = .ok (.aload_n 0, 1) := by decide +kernel
theorem dX2_faultPlace_69 : decode cX2_faultPlace 69 = .ok (.getfield 9, 3) := by decide +kernel
theorem dX2_faultPlace_72 : decode cX2_faultPlace 72 = .ok (.aload_n 0, 1) := by decide +kernel
theorem dX2_faultPlace_73 : decode cX2_faultPlace 73 = .ok (.getfield 41, 3) := by decide +kernel
theorem dX2_faultPlace_76 : decode cX2_faultPlace 76 = .ok (.iaload, 1) := by decide +kernel
theorem dX2_faultPlace_77 : decode cX2_faultPlace 77 = .ok (.bipush 59, 2) := by decide +kernel
theorem dX2_faultPlace_79 : decode cX2_faultPlace 79 = .ok (.if_icmp .eq (-59), 3) := by decide +kernel
theorem dX2_faultPlace_82 : decode cX2_faultPlace 82 = .ok (.aload_n 0, 1) := by decide +kernel
theorem dX2_faultPlace_83 : decode cX2_faultPlace 83 = .ok (.getfield 41, 3) := by decide +kernel
theorem dX2_faultPlace_86 : decode cX2_faultPlace 86 = .ok (.ireturn, 1) := by decide +kernel
theorem dX2_faultPlace_87 : decode cX2_faultPlace 87 = .ok (.aload_n 0, 1) := by decide +kernel
theorem dX2_faultPlace_88 : decode cX2_faultPlace 88 = .ok (.getfield 41, 3) := by decide +kernel
theorem dX2_faultPlace_91 : decode cX2_faultPlace 91 = .ok (.ireturn, 1) := by decide +kernel
set_option maxRecDepth 20000 in
theorem ggX2_readLine_X2_readToken : GoodIn wsX2_readLine wsX2_readToken := goodIn_r _ [10, 11, 12, 13, 14, 15, 16, 9, 17, 18, 19, 20, 99, 100, 101, 102, 103, 104, 105, 106, 107] (by decide +kernel) (by decide +kernel)
set_option maxRecDepth 20000 in
theorem gX2_readLine_X2_readToken : GoodIn wsX2_readLine (wsV RX2 44 RX2 yX2_readToken wsX2_readToken) := goodIn_app (goodIn_of _ (by decide +kernel)) ggX2_readLine_X2_readToken
set_option maxRecDepth 20000 in
theorem ggX2_readLine_X2_wordRead : GoodIn wsX2_readLine wsX2_wordRead := goodIn_r _ [24, 25, 26, 9, 27, 28, 29, 30, 31, 11, 12, 14, 32, 33, 34, 35, 36, 37, 38, 39, 40, 41, 42, 43, 44, 45, 46, 47, 48, 49, 50, 51, 52, 53, 54, 55, 56, 57, 58, 59, 60, 61, 62, 63, 64, 65, 66, 67, 68, 69, 70, 71, 72, 73, 74, 75, 76, 77, 78, 79, 80, 99, 100, 101, 102, 103, 104, 105, 106, 107] (by decide +kernel) (by decide +kernel)
set_option maxRecDepth 20000 in
theorem gX2_readLine_X2_wordRead : GoodIn wsX2_readLine (wsV RX2 47 RX2 yX2_wordRead wsX2_wordRead) := goodIn_app (goodIn_of _ (by decide +kernel)) ggX2_readLine_X2_wordRead
set_option maxRecDepth 20000 in
theorem ggX2_readLine_X2_formOf : GoodIn wsX2_readLine wsX2_formOf := goodIn_r _ [83] (by decide +kernel) (by decide +kernel)
set_option maxRecDepth 20000 in
theorem gX2_readLine_X2_formOf : GoodIn wsX2_readLine (va_wsS RX2 51 yX2_formOf wsX2_formOf) := goodIn_app (goodIn_of _ (by decide +kernel)) ggX2_readLine_X2_formOf
set_option maxRecDepth 20000 in
theorem ggX2_readLine_J0_length_8abf5 : GoodIn wsX2_readLine wsJ0_length_8abf5 := goodIn_r _ [36, 37, 38, 39, 40, 35, 41, 42, 43] (by decide +kernel) (by decide +kernel)
set_option maxRecDepth 20000 in
theorem gX2_readLine_J0_length_8abf5 : GoodIn wsX2_readLine (wsV RX2 55 RJ0 yJ0_length_8abf5 wsJ0_length_8abf5) := goodIn_app (goodIn_of _ (by decide +kernel)) ggX2_readLine_J0_length_8abf5
set_option maxRecDepth 20000 in
theorem ggX2_readLine_X2_numberRead : GoodIn wsX2_readLine wsX2_numberRead := goodIn_r _ [87, 11, 12, 14, 18, 19, 20, 15, 16, 9, 17, 99, 100, 101, 102, 103, 104, 105, 106, 107] (by decide +kernel) (by decide +kernel)
set_option maxRecDepth 20000 in
theorem gX2_readLine_X2_numberRead : GoodIn wsX2_readLine (wsV RX2 59 RX2 yX2_numberRead wsX2_numberRead) := goodIn_app (goodIn_of _ (by decide +kernel)) ggX2_readLine_X2_numberRead
set_option maxRecDepth 20000 in
theorem ggX2_readLine_J0_charAt_5068e : GoodIn wsX2_readLine wsJ0_charAt_5068e := goodIn_r _ [47, 37, 48, 49, 50, 35, 51, 42, 43, 52, 53, 54, 55, 56, 57, 58, 59, 60, 61, 62, 63, 64, 65, 66, 67, 68, 69, 70, 71, 72, 73, 74, 75, 76, 77, 78, 79, 80] (by decide +kernel) (by decide +kernel)
set_option maxRecDepth 20000 in
theorem gX2_readLine_J0_charAt_5068e : GoodIn wsX2_readLine (wsV RX2 62 RJ0 yJ0_charAt_5068e wsJ0_charAt_5068e) := goodIn_app (goodIn_of _ (by decide +kernel)) ggX2_readLine_J0_charAt_5068e
set_option maxRecDepth 20000 in
theorem ggX2_readLine_X2_leastOf : GoodIn wsX2_readLine wsX2_leastOf := goodIn_r _ [90] (by decide +kernel) (by decide +kernel)
set_option maxRecDepth 20000 in
theorem gX2_readLine_X2_leastOf : GoodIn wsX2_readLine (va_wsS RX2 66 yX2_leastOf wsX2_leastOf) := goodIn_app (goodIn_of _ (by decide +kernel)) ggX2_readLine_X2_leastOf
set_option maxRecDepth 20000 in
theorem ggX2_readLine_X2_mostOf : GoodIn wsX2_readLine wsX2_mostOf := goodIn_r _ [94, 5, 1, 99, 100, 101, 102, 103, 104, 105, 106, 107] (by decide +kernel) (by decide +kernel)
set_option maxRecDepth 20000 in
theorem gX2_readLine_X2_mostOf : GoodIn wsX2_readLine (wsV RX2 70 RX2 yX2_mostOf wsX2_mostOf) := goodIn_app (goodIn_of _ (by decide +kernel)) ggX2_readLine_X2_mostOf
set_option maxRecDepth 20000 in
theorem ggX2_readLine_X5_within : GoodIn wsX2_readLine wsX5_within := goodIn_r _ [20] (by decide +kernel) (by decide +kernel)
set_option maxRecDepth 20000 in
theorem gX2_readLine_X5_within_n73 : GoodIn wsX2_readLine (wsX5_within) := ggX2_readLine_X5_within
set_option maxRecDepth 20000 in
theorem ggX2_readLine_X2_number : GoodIn wsX2_readLine wsX2_number := goodIn_r _ [98, 4, 99, 100, 101, 102, 103, 104, 105, 106, 107] (by decide +kernel) (by decide +kernel)
set_option maxRecDepth 20000 in
theorem gX2_readLine_X2_number : GoodIn wsX2_readLine (wsV RX2 77 RX2 yX2_number wsX2_number) := goodIn_app (goodIn_of _ (by decide +kernel)) ggX2_readLine_X2_number
theorem dX2_readLine_0 : decode cX2_readLine 0 = .ok (.aload_n 0, 1) := by decide +kernel
theorem dX2_readLine_1 : decode cX2_readLine 1 = .ok (.invokevirtual 44, 3) := by decide +kernel
theorem dX2_readLine_4 : decode cX2_readLine 4 = .ok (.aload_n 0, 1) := by decide +kernel
theorem dX2_readLine_5 : decode cX2_readLine 5 = .ok (.invokevirtual 47, 3) := by decide +kernel
theorem dX2_readLine_8 : decode cX2_readLine 8 = .ok (.istore_n 1, 1) := by decide +kernel
theorem dX2_readLine_9 : decode cX2_readLine 9 = .ok (.iload_n 1, 1) := by decide +kernel
theorem dX2_readLine_10 : decode cX2_readLine 10 = .ok (.iconst (-1), 1) := by decide +kernel
theorem dX2_readLine_11 : decode cX2_readLine 11 = .ok (.if_icmp .eq 17, 3) := by decide +kernel
theorem dX2_readLine_14 : decode cX2_readLine 14 = .ok (.iload_n 1, 1) := by decide +kernel
theorem dX2_readLine_15 : decode cX2_readLine 15 = .ok (.iconst 3, 1) := by decide +kernel
theorem dX2_readLine_16 : decode cX2_readLine 16 = .ok (.if_icmp .gt 14, 3) := by decide +kernel
theorem dX2_readLine_19 : decode cX2_readLine 19 = .ok (.aload_n 0, 1) := by decide +kernel
theorem dX2_readLine_20 : decode cX2_readLine 20 = .ok (.getfield 28, 3) := by decide +kernel
theorem dX2_readLine_23 : decode cX2_readLine 23 = .ok (.bipush 6, 2) := by decide +kernel
theorem dX2_readLine_25 : decode cX2_readLine 25 = .ok (.if_icmp .ne 5, 3) := by decide +kernel
theorem dX2_readLine_28 : decode cX2_readLine 28 = .ok (.iconst 0, 1) := by decide +kernel
theorem dX2_readLine_29 : decode cX2_readLine 29 = .ok (.ireturn, 1) := by decide +kernel
theorem dX2_readLine_30 : decode cX2_readLine 30 = .ok (.aload_n 0, 1) := by decide +kernel
theorem dX2_readLine_31 : decode cX2_readLine 31 = .ok (.getfield 15, 3) := by decide +kernel
theorem dX2_readLine_34 : decode cX2_readLine 34 = .ok (.aload_n 0, 1) := by decide +kernel
theorem dX2_readLine_35 : decode cX2_readLine 35 = .ok (.getfield 31, 3) := by decide +kernel
theorem dX2_readLine_38 : decode cX2_readLine 38 = .ok (.iload_n 1, 1) := by decide +kernel
theorem dX2_readLine_39 : decode cX2_readLine 39 = .ok (.iastore, 1) := by decide +kernel
theorem dX2_readLine_40 : decode cX2_readLine 40 = .ok (.iload_n 1, 1) := by decide +kernel
theorem dX2_readLine_41 : decode cX2_readLine 41 = .ok (.invokestatic 51, 3) := by decide +kernel
theorem dX2_readLine_44 : decode cX2_readLine 44 = .ok (.astore_n 2, 1) := by decide +kernel
theorem dX2_readLine_45 : decode cX2_readLine 45 = .ok (.iconst 0, 1) := by decide +kernel
theorem dX2_readLine_46 : decode cX2_readLine 46 = .ok (.istore_n 3, 1) := by decide +kernel
theorem dX2_readLine_47 : decode cX2_readLine 47 = .ok (.iload_n 3, 1) := by decide +kernel
theorem dX2_readLine_48 : decode cX2_readLine 48 = .ok (.aload_n 2, 1) := by decide +kernel
theorem dX2_readLine_49 : decode cX2_readLine 49 = .ok (.invokevirtual 55, 3) := by decide +kernel
theorem dX2_readLine_52 : decode cX2_readLine 52 = .ok (.if_icmp .ge 88, 3) := by decide +kernel
theorem dX2_readLine_55 : decode cX2_readLine 55 = .ok (.aload_n 0, 1) := by decide +kernel
theorem dX2_readLine_56 : decode cX2_readLine 56 = .ok (.invokevirtual 44, 3) := by decide +kernel
theorem dX2_readLine_59 : decode cX2_readLine 59 = .ok (.aload_n 0, 1) := by decide +kernel
theorem dX2_readLine_60 : decode cX2_readLine 60 = .ok (.invokevirtual 59, 3) := by decide +kernel
theorem dX2_readLine_63 : decode cX2_readLine 63 = .ok (.istore 4, 2) := by decide +kernel
theorem dX2_readLine_65 : decode cX2_readLine 65 = .ok (.iload 4, 2) := by decide +kernel
theorem dX2_readLine_67 : decode cX2_readLine 67 = .ok (.aload_n 2, 1) := by decide +kernel
theorem dX2_readLine_68 : decode cX2_readLine 68 = .ok (.iload_n 3, 1) := by decide +kernel
theorem dX2_readLine_69 : decode cX2_readLine 69 = .ok (.invokevirtual 62, 3) := by decide +kernel
theorem dX2_readLine_72 : decode cX2_readLine 72 = .ok (.invokestatic 66, 3) := by decide +kernel
theorem dX2_readLine_75 : decode cX2_readLine 75 = .ok (.aload_n 0, 1) := by decide +kernel
theorem dX2_readLine_76 : decode cX2_readLine 76 = .ok (.aload_n 2, 1) := by decide +kernel
theorem dX2_readLine_77 : decode cX2_readLine 77 = .ok (.iload_n 3, 1) := by decide +kernel
theorem dX2_readLine_78 : decode cX2_readLine 78 = .ok (.invokevirtual 62, 3) := by decide +kernel
theorem dX2_readLine_81 : decode cX2_readLine 81 = .ok (.invokevirtual 70, 3) := by decide +kernel
theorem dX2_readLine_84 : decode cX2_readLine 84 = .ok (.invokestatic 73, 3) := by decide +kernel
theorem dX2_readLine_87 : decode cX2_readLine 87 = .ok (.ifCond .ne 5, 3) := by decide +kernel
theorem dX2_readLine_90 : decode cX2_readLine 90 = .ok (.iconst 0, 1) := by decide +kernel
theorem dX2_readLine_91 : decode cX2_readLine 91 = .ok (.ireturn, 1) := by decide +kernel
theorem dX2_readLine_92 : decode cX2_readLine 92 = .ok (.iload_n 1, 1) := by decide +kernel
theorem dX2_readLine_93 : decode cX2_readLine 93 = .ok (.bipush 10, 2) := by decide +kernel
theorem dX2_readLine_95 : decode cX2_readLine 95 = .ok (.if_icmp .ne 24, 3) := by decide +kernel
theorem dX2_readLine_98 : decode cX2_readLine 98 = .ok (.iload_n 3, 1) := by decide +kernel
theorem dX2_readLine_99 : decode cX2_readLine 99 = .ok (.iconst 1, 1) := by decide +kernel
theorem dX2_readLine_100 : decode cX2_readLine 100 = .ok (.if_icmp .ne 19, 3) := by decide +kernel
theorem dX2_readLine_103 : decode cX2_readLine 103 = .ok (.iload 4, 2) := by decide +kernel
theorem dX2_readLine_105 : decode cX2_readLine 105 = .ok (.aload_n 0, 1) := by decide +kernel
theorem dX2_readLine_106 : decode cX2_readLine 106 = .ok (.aload_n 0, 1) := by decide +kernel
theorem dX2_readLine_107 : decode cX2_readLine 107 = .ok (.getfield 31, 3) := by decide +kernel
theorem dX2_readLine_110 : decode cX2_readLine 110 = .ok (.iconst 0, 1) := by decide +kernel
theorem dX2_readLine_111 : decode cX2_readLine 111 = .ok (.invokevirtual 77, 3) := by decide +kernel
theorem dX2_readLine_114 : decode cX2_readLine 114 = .ok (.if_icmp .ne 5, 3) := by decide +kernel
theorem dX2_readLine_117 : decode cX2_readLine 117 = .ok (.iconst 0, 1) := by decide +kernel
theorem dX2_readLine_118 : decode cX2_readLine 118 = .ok (.ireturn, 1) := by decide +kernel
theorem dX2_readLine_119 : decode cX2_readLine 119 = .ok (.aload_n 0, 1) := by decide +kernel
theorem dX2_readLine_120 : decode cX2_readLine 120 = .ok (.getfield 18, 3) := by decide +kernel
theorem dX2_readLine_123 : decode cX2_readLine 123 = .ok (.aload_n 0, 1) := by decide +kernel
theorem dX2_readLine_124 : decode cX2_readLine 124 = .ok (.getfield 31, 3) := by decide +kernel
theorem dX2_readLine_127 : decode cX2_readLine 127 = .ok (.iconst 4, 1) := by decide +kernel
theorem dX2_readLine_128 : decode cX2_readLine 128 = .ok (.imul, 1) := by decide +kernel
theorem dX2_readLine_129 : decode cX2_readLine 129 = .ok (.iload_n 3, 1) := by decide +kernel
theorem dX2_readLine_130 : decode cX2_readLine 130 = .ok (.iadd, 1) := by decide +kernel
theorem dX2_readLine_131 : decode cX2_readLine 131 = .ok (.iload 4, 2) := by decide +kernel
theorem dX2_readLine_133 : decode cX2_readLine 133 = .ok (.iastore, 1) := by decide +kernel
theorem dX2_readLine_134 : decode cX2_readLine 134 = .ok (.iinc 3 1, 3) := by decide +kernel
theorem dX2_readLine_137 : decode cX2_readLine 137 = .ok (.goto (-90), 3) := by decide +kernel
theorem dX2_readLine_140 : decode cX2_readLine 140 = .ok (.iload_n 1, 1) := by decide +kernel
theorem dX2_readLine_141 : decode cX2_readLine 141 = .ok (.iconst 4, 1) := by decide +kernel
theorem dX2_readLine_142 : decode cX2_readLine 142 = .ok (.if_icmp .ne 24, 3) := by decide +kernel
theorem dX2_readLine_145 : decode cX2_readLine 145 = .ok (.aload_n 0, 1) := by decide +kernel
theorem dX2_readLine_146 : decode cX2_readLine 146 = .ok (.aload_n 0, 1) := by decide +kernel
theorem dX2_readLine_147 : decode cX2_readLine 147 = .ok (.aload_n 0, 1) := by decide +kernel
theorem dX2_readLine_148 : decode cX2_readLine 148 = .ok (.getfield 31, 3) := by decide +kernel
theorem dX2_readLine_151 : decode cX2_readLine 151 = .ok (.iconst 0, 1) := by decide +kernel
theorem dX2_readLine_152 : decode cX2_readLine 152 = .ok (.invokevirtual 77, 3) := by decide +kernel
theorem dX2_readLine_155 : decode cX2_readLine 155 = .ok (.putfield 25, 3) := by decide +kernel
theorem dX2_readLine_158 : decode cX2_readLine 158 = .ok (.aload_n 0, 1) := by decide +kernel
theorem dX2_readLine_159 : decode cX2_readLine 159 = .ok (.iconst 0, 1) := by decide +kernel
theorem dX2_readLine_160 : decode cX2_readLine 160 = .ok (.putfield 28, 3) := by decide +kernel
theorem dX2_readLine_163 : decode cX2_readLine 163 = .ok (.goto 18, 3) := by decide +kernel
theorem dX2_readLine_166 : decode cX2_readLine 166 = .ok (.iload_n 1, 1) := by decide +kernel
theorem dX2_readLine_167 : decode cX2_readLine 167 = .ok (.iconst 3, 1) := by decide +kernel
theorem dX2_readLine_168 : decode cX2_readLine 168 = .ok (.if_icmp .gt 13, 3) := by decide +kernel
theorem dX2_readLine_171 : decode cX2_readLine 171 = .ok (.aload_n 0, 1) := by decide +kernel
theorem dX2_readLine_172 : decode cX2_readLine 172 = .ok (.dup, 1) := by decide +kernel
theorem dX2_readLine_173 : decode cX2_readLine 173 = .ok (.getfield 28, 3) := by decide +kernel
theorem dX2_readLine_176 : decode cX2_readLine 176 = .ok (.iconst 1, 1) := by decide +kernel
theorem dX2_readLine_177 : decode cX2_readLine 177 = .ok (.iadd, 1) := by decide +kernel
theorem dX2_readLine_178 : decode cX2_readLine 178 = .ok (.putfield 28, 3) := by decide +kernel
theorem dX2_readLine_181 : decode cX2_readLine 181 = .ok (.iconst 1, 1) := by decide +kernel
theorem dX2_readLine_182 : decode cX2_readLine 182 = .ok (.ireturn, 1) := by decide +kernel
set_option maxRecDepth 20000 in
theorem ggX2_readToken_X2_sortOf : GoodIn wsX2_readToken wsX2_sortOf := goodIn_r _ [8, 9, 10, 11] (by decide +kernel) (by decide +kernel)
set_option maxRecDepth 20000 in
theorem gX2_readToken_X2_sortOf : GoodIn wsX2_readToken (va_wsS RX2 81 yX2_sortOf wsX2_sortOf) := goodIn_app (goodIn_of _ (by decide +kernel)) ggX2_readToken_X2_sortOf
theorem dX2_readToken_0 : decode cX2_readToken 0 = .ok (.aload_n 0, 1) := by decide +kernel
theorem dX2_readToken_1 : decode cX2_readToken 1 = .ok (.aload_n 0, 1) := by decide +kernel
theorem dX2_readToken_2 : decode cX2_readToken 2 = .ok (.getfield 34, 3) := by decide +kernel
theorem dX2_readToken_5 : decode cX2_readToken 5 = .ok (.putfield 41, 3) := by decide +kernel
theorem dX2_readToken_8 : decode cX2_readToken 8 = .ok (.aload_n 0, 1) := by decide +kernel
theorem dX2_readToken_9 : decode cX2_readToken 9 = .ok (.getfield 41, 3) := by decide +kernel
theorem dX2_readToken_12 : decode cX2_readToken 12 = .ok (.aload_n 0, 1) := by decide +kernel
theorem dX2_readToken_13 : decode cX2_readToken 13 = .ok (.getfield 21, 3) := by decide +kernel
theorem dX2_readToken_16 : decode cX2_readToken 16 = .ok (.if_icmp .ge 30, 3) := by decide +kernel
theorem dX2_readToken_19 : decode cX2_readToken 19 = .ok (.aload_n 0, 1) := by decide +kernel
theorem dX2_readToken_20 : decode cX2_readToken 20 = .ok (.getfield 9, 3) := by decide +kernel
theorem dX2_readToken_23 : decode cX2_readToken 23 = .ok (.aload_n 0, 1) := by decide +kernel
theorem dX2_readToken_24 : decode cX2_readToken 24 = .ok (.getfield 41, 3) := by decide +kernel
theorem dX2_readToken_27 : decode cX2_readToken 27 = .ok (.iaload, 1) := by decide +kernel
theorem dX2_readToken_28 : decode cX2_readToken 28 = .ok (.bipush 32, 2) := by decide +kernel
theorem dX2_readToken_30 : decode cX2_readToken 30 = .ok (.if_icmp .ne 16, 3) := by decide +kernel
theorem dX2_readToken_33 : decode cX2_readToken 33 = .ok (.aload_n 0, 1) := by decide +kernel
theorem dX2_readToken_34 : decode cX2_readToken 34 = .ok (.dup, 1) := by decide +kernel
theorem dX2_readToken_35 : decode cX2_readToken 35 = .ok (.getfield 41, 3) := by decide +kernel
theorem dX2_readToken_38 : decode cX2_readToken 38 = .ok (.iconst 1, 1) := by decide +kernel
theorem dX2_readToken_39 : decode cX2_readToken 39 = .ok (.iadd, 1) := by decide +kernel
theorem dX2_readToken_40 : decode cX2_readToken 40 = .ok (.putfield 41, 3) := by decide +kernel
theorem dX2_readToken_43 : decode cX2_readToken 43 = .ok (.goto (-35), 3) := by decide +kernel
theorem dX2_readToken_46 : decode cX2_readToken 46 = .ok (.aload_n 0, 1) := by decide +kernel
theorem dX2_readToken_47 : decode cX2_readToken 47 = .ok (.aload_n 0, 1) := by decide +kernel
theorem dX2_readToken_48 : decode cX2_readToken 48 = .ok (.getfield 41, 3) := by decide +kernel
theorem dX2_readToken_51 : decode cX2_readToken 51 = .ok (.putfield 34, 3) := by decide +kernel
theorem dX2_readToken_54 : decode cX2_readToken 54 = .ok (.aload_n 0, 1) := by decide +kernel
theorem dX2_readToken_55 : decode cX2_readToken 55 = .ok (.getfield 41, 3) := by decide +kernel
theorem dX2_readToken_58 : decode cX2_readToken 58 = .ok (.aload_n 0, 1) := by decide +kernel
theorem dX2_readToken_59 : decode cX2_readToken 59 = .ok (.getfield 21, 3) := by decide +kernel
theorem dX2_readToken_62 : decode cX2_readToken 62 = .ok (.if_icmp .ne 4, 3) := by decide +kernel
theorem dX2_readToken_65 : decode cX2_readToken 65 = .ok (.return_, 1) := by decide +kernel
theorem dX2_readToken_66 : decode cX2_readToken 66 = .ok (.aload_n 0, 1) := by decide +kernel
theorem dX2_readToken_67 : decode cX2_readToken 67 = .ok (.getfield 9, 3) := by decide +kernel
theorem dX2_readToken_70 : decode cX2_readToken 70 = .ok (.aload_n 0, 1) := by decide +kernel
theorem dX2_readToken_71 : decode cX2_readToken 71 = .ok (.getfield 41, 3) := by decide +kernel
theorem dX2_readToken_74 : decode cX2_readToken 74 = .ok (.iaload, 1) := by decide +kernel
theorem dX2_readToken_75 : decode cX2_readToken 75 = .ok (.invokestatic 81, 3) := by decide +kernel
theorem dX2_readToken_78 : decode cX2_readToken 78 = .ok (.istore_n 1, 1) := by decide +kernel
theorem dX2_readToken_79 : decode cX2_readToken 79 = .ok (.aload_n 0, 1) := by decide +kernel
theorem dX2_readToken_80 : decode cX2_readToken 80 = .ok (.dup, 1) := by decide +kernel
theorem dX2_readToken_81 : decode cX2_readToken 81 = .ok (.getfield 34, 3) := by decide +kernel
theorem dX2_readToken_84 : decode cX2_readToken 84 = .ok (.iconst 1, 1) := by decide +kernel
theorem dX2_readToken_85 : decode cX2_readToken 85 = .ok (.iadd, 1) := by decide +kernel
theorem dX2_readToken_86 : decode cX2_readToken 86 = .ok (.putfield 34, 3) := by decide +kernel
theorem dX2_readToken_89 : decode cX2_readToken 89 = .ok (.iload_n 1, 1) := by decide +kernel
theorem dX2_readToken_90 : decode cX2_readToken 90 = .ok (.iconst 2, 1) := by decide +kernel
theorem dX2_readToken_91 : decode cX2_readToken 91 = .ok (.if_icmp .eq 43, 3) := by decide +kernel
theorem dX2_readToken_94 : decode cX2_readToken 94 = .ok (.aload_n 0, 1) := by decide +kernel
theorem dX2_readToken_95 : decode cX2_readToken 95 = .ok (.getfield 34, 3) := by decide +kernel
theorem dX2_readToken_98 : decode cX2_readToken 98 = .ok (.aload_n 0, 1) := by decide +kernel
theorem dX2_readToken_99 : decode cX2_readToken 99 = .ok (.getfield 21, 3) := by decide +kernel
theorem dX2_readToken_102 : decode cX2_readToken 102 = .ok (.if_icmp .ge 32, 3) := by decide +kernel
theorem dX2_readToken_105 : decode cX2_readToken 105 = .ok (.aload_n 0, 1) := by decide +kernel
theorem dX2_readToken_106 : decode cX2_readToken 106 = .ok (.getfield 9, 3) := by decide +kernel
theorem dX2_readToken_109 : decode cX2_readToken 109 = .ok (.aload_n 0, 1) := by decide +kernel
theorem dX2_readToken_110 : decode cX2_readToken 110 = .ok (.getfield 34, 3) := by decide +kernel
theorem dX2_readToken_113 : decode cX2_readToken 113 = .ok (.iaload, 1) := by decide +kernel
theorem dX2_readToken_114 : decode cX2_readToken 114 = .ok (.invokestatic 81, 3) := by decide +kernel
theorem dX2_readToken_117 : decode cX2_readToken 117 = .ok (.iload_n 1, 1) := by decide +kernel
theorem dX2_readToken_118 : decode cX2_readToken 118 = .ok (.if_icmp .ne 16, 3) := by decide +kernel
theorem dX2_readToken_121 : decode cX2_readToken 121 = .ok (.aload_n 0, 1) := by decide +kernel
theorem dX2_readToken_122 : decode cX2_readToken 122 = .ok (.dup, 1) := by decide +kernel
theorem dX2_readToken_123 : decode cX2_readToken 123 = .ok (.getfield 34, 3) := by decide +kernel
theorem dX2_readToken_126 : decode cX2_readToken 126 = .ok (.iconst 1, 1) := by decide +kernel
theorem dX2_readToken_127 : decode cX2_readToken 127 = .ok (.iadd, 1) := by decide +kernel
theorem dX2_readToken_128 : decode cX2_readToken 128 = .ok (.putfield 34, 3) := by decide +kernel
theorem dX2_readToken_131 : decode cX2_readToken 131 = .ok (.goto (-42), 3) := by decide +kernel
theorem dX2_readToken_134 : decode cX2_readToken 134 = .ok (.return_, 1) := by decide +kernel
set_option maxRecDepth 20000 in
theorem ggX2_sortOf_X5_within : GoodIn wsX2_sortOf wsX5_within := goodIn_r _ [3] (by decide +kernel) (by decide +kernel)
set_option maxRecDepth 20000 in
theorem gX2_sortOf_X5_within_n73 : GoodIn wsX2_sortOf (wsX5_within) := ggX2_sortOf_X5_within
theorem dX2_sortOf_0 : decode cX2_sortOf 0 = .ok (.iload_n 0, 1) := by decide +kernel
theorem dX2_sortOf_1 : decode cX2_sortOf 1 = .ok (.bipush 97, 2) := by decide +kernel
theorem dX2_sortOf_3 : decode cX2_sortOf 3 = .ok (.bipush 122, 2) := by decide +kernel
theorem dX2_sortOf_5 : decode cX2_sortOf 5 = .ok (.invokestatic 73, 3) := by decide +kernel
theorem dX2_sortOf_8 : decode cX2_sortOf 8 = .ok (.ifCond .eq 5, 3) := by decide +kernel
theorem dX2_sortOf_11 : decode cX2_sortOf 11 = .ok (.iconst 0, 1) := by decide +kernel
theorem dX2_sortOf_12 : decode cX2_sortOf 12 = .ok (.ireturn, 1) := by decide +kernel
theorem dX2_sortOf_13 : decode cX2_sortOf 13 = .ok (.iload_n 0, 1) := by decide +kernel
theorem dX2_sortOf_14 : decode cX2_sortOf 14 = .ok (.bipush 48, 2) := by decide +kernel
theorem dX2_sortOf_16 : decode cX2_sortOf 16 = .ok (.bipush 57, 2) := by decide +kernel
theorem dX2_sortOf_18 : decode cX2_sortOf 18 = .ok (.invokestatic 73, 3) := by decide +kernel
theorem dX2_sortOf_21 : decode cX2_sortOf 21 = .ok (.ifCond .eq 7, 3) := by decide +kernel
theorem dX2_sortOf_24 : decode cX2_sortOf 24 = .ok (.iconst 1, 1) := by decide +kernel
theorem dX2_sortOf_25 : decode cX2_sortOf 25 = .ok (.goto 4, 3) := by decide +kernel
theorem dX2_sortOf_28 : decode cX2_sortOf 28 = .ok (.iconst 2, 1) := by decide +kernel
theorem dX2_sortOf_29 : decode cX2_sortOf 29 = .ok (.ireturn, 1) := by decide +kernel
set_option maxRecDepth 20000 in
theorem ggX2_wordRead_X2_spellingOf : GoodIn wsX2_wordRead wsX2_spellingOf := goodIn_r _ [4] (by decide +kernel) (by decide +kernel)
set_option maxRecDepth 20000 in
theorem gX2_wordRead_X2_spellingOf : GoodIn wsX2_wordRead (va_wsS RX2 85 yX2_spellingOf wsX2_spellingOf) := goodIn_app (goodIn_of _ (by decide +kernel)) ggX2_wordRead_X2_spellingOf
set_option maxRecDepth 20000 in
theorem ggX2_wordRead_X2_spells : GoodIn wsX2_wordRead wsX2_spells := goodIn_r _ [8, 9, 10, 11, 12, 13, 14, 15, 16, 17, 18, 19, 20, 21, 22, 23, 24, 25, 26, 27, 28, 29, 30, 31, 32, 33, 34, 35, 36, 37, 38, 39, 40, 41, 42, 43, 44, 45, 46, 47, 48, 49, 50, 51, 52, 53, 54, 55, 56, 57, 58, 59, 60, 61, 62, 63, 64, 65, 66, 67, 68, 69] (by decide +kernel) (by decide +kernel)
set_option maxRecDepth 20000 in
theorem gX2_wordRead_X2_spells : GoodIn wsX2_wordRead (wsV RX2 88 RX2 yX2_spells wsX2_spells) := goodIn_app (goodIn_of _ (by decide +kernel)) ggX2_wordRead_X2_spells
theorem dX2_wordRead_0 : decode cX2_wordRead 0 = .ok (.iconst 0, 1) := by decide +kernel
theorem dX2_wordRead_1 : decode cX2_wordRead 1 = .ok (.istore_n 1, 1) := by decide +kernel
theorem dX2_wordRead_2 : decode cX2_wordRead 2 = .ok (.iload_n 1, 1) := by decide +kernel
theorem dX2_wordRead_3 : decode cX2_wordRead 3 = .ok (.bipush 12, 2) := by decide +kernel
theorem dX2_wordRead_5 : decode cX2_wordRead 5 = .ok (.if_icmp .gt 22, 3) := by decide +kernel
theorem dX2_wordRead_8 : decode cX2_wordRead 8 = .ok (.aload_n 0, 1) := by decide +kernel
theorem dX2_wordRead_9 : decode cX2_wordRead 9 = .ok (.iload_n 1, 1) := by decide +kernel
theorem dX2_wordRead_10 : decode cX2_wordRead 10 = .ok (.invokestatic 85, 3) := by decide +kernel
theorem dX2_wordRead_13 : decode cX2_wordRead 13 = .ok (.invokevirtual 88, 3) := by decide +kernel
theorem dX2_wordRead_16 : decode cX2_wordRead 16 = .ok (.ifCond .eq 5, 3) := by decide +kernel
theorem dX2_wordRead_19 : decode cX2_wordRead 19 = .ok (.iload_n 1, 1) := by decide +kernel
theorem dX2_wordRead_20 : decode cX2_wordRead 20 = .ok (.ireturn, 1) := by decide +kernel
theorem dX2_wordRead_21 : decode cX2_wordRead 21 = .ok (.iinc 1 1, 3) := by decide +kernel
theorem dX2_wordRead_24 : decode cX2_wordRead 24 = .ok (.goto (-22), 3) := by decide +kernel
theorem dX2_wordRead_27 : decode cX2_wordRead 27 = .ok (.iconst (-1), 1) := by decide +kernel
theorem dX2_wordRead_28 : decode cX2_wordRead 28 = .ok (.ireturn, 1) := by decide +kernel
set_option maxRecDepth 20000 in
theorem ggX2_spells_J0_length_8abf5 : GoodIn wsX2_spells wsJ0_length_8abf5 := goodIn_r _ [8, 9, 10, 11, 12, 7, 13, 14, 15] (by decide +kernel) (by decide +kernel)
set_option maxRecDepth 20000 in
theorem gX2_spells_J0_length_8abf5 : GoodIn wsX2_spells (wsV RX2 55 RJ0 yJ0_length_8abf5 wsJ0_length_8abf5) := goodIn_app (goodIn_of _ (by decide +kernel)) ggX2_spells_J0_length_8abf5
set_option maxRecDepth 20000 in
theorem ggX2_spells_J0_charAt_5068e : GoodIn wsX2_spells wsJ0_charAt_5068e := goodIn_r _ [19, 9, 20, 21, 22, 7, 23, 14, 15, 24, 25, 26, 27, 28, 29, 30, 31, 32, 33, 34, 35, 36, 37, 38, 39, 40, 41, 42, 43, 44, 45, 46, 47, 48, 49, 50, 51, 52] (by decide +kernel) (by decide +kernel)
set_option maxRecDepth 20000 in
theorem gX2_spells_J0_charAt_5068e : GoodIn wsX2_spells (wsV RX2 62 RJ0 yJ0_charAt_5068e wsJ0_charAt_5068e) := goodIn_app (goodIn_of _ (by decide +kernel)) ggX2_spells_J0_charAt_5068e
theorem dX2_spells_0 : decode cX2_spells 0 = .ok (.aload_n 0, 1) := by decide +kernel
theorem dX2_spells_1 : decode cX2_spells 1 = .ok (.getfield 34, 3) := by decide +kernel
theorem dX2_spells_4 : decode cX2_spells 4 = .ok (.aload_n 0, 1) := by decide +kernel
theorem dX2_spells_5 : decode cX2_spells 5 = .ok (.getfield 41, 3) := by decide +kernel
theorem dX2_spells_8 : decode cX2_spells 8 = .ok (.isub, 1) := by decide +kernel
theorem dX2_spells_9 : decode cX2_spells 9 = .ok (.aload_n 1, 1) := by decide +kernel
theorem dX2_spells_10 : decode cX2_spells 10 = .ok (.invokevirtual 55, 3) := by decide +kernel
theorem dX2_spells_13 : decode cX2_spells 13 = .ok (.if_icmp .eq 5, 3) := by decide +kernel
theorem dX2_spells_16 : decode cX2_spells 16 = .ok (.iconst 0, 1) := by decide +kernel
theorem dX2_spells_17 : decode cX2_spells 17 = .ok (.ireturn, 1) := by decide +kernel
theorem dX2_spells_18 : decode cX2_spells 18 = .ok (.iconst 0, 1) := by decide +kernel
theorem dX2_spells_19 : decode cX2_spells 19 = .ok (.istore_n 2, 1) := by decide +kernel
theorem dX2_spells_20 : decode cX2_spells 20 = .ok (.iload_n 2, 1) := by decide +kernel
theorem dX2_spells_21 : decode cX2_spells 21 = .ok (.aload_n 1, 1) := by decide +kernel
theorem dX2_spells_22 : decode cX2_spells 22 = .ok (.invokevirtual 55, 3) := by decide +kernel
theorem dX2_spells_25 : decode cX2_spells 25 = .ok (.if_icmp .ge 30, 3) := by decide +kernel
theorem dX2_spells_28 : decode cX2_spells 28 = .ok (.aload_n 0, 1) := by decide +kernel
theorem dX2_spells_29 : decode cX2_spells 29 = .ok (.getfield 9, 3) := by decide +kernel
theorem dX2_spells_32 : decode cX2_spells 32 = .ok (.aload_n 0, 1) := by decide +kernel
theorem dX2_spells_33 : decode cX2_spells 33 = .ok (.getfield 41, 3) := by decide +kernel
theorem dX2_spells_36 : decode cX2_spells 36 = .ok (.iload_n 2, 1) := by decide +kernel
theorem dX2_spells_37 : decode cX2_spells 37 = .ok (.iadd, 1) := by decide +kernel
theorem dX2_spells_38 : decode cX2_spells 38 = .ok (.iaload, 1) := by decide +kernel
theorem dX2_spells_39 : decode cX2_spells 39 = .ok (.aload_n 1, 1) := by decide +kernel
theorem dX2_spells_40 : decode cX2_spells 40 = .ok (.iload_n 2, 1) := by decide +kernel
theorem dX2_spells_41 : decode cX2_spells 41 = .ok (.invokevirtual 62, 3) := by decide +kernel
theorem dX2_spells_44 : decode cX2_spells 44 = .ok (.if_icmp .eq 5, 3) := by decide +kernel
theorem dX2_spells_47 : decode cX2_spells 47 = .ok (.iconst 0, 1) := by decide +kernel
theorem dX2_spells_48 : decode cX2_spells 48 = .ok (.ireturn, 1) := by decide +kernel
theorem dX2_spells_49 : decode cX2_spells 49 = .ok (.iinc 2 1, 3) := by decide +kernel
theorem dX2_spells_52 : decode cX2_spells 52 = .ok (.goto (-32), 3) := by decide +kernel
theorem dX2_spells_55 : decode cX2_spells 55 = .ok (.iconst 1, 1) := by decide +kernel
theorem dX2_spells_56 : decode cX2_spells 56 = .ok (.ireturn, 1) := by decide +kernel
set_option maxRecDepth 20000 in
theorem ggX2_numberRead_X5_within : GoodIn wsX2_numberRead wsX5_within := goodIn_r _ [6] (by decide +kernel) (by decide +kernel)
set_option maxRecDepth 20000 in
theorem gX2_numberRead_X5_within_n73 : GoodIn wsX2_numberRead (wsX5_within) := ggX2_numberRead_X5_within
set_option maxRecDepth 20000 in
theorem ggX2_numberRead_X2_sortOf : GoodIn wsX2_numberRead wsX2_sortOf := goodIn_r _ [10, 4, 5, 6] (by decide +kernel) (by decide +kernel)
set_option maxRecDepth 20000 in
theorem gX2_numberRead_X2_sortOf : GoodIn wsX2_numberRead (va_wsS RX2 81 yX2_sortOf wsX2_sortOf) := goodIn_app (goodIn_of _ (by decide +kernel)) ggX2_numberRead_X2_sortOf
theorem dX2_numberRead_0 : decode cX2_numberRead 0 = .ok (.aload_n 0, 1) := by decide +kernel
theorem dX2_numberRead_1 : decode cX2_numberRead 1 = .ok (.getfield 34, 3) := by decide +kernel
theorem dX2_numberRead_4 : decode cX2_numberRead 4 = .ok (.aload_n 0, 1) := by decide +kernel
theorem dX2_numberRead_5 : decode cX2_numberRead 5 = .ok (.getfield 41, 3) := by decide +kernel
theorem dX2_numberRead_8 : decode cX2_numberRead 8 = .ok (.isub, 1) := by decide +kernel
theorem dX2_numberRead_9 : decode cX2_numberRead 9 = .ok (.iconst 1, 1) := by decide +kernel
theorem dX2_numberRead_10 : decode cX2_numberRead 10 = .ok (.iconst 2, 1) := by decide +kernel
theorem dX2_numberRead_11 : decode cX2_numberRead 11 = .ok (.invokestatic 73, 3) := by decide +kernel
theorem dX2_numberRead_14 : decode cX2_numberRead 14 = .ok (.ifCond .eq 19, 3) := by decide +kernel
theorem dX2_numberRead_17 : decode cX2_numberRead 17 = .ok (.aload_n 0, 1) := by decide +kernel
theorem dX2_numberRead_18 : decode cX2_numberRead 18 = .ok (.getfield 9, 3) := by decide +kernel
theorem dX2_numberRead_21 : decode cX2_numberRead 21 = .ok (.aload_n 0, 1) := by decide +kernel
theorem dX2_numberRead_22 : decode cX2_numberRead 22 = .ok (.getfield 41, 3) := by decide +kernel
theorem dX2_numberRead_25 : decode cX2_numberRead 25 = .ok (.iaload, 1) := by decide +kernel
theorem dX2_numberRead_26 : decode cX2_numberRead 26 = .ok (.invokestatic 81, 3) := by decide +kernel
theorem dX2_numberRead_29 : decode cX2_numberRead 29 = .ok (.iconst 1, 1) := by decide +kernel
theorem dX2_numberRead_30 : decode cX2_numberRead 30 = .ok (.if_icmp .eq 5, 3) := by decide +kernel
theorem dX2_numberRead_33 : decode cX2_numberRead 33 = .ok (.iconst (-1), 1) := by decide +kernel
theorem dX2_numberRead_34 : decode cX2_numberRead 34 = .ok (.ireturn, 1) := by decide +kernel
theorem dX2_numberRead_35 : decode cX2_numberRead 35 = .ok (.iconst 0, 1) := by decide +kernel
theorem dX2_numberRead_36 : decode cX2_numberRead 36 = .ok (.istore_n 1, 1) := by decide +kernel
theorem dX2_numberRead_37 : decode cX2_numberRead 37 = .ok (.aload_n 0, 1) := by decide +kernel
theorem dX2_numberRead_38 : decode cX2_numberRead 38 = .ok (.getfield 41, 3) := by decide +kernel
theorem dX2_numberRead_41 : decode cX2_numberRead 41 = .ok (.istore_n 2, 1) := by decide +kernel
theorem dX2_numberRead_42 : decode cX2_numberRead 42 = .ok (.iload_n 2, 1) := by decide +kernel
theorem dX2_numberRead_43 : decode cX2_numberRead 43 = .ok (.aload_n 0, 1) := by decide +kernel
theorem dX2_numberRead_44 : decode cX2_numberRead 44 = .ok (.getfield 34, 3) := by decide +kernel
theorem dX2_numberRead_47 : decode cX2_numberRead 47 = .ok (.if_icmp .ge 24, 3) := by decide +kernel
theorem dX2_numberRead_50 : decode cX2_numberRead 50 = .ok (.iload_n 1, 1) := by decide +kernel
theorem dX2_numberRead_51 : decode cX2_numberRead 51 = .ok (.bipush 10, 2) := by decide +kernel
theorem dX2_numberRead_53 : decode cX2_numberRead 53 = .ok (.imul, 1) := by decide +kernel
theorem dX2_numberRead_54 : decode cX2_numberRead 54 = .ok (.aload_n 0, 1) := by decide +kernel
theorem dX2_numberRead_55 : decode cX2_numberRead 55 = .ok (.getfield 9, 3) := by decide +kernel
theorem dX2_numberRead_58 : decode cX2_numberRead 58 = .ok (.iload_n 2, 1) := by decide +kernel
theorem dX2_numberRead_59 : decode cX2_numberRead 59 = .ok (.iaload, 1) := by decide +kernel
theorem dX2_numberRead_60 : decode cX2_numberRead 60 = .ok (.iadd, 1) := by decide +kernel
theorem dX2_numberRead_61 : decode cX2_numberRead 61 = .ok (.bipush 48, 2) := by decide +kernel
theorem dX2_numberRead_63 : decode cX2_numberRead 63 = .ok (.isub, 1) := by decide +kernel
theorem dX2_numberRead_64 : decode cX2_numberRead 64 = .ok (.istore_n 1, 1) := by decide +kernel
theorem dX2_numberRead_65 : decode cX2_numberRead 65 = .ok (.iinc 2 1, 3) := by decide +kernel
theorem dX2_numberRead_68 : decode cX2_numberRead 68 = .ok (.goto (-26), 3) := by decide +kernel
theorem dX2_numberRead_71 : decode cX2_numberRead 71 = .ok (.iload_n 1, 1) := by decide +kernel
theorem dX2_numberRead_72 : decode cX2_numberRead 72 = .ok (.ireturn, 1) := by decide +kernel
theorem dX2_spellingOf_0 : decode cX2_spellingOf 0 = .ok (.iload_n 0, 1) := by decide +kernel
theorem dX2_spellingOf_1 : decode cX2_spellingOf 1 = .ok (.tableswitch 99 0 11 #[63, 66, 69, 72, 75, 78, 81, 84, 87, 90, 93, 96], 63) := by decide +kernel
theorem dX2_spellingOf_64 : decode cX2_spellingOf 64 = .ok (.ldc 92, 2) := by decide +kernel
theorem dX2_spellingOf_66 : decode cX2_spellingOf 66 = .ok (.areturn, 1) := by decide +kernel
theorem dX2_spellingOf_67 : decode cX2_spellingOf 67 = .ok (.ldc 94, 2) := by decide +kernel
theorem dX2_spellingOf_69 : decode cX2_spellingOf 69 = .ok (.areturn, 1) := by decide +kernel
theorem dX2_spellingOf_70 : decode cX2_spellingOf 70 = .ok (.ldc 96, 2) := by decide +kernel
theorem dX2_spellingOf_72 : decode cX2_spellingOf 72 = .ok (.areturn, 1) := by decide +kernel
theorem dX2_spellingOf_73 : decode cX2_spellingOf 73 = .ok (.ldc 98, 2) := by decide +kernel
theorem dX2_spellingOf_75 : decode cX2_spellingOf 75 = .ok (.areturn, 1) := by decide +kernel
theorem dX2_spellingOf_76 : decode cX2_spellingOf 76 = .ok (.ldc 100, 2) := by decide +kernel
theorem dX2_spellingOf_78 : decode cX2_spellingOf 78 = .ok (.areturn, 1) := by decide +kernel
theorem dX2_spellingOf_79 : decode cX2_spellingOf 79 = .ok (.ldc 102, 2) := by decide +kernel
theorem dX2_spellingOf_81 : decode cX2_spellingOf 81 = .ok (.areturn, 1) := by decide +kernel
theorem dX2_spellingOf_82 : decode cX2_spellingOf 82 = .ok (.ldc 104, 2) := by decide +kernel
theorem dX2_spellingOf_84 : decode cX2_spellingOf 84 = .ok (.areturn, 1) := by decide +kernel
theorem dX2_spellingOf_85 : decode cX2_spellingOf 85 = .ok (.ldc 106, 2) := by decide +kernel
theorem dX2_spellingOf_87 : decode cX2_spellingOf 87 = .ok (.areturn, 1) := by decide +kernel
theorem dX2_spellingOf_88 : decode cX2_spellingOf 88 = .ok (.ldc 108, 2) := by decide +kernel
theorem dX2_spellingOf_90 : decode cX2_spellingOf 90 = .ok (.areturn, 1) := by decide +kernel
theorem dX2_spellingOf_91 : decode cX2_spellingOf 91 = .ok (.ldc 110, 2) := by decide +kernel
theorem dX2_spellingOf_93 : decode cX2_spellingOf 93 = .ok (.areturn, 1) := by decide +kernel
theorem dX2_spellingOf_94 : decode cX2_spellingOf 94 = .ok (.ldc 112, 2) := by decide +kernel
theorem dX2_spellingOf_96 : decode cX2_spellingOf 96 = .ok (.areturn, 1) := by decide +kernel
theorem dX2_spellingOf_97 : decode cX2_spellingOf 97 = .ok (.ldc 114, 2) := by decide +kernel
theorem dX2_spellingOf_99 : decode cX2_spellingOf 99 = .ok (.areturn, 1) := by decide +kernel
theorem dX2_spellingOf_100 : decode cX2_spellingOf 100 = .ok (.ldc 116, 2) := by decide +kernel
theorem dX2_spellingOf_102 : decode cX2_spellingOf 102 = .ok (.areturn, 1) := by decide +kernel
theorem dX2_formOf_0 : decode cX2_formOf 0 = .ok (.iload_n 0, 1) := by decide +kernel
theorem dX2_formOf_1 : decode cX2_formOf 1 = .ok (.tableswitch 72 4 12 #[51, 54, 57, 60, 63, 57, 66, 69, 69], 51) := by decide +kernel
theorem dX2_formOf_52 : decode cX2_formOf 52 = .ok (.ldc 118, 2) := by decide +kernel
theorem dX2_formOf_54 : decode cX2_formOf 54 = .ok (.areturn, 1) := by decide +kernel
theorem dX2_formOf_55 : decode cX2_formOf 55 = .ok (.ldc 120, 2) := by decide +kernel
theorem dX2_formOf_57 : decode cX2_formOf 57 = .ok (.areturn, 1) := by decide +kernel
theorem dX2_formOf_58 : decode cX2_formOf 58 = .ok (.ldc 122, 2) := by decide +kernel
theorem dX2_formOf_60 : decode cX2_formOf 60 = .ok (.areturn, 1) := by decide +kernel
theorem dX2_formOf_61 : decode cX2_formOf 61 = .ok (.ldc 124, 2) := by decide +kernel
theorem dX2_formOf_63 : decode cX2_formOf 63 = .ok (.areturn, 1) := by decide +kernel
theorem dX2_formOf_64 : decode cX2_formOf 64 = .ok (.ldc 126, 2) := by decide +kernel
theorem dX2_formOf_66 : decode cX2_formOf 66 = .ok (.areturn, 1) := by decide +kernel
theorem dX2_formOf_67 : decode cX2_formOf 67 = .ok (.ldc 128, 2) := by decide +kernel
theorem dX2_formOf_69 : decode cX2_formOf 69 = .ok (.areturn, 1) := by decide +kernel
theorem dX2_formOf_70 : decode cX2_formOf 70 = .ok (.ldc 130, 2) := by decide +kernel
theorem dX2_formOf_72 : decode cX2_formOf 72 = .ok (.areturn, 1) := by decide +kernel
theorem dX2_formOf_73 : decode cX2_formOf 73 = .ok (.ldc 132, 2) := by decide +kernel
theorem dX2_formOf_75 : decode cX2_formOf 75 = .ok (.areturn, 1) := by decide +kernel
theorem dX2_leastOf_0 : decode cX2_leastOf 0 = .ok (.iload_n 0, 1) := by decide +kernel
theorem dX2_leastOf_1 : decode cX2_leastOf 1 = .ok (.bipush 78, 2) := by decide +kernel
theorem dX2_leastOf_3 : decode cX2_leastOf 3 = .ok (.if_icmp .ne 7, 3) := by decide +kernel
theorem dX2_leastOf_6 : decode cX2_leastOf 6 = .ok (.iconst 2, 1) := by decide +kernel
theorem dX2_leastOf_7 : decode cX2_leastOf 7 = .ok (.goto 4, 3) := by decide +kernel
theorem dX2_leastOf_10 : decode cX2_leastOf 10 = .ok (.iconst 0, 1) := by decide +kernel
theorem dX2_leastOf_11 : decode cX2_leastOf 11 = .ok (.ireturn, 1) := by decide +kernel
theorem dX2_mostOf_0 : decode cX2_mostOf 0 = .ok (.iload_n 1, 1) := by decide +kernel
theorem dX2_mostOf_1 : decode cX2_mostOf 1 = .ok (.lookupswitch 63 #[(65, 46), (68, 53), (78, 43), (83, 60)], 43) := by decide +kernel
theorem dX2_mostOf_44 : decode cX2_mostOf 44 = .ok (.bipush 8, 2) := by decide +kernel
theorem dX2_mostOf_46 : decode cX2_mostOf 46 = .ok (.ireturn, 1) := by decide +kernel
theorem dX2_mostOf_47 : decode cX2_mostOf 47 = .ok (.aload_n 0, 1) := by decide +kernel
theorem dX2_mostOf_48 : decode cX2_mostOf 48 = .ok (.getfield 25, 3) := by decide +kernel
theorem dX2_mostOf_51 : decode cX2_mostOf 51 = .ok (.iconst 1, 1) := by decide +kernel
theorem dX2_mostOf_52 : decode cX2_mostOf 52 = .ok (.isub, 1) := by decide +kernel
theorem dX2_mostOf_53 : decode cX2_mostOf 53 = .ok (.ireturn, 1) := by decide +kernel
theorem dX2_mostOf_54 : decode cX2_mostOf 54 = .ok (.aload_n 0, 1) := by decide +kernel
theorem dX2_mostOf_55 : decode cX2_mostOf 55 = .ok (.getfield 28, 3) := by decide +kernel
theorem dX2_mostOf_58 : decode cX2_mostOf 58 = .ok (.iconst 1, 1) := by decide +kernel
theorem dX2_mostOf_59 : decode cX2_mostOf 59 = .ok (.isub, 1) := by decide +kernel
theorem dX2_mostOf_60 : decode cX2_mostOf 60 = .ok (.ireturn, 1) := by decide +kernel
theorem dX2_mostOf_61 : decode cX2_mostOf 61 = .ok (.bipush 15, 2) := by decide +kernel
theorem dX2_mostOf_63 : decode cX2_mostOf 63 = .ok (.ireturn, 1) := by decide +kernel
theorem dX2_mostOf_64 : decode cX2_mostOf 64 = .ok (.bipush 9, 2) := by decide +kernel
theorem dX2_mostOf_66 : decode cX2_mostOf 66 = .ok (.ireturn, 1) := by decide +kernel
theorem dX3_init_0 : decode cX3_init 0 = .ok (.aload_n 0, 1) := by decide +kernel
theorem dX3_init_1 : decode cX3_init 1 = .ok (.invokespecial 3, 3) := by decide +kernel
theorem dX3_init_4 : decode cX3_init 4 = .ok (.aload_n 0, 1) := by decide +kernel
theorem dX3_init_5 : decode cX3_init 5 = .ok (.bipush 8, 2) := by decide +kernel
theorem dX3_init_7 : decode cX3_init 7 = .ok (.newarray .int, 2) := by decide +kernel
theorem dX3_init_9 : decode cX3_init 9 = .ok (.putfield 9, 3) := by decide +kernel
theorem dX3_init_12 : decode cX3_init 12 = .ok (.aload_n 0, 1) := by decide +kernel
theorem dX3_init_13 : decode cX3_init 13 = .ok (.bipush 8, 2) := by decide +kernel
theorem dX3_init_15 : decode cX3_init 15 = .ok (.newarray .int, 2) := by decide +kernel
theorem dX3_init_17 : decode cX3_init 17 = .ok (.putfield 15, 3) := by decide +kernel
theorem dX3_init_20 : decode cX3_init 20 = .ok (.aload_n 0, 1) := by decide +kernel
theorem dX3_init_21 : decode cX3_init 21 = .ok (.bipush 8, 2) := by decide +kernel
theorem dX3_init_23 : decode cX3_init 23 = .ok (.newarray .int, 2) := by decide +kernel
theorem dX3_init_25 : decode cX3_init 25 = .ok (.putfield 18, 3) := by decide +kernel
theorem dX3_init_28 : decode cX3_init 28 = .ok (.return_, 1) := by decide +kernel
theorem dX3_add_0 : decode cX3_add 0 = .ok (.aload_n 0, 1) := by decide +kernel
theorem dX3_add_1 : decode cX3_add 1 = .ok (.getfield 21, 3) := by decide +kernel
theorem dX3_add_4 : decode cX3_add 4 = .ok (.bipush 8, 2) := by decide +kernel
theorem dX3_add_6 : decode cX3_add 6 = .ok (.if_icmp .lt 6, 3) := by decide +kernel
theorem dX3_add_9 : decode cX3_add 9 = .ok (.bipush (-5), 2) := by decide +kernel
theorem dX3_add_11 : decode cX3_add 11 = .ok (.ireturn, 1) := by decide +kernel
theorem dX3_add_12 : decode cX3_add 12 = .ok (.aload_n 0, 1) := by decide +kernel
theorem dX3_add_13 : decode cX3_add 13 = .ok (.getfield 9, 3) := by decide +kernel
theorem dX3_add_16 : decode cX3_add 16 = .ok (.aload_n 0, 1) := by decide +kernel
theorem dX3_add_17 : decode cX3_add 17 = .ok (.getfield 21, 3) := by decide +kernel
theorem dX3_add_20 : decode cX3_add 20 = .ok (.iload_n 1, 1) := by decide +kernel
theorem dX3_add_21 : decode cX3_add 21 = .ok (.iastore, 1) := by decide +kernel
theorem dX3_add_22 : decode cX3_add 22 = .ok (.aload_n 0, 1) := by decide +kernel
theorem dX3_add_23 : decode cX3_add 23 = .ok (.getfield 15, 3) := by decide +kernel
theorem dX3_add_26 : decode cX3_add 26 = .ok (.aload_n 0, 1) := by decide +kernel
theorem dX3_add_27 : decode cX3_add 27 = .ok (.getfield 21, 3) := by decide +kernel
theorem dX3_add_30 : decode cX3_add 30 = .ok (.iload_n 2, 1) := by decide +kernel
theorem dX3_add_31 : decode cX3_add 31 = .ok (.iastore, 1) := by decide +kernel
theorem dX3_add_32 : decode cX3_add 32 = .ok (.aload_n 0, 1) := by decide +kernel
theorem dX3_add_33 : decode cX3_add 33 = .ok (.getfield 18, 3) := by decide +kernel
theorem dX3_add_36 : decode cX3_add 36 = .ok (.aload_n 0, 1) := by decide +kernel
theorem dX3_add_37 : decode cX3_add 37 = .ok (.getfield 21, 3) := by decide +kernel
theorem dX3_add_40 : decode cX3_add 40 = .ok (.iload_n 3, 1) := by decide +kernel
theorem dX3_add_41 : decode cX3_add 41 = .ok (.iastore, 1) := by decide +kernel
theorem dX3_add_42 : decode cX3_add 42 = .ok (.aload_n 0, 1) := by decide +kernel
theorem dX3_add_43 : decode cX3_add 43 = .ok (.dup, 1) := by decide +kernel
theorem dX3_add_44 : decode cX3_add 44 = .ok (.getfield 21, 3) := by decide +kernel
theorem dX3_add_47 : decode cX3_add 47 = .ok (.iconst 1, 1) := by decide +kernel
theorem dX3_add_48 : decode cX3_add 48 = .ok (.iadd, 1) := by decide +kernel
theorem dX3_add_49 : decode cX3_add 49 = .ok (.putfield 21, 3) := by decide +kernel
theorem dX3_add_52 : decode cX3_add 52 = .ok (.aload_n 0, 1) := by decide +kernel
theorem dX3_add_53 : decode cX3_add 53 = .ok (.getfield 21, 3) := by decide +kernel
theorem dX3_add_56 : decode cX3_add 56 = .ok (.ireturn, 1) := by decide +kernel
theorem dX3_clear_0 : decode cX3_clear 0 = .ok (.aload_n 0, 1) := by decide +kernel
theorem dX3_clear_1 : decode cX3_clear 1 = .ok (.getfield 21, 3) := by decide +kernel
theorem dX3_clear_4 : decode cX3_clear 4 = .ok (.istore_n 1, 1) := by decide +kernel
theorem dX3_clear_5 : decode cX3_clear 5 = .ok (.aload_n 0, 1) := by decide +kernel
theorem dX3_clear_6 : decode cX3_clear 6 = .ok (.iconst 0, 1) := by decide +kernel
theorem dX3_clear_7 : decode cX3_clear 7 = .ok (.putfield 21, 3) := by decide +kernel
theorem dX3_clear_10 : decode cX3_clear 10 = .ok (.iload_n 1, 1) := by decide +kernel
theorem dX3_clear_11 : decode cX3_clear 11 = .ok (.ireturn, 1) := by decide +kernel
set_option maxRecDepth 20000 in
theorem ggX4_init_X4_restart : GoodIn wsX4_init wsX4_restart := goodIn_r _ [18, 19, 20, 21, 5, 6, 7, 22, 23, 24, 25, 26, 27, 28, 29, 30, 31, 32, 33] (by decide +kernel) (by decide +kernel)
set_option maxRecDepth 20000 in
theorem gX4_init_X4_restart : GoodIn wsX4_init (wsV RX4 39 RX4 yX4_restart wsX4_restart) := goodIn_app (goodIn_of _ (by decide +kernel)) ggX4_init_X4_restart
theorem dX4_init_0 : decode cX4_init 0 = .ok (.aload_n 0, 1) := by decide +kernel
theorem dX4_init_1 : decode cX4_init 1 = .ok (.invokespecial 3, 3) := by decide +kernel
theorem dX4_init_4 : decode cX4_init 4 = .ok (.aload_n 0, 1) := by decide +kernel
theorem dX4_init_5 : decode cX4_init 5 = .ok (.bipush 8, 2) := by decide +kernel
theorem dX4_init_7 : decode cX4_init 7 = .ok (.newarray .int, 2) := by decide +kernel
theorem dX4_init_9 : decode cX4_init 9 = .ok (.putfield 9, 3) := by decide +kernel
theorem dX4_init_12 : decode cX4_init 12 = .ok (.aload_n 0, 1) := by decide +kernel
theorem dX4_init_13 : decode cX4_init 13 = .ok (.bipush 8, 2) := by decide +kernel
theorem dX4_init_15 : decode cX4_init 15 = .ok (.newarray .int, 2) := by decide +kernel
theorem dX4_init_17 : decode cX4_init 17 = .ok (.putfield 15, 3) := by decide +kernel
theorem dX4_init_20 : decode cX4_init 20 = .ok (.aload_n 0, 1) := by decide +kernel
theorem dX4_init_21 : decode cX4_init 21 = .ok (.bipush 64, 2) := by decide +kernel
theorem dX4_init_23 : decode cX4_init 23 = .ok (.newarray .int, 2) := by decide +kernel
theorem dX4_init_25 : decode cX4_init 25 = .ok (.putfield 18, 3) := by decide +kernel
theorem dX4_init_28 : decode cX4_init 28 = .ok (.aload_n 0, 1) := by decide +kernel
theorem dX4_init_29 : decode cX4_init 29 = .ok (.bipush 6, 2) := by decide +kernel
theorem dX4_init_31 : decode cX4_init 31 = .ok (.newarray .int, 2) := by decide +kernel
theorem dX4_init_33 : decode cX4_init 33 = .ok (.putfield 21, 3) := by decide +kernel
theorem dX4_init_36 : decode cX4_init 36 = .ok (.aload_n 0, 1) := by decide +kernel
theorem dX4_init_37 : decode cX4_init 37 = .ok (.bipush 6, 2) := by decide +kernel
theorem dX4_init_39 : decode cX4_init 39 = .ok (.newarray .int, 2) := by decide +kernel
theorem dX4_init_41 : decode cX4_init 41 = .ok (.putfield 24, 3) := by decide +kernel
theorem dX4_init_44 : decode cX4_init 44 = .ok (.aload_n 0, 1) := by decide +kernel
theorem dX4_init_45 : decode cX4_init 45 = .ok (.bipush 6, 2) := by decide +kernel
theorem dX4_init_47 : decode cX4_init 47 = .ok (.newarray .int, 2) := by decide +kernel
theorem dX4_init_49 : decode cX4_init 49 = .ok (.putfield 27, 3) := by decide +kernel
theorem dX4_init_52 : decode cX4_init 52 = .ok (.aload_n 0, 1) := by decide +kernel
theorem dX4_init_53 : decode cX4_init 53 = .ok (.bipush 6, 2) := by decide +kernel
theorem dX4_init_55 : decode cX4_init 55 = .ok (.newarray .int, 2) := by decide +kernel
theorem dX4_init_57 : decode cX4_init 57 = .ok (.putfield 30, 3) := by decide +kernel
theorem dX4_init_60 : decode cX4_init 60 = .ok (.aload_n 0, 1) := by decide +kernel
theorem dX4_init_61 : decode cX4_init 61 = .ok (.bipush 6, 2) := by decide +kernel
theorem dX4_init_63 : decode cX4_init 63 = .ok (.newarray .int, 2) := by decide +kernel
theorem dX4_init_65 : decode cX4_init 65 = .ok (.putfield 33, 3) := by decide +kernel
theorem dX4_init_68 : decode cX4_init 68 = .ok (.aload_n 0, 1) := by decide +kernel
theorem dX4_init_69 : decode cX4_init 69 = .ok (.bipush 8, 2) := by decide +kernel
theorem dX4_init_71 : decode cX4_init 71 = .ok (.newarray .int, 2) := by decide +kernel
theorem dX4_init_73 : decode cX4_init 73 = .ok (.putfield 36, 3) := by decide +kernel
theorem dX4_init_76 : decode cX4_init 76 = .ok (.aload_n 0, 1) := by decide +kernel
theorem dX4_init_77 : decode cX4_init 77 = .ok (.iconst 2, 1) := by decide +kernel
theorem dX4_init_78 : decode cX4_init 78 = .ok (.invokevirtual 39, 3) := by decide +kernel
theorem dX4_init_81 : decode cX4_init 81 = .ok (.return_, 1) := by decide +kernel
theorem dX4_restart_0 : decode cX4_restart 0 = .ok (.aload_n 0, 1) := by decide +kernel
theorem dX4_restart_1 : decode cX4_restart 1 = .ok (.iload_n 1, 1) := by decide +kernel
theorem dX4_restart_2 : decode cX4_restart 2 = .ok (.putfield 43, 3) := by decide +kernel
theorem dX4_restart_5 : decode cX4_restart 5 = .ok (.aload_n 0, 1) := by decide +kernel
theorem dX4_restart_6 : decode cX4_restart 6 = .ok (.iconst 0, 1) := by decide +kernel
theorem dX4_restart_7 : decode cX4_restart 7 = .ok (.putfield 47, 3) := by decide +kernel
theorem dX4_restart_10 : decode cX4_restart 10 = .ok (.aload_n 0, 1) := by decide +kernel
theorem dX4_restart_11 : decode cX4_restart 11 = .ok (.iconst 0, 1) := by decide +kernel
theorem dX4_restart_12 : decode cX4_restart 12 = .ok (.putfield 50, 3) := by decide +kernel
theorem dX4_restart_15 : decode cX4_restart 15 = .ok (.iconst 0, 1) := by decide +kernel
theorem dX4_restart_16 : decode cX4_restart 16 = .ok (.istore_n 2, 1) := by decide +kernel
theorem dX4_restart_17 : decode cX4_restart 17 = .ok (.iload_n 2, 1) := by decide +kernel
theorem dX4_restart_18 : decode cX4_restart 18 = .ok (.bipush 8, 2) := by decide +kernel
theorem dX4_restart_20 : decode cX4_restart 20 = .ok (.if_icmp .ge 23, 3) := by decide +kernel
theorem dX4_restart_23 : decode cX4_restart 23 = .ok (.aload_n 0, 1) := by decide +kernel
theorem dX4_restart_24 : decode cX4_restart 24 = .ok (.getfield 9, 3) := by decide +kernel
theorem dX4_restart_27 : decode cX4_restart 27 = .ok (.iload_n 2, 1) := by decide +kernel
theorem dX4_restart_28 : decode cX4_restart 28 = .ok (.iconst (-1), 1) := by decide +kernel
theorem dX4_restart_29 : decode cX4_restart 29 = .ok (.iastore, 1) := by decide +kernel
theorem dX4_restart_30 : decode cX4_restart 30 = .ok (.aload_n 0, 1) := by decide +kernel
theorem dX4_restart_31 : decode cX4_restart 31 = .ok (.getfield 15, 3) := by decide +kernel
theorem dX4_restart_34 : decode cX4_restart 34 = .ok (.iload_n 2, 1) := by decide +kernel
theorem dX4_restart_35 : decode cX4_restart 35 = .ok (.iconst 0, 1) := by decide +kernel
theorem dX4_restart_36 : decode cX4_restart 36 = .ok (.iastore, 1) := by decide +kernel
theorem dX4_restart_37 : decode cX4_restart 37 = .ok (.iinc 2 1, 3) := by decide +kernel
theorem dX4_restart_40 : decode cX4_restart 40 = .ok (.goto (-23), 3) := by decide +kernel
theorem dX4_restart_43 : decode cX4_restart 43 = .ok (.iconst 0, 1) := by decide +kernel
theorem dX4_restart_44 : decode cX4_restart 44 = .ok (.istore_n 2, 1) := by decide +kernel
theorem dX4_restart_45 : decode cX4_restart 45 = .ok (.iload_n 2, 1) := by decide +kernel
theorem dX4_restart_46 : decode cX4_restart 46 = .ok (.aload_n 0, 1) := by decide +kernel
theorem dX4_restart_47 : decode cX4_restart 47 = .ok (.getfield 18, 3) := by decide +kernel
theorem dX4_restart_50 : decode cX4_restart 50 = .ok (.arraylength, 1) := by decide +kernel
theorem dX4_restart_51 : decode cX4_restart 51 = .ok (.if_icmp .ge 16, 3) := by decide +kernel
theorem dX4_restart_54 : decode cX4_restart 54 = .ok (.aload_n 0, 1) := by decide +kernel
theorem dX4_restart_55 : decode cX4_restart 55 = .ok (.getfield 18, 3) := by decide +kernel
theorem dX4_restart_58 : decode cX4_restart 58 = .ok (.iload_n 2, 1) := by decide +kernel
theorem dX4_restart_59 : decode cX4_restart 59 = .ok (.iconst 0, 1) := by decide +kernel
theorem dX4_restart_60 : decode cX4_restart 60 = .ok (.iastore, 1) := by decide +kernel
theorem dX4_restart_61 : decode cX4_restart 61 = .ok (.iinc 2 1, 3) := by decide +kernel
theorem dX4_restart_64 : decode cX4_restart 64 = .ok (.goto (-19), 3) := by decide +kernel
theorem dX4_restart_67 : decode cX4_restart 67 = .ok (.return_, 1) := by decide +kernel
theorem dX4_addDeed_0 : decode cX4_addDeed 0 = .ok (.aload_n 0, 1) := by decide +kernel
theorem dX4_addDeed_1 : decode cX4_addDeed 1 = .ok (.getfield 47, 3) := by decide +kernel
theorem dX4_addDeed_4 : decode cX4_addDeed 4 = .ok (.bipush 6, 2) := by decide +kernel
theorem dX4_addDeed_6 : decode cX4_addDeed 6 = .ok (.if_icmp .ge 65, 3) := by decide +kernel
theorem dX4_addDeed_9 : decode cX4_addDeed 9 = .ok (.aload_n 0, 1) := by decide +kernel
theorem dX4_addDeed_10 : decode cX4_addDeed 10 = .ok (.getfield 21, 3) := by decide +kernel
theorem dX4_addDeed_13 : decode cX4_addDeed 13 = .ok (.aload_n 0, 1) := by decide +kernel
theorem dX4_addDeed_14 : decode cX4_addDeed 14 = .ok (.getfield 47, 3) := by decide +kernel
theorem dX4_addDeed_17 : decode cX4_addDeed 17 = .ok (.iload_n 1, 1) := by decide +kernel
theorem dX4_addDeed_18 : decode cX4_addDeed 18 = .ok (.iastore, 1) := by decide +kernel
theorem dX4_addDeed_19 : decode cX4_addDeed 19 = .ok (.aload_n 0, 1) := by decide +kernel
theorem dX4_addDeed_20 : decode cX4_addDeed 20 = .ok (.getfield 24, 3) := by decide +kernel
theorem dX4_addDeed_23 : decode cX4_addDeed 23 = .ok (.aload_n 0, 1) := by decide +kernel
theorem dX4_addDeed_24 : decode cX4_addDeed 24 = .ok (.getfield 47, 3) := by decide +kernel
theorem dX4_addDeed_27 : decode cX4_addDeed 27 = .ok (.iload_n 2, 1) := by decide +kernel
theorem dX4_addDeed_28 : decode cX4_addDeed 28 = .ok (.iastore, 1) := by decide +kernel
theorem dX4_addDeed_29 : decode cX4_addDeed 29 = .ok (.aload_n 0, 1) := by decide +kernel
theorem dX4_addDeed_30 : decode cX4_addDeed 30 = .ok (.getfield 27, 3) := by decide +kernel
theorem dX4_addDeed_33 : decode cX4_addDeed 33 = .ok (.aload_n 0, 1) := by decide +kernel
theorem dX4_addDeed_34 : decode cX4_addDeed 34 = .ok (.getfield 47, 3) := by decide +kernel
theorem dX4_addDeed_37 : decode cX4_addDeed 37 = .ok (.iload_n 3, 1) := by decide +kernel
theorem dX4_addDeed_38 : decode cX4_addDeed 38 = .ok (.iastore, 1) := by decide +kernel
theorem dX4_addDeed_39 : decode cX4_addDeed 39 = .ok (.aload_n 0, 1) := by decide +kernel
theorem dX4_addDeed_40 : decode cX4_addDeed 40 = .ok (.getfield 30, 3) := by decide +kernel
theorem dX4_addDeed_43 : decode cX4_addDeed 43 = .ok (.aload_n 0, 1) := by decide +kernel
theorem dX4_addDeed_44 : decode cX4_addDeed 44 = .ok (.getfield 47, 3) := by decide +kernel
theorem dX4_addDeed_47 : decode cX4_addDeed 47 = .ok (.iload 4, 2) := by decide +kernel
theorem dX4_addDeed_49 : decode cX4_addDeed 49 = .ok (.iastore, 1) := by decide +kernel
theorem dX4_addDeed_50 : decode cX4_addDeed 50 = .ok (.aload_n 0, 1) := by decide +kernel
theorem dX4_addDeed_51 : decode cX4_addDeed 51 = .ok (.getfield 33, 3) := by decide +kernel
theorem dX4_addDeed_54 : decode cX4_addDeed 54 = .ok (.aload_n 0, 1) := by decide +kernel
theorem dX4_addDeed_55 : decode cX4_addDeed 55 = .ok (.getfield 47, 3) := by decide +kernel
theorem dX4_addDeed_58 : decode cX4_addDeed 58 = .ok (.iload 5, 2) := by decide +kernel
theorem dX4_addDeed_60 : decode cX4_addDeed 60 = .ok (.iastore, 1) := by decide +kernel
theorem dX4_addDeed_61 : decode cX4_addDeed 61 = .ok (.aload_n 0, 1) := by decide +kernel
theorem dX4_addDeed_62 : decode cX4_addDeed 62 = .ok (.dup, 1) := by decide +kernel
theorem dX4_addDeed_63 : decode cX4_addDeed 63 = .ok (.getfield 47, 3) := by decide +kernel
theorem dX4_addDeed_66 : decode cX4_addDeed 66 = .ok (.iconst 1, 1) := by decide +kernel
theorem dX4_addDeed_67 : decode cX4_addDeed 67 = .ok (.iadd, 1) := by decide +kernel
theorem dX4_addDeed_68 : decode cX4_addDeed 68 = .ok (.putfield 47, 3) := by decide +kernel
theorem dX4_addDeed_71 : decode cX4_addDeed 71 = .ok (.return_, 1) := by decide +kernel
theorem dX4_setLiking_0 : decode cX4_setLiking 0 = .ok (.aload_n 0, 1) := by decide +kernel
theorem dX4_setLiking_1 : decode cX4_setLiking 1 = .ok (.getfield 18, 3) := by decide +kernel
theorem dX4_setLiking_4 : decode cX4_setLiking 4 = .ok (.iload_n 1, 1) := by decide +kernel
theorem dX4_setLiking_5 : decode cX4_setLiking 5 = .ok (.bipush 8, 2) := by decide +kernel
theorem dX4_setLiking_7 : decode cX4_setLiking 7 = .ok (.imul, 1) := by decide +kernel
theorem dX4_setLiking_8 : decode cX4_setLiking 8 = .ok (.iload_n 2, 1) := by decide +kernel
theorem dX4_setLiking_9 : decode cX4_setLiking 9 = .ok (.iadd, 1) := by decide +kernel
theorem dX4_setLiking_10 : decode cX4_setLiking 10 = .ok (.iload_n 3, 1) := by decide +kernel
theorem dX4_setLiking_11 : decode cX4_setLiking 11 = .ok (.iastore, 1) := by decide +kernel
theorem dX4_setLiking_12 : decode cX4_setLiking 12 = .ok (.aload_n 0, 1) := by decide +kernel
theorem dX4_setLiking_13 : decode cX4_setLiking 13 = .ok (.getfield 18, 3) := by decide +kernel
theorem dX4_setLiking_16 : decode cX4_setLiking 16 = .ok (.iload_n 2, 1) := by decide +kernel
theorem dX4_setLiking_17 : decode cX4_setLiking 17 = .ok (.bipush 8, 2) := by decide +kernel
theorem dX4_setLiking_19 : decode cX4_setLiking 19 = .ok (.imul, 1) := by decide +kernel
theorem dX4_setLiking_20 : decode cX4_setLiking 20 = .ok (.iload_n 1, 1) := by decide +kernel
theorem dX4_setLiking_21 : decode cX4_setLiking 21 = .ok (.iadd, 1) := by decide +kernel
theorem dX4_setLiking_22 : decode cX4_setLiking 22 = .ok (.iload_n 3, 1) := by decide +kernel
theorem dX4_setLiking_23 : decode cX4_setLiking 23 = .ok (.iastore, 1) := by decide +kernel
theorem dX4_setLiking_24 : decode cX4_setLiking 24 = .ok (.return_, 1) := by decide +kernel
set_option maxRecDepth 20000 in
theorem ggX4_hasHouse_X5_within : GoodIn wsX4_hasHouse wsX5_within := goodIn_r _ [4] (by decide +kernel) (by decide +kernel)
set_option maxRecDepth 20000 in
theorem gX4_hasHouse_X5_within_n53 : GoodIn wsX4_hasHouse (wsX5_within) := ggX4_hasHouse_X5_within
theorem dX4_hasHouse_0 : decode cX4_hasHouse 0 = .ok (.iload_n 1, 1) := by decide +kernel
theorem dX4_hasHouse_1 : decode cX4_hasHouse 1 = .ok (.iconst 0, 1) := by decide +kernel
theorem dX4_hasHouse_2 : decode cX4_hasHouse 2 = .ok (.aload_n 0, 1) := by decide +kernel
theorem dX4_hasHouse_3 : decode cX4_hasHouse 3 = .ok (.getfield 43, 3) := by decide +kernel
theorem dX4_hasHouse_6 : decode cX4_hasHouse 6 = .ok (.iconst 1, 1) := by decide +kernel
theorem dX4_hasHouse_7 : decode cX4_hasHouse 7 = .ok (.isub, 1) := by decide +kernel
theorem dX4_hasHouse_8 : decode cX4_hasHouse 8 = .ok (.invokestatic 53, 3) := by decide +kernel
theorem dX4_hasHouse_11 : decode cX4_hasHouse 11 = .ok (.ireturn, 1) := by decide +kernel
set_option maxRecDepth 20000 in
theorem ggX4_hasDeed_X5_within : GoodIn wsX4_hasDeed wsX5_within := goodIn_r _ [4] (by decide +kernel) (by decide +kernel)
set_option maxRecDepth 20000 in
theorem gX4_hasDeed_X5_within_n53 : GoodIn wsX4_hasDeed (wsX5_within) := ggX4_hasDeed_X5_within
theorem dX4_hasDeed_0 : decode cX4_hasDeed 0 = .ok (.iload_n 1, 1) := by decide +kernel
theorem dX4_hasDeed_1 : decode cX4_hasDeed 1 = .ok (.iconst 0, 1) := by decide +kernel
theorem dX4_hasDeed_2 : decode cX4_hasDeed 2 = .ok (.aload_n 0, 1) := by decide +kernel
theorem dX4_hasDeed_3 : decode cX4_hasDeed 3 = .ok (.getfield 47, 3) := by decide +kernel
theorem dX4_hasDeed_6 : decode cX4_hasDeed 6 = .ok (.iconst 1, 1) := by decide +kernel
theorem dX4_hasDeed_7 : decode cX4_hasDeed 7 = .ok (.isub, 1) := by decide +kernel
theorem dX4_hasDeed_8 : decode cX4_hasDeed 8 = .ok (.invokestatic 53, 3) := by decide +kernel
theorem dX4_hasDeed_11 : decode cX4_hasDeed 11 = .ok (.ireturn, 1) := by decide +kernel
set_option maxRecDepth 20000 in
theorem ggX4_can_X5_has : GoodIn wsX4_can wsX5_has := goodIn_r _ [7] (by decide +kernel) (by decide +kernel)
set_option maxRecDepth 20000 in
theorem gX4_can_X5_has_n57 : GoodIn wsX4_can (wsX5_has) := ggX4_can_X5_has
set_option maxRecDepth 20000 in
theorem ggX4_can_X4_missing : GoodIn wsX4_can wsX4_missing := goodIn_r _ [12, 3, 4, 13, 14, 15, 16, 17, 18, 19, 20, 21, 22, 23, 24] (by decide +kernel) (by decide +kernel)
set_option maxRecDepth 20000 in
theorem gX4_can_X4_missing : GoodIn wsX4_can (wsV RX4 61 RX4 yX4_missing wsX4_missing) := goodIn_app (goodIn_of _ (by decide +kernel)) ggX4_can_X4_missing
theorem dX4_can_0 : decode cX4_can 0 = .ok (.iload_n 3, 1) := by decide +kernel
theorem dX4_can_1 : decode cX4_can 1 = .ok (.iload_n 2, 1) := by decide +kernel
theorem dX4_can_2 : decode cX4_can 2 = .ok (.invokestatic 57, 3) := by decide +kernel
theorem dX4_can_5 : decode cX4_can 5 = .ok (.ifCond .eq 15, 3) := by decide +kernel
theorem dX4_can_8 : decode cX4_can 8 = .ok (.aload_n 0, 1) := by decide +kernel
theorem dX4_can_9 : decode cX4_can 9 = .ok (.getfield 27, 3) := by decide +kernel
theorem dX4_can_12 : decode cX4_can 12 = .ok (.iload_n 2, 1) := by decide +kernel
theorem dX4_can_13 : decode cX4_can 13 = .ok (.iaload, 1) := by decide +kernel
theorem dX4_can_14 : decode cX4_can 14 = .ok (.iload_n 1, 1) := by decide +kernel
theorem dX4_can_15 : decode cX4_can 15 = .ok (.if_icmp .eq 5, 3) := by decide +kernel
theorem dX4_can_18 : decode cX4_can 18 = .ok (.iconst 0, 1) := by decide +kernel
theorem dX4_can_19 : decode cX4_can 19 = .ok (.ireturn, 1) := by decide +kernel
theorem dX4_can_20 : decode cX4_can 20 = .ok (.aload_n 0, 1) := by decide +kernel
theorem dX4_can_21 : decode cX4_can 21 = .ok (.getfield 21, 3) := by decide +kernel
theorem dX4_can_24 : decode cX4_can 24 = .ok (.iload_n 2, 1) := by decide +kernel
theorem dX4_can_25 : decode cX4_can 25 = .ok (.iaload, 1) := by decide +kernel
theorem dX4_can_26 : decode cX4_can 26 = .ok (.tableswitch 79 0 3 #[30, 79, 32, 54], 30) := by decide +kernel
theorem dX4_can_56 : decode cX4_can 56 = .ok (.iconst 1, 1) := by decide +kernel
theorem dX4_can_57 : decode cX4_can 57 = .ok (.ireturn, 1) := by decide +kernel
theorem dX4_can_58 : decode cX4_can 58 = .ok (.aload_n 0, 1) := by decide +kernel
theorem dX4_can_59 : decode cX4_can 59 = .ok (.getfield 24, 3) := by decide +kernel
theorem dX4_can_62 : decode cX4_can 62 = .ok (.iload_n 2, 1) := by decide +kernel
theorem dX4_can_63 : decode cX4_can 63 = .ok (.iaload, 1) := by decide +kernel
theorem dX4_can_64 : decode cX4_can 64 = .ok (.aload_n 0, 1) := by decide +kernel
theorem dX4_can_65 : decode cX4_can 65 = .ok (.getfield 15, 3) := by decide +kernel
theorem dX4_can_68 : decode cX4_can 68 = .ok (.iload_n 1, 1) := by decide +kernel
theorem dX4_can_69 : decode cX4_can 69 = .ok (.iaload, 1) := by decide +kernel
theorem dX4_can_70 : decode cX4_can 70 = .ok (.iand, 1) := by decide +kernel
theorem dX4_can_71 : decode cX4_can 71 = .ok (.ifCond .eq 7, 3) := by decide +kernel
theorem dX4_can_74 : decode cX4_can 74 = .ok (.iconst 1, 1) := by decide +kernel
theorem dX4_can_75 : decode cX4_can 75 = .ok (.goto 4, 3) := by decide +kernel
theorem dX4_can_78 : decode cX4_can 78 = .ok (.iconst 0, 1) := by decide +kernel
theorem dX4_can_79 : decode cX4_can 79 = .ok (.ireturn, 1) := by decide +kernel
theorem dX4_can_80 : decode cX4_can 80 = .ok (.aload_n 0, 1) := by decide +kernel
theorem dX4_can_81 : decode cX4_can 81 = .ok (.getfield 27, 3) := by decide +kernel
theorem dX4_can_84 : decode cX4_can 84 = .ok (.iload_n 2, 1) := by decide +kernel
theorem dX4_can_85 : decode cX4_can 85 = .ok (.iaload, 1) := by decide +kernel
theorem dX4_can_86 : decode cX4_can 86 = .ok (.iload_n 1, 1) := by decide +kernel
theorem dX4_can_87 : decode cX4_can 87 = .ok (.if_icmp .eq 12, 3) := by decide +kernel
theorem dX4_can_90 : decode cX4_can 90 = .ok (.aload_n 0, 1) := by decide +kernel
theorem dX4_can_91 : decode cX4_can 91 = .ok (.iload_n 1, 1) := by decide +kernel
theorem dX4_can_92 : decode cX4_can 92 = .ok (.iload_n 2, 1) := by decide +kernel
theorem dX4_can_93 : decode cX4_can 93 = .ok (.invokevirtual 61, 3) := by decide +kernel
theorem dX4_can_96 : decode cX4_can 96 = .ok (.ifCond .ne 7, 3) := by decide +kernel
theorem dX4_can_99 : decode cX4_can 99 = .ok (.iconst 1, 1) := by decide +kernel
theorem dX4_can_100 : decode cX4_can 100 = .ok (.goto 4, 3) := by decide +kernel
theorem dX4_can_103 : decode cX4_can 103 = .ok (.iconst 0, 1) := by decide +kernel
theorem dX4_can_104 : decode cX4_can 104 = .ok (.ireturn, 1) := by decide +kernel
theorem dX4_can_105 : decode cX4_can 105 = .ok (.aload_n 0, 1) := by decide +kernel
theorem dX4_can_106 : decode cX4_can 106 = .ok (.iload_n 1, 1) := by decide +kernel
theorem dX4_can_107 : decode cX4_can 107 = .ok (.iload_n 2, 1) := by decide +kernel
theorem dX4_can_108 : decode cX4_can 108 = .ok (.invokevirtual 61, 3) := by decide +kernel
theorem dX4_can_111 : decode cX4_can 111 = .ok (.ifCond .ne 7, 3) := by decide +kernel
theorem dX4_can_114 : decode cX4_can 114 = .ok (.iconst 1, 1) := by decide +kernel
theorem dX4_can_115 : decode cX4_can 115 = .ok (.goto 4, 3) := by decide +kernel
theorem dX4_can_118 : decode cX4_can 118 = .ok (.iconst 0, 1) := by decide +kernel
theorem dX4_can_119 : decode cX4_can 119 = .ok (.ireturn, 1) := by decide +kernel
theorem dX4_missing_0 : decode cX4_missing 0 = .ok (.aload_n 0, 1) := by decide +kernel
theorem dX4_missing_1 : decode cX4_missing 1 = .ok (.getfield 24, 3) := by decide +kernel
theorem dX4_missing_4 : decode cX4_missing 4 = .ok (.iload_n 2, 1) := by decide +kernel
theorem dX4_missing_5 : decode cX4_missing 5 = .ok (.iaload, 1) := by decide +kernel
theorem dX4_missing_6 : decode cX4_missing 6 = .ok (.aload_n 0, 1) := by decide +kernel
theorem dX4_missing_7 : decode cX4_missing 7 = .ok (.getfield 15, 3) := by decide +kernel
theorem dX4_missing_10 : decode cX4_missing 10 = .ok (.iload_n 1, 1) := by decide +kernel
theorem dX4_missing_11 : decode cX4_missing 11 = .ok (.iaload, 1) := by decide +kernel
theorem dX4_missing_12 : decode cX4_missing 12 = .ok (.iconst (-1), 1) := by decide +kernel
theorem dX4_missing_13 : decode cX4_missing 13 = .ok (.ixor, 1) := by decide +kernel
theorem dX4_missing_14 : decode cX4_missing 14 = .ok (.iand, 1) := by decide +kernel
theorem dX4_missing_15 : decode cX4_missing 15 = .ok (.ireturn, 1) := by decide +kernel
set_option maxRecDepth 20000 in
theorem ggX4_lacking_X4_missing : GoodIn wsX4_lacking wsX4_missing := goodIn_r _ [8, 2, 9, 17, 18, 19, 20, 21, 22, 23, 24, 25, 26, 27, 28] (by decide +kernel) (by decide +kernel)
set_option maxRecDepth 20000 in
theorem gX4_lacking_X4_missing : GoodIn wsX4_lacking (wsV RX4 61 RX4 yX4_missing wsX4_missing) := goodIn_app (goodIn_of _ (by decide +kernel)) ggX4_lacking_X4_missing
set_option maxRecDepth 20000 in
theorem ggX4_lacking_J6_bitCount_0f7a4 : GoodIn wsX4_lacking wsJ6_bitCount_0f7a4 := goodIn_r _ [13, 14, 15, 16] (by decide +kernel) (by decide +kernel)
set_option maxRecDepth 20000 in
theorem gX4_lacking_J6_bitCount_0f7a4 : GoodIn wsX4_lacking (va_wsS RX4 65 yJ6_bitCount_0f7a4 wsJ6_bitCount_0f7a4) := goodIn_app (goodIn_of _ (by decide +kernel)) ggX4_lacking_J6_bitCount_0f7a4
theorem dX4_lacking_0 : decode cX4_lacking 0 = .ok (.aload_n 0, 1) := by decide +kernel
theorem dX4_lacking_1 : decode cX4_lacking 1 = .ok (.getfield 21, 3) := by decide +kernel
theorem dX4_lacking_4 : decode cX4_lacking 4 = .ok (.iload_n 2, 1) := by decide +kernel
theorem dX4_lacking_5 : decode cX4_lacking 5 = .ok (.iaload, 1) := by decide +kernel
theorem dX4_lacking_6 : decode cX4_lacking 6 = .ok (.tableswitch 86 0 3 #[30, 86, 32, 62], 30) := by decide +kernel
theorem dX4_lacking_36 : decode cX4_lacking 36 = .ok (.iconst 0, 1) := by decide +kernel
theorem dX4_lacking_37 : decode cX4_lacking 37 = .ok (.ireturn, 1) := by decide +kernel
theorem dX4_lacking_38 : decode cX4_lacking 38 = .ok (.aload_n 0, 1) := by decide +kernel
theorem dX4_lacking_39 : decode cX4_lacking 39 = .ok (.getfield 24, 3) := by decide +kernel
theorem dX4_lacking_42 : decode cX4_lacking 42 = .ok (.iload_n 2, 1) := by decide +kernel
theorem dX4_lacking_43 : decode cX4_lacking 43 = .ok (.iaload, 1) := by decide +kernel
theorem dX4_lacking_44 : decode cX4_lacking 44 = .ok (.ifCond .eq 22, 3) := by decide +kernel
theorem dX4_lacking_47 : decode cX4_lacking 47 = .ok (.aload_n 0, 1) := by decide +kernel
theorem dX4_lacking_48 : decode cX4_lacking 48 = .ok (.iload_n 1, 1) := by decide +kernel
theorem dX4_lacking_49 : decode cX4_lacking 49 = .ok (.iload_n 2, 1) := by decide +kernel
theorem dX4_lacking_50 : decode cX4_lacking 50 = .ok (.invokevirtual 61, 3) := by decide +kernel
theorem dX4_lacking_53 : decode cX4_lacking 53 = .ok (.aload_n 0, 1) := by decide +kernel
theorem dX4_lacking_54 : decode cX4_lacking 54 = .ok (.getfield 24, 3) := by decide +kernel
theorem dX4_lacking_57 : decode cX4_lacking 57 = .ok (.iload_n 2, 1) := by decide +kernel
theorem dX4_lacking_58 : decode cX4_lacking 58 = .ok (.iaload, 1) := by decide +kernel
theorem dX4_lacking_59 : decode cX4_lacking 59 = .ok (.if_icmp .ne 7, 3) := by decide +kernel
theorem dX4_lacking_62 : decode cX4_lacking 62 = .ok (.iconst 1, 1) := by decide +kernel
theorem dX4_lacking_63 : decode cX4_lacking 63 = .ok (.goto 4, 3) := by decide +kernel
theorem dX4_lacking_66 : decode cX4_lacking 66 = .ok (.iconst 0, 1) := by decide +kernel
theorem dX4_lacking_67 : decode cX4_lacking 67 = .ok (.ireturn, 1) := by decide +kernel
theorem dX4_lacking_68 : decode cX4_lacking 68 = .ok (.aload_n 0, 1) := by decide +kernel
theorem dX4_lacking_69 : decode cX4_lacking 69 = .ok (.getfield 27, 3) := by decide +kernel
theorem dX4_lacking_72 : decode cX4_lacking 72 = .ok (.iload_n 2, 1) := by decide +kernel
theorem dX4_lacking_73 : decode cX4_lacking 73 = .ok (.iaload, 1) := by decide +kernel
theorem dX4_lacking_74 : decode cX4_lacking 74 = .ok (.iload_n 1, 1) := by decide +kernel
theorem dX4_lacking_75 : decode cX4_lacking 75 = .ok (.if_icmp .ne 7, 3) := by decide +kernel
theorem dX4_lacking_78 : decode cX4_lacking 78 = .ok (.iconst 0, 1) := by decide +kernel
theorem dX4_lacking_79 : decode cX4_lacking 79 = .ok (.goto 12, 3) := by decide +kernel
theorem dX4_lacking_82 : decode cX4_lacking 82 = .ok (.aload_n 0, 1) := by decide +kernel
theorem dX4_lacking_83 : decode cX4_lacking 83 = .ok (.iload_n 1, 1) := by decide +kernel
theorem dX4_lacking_84 : decode cX4_lacking 84 = .ok (.iload_n 2, 1) := by decide +kernel
theorem dX4_lacking_85 : decode cX4_lacking 85 = .ok (.invokevirtual 61, 3) := by decide +kernel
theorem dX4_lacking_88 : decode cX4_lacking 88 = .ok (.invokestatic 65, 3) := by decide +kernel
theorem dX4_lacking_91 : decode cX4_lacking 91 = .ok (.ireturn, 1) := by decide +kernel
theorem dX4_lacking_92 : decode cX4_lacking 92 = .ok (.aload_n 0, 1) := by decide +kernel
theorem dX4_lacking_93 : decode cX4_lacking 93 = .ok (.iload_n 1, 1) := by decide +kernel
theorem dX4_lacking_94 : decode cX4_lacking 94 = .ok (.iload_n 2, 1) := by decide +kernel
theorem dX4_lacking_95 : decode cX4_lacking 95 = .ok (.invokevirtual 61, 3) := by decide +kernel
theorem dX4_lacking_98 : decode cX4_lacking 98 = .ok (.invokestatic 65, 3) := by decide +kernel
theorem dX4_lacking_101 : decode cX4_lacking 101 = .ok (.ireturn, 1) := by decide +kernel
theorem dX4_isOfKind_0 : decode cX4_isOfKind 0 = .ok (.iload_n 2, 1) := by decide +kernel
theorem dX4_isOfKind_1 : decode cX4_isOfKind 1 = .ok (.ifCond .eq 17, 3) := by decide +kernel
theorem dX4_isOfKind_4 : decode cX4_isOfKind 4 = .ok (.iload_n 2, 1) := by decide +kernel
theorem dX4_isOfKind_5 : decode cX4_isOfKind 5 = .ok (.iconst 2, 1) := by decide +kernel
theorem dX4_isOfKind_6 : decode cX4_isOfKind 6 = .ok (.if_icmp .ne 16, 3) := by decide +kernel
theorem dX4_isOfKind_9 : decode cX4_isOfKind 9 = .ok (.aload_n 0, 1) := by decide +kernel
theorem dX4_isOfKind_10 : decode cX4_isOfKind 10 = .ok (.getfield 21, 3) := by decide +kernel
theorem dX4_isOfKind_13 : decode cX4_isOfKind 13 = .ok (.iload_n 1, 1) := by decide +kernel
theorem dX4_isOfKind_14 : decode cX4_isOfKind 14 = .ok (.iaload, 1) := by decide +kernel
theorem dX4_isOfKind_15 : decode cX4_isOfKind 15 = .ok (.ifCond .eq 7, 3) := by decide +kernel
theorem dX4_isOfKind_18 : decode cX4_isOfKind 18 = .ok (.iconst 1, 1) := by decide +kernel
theorem dX4_isOfKind_19 : decode cX4_isOfKind 19 = .ok (.goto 4, 3) := by decide +kernel
theorem dX4_isOfKind_22 : decode cX4_isOfKind 22 = .ok (.iconst 0, 1) := by decide +kernel
theorem dX4_isOfKind_23 : decode cX4_isOfKind 23 = .ok (.istore_n 3, 1) := by decide +kernel
theorem dX4_isOfKind_24 : decode cX4_isOfKind 24 = .ok (.iload_n 3, 1) := by decide +kernel
theorem dX4_isOfKind_25 : decode cX4_isOfKind 25 = .ok (.ifCond .ne 15, 3) := by decide +kernel
theorem dX4_isOfKind_28 : decode cX4_isOfKind 28 = .ok (.aload_n 0, 1) := by decide +kernel
theorem dX4_isOfKind_29 : decode cX4_isOfKind 29 = .ok (.getfield 21, 3) := by decide +kernel
theorem dX4_isOfKind_32 : decode cX4_isOfKind 32 = .ok (.iload_n 1, 1) := by decide +kernel
theorem dX4_isOfKind_33 : decode cX4_isOfKind 33 = .ok (.iaload, 1) := by decide +kernel
theorem dX4_isOfKind_34 : decode cX4_isOfKind 34 = .ok (.iconst 1, 1) := by decide +kernel
theorem dX4_isOfKind_35 : decode cX4_isOfKind 35 = .ok (.iadd, 1) := by decide +kernel
theorem dX4_isOfKind_36 : decode cX4_isOfKind 36 = .ok (.iload_n 2, 1) := by decide +kernel
theorem dX4_isOfKind_37 : decode cX4_isOfKind 37 = .ok (.if_icmp .ne 7, 3) := by decide +kernel
theorem dX4_isOfKind_40 : decode cX4_isOfKind 40 = .ok (.iconst 1, 1) := by decide +kernel
theorem dX4_isOfKind_41 : decode cX4_isOfKind 41 = .ok (.goto 4, 3) := by decide +kernel
theorem dX4_isOfKind_44 : decode cX4_isOfKind 44 = .ok (.iconst 0, 1) := by decide +kernel
theorem dX4_isOfKind_45 : decode cX4_isOfKind 45 = .ok (.ireturn, 1) := by decide +kernel
set_option maxRecDepth 20000 in
theorem ggX4_doers_X4_can : GoodIn wsX4_doers wsX4_can := goodIn_r _ [7, 8, 9, 10, 11, 12, 13, 14, 15, 16, 17, 6, 18, 19, 20, 21, 22, 23, 24, 25, 26, 27, 28, 29, 30] (by decide +kernel) (by decide +kernel)
set_option maxRecDepth 20000 in
theorem gX4_doers_X4_can : GoodIn wsX4_doers (wsV RX4 71 RX4 yX4_can wsX4_can) := goodIn_app (goodIn_of _ (by decide +kernel)) ggX4_doers_X4_can
theorem dX4_doers_0 : decode cX4_doers 0 = .ok (.iconst 0, 1) := by decide +kernel
theorem dX4_doers_1 : decode cX4_doers 1 = .ok (.istore_n 2, 1) := by decide +kernel
theorem dX4_doers_2 : decode cX4_doers 2 = .ok (.iconst 0, 1) := by decide +kernel
theorem dX4_doers_3 : decode cX4_doers 3 = .ok (.istore_n 3, 1) := by decide +kernel
theorem dX4_doers_4 : decode cX4_doers 4 = .ok (.iload_n 3, 1) := by decide +kernel
theorem dX4_doers_5 : decode cX4_doers 5 = .ok (.aload_n 0, 1) := by decide +kernel
theorem dX4_doers_6 : decode cX4_doers 6 = .ok (.getfield 43, 3) := by decide +kernel
theorem dX4_doers_9 : decode cX4_doers 9 = .ok (.if_icmp .ge 28, 3) := by decide +kernel
theorem dX4_doers_12 : decode cX4_doers 12 = .ok (.aload_n 0, 1) := by decide +kernel
theorem dX4_doers_13 : decode cX4_doers 13 = .ok (.iload_n 3, 1) := by decide +kernel
theorem dX4_doers_14 : decode cX4_doers 14 = .ok (.iload_n 1, 1) := by decide +kernel
theorem dX4_doers_15 : decode cX4_doers 15 = .ok (.aload_n 0, 1) := by decide +kernel
theorem dX4_doers_16 : decode cX4_doers 16 = .ok (.getfield 50, 3) := by decide +kernel
theorem dX4_doers_19 : decode cX4_doers 19 = .ok (.invokevirtual 71, 3) := by decide +kernel
theorem dX4_doers_22 : decode cX4_doers 22 = .ok (.ifCond .eq 9, 3) := by decide +kernel
theorem dX4_doers_25 : decode cX4_doers 25 = .ok (.iload_n 2, 1) := by decide +kernel
theorem dX4_doers_26 : decode cX4_doers 26 = .ok (.iconst 1, 1) := by decide +kernel
theorem dX4_doers_27 : decode cX4_doers 27 = .ok (.iload_n 3, 1) := by decide +kernel
theorem dX4_doers_28 : decode cX4_doers 28 = .ok (.ishl, 1) := by decide +kernel
theorem dX4_doers_29 : decode cX4_doers 29 = .ok (.ior, 1) := by decide +kernel
theorem dX4_doers_30 : decode cX4_doers 30 = .ok (.istore_n 2, 1) := by decide +kernel
theorem dX4_doers_31 : decode cX4_doers 31 = .ok (.iinc 3 1, 3) := by decide +kernel
theorem dX4_doers_34 : decode cX4_doers 34 = .ok (.goto (-30), 3) := by decide +kernel
theorem dX4_doers_37 : decode cX4_doers 37 = .ok (.iload_n 2, 1) := by decide +kernel
theorem dX4_doers_38 : decode cX4_doers 38 = .ok (.ireturn, 1) := by decide +kernel
set_option maxRecDepth 20000 in
theorem ggX4_abilities_X4_can : GoodIn wsX4_abilities wsX4_can := goodIn_r _ [7, 8, 9, 10, 11, 12, 13, 14, 15, 16, 17, 6, 18, 19, 20, 21, 22, 23, 24, 25, 26, 27, 28, 29, 30] (by decide +kernel) (by decide +kernel)
set_option maxRecDepth 20000 in
theorem gX4_abilities_X4_can : GoodIn wsX4_abilities (wsV RX4 71 RX4 yX4_can wsX4_can) := goodIn_app (goodIn_of _ (by decide +kernel)) ggX4_abilities_X4_can
theorem dX4_abilities_0 : decode cX4_abilities 0 = .ok (.iconst 0, 1) := by decide +kernel
theorem dX4_abilities_1 : decode cX4_abilities 1 = .ok (.istore_n 2, 1) := by decide +kernel
theorem dX4_abilities_2 : decode cX4_abilities 2 = .ok (.iconst 0, 1) := by decide +kernel
theorem dX4_abilities_3 : decode cX4_abilities 3 = .ok (.istore_n 3, 1) := by decide +kernel
theorem dX4_abilities_4 : decode cX4_abilities 4 = .ok (.iload_n 3, 1) := by decide +kernel
theorem dX4_abilities_5 : decode cX4_abilities 5 = .ok (.aload_n 0, 1) := by decide +kernel
theorem dX4_abilities_6 : decode cX4_abilities 6 = .ok (.getfield 47, 3) := by decide +kernel
theorem dX4_abilities_9 : decode cX4_abilities 9 = .ok (.if_icmp .ge 28, 3) := by decide +kernel
theorem dX4_abilities_12 : decode cX4_abilities 12 = .ok (.aload_n 0, 1) := by decide +kernel
theorem dX4_abilities_13 : decode cX4_abilities 13 = .ok (.iload_n 1, 1) := by decide +kernel
theorem dX4_abilities_14 : decode cX4_abilities 14 = .ok (.iload_n 3, 1) := by decide +kernel
theorem dX4_abilities_15 : decode cX4_abilities 15 = .ok (.aload_n 0, 1) := by decide +kernel
theorem dX4_abilities_16 : decode cX4_abilities 16 = .ok (.getfield 50, 3) := by decide +kernel
theorem dX4_abilities_19 : decode cX4_abilities 19 = .ok (.invokevirtual 71, 3) := by decide +kernel
theorem dX4_abilities_22 : decode cX4_abilities 22 = .ok (.ifCond .eq 9, 3) := by decide +kernel
theorem dX4_abilities_25 : decode cX4_abilities 25 = .ok (.iload_n 2, 1) := by decide +kernel
theorem dX4_abilities_26 : decode cX4_abilities 26 = .ok (.iconst 1, 1) := by decide +kernel
theorem dX4_abilities_27 : decode cX4_abilities 27 = .ok (.iload_n 3, 1) := by decide +kernel
theorem dX4_abilities_28 : decode cX4_abilities 28 = .ok (.ishl, 1) := by decide +kernel
theorem dX4_abilities_29 : decode cX4_abilities 29 = .ok (.ior, 1) := by decide +kernel
theorem dX4_abilities_30 : decode cX4_abilities 30 = .ok (.istore_n 2, 1) := by decide +kernel
theorem dX4_abilities_31 : decode cX4_abilities 31 = .ok (.iinc 3 1, 3) := by decide +kernel
theorem dX4_abilities_34 : decode cX4_abilities 34 = .ok (.goto (-30), 3) := by decide +kernel
theorem dX4_abilities_37 : decode cX4_abilities 37 = .ok (.iload_n 2, 1) := by decide +kernel
theorem dX4_abilities_38 : decode cX4_abilities 38 = .ok (.ireturn, 1) := by decide +kernel
set_option maxRecDepth 20000 in
theorem ggX4_passDay_X4_mirrored : GoodIn wsX4_passDay wsX4_mirrored := goodIn_r _ [11, 12, 13, 14, 15, 10, 16, 17, 18, 19, 20, 21, 22, 23, 24, 25, 26, 27, 28, 29, 30, 31, 32, 33, 34, 35, 36, 37, 38, 39] (by decide +kernel) (by decide +kernel)
set_option maxRecDepth 20000 in
theorem gX4_passDay_X4_mirrored : GoodIn wsX4_passDay (wsV RX4 74 RX4 yX4_mirrored wsX4_mirrored) := goodIn_app (goodIn_of _ (by decide +kernel)) ggX4_passDay_X4_mirrored
theorem dX4_passDay_0 : decode cX4_passDay 0 = .ok (.iconst 0, 1) := by decide +kernel
theorem dX4_passDay_1 : decode cX4_passDay 1 = .ok (.istore_n 3, 1) := by decide +kernel
theorem dX4_passDay_2 : decode cX4_passDay 2 = .ok (.iload_n 3, 1) := by decide +kernel
theorem dX4_passDay_3 : decode cX4_passDay 3 = .ok (.aload_n 0, 1) := by decide +kernel
theorem dX4_passDay_4 : decode cX4_passDay 4 = .ok (.getfield 43, 3) := by decide +kernel
theorem dX4_passDay_7 : decode cX4_passDay 7 = .ok (.if_icmp .ge 22, 3) := by decide +kernel
theorem dX4_passDay_10 : decode cX4_passDay 10 = .ok (.aload_n 0, 1) := by decide +kernel
theorem dX4_passDay_11 : decode cX4_passDay 11 = .ok (.getfield 36, 3) := by decide +kernel
theorem dX4_passDay_14 : decode cX4_passDay 14 = .ok (.iload_n 3, 1) := by decide +kernel
theorem dX4_passDay_15 : decode cX4_passDay 15 = .ok (.aload_n 0, 1) := by decide +kernel
theorem dX4_passDay_16 : decode cX4_passDay 16 = .ok (.aload_n 1, 1) := by decide +kernel
theorem dX4_passDay_17 : decode cX4_passDay 17 = .ok (.iload_n 3, 1) := by decide +kernel
theorem dX4_passDay_18 : decode cX4_passDay 18 = .ok (.iload_n 2, 1) := by decide +kernel
theorem dX4_passDay_19 : decode cX4_passDay 19 = .ok (.invokevirtual 74, 3) := by decide +kernel
theorem dX4_passDay_22 : decode cX4_passDay 22 = .ok (.iastore, 1) := by decide +kernel
theorem dX4_passDay_23 : decode cX4_passDay 23 = .ok (.iinc 3 1, 3) := by decide +kernel
theorem dX4_passDay_26 : decode cX4_passDay 26 = .ok (.goto (-24), 3) := by decide +kernel
theorem dX4_passDay_29 : decode cX4_passDay 29 = .ok (.aload_n 0, 1) := by decide +kernel
theorem dX4_passDay_30 : decode cX4_passDay 30 = .ok (.getfield 36, 3) := by decide +kernel
theorem dX4_passDay_33 : decode cX4_passDay 33 = .ok (.iconst 0, 1) := by decide +kernel
theorem dX4_passDay_34 : decode cX4_passDay 34 = .ok (.aload_n 1, 1) := by decide +kernel
theorem dX4_passDay_35 : decode cX4_passDay 35 = .ok (.iconst 0, 1) := by decide +kernel
theorem dX4_passDay_36 : decode cX4_passDay 36 = .ok (.aload_n 0, 1) := by decide +kernel
theorem dX4_passDay_37 : decode cX4_passDay 37 = .ok (.getfield 43, 3) := by decide +kernel
theorem dX4_passDay_40 : decode cX4_passDay 40 = .ok (.invokestatic 78, 3) := by decide +kernel
theorem dX4_passDay_43 : decode cX4_passDay 43 = .ok (.return_, 1) := by decide +kernel
set_option maxRecDepth 20000 in
theorem ggX4_mirrored_X4_can : GoodIn wsX4_mirrored wsX4_can := goodIn_r _ [6, 7, 8, 9, 10, 11, 12, 13, 14, 15, 16, 5, 17, 18, 19, 20, 21, 22, 23, 24, 25, 26, 27, 28, 29] (by decide +kernel) (by decide +kernel)
set_option maxRecDepth 20000 in
theorem gX4_mirrored_X4_can : GoodIn wsX4_mirrored (wsV RX4 71 RX4 yX4_can wsX4_can) := goodIn_app (goodIn_of _ (by decide +kernel)) ggX4_mirrored_X4_can
theorem dX4_mirrored_0 : decode cX4_mirrored 0 = .ok (.aload_n 0, 1) := by decide +kernel
theorem dX4_mirrored_1 : decode cX4_mirrored 1 = .ok (.getfield 9, 3) := by decide +kernel
theorem dX4_mirrored_4 : decode cX4_mirrored 4 = .ok (.iload_n 2, 1) := by decide +kernel
theorem dX4_mirrored_5 : decode cX4_mirrored 5 = .ok (.iaload, 1) := by decide +kernel
theorem dX4_mirrored_6 : decode cX4_mirrored 6 = .ok (.iconst (-1), 1) := by decide +kernel
theorem dX4_mirrored_7 : decode cX4_mirrored 7 = .ok (.if_icmp .ne 7, 3) := by decide +kernel
theorem dX4_mirrored_10 : decode cX4_mirrored 10 = .ok (.iconst (-1), 1) := by decide +kernel
theorem dX4_mirrored_11 : decode cX4_mirrored 11 = .ok (.goto 11, 3) := by decide +kernel
theorem dX4_mirrored_14 : decode cX4_mirrored 14 = .ok (.aload_n 1, 1) := by decide +kernel
theorem dX4_mirrored_15 : decode cX4_mirrored 15 = .ok (.aload_n 0, 1) := by decide +kernel
theorem dX4_mirrored_16 : decode cX4_mirrored 16 = .ok (.getfield 9, 3) := by decide +kernel
theorem dX4_mirrored_19 : decode cX4_mirrored 19 = .ok (.iload_n 2, 1) := by decide +kernel
theorem dX4_mirrored_20 : decode cX4_mirrored 20 = .ok (.iaload, 1) := by decide +kernel
theorem dX4_mirrored_21 : decode cX4_mirrored 21 = .ok (.iaload, 1) := by decide +kernel
theorem dX4_mirrored_22 : decode cX4_mirrored 22 = .ok (.istore 4, 2) := by decide +kernel
theorem dX4_mirrored_24 : decode cX4_mirrored 24 = .ok (.iload 4, 2) := by decide +kernel
theorem dX4_mirrored_26 : decode cX4_mirrored 26 = .ok (.iconst (-1), 1) := by decide +kernel
theorem dX4_mirrored_27 : decode cX4_mirrored 27 = .ok (.if_icmp .eq 19, 3) := by decide +kernel
theorem dX4_mirrored_30 : decode cX4_mirrored 30 = .ok (.aload_n 0, 1) := by decide +kernel
theorem dX4_mirrored_31 : decode cX4_mirrored 31 = .ok (.iload_n 2, 1) := by decide +kernel
theorem dX4_mirrored_32 : decode cX4_mirrored 32 = .ok (.iload 4, 2) := by decide +kernel
theorem dX4_mirrored_34 : decode cX4_mirrored 34 = .ok (.iload_n 3, 1) := by decide +kernel
theorem dX4_mirrored_35 : decode cX4_mirrored 35 = .ok (.invokevirtual 71, 3) := by decide +kernel
theorem dX4_mirrored_38 : decode cX4_mirrored 38 = .ok (.ifCond .eq 8, 3) := by decide +kernel
theorem dX4_mirrored_41 : decode cX4_mirrored 41 = .ok (.iload 4, 2) := by decide +kernel
theorem dX4_mirrored_43 : decode cX4_mirrored 43 = .ok (.goto 4, 3) := by decide +kernel
theorem dX4_mirrored_46 : decode cX4_mirrored 46 = .ok (.iconst (-1), 1) := by decide +kernel
theorem dX4_mirrored_47 : decode cX4_mirrored 47 = .ok (.ireturn, 1) := by decide +kernel
theorem dX4_wayEnd_0 : decode cX4_wayEnd 0 = .ok (.iload_n 1, 1) := by decide +kernel
theorem dX4_wayEnd_1 : decode cX4_wayEnd 1 = .ok (.istore_n 3, 1) := by decide +kernel
theorem dX4_wayEnd_2 : decode cX4_wayEnd 2 = .ok (.iconst 0, 1) := by decide +kernel
theorem dX4_wayEnd_3 : decode cX4_wayEnd 3 = .ok (.istore 4, 2) := by decide +kernel
theorem dX4_wayEnd_5 : decode cX4_wayEnd 5 = .ok (.iload 4, 2) := by decide +kernel
theorem dX4_wayEnd_7 : decode cX4_wayEnd 7 = .ok (.iload_n 2, 1) := by decide +kernel
theorem dX4_wayEnd_8 : decode cX4_wayEnd 8 = .ok (.if_icmp .ge 21, 3) := by decide +kernel
theorem dX4_wayEnd_11 : decode cX4_wayEnd 11 = .ok (.iload_n 3, 1) := by decide +kernel
theorem dX4_wayEnd_12 : decode cX4_wayEnd 12 = .ok (.iconst (-1), 1) := by decide +kernel
theorem dX4_wayEnd_13 : decode cX4_wayEnd 13 = .ok (.if_icmp .eq 16, 3) := by decide +kernel
theorem dX4_wayEnd_16 : decode cX4_wayEnd 16 = .ok (.aload_n 0, 1) := by decide +kernel
theorem dX4_wayEnd_17 : decode cX4_wayEnd 17 = .ok (.getfield 9, 3) := by decide +kernel
theorem dX4_wayEnd_20 : decode cX4_wayEnd 20 = .ok (.iload_n 3, 1) := by decide +kernel
theorem dX4_wayEnd_21 : decode cX4_wayEnd 21 = .ok (.iaload, 1) := by decide +kernel
theorem dX4_wayEnd_22 : decode cX4_wayEnd 22 = .ok (.istore_n 3, 1) := by decide +kernel
theorem dX4_wayEnd_23 : decode cX4_wayEnd 23 = .ok (.iinc 4 1, 3) := by decide +kernel
theorem dX4_wayEnd_26 : decode cX4_wayEnd 26 = .ok (.goto (-21), 3) := by decide +kernel
theorem dX4_wayEnd_29 : decode cX4_wayEnd 29 = .ok (.iload_n 3, 1) := by decide +kernel
theorem dX4_wayEnd_30 : decode cX4_wayEnd 30 = .ok (.ireturn, 1) := by decide +kernel
set_option maxRecDepth 20000 in
theorem ggX4_passing_X4_abilities : GoodIn wsX4_passing wsX4_abilities := goodIn_r _ [6, 7, 8, 9, 10, 11, 5, 12, 13, 14, 15, 16, 17, 18, 19, 20, 21, 22, 23, 24, 25, 26, 27, 28, 29, 30, 31, 32, 33, 34, 35] (by decide +kernel) (by decide +kernel)
set_option maxRecDepth 20000 in
theorem gX4_passing_X4_abilities : GoodIn wsX4_passing (wsV RX4 84 RX4 yX4_abilities wsX4_abilities) := goodIn_app (goodIn_of _ (by decide +kernel)) ggX4_passing_X4_abilities
theorem dX4_passing_0 : decode cX4_passing 0 = .ok (.iload_n 1, 1) := by decide +kernel
theorem dX4_passing_1 : decode cX4_passing 1 = .ok (.istore_n 3, 1) := by decide +kernel
theorem dX4_passing_2 : decode cX4_passing 2 = .ok (.bipush 63, 2) := by decide +kernel
theorem dX4_passing_4 : decode cX4_passing 4 = .ok (.istore 4, 2) := by decide +kernel
theorem dX4_passing_6 : decode cX4_passing 6 = .ok (.iconst 0, 1) := by decide +kernel
theorem dX4_passing_7 : decode cX4_passing 7 = .ok (.istore 5, 2) := by decide +kernel
theorem dX4_passing_9 : decode cX4_passing 9 = .ok (.iload 5, 2) := by decide +kernel
theorem dX4_passing_11 : decode cX4_passing 11 = .ok (.iload_n 2, 1) := by decide +kernel
theorem dX4_passing_12 : decode cX4_passing 12 = .ok (.if_icmp .gt 33, 3) := by decide +kernel
theorem dX4_passing_15 : decode cX4_passing 15 = .ok (.iload_n 3, 1) := by decide +kernel
theorem dX4_passing_16 : decode cX4_passing 16 = .ok (.iconst (-1), 1) := by decide +kernel
theorem dX4_passing_17 : decode cX4_passing 17 = .ok (.if_icmp .ne 5, 3) := by decide +kernel
theorem dX4_passing_20 : decode cX4_passing 20 = .ok (.iconst 0, 1) := by decide +kernel
theorem dX4_passing_21 : decode cX4_passing 21 = .ok (.ireturn, 1) := by decide +kernel
theorem dX4_passing_22 : decode cX4_passing 22 = .ok (.iload 4, 2) := by decide +kernel
theorem dX4_passing_24 : decode cX4_passing 24 = .ok (.aload_n 0, 1) := by decide +kernel
theorem dX4_passing_25 : decode cX4_passing 25 = .ok (.iload_n 3, 1) := by decide +kernel
theorem dX4_passing_26 : decode cX4_passing 26 = .ok (.invokevirtual 84, 3) := by decide +kernel
theorem dX4_passing_29 : decode cX4_passing 29 = .ok (.iand, 1) := by decide +kernel
theorem dX4_passing_30 : decode cX4_passing 30 = .ok (.istore 4, 2) := by decide +kernel
theorem dX4_passing_32 : decode cX4_passing 32 = .ok (.aload_n 0, 1) := by decide +kernel
theorem dX4_passing_33 : decode cX4_passing 33 = .ok (.getfield 9, 3) := by decide +kernel
theorem dX4_passing_36 : decode cX4_passing 36 = .ok (.iload_n 3, 1) := by decide +kernel
theorem dX4_passing_37 : decode cX4_passing 37 = .ok (.iaload, 1) := by decide +kernel
theorem dX4_passing_38 : decode cX4_passing 38 = .ok (.istore_n 3, 1) := by decide +kernel
theorem dX4_passing_39 : decode cX4_passing 39 = .ok (.iinc 5 1, 3) := by decide +kernel
theorem dX4_passing_42 : decode cX4_passing 42 = .ok (.goto (-33), 3) := by decide +kernel
theorem dX4_passing_45 : decode cX4_passing 45 = .ok (.iload 4, 2) := by decide +kernel
theorem dX4_passing_47 : decode cX4_passing 47 = .ok (.ireturn, 1) := by decide +kernel
theorem dX4_roundOf_0 : decode cX4_roundOf 0 = .ok (.iload_n 1, 1) := by decide +kernel
theorem dX4_roundOf_1 : decode cX4_roundOf 1 = .ok (.istore_n 2, 1) := by decide +kernel
theorem dX4_roundOf_2 : decode cX4_roundOf 2 = .ok (.iconst 0, 1) := by decide +kernel
theorem dX4_roundOf_3 : decode cX4_roundOf 3 = .ok (.istore_n 3, 1) := by decide +kernel
theorem dX4_roundOf_4 : decode cX4_roundOf 4 = .ok (.iconst 0, 1) := by decide +kernel
theorem dX4_roundOf_5 : decode cX4_roundOf 5 = .ok (.istore 4, 2) := by decide +kernel
theorem dX4_roundOf_7 : decode cX4_roundOf 7 = .ok (.iload 4, 2) := by decide +kernel
theorem dX4_roundOf_9 : decode cX4_roundOf 9 = .ok (.aload_n 0, 1) := by decide +kernel
theorem dX4_roundOf_10 : decode cX4_roundOf 10 = .ok (.getfield 43, 3) := by decide +kernel
theorem dX4_roundOf_13 : decode cX4_roundOf 13 = .ok (.if_icmp .ge 34, 3) := by decide +kernel
theorem dX4_roundOf_16 : decode cX4_roundOf 16 = .ok (.iload_n 2, 1) := by decide +kernel
theorem dX4_roundOf_17 : decode cX4_roundOf 17 = .ok (.iconst (-1), 1) := by decide +kernel
theorem dX4_roundOf_18 : decode cX4_roundOf 18 = .ok (.if_icmp .eq 29, 3) := by decide +kernel
theorem dX4_roundOf_21 : decode cX4_roundOf 21 = .ok (.iload_n 3, 1) := by decide +kernel
theorem dX4_roundOf_22 : decode cX4_roundOf 22 = .ok (.iconst 1, 1) := by decide +kernel
theorem dX4_roundOf_23 : decode cX4_roundOf 23 = .ok (.iload_n 2, 1) := by decide +kernel
theorem dX4_roundOf_24 : decode cX4_roundOf 24 = .ok (.ishl, 1) := by decide +kernel
theorem dX4_roundOf_25 : decode cX4_roundOf 25 = .ok (.ior, 1) := by decide +kernel
theorem dX4_roundOf_26 : decode cX4_roundOf 26 = .ok (.istore_n 3, 1) := by decide +kernel
theorem dX4_roundOf_27 : decode cX4_roundOf 27 = .ok (.aload_n 0, 1) := by decide +kernel
theorem dX4_roundOf_28 : decode cX4_roundOf 28 = .ok (.getfield 9, 3) := by decide +kernel
theorem dX4_roundOf_31 : decode cX4_roundOf 31 = .ok (.iload_n 2, 1) := by decide +kernel
theorem dX4_roundOf_32 : decode cX4_roundOf 32 = .ok (.iaload, 1) := by decide +kernel
theorem dX4_roundOf_33 : decode cX4_roundOf 33 = .ok (.istore_n 2, 1) := by decide +kernel
theorem dX4_roundOf_34 : decode cX4_roundOf 34 = .ok (.iload_n 2, 1) := by decide +kernel
theorem dX4_roundOf_35 : decode cX4_roundOf 35 = .ok (.iload_n 1, 1) := by decide +kernel
theorem dX4_roundOf_36 : decode cX4_roundOf 36 = .ok (.if_icmp .ne 5, 3) := by decide +kernel
theorem dX4_roundOf_39 : decode cX4_roundOf 39 = .ok (.iload_n 3, 1) := by decide +kernel
theorem dX4_roundOf_40 : decode cX4_roundOf 40 = .ok (.ireturn, 1) := by decide +kernel
theorem dX4_roundOf_41 : decode cX4_roundOf 41 = .ok (.iinc 4 1, 3) := by decide +kernel
theorem dX4_roundOf_44 : decode cX4_roundOf 44 = .ok (.goto (-37), 3) := by decide +kernel
theorem dX4_roundOf_47 : decode cX4_roundOf 47 = .ok (.iconst 0, 1) := by decide +kernel
theorem dX4_roundOf_48 : decode cX4_roundOf 48 = .ok (.ireturn, 1) := by decide +kernel
set_option maxRecDepth 20000 in
theorem ggX5_init_X2_init : GoodIn wsX5_init wsX2_init := goodIn_r _ [34, 35, 2, 3, 22, 36, 37, 38, 78, 79, 80, 81, 82, 83, 84, 85, 86] (by decide +kernel) (by decide +kernel)
set_option maxRecDepth 20000 in
theorem gX5_init_X2_init_n11 : GoodIn wsX5_init (wsX2_init) := ggX5_init_X2_init
set_option maxRecDepth 20000 in
theorem ggX5_init_X4_init : GoodIn wsX5_init wsX4_init := goodIn_r _ [40, 41, 2, 3, 22, 42, 43, 44, 45, 46, 47, 48, 49, 50, 51, 52, 53, 10, 54, 55, 56, 57, 100, 101, 102, 103, 104, 105, 106, 107, 108, 109, 110, 111] (by decide +kernel) (by decide +kernel)
set_option maxRecDepth 20000 in
theorem gX5_init_X4_init_n18 : GoodIn wsX5_init (wsX4_init) := ggX5_init_X4_init
set_option maxRecDepth 20000 in
theorem ggX5_init_X0_init : GoodIn wsX5_init wsX0_init := goodIn_r _ [59, 60, 2, 3, 22, 61, 62, 63, 64, 65, 14, 66, 112, 113, 114, 115] (by decide +kernel) (by decide +kernel)
set_option maxRecDepth 20000 in
theorem gX5_init_X0_init_n25 : GoodIn wsX5_init (wsX0_init) := ggX5_init_X0_init
set_option maxRecDepth 20000 in
theorem ggX5_init_X3_init : GoodIn wsX5_init wsX3_init := goodIn_r _ [68, 69, 2, 3, 22, 70, 71, 72, 116, 117, 118, 119] (by decide +kernel) (by decide +kernel)
set_option maxRecDepth 20000 in
theorem gX5_init_X3_init_n36 : GoodIn wsX5_init (wsX3_init) := ggX5_init_X3_init
set_option maxRecDepth 20000 in
theorem ggX5_init_X1_init : GoodIn wsX5_init wsX1_init := goodIn_r _ [74, 75, 2, 3, 22, 76, 77, 120, 121] (by decide +kernel) (by decide +kernel)
set_option maxRecDepth 20000 in
theorem gX5_init_X1_init_n62 : GoodIn wsX5_init (wsX1_init) := ggX5_init_X1_init
theorem dX5_init_0 : decode cX5_init 0 = .ok (.aload_n 0, 1) := by decide +kernel
theorem dX5_init_1 : decode cX5_init 1 = .ok (.invokespecial 3, 3) := by decide +kernel
theorem dX5_init_4 : decode cX5_init 4 = .ok (.aload_n 0, 1) := by decide +kernel
theorem dX5_init_5 : decode cX5_init 5 = .ok (.new 9, 3) := by decide +kernel
theorem dX5_init_8 : decode cX5_init 8 = .ok (.dup, 1) := by decide +kernel
theorem dX5_init_9 : decode cX5_init 9 = .ok (.invokespecial 11, 3) := by decide +kernel
theorem dX5_init_12 : decode cX5_init 12 = .ok (.putfield 12, 3) := by decide +kernel
theorem dX5_init_15 : decode cX5_init 15 = .ok (.aload_n 0, 1) := by decide +kernel
theorem dX5_init_16 : decode cX5_init 16 = .ok (.new 16, 3) := by decide +kernel
theorem dX5_init_19 : decode cX5_init 19 = .ok (.dup, 1) := by decide +kernel
theorem dX5_init_20 : decode cX5_init 20 = .ok (.invokespecial 18, 3) := by decide +kernel
theorem dX5_init_23 : decode cX5_init 23 = .ok (.putfield 19, 3) := by decide +kernel
theorem dX5_init_26 : decode cX5_init 26 = .ok (.aload_n 0, 1) := by decide +kernel
theorem dX5_init_27 : decode cX5_init 27 = .ok (.new 23, 3) := by decide +kernel
theorem dX5_init_30 : decode cX5_init 30 = .ok (.dup, 1) := by decide +kernel
theorem dX5_init_31 : decode cX5_init 31 = .ok (.invokespecial 25, 3) := by decide +kernel
theorem dX5_init_34 : decode cX5_init 34 = .ok (.putfield 26, 3) := by decide +kernel
theorem dX5_init_37 : decode cX5_init 37 = .ok (.aload_n 0, 1) := by decide +kernel
theorem dX5_init_38 : decode cX5_init 38 = .ok (.iconst 2, 1) := by decide +kernel
theorem dX5_init_39 : decode cX5_init 39 = .ok (.anewarray 23, 3) := by decide +kernel
theorem dX5_init_42 : decode cX5_init 42 = .ok (.putfield 30, 3) := by decide +kernel
theorem dX5_init_45 : decode cX5_init 45 = .ok (.aload_n 0, 1) := by decide +kernel
theorem dX5_init_46 : decode cX5_init 46 = .ok (.new 34, 3) := by decide +kernel
theorem dX5_init_49 : decode cX5_init 49 = .ok (.dup, 1) := by decide +kernel
theorem dX5_init_50 : decode cX5_init 50 = .ok (.invokespecial 36, 3) := by decide +kernel
theorem dX5_init_53 : decode cX5_init 53 = .ok (.putfield 37, 3) := by decide +kernel
theorem dX5_init_56 : decode cX5_init 56 = .ok (.aload_n 0, 1) := by decide +kernel
theorem dX5_init_57 : decode cX5_init 57 = .ok (.new 34, 3) := by decide +kernel
theorem dX5_init_60 : decode cX5_init 60 = .ok (.dup, 1) := by decide +kernel
theorem dX5_init_61 : decode cX5_init 61 = .ok (.invokespecial 36, 3) := by decide +kernel
theorem dX5_init_64 : decode cX5_init 64 = .ok (.putfield 41, 3) := by decide +kernel
theorem dX5_init_67 : decode cX5_init 67 = .ok (.aload_n 0, 1) := by decide +kernel
theorem dX5_init_68 : decode cX5_init 68 = .ok (.bipush 8, 2) := by decide +kernel
theorem dX5_init_70 : decode cX5_init 70 = .ok (.newarray .int, 2) := by decide +kernel
theorem dX5_init_72 : decode cX5_init 72 = .ok (.putfield 44, 3) := by decide +kernel
theorem dX5_init_75 : decode cX5_init 75 = .ok (.aload_n 0, 1) := by decide +kernel
theorem dX5_init_76 : decode cX5_init 76 = .ok (.bipush 8, 2) := by decide +kernel
theorem dX5_init_78 : decode cX5_init 78 = .ok (.newarray .int, 2) := by decide +kernel
theorem dX5_init_80 : decode cX5_init 80 = .ok (.putfield 48, 3) := by decide +kernel
theorem dX5_init_83 : decode cX5_init 83 = .ok (.aload_n 0, 1) := by decide +kernel
theorem dX5_init_84 : decode cX5_init 84 = .ok (.bipush 8, 2) := by decide +kernel
theorem dX5_init_86 : decode cX5_init 86 = .ok (.newarray .int, 2) := by decide +kernel
theorem dX5_init_88 : decode cX5_init 88 = .ok (.putfield 51, 3) := by decide +kernel
theorem dX5_init_91 : decode cX5_init 91 = .ok (.aload_n 0, 1) := by decide +kernel
theorem dX5_init_92 : decode cX5_init 92 = .ok (.bipush 32, 2) := by decide +kernel
theorem dX5_init_94 : decode cX5_init 94 = .ok (.newarray .int, 2) := by decide +kernel
theorem dX5_init_96 : decode cX5_init 96 = .ok (.putfield 54, 3) := by decide +kernel
theorem dX5_init_99 : decode cX5_init 99 = .ok (.aload_n 0, 1) := by decide +kernel
theorem dX5_init_100 : decode cX5_init 100 = .ok (.sipush 256, 3) := by decide +kernel
theorem dX5_init_103 : decode cX5_init 103 = .ok (.newarray .int, 2) := by decide +kernel
theorem dX5_init_105 : decode cX5_init 105 = .ok (.putfield 57, 3) := by decide +kernel
theorem dX5_init_108 : decode cX5_init 108 = .ok (.aload_n 0, 1) := by decide +kernel
theorem dX5_init_109 : decode cX5_init 109 = .ok (.new 60, 3) := by decide +kernel
theorem dX5_init_112 : decode cX5_init 112 = .ok (.dup, 1) := by decide +kernel
theorem dX5_init_113 : decode cX5_init 113 = .ok (.invokespecial 62, 3) := by decide +kernel
theorem dX5_init_116 : decode cX5_init 116 = .ok (.putfield 63, 3) := by decide +kernel
theorem dX5_init_119 : decode cX5_init 119 = .ok (.aload_n 0, 1) := by decide +kernel
theorem dX5_init_120 : decode cX5_init 120 = .ok (.new 60, 3) := by decide +kernel
theorem dX5_init_123 : decode cX5_init 123 = .ok (.dup, 1) := by decide +kernel
theorem dX5_init_124 : decode cX5_init 124 = .ok (.invokespecial 62, 3) := by decide +kernel
theorem dX5_init_127 : decode cX5_init 127 = .ok (.putfield 67, 3) := by decide +kernel
theorem dX5_init_130 : decode cX5_init 130 = .ok (.iconst 0, 1) := by decide +kernel
theorem dX5_init_131 : decode cX5_init 131 = .ok (.istore_n 1, 1) := by decide +kernel
theorem dX5_init_132 : decode cX5_init 132 = .ok (.iload_n 1, 1) := by decide +kernel
theorem dX5_init_133 : decode cX5_init 133 = .ok (.iconst 2, 1) := by decide +kernel
theorem dX5_init_134 : decode cX5_init 134 = .ok (.if_icmp .ge 22, 3) := by decide +kernel
theorem dX5_init_137 : decode cX5_init 137 = .ok (.aload_n 0, 1) := by decide +kernel
theorem dX5_init_138 : decode cX5_init 138 = .ok (.getfield 30, 3) := by decide +kernel
theorem dX5_init_141 : decode cX5_init 141 = .ok (.iload_n 1, 1) := by decide +kernel
theorem dX5_init_142 : decode cX5_init 142 = .ok (.new 23, 3) := by decide +kernel
theorem dX5_init_145 : decode cX5_init 145 = .ok (.dup, 1) := by decide +kernel
theorem dX5_init_146 : decode cX5_init 146 = .ok (.invokespecial 25, 3) := by decide +kernel
theorem dX5_init_149 : decode cX5_init 149 = .ok (.aastore, 1) := by decide +kernel
theorem dX5_init_150 : decode cX5_init 150 = .ok (.iinc 1 1, 3) := by decide +kernel
theorem dX5_init_153 : decode cX5_init 153 = .ok (.goto (-21), 3) := by decide +kernel
theorem dX5_init_156 : decode cX5_init 156 = .ok (.return_, 1) := by decide +kernel
set_option maxRecDepth 20000 in
theorem ggX5_write_X5_within : GoodIn wsX5_write wsX5_within := goodIn_r _ [6] (by decide +kernel) (by decide +kernel)
set_option maxRecDepth 20000 in
theorem gX5_write_X5_within : GoodIn wsX5_write (va_wsS RX5 70 yX5_within wsX5_within) := goodIn_app (goodIn_of _ (by decide +kernel)) ggX5_write_X5_within
set_option maxRecDepth 20000 in
theorem ggX5_write_X2_append : GoodIn wsX5_write wsX2_append := goodIn_r _ [10, 11, 12, 26, 27, 28, 29, 30, 31, 32, 33, 34] (by decide +kernel) (by decide +kernel)
set_option maxRecDepth 20000 in
theorem gX5_write_X2_append_n80 : GoodIn wsX5_write (wsX2_append) := ggX5_write_X2_append
theorem dX5_write_0 : decode cX5_write 0 = .ok (.iload_n 3, 1) := by decide +kernel
theorem dX5_write_1 : decode cX5_write 1 = .ok (.iconst 1, 1) := by decide +kernel
theorem dX5_write_2 : decode cX5_write 2 = .ok (.bipush 8, 2) := by decide +kernel
theorem dX5_write_4 : decode cX5_write 4 = .ok (.invokestatic 70, 3) := by decide +kernel
theorem dX5_write_7 : decode cX5_write 7 = .ok (.ifCond .ne 6, 3) := by decide +kernel
theorem dX5_write_10 : decode cX5_write 10 = .ok (.bipush (-3), 2) := by decide +kernel
theorem dX5_write_12 : decode cX5_write 12 = .ok (.ireturn, 1) := by decide +kernel
theorem dX5_write_13 : decode cX5_write 13 = .ok (.aload_n 0, 1) := by decide +kernel
theorem dX5_write_14 : decode cX5_write 14 = .ok (.getfield 12, 3) := by decide +kernel
theorem dX5_write_17 : decode cX5_write 17 = .ok (.getfield 74, 3) := by decide +kernel
theorem dX5_write_20 : decode cX5_write 20 = .ok (.iload_n 3, 1) := by decide +kernel
theorem dX5_write_21 : decode cX5_write 21 = .ok (.iadd, 1) := by decide +kernel
theorem dX5_write_22 : decode cX5_write 22 = .ok (.sipush 200, 3) := by decide +kernel
theorem dX5_write_25 : decode cX5_write 25 = .ok (.if_icmp .le 6, 3) := by decide +kernel
theorem dX5_write_28 : decode cX5_write 28 = .ok (.bipush (-5), 2) := by decide +kernel
theorem dX5_write_30 : decode cX5_write 30 = .ok (.ireturn, 1) := by decide +kernel
theorem dX5_write_31 : decode cX5_write 31 = .ok (.iconst 0, 1) := by decide +kernel
theorem dX5_write_32 : decode cX5_write 32 = .ok (.istore 4, 2) := by decide +kernel
theorem dX5_write_34 : decode cX5_write 34 = .ok (.iload 4, 2) := by decide +kernel
theorem dX5_write_36 : decode cX5_write 36 = .ok (.iload_n 3, 1) := by decide +kernel
theorem dX5_write_37 : decode cX5_write 37 = .ok (.if_icmp .ge 28, 3) := by decide +kernel
theorem dX5_write_40 : decode cX5_write 40 = .ok (.aload_n 0, 1) := by decide +kernel
theorem dX5_write_41 : decode cX5_write 41 = .ok (.getfield 12, 3) := by decide +kernel
theorem dX5_write_44 : decode cX5_write 44 = .ok (.lload_n 1, 1) := by decide +kernel
theorem dX5_write_45 : decode cX5_write 45 = .ok (.bipush 8, 2) := by decide +kernel
theorem dX5_write_47 : decode cX5_write 47 = .ok (.iload 4, 2) := by decide +kernel
theorem dX5_write_49 : decode cX5_write 49 = .ok (.imul, 1) := by decide +kernel
theorem dX5_write_50 : decode cX5_write 50 = .ok (.lshr, 1) := by decide +kernel
theorem dX5_write_51 : decode cX5_write 51 = .ok (.ldc2_w 78, 3) := by decide +kernel
theorem dX5_write_54 : decode cX5_write 54 = .ok (.land, 1) := by decide +kernel
theorem dX5_write_55 : decode cX5_write 55 = .ok (.l2i, 1) := by decide +kernel
theorem dX5_write_56 : decode cX5_write 56 = .ok (.invokevirtual 80, 3) := by decide +kernel
theorem dX5_write_59 : decode cX5_write 59 = .ok (.iinc 4 1, 3) := by decide +kernel
theorem dX5_write_62 : decode cX5_write 62 = .ok (.goto (-28), 3) := by decide +kernel
theorem dX5_write_65 : decode cX5_write 65 = .ok (.aload_n 0, 1) := by decide +kernel
theorem dX5_write_66 : decode cX5_write 66 = .ok (.getfield 12, 3) := by decide +kernel
theorem dX5_write_69 : decode cX5_write 69 = .ok (.getfield 74, 3) := by decide +kernel
theorem dX5_write_72 : decode cX5_write 72 = .ok (.ireturn, 1) := by decide +kernel
set_option maxRecDepth 20000 in
theorem ggX5_erase_X2_empty : GoodIn wsX5_erase wsX2_empty := goodIn_r _ [5, 6, 20, 21, 22, 23, 24, 25, 26, 27, 28] (by decide +kernel) (by decide +kernel)
set_option maxRecDepth 20000 in
theorem gX5_erase_X2_empty_n84 : GoodIn wsX5_erase (wsX2_empty) := ggX5_erase_X2_empty
theorem dX5_erase_0 : decode cX5_erase 0 = .ok (.aload_n 0, 1) := by decide +kernel
theorem dX5_erase_1 : decode cX5_erase 1 = .ok (.getfield 12, 3) := by decide +kernel
theorem dX5_erase_4 : decode cX5_erase 4 = .ok (.invokevirtual 84, 3) := by decide +kernel
theorem dX5_erase_7 : decode cX5_erase 7 = .ok (.ireturn, 1) := by decide +kernel
set_option maxRecDepth 20000 in
theorem ggX5_fault_X2_faultPlace : GoodIn wsX5_fault wsX2_faultPlace := goodIn_r _ [6, 7, 8, 9, 10, 11, 12, 13, 14, 15, 16, 4, 17, 18, 19, 20, 21, 22, 23, 24, 25, 26, 27, 28, 29, 30, 31, 32, 33, 34, 35, 36, 37, 38, 39, 40, 41, 42, 43, 44, 45, 46, 47, 48, 49, 50, 51, 52, 53, 54, 55, 56, 57, 58, 59, 60, 61, 62, 63, 64, 65, 66, 67, 68, 69, 70, 71, 72, 73, 74, 75, 76, 77, 78, 79, 80, 81, 82, 83, 84, 85, 86, 87, 88, 89, 90, 91, 92, 93, 94, 95, 96, 97, 98, 99, 100, 101, 102, 103, 104, 105, 106, 107, 133, 134, 135, 136, 137, 138, 139, 140, 141] (by decide +kernel) (by decide +kernel)
set_option maxRecDepth 20000 in
theorem gX5_fault_X2_faultPlace_n94 : GoodIn wsX5_fault (wsX2_faultPlace) := ggX5_fault_X2_faultPlace
theorem dX5_fault_0 : decode cX5_fault 0 = .ok (.aload_n 0, 1) := by decide +kernel
theorem dX5_fault_1 : decode cX5_fault 1 = .ok (.getfield 12, 3) := by decide +kernel
theorem dX5_fault_4 : decode cX5_fault 4 = .ok (.aload_n 0, 1) := by decide +kernel
theorem dX5_fault_5 : decode cX5_fault 5 = .ok (.getfield 19, 3) := by decide +kernel
theorem dX5_fault_8 : decode cX5_fault 8 = .ok (.getfield 88, 3) := by decide +kernel
theorem dX5_fault_11 : decode cX5_fault 11 = .ok (.aload_n 0, 1) := by decide +kernel
theorem dX5_fault_12 : decode cX5_fault 12 = .ok (.getfield 19, 3) := by decide +kernel
theorem dX5_fault_15 : decode cX5_fault 15 = .ok (.getfield 91, 3) := by decide +kernel
theorem dX5_fault_18 : decode cX5_fault 18 = .ok (.invokevirtual 94, 3) := by decide +kernel
theorem dX5_fault_21 : decode cX5_fault 21 = .ok (.ireturn, 1) := by decide +kernel
set_option maxRecDepth 20000 in
theorem ggX5_street_X2_faultPlace : GoodIn wsX5_street wsX2_faultPlace := goodIn_r _ [10, 11, 12, 13, 14, 15, 16, 17, 18, 19, 20, 8, 21, 22, 23, 24, 25, 26, 27, 28, 29, 30, 31, 32, 33, 34, 35, 36, 37, 38, 39, 40, 41, 42, 43, 44, 45, 46, 47, 48, 49, 50, 51, 52, 53, 54, 55, 56, 57, 58, 59, 60, 61, 62, 63, 64, 65, 66, 67, 68, 69, 70, 71, 72, 73, 74, 75, 76, 77, 78, 79, 80, 81, 82, 83, 84, 85, 86, 87, 88, 89, 90, 91, 92, 93, 94, 95, 96, 97, 98, 99, 100, 101, 102, 103, 104, 105, 106, 107, 108, 109, 110, 111, 189, 190, 191, 192, 193, 194, 195, 196, 197] (by decide +kernel) (by decide +kernel)
set_option maxRecDepth 20000 in
theorem gX5_street_X2_faultPlace_n94 : GoodIn wsX5_street (wsX2_faultPlace) := ggX5_street_X2_faultPlace
set_option maxRecDepth 20000 in
theorem ggX5_street_X5_perform : GoodIn wsX5_street wsX5_perform := goodIn_r _ [115, 1, 2, 3, 109, 8, 110, 111, 23, 116, 117, 118, 119, 120, 121, 122, 123, 124, 125, 126, 127, 128, 129, 130, 131, 132, 133, 134, 135, 136, 137, 32, 138, 139, 140, 141, 142, 143, 144, 145, 146, 147, 148, 149, 150, 164, 165, 166, 167, 168, 169, 170, 171, 172, 173, 174, 175, 176, 189, 190, 191, 192, 193, 194, 195, 196, 197, 177, 178, 179, 180, 181, 182, 183, 184, 185, 186, 187, 188, 198, 199, 200, 201] (by decide +kernel) (by decide +kernel)
set_option maxRecDepth 20000 in
theorem gX5_street_X5_perform : GoodIn wsX5_street (wsV RX5 101 RX5 yX5_perform wsX5_perform) := goodIn_app (goodIn_of _ (by decide +kernel)) ggX5_street_X5_perform
set_option maxRecDepth 20000 in
theorem ggX5_street_X0_restart : GoodIn wsX5_street wsX0_restart := goodIn_r _ [153, 154, 155, 198, 199, 200, 201] (by decide +kernel) (by decide +kernel)
set_option maxRecDepth 20000 in
theorem gX5_street_X0_restart_n104 : GoodIn wsX5_street (wsX0_restart) := ggX5_street_X0_restart
set_option maxRecDepth 20000 in
theorem ggX5_street_X3_clear : GoodIn wsX5_street wsX3_clear := goodIn_r _ [159, 160, 202, 203, 204, 205] (by decide +kernel) (by decide +kernel)
set_option maxRecDepth 20000 in
theorem gX5_street_X3_clear_n107 : GoodIn wsX5_street (wsX3_clear) := ggX5_street_X3_clear
set_option maxRecDepth 20000 in
theorem ggX5_street_X2_empty : GoodIn wsX5_street wsX2_empty := goodIn_r _ [163, 16, 189, 190, 191, 192, 193, 194, 195, 196, 197] (by decide +kernel) (by decide +kernel)
set_option maxRecDepth 20000 in
theorem gX5_street_X2_empty_n84 : GoodIn wsX5_street (wsX2_empty) := ggX5_street_X2_empty
theorem dX5_street_0 : decode cX5_street 0 = .ok (.aload_n 0, 1) := by decide +kernel
theorem dX5_street_1 : decode cX5_street 1 = .ok (.getfield 12, 3) := by decide +kernel
theorem dX5_street_4 : decode cX5_street 4 = .ok (.aload_n 0, 1) := by decide +kernel
theorem dX5_street_5 : decode cX5_street 5 = .ok (.getfield 19, 3) := by decide +kernel
theorem dX5_street_8 : decode cX5_street 8 = .ok (.getfield 88, 3) := by decide +kernel
theorem dX5_street_11 : decode cX5_street 11 = .ok (.aload_n 0, 1) := by decide +kernel
theorem dX5_street_12 : decode cX5_street 12 = .ok (.getfield 19, 3) := by decide +kernel
theorem dX5_street_15 : decode cX5_street 15 = .ok (.getfield 91, 3) := by decide +kernel
theorem dX5_street_18 : decode cX5_street 18 = .ok (.invokevirtual 94, 3) := by decide +kernel
theorem dX5_street_21 : decode cX5_street 21 = .ok (.iconst (-1), 1) := by decide +kernel
theorem dX5_street_22 : decode cX5_street 22 = .ok (.if_icmp .eq 6, 3) := by decide +kernel
theorem dX5_street_25 : decode cX5_street 25 = .ok (.bipush (-4), 2) := by decide +kernel
theorem dX5_street_27 : decode cX5_street 27 = .ok (.ireturn, 1) := by decide +kernel
theorem dX5_street_28 : decode cX5_street 28 = .ok (.iconst 0, 1) := by decide +kernel
theorem dX5_street_29 : decode cX5_street 29 = .ok (.istore_n 1, 1) := by decide +kernel
theorem dX5_street_30 : decode cX5_street 30 = .ok (.iload_n 1, 1) := by decide +kernel
theorem dX5_street_31 : decode cX5_street 31 = .ok (.aload_n 0, 1) := by decide +kernel
theorem dX5_street_32 : decode cX5_street 32 = .ok (.getfield 12, 3) := by decide +kernel
theorem dX5_street_35 : decode cX5_street 35 = .ok (.getfield 98, 3) := by decide +kernel
theorem dX5_street_38 : decode cX5_street 38 = .ok (.if_icmp .ge 14, 3) := by decide +kernel
theorem dX5_street_41 : decode cX5_street 41 = .ok (.aload_n 0, 1) := by decide +kernel
theorem dX5_street_42 : decode cX5_street 42 = .ok (.iload_n 1, 1) := by decide +kernel
theorem dX5_street_43 : decode cX5_street 43 = .ok (.invokevirtual 101, 3) := by decide +kernel
theorem dX5_street_46 : decode cX5_street 46 = .ok (.iinc 1 1, 3) := by decide +kernel
theorem dX5_street_49 : decode cX5_street 49 = .ok (.goto (-19), 3) := by decide +kernel
theorem dX5_street_52 : decode cX5_street 52 = .ok (.aload_n 0, 1) := by decide +kernel
theorem dX5_street_53 : decode cX5_street 53 = .ok (.getfield 26, 3) := by decide +kernel
theorem dX5_street_56 : decode cX5_street 56 = .ok (.invokevirtual 104, 3) := by decide +kernel
theorem dX5_street_59 : decode cX5_street 59 = .ok (.aload_n 0, 1) := by decide +kernel
theorem dX5_street_60 : decode cX5_street 60 = .ok (.getfield 37, 3) := by decide +kernel
theorem dX5_street_63 : decode cX5_street 63 = .ok (.invokevirtual 107, 3) := by decide +kernel
theorem dX5_street_66 : decode cX5_street 66 = .ok (.pop, 1) := by decide +kernel
theorem dX5_street_67 : decode cX5_street 67 = .ok (.aload_n 0, 1) := by decide +kernel
theorem dX5_street_68 : decode cX5_street 68 = .ok (.getfield 41, 3) := by decide +kernel
theorem dX5_street_71 : decode cX5_street 71 = .ok (.invokevirtual 107, 3) := by decide +kernel
theorem dX5_street_74 : decode cX5_street 74 = .ok (.pop, 1) := by decide +kernel
theorem dX5_street_75 : decode cX5_street 75 = .ok (.iconst 0, 1) := by decide +kernel
theorem dX5_street_76 : decode cX5_street 76 = .ok (.istore_n 1, 1) := by decide +kernel
theorem dX5_street_77 : decode cX5_street 77 = .ok (.iload_n 1, 1) := by decide +kernel
theorem dX5_street_78 : decode cX5_street 78 = .ok (.iconst 2, 1) := by decide +kernel
theorem dX5_street_79 : decode cX5_street 79 = .ok (.if_icmp .ge 19, 3) := by decide +kernel
theorem dX5_street_82 : decode cX5_street 82 = .ok (.aload_n 0, 1) := by decide +kernel
theorem dX5_street_83 : decode cX5_street 83 = .ok (.getfield 30, 3) := by decide +kernel
theorem dX5_street_86 : decode cX5_street 86 = .ok (.iload_n 1, 1) := by decide +kernel
theorem dX5_street_87 : decode cX5_street 87 = .ok (.aaload, 1) := by decide +kernel
theorem dX5_street_88 : decode cX5_street 88 = .ok (.iconst 0, 1) := by decide +kernel
theorem dX5_street_89 : decode cX5_street 89 = .ok (.putfield 110, 3) := by decide +kernel
theorem dX5_street_92 : decode cX5_street 92 = .ok (.iinc 1 1, 3) := by decide +kernel
theorem dX5_street_95 : decode cX5_street 95 = .ok (.goto (-18), 3) := by decide +kernel
theorem dX5_street_98 : decode cX5_street 98 = .ok (.aload_n 0, 1) := by decide +kernel
theorem dX5_street_99 : decode cX5_street 99 = .ok (.getfield 12, 3) := by decide +kernel
theorem dX5_street_102 : decode cX5_street 102 = .ok (.invokevirtual 84, 3) := by decide +kernel
theorem dX5_street_105 : decode cX5_street 105 = .ok (.pop, 1) := by decide +kernel
theorem dX5_street_106 : decode cX5_street 106 = .ok (.aload_n 0, 1) := by decide +kernel
theorem dX5_street_107 : decode cX5_street 107 = .ok (.getfield 12, 3) := by decide +kernel
theorem dX5_street_110 : decode cX5_street 110 = .ok (.getfield 98, 3) := by decide +kernel
theorem dX5_street_113 : decode cX5_street 113 = .ok (.ireturn, 1) := by decide +kernel
set_option maxRecDepth 20000 in
theorem ggX5_house_X4_hasHouse : GoodIn wsX5_house wsX4_hasHouse := goodIn_r _ [6, 7, 8, 9, 10, 24, 25, 26, 27, 28, 29, 30, 31, 32, 33, 34, 35] (by decide +kernel) (by decide +kernel)
set_option maxRecDepth 20000 in
theorem gX5_house_X4_hasHouse_n114 : GoodIn wsX5_house (wsX4_hasHouse) := ggX5_house_X4_hasHouse
theorem dX5_house_0 : decode cX5_house 0 = .ok (.aload_n 0, 1) := by decide +kernel
theorem dX5_house_1 : decode cX5_house 1 = .ok (.getfield 19, 3) := by decide +kernel
theorem dX5_house_4 : decode cX5_house 4 = .ok (.iload_n 1, 1) := by decide +kernel
theorem dX5_house_5 : decode cX5_house 5 = .ok (.invokevirtual 114, 3) := by decide +kernel
theorem dX5_house_8 : decode cX5_house 8 = .ok (.ifCond .ne 6, 3) := by decide +kernel
theorem dX5_house_11 : decode cX5_house 11 = .ok (.bipush (-2), 2) := by decide +kernel
theorem dX5_house_13 : decode cX5_house 13 = .ok (.ireturn, 1) := by decide +kernel
theorem dX5_house_14 : decode cX5_house 14 = .ok (.iload_n 2, 1) := by decide +kernel
theorem dX5_house_15 : decode cX5_house 15 = .ok (.tableswitch 69 0 3 #[29, 39, 49, 59], 29) := by decide +kernel
theorem dX5_house_44 : decode cX5_house 44 = .ok (.aload_n 0, 1) := by decide +kernel
theorem dX5_house_45 : decode cX5_house 45 = .ok (.getfield 19, 3) := by decide +kernel
theorem dX5_house_48 : decode cX5_house 48 = .ok (.getfield 118, 3) := by decide +kernel
theorem dX5_house_51 : decode cX5_house 51 = .ok (.iload_n 1, 1) := by decide +kernel
theorem dX5_house_52 : decode cX5_house 52 = .ok (.iaload, 1) := by decide +kernel
theorem dX5_house_53 : decode cX5_house 53 = .ok (.ireturn, 1) := by decide +kernel
theorem dX5_house_54 : decode cX5_house 54 = .ok (.aload_n 0, 1) := by decide +kernel
theorem dX5_house_55 : decode cX5_house 55 = .ok (.getfield 19, 3) := by decide +kernel
theorem dX5_house_58 : decode cX5_house 58 = .ok (.getfield 121, 3) := by decide +kernel
theorem dX5_house_61 : decode cX5_house 61 = .ok (.iload_n 1, 1) := by decide +kernel
theorem dX5_house_62 : decode cX5_house 62 = .ok (.iaload, 1) := by decide +kernel
theorem dX5_house_63 : decode cX5_house 63 = .ok (.ireturn, 1) := by decide +kernel
theorem dX5_house_64 : decode cX5_house 64 = .ok (.aload_n 0, 1) := by decide +kernel
theorem dX5_house_65 : decode cX5_house 65 = .ok (.getfield 26, 3) := by decide +kernel
theorem dX5_house_68 : decode cX5_house 68 = .ok (.getfield 124, 3) := by decide +kernel
theorem dX5_house_71 : decode cX5_house 71 = .ok (.iload_n 1, 1) := by decide +kernel
theorem dX5_house_72 : decode cX5_house 72 = .ok (.iaload, 1) := by decide +kernel
theorem dX5_house_73 : decode cX5_house 73 = .ok (.ireturn, 1) := by decide +kernel
theorem dX5_house_74 : decode cX5_house 74 = .ok (.aload_n 0, 1) := by decide +kernel
theorem dX5_house_75 : decode cX5_house 75 = .ok (.getfield 26, 3) := by decide +kernel
theorem dX5_house_78 : decode cX5_house 78 = .ok (.getfield 127, 3) := by decide +kernel
theorem dX5_house_81 : decode cX5_house 81 = .ok (.iload_n 1, 1) := by decide +kernel
theorem dX5_house_82 : decode cX5_house 82 = .ok (.iaload, 1) := by decide +kernel
theorem dX5_house_83 : decode cX5_house 83 = .ok (.ireturn, 1) := by decide +kernel
theorem dX5_house_84 : decode cX5_house 84 = .ok (.bipush (-3), 2) := by decide +kernel
theorem dX5_house_86 : decode cX5_house 86 = .ok (.ireturn, 1) := by decide +kernel
set_option maxRecDepth 20000 in
theorem ggX5_deed_X4_hasDeed : GoodIn wsX5_deed wsX4_hasDeed := goodIn_r _ [5, 6, 7, 8, 9, 26, 27, 28, 29, 30, 31, 32, 33, 34, 35, 36, 37] (by decide +kernel) (by decide +kernel)
set_option maxRecDepth 20000 in
theorem gX5_deed_X4_hasDeed_n130 : GoodIn wsX5_deed (wsX4_hasDeed) := ggX5_deed_X4_hasDeed
set_option maxRecDepth 20000 in
theorem ggX5_deed_X5_has : GoodIn wsX5_deed wsX5_has := goodIn_r _ [12] (by decide +kernel) (by decide +kernel)
set_option maxRecDepth 20000 in
theorem gX5_deed_X5_has : GoodIn wsX5_deed (va_wsS RX5 151 yX5_has wsX5_has) := goodIn_app (goodIn_of _ (by decide +kernel)) ggX5_deed_X5_has
theorem dX5_deed_0 : decode cX5_deed 0 = .ok (.aload_n 0, 1) := by decide +kernel
theorem dX5_deed_1 : decode cX5_deed 1 = .ok (.getfield 19, 3) := by decide +kernel
theorem dX5_deed_4 : decode cX5_deed 4 = .ok (.iload_n 1, 1) := by decide +kernel
theorem dX5_deed_5 : decode cX5_deed 5 = .ok (.invokevirtual 130, 3) := by decide +kernel
theorem dX5_deed_8 : decode cX5_deed 8 = .ok (.ifCond .ne 6, 3) := by decide +kernel
theorem dX5_deed_11 : decode cX5_deed 11 = .ok (.bipush (-2), 2) := by decide +kernel
theorem dX5_deed_13 : decode cX5_deed 13 = .ok (.ireturn, 1) := by decide +kernel
theorem dX5_deed_14 : decode cX5_deed 14 = .ok (.iload_n 2, 1) := by decide +kernel
theorem dX5_deed_15 : decode cX5_deed 15 = .ok (.tableswitch 107 0 5 #[37, 47, 57, 67, 77, 87], 37) := by decide +kernel
theorem dX5_deed_52 : decode cX5_deed 52 = .ok (.aload_n 0, 1) := by decide +kernel
theorem dX5_deed_53 : decode cX5_deed 53 = .ok (.getfield 19, 3) := by decide +kernel
theorem dX5_deed_56 : decode cX5_deed 56 = .ok (.getfield 133, 3) := by decide +kernel
theorem dX5_deed_59 : decode cX5_deed 59 = .ok (.iload_n 1, 1) := by decide +kernel
theorem dX5_deed_60 : decode cX5_deed 60 = .ok (.iaload, 1) := by decide +kernel
theorem dX5_deed_61 : decode cX5_deed 61 = .ok (.ireturn, 1) := by decide +kernel
theorem dX5_deed_62 : decode cX5_deed 62 = .ok (.aload_n 0, 1) := by decide +kernel
theorem dX5_deed_63 : decode cX5_deed 63 = .ok (.getfield 19, 3) := by decide +kernel
theorem dX5_deed_66 : decode cX5_deed 66 = .ok (.getfield 136, 3) := by decide +kernel
theorem dX5_deed_69 : decode cX5_deed 69 = .ok (.iload_n 1, 1) := by decide +kernel
theorem dX5_deed_70 : decode cX5_deed 70 = .ok (.iaload, 1) := by decide +kernel
theorem dX5_deed_71 : decode cX5_deed 71 = .ok (.ireturn, 1) := by decide +kernel
theorem dX5_deed_72 : decode cX5_deed 72 = .ok (.aload_n 0, 1) := by decide +kernel
theorem dX5_deed_73 : decode cX5_deed 73 = .ok (.getfield 19, 3) := by decide +kernel
theorem dX5_deed_76 : decode cX5_deed 76 = .ok (.getfield 139, 3) := by decide +kernel
theorem dX5_deed_79 : decode cX5_deed 79 = .ok (.iload_n 1, 1) := by decide +kernel
theorem dX5_deed_80 : decode cX5_deed 80 = .ok (.iaload, 1) := by decide +kernel
theorem dX5_deed_81 : decode cX5_deed 81 = .ok (.ireturn, 1) := by decide +kernel
theorem dX5_deed_82 : decode cX5_deed 82 = .ok (.aload_n 0, 1) := by decide +kernel
theorem dX5_deed_83 : decode cX5_deed 83 = .ok (.getfield 19, 3) := by decide +kernel
theorem dX5_deed_86 : decode cX5_deed 86 = .ok (.getfield 142, 3) := by decide +kernel
theorem dX5_deed_89 : decode cX5_deed 89 = .ok (.iload_n 1, 1) := by decide +kernel
theorem dX5_deed_90 : decode cX5_deed 90 = .ok (.iaload, 1) := by decide +kernel
theorem dX5_deed_91 : decode cX5_deed 91 = .ok (.ireturn, 1) := by decide +kernel
theorem dX5_deed_92 : decode cX5_deed 92 = .ok (.aload_n 0, 1) := by decide +kernel
theorem dX5_deed_93 : decode cX5_deed 93 = .ok (.getfield 19, 3) := by decide +kernel
theorem dX5_deed_96 : decode cX5_deed 96 = .ok (.getfield 145, 3) := by decide +kernel
theorem dX5_deed_99 : decode cX5_deed 99 = .ok (.iload_n 1, 1) := by decide +kernel
theorem dX5_deed_100 : decode cX5_deed 100 = .ok (.iaload, 1) := by decide +kernel
theorem dX5_deed_101 : decode cX5_deed 101 = .ok (.ireturn, 1) := by decide +kernel
theorem dX5_deed_102 : decode cX5_deed 102 = .ok (.aload_n 0, 1) := by decide +kernel
theorem dX5_deed_103 : decode cX5_deed 103 = .ok (.getfield 19, 3) := by decide +kernel
theorem dX5_deed_106 : decode cX5_deed 106 = .ok (.getfield 148, 3) := by decide +kernel
theorem dX5_deed_109 : decode cX5_deed 109 = .ok (.iload_n 1, 1) := by decide +kernel
theorem dX5_deed_110 : decode cX5_deed 110 = .ok (.invokestatic 151, 3) := by decide +kernel
theorem dX5_deed_113 : decode cX5_deed 113 = .ok (.ifCond .eq 7, 3) := by decide +kernel
theorem dX5_deed_116 : decode cX5_deed 116 = .ok (.iconst 1, 1) := by decide +kernel
theorem dX5_deed_117 : decode cX5_deed 117 = .ok (.goto 4, 3) := by decide +kernel
theorem dX5_deed_120 : decode cX5_deed 120 = .ok (.iconst 0, 1) := by decide +kernel
theorem dX5_deed_121 : decode cX5_deed 121 = .ok (.ireturn, 1) := by decide +kernel
theorem dX5_deed_122 : decode cX5_deed 122 = .ok (.bipush (-3), 2) := by decide +kernel
theorem dX5_deed_124 : decode cX5_deed 124 = .ok (.ireturn, 1) := by decide +kernel
set_option maxRecDepth 20000 in
theorem ggX5_as_X4_hasDeed : GoodIn wsX5_as wsX4_hasDeed := goodIn_r _ [5, 6, 7, 8, 9, 46, 47, 48, 49, 50, 51, 52, 53, 54, 55, 56, 57] (by decide +kernel) (by decide +kernel)
set_option maxRecDepth 20000 in
theorem gX5_as_X4_hasDeed_n130 : GoodIn wsX5_as (wsX4_hasDeed) := ggX5_as_X4_hasDeed
set_option maxRecDepth 20000 in
theorem ggX5_as_X5_within : GoodIn wsX5_as wsX5_within := goodIn_r _ [9] (by decide +kernel) (by decide +kernel)
set_option maxRecDepth 20000 in
theorem gX5_as_X5_within : GoodIn wsX5_as (va_wsS RX5 70 yX5_within wsX5_within) := goodIn_app (goodIn_of _ (by decide +kernel)) ggX5_as_X5_within
set_option maxRecDepth 20000 in
theorem ggX5_as_X4_isOfKind : GoodIn wsX5_as wsX4_isOfKind := goodIn_r _ [13, 14, 46, 47, 48, 49, 50, 51, 52, 53, 54, 55, 56, 57] (by decide +kernel) (by decide +kernel)
set_option maxRecDepth 20000 in
theorem gX5_as_X4_isOfKind_n155 : GoodIn wsX5_as (wsX4_isOfKind) := ggX5_as_X4_isOfKind
set_option maxRecDepth 20000 in
theorem ggX5_as_X4_doers : GoodIn wsX5_as wsX4_doers := goodIn_r _ [17, 18, 19, 20, 21, 22, 3, 23, 24, 14, 25, 26, 27, 8, 28, 29, 30, 31, 32, 46, 47, 48, 49, 50, 51, 52, 53, 54, 55, 56, 57] (by decide +kernel) (by decide +kernel)
set_option maxRecDepth 20000 in
theorem gX5_as_X4_doers_n158 : GoodIn wsX5_as (wsX4_doers) := ggX5_as_X4_doers
theorem dX5_as_0 : decode cX5_as 0 = .ok (.aload_n 0, 1) := by decide +kernel
theorem dX5_as_1 : decode cX5_as 1 = .ok (.getfield 19, 3) := by decide +kernel
theorem dX5_as_4 : decode cX5_as 4 = .ok (.iload_n 1, 1) := by decide +kernel
theorem dX5_as_5 : decode cX5_as 5 = .ok (.invokevirtual 130, 3) := by decide +kernel
theorem dX5_as_8 : decode cX5_as 8 = .ok (.ifCond .ne 6, 3) := by decide +kernel
theorem dX5_as_11 : decode cX5_as 11 = .ok (.bipush (-2), 2) := by decide +kernel
theorem dX5_as_13 : decode cX5_as 13 = .ok (.ireturn, 1) := by decide +kernel
theorem dX5_as_14 : decode cX5_as 14 = .ok (.iload_n 2, 1) := by decide +kernel
theorem dX5_as_15 : decode cX5_as 15 = .ok (.iconst 0, 1) := by decide +kernel
theorem dX5_as_16 : decode cX5_as 16 = .ok (.iconst 4, 1) := by decide +kernel
theorem dX5_as_17 : decode cX5_as 17 = .ok (.invokestatic 70, 3) := by decide +kernel
theorem dX5_as_20 : decode cX5_as 20 = .ok (.ifCond .ne 6, 3) := by decide +kernel
theorem dX5_as_23 : decode cX5_as 23 = .ok (.bipush (-3), 2) := by decide +kernel
theorem dX5_as_25 : decode cX5_as 25 = .ok (.ireturn, 1) := by decide +kernel
theorem dX5_as_26 : decode cX5_as 26 = .ok (.aload_n 0, 1) := by decide +kernel
theorem dX5_as_27 : decode cX5_as 27 = .ok (.getfield 19, 3) := by decide +kernel
theorem dX5_as_30 : decode cX5_as 30 = .ok (.iload_n 1, 1) := by decide +kernel
theorem dX5_as_31 : decode cX5_as 31 = .ok (.iload_n 2, 1) := by decide +kernel
theorem dX5_as_32 : decode cX5_as 32 = .ok (.invokevirtual 155, 3) := by decide +kernel
theorem dX5_as_35 : decode cX5_as 35 = .ok (.ifCond .eq 14, 3) := by decide +kernel
theorem dX5_as_38 : decode cX5_as 38 = .ok (.aload_n 0, 1) := by decide +kernel
theorem dX5_as_39 : decode cX5_as 39 = .ok (.getfield 19, 3) := by decide +kernel
theorem dX5_as_42 : decode cX5_as 42 = .ok (.iload_n 1, 1) := by decide +kernel
theorem dX5_as_43 : decode cX5_as 43 = .ok (.invokevirtual 158, 3) := by decide +kernel
theorem dX5_as_46 : decode cX5_as 46 = .ok (.goto 5, 3) := by decide +kernel
theorem dX5_as_49 : decode cX5_as 49 = .ok (.bipush (-4), 2) := by decide +kernel
theorem dX5_as_51 : decode cX5_as 51 = .ok (.ireturn, 1) := by decide +kernel
set_option maxRecDepth 20000 in
theorem ggX5_set_X4_hasHouse : GoodIn wsX5_set wsX4_hasHouse := goodIn_r _ [6, 7, 8, 9, 10, 45, 46, 47, 48, 49, 50, 51, 52, 53, 54, 55, 56] (by decide +kernel) (by decide +kernel)
set_option maxRecDepth 20000 in
theorem gX5_set_X4_hasHouse_n114 : GoodIn wsX5_set (wsX4_hasHouse) := ggX5_set_X4_hasHouse
set_option maxRecDepth 20000 in
theorem ggX5_set_X5_isDeedOrNone : GoodIn wsX5_set wsX5_isDeedOrNone := goodIn_r _ [14, 1, 15, 4, 16, 17, 18, 8, 9, 10, 32, 33, 34, 35, 36, 37, 38, 39, 40, 41, 42, 43, 44, 45, 46, 47, 48, 49, 50, 51, 52, 53, 54, 55, 56] (by decide +kernel) (by decide +kernel)
set_option maxRecDepth 20000 in
theorem gX5_set_X5_isDeedOrNone : GoodIn wsX5_set (wsV RX5 162 RX5 yX5_isDeedOrNone wsX5_isDeedOrNone) := goodIn_app (goodIn_of _ (by decide +kernel)) ggX5_set_X5_isDeedOrNone
set_option maxRecDepth 20000 in
theorem ggX5_set_X4_can : GoodIn wsX5_set wsX4_can := goodIn_r _ [21, 22, 23, 24, 25, 26, 9, 27, 28, 29, 30, 4, 31, 45, 46, 47, 48, 49, 50, 51, 52, 53, 54, 55, 56] (by decide +kernel) (by decide +kernel)
set_option maxRecDepth 20000 in
theorem gX5_set_X4_can_n165 : GoodIn wsX5_set (wsX4_can) := ggX5_set_X4_can
theorem dX5_set_0 : decode cX5_set 0 = .ok (.aload_n 0, 1) := by decide +kernel
theorem dX5_set_1 : decode cX5_set 1 = .ok (.getfield 19, 3) := by decide +kernel
theorem dX5_set_4 : decode cX5_set 4 = .ok (.iload_n 1, 1) := by decide +kernel
theorem dX5_set_5 : decode cX5_set 5 = .ok (.invokevirtual 114, 3) := by decide +kernel
theorem dX5_set_8 : decode cX5_set 8 = .ok (.ifCond .eq 11, 3) := by decide +kernel
theorem dX5_set_11 : decode cX5_set 11 = .ok (.aload_n 0, 1) := by decide +kernel
theorem dX5_set_12 : decode cX5_set 12 = .ok (.iload_n 2, 1) := by decide +kernel
theorem dX5_set_13 : decode cX5_set 13 = .ok (.invokevirtual 162, 3) := by decide +kernel
theorem dX5_set_16 : decode cX5_set 16 = .ok (.ifCond .ne 6, 3) := by decide +kernel
theorem dX5_set_19 : decode cX5_set 19 = .ok (.bipush (-2), 2) := by decide +kernel
theorem dX5_set_21 : decode cX5_set 21 = .ok (.ireturn, 1) := by decide +kernel
theorem dX5_set_22 : decode cX5_set 22 = .ok (.iload_n 2, 1) := by decide +kernel
theorem dX5_set_23 : decode cX5_set 23 = .ok (.iconst (-1), 1) := by decide +kernel
theorem dX5_set_24 : decode cX5_set 24 = .ok (.if_icmp .eq 25, 3) := by decide +kernel
theorem dX5_set_27 : decode cX5_set 27 = .ok (.aload_n 0, 1) := by decide +kernel
theorem dX5_set_28 : decode cX5_set 28 = .ok (.getfield 19, 3) := by decide +kernel
theorem dX5_set_31 : decode cX5_set 31 = .ok (.iload_n 1, 1) := by decide +kernel
theorem dX5_set_32 : decode cX5_set 32 = .ok (.iload_n 2, 1) := by decide +kernel
theorem dX5_set_33 : decode cX5_set 33 = .ok (.aload_n 0, 1) := by decide +kernel
theorem dX5_set_34 : decode cX5_set 34 = .ok (.getfield 19, 3) := by decide +kernel
theorem dX5_set_37 : decode cX5_set 37 = .ok (.getfield 148, 3) := by decide +kernel
theorem dX5_set_40 : decode cX5_set 40 = .ok (.invokevirtual 165, 3) := by decide +kernel
theorem dX5_set_43 : decode cX5_set 43 = .ok (.ifCond .ne 6, 3) := by decide +kernel
theorem dX5_set_46 : decode cX5_set 46 = .ok (.bipush (-4), 2) := by decide +kernel
theorem dX5_set_48 : decode cX5_set 48 = .ok (.ireturn, 1) := by decide +kernel
theorem dX5_set_49 : decode cX5_set 49 = .ok (.aload_n 0, 1) := by decide +kernel
theorem dX5_set_50 : decode cX5_set 50 = .ok (.getfield 26, 3) := by decide +kernel
theorem dX5_set_53 : decode cX5_set 53 = .ok (.getfield 124, 3) := by decide +kernel
theorem dX5_set_56 : decode cX5_set 56 = .ok (.iload_n 1, 1) := by decide +kernel
theorem dX5_set_57 : decode cX5_set 57 = .ok (.iaload, 1) := by decide +kernel
theorem dX5_set_58 : decode cX5_set 58 = .ok (.istore_n 3, 1) := by decide +kernel
theorem dX5_set_59 : decode cX5_set 59 = .ok (.aload_n 0, 1) := by decide +kernel
theorem dX5_set_60 : decode cX5_set 60 = .ok (.getfield 26, 3) := by decide +kernel
theorem dX5_set_63 : decode cX5_set 63 = .ok (.getfield 124, 3) := by decide +kernel
theorem dX5_set_66 : decode cX5_set 66 = .ok (.iload_n 1, 1) := by decide +kernel
theorem dX5_set_67 : decode cX5_set 67 = .ok (.iload_n 2, 1) := by decide +kernel
theorem dX5_set_68 : decode cX5_set 68 = .ok (.iastore, 1) := by decide +kernel
theorem dX5_set_69 : decode cX5_set 69 = .ok (.iload_n 3, 1) := by decide +kernel
theorem dX5_set_70 : decode cX5_set 70 = .ok (.ireturn, 1) := by decide +kernel
set_option maxRecDepth 20000 in
theorem ggX5_go_X5_within : GoodIn wsX5_go wsX5_within := goodIn_r _ [6] (by decide +kernel) (by decide +kernel)
set_option maxRecDepth 20000 in
theorem gX5_go_X5_within : GoodIn wsX5_go (va_wsS RX5 70 yX5_within wsX5_within) := goodIn_app (goodIn_of _ (by decide +kernel)) ggX5_go_X5_within
set_option maxRecDepth 20000 in
theorem ggX5_go_X0_noteDoers : GoodIn wsX5_go wsX0_noteDoers := goodIn_r _ [10, 11, 12, 55, 56, 57, 58] (by decide +kernel) (by decide +kernel)
set_option maxRecDepth 20000 in
theorem gX5_go_X0_noteDoers_n171 : GoodIn wsX5_go (wsX0_noteDoers) := ggX5_go_X0_noteDoers
set_option maxRecDepth 20000 in
theorem ggX5_go_X4_passDay : GoodIn wsX5_go wsX4_passDay := goodIn_r _ [16, 17, 18, 19, 20, 21, 22, 23, 24, 25, 14, 26, 27, 28, 29, 30, 31, 32, 33, 34, 35, 36, 5, 37, 38, 39, 40, 41, 59, 60, 61, 62, 63, 64, 65, 66, 67, 68, 69, 70] (by decide +kernel) (by decide +kernel)
set_option maxRecDepth 20000 in
theorem gX5_go_X4_passDay_n174 : GoodIn wsX5_go (wsX4_passDay) := ggX5_go_X4_passDay
theorem dX5_go_0 : decode cX5_go 0 = .ok (.iload_n 1, 1) := by decide +kernel
theorem dX5_go_1 : decode cX5_go 1 = .ok (.iconst 1, 1) := by decide +kernel
theorem dX5_go_2 : decode cX5_go 2 = .ok (.bipush 99, 2) := by decide +kernel
theorem dX5_go_4 : decode cX5_go 4 = .ok (.invokestatic 70, 3) := by decide +kernel
theorem dX5_go_7 : decode cX5_go 7 = .ok (.ifCond .ne 6, 3) := by decide +kernel
theorem dX5_go_10 : decode cX5_go 10 = .ok (.bipush (-3), 2) := by decide +kernel
theorem dX5_go_12 : decode cX5_go 12 = .ok (.ireturn, 1) := by decide +kernel
theorem dX5_go_13 : decode cX5_go 13 = .ok (.aload_n 0, 1) := by decide +kernel
theorem dX5_go_14 : decode cX5_go 14 = .ok (.getfield 26, 3) := by decide +kernel
theorem dX5_go_17 : decode cX5_go 17 = .ok (.getfield 168, 3) := by decide +kernel
theorem dX5_go_20 : decode cX5_go 20 = .ok (.iload_n 1, 1) := by decide +kernel
theorem dX5_go_21 : decode cX5_go 21 = .ok (.iadd, 1) := by decide +kernel
theorem dX5_go_22 : decode cX5_go 22 = .ok (.sipush 9999, 3) := by decide +kernel
theorem dX5_go_25 : decode cX5_go 25 = .ok (.if_icmp .le 6, 3) := by decide +kernel
theorem dX5_go_28 : decode cX5_go 28 = .ok (.bipush (-5), 2) := by decide +kernel
theorem dX5_go_30 : decode cX5_go 30 = .ok (.ireturn, 1) := by decide +kernel
theorem dX5_go_31 : decode cX5_go 31 = .ok (.iconst 0, 1) := by decide +kernel
theorem dX5_go_32 : decode cX5_go 32 = .ok (.istore_n 2, 1) := by decide +kernel
theorem dX5_go_33 : decode cX5_go 33 = .ok (.iload_n 2, 1) := by decide +kernel
theorem dX5_go_34 : decode cX5_go 34 = .ok (.iload_n 1, 1) := by decide +kernel
theorem dX5_go_35 : decode cX5_go 35 = .ok (.if_icmp .ge 37, 3) := by decide +kernel
theorem dX5_go_38 : decode cX5_go 38 = .ok (.aload_n 0, 1) := by decide +kernel
theorem dX5_go_39 : decode cX5_go 39 = .ok (.getfield 26, 3) := by decide +kernel
theorem dX5_go_42 : decode cX5_go 42 = .ok (.invokevirtual 171, 3) := by decide +kernel
theorem dX5_go_45 : decode cX5_go 45 = .ok (.aload_n 0, 1) := by decide +kernel
theorem dX5_go_46 : decode cX5_go 46 = .ok (.getfield 19, 3) := by decide +kernel
theorem dX5_go_49 : decode cX5_go 49 = .ok (.aload_n 0, 1) := by decide +kernel
theorem dX5_go_50 : decode cX5_go 50 = .ok (.getfield 26, 3) := by decide +kernel
theorem dX5_go_53 : decode cX5_go 53 = .ok (.getfield 124, 3) := by decide +kernel
theorem dX5_go_56 : decode cX5_go 56 = .ok (.aload_n 0, 1) := by decide +kernel
theorem dX5_go_57 : decode cX5_go 57 = .ok (.getfield 19, 3) := by decide +kernel
theorem dX5_go_60 : decode cX5_go 60 = .ok (.getfield 148, 3) := by decide +kernel
theorem dX5_go_63 : decode cX5_go 63 = .ok (.invokevirtual 174, 3) := by decide +kernel
theorem dX5_go_66 : decode cX5_go 66 = .ok (.iinc 2 1, 3) := by decide +kernel
theorem dX5_go_69 : decode cX5_go 69 = .ok (.goto (-36), 3) := by decide +kernel
theorem dX5_go_72 : decode cX5_go 72 = .ok (.aload_n 0, 1) := by decide +kernel
theorem dX5_go_73 : decode cX5_go 73 = .ok (.getfield 26, 3) := by decide +kernel
theorem dX5_go_76 : decode cX5_go 76 = .ok (.dup, 1) := by decide +kernel
theorem dX5_go_77 : decode cX5_go 77 = .ok (.getfield 168, 3) := by decide +kernel
theorem dX5_go_80 : decode cX5_go 80 = .ok (.iload_n 1, 1) := by decide +kernel
theorem dX5_go_81 : decode cX5_go 81 = .ok (.iadd, 1) := by decide +kernel
theorem dX5_go_82 : decode cX5_go 82 = .ok (.putfield 168, 3) := by decide +kernel
theorem dX5_go_85 : decode cX5_go 85 = .ok (.aload_n 0, 1) := by decide +kernel
theorem dX5_go_86 : decode cX5_go 86 = .ok (.getfield 26, 3) := by decide +kernel
theorem dX5_go_89 : decode cX5_go 89 = .ok (.getfield 168, 3) := by decide +kernel
theorem dX5_go_92 : decode cX5_go 92 = .ok (.ireturn, 1) := by decide +kernel
set_option maxRecDepth 20000 in
theorem ggX5_later_X4_hasHouse : GoodIn wsX5_later wsX4_hasHouse := goodIn_r _ [6, 7, 8, 9, 10, 58, 59, 60, 61, 62, 63, 64, 65, 66, 67, 68, 69] (by decide +kernel) (by decide +kernel)
set_option maxRecDepth 20000 in
theorem gX5_later_X4_hasHouse_n114 : GoodIn wsX5_later (wsX4_hasHouse) := ggX5_later_X4_hasHouse
set_option maxRecDepth 20000 in
theorem ggX5_later_X5_within : GoodIn wsX5_later wsX5_within := goodIn_r _ [10] (by decide +kernel) (by decide +kernel)
set_option maxRecDepth 20000 in
theorem gX5_later_X5_within : GoodIn wsX5_later (va_wsS RX5 70 yX5_within wsX5_within) := goodIn_app (goodIn_of _ (by decide +kernel)) ggX5_later_X5_within
set_option maxRecDepth 20000 in
theorem ggX5_later_X5_foresee : GoodIn wsX5_later wsX5_foresee := goodIn_r _ [15, 16, 2, 17, 18, 19, 20, 1, 21, 4, 22, 23, 7, 24, 25, 26, 27, 28, 29, 30, 31, 32, 33, 34, 35, 36, 37, 38, 39, 9, 40, 41, 42, 43, 44, 45, 46, 47, 48, 49, 50, 51, 52, 53, 54, 55, 56, 57, 70, 71, 72, 73, 58, 59, 60, 61, 62, 63, 64, 65, 66, 67, 68, 69] (by decide +kernel) (by decide +kernel)
set_option maxRecDepth 20000 in
theorem gX5_later_X5_foresee : GoodIn wsX5_later (wsV RX5 178 RX5 yX5_foresee wsX5_foresee) := goodIn_app (goodIn_of _ (by decide +kernel)) ggX5_later_X5_foresee
theorem dX5_later_0 : decode cX5_later 0 = .ok (.aload_n 0, 1) := by decide +kernel
theorem dX5_later_1 : decode cX5_later 1 = .ok (.getfield 19, 3) := by decide +kernel
theorem dX5_later_4 : decode cX5_later 4 = .ok (.iload_n 1, 1) := by decide +kernel
theorem dX5_later_5 : decode cX5_later 5 = .ok (.invokevirtual 114, 3) := by decide +kernel
theorem dX5_later_8 : decode cX5_later 8 = .ok (.ifCond .ne 6, 3) := by decide +kernel
theorem dX5_later_11 : decode cX5_later 11 = .ok (.bipush (-2), 2) := by decide +kernel
theorem dX5_later_13 : decode cX5_later 13 = .ok (.ireturn, 1) := by decide +kernel
theorem dX5_later_14 : decode cX5_later 14 = .ok (.iload_n 2, 1) := by decide +kernel
theorem dX5_later_15 : decode cX5_later 15 = .ok (.iconst 0, 1) := by decide +kernel
theorem dX5_later_16 : decode cX5_later 16 = .ok (.bipush 99, 2) := by decide +kernel
theorem dX5_later_18 : decode cX5_later 18 = .ok (.invokestatic 70, 3) := by decide +kernel
theorem dX5_later_21 : decode cX5_later 21 = .ok (.ifCond .ne 6, 3) := by decide +kernel
theorem dX5_later_24 : decode cX5_later 24 = .ok (.bipush (-3), 2) := by decide +kernel
theorem dX5_later_26 : decode cX5_later 26 = .ok (.ireturn, 1) := by decide +kernel
theorem dX5_later_27 : decode cX5_later 27 = .ok (.aload_n 0, 1) := by decide +kernel
theorem dX5_later_28 : decode cX5_later 28 = .ok (.iload_n 2, 1) := by decide +kernel
theorem dX5_later_29 : decode cX5_later 29 = .ok (.invokevirtual 178, 3) := by decide +kernel
theorem dX5_later_32 : decode cX5_later 32 = .ok (.aload_n 0, 1) := by decide +kernel
theorem dX5_later_33 : decode cX5_later 33 = .ok (.getfield 44, 3) := by decide +kernel
theorem dX5_later_36 : decode cX5_later 36 = .ok (.iload_n 1, 1) := by decide +kernel
theorem dX5_later_37 : decode cX5_later 37 = .ok (.iaload, 1) := by decide +kernel
theorem dX5_later_38 : decode cX5_later 38 = .ok (.ireturn, 1) := by decide +kernel
set_option maxRecDepth 20000 in
theorem ggX5_again_X5_within : GoodIn wsX5_again wsX5_within := goodIn_r _ [5] (by decide +kernel) (by decide +kernel)
set_option maxRecDepth 20000 in
theorem gX5_again_X5_within : GoodIn wsX5_again (va_wsS RX5 70 yX5_within wsX5_within) := goodIn_app (goodIn_of _ (by decide +kernel)) ggX5_again_X5_within
set_option maxRecDepth 20000 in
theorem ggX5_again_X5_foreseeStates : GoodIn wsX5_again wsX5_foreseeStates := goodIn_r _ [9, 10, 11, 1, 12, 13, 14, 4, 15, 16, 17, 18, 19, 20, 21, 22, 23, 24, 25, 26, 27, 28, 29, 30, 31, 32, 33, 34, 35, 36, 37, 38, 39, 40, 41, 42, 43, 44, 45, 46, 47, 48, 49, 50, 51, 52, 53, 54, 55, 56, 57, 58, 59, 60, 61, 62, 63, 64, 65, 66, 67, 68, 69, 70, 71, 72, 73, 74, 75] (by decide +kernel) (by decide +kernel)
set_option maxRecDepth 20000 in
theorem gX5_again_X5_foreseeStates : GoodIn wsX5_again (wsV RX5 181 RX5 yX5_foreseeStates wsX5_foreseeStates) := goodIn_app (goodIn_of _ (by decide +kernel)) ggX5_again_X5_foreseeStates
theorem dX5_again_0 : decode cX5_again 0 = .ok (.iload_n 1, 1) := by decide +kernel
theorem dX5_again_1 : decode cX5_again 1 = .ok (.iconst 0, 1) := by decide +kernel
theorem dX5_again_2 : decode cX5_again 2 = .ok (.iconst 1, 1) := by decide +kernel
theorem dX5_again_3 : decode cX5_again 3 = .ok (.invokestatic 70, 3) := by decide +kernel
theorem dX5_again_6 : decode cX5_again 6 = .ok (.ifCond .ne 6, 3) := by decide +kernel
theorem dX5_again_9 : decode cX5_again 9 = .ok (.bipush (-3), 2) := by decide +kernel
theorem dX5_again_11 : decode cX5_again 11 = .ok (.ireturn, 1) := by decide +kernel
theorem dX5_again_12 : decode cX5_again 12 = .ok (.aload_n 0, 1) := by decide +kernel
theorem dX5_again_13 : decode cX5_again 13 = .ok (.invokevirtual 181, 3) := by decide +kernel
theorem dX5_again_16 : decode cX5_again 16 = .ok (.iconst 0, 1) := by decide +kernel
theorem dX5_again_17 : decode cX5_again 17 = .ok (.istore_n 2, 1) := by decide +kernel
theorem dX5_again_18 : decode cX5_again 18 = .ok (.iload_n 2, 1) := by decide +kernel
theorem dX5_again_19 : decode cX5_again 19 = .ok (.bipush 32, 2) := by decide +kernel
theorem dX5_again_21 : decode cX5_again 21 = .ok (.if_icmp .ge 52, 3) := by decide +kernel
theorem dX5_again_24 : decode cX5_again 24 = .ok (.iload_n 2, 1) := by decide +kernel
theorem dX5_again_25 : decode cX5_again 25 = .ok (.iconst 1, 1) := by decide +kernel
theorem dX5_again_26 : decode cX5_again 26 = .ok (.iadd, 1) := by decide +kernel
theorem dX5_again_27 : decode cX5_again 27 = .ok (.istore_n 3, 1) := by decide +kernel
theorem dX5_again_28 : decode cX5_again 28 = .ok (.iload_n 3, 1) := by decide +kernel
theorem dX5_again_29 : decode cX5_again 29 = .ok (.bipush 32, 2) := by decide +kernel
theorem dX5_again_31 : decode cX5_again 31 = .ok (.if_icmp .ge 36, 3) := by decide +kernel
theorem dX5_again_34 : decode cX5_again 34 = .ok (.aload_n 0, 1) := by decide +kernel
theorem dX5_again_35 : decode cX5_again 35 = .ok (.getfield 54, 3) := by decide +kernel
theorem dX5_again_38 : decode cX5_again 38 = .ok (.iload_n 2, 1) := by decide +kernel
theorem dX5_again_39 : decode cX5_again 39 = .ok (.iaload, 1) := by decide +kernel
theorem dX5_again_40 : decode cX5_again 40 = .ok (.aload_n 0, 1) := by decide +kernel
theorem dX5_again_41 : decode cX5_again 41 = .ok (.getfield 54, 3) := by decide +kernel
theorem dX5_again_44 : decode cX5_again 44 = .ok (.iload_n 3, 1) := by decide +kernel
theorem dX5_again_45 : decode cX5_again 45 = .ok (.iaload, 1) := by decide +kernel

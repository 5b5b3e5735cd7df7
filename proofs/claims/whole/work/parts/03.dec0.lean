theorem dX0_init_0 : decode cX0_init 0 = .ok (.aload_n 0, 1) := by decide +kernel
theorem dX0_init_1 : decode cX0_init 1 = .ok (.invokespecial 3, 3) := by decide +kernel
theorem dX0_init_4 : decode cX0_init 4 = .ok (.aload_n 0, 1) := by decide +kernel
theorem dX0_init_5 : decode cX0_init 5 = .ok (.bipush 24, 2) := by decide +kernel
theorem dX0_init_7 : decode cX0_init 7 = .ok (.newarray .int, 2) := by decide +kernel
theorem dX0_init_9 : decode cX0_init 9 = .ok (.putfield 9, 3) := by decide +kernel
theorem dX0_init_12 : decode cX0_init 12 = .ok (.aload_n 0, 1) := by decide +kernel
theorem dX0_init_13 : decode cX0_init 13 = .ok (.bipush 24, 2) := by decide +kernel
theorem dX0_init_15 : decode cX0_init 15 = .ok (.newarray .int, 2) := by decide +kernel
theorem dX0_init_17 : decode cX0_init 17 = .ok (.putfield 15, 3) := by decide +kernel
theorem dX0_init_20 : decode cX0_init 20 = .ok (.aload_n 0, 1) := by decide +kernel
theorem dX0_init_21 : decode cX0_init 21 = .ok (.bipush 24, 2) := by decide +kernel
theorem dX0_init_23 : decode cX0_init 23 = .ok (.newarray .int, 2) := by decide +kernel
theorem dX0_init_25 : decode cX0_init 25 = .ok (.putfield 18, 3) := by decide +kernel
theorem dX0_init_28 : decode cX0_init 28 = .ok (.return_, 1) := by decide +kernel
theorem dX0_forget_0 : decode cX0_forget 0 = .ok (.aload_n 0, 1) := by decide +kernel
theorem dX0_forget_1 : decode cX0_forget 1 = .ok (.iconst 0, 1) := by decide +kernel
theorem dX0_forget_2 : decode cX0_forget 2 = .ok (.putfield 21, 3) := by decide +kernel
theorem dX0_forget_5 : decode cX0_forget 5 = .ok (.aload_n 0, 1) := by decide +kernel
theorem dX0_forget_6 : decode cX0_forget 6 = .ok (.iconst 0, 1) := by decide +kernel
theorem dX0_forget_7 : decode cX0_forget 7 = .ok (.putfield 25, 3) := by decide +kernel
theorem dX0_forget_10 : decode cX0_forget 10 = .ok (.return_, 1) := by decide +kernel
set_option maxRecDepth 20000 in
theorem ggX0_keep_X4_figures : GoodIn wsX0_keep wsX4_figures := goodIn_r _ [12, 13, 14, 20, 21, 22, 23, 24] (by decide +kernel) (by decide +kernel)
set_option maxRecDepth 20000 in
theorem gX0_keep_X4_figures : GoodIn wsX0_keep (wsV RX0 28 RX4 yX4_figures wsX4_figures) := goodIn_app (goodIn_of _ (by decide +kernel)) ggX0_keep_X4_figures
theorem dX0_keep_0 : decode cX0_keep 0 = .ok (.aload_n 0, 1) := by decide +kernel
theorem dX0_keep_1 : decode cX0_keep 1 = .ok (.getfield 25, 3) := by decide +kernel
theorem dX0_keep_4 : decode cX0_keep 4 = .ok (.bipush 24, 2) := by decide +kernel
theorem dX0_keep_6 : decode cX0_keep 6 = .ok (.if_icmp .ne 26, 3) := by decide +kernel
theorem dX0_keep_9 : decode cX0_keep 9 = .ok (.aload_n 0, 1) := by decide +kernel
theorem dX0_keep_10 : decode cX0_keep 10 = .ok (.aload_n 0, 1) := by decide +kernel
theorem dX0_keep_11 : decode cX0_keep 11 = .ok (.getfield 21, 3) := by decide +kernel
theorem dX0_keep_14 : decode cX0_keep 14 = .ok (.iconst 1, 1) := by decide +kernel
theorem dX0_keep_15 : decode cX0_keep 15 = .ok (.iadd, 1) := by decide +kernel
theorem dX0_keep_16 : decode cX0_keep 16 = .ok (.bipush 24, 2) := by decide +kernel
theorem dX0_keep_18 : decode cX0_keep 18 = .ok (.irem, 1) := by decide +kernel
theorem dX0_keep_19 : decode cX0_keep 19 = .ok (.putfield 21, 3) := by decide +kernel
theorem dX0_keep_22 : decode cX0_keep 22 = .ok (.aload_n 0, 1) := by decide +kernel
theorem dX0_keep_23 : decode cX0_keep 23 = .ok (.dup, 1) := by decide +kernel
theorem dX0_keep_24 : decode cX0_keep 24 = .ok (.getfield 25, 3) := by decide +kernel
theorem dX0_keep_27 : decode cX0_keep 27 = .ok (.iconst 1, 1) := by decide +kernel
theorem dX0_keep_28 : decode cX0_keep 28 = .ok (.isub, 1) := by decide +kernel
theorem dX0_keep_29 : decode cX0_keep 29 = .ok (.putfield 25, 3) := by decide +kernel
theorem dX0_keep_32 : decode cX0_keep 32 = .ok (.aload_n 0, 1) := by decide +kernel
theorem dX0_keep_33 : decode cX0_keep 33 = .ok (.getfield 21, 3) := by decide +kernel
theorem dX0_keep_36 : decode cX0_keep 36 = .ok (.aload_n 0, 1) := by decide +kernel
theorem dX0_keep_37 : decode cX0_keep 37 = .ok (.getfield 25, 3) := by decide +kernel
theorem dX0_keep_40 : decode cX0_keep 40 = .ok (.iadd, 1) := by decide +kernel
theorem dX0_keep_41 : decode cX0_keep 41 = .ok (.bipush 24, 2) := by decide +kernel
theorem dX0_keep_43 : decode cX0_keep 43 = .ok (.irem, 1) := by decide +kernel
theorem dX0_keep_44 : decode cX0_keep 44 = .ok (.istore_n 2, 1) := by decide +kernel
theorem dX0_keep_45 : decode cX0_keep 45 = .ok (.aload_n 0, 1) := by decide +kernel
theorem dX0_keep_46 : decode cX0_keep 46 = .ok (.getfield 9, 3) := by decide +kernel
theorem dX0_keep_49 : decode cX0_keep 49 = .ok (.iload_n 2, 1) := by decide +kernel
theorem dX0_keep_50 : decode cX0_keep 50 = .ok (.aload_n 1, 1) := by decide +kernel
theorem dX0_keep_51 : decode cX0_keep 51 = .ok (.invokevirtual 28, 3) := by decide +kernel
theorem dX0_keep_54 : decode cX0_keep 54 = .ok (.iastore, 1) := by decide +kernel
theorem dX0_keep_55 : decode cX0_keep 55 = .ok (.aload_n 0, 1) := by decide +kernel
theorem dX0_keep_56 : decode cX0_keep 56 = .ok (.getfield 15, 3) := by decide +kernel
theorem dX0_keep_59 : decode cX0_keep 59 = .ok (.iload_n 2, 1) := by decide +kernel
theorem dX0_keep_60 : decode cX0_keep 60 = .ok (.aload_n 1, 1) := by decide +kernel
theorem dX0_keep_61 : decode cX0_keep 61 = .ok (.getfield 33, 3) := by decide +kernel
theorem dX0_keep_64 : decode cX0_keep 64 = .ok (.iastore, 1) := by decide +kernel
theorem dX0_keep_65 : decode cX0_keep 65 = .ok (.aload_n 0, 1) := by decide +kernel
theorem dX0_keep_66 : decode cX0_keep 66 = .ok (.getfield 18, 3) := by decide +kernel
theorem dX0_keep_69 : decode cX0_keep 69 = .ok (.iload_n 2, 1) := by decide +kernel
theorem dX0_keep_70 : decode cX0_keep 70 = .ok (.aload_n 1, 1) := by decide +kernel
theorem dX0_keep_71 : decode cX0_keep 71 = .ok (.getfield 36, 3) := by decide +kernel
theorem dX0_keep_74 : decode cX0_keep 74 = .ok (.iastore, 1) := by decide +kernel
theorem dX0_keep_75 : decode cX0_keep 75 = .ok (.aload_n 0, 1) := by decide +kernel
theorem dX0_keep_76 : decode cX0_keep 76 = .ok (.dup, 1) := by decide +kernel
theorem dX0_keep_77 : decode cX0_keep 77 = .ok (.getfield 25, 3) := by decide +kernel
theorem dX0_keep_80 : decode cX0_keep 80 = .ok (.iconst 1, 1) := by decide +kernel
theorem dX0_keep_81 : decode cX0_keep 81 = .ok (.iadd, 1) := by decide +kernel
theorem dX0_keep_82 : decode cX0_keep 82 = .ok (.putfield 25, 3) := by decide +kernel
theorem dX0_keep_85 : decode cX0_keep 85 = .ok (.return_, 1) := by decide +kernel
set_option maxRecDepth 20000 in
theorem ggX0_takeBack_X4_takeFigures : GoodIn wsX0_takeBack wsX4_takeFigures := goodIn_r _ [12, 13, 14, 20, 21, 22, 23, 24] (by decide +kernel) (by decide +kernel)
set_option maxRecDepth 20000 in
theorem gX0_takeBack_X4_takeFigures : GoodIn wsX0_takeBack (wsV RX0 39 RX4 yX4_takeFigures wsX4_takeFigures) := goodIn_app (goodIn_of _ (by decide +kernel)) ggX0_takeBack_X4_takeFigures
theorem dX0_takeBack_0 : decode cX0_takeBack 0 = .ok (.aload_n 0, 1) := by decide +kernel
theorem dX0_takeBack_1 : decode cX0_takeBack 1 = .ok (.getfield 25, 3) := by decide +kernel
theorem dX0_takeBack_4 : decode cX0_takeBack 4 = .ok (.ifCond .ne 4, 3) := by decide +kernel
theorem dX0_takeBack_7 : decode cX0_takeBack 7 = .ok (.return_, 1) := by decide +kernel
theorem dX0_takeBack_8 : decode cX0_takeBack 8 = .ok (.aload_n 0, 1) := by decide +kernel
theorem dX0_takeBack_9 : decode cX0_takeBack 9 = .ok (.dup, 1) := by decide +kernel
theorem dX0_takeBack_10 : decode cX0_takeBack 10 = .ok (.getfield 25, 3) := by decide +kernel
theorem dX0_takeBack_13 : decode cX0_takeBack 13 = .ok (.iconst 1, 1) := by decide +kernel
theorem dX0_takeBack_14 : decode cX0_takeBack 14 = .ok (.isub, 1) := by decide +kernel
theorem dX0_takeBack_15 : decode cX0_takeBack 15 = .ok (.putfield 25, 3) := by decide +kernel
theorem dX0_takeBack_18 : decode cX0_takeBack 18 = .ok (.aload_n 0, 1) := by decide +kernel
theorem dX0_takeBack_19 : decode cX0_takeBack 19 = .ok (.getfield 21, 3) := by decide +kernel
theorem dX0_takeBack_22 : decode cX0_takeBack 22 = .ok (.aload_n 0, 1) := by decide +kernel
theorem dX0_takeBack_23 : decode cX0_takeBack 23 = .ok (.getfield 25, 3) := by decide +kernel
theorem dX0_takeBack_26 : decode cX0_takeBack 26 = .ok (.iadd, 1) := by decide +kernel
theorem dX0_takeBack_27 : decode cX0_takeBack 27 = .ok (.bipush 24, 2) := by decide +kernel
theorem dX0_takeBack_29 : decode cX0_takeBack 29 = .ok (.irem, 1) := by decide +kernel
theorem dX0_takeBack_30 : decode cX0_takeBack 30 = .ok (.istore_n 2, 1) := by decide +kernel
theorem dX0_takeBack_31 : decode cX0_takeBack 31 = .ok (.aload_n 1, 1) := by decide +kernel
theorem dX0_takeBack_32 : decode cX0_takeBack 32 = .ok (.aload_n 0, 1) := by decide +kernel
theorem dX0_takeBack_33 : decode cX0_takeBack 33 = .ok (.getfield 9, 3) := by decide +kernel
theorem dX0_takeBack_36 : decode cX0_takeBack 36 = .ok (.iload_n 2, 1) := by decide +kernel
theorem dX0_takeBack_37 : decode cX0_takeBack 37 = .ok (.iaload, 1) := by decide +kernel
theorem dX0_takeBack_38 : decode cX0_takeBack 38 = .ok (.invokevirtual 39, 3) := by decide +kernel
theorem dX0_takeBack_41 : decode cX0_takeBack 41 = .ok (.aload_n 1, 1) := by decide +kernel
theorem dX0_takeBack_42 : decode cX0_takeBack 42 = .ok (.aload_n 0, 1) := by decide +kernel
theorem dX0_takeBack_43 : decode cX0_takeBack 43 = .ok (.getfield 15, 3) := by decide +kernel
theorem dX0_takeBack_46 : decode cX0_takeBack 46 = .ok (.iload_n 2, 1) := by decide +kernel
theorem dX0_takeBack_47 : decode cX0_takeBack 47 = .ok (.iaload, 1) := by decide +kernel
theorem dX0_takeBack_48 : decode cX0_takeBack 48 = .ok (.putfield 33, 3) := by decide +kernel
theorem dX0_takeBack_51 : decode cX0_takeBack 51 = .ok (.aload_n 1, 1) := by decide +kernel
theorem dX0_takeBack_52 : decode cX0_takeBack 52 = .ok (.aload_n 0, 1) := by decide +kernel
theorem dX0_takeBack_53 : decode cX0_takeBack 53 = .ok (.getfield 18, 3) := by decide +kernel
theorem dX0_takeBack_56 : decode cX0_takeBack 56 = .ok (.iload_n 2, 1) := by decide +kernel
theorem dX0_takeBack_57 : decode cX0_takeBack 57 = .ok (.iaload, 1) := by decide +kernel
theorem dX0_takeBack_58 : decode cX0_takeBack 58 = .ok (.putfield 36, 3) := by decide +kernel
theorem dX0_takeBack_61 : decode cX0_takeBack 61 = .ok (.return_, 1) := by decide +kernel
theorem dX1_init_0 : decode cX1_init 0 = .ok (.aload_n 0, 1) := by decide +kernel
theorem dX1_init_1 : decode cX1_init 1 = .ok (.invokespecial 3, 3) := by decide +kernel
theorem dX1_init_4 : decode cX1_init 4 = .ok (.aload_n 0, 1) := by decide +kernel
theorem dX1_init_5 : decode cX1_init 5 = .ok (.bipush 16, 2) := by decide +kernel
theorem dX1_init_7 : decode cX1_init 7 = .ok (.newarray .int, 2) := by decide +kernel
theorem dX1_init_9 : decode cX1_init 9 = .ok (.putfield 9, 3) := by decide +kernel
theorem dX1_init_12 : decode cX1_init 12 = .ok (.return_, 1) := by decide +kernel
set_option maxRecDepth 20000 in
theorem ggX1_answer_X1_run : GoodIn wsX1_answer wsX1_run := goodIn_r _ [7, 2, 8, 9, 10, 11, 6, 12, 1, 13, 3, 4, 5, 14, 15, 16, 17, 18, 19, 20, 23, 24, 25, 26, 27, 21, 22] (by decide +kernel) (by decide +kernel)
set_option maxRecDepth 20000 in
theorem gX1_answer_X1_run : GoodIn wsX1_answer (wsV RX1 30 RX1 yX1_run wsX1_run) := goodIn_app (goodIn_of _ (by decide +kernel)) ggX1_answer_X1_run
theorem dX1_answer_0 : decode cX1_answer 0 = .ok (.aload_n 0, 1) := by decide +kernel
theorem dX1_answer_1 : decode cX1_answer 1 = .ok (.iconst 0, 1) := by decide +kernel
theorem dX1_answer_2 : decode cX1_answer 2 = .ok (.putfield 15, 3) := by decide +kernel
theorem dX1_answer_5 : decode cX1_answer 5 = .ok (.aload_n 1, 1) := by decide +kernel
theorem dX1_answer_6 : decode cX1_answer 6 = .ok (.getfield 19, 3) := by decide +kernel
theorem dX1_answer_9 : decode cX1_answer 9 = .ok (.iload_n 2, 1) := by decide +kernel
theorem dX1_answer_10 : decode cX1_answer 10 = .ok (.iaload, 1) := by decide +kernel
theorem dX1_answer_11 : decode cX1_answer 11 = .ok (.istore 4, 2) := by decide +kernel
theorem dX1_answer_13 : decode cX1_answer 13 = .ok (.aload_n 0, 1) := by decide +kernel
theorem dX1_answer_14 : decode cX1_answer 14 = .ok (.iload_n 3, 1) := by decide +kernel
theorem dX1_answer_15 : decode cX1_answer 15 = .ok (.ifCond .ne 12, 3) := by decide +kernel
theorem dX1_answer_18 : decode cX1_answer 18 = .ok (.getstatic 24, 3) := by decide +kernel
theorem dX1_answer_21 : decode cX1_answer 21 = .ok (.iload 4, 2) := by decide +kernel
theorem dX1_answer_23 : decode cX1_answer 23 = .ok (.iaload, 1) := by decide +kernel
theorem dX1_answer_24 : decode cX1_answer 24 = .ok (.goto 9, 3) := by decide +kernel
theorem dX1_answer_27 : decode cX1_answer 27 = .ok (.getstatic 27, 3) := by decide +kernel
theorem dX1_answer_30 : decode cX1_answer 30 = .ok (.iload 4, 2) := by decide +kernel
theorem dX1_answer_32 : decode cX1_answer 32 = .ok (.iaload, 1) := by decide +kernel
theorem dX1_answer_33 : decode cX1_answer 33 = .ok (.aload_n 1, 1) := by decide +kernel
theorem dX1_answer_34 : decode cX1_answer 34 = .ok (.iload_n 2, 1) := by decide +kernel
theorem dX1_answer_35 : decode cX1_answer 35 = .ok (.iconst 0, 1) := by decide +kernel
theorem dX1_answer_36 : decode cX1_answer 36 = .ok (.invokevirtual 30, 3) := by decide +kernel
theorem dX1_answer_39 : decode cX1_answer 39 = .ok (.ireturn, 1) := by decide +kernel
set_option maxRecDepth 20000 in
theorem ggX1_run_X1_leave : GoodIn wsX1_run wsX1_leave := goodIn_r _ [7, 8, 9, 25, 26] (by decide +kernel) (by decide +kernel)
set_option maxRecDepth 20000 in
theorem gX1_run_X1_leave : GoodIn wsX1_run (wsV RX1 34 RX1 yX1_leave wsX1_leave) := goodIn_app (goodIn_of _ (by decide +kernel)) ggX1_run_X1_leave
set_option maxRecDepth 20000 in
theorem ggX1_run_X1_run : GoodIn wsX1_run wsX1_run := goodIn_r _ [0, 1, 2, 3, 4, 5, 6, 7, 8, 9, 10, 11, 12, 13, 14, 15, 16, 17, 18, 19, 20, 21, 22, 23, 24, 25, 26] (by decide +kernel) (by decide +kernel)
set_option maxRecDepth 20000 in
theorem gX1_run_X1_run : GoodIn wsX1_run (wsV RX1 30 RX1 yX1_run wsX1_run) := goodIn_app (goodIn_of _ (by decide +kernel)) ggX1_run_X1_run
set_option maxRecDepth 20000 in
theorem ggX1_run_X4_withNone : GoodIn wsX1_run wsX4_withNone := goodIn_r _ [17, 18, 19, 20, 21, 22, 23, 24] (by decide +kernel) (by decide +kernel)
set_option maxRecDepth 20000 in
theorem gX1_run_X4_withNone : GoodIn wsX1_run (wsV RX1 41 RX4 yX4_withNone wsX4_withNone) := goodIn_app (goodIn_of _ (by decide +kernel)) ggX1_run_X4_withNone
theorem dX1_run_0 : decode cX1_run 0 = .ok (.iload 4, 2) := by decide +kernel
theorem dX1_run_2 : decode cX1_run 2 = .ok (.bipush 16, 2) := by decide +kernel
theorem dX1_run_4 : decode cX1_run 4 = .ok (.if_icmp .lt 5, 3) := by decide +kernel
theorem dX1_run_7 : decode cX1_run 7 = .ok (.iconst 0, 1) := by decide +kernel
theorem dX1_run_8 : decode cX1_run 8 = .ok (.ireturn, 1) := by decide +kernel
theorem dX1_run_9 : decode cX1_run 9 = .ok (.aload_n 0, 1) := by decide +kernel
theorem dX1_run_10 : decode cX1_run 10 = .ok (.iload_n 1, 1) := by decide +kernel
theorem dX1_run_11 : decode cX1_run 11 = .ok (.invokevirtual 34, 3) := by decide +kernel
theorem dX1_run_14 : decode cX1_run 14 = .ok (.getstatic 24, 3) := by decide +kernel
theorem dX1_run_17 : decode cX1_run 17 = .ok (.aload_n 2, 1) := by decide +kernel
theorem dX1_run_18 : decode cX1_run 18 = .ok (.getfield 19, 3) := by decide +kernel
theorem dX1_run_21 : decode cX1_run 21 = .ok (.iload_n 3, 1) := by decide +kernel
theorem dX1_run_22 : decode cX1_run 22 = .ok (.iaload, 1) := by decide +kernel
theorem dX1_run_23 : decode cX1_run 23 = .ok (.iaload, 1) := by decide +kernel
theorem dX1_run_24 : decode cX1_run 24 = .ok (.istore 5, 2) := by decide +kernel
theorem dX1_run_26 : decode cX1_run 26 = .ok (.getstatic 27, 3) := by decide +kernel
theorem dX1_run_29 : decode cX1_run 29 = .ok (.aload_n 2, 1) := by decide +kernel
theorem dX1_run_30 : decode cX1_run 30 = .ok (.getfield 19, 3) := by decide +kernel
theorem dX1_run_33 : decode cX1_run 33 = .ok (.iload_n 3, 1) := by decide +kernel
theorem dX1_run_34 : decode cX1_run 34 = .ok (.iaload, 1) := by decide +kernel
theorem dX1_run_35 : decode cX1_run 35 = .ok (.iaload, 1) := by decide +kernel
theorem dX1_run_36 : decode cX1_run 36 = .ok (.istore 6, 2) := by decide +kernel
theorem dX1_run_38 : decode cX1_run 38 = .ok (.iload_n 1, 1) := by decide +kernel
theorem dX1_run_39 : decode cX1_run 39 = .ok (.tableswitch 229 10 24 #[73, 80, 106, 120, 136, 229, 229, 229, 229, 229, 151, 153, 171, 188, 214], 73) := by decide +kernel
theorem dX1_run_112 : decode cX1_run 112 = .ok (.aload_n 2, 1) := by decide +kernel
theorem dX1_run_113 : decode cX1_run 113 = .ok (.getfield 38, 3) := by decide +kernel
theorem dX1_run_116 : decode cX1_run 116 = .ok (.iload_n 3, 1) := by decide +kernel
theorem dX1_run_117 : decode cX1_run 117 = .ok (.iaload, 1) := by decide +kernel
theorem dX1_run_118 : decode cX1_run 118 = .ok (.ireturn, 1) := by decide +kernel
theorem dX1_run_119 : decode cX1_run 119 = .ok (.aload_n 0, 1) := by decide +kernel
theorem dX1_run_120 : decode cX1_run 120 = .ok (.bipush 10, 2) := by decide +kernel
theorem dX1_run_122 : decode cX1_run 122 = .ok (.aload_n 2, 1) := by decide +kernel
theorem dX1_run_123 : decode cX1_run 123 = .ok (.iload_n 3, 1) := by decide +kernel
theorem dX1_run_124 : decode cX1_run 124 = .ok (.iload 4, 2) := by decide +kernel
theorem dX1_run_126 : decode cX1_run 126 = .ok (.iconst 1, 1) := by decide +kernel
theorem dX1_run_127 : decode cX1_run 127 = .ok (.iadd, 1) := by decide +kernel
theorem dX1_run_128 : decode cX1_run 128 = .ok (.invokevirtual 30, 3) := by decide +kernel
theorem dX1_run_131 : decode cX1_run 131 = .ok (.aload_n 0, 1) := by decide +kernel
theorem dX1_run_132 : decode cX1_run 132 = .ok (.iload 6, 2) := by decide +kernel
theorem dX1_run_134 : decode cX1_run 134 = .ok (.aload_n 2, 1) := by decide +kernel
theorem dX1_run_135 : decode cX1_run 135 = .ok (.iload_n 3, 1) := by decide +kernel
theorem dX1_run_136 : decode cX1_run 136 = .ok (.iload 4, 2) := by decide +kernel
theorem dX1_run_138 : decode cX1_run 138 = .ok (.iconst 1, 1) := by decide +kernel
theorem dX1_run_139 : decode cX1_run 139 = .ok (.iadd, 1) := by decide +kernel
theorem dX1_run_140 : decode cX1_run 140 = .ok (.invokevirtual 30, 3) := by decide +kernel
theorem dX1_run_143 : decode cX1_run 143 = .ok (.iadd, 1) := by decide +kernel
theorem dX1_run_144 : decode cX1_run 144 = .ok (.ireturn, 1) := by decide +kernel
theorem dX1_run_145 : decode cX1_run 145 = .ok (.aload_n 0, 1) := by decide +kernel
theorem dX1_run_146 : decode cX1_run 146 = .ok (.bipush 11, 2) := by decide +kernel
theorem dX1_run_148 : decode cX1_run 148 = .ok (.aload_n 2, 1) := by decide +kernel
theorem dX1_run_149 : decode cX1_run 149 = .ok (.iload_n 3, 1) := by decide +kernel
theorem dX1_run_150 : decode cX1_run 150 = .ok (.iload 4, 2) := by decide +kernel
theorem dX1_run_152 : decode cX1_run 152 = .ok (.iconst 1, 1) := by decide +kernel
theorem dX1_run_153 : decode cX1_run 153 = .ok (.iadd, 1) := by decide +kernel
theorem dX1_run_154 : decode cX1_run 154 = .ok (.invokevirtual 30, 3) := by decide +kernel
theorem dX1_run_157 : decode cX1_run 157 = .ok (.ineg, 1) := by decide +kernel
theorem dX1_run_158 : decode cX1_run 158 = .ok (.ireturn, 1) := by decide +kernel
theorem dX1_run_159 : decode cX1_run 159 = .ok (.aload_n 0, 1) := by decide +kernel
theorem dX1_run_160 : decode cX1_run 160 = .ok (.bipush 10, 2) := by decide +kernel
theorem dX1_run_162 : decode cX1_run 162 = .ok (.aload_n 2, 1) := by decide +kernel
theorem dX1_run_163 : decode cX1_run 163 = .ok (.iload_n 3, 1) := by decide +kernel
theorem dX1_run_164 : decode cX1_run 164 = .ok (.iload 4, 2) := by decide +kernel
theorem dX1_run_166 : decode cX1_run 166 = .ok (.iconst 1, 1) := by decide +kernel
theorem dX1_run_167 : decode cX1_run 167 = .ok (.iadd, 1) := by decide +kernel
theorem dX1_run_168 : decode cX1_run 168 = .ok (.invokevirtual 30, 3) := by decide +kernel
theorem dX1_run_171 : decode cX1_run 171 = .ok (.bipush 100, 2) := by decide +kernel
theorem dX1_run_173 : decode cX1_run 173 = .ok (.isub, 1) := by decide +kernel
theorem dX1_run_174 : decode cX1_run 174 = .ok (.ireturn, 1) := by decide +kernel
theorem dX1_run_175 : decode cX1_run 175 = .ok (.iconst 2, 1) := by decide +kernel
theorem dX1_run_176 : decode cX1_run 176 = .ok (.aload_n 0, 1) := by decide +kernel
theorem dX1_run_177 : decode cX1_run 177 = .ok (.bipush 13, 2) := by decide +kernel
theorem dX1_run_179 : decode cX1_run 179 = .ok (.aload_n 2, 1) := by decide +kernel
theorem dX1_run_180 : decode cX1_run 180 = .ok (.iload_n 3, 1) := by decide +kernel
theorem dX1_run_181 : decode cX1_run 181 = .ok (.iload 4, 2) := by decide +kernel
theorem dX1_run_183 : decode cX1_run 183 = .ok (.iconst 1, 1) := by decide +kernel
theorem dX1_run_184 : decode cX1_run 184 = .ok (.iadd, 1) := by decide +kernel
theorem dX1_run_185 : decode cX1_run 185 = .ok (.invokevirtual 30, 3) := by decide +kernel
theorem dX1_run_188 : decode cX1_run 188 = .ok (.imul, 1) := by decide +kernel
theorem dX1_run_189 : decode cX1_run 189 = .ok (.ireturn, 1) := by decide +kernel
theorem dX1_run_190 : decode cX1_run 190 = .ok (.iload_n 3, 1) := by decide +kernel
theorem dX1_run_191 : decode cX1_run 191 = .ok (.ireturn, 1) := by decide +kernel
theorem dX1_run_192 : decode cX1_run 192 = .ok (.aload_n 0, 1) := by decide +kernel
theorem dX1_run_193 : decode cX1_run 193 = .ok (.bipush 20, 2) := by decide +kernel
theorem dX1_run_195 : decode cX1_run 195 = .ok (.aload_n 2, 1) := by decide +kernel
theorem dX1_run_196 : decode cX1_run 196 = .ok (.iload_n 3, 1) := by decide +kernel
theorem dX1_run_197 : decode cX1_run 197 = .ok (.iload 4, 2) := by decide +kernel
theorem dX1_run_199 : decode cX1_run 199 = .ok (.iconst 1, 1) := by decide +kernel
theorem dX1_run_200 : decode cX1_run 200 = .ok (.iadd, 1) := by decide +kernel
theorem dX1_run_201 : decode cX1_run 201 = .ok (.invokevirtual 30, 3) := by decide +kernel
theorem dX1_run_204 : decode cX1_run 204 = .ok (.aload_n 2, 1) := by decide +kernel
theorem dX1_run_205 : decode cX1_run 205 = .ok (.invokevirtual 41, 3) := by decide +kernel
theorem dX1_run_208 : decode cX1_run 208 = .ok (.iadd, 1) := by decide +kernel
theorem dX1_run_209 : decode cX1_run 209 = .ok (.ireturn, 1) := by decide +kernel
theorem dX1_run_210 : decode cX1_run 210 = .ok (.aload_n 0, 1) := by decide +kernel
theorem dX1_run_211 : decode cX1_run 211 = .ok (.bipush 21, 2) := by decide +kernel
theorem dX1_run_213 : decode cX1_run 213 = .ok (.aload_n 2, 1) := by decide +kernel
theorem dX1_run_214 : decode cX1_run 214 = .ok (.iload_n 3, 1) := by decide +kernel
theorem dX1_run_215 : decode cX1_run 215 = .ok (.iload 4, 2) := by decide +kernel
theorem dX1_run_217 : decode cX1_run 217 = .ok (.iconst 1, 1) := by decide +kernel
theorem dX1_run_218 : decode cX1_run 218 = .ok (.iadd, 1) := by decide +kernel
theorem dX1_run_219 : decode cX1_run 219 = .ok (.invokevirtual 30, 3) := by decide +kernel
theorem dX1_run_222 : decode cX1_run 222 = .ok (.sipush 1000, 3) := by decide +kernel
theorem dX1_run_225 : decode cX1_run 225 = .ok (.isub, 1) := by decide +kernel
theorem dX1_run_226 : decode cX1_run 226 = .ok (.ireturn, 1) := by decide +kernel
theorem dX1_run_227 : decode cX1_run 227 = .ok (.aload_n 0, 1) := by decide +kernel
theorem dX1_run_228 : decode cX1_run 228 = .ok (.bipush 20, 2) := by decide +kernel
theorem dX1_run_230 : decode cX1_run 230 = .ok (.aload_n 2, 1) := by decide +kernel
theorem dX1_run_231 : decode cX1_run 231 = .ok (.iload_n 3, 1) := by decide +kernel
theorem dX1_run_232 : decode cX1_run 232 = .ok (.iload 4, 2) := by decide +kernel
theorem dX1_run_234 : decode cX1_run 234 = .ok (.iconst 1, 1) := by decide +kernel
theorem dX1_run_235 : decode cX1_run 235 = .ok (.iadd, 1) := by decide +kernel
theorem dX1_run_236 : decode cX1_run 236 = .ok (.invokevirtual 30, 3) := by decide +kernel
theorem dX1_run_239 : decode cX1_run 239 = .ok (.aload_n 0, 1) := by decide +kernel
theorem dX1_run_240 : decode cX1_run 240 = .ok (.iload 5, 2) := by decide +kernel
theorem dX1_run_242 : decode cX1_run 242 = .ok (.aload_n 2, 1) := by decide +kernel
theorem dX1_run_243 : decode cX1_run 243 = .ok (.iload_n 3, 1) := by decide +kernel
theorem dX1_run_244 : decode cX1_run 244 = .ok (.iload 4, 2) := by decide +kernel
theorem dX1_run_246 : decode cX1_run 246 = .ok (.iconst 1, 1) := by decide +kernel
theorem dX1_run_247 : decode cX1_run 247 = .ok (.iadd, 1) := by decide +kernel
theorem dX1_run_248 : decode cX1_run 248 = .ok (.invokevirtual 30, 3) := by decide +kernel
theorem dX1_run_251 : decode cX1_run 251 = .ok (.isub, 1) := by decide +kernel
theorem dX1_run_252 : decode cX1_run 252 = .ok (.ireturn, 1) := by decide +kernel
theorem dX1_run_253 : decode cX1_run 253 = .ok (.iconst 2, 1) := by decide +kernel
theorem dX1_run_254 : decode cX1_run 254 = .ok (.aload_n 0, 1) := by decide +kernel
theorem dX1_run_255 : decode cX1_run 255 = .ok (.bipush 21, 2) := by decide +kernel
theorem dX1_run_257 : decode cX1_run 257 = .ok (.aload_n 2, 1) := by decide +kernel
theorem dX1_run_258 : decode cX1_run 258 = .ok (.iload_n 3, 1) := by decide +kernel
theorem dX1_run_259 : decode cX1_run 259 = .ok (.iload 4, 2) := by decide +kernel
theorem dX1_run_261 : decode cX1_run 261 = .ok (.iconst 1, 1) := by decide +kernel
theorem dX1_run_262 : decode cX1_run 262 = .ok (.iadd, 1) := by decide +kernel
theorem dX1_run_263 : decode cX1_run 263 = .ok (.invokevirtual 30, 3) := by decide +kernel
theorem dX1_run_266 : decode cX1_run 266 = .ok (.imul, 1) := by decide +kernel
theorem dX1_run_267 : decode cX1_run 267 = .ok (.ireturn, 1) := by decide +kernel
theorem dX1_run_268 : decode cX1_run 268 = .ok (.iconst 0, 1) := by decide +kernel
theorem dX1_run_269 : decode cX1_run 269 = .ok (.ireturn, 1) := by decide +kernel
theorem dX1_leave_0 : decode cX1_leave 0 = .ok (.aload_n 0, 1) := by decide +kernel
theorem dX1_leave_1 : decode cX1_leave 1 = .ok (.getfield 15, 3) := by decide +kernel
theorem dX1_leave_4 : decode cX1_leave 4 = .ok (.bipush 16, 2) := by decide +kernel
theorem dX1_leave_6 : decode cX1_leave 6 = .ok (.if_icmp .ge 23, 3) := by decide +kernel
theorem dX1_leave_9 : decode cX1_leave 9 = .ok (.aload_n 0, 1) := by decide +kernel
theorem dX1_leave_10 : decode cX1_leave 10 = .ok (.getfield 9, 3) := by decide +kernel
theorem dX1_leave_13 : decode cX1_leave 13 = .ok (.aload_n 0, 1) := by decide +kernel
theorem dX1_leave_14 : decode cX1_leave 14 = .ok (.getfield 15, 3) := by decide +kernel
theorem dX1_leave_17 : decode cX1_leave 17 = .ok (.iload_n 1, 1) := by decide +kernel
theorem dX1_leave_18 : decode cX1_leave 18 = .ok (.iastore, 1) := by decide +kernel
theorem dX1_leave_19 : decode cX1_leave 19 = .ok (.aload_n 0, 1) := by decide +kernel
theorem dX1_leave_20 : decode cX1_leave 20 = .ok (.dup, 1) := by decide +kernel
theorem dX1_leave_21 : decode cX1_leave 21 = .ok (.getfield 15, 3) := by decide +kernel
theorem dX1_leave_24 : decode cX1_leave 24 = .ok (.iconst 1, 1) := by decide +kernel
theorem dX1_leave_25 : decode cX1_leave 25 = .ok (.iadd, 1) := by decide +kernel
theorem dX1_leave_26 : decode cX1_leave 26 = .ok (.putfield 15, 3) := by decide +kernel
theorem dX1_leave_29 : decode cX1_leave 29 = .ok (.return_, 1) := by decide +kernel
theorem dX2_init_0 : decode cX2_init 0 = .ok (.aload_n 0, 1) := by decide +kernel
theorem dX2_init_1 : decode cX2_init 1 = .ok (.invokespecial 3, 3) := by decide +kernel
theorem dX2_init_4 : decode cX2_init 4 = .ok (.aload_n 0, 1) := by decide +kernel
theorem dX2_init_5 : decode cX2_init 5 = .ok (.bipush 7, 2) := by decide +kernel
theorem dX2_init_7 : decode cX2_init 7 = .ok (.newarray .int, 2) := by decide +kernel
theorem dX2_init_9 : decode cX2_init 9 = .ok (.putfield 9, 3) := by decide +kernel
theorem dX2_init_12 : decode cX2_init 12 = .ok (.aload_n 0, 1) := by decide +kernel
theorem dX2_init_13 : decode cX2_init 13 = .ok (.bipush 7, 2) := by decide +kernel
theorem dX2_init_15 : decode cX2_init 15 = .ok (.newarray .int, 2) := by decide +kernel
theorem dX2_init_17 : decode cX2_init 17 = .ok (.putfield 15, 3) := by decide +kernel
theorem dX2_init_20 : decode cX2_init 20 = .ok (.return_, 1) := by decide +kernel
set_option maxRecDepth 20000 in
theorem ggX2_take_X2_freePlaceOf : GoodIn wsX2_take wsX2_freePlaceOf := goodIn_r _ [10, 2, 16, 17] (by decide +kernel) (by decide +kernel)
set_option maxRecDepth 20000 in
theorem gX2_take_X2_freePlaceOf : GoodIn wsX2_take (wsV RX2 30 RX2 yX2_freePlaceOf wsX2_freePlaceOf) := goodIn_app (goodIn_of _ (by decide +kernel)) ggX2_take_X2_freePlaceOf
theorem dX2_take_0 : decode cX2_take 0 = .ok (.iconst 0, 1) := by decide +kernel
theorem dX2_take_1 : decode cX2_take 1 = .ok (.istore 4, 2) := by decide +kernel
theorem dX2_take_3 : decode cX2_take 3 = .ok (.iconst 0, 1) := by decide +kernel
theorem dX2_take_4 : decode cX2_take 4 = .ok (.istore 5, 2) := by decide +kernel
theorem dX2_take_6 : decode cX2_take 6 = .ok (.iload 5, 2) := by decide +kernel
theorem dX2_take_8 : decode cX2_take 8 = .ok (.aload_n 1, 1) := by decide +kernel
theorem dX2_take_9 : decode cX2_take 9 = .ok (.getfield 18, 3) := by decide +kernel
theorem dX2_take_12 : decode cX2_take 12 = .ok (.if_icmp .ge 25, 3) := by decide +kernel
theorem dX2_take_15 : decode cX2_take 15 = .ok (.aload_n 0, 1) := by decide +kernel
theorem dX2_take_16 : decode cX2_take 16 = .ok (.getfield 9, 3) := by decide +kernel
theorem dX2_take_19 : decode cX2_take 19 = .ok (.iload 5, 2) := by decide +kernel
theorem dX2_take_21 : decode cX2_take 21 = .ok (.aload_n 2, 1) := by decide +kernel
theorem dX2_take_22 : decode cX2_take 22 = .ok (.getfield 24, 3) := by decide +kernel
theorem dX2_take_25 : decode cX2_take 25 = .ok (.iload_n 3, 1) := by decide +kernel
theorem dX2_take_26 : decode cX2_take 26 = .ok (.iload 5, 2) := by decide +kernel
theorem dX2_take_28 : decode cX2_take 28 = .ok (.iadd, 1) := by decide +kernel
theorem dX2_take_29 : decode cX2_take 29 = .ok (.iaload, 1) := by decide +kernel
theorem dX2_take_30 : decode cX2_take 30 = .ok (.iastore, 1) := by decide +kernel
theorem dX2_take_31 : decode cX2_take 31 = .ok (.iinc 5 1, 3) := by decide +kernel
theorem dX2_take_34 : decode cX2_take 34 = .ok (.goto (-28), 3) := by decide +kernel
theorem dX2_take_37 : decode cX2_take 37 = .ok (.iconst 0, 1) := by decide +kernel
theorem dX2_take_38 : decode cX2_take 38 = .ok (.istore 5, 2) := by decide +kernel
theorem dX2_take_40 : decode cX2_take 40 = .ok (.iload 5, 2) := by decide +kernel
theorem dX2_take_42 : decode cX2_take 42 = .ok (.aload_n 1, 1) := by decide +kernel
theorem dX2_take_43 : decode cX2_take 43 = .ok (.getfield 18, 3) := by decide +kernel
theorem dX2_take_46 : decode cX2_take 46 = .ok (.if_icmp .ge 53, 3) := by decide +kernel
theorem dX2_take_49 : decode cX2_take 49 = .ok (.aload_n 0, 1) := by decide +kernel
theorem dX2_take_50 : decode cX2_take 50 = .ok (.aload_n 1, 1) := by decide +kernel
theorem dX2_take_51 : decode cX2_take 51 = .ok (.getfield 29, 3) := by decide +kernel
theorem dX2_take_54 : decode cX2_take 54 = .ok (.iload 5, 2) := by decide +kernel
theorem dX2_take_56 : decode cX2_take 56 = .ok (.iaload, 1) := by decide +kernel
theorem dX2_take_57 : decode cX2_take 57 = .ok (.iload 4, 2) := by decide +kernel
theorem dX2_take_59 : decode cX2_take 59 = .ok (.aload_n 1, 1) := by decide +kernel
theorem dX2_take_60 : decode cX2_take 60 = .ok (.getfield 18, 3) := by decide +kernel
theorem dX2_take_63 : decode cX2_take 63 = .ok (.invokevirtual 30, 3) := by decide +kernel
theorem dX2_take_66 : decode cX2_take 66 = .ok (.istore 6, 2) := by decide +kernel
theorem dX2_take_68 : decode cX2_take 68 = .ok (.iload 6, 2) := by decide +kernel
theorem dX2_take_70 : decode cX2_take 70 = .ok (.ifCond .ge 5, 3) := by decide +kernel
theorem dX2_take_73 : decode cX2_take 73 = .ok (.iconst 0, 1) := by decide +kernel
theorem dX2_take_74 : decode cX2_take 74 = .ok (.ireturn, 1) := by decide +kernel
theorem dX2_take_75 : decode cX2_take 75 = .ok (.iload 4, 2) := by decide +kernel
theorem dX2_take_77 : decode cX2_take 77 = .ok (.iconst 1, 1) := by decide +kernel
theorem dX2_take_78 : decode cX2_take 78 = .ok (.iload 6, 2) := by decide +kernel
theorem dX2_take_80 : decode cX2_take 80 = .ok (.ishl, 1) := by decide +kernel
theorem dX2_take_81 : decode cX2_take 81 = .ok (.ior, 1) := by decide +kernel
theorem dX2_take_82 : decode cX2_take 82 = .ok (.istore 4, 2) := by decide +kernel
theorem dX2_take_84 : decode cX2_take 84 = .ok (.aload_n 0, 1) := by decide +kernel
theorem dX2_take_85 : decode cX2_take 85 = .ok (.getfield 15, 3) := by decide +kernel
theorem dX2_take_88 : decode cX2_take 88 = .ok (.iload 5, 2) := by decide +kernel
theorem dX2_take_90 : decode cX2_take 90 = .ok (.iload 6, 2) := by decide +kernel
theorem dX2_take_92 : decode cX2_take 92 = .ok (.iastore, 1) := by decide +kernel
theorem dX2_take_93 : decode cX2_take 93 = .ok (.iinc 5 1, 3) := by decide +kernel
theorem dX2_take_96 : decode cX2_take 96 = .ok (.goto (-56), 3) := by decide +kernel
theorem dX2_take_99 : decode cX2_take 99 = .ok (.iconst 1, 1) := by decide +kernel
theorem dX2_take_100 : decode cX2_take 100 = .ok (.ireturn, 1) := by decide +kernel
theorem dX2_freePlaceOf_0 : decode cX2_freePlaceOf 0 = .ok (.iconst 0, 1) := by decide +kernel
theorem dX2_freePlaceOf_1 : decode cX2_freePlaceOf 1 = .ok (.istore 4, 2) := by decide +kernel
theorem dX2_freePlaceOf_3 : decode cX2_freePlaceOf 3 = .ok (.iload 4, 2) := by decide +kernel
theorem dX2_freePlaceOf_5 : decode cX2_freePlaceOf 5 = .ok (.iload_n 3, 1) := by decide +kernel
theorem dX2_freePlaceOf_6 : decode cX2_freePlaceOf 6 = .ok (.if_icmp .ge 32, 3) := by decide +kernel
theorem dX2_freePlaceOf_9 : decode cX2_freePlaceOf 9 = .ok (.aload_n 0, 1) := by decide +kernel
theorem dX2_freePlaceOf_10 : decode cX2_freePlaceOf 10 = .ok (.getfield 9, 3) := by decide +kernel
theorem dX2_freePlaceOf_13 : decode cX2_freePlaceOf 13 = .ok (.iload 4, 2) := by decide +kernel
theorem dX2_freePlaceOf_15 : decode cX2_freePlaceOf 15 = .ok (.iaload, 1) := by decide +kernel
theorem dX2_freePlaceOf_16 : decode cX2_freePlaceOf 16 = .ok (.iload_n 1, 1) := by decide +kernel
theorem dX2_freePlaceOf_17 : decode cX2_freePlaceOf 17 = .ok (.if_icmp .ne 15, 3) := by decide +kernel
theorem dX2_freePlaceOf_20 : decode cX2_freePlaceOf 20 = .ok (.iload_n 2, 1) := by decide +kernel
theorem dX2_freePlaceOf_21 : decode cX2_freePlaceOf 21 = .ok (.iload 4, 2) := by decide +kernel
theorem dX2_freePlaceOf_23 : decode cX2_freePlaceOf 23 = .ok (.ishr, 1) := by decide +kernel
theorem dX2_freePlaceOf_24 : decode cX2_freePlaceOf 24 = .ok (.iconst 1, 1) := by decide +kernel
theorem dX2_freePlaceOf_25 : decode cX2_freePlaceOf 25 = .ok (.iand, 1) := by decide +kernel
theorem dX2_freePlaceOf_26 : decode cX2_freePlaceOf 26 = .ok (.ifCond .ne 6, 3) := by decide +kernel
theorem dX2_freePlaceOf_29 : decode cX2_freePlaceOf 29 = .ok (.iload 4, 2) := by decide +kernel
theorem dX2_freePlaceOf_31 : decode cX2_freePlaceOf 31 = .ok (.ireturn, 1) := by decide +kernel
theorem dX2_freePlaceOf_32 : decode cX2_freePlaceOf 32 = .ok (.iinc 4 1, 3) := by decide +kernel
theorem dX2_freePlaceOf_35 : decode cX2_freePlaceOf 35 = .ok (.goto (-32), 3) := by decide +kernel
theorem dX2_freePlaceOf_38 : decode cX2_freePlaceOf 38 = .ok (.iconst (-1), 1) := by decide +kernel
theorem dX2_freePlaceOf_39 : decode cX2_freePlaceOf 39 = .ok (.ireturn, 1) := by decide +kernel
set_option maxRecDepth 20000 in
theorem ggX2_fewestChanges_X4_withNone : GoodIn wsX2_fewestChanges wsX4_withNone := goodIn_r _ [6, 7, 8, 16, 17, 18, 19, 20] (by decide +kernel) (by decide +kernel)
set_option maxRecDepth 20000 in
theorem gX2_fewestChanges_X4_withNone : GoodIn wsX2_fewestChanges (wsV RX2 34 RX4 yX4_withNone wsX4_withNone) := goodIn_app (goodIn_of _ (by decide +kernel)) ggX2_fewestChanges_X4_withNone
set_option maxRecDepth 20000 in
theorem ggX2_fewestChanges_X2_cyclesWithoutNone : GoodIn wsX2_fewestChanges wsX2_cyclesWithoutNone := goodIn_r _ [13, 1, 14, 15, 16, 17, 18, 19, 20, 21, 22] (by decide +kernel) (by decide +kernel)
set_option maxRecDepth 20000 in
theorem gX2_fewestChanges_X2_cyclesWithoutNone : GoodIn wsX2_fewestChanges (wsV RX2 38 RX2 yX2_cyclesWithoutNone wsX2_cyclesWithoutNone) := goodIn_app (goodIn_of _ (by decide +kernel)) ggX2_fewestChanges_X2_cyclesWithoutNone
theorem dX2_fewestChanges_0 : decode cX2_fewestChanges 0 = .ok (.aload_n 1, 1) := by decide +kernel
theorem dX2_fewestChanges_1 : decode cX2_fewestChanges 1 = .ok (.getfield 18, 3) := by decide +kernel
theorem dX2_fewestChanges_4 : decode cX2_fewestChanges 4 = .ok (.aload_n 1, 1) := by decide +kernel
theorem dX2_fewestChanges_5 : decode cX2_fewestChanges 5 = .ok (.invokevirtual 34, 3) := by decide +kernel
theorem dX2_fewestChanges_8 : decode cX2_fewestChanges 8 = .ok (.isub, 1) := by decide +kernel
theorem dX2_fewestChanges_9 : decode cX2_fewestChanges 9 = .ok (.aload_n 0, 1) := by decide +kernel
theorem dX2_fewestChanges_10 : decode cX2_fewestChanges 10 = .ok (.aload_n 1, 1) := by decide +kernel
theorem dX2_fewestChanges_11 : decode cX2_fewestChanges 11 = .ok (.invokevirtual 38, 3) := by decide +kernel
theorem dX2_fewestChanges_14 : decode cX2_fewestChanges 14 = .ok (.isub, 1) := by decide +kernel
theorem dX2_fewestChanges_15 : decode cX2_fewestChanges 15 = .ok (.ireturn, 1) := by decide +kernel
set_option maxRecDepth 20000 in
theorem ggX2_evenOrOdd_X4_withNone : GoodIn wsX2_evenOrOdd wsX4_withNone := goodIn_r _ [5, 6, 7, 20, 21, 22, 23, 24] (by decide +kernel) (by decide +kernel)
set_option maxRecDepth 20000 in
theorem gX2_evenOrOdd_X4_withNone : GoodIn wsX2_evenOrOdd (wsV RX2 34 RX4 yX4_withNone wsX4_withNone) := goodIn_app (goodIn_of _ (by decide +kernel)) ggX2_evenOrOdd_X4_withNone
set_option maxRecDepth 20000 in
theorem ggX2_evenOrOdd_X2_fewestChanges : GoodIn wsX2_evenOrOdd wsX2_fewestChanges := goodIn_r _ [12, 13, 1, 2, 3, 4, 5, 6, 7, 14, 15, 16, 11, 17, 18, 19, 20, 21, 22, 23, 24, 25, 26] (by decide +kernel) (by decide +kernel)
set_option maxRecDepth 20000 in
theorem gX2_evenOrOdd_X2_fewestChanges : GoodIn wsX2_evenOrOdd (wsV RX2 42 RX2 yX2_fewestChanges wsX2_fewestChanges) := goodIn_app (goodIn_of _ (by decide +kernel)) ggX2_evenOrOdd_X2_fewestChanges
theorem dX2_evenOrOdd_0 : decode cX2_evenOrOdd 0 = .ok (.aload_n 1, 1) := by decide +kernel
theorem dX2_evenOrOdd_1 : decode cX2_evenOrOdd 1 = .ok (.invokevirtual 34, 3) := by decide +kernel
theorem dX2_evenOrOdd_4 : decode cX2_evenOrOdd 4 = .ok (.iconst 2, 1) := by decide +kernel
theorem dX2_evenOrOdd_5 : decode cX2_evenOrOdd 5 = .ok (.if_icmp .lt 5, 3) := by decide +kernel
theorem dX2_evenOrOdd_8 : decode cX2_evenOrOdd 8 = .ok (.iconst 3, 1) := by decide +kernel
theorem dX2_evenOrOdd_9 : decode cX2_evenOrOdd 9 = .ok (.ireturn, 1) := by decide +kernel
theorem dX2_evenOrOdd_10 : decode cX2_evenOrOdd 10 = .ok (.aload_n 0, 1) := by decide +kernel
theorem dX2_evenOrOdd_11 : decode cX2_evenOrOdd 11 = .ok (.aload_n 1, 1) := by decide +kernel
theorem dX2_evenOrOdd_12 : decode cX2_evenOrOdd 12 = .ok (.invokevirtual 42, 3) := by decide +kernel
theorem dX2_evenOrOdd_15 : decode cX2_evenOrOdd 15 = .ok (.iconst 2, 1) := by decide +kernel
theorem dX2_evenOrOdd_16 : decode cX2_evenOrOdd 16 = .ok (.irem, 1) := by decide +kernel
theorem dX2_evenOrOdd_17 : decode cX2_evenOrOdd 17 = .ok (.ifCond .ne 7, 3) := by decide +kernel
theorem dX2_evenOrOdd_20 : decode cX2_evenOrOdd 20 = .ok (.iconst 1, 1) := by decide +kernel
theorem dX2_evenOrOdd_21 : decode cX2_evenOrOdd 21 = .ok (.goto 4, 3) := by decide +kernel
theorem dX2_evenOrOdd_24 : decode cX2_evenOrOdd 24 = .ok (.iconst 2, 1) := by decide +kernel
theorem dX2_evenOrOdd_25 : decode cX2_evenOrOdd 25 = .ok (.ireturn, 1) := by decide +kernel
theorem dX2_cyclesWithoutNone_0 : decode cX2_cyclesWithoutNone 0 = .ok (.iconst 0, 1) := by decide +kernel
theorem dX2_cyclesWithoutNone_1 : decode cX2_cyclesWithoutNone 1 = .ok (.istore_n 2, 1) := by decide +kernel
theorem dX2_cyclesWithoutNone_2 : decode cX2_cyclesWithoutNone 2 = .ok (.iconst 0, 1) := by decide +kernel
theorem dX2_cyclesWithoutNone_3 : decode cX2_cyclesWithoutNone 3 = .ok (.istore_n 3, 1) := by decide +kernel
theorem dX2_cyclesWithoutNone_4 : decode cX2_cyclesWithoutNone 4 = .ok (.iconst 0, 1) := by decide +kernel
theorem dX2_cyclesWithoutNone_5 : decode cX2_cyclesWithoutNone 5 = .ok (.istore 4, 2) := by decide +kernel
theorem dX2_cyclesWithoutNone_7 : decode cX2_cyclesWithoutNone 7 = .ok (.iload 4, 2) := by decide +kernel
theorem dX2_cyclesWithoutNone_9 : decode cX2_cyclesWithoutNone 9 = .ok (.aload_n 1, 1) := by decide +kernel
theorem dX2_cyclesWithoutNone_10 : decode cX2_cyclesWithoutNone 10 = .ok (.getfield 18, 3) := by decide +kernel
theorem dX2_cyclesWithoutNone_13 : decode cX2_cyclesWithoutNone 13 = .ok (.if_icmp .ge 107, 3) := by decide +kernel
theorem dX2_cyclesWithoutNone_16 : decode cX2_cyclesWithoutNone 16 = .ok (.iload 4, 2) := by decide +kernel
theorem dX2_cyclesWithoutNone_18 : decode cX2_cyclesWithoutNone 18 = .ok (.istore 5, 2) := by decide +kernel
theorem dX2_cyclesWithoutNone_20 : decode cX2_cyclesWithoutNone 20 = .ok (.iload_n 3, 1) := by decide +kernel
theorem dX2_cyclesWithoutNone_21 : decode cX2_cyclesWithoutNone 21 = .ok (.iload 4, 2) := by decide +kernel
theorem dX2_cyclesWithoutNone_23 : decode cX2_cyclesWithoutNone 23 = .ok (.ishr, 1) := by decide +kernel
theorem dX2_cyclesWithoutNone_24 : decode cX2_cyclesWithoutNone 24 = .ok (.iconst 1, 1) := by decide +kernel
theorem dX2_cyclesWithoutNone_25 : decode cX2_cyclesWithoutNone 25 = .ok (.iand, 1) := by decide +kernel
theorem dX2_cyclesWithoutNone_26 : decode cX2_cyclesWithoutNone 26 = .ok (.ifCond .ne 7, 3) := by decide +kernel
theorem dX2_cyclesWithoutNone_29 : decode cX2_cyclesWithoutNone 29 = .ok (.iconst 1, 1) := by decide +kernel
theorem dX2_cyclesWithoutNone_30 : decode cX2_cyclesWithoutNone 30 = .ok (.goto 4, 3) := by decide +kernel
theorem dX2_cyclesWithoutNone_33 : decode cX2_cyclesWithoutNone 33 = .ok (.iconst 0, 1) := by decide +kernel
theorem dX2_cyclesWithoutNone_34 : decode cX2_cyclesWithoutNone 34 = .ok (.istore 6, 2) := by decide +kernel
theorem dX2_cyclesWithoutNone_36 : decode cX2_cyclesWithoutNone 36 = .ok (.iconst 0, 1) := by decide +kernel
theorem dX2_cyclesWithoutNone_37 : decode cX2_cyclesWithoutNone 37 = .ok (.istore 7, 2) := by decide +kernel
theorem dX2_cyclesWithoutNone_39 : decode cX2_cyclesWithoutNone 39 = .ok (.iload 7, 2) := by decide +kernel
theorem dX2_cyclesWithoutNone_41 : decode cX2_cyclesWithoutNone 41 = .ok (.aload_n 1, 1) := by decide +kernel
theorem dX2_cyclesWithoutNone_42 : decode cX2_cyclesWithoutNone 42 = .ok (.getfield 18, 3) := by decide +kernel
theorem dX2_cyclesWithoutNone_45 : decode cX2_cyclesWithoutNone 45 = .ok (.if_icmp .ge 44, 3) := by decide +kernel
theorem dX2_cyclesWithoutNone_48 : decode cX2_cyclesWithoutNone 48 = .ok (.iload_n 3, 1) := by decide +kernel
theorem dX2_cyclesWithoutNone_49 : decode cX2_cyclesWithoutNone 49 = .ok (.iload 5, 2) := by decide +kernel
theorem dX2_cyclesWithoutNone_51 : decode cX2_cyclesWithoutNone 51 = .ok (.ishr, 1) := by decide +kernel
theorem dX2_cyclesWithoutNone_52 : decode cX2_cyclesWithoutNone 52 = .ok (.iconst 1, 1) := by decide +kernel
theorem dX2_cyclesWithoutNone_53 : decode cX2_cyclesWithoutNone 53 = .ok (.iand, 1) := by decide +kernel
theorem dX2_cyclesWithoutNone_54 : decode cX2_cyclesWithoutNone 54 = .ok (.ifCond .ne 35, 3) := by decide +kernel
theorem dX2_cyclesWithoutNone_57 : decode cX2_cyclesWithoutNone 57 = .ok (.aload_n 1, 1) := by decide +kernel
theorem dX2_cyclesWithoutNone_58 : decode cX2_cyclesWithoutNone 58 = .ok (.getfield 29, 3) := by decide +kernel
theorem dX2_cyclesWithoutNone_61 : decode cX2_cyclesWithoutNone 61 = .ok (.iload 5, 2) := by decide +kernel
theorem dX2_cyclesWithoutNone_63 : decode cX2_cyclesWithoutNone 63 = .ok (.iaload, 1) := by decide +kernel
theorem dX2_cyclesWithoutNone_64 : decode cX2_cyclesWithoutNone 64 = .ok (.ifCond .eq 25, 3) := by decide +kernel
theorem dX2_cyclesWithoutNone_67 : decode cX2_cyclesWithoutNone 67 = .ok (.iload_n 3, 1) := by decide +kernel
theorem dX2_cyclesWithoutNone_68 : decode cX2_cyclesWithoutNone 68 = .ok (.iconst 1, 1) := by decide +kernel
theorem dX2_cyclesWithoutNone_69 : decode cX2_cyclesWithoutNone 69 = .ok (.iload 5, 2) := by decide +kernel
theorem dX2_cyclesWithoutNone_71 : decode cX2_cyclesWithoutNone 71 = .ok (.ishl, 1) := by decide +kernel
theorem dX2_cyclesWithoutNone_72 : decode cX2_cyclesWithoutNone 72 = .ok (.ior, 1) := by decide +kernel
theorem dX2_cyclesWithoutNone_73 : decode cX2_cyclesWithoutNone 73 = .ok (.istore_n 3, 1) := by decide +kernel
theorem dX2_cyclesWithoutNone_74 : decode cX2_cyclesWithoutNone 74 = .ok (.aload_n 0, 1) := by decide +kernel
theorem dX2_cyclesWithoutNone_75 : decode cX2_cyclesWithoutNone 75 = .ok (.getfield 15, 3) := by decide +kernel
theorem dX2_cyclesWithoutNone_78 : decode cX2_cyclesWithoutNone 78 = .ok (.iload 5, 2) := by decide +kernel
theorem dX2_cyclesWithoutNone_80 : decode cX2_cyclesWithoutNone 80 = .ok (.iaload, 1) := by decide +kernel
theorem dX2_cyclesWithoutNone_81 : decode cX2_cyclesWithoutNone 81 = .ok (.istore 5, 2) := by decide +kernel
theorem dX2_cyclesWithoutNone_83 : decode cX2_cyclesWithoutNone 83 = .ok (.iinc 7 1, 3) := by decide +kernel
theorem dX2_cyclesWithoutNone_86 : decode cX2_cyclesWithoutNone 86 = .ok (.goto (-47), 3) := by decide +kernel
theorem dX2_cyclesWithoutNone_89 : decode cX2_cyclesWithoutNone 89 = .ok (.iload 6, 2) := by decide +kernel
theorem dX2_cyclesWithoutNone_91 : decode cX2_cyclesWithoutNone 91 = .ok (.ifCond .eq 23, 3) := by decide +kernel
theorem dX2_cyclesWithoutNone_94 : decode cX2_cyclesWithoutNone 94 = .ok (.iload 5, 2) := by decide +kernel
theorem dX2_cyclesWithoutNone_96 : decode cX2_cyclesWithoutNone 96 = .ok (.iload 4, 2) := by decide +kernel
theorem dX2_cyclesWithoutNone_98 : decode cX2_cyclesWithoutNone 98 = .ok (.if_icmp .ne 16, 3) := by decide +kernel
theorem dX2_cyclesWithoutNone_101 : decode cX2_cyclesWithoutNone 101 = .ok (.aload_n 1, 1) := by decide +kernel
theorem dX2_cyclesWithoutNone_102 : decode cX2_cyclesWithoutNone 102 = .ok (.getfield 29, 3) := by decide +kernel
theorem dX2_cyclesWithoutNone_105 : decode cX2_cyclesWithoutNone 105 = .ok (.iload 5, 2) := by decide +kernel
theorem dX2_cyclesWithoutNone_107 : decode cX2_cyclesWithoutNone 107 = .ok (.iaload, 1) := by decide +kernel
theorem dX2_cyclesWithoutNone_108 : decode cX2_cyclesWithoutNone 108 = .ok (.ifCond .eq 6, 3) := by decide +kernel
theorem dX2_cyclesWithoutNone_111 : decode cX2_cyclesWithoutNone 111 = .ok (.iinc 2 1, 3) := by decide +kernel
theorem dX2_cyclesWithoutNone_114 : decode cX2_cyclesWithoutNone 114 = .ok (.iinc 4 1, 3) := by decide +kernel
theorem dX2_cyclesWithoutNone_117 : decode cX2_cyclesWithoutNone 117 = .ok (.goto (-110), 3) := by decide +kernel
theorem dX2_cyclesWithoutNone_120 : decode cX2_cyclesWithoutNone 120 = .ok (.iload_n 2, 1) := by decide +kernel
theorem dX2_cyclesWithoutNone_121 : decode cX2_cyclesWithoutNone 121 = .ok (.ireturn, 1) := by decide +kernel
theorem dX2_neighbourChanges_0 : decode cX2_neighbourChanges 0 = .ok (.iconst 0, 1) := by decide +kernel
theorem dX2_neighbourChanges_1 : decode cX2_neighbourChanges 1 = .ok (.istore_n 2, 1) := by decide +kernel
theorem dX2_neighbourChanges_2 : decode cX2_neighbourChanges 2 = .ok (.iconst 0, 1) := by decide +kernel
theorem dX2_neighbourChanges_3 : decode cX2_neighbourChanges 3 = .ok (.istore_n 3, 1) := by decide +kernel
theorem dX2_neighbourChanges_4 : decode cX2_neighbourChanges 4 = .ok (.iload_n 3, 1) := by decide +kernel
theorem dX2_neighbourChanges_5 : decode cX2_neighbourChanges 5 = .ok (.aload_n 1, 1) := by decide +kernel
theorem dX2_neighbourChanges_6 : decode cX2_neighbourChanges 6 = .ok (.getfield 18, 3) := by decide +kernel
theorem dX2_neighbourChanges_9 : decode cX2_neighbourChanges 9 = .ok (.if_icmp .ge 48, 3) := by decide +kernel
theorem dX2_neighbourChanges_12 : decode cX2_neighbourChanges 12 = .ok (.iload_n 3, 1) := by decide +kernel
theorem dX2_neighbourChanges_13 : decode cX2_neighbourChanges 13 = .ok (.iconst 1, 1) := by decide +kernel
theorem dX2_neighbourChanges_14 : decode cX2_neighbourChanges 14 = .ok (.iadd, 1) := by decide +kernel
theorem dX2_neighbourChanges_15 : decode cX2_neighbourChanges 15 = .ok (.istore 4, 2) := by decide +kernel
theorem dX2_neighbourChanges_17 : decode cX2_neighbourChanges 17 = .ok (.iload 4, 2) := by decide +kernel
theorem dX2_neighbourChanges_19 : decode cX2_neighbourChanges 19 = .ok (.aload_n 1, 1) := by decide +kernel
theorem dX2_neighbourChanges_20 : decode cX2_neighbourChanges 20 = .ok (.getfield 18, 3) := by decide +kernel
theorem dX2_neighbourChanges_23 : decode cX2_neighbourChanges 23 = .ok (.if_icmp .ge 28, 3) := by decide +kernel
theorem dX2_neighbourChanges_26 : decode cX2_neighbourChanges 26 = .ok (.aload_n 0, 1) := by decide +kernel
theorem dX2_neighbourChanges_27 : decode cX2_neighbourChanges 27 = .ok (.getfield 15, 3) := by decide +kernel
theorem dX2_neighbourChanges_30 : decode cX2_neighbourChanges 30 = .ok (.iload_n 3, 1) := by decide +kernel
theorem dX2_neighbourChanges_31 : decode cX2_neighbourChanges 31 = .ok (.iaload, 1) := by decide +kernel
theorem dX2_neighbourChanges_32 : decode cX2_neighbourChanges 32 = .ok (.aload_n 0, 1) := by decide +kernel
theorem dX2_neighbourChanges_33 : decode cX2_neighbourChanges 33 = .ok (.getfield 15, 3) := by decide +kernel
theorem dX2_neighbourChanges_36 : decode cX2_neighbourChanges 36 = .ok (.iload 4, 2) := by decide +kernel
theorem dX2_neighbourChanges_38 : decode cX2_neighbourChanges 38 = .ok (.iaload, 1) := by decide +kernel
theorem dX2_neighbourChanges_39 : decode cX2_neighbourChanges 39 = .ok (.if_icmp .le 6, 3) := by decide +kernel
theorem dX2_neighbourChanges_42 : decode cX2_neighbourChanges 42 = .ok (.iinc 2 1, 3) := by decide +kernel
theorem dX2_neighbourChanges_45 : decode cX2_neighbourChanges 45 = .ok (.iinc 4 1, 3) := by decide +kernel
theorem dX2_neighbourChanges_48 : decode cX2_neighbourChanges 48 = .ok (.goto (-31), 3) := by decide +kernel
theorem dX2_neighbourChanges_51 : decode cX2_neighbourChanges 51 = .ok (.iinc 3 1, 3) := by decide +kernel
theorem dX2_neighbourChanges_54 : decode cX2_neighbourChanges 54 = .ok (.goto (-50), 3) := by decide +kernel
theorem dX2_neighbourChanges_57 : decode cX2_neighbourChanges 57 = .ok (.iload_n 2, 1) := by decide +kernel
theorem dX2_neighbourChanges_58 : decode cX2_neighbourChanges 58 = .ok (.ireturn, 1) := by decide +kernel
set_option maxRecDepth 20000 in
theorem ggX2_neighbourChange_X2_firstFall : GoodIn wsX2_neighbourChange wsX2_firstFall := goodIn_r _ [8, 3, 1, 14, 15] (by decide +kernel) (by decide +kernel)
set_option maxRecDepth 20000 in
theorem gX2_neighbourChange_X2_firstFall : GoodIn wsX2_neighbourChange (wsV RX2 46 RX2 yX2_firstFall wsX2_firstFall) := goodIn_app (goodIn_of _ (by decide +kernel)) ggX2_neighbourChange_X2_firstFall
theorem dX2_neighbourChange_0 : decode cX2_neighbourChange 0 = .ok (.ldc 45, 2) := by decide +kernel
theorem dX2_neighbourChange_2 : decode cX2_neighbourChange 2 = .ok (.istore_n 3, 1) := by decide +kernel
theorem dX2_neighbourChange_3 : decode cX2_neighbourChange 3 = .ok (.iconst 0, 1) := by decide +kernel
theorem dX2_neighbourChange_4 : decode cX2_neighbourChange 4 = .ok (.istore 4, 2) := by decide +kernel
theorem dX2_neighbourChange_6 : decode cX2_neighbourChange 6 = .ok (.iload 4, 2) := by decide +kernel
theorem dX2_neighbourChange_8 : decode cX2_neighbourChange 8 = .ok (.iload_n 2, 1) := by decide +kernel
theorem dX2_neighbourChange_9 : decode cX2_neighbourChange 9 = .ok (.if_icmp .gt 64, 3) := by decide +kernel
theorem dX2_neighbourChange_12 : decode cX2_neighbourChange 12 = .ok (.iload 4, 2) := by decide +kernel
theorem dX2_neighbourChange_14 : decode cX2_neighbourChange 14 = .ok (.bipush 21, 2) := by decide +kernel
theorem dX2_neighbourChange_16 : decode cX2_neighbourChange 16 = .ok (.if_icmp .gt 57, 3) := by decide +kernel
theorem dX2_neighbourChange_19 : decode cX2_neighbourChange 19 = .ok (.aload_n 0, 1) := by decide +kernel
theorem dX2_neighbourChange_20 : decode cX2_neighbourChange 20 = .ok (.aload_n 1, 1) := by decide +kernel
theorem dX2_neighbourChange_21 : decode cX2_neighbourChange 21 = .ok (.getfield 18, 3) := by decide +kernel
theorem dX2_neighbourChange_24 : decode cX2_neighbourChange 24 = .ok (.invokevirtual 46, 3) := by decide +kernel
theorem dX2_neighbourChange_27 : decode cX2_neighbourChange 27 = .ok (.istore_n 3, 1) := by decide +kernel
theorem dX2_neighbourChange_28 : decode cX2_neighbourChange 28 = .ok (.iload_n 3, 1) := by decide +kernel
theorem dX2_neighbourChange_29 : decode cX2_neighbourChange 29 = .ok (.ifCond .ge 6, 3) := by decide +kernel
theorem dX2_neighbourChange_32 : decode cX2_neighbourChange 32 = .ok (.ldc 45, 2) := by decide +kernel
theorem dX2_neighbourChange_34 : decode cX2_neighbourChange 34 = .ok (.ireturn, 1) := by decide +kernel
theorem dX2_neighbourChange_35 : decode cX2_neighbourChange 35 = .ok (.aload_n 0, 1) := by decide +kernel
theorem dX2_neighbourChange_36 : decode cX2_neighbourChange 36 = .ok (.getfield 15, 3) := by decide +kernel
theorem dX2_neighbourChange_39 : decode cX2_neighbourChange 39 = .ok (.iload_n 3, 1) := by decide +kernel
theorem dX2_neighbourChange_40 : decode cX2_neighbourChange 40 = .ok (.iaload, 1) := by decide +kernel
theorem dX2_neighbourChange_41 : decode cX2_neighbourChange 41 = .ok (.istore 5, 2) := by decide +kernel
theorem dX2_neighbourChange_43 : decode cX2_neighbourChange 43 = .ok (.aload_n 0, 1) := by decide +kernel
theorem dX2_neighbourChange_44 : decode cX2_neighbourChange 44 = .ok (.getfield 15, 3) := by decide +kernel
theorem dX2_neighbourChange_47 : decode cX2_neighbourChange 47 = .ok (.iload_n 3, 1) := by decide +kernel
theorem dX2_neighbourChange_48 : decode cX2_neighbourChange 48 = .ok (.aload_n 0, 1) := by decide +kernel
theorem dX2_neighbourChange_49 : decode cX2_neighbourChange 49 = .ok (.getfield 15, 3) := by decide +kernel
theorem dX2_neighbourChange_52 : decode cX2_neighbourChange 52 = .ok (.iload_n 3, 1) := by decide +kernel
theorem dX2_neighbourChange_53 : decode cX2_neighbourChange 53 = .ok (.iconst 1, 1) := by decide +kernel
theorem dX2_neighbourChange_54 : decode cX2_neighbourChange 54 = .ok (.iadd, 1) := by decide +kernel
theorem dX2_neighbourChange_55 : decode cX2_neighbourChange 55 = .ok (.iaload, 1) := by decide +kernel
theorem dX2_neighbourChange_56 : decode cX2_neighbourChange 56 = .ok (.iastore, 1) := by decide +kernel
theorem dX2_neighbourChange_57 : decode cX2_neighbourChange 57 = .ok (.aload_n 0, 1) := by decide +kernel
theorem dX2_neighbourChange_58 : decode cX2_neighbourChange 58 = .ok (.getfield 15, 3) := by decide +kernel
theorem dX2_neighbourChange_61 : decode cX2_neighbourChange 61 = .ok (.iload_n 3, 1) := by decide +kernel
theorem dX2_neighbourChange_62 : decode cX2_neighbourChange 62 = .ok (.iconst 1, 1) := by decide +kernel
theorem dX2_neighbourChange_63 : decode cX2_neighbourChange 63 = .ok (.iadd, 1) := by decide +kernel
theorem dX2_neighbourChange_64 : decode cX2_neighbourChange 64 = .ok (.iload 5, 2) := by decide +kernel
theorem dX2_neighbourChange_66 : decode cX2_neighbourChange 66 = .ok (.iastore, 1) := by decide +kernel
theorem dX2_neighbourChange_67 : decode cX2_neighbourChange 67 = .ok (.iinc 4 1, 3) := by decide +kernel
theorem dX2_neighbourChange_70 : decode cX2_neighbourChange 70 = .ok (.goto (-64), 3) := by decide +kernel
theorem dX2_neighbourChange_73 : decode cX2_neighbourChange 73 = .ok (.iload_n 3, 1) := by decide +kernel
theorem dX2_neighbourChange_74 : decode cX2_neighbourChange 74 = .ok (.ireturn, 1) := by decide +kernel
theorem dX2_firstFall_0 : decode cX2_firstFall 0 = .ok (.iconst 0, 1) := by decide +kernel
theorem dX2_firstFall_1 : decode cX2_firstFall 1 = .ok (.istore_n 2, 1) := by decide +kernel
theorem dX2_firstFall_2 : decode cX2_firstFall 2 = .ok (.iload_n 2, 1) := by decide +kernel
theorem dX2_firstFall_3 : decode cX2_firstFall 3 = .ok (.iconst 1, 1) := by decide +kernel
theorem dX2_firstFall_4 : decode cX2_firstFall 4 = .ok (.iadd, 1) := by decide +kernel
theorem dX2_firstFall_5 : decode cX2_firstFall 5 = .ok (.iload_n 1, 1) := by decide +kernel
theorem dX2_firstFall_6 : decode cX2_firstFall 6 = .ok (.if_icmp .ge 28, 3) := by decide +kernel
theorem dX2_firstFall_9 : decode cX2_firstFall 9 = .ok (.aload_n 0, 1) := by decide +kernel
theorem dX2_firstFall_10 : decode cX2_firstFall 10 = .ok (.getfield 15, 3) := by decide +kernel
theorem dX2_firstFall_13 : decode cX2_firstFall 13 = .ok (.iload_n 2, 1) := by decide +kernel
theorem dX2_firstFall_14 : decode cX2_firstFall 14 = .ok (.iaload, 1) := by decide +kernel
theorem dX2_firstFall_15 : decode cX2_firstFall 15 = .ok (.aload_n 0, 1) := by decide +kernel
theorem dX2_firstFall_16 : decode cX2_firstFall 16 = .ok (.getfield 15, 3) := by decide +kernel
theorem dX2_firstFall_19 : decode cX2_firstFall 19 = .ok (.iload_n 2, 1) := by decide +kernel
theorem dX2_firstFall_20 : decode cX2_firstFall 20 = .ok (.iconst 1, 1) := by decide +kernel
theorem dX2_firstFall_21 : decode cX2_firstFall 21 = .ok (.iadd, 1) := by decide +kernel
theorem dX2_firstFall_22 : decode cX2_firstFall 22 = .ok (.iaload, 1) := by decide +kernel
theorem dX2_firstFall_23 : decode cX2_firstFall 23 = .ok (.if_icmp .le 5, 3) := by decide +kernel
theorem dX2_firstFall_26 : decode cX2_firstFall 26 = .ok (.iload_n 2, 1) := by decide +kernel
theorem dX2_firstFall_27 : decode cX2_firstFall 27 = .ok (.ireturn, 1) := by decide +kernel
theorem dX2_firstFall_28 : decode cX2_firstFall 28 = .ok (.iinc 2 1, 3) := by decide +kernel
theorem dX2_firstFall_31 : decode cX2_firstFall 31 = .ok (.goto (-29), 3) := by decide +kernel
theorem dX2_firstFall_34 : decode cX2_firstFall 34 = .ok (.ldc 45, 2) := by decide +kernel
theorem dX2_firstFall_36 : decode cX2_firstFall 36 = .ok (.ireturn, 1) := by decide +kernel
theorem dX3_init_0 : decode cX3_init 0 = .ok (.aload_n 0, 1) := by decide +kernel
theorem dX3_init_1 : decode cX3_init 1 = .ok (.invokespecial 3, 3) := by decide +kernel
theorem dX3_init_4 : decode cX3_init 4 = .ok (.aload_n 0, 1) := by decide +kernel
theorem dX3_init_5 : decode cX3_init 5 = .ok (.bipush 7, 2) := by decide +kernel
theorem dX3_init_7 : decode cX3_init 7 = .ok (.newarray .int, 2) := by decide +kernel
theorem dX3_init_9 : decode cX3_init 9 = .ok (.putfield 9, 3) := by decide +kernel
theorem dX3_init_12 : decode cX3_init 12 = .ok (.aload_n 0, 1) := by decide +kernel
theorem dX3_init_13 : decode cX3_init 13 = .ok (.bipush 10, 2) := by decide +kernel
theorem dX3_init_15 : decode cX3_init 15 = .ok (.newarray .int, 2) := by decide +kernel
theorem dX3_init_17 : decode cX3_init 17 = .ok (.putfield 15, 3) := by decide +kernel
theorem dX3_init_20 : decode cX3_init 20 = .ok (.return_, 1) := by decide +kernel
set_option maxRecDepth 20000 in
theorem ggX3_howMany_X3_tally : GoodIn wsX3_howMany wsX3_tally := goodIn_r _ [6, 7, 1, 8, 9, 10, 11, 12, 22, 23, 24, 17, 18, 19, 20, 21] (by decide +kernel) (by decide +kernel)
set_option maxRecDepth 20000 in
theorem gX3_howMany_X3_tally : GoodIn wsX3_howMany (wsV RX3 18 RX3 yX3_tally wsX3_tally) := goodIn_app (goodIn_of _ (by decide +kernel)) ggX3_howMany_X3_tally
set_option maxRecDepth 20000 in
theorem ggX3_howMany_X3_ways : GoodIn wsX3_howMany wsX3_ways := goodIn_r _ [16, 7, 22, 23, 24] (by decide +kernel) (by decide +kernel)
set_option maxRecDepth 20000 in
theorem gX3_howMany_X3_ways : GoodIn wsX3_howMany (wsV RX3 28 RX3 yX3_ways wsX3_ways) := goodIn_app (goodIn_of _ (by decide +kernel)) ggX3_howMany_X3_ways
theorem dX3_howMany_0 : decode cX3_howMany 0 = .ok (.aload_n 0, 1) := by decide +kernel
theorem dX3_howMany_1 : decode cX3_howMany 1 = .ok (.aload_n 1, 1) := by decide +kernel
theorem dX3_howMany_2 : decode cX3_howMany 2 = .ok (.invokevirtual 18, 3) := by decide +kernel
theorem dX3_howMany_5 : decode cX3_howMany 5 = .ok (.aload_n 0, 1) := by decide +kernel
theorem dX3_howMany_6 : decode cX3_howMany 6 = .ok (.aload_n 1, 1) := by decide +kernel
theorem dX3_howMany_7 : decode cX3_howMany 7 = .ok (.getfield 22, 3) := by decide +kernel
theorem dX3_howMany_10 : decode cX3_howMany 10 = .ok (.invokevirtual 28, 3) := by decide +kernel
theorem dX3_howMany_13 : decode cX3_howMany 13 = .ok (.ireturn, 1) := by decide +kernel
set_option maxRecDepth 20000 in
theorem ggX3_placeOf_X3_tally : GoodIn wsX3_placeOf wsX3_tally := goodIn_r _ [8, 3, 1, 2, 9, 10, 11, 12, 22, 23, 24, 17, 18, 19, 20, 21] (by decide +kernel) (by decide +kernel)
set_option maxRecDepth 20000 in
theorem gX3_placeOf_X3_tally : GoodIn wsX3_placeOf (wsV RX3 18 RX3 yX3_tally wsX3_tally) := goodIn_app (goodIn_of _ (by decide +kernel)) ggX3_placeOf_X3_tally
set_option maxRecDepth 20000 in
theorem ggX3_placeOf_X3_ways : GoodIn wsX3_placeOf wsX3_ways := goodIn_r _ [16, 3, 22, 23, 24] (by decide +kernel) (by decide +kernel)
set_option maxRecDepth 20000 in
theorem gX3_placeOf_X3_ways : GoodIn wsX3_placeOf (wsV RX3 28 RX3 yX3_ways wsX3_ways) := goodIn_app (goodIn_of _ (by decide +kernel)) ggX3_placeOf_X3_ways
theorem dX3_placeOf_0 : decode cX3_placeOf 0 = .ok (.aload_n 0, 1) := by decide +kernel
theorem dX3_placeOf_1 : decode cX3_placeOf 1 = .ok (.aload_n 1, 1) := by decide +kernel
theorem dX3_placeOf_2 : decode cX3_placeOf 2 = .ok (.invokevirtual 18, 3) := by decide +kernel
theorem dX3_placeOf_5 : decode cX3_placeOf 5 = .ok (.iconst 0, 1) := by decide +kernel
theorem dX3_placeOf_6 : decode cX3_placeOf 6 = .ok (.istore_n 2, 1) := by decide +kernel
theorem dX3_placeOf_7 : decode cX3_placeOf 7 = .ok (.iconst 0, 1) := by decide +kernel
theorem dX3_placeOf_8 : decode cX3_placeOf 8 = .ok (.istore_n 3, 1) := by decide +kernel
theorem dX3_placeOf_9 : decode cX3_placeOf 9 = .ok (.iload_n 3, 1) := by decide +kernel
theorem dX3_placeOf_10 : decode cX3_placeOf 10 = .ok (.aload_n 1, 1) := by decide +kernel
theorem dX3_placeOf_11 : decode cX3_placeOf 11 = .ok (.getfield 22, 3) := by decide +kernel
theorem dX3_placeOf_14 : decode cX3_placeOf 14 = .ok (.if_icmp .ge 91, 3) := by decide +kernel
theorem dX3_placeOf_17 : decode cX3_placeOf 17 = .ok (.aload_n 1, 1) := by decide +kernel
theorem dX3_placeOf_18 : decode cX3_placeOf 18 = .ok (.getfield 32, 3) := by decide +kernel
theorem dX3_placeOf_21 : decode cX3_placeOf 21 = .ok (.iload_n 3, 1) := by decide +kernel
theorem dX3_placeOf_22 : decode cX3_placeOf 22 = .ok (.iaload, 1) := by decide +kernel
theorem dX3_placeOf_23 : decode cX3_placeOf 23 = .ok (.istore 4, 2) := by decide +kernel
theorem dX3_placeOf_25 : decode cX3_placeOf 25 = .ok (.iconst 0, 1) := by decide +kernel
theorem dX3_placeOf_26 : decode cX3_placeOf 26 = .ok (.istore 5, 2) := by decide +kernel
theorem dX3_placeOf_28 : decode cX3_placeOf 28 = .ok (.iload 5, 2) := by decide +kernel
theorem dX3_placeOf_30 : decode cX3_placeOf 30 = .ok (.iload 4, 2) := by decide +kernel
theorem dX3_placeOf_32 : decode cX3_placeOf 32 = .ok (.if_icmp .ge 56, 3) := by decide +kernel
theorem dX3_placeOf_35 : decode cX3_placeOf 35 = .ok (.aload_n 0, 1) := by decide +kernel
theorem dX3_placeOf_36 : decode cX3_placeOf 36 = .ok (.getfield 15, 3) := by decide +kernel
theorem dX3_placeOf_39 : decode cX3_placeOf 39 = .ok (.iload 5, 2) := by decide +kernel
theorem dX3_placeOf_41 : decode cX3_placeOf 41 = .ok (.iaload, 1) := by decide +kernel
theorem dX3_placeOf_42 : decode cX3_placeOf 42 = .ok (.ifCond .le 40, 3) := by decide +kernel
theorem dX3_placeOf_45 : decode cX3_placeOf 45 = .ok (.aload_n 0, 1) := by decide +kernel
theorem dX3_placeOf_46 : decode cX3_placeOf 46 = .ok (.getfield 15, 3) := by decide +kernel
theorem dX3_placeOf_49 : decode cX3_placeOf 49 = .ok (.iload 5, 2) := by decide +kernel
theorem dX3_placeOf_51 : decode cX3_placeOf 51 = .ok (.dup2, 1) := by decide +kernel
theorem dX3_placeOf_52 : decode cX3_placeOf 52 = .ok (.iaload, 1) := by decide +kernel
theorem dX3_placeOf_53 : decode cX3_placeOf 53 = .ok (.iconst 1, 1) := by decide +kernel
theorem dX3_placeOf_54 : decode cX3_placeOf 54 = .ok (.isub, 1) := by decide +kernel
theorem dX3_placeOf_55 : decode cX3_placeOf 55 = .ok (.iastore, 1) := by decide +kernel
theorem dX3_placeOf_56 : decode cX3_placeOf 56 = .ok (.iload_n 2, 1) := by decide +kernel
theorem dX3_placeOf_57 : decode cX3_placeOf 57 = .ok (.aload_n 0, 1) := by decide +kernel
theorem dX3_placeOf_58 : decode cX3_placeOf 58 = .ok (.aload_n 1, 1) := by decide +kernel
theorem dX3_placeOf_59 : decode cX3_placeOf 59 = .ok (.getfield 22, 3) := by decide +kernel
theorem dX3_placeOf_62 : decode cX3_placeOf 62 = .ok (.iconst 1, 1) := by decide +kernel
theorem dX3_placeOf_63 : decode cX3_placeOf 63 = .ok (.isub, 1) := by decide +kernel
theorem dX3_placeOf_64 : decode cX3_placeOf 64 = .ok (.iload_n 3, 1) := by decide +kernel
theorem dX3_placeOf_65 : decode cX3_placeOf 65 = .ok (.isub, 1) := by decide +kernel
theorem dX3_placeOf_66 : decode cX3_placeOf 66 = .ok (.invokevirtual 28, 3) := by decide +kernel
theorem dX3_placeOf_69 : decode cX3_placeOf 69 = .ok (.iadd, 1) := by decide +kernel
theorem dX3_placeOf_70 : decode cX3_placeOf 70 = .ok (.istore_n 2, 1) := by decide +kernel
theorem dX3_placeOf_71 : decode cX3_placeOf 71 = .ok (.aload_n 0, 1) := by decide +kernel
theorem dX3_placeOf_72 : decode cX3_placeOf 72 = .ok (.getfield 15, 3) := by decide +kernel
theorem dX3_placeOf_75 : decode cX3_placeOf 75 = .ok (.iload 5, 2) := by decide +kernel
theorem dX3_placeOf_77 : decode cX3_placeOf 77 = .ok (.dup2, 1) := by decide +kernel
theorem dX3_placeOf_78 : decode cX3_placeOf 78 = .ok (.iaload, 1) := by decide +kernel
theorem dX3_placeOf_79 : decode cX3_placeOf 79 = .ok (.iconst 1, 1) := by decide +kernel
theorem dX3_placeOf_80 : decode cX3_placeOf 80 = .ok (.iadd, 1) := by decide +kernel
theorem dX3_placeOf_81 : decode cX3_placeOf 81 = .ok (.iastore, 1) := by decide +kernel
theorem dX3_placeOf_82 : decode cX3_placeOf 82 = .ok (.iinc 5 1, 3) := by decide +kernel
theorem dX3_placeOf_85 : decode cX3_placeOf 85 = .ok (.goto (-57), 3) := by decide +kernel
theorem dX3_placeOf_88 : decode cX3_placeOf 88 = .ok (.aload_n 0, 1) := by decide +kernel
theorem dX3_placeOf_89 : decode cX3_placeOf 89 = .ok (.getfield 15, 3) := by decide +kernel
theorem dX3_placeOf_92 : decode cX3_placeOf 92 = .ok (.iload 4, 2) := by decide +kernel
theorem dX3_placeOf_94 : decode cX3_placeOf 94 = .ok (.dup2, 1) := by decide +kernel
theorem dX3_placeOf_95 : decode cX3_placeOf 95 = .ok (.iaload, 1) := by decide +kernel
theorem dX3_placeOf_96 : decode cX3_placeOf 96 = .ok (.iconst 1, 1) := by decide +kernel
theorem dX3_placeOf_97 : decode cX3_placeOf 97 = .ok (.isub, 1) := by decide +kernel
theorem dX3_placeOf_98 : decode cX3_placeOf 98 = .ok (.iastore, 1) := by decide +kernel
theorem dX3_placeOf_99 : decode cX3_placeOf 99 = .ok (.iinc 3 1, 3) := by decide +kernel
theorem dX3_placeOf_102 : decode cX3_placeOf 102 = .ok (.goto (-93), 3) := by decide +kernel
theorem dX3_placeOf_105 : decode cX3_placeOf 105 = .ok (.iload_n 2, 1) := by decide +kernel
theorem dX3_placeOf_106 : decode cX3_placeOf 106 = .ok (.ireturn, 1) := by decide +kernel
set_option maxRecDepth 20000 in
theorem ggX3_begin_X3_howMany : GoodIn wsX3_begin wsX3_howMany := goodIn_r _ [8, 9, 10, 11, 12, 7, 13, 2, 14, 15, 16, 17, 18, 19, 20, 21, 22, 26, 27, 28, 29, 30, 23, 24, 25] (by decide +kernel) (by decide +kernel)
set_option maxRecDepth 20000 in
theorem gX3_begin_X3_howMany : GoodIn wsX3_begin (wsV RX3 33 RX3 yX3_howMany wsX3_howMany) := goodIn_app (goodIn_of _ (by decide +kernel)) ggX3_begin_X3_howMany
theorem dX3_begin_0 : decode cX3_begin 0 = .ok (.aload_n 0, 1) := by decide +kernel
theorem dX3_begin_1 : decode cX3_begin 1 = .ok (.aload_n 1, 1) := by decide +kernel
theorem dX3_begin_2 : decode cX3_begin 2 = .ok (.invokevirtual 33, 3) := by decide +kernel
theorem dX3_begin_5 : decode cX3_begin 5 = .ok (.istore_n 2, 1) := by decide +kernel
theorem dX3_begin_6 : decode cX3_begin 6 = .ok (.aload_n 0, 1) := by decide +kernel
theorem dX3_begin_7 : decode cX3_begin 7 = .ok (.iconst 0, 1) := by decide +kernel
theorem dX3_begin_8 : decode cX3_begin 8 = .ok (.putfield 37, 3) := by decide +kernel
theorem dX3_begin_11 : decode cX3_begin 11 = .ok (.iconst 0, 1) := by decide +kernel
theorem dX3_begin_12 : decode cX3_begin 12 = .ok (.istore_n 3, 1) := by decide +kernel
theorem dX3_begin_13 : decode cX3_begin 13 = .ok (.iload_n 3, 1) := by decide +kernel
theorem dX3_begin_14 : decode cX3_begin 14 = .ok (.bipush 9, 2) := by decide +kernel
theorem dX3_begin_16 : decode cX3_begin 16 = .ok (.if_icmp .gt 58, 3) := by decide +kernel
theorem dX3_begin_19 : decode cX3_begin 19 = .ok (.iconst 0, 1) := by decide +kernel
theorem dX3_begin_20 : decode cX3_begin 20 = .ok (.istore 4, 2) := by decide +kernel
theorem dX3_begin_22 : decode cX3_begin 22 = .ok (.iload 4, 2) := by decide +kernel
theorem dX3_begin_24 : decode cX3_begin 24 = .ok (.aload_n 0, 1) := by decide +kernel
theorem dX3_begin_25 : decode cX3_begin 25 = .ok (.getfield 15, 3) := by decide +kernel
theorem dX3_begin_28 : decode cX3_begin 28 = .ok (.iload_n 3, 1) := by decide +kernel
theorem dX3_begin_29 : decode cX3_begin 29 = .ok (.iaload, 1) := by decide +kernel
theorem dX3_begin_30 : decode cX3_begin 30 = .ok (.if_icmp .ge 38, 3) := by decide +kernel
theorem dX3_begin_33 : decode cX3_begin 33 = .ok (.aload_n 0, 1) := by decide +kernel
theorem dX3_begin_34 : decode cX3_begin 34 = .ok (.getfield 37, 3) := by decide +kernel
theorem dX3_begin_37 : decode cX3_begin 37 = .ok (.bipush 7, 2) := by decide +kernel
theorem dX3_begin_39 : decode cX3_begin 39 = .ok (.if_icmp .ge 29, 3) := by decide +kernel
theorem dX3_begin_42 : decode cX3_begin 42 = .ok (.aload_n 0, 1) := by decide +kernel
theorem dX3_begin_43 : decode cX3_begin 43 = .ok (.getfield 9, 3) := by decide +kernel
theorem dX3_begin_46 : decode cX3_begin 46 = .ok (.aload_n 0, 1) := by decide +kernel
theorem dX3_begin_47 : decode cX3_begin 47 = .ok (.getfield 37, 3) := by decide +kernel
theorem dX3_begin_50 : decode cX3_begin 50 = .ok (.iload_n 3, 1) := by decide +kernel
theorem dX3_begin_51 : decode cX3_begin 51 = .ok (.iastore, 1) := by decide +kernel
theorem dX3_begin_52 : decode cX3_begin 52 = .ok (.aload_n 0, 1) := by decide +kernel
theorem dX3_begin_53 : decode cX3_begin 53 = .ok (.dup, 1) := by decide +kernel
theorem dX3_begin_54 : decode cX3_begin 54 = .ok (.getfield 37, 3) := by decide +kernel
theorem dX3_begin_57 : decode cX3_begin 57 = .ok (.iconst 1, 1) := by decide +kernel
theorem dX3_begin_58 : decode cX3_begin 58 = .ok (.iadd, 1) := by decide +kernel
theorem dX3_begin_59 : decode cX3_begin 59 = .ok (.putfield 37, 3) := by decide +kernel
theorem dX3_begin_62 : decode cX3_begin 62 = .ok (.iinc 4 1, 3) := by decide +kernel
theorem dX3_begin_65 : decode cX3_begin 65 = .ok (.goto (-43), 3) := by decide +kernel
theorem dX3_begin_68 : decode cX3_begin 68 = .ok (.iinc 3 1, 3) := by decide +kernel
theorem dX3_begin_71 : decode cX3_begin 71 = .ok (.goto (-58), 3) := by decide +kernel
theorem dX3_begin_74 : decode cX3_begin 74 = .ok (.iload_n 2, 1) := by decide +kernel
theorem dX3_begin_75 : decode cX3_begin 75 = .ok (.ireturn, 1) := by decide +kernel
set_option maxRecDepth 20000 in
theorem ggX3_next_X3_exchange : GoodIn wsX3_next wsX3_exchange := goodIn_r _ [7, 2, 8, 9, 10] (by decide +kernel) (by decide +kernel)
set_option maxRecDepth 20000 in
theorem gX3_next_X3_exchange : GoodIn wsX3_next (wsV RX3 38 RX3 yX3_exchange wsX3_exchange) := goodIn_app (goodIn_of _ (by decide +kernel)) ggX3_next_X3_exchange
theorem dX3_next_0 : decode cX3_next 0 = .ok (.aload_n 0, 1) := by decide +kernel
theorem dX3_next_1 : decode cX3_next 1 = .ok (.getfield 37, 3) := by decide +kernel
theorem dX3_next_4 : decode cX3_next 4 = .ok (.iconst 2, 1) := by decide +kernel
theorem dX3_next_5 : decode cX3_next 5 = .ok (.isub, 1) := by decide +kernel
theorem dX3_next_6 : decode cX3_next 6 = .ok (.istore_n 1, 1) := by decide +kernel
theorem dX3_next_7 : decode cX3_next 7 = .ok (.iload_n 1, 1) := by decide +kernel
theorem dX3_next_8 : decode cX3_next 8 = .ok (.ifCond .lt 26, 3) := by decide +kernel
theorem dX3_next_11 : decode cX3_next 11 = .ok (.aload_n 0, 1) := by decide +kernel
theorem dX3_next_12 : decode cX3_next 12 = .ok (.getfield 9, 3) := by decide +kernel
theorem dX3_next_15 : decode cX3_next 15 = .ok (.iload_n 1, 1) := by decide +kernel
theorem dX3_next_16 : decode cX3_next 16 = .ok (.iaload, 1) := by decide +kernel
theorem dX3_next_17 : decode cX3_next 17 = .ok (.aload_n 0, 1) := by decide +kernel
theorem dX3_next_18 : decode cX3_next 18 = .ok (.getfield 9, 3) := by decide +kernel
theorem dX3_next_21 : decode cX3_next 21 = .ok (.iload_n 1, 1) := by decide +kernel
theorem dX3_next_22 : decode cX3_next 22 = .ok (.iconst 1, 1) := by decide +kernel
theorem dX3_next_23 : decode cX3_next 23 = .ok (.iadd, 1) := by decide +kernel
theorem dX3_next_24 : decode cX3_next 24 = .ok (.iaload, 1) := by decide +kernel
theorem dX3_next_25 : decode cX3_next 25 = .ok (.if_icmp .lt 9, 3) := by decide +kernel
theorem dX3_next_28 : decode cX3_next 28 = .ok (.iinc 1 (-1), 3) := by decide +kernel
theorem dX3_next_31 : decode cX3_next 31 = .ok (.goto (-24), 3) := by decide +kernel
theorem dX3_next_34 : decode cX3_next 34 = .ok (.iload_n 1, 1) := by decide +kernel
theorem dX3_next_35 : decode cX3_next 35 = .ok (.ifCond .ge 4, 3) := by decide +kernel
theorem dX3_next_38 : decode cX3_next 38 = .ok (.return_, 1) := by decide +kernel
theorem dX3_next_39 : decode cX3_next 39 = .ok (.aload_n 0, 1) := by decide +kernel
theorem dX3_next_40 : decode cX3_next 40 = .ok (.getfield 37, 3) := by decide +kernel
theorem dX3_next_43 : decode cX3_next 43 = .ok (.iconst 1, 1) := by decide +kernel
theorem dX3_next_44 : decode cX3_next 44 = .ok (.isub, 1) := by decide +kernel
theorem dX3_next_45 : decode cX3_next 45 = .ok (.istore_n 2, 1) := by decide +kernel
theorem dX3_next_46 : decode cX3_next 46 = .ok (.iload_n 2, 1) := by decide +kernel
theorem dX3_next_47 : decode cX3_next 47 = .ok (.iload_n 1, 1) := by decide +kernel
theorem dX3_next_48 : decode cX3_next 48 = .ok (.if_icmp .le 24, 3) := by decide +kernel
theorem dX3_next_51 : decode cX3_next 51 = .ok (.aload_n 0, 1) := by decide +kernel
theorem dX3_next_52 : decode cX3_next 52 = .ok (.getfield 9, 3) := by decide +kernel
theorem dX3_next_55 : decode cX3_next 55 = .ok (.iload_n 2, 1) := by decide +kernel
theorem dX3_next_56 : decode cX3_next 56 = .ok (.iaload, 1) := by decide +kernel
theorem dX3_next_57 : decode cX3_next 57 = .ok (.aload_n 0, 1) := by decide +kernel
theorem dX3_next_58 : decode cX3_next 58 = .ok (.getfield 9, 3) := by decide +kernel
theorem dX3_next_61 : decode cX3_next 61 = .ok (.iload_n 1, 1) := by decide +kernel
theorem dX3_next_62 : decode cX3_next 62 = .ok (.iaload, 1) := by decide +kernel
theorem dX3_next_63 : decode cX3_next 63 = .ok (.if_icmp .gt 9, 3) := by decide +kernel
theorem dX3_next_66 : decode cX3_next 66 = .ok (.iinc 2 (-1), 3) := by decide +kernel
theorem dX3_next_69 : decode cX3_next 69 = .ok (.goto (-23), 3) := by decide +kernel
theorem dX3_next_72 : decode cX3_next 72 = .ok (.aload_n 0, 1) := by decide +kernel
theorem dX3_next_73 : decode cX3_next 73 = .ok (.iload_n 1, 1) := by decide +kernel
theorem dX3_next_74 : decode cX3_next 74 = .ok (.iload_n 2, 1) := by decide +kernel
theorem dX3_next_75 : decode cX3_next 75 = .ok (.invokevirtual 38, 3) := by decide +kernel
theorem dX3_next_78 : decode cX3_next 78 = .ok (.iload_n 1, 1) := by decide +kernel
theorem dX3_next_79 : decode cX3_next 79 = .ok (.iconst 1, 1) := by decide +kernel
theorem dX3_next_80 : decode cX3_next 80 = .ok (.iadd, 1) := by decide +kernel
theorem dX3_next_81 : decode cX3_next 81 = .ok (.istore_n 3, 1) := by decide +kernel
theorem dX3_next_82 : decode cX3_next 82 = .ok (.aload_n 0, 1) := by decide +kernel
theorem dX3_next_83 : decode cX3_next 83 = .ok (.getfield 37, 3) := by decide +kernel
theorem dX3_next_86 : decode cX3_next 86 = .ok (.iconst 1, 1) := by decide +kernel
theorem dX3_next_87 : decode cX3_next 87 = .ok (.isub, 1) := by decide +kernel
theorem dX3_next_88 : decode cX3_next 88 = .ok (.istore 4, 2) := by decide +kernel
theorem dX3_next_90 : decode cX3_next 90 = .ok (.iload_n 3, 1) := by decide +kernel
theorem dX3_next_91 : decode cX3_next 91 = .ok (.iload 4, 2) := by decide +kernel
theorem dX3_next_93 : decode cX3_next 93 = .ok (.if_icmp .ge 19, 3) := by decide +kernel
theorem dX3_next_96 : decode cX3_next 96 = .ok (.aload_n 0, 1) := by decide +kernel
theorem dX3_next_97 : decode cX3_next 97 = .ok (.iload_n 3, 1) := by decide +kernel
theorem dX3_next_98 : decode cX3_next 98 = .ok (.iload 4, 2) := by decide +kernel
theorem dX3_next_100 : decode cX3_next 100 = .ok (.invokevirtual 38, 3) := by decide +kernel
theorem dX3_next_103 : decode cX3_next 103 = .ok (.iinc 3 1, 3) := by decide +kernel
theorem dX3_next_106 : decode cX3_next 106 = .ok (.iinc 4 (-1), 3) := by decide +kernel
theorem dX3_next_109 : decode cX3_next 109 = .ok (.goto (-19), 3) := by decide +kernel
theorem dX3_next_112 : decode cX3_next 112 = .ok (.return_, 1) := by decide +kernel
theorem dX3_exchange_0 : decode cX3_exchange 0 = .ok (.aload_n 0, 1) := by decide +kernel
theorem dX3_exchange_1 : decode cX3_exchange 1 = .ok (.getfield 9, 3) := by decide +kernel
theorem dX3_exchange_4 : decode cX3_exchange 4 = .ok (.iload_n 1, 1) := by decide +kernel
theorem dX3_exchange_5 : decode cX3_exchange 5 = .ok (.iaload, 1) := by decide +kernel
theorem dX3_exchange_6 : decode cX3_exchange 6 = .ok (.istore_n 3, 1) := by decide +kernel
theorem dX3_exchange_7 : decode cX3_exchange 7 = .ok (.aload_n 0, 1) := by decide +kernel
theorem dX3_exchange_8 : decode cX3_exchange 8 = .ok (.getfield 9, 3) := by decide +kernel
theorem dX3_exchange_11 : decode cX3_exchange 11 = .ok (.iload_n 1, 1) := by decide +kernel
theorem dX3_exchange_12 : decode cX3_exchange 12 = .ok (.aload_n 0, 1) := by decide +kernel
theorem dX3_exchange_13 : decode cX3_exchange 13 = .ok (.getfield 9, 3) := by decide +kernel
theorem dX3_exchange_16 : decode cX3_exchange 16 = .ok (.iload_n 2, 1) := by decide +kernel
theorem dX3_exchange_17 : decode cX3_exchange 17 = .ok (.iaload, 1) := by decide +kernel
theorem dX3_exchange_18 : decode cX3_exchange 18 = .ok (.iastore, 1) := by decide +kernel
theorem dX3_exchange_19 : decode cX3_exchange 19 = .ok (.aload_n 0, 1) := by decide +kernel
theorem dX3_exchange_20 : decode cX3_exchange 20 = .ok (.getfield 9, 3) := by decide +kernel
theorem dX3_exchange_23 : decode cX3_exchange 23 = .ok (.iload_n 2, 1) := by decide +kernel
theorem dX3_exchange_24 : decode cX3_exchange 24 = .ok (.iload_n 3, 1) := by decide +kernel
theorem dX3_exchange_25 : decode cX3_exchange 25 = .ok (.iastore, 1) := by decide +kernel
theorem dX3_exchange_26 : decode cX3_exchange 26 = .ok (.return_, 1) := by decide +kernel
set_option maxRecDepth 20000 in
theorem ggX3_tally_J7_fill_53178 : GoodIn wsX3_tally wsJ7_fill_53178 := goodIn_r _ [7] (by decide +kernel) (by decide +kernel)
set_option maxRecDepth 20000 in
theorem gX3_tally_J7_fill_53178 : GoodIn wsX3_tally (va_wsS RX3 42 yJ7_fill_53178 wsJ7_fill_53178) := goodIn_app (goodIn_of _ (by decide +kernel)) ggX3_tally_J7_fill_53178
theorem dX3_tally_0 : decode cX3_tally 0 = .ok (.aload_n 0, 1) := by decide +kernel
theorem dX3_tally_1 : decode cX3_tally 1 = .ok (.getfield 15, 3) := by decide +kernel
theorem dX3_tally_4 : decode cX3_tally 4 = .ok (.iconst 0, 1) := by decide +kernel
theorem dX3_tally_5 : decode cX3_tally 5 = .ok (.invokestatic 42, 3) := by decide +kernel
theorem dX3_tally_8 : decode cX3_tally 8 = .ok (.iconst 0, 1) := by decide +kernel
theorem dX3_tally_9 : decode cX3_tally 9 = .ok (.istore_n 2, 1) := by decide +kernel
theorem dX3_tally_10 : decode cX3_tally 10 = .ok (.iload_n 2, 1) := by decide +kernel
theorem dX3_tally_11 : decode cX3_tally 11 = .ok (.aload_n 1, 1) := by decide +kernel
theorem dX3_tally_12 : decode cX3_tally 12 = .ok (.getfield 22, 3) := by decide +kernel
theorem dX3_tally_15 : decode cX3_tally 15 = .ok (.if_icmp .ge 24, 3) := by decide +kernel
theorem dX3_tally_18 : decode cX3_tally 18 = .ok (.aload_n 0, 1) := by decide +kernel
theorem dX3_tally_19 : decode cX3_tally 19 = .ok (.getfield 15, 3) := by decide +kernel
theorem dX3_tally_22 : decode cX3_tally 22 = .ok (.aload_n 1, 1) := by decide +kernel
theorem dX3_tally_23 : decode cX3_tally 23 = .ok (.getfield 32, 3) := by decide +kernel
theorem dX3_tally_26 : decode cX3_tally 26 = .ok (.iload_n 2, 1) := by decide +kernel
theorem dX3_tally_27 : decode cX3_tally 27 = .ok (.iaload, 1) := by decide +kernel
theorem dX3_tally_28 : decode cX3_tally 28 = .ok (.dup2, 1) := by decide +kernel
theorem dX3_tally_29 : decode cX3_tally 29 = .ok (.iaload, 1) := by decide +kernel
theorem dX3_tally_30 : decode cX3_tally 30 = .ok (.iconst 1, 1) := by decide +kernel
theorem dX3_tally_31 : decode cX3_tally 31 = .ok (.iadd, 1) := by decide +kernel
theorem dX3_tally_32 : decode cX3_tally 32 = .ok (.iastore, 1) := by decide +kernel
theorem dX3_tally_33 : decode cX3_tally 33 = .ok (.iinc 2 1, 3) := by decide +kernel
theorem dX3_tally_36 : decode cX3_tally 36 = .ok (.goto (-26), 3) := by decide +kernel
theorem dX3_tally_39 : decode cX3_tally 39 = .ok (.return_, 1) := by decide +kernel
theorem dX3_ways_0 : decode cX3_ways 0 = .ok (.iconst 1, 1) := by decide +kernel
theorem dX3_ways_1 : decode cX3_ways 1 = .ok (.istore_n 2, 1) := by decide +kernel
theorem dX3_ways_2 : decode cX3_ways 2 = .ok (.aload_n 0, 1) := by decide +kernel
theorem dX3_ways_3 : decode cX3_ways 3 = .ok (.getfield 15, 3) := by decide +kernel
theorem dX3_ways_6 : decode cX3_ways 6 = .ok (.iconst 0, 1) := by decide +kernel
theorem dX3_ways_7 : decode cX3_ways 7 = .ok (.iaload, 1) := by decide +kernel
theorem dX3_ways_8 : decode cX3_ways 8 = .ok (.iconst 1, 1) := by decide +kernel
theorem dX3_ways_9 : decode cX3_ways 9 = .ok (.iadd, 1) := by decide +kernel
theorem dX3_ways_10 : decode cX3_ways 10 = .ok (.istore_n 3, 1) := by decide +kernel
theorem dX3_ways_11 : decode cX3_ways 11 = .ok (.iload_n 3, 1) := by decide +kernel
theorem dX3_ways_12 : decode cX3_ways 12 = .ok (.iload_n 1, 1) := by decide +kernel
theorem dX3_ways_13 : decode cX3_ways 13 = .ok (.if_icmp .gt 13, 3) := by decide +kernel
theorem dX3_ways_16 : decode cX3_ways 16 = .ok (.iload_n 2, 1) := by decide +kernel
theorem dX3_ways_17 : decode cX3_ways 17 = .ok (.iload_n 3, 1) := by decide +kernel
theorem dX3_ways_18 : decode cX3_ways 18 = .ok (.imul, 1) := by decide +kernel
theorem dX3_ways_19 : decode cX3_ways 19 = .ok (.istore_n 2, 1) := by decide +kernel
theorem dX3_ways_20 : decode cX3_ways 20 = .ok (.iinc 3 1, 3) := by decide +kernel
theorem dX3_ways_23 : decode cX3_ways 23 = .ok (.goto (-12), 3) := by decide +kernel
theorem dX3_ways_26 : decode cX3_ways 26 = .ok (.iload_n 2, 1) := by decide +kernel
theorem dX3_ways_27 : decode cX3_ways 27 = .ok (.ireturn, 1) := by decide +kernel
theorem dX4_init_0 : decode cX4_init 0 = .ok (.aload_n 0, 1) := by decide +kernel
theorem dX4_init_1 : decode cX4_init 1 = .ok (.invokespecial 3, 3) := by decide +kernel
theorem dX4_init_4 : decode cX4_init 4 = .ok (.aload_n 0, 1) := by decide +kernel
theorem dX4_init_5 : decode cX4_init 5 = .ok (.bipush 7, 2) := by decide +kernel
theorem dX4_init_7 : decode cX4_init 7 = .ok (.newarray .int, 2) := by decide +kernel
theorem dX4_init_9 : decode cX4_init 9 = .ok (.putfield 9, 3) := by decide +kernel
theorem dX4_init_12 : decode cX4_init 12 = .ok (.aload_n 0, 1) := by decide +kernel
theorem dX4_init_13 : decode cX4_init 13 = .ok (.bipush 7, 2) := by decide +kernel
theorem dX4_init_15 : decode cX4_init 15 = .ok (.newarray .int, 2) := by decide +kernel
theorem dX4_init_17 : decode cX4_init 17 = .ok (.putfield 15, 3) := by decide +kernel
theorem dX4_init_20 : decode cX4_init 20 = .ok (.return_, 1) := by decide +kernel
theorem dX4_become_0 : decode cX4_become 0 = .ok (.aload_n 1, 1) := by decide +kernel
theorem dX4_become_1 : decode cX4_become 1 = .ok (.getfield 9, 3) := by decide +kernel
theorem dX4_become_4 : decode cX4_become 4 = .ok (.iconst 0, 1) := by decide +kernel
theorem dX4_become_5 : decode cX4_become 5 = .ok (.aload_n 0, 1) := by decide +kernel
theorem dX4_become_6 : decode cX4_become 6 = .ok (.getfield 9, 3) := by decide +kernel
theorem dX4_become_9 : decode cX4_become 9 = .ok (.iconst 0, 1) := by decide +kernel
theorem dX4_become_10 : decode cX4_become 10 = .ok (.bipush 7, 2) := by decide +kernel
theorem dX4_become_12 : decode cX4_become 12 = .ok (.invokestatic 18, 3) := by decide +kernel
theorem dX4_become_15 : decode cX4_become 15 = .ok (.aload_n 1, 1) := by decide +kernel
theorem dX4_become_16 : decode cX4_become 16 = .ok (.getfield 15, 3) := by decide +kernel
theorem dX4_become_19 : decode cX4_become 19 = .ok (.iconst 0, 1) := by decide +kernel
theorem dX4_become_20 : decode cX4_become 20 = .ok (.aload_n 0, 1) := by decide +kernel
theorem dX4_become_21 : decode cX4_become 21 = .ok (.getfield 15, 3) := by decide +kernel
theorem dX4_become_24 : decode cX4_become 24 = .ok (.iconst 0, 1) := by decide +kernel
theorem dX4_become_25 : decode cX4_become 25 = .ok (.bipush 7, 2) := by decide +kernel
theorem dX4_become_27 : decode cX4_become 27 = .ok (.invokestatic 18, 3) := by decide +kernel
theorem dX4_become_30 : decode cX4_become 30 = .ok (.aload_n 0, 1) := by decide +kernel
theorem dX4_become_31 : decode cX4_become 31 = .ok (.aload_n 1, 1) := by decide +kernel
theorem dX4_become_32 : decode cX4_become 32 = .ok (.getfield 24, 3) := by decide +kernel
theorem dX4_become_35 : decode cX4_become 35 = .ok (.putfield 24, 3) := by decide +kernel
theorem dX4_become_38 : decode cX4_become 38 = .ok (.aload_n 0, 1) := by decide +kernel
theorem dX4_become_39 : decode cX4_become 39 = .ok (.aload_n 1, 1) := by decide +kernel
theorem dX4_become_40 : decode cX4_become 40 = .ok (.getfield 28, 3) := by decide +kernel
theorem dX4_become_43 : decode cX4_become 43 = .ok (.putfield 28, 3) := by decide +kernel
theorem dX4_become_46 : decode cX4_become 46 = .ok (.aload_n 0, 1) := by decide +kernel
theorem dX4_become_47 : decode cX4_become 47 = .ok (.aload_n 1, 1) := by decide +kernel
theorem dX4_become_48 : decode cX4_become 48 = .ok (.getfield 31, 3) := by decide +kernel
theorem dX4_become_51 : decode cX4_become 51 = .ok (.putfield 31, 3) := by decide +kernel
theorem dX4_become_54 : decode cX4_become 54 = .ok (.return_, 1) := by decide +kernel
theorem dX4_isSaint_0 : decode cX4_isSaint 0 = .ok (.iload_n 1, 1) := by decide +kernel
theorem dX4_isSaint_1 : decode cX4_isSaint 1 = .ok (.ifCond .lt 15, 3) := by decide +kernel
theorem dX4_isSaint_4 : decode cX4_isSaint 4 = .ok (.iload_n 1, 1) := by decide +kernel
theorem dX4_isSaint_5 : decode cX4_isSaint 5 = .ok (.aload_n 0, 1) := by decide +kernel
theorem dX4_isSaint_6 : decode cX4_isSaint 6 = .ok (.getfield 24, 3) := by decide +kernel
theorem dX4_isSaint_9 : decode cX4_isSaint 9 = .ok (.if_icmp .ge 7, 3) := by decide +kernel
theorem dX4_isSaint_12 : decode cX4_isSaint 12 = .ok (.iconst 1, 1) := by decide +kernel
theorem dX4_isSaint_13 : decode cX4_isSaint 13 = .ok (.goto 4, 3) := by decide +kernel
theorem dX4_isSaint_16 : decode cX4_isSaint 16 = .ok (.iconst 0, 1) := by decide +kernel
theorem dX4_isSaint_17 : decode cX4_isSaint 17 = .ok (.ireturn, 1) := by decide +kernel
theorem dX4_after_0 : decode cX4_after 0 = .ok (.iload_n 1, 1) := by decide +kernel
theorem dX4_after_1 : decode cX4_after 1 = .ok (.iconst 1, 1) := by decide +kernel
theorem dX4_after_2 : decode cX4_after 2 = .ok (.iadd, 1) := by decide +kernel
theorem dX4_after_3 : decode cX4_after 3 = .ok (.aload_n 0, 1) := by decide +kernel
theorem dX4_after_4 : decode cX4_after 4 = .ok (.getfield 24, 3) := by decide +kernel
theorem dX4_after_7 : decode cX4_after 7 = .ok (.if_icmp .ge 9, 3) := by decide +kernel
theorem dX4_after_10 : decode cX4_after 10 = .ok (.iload_n 1, 1) := by decide +kernel
theorem dX4_after_11 : decode cX4_after 11 = .ok (.iconst 1, 1) := by decide +kernel
theorem dX4_after_12 : decode cX4_after 12 = .ok (.iadd, 1) := by decide +kernel
theorem dX4_after_13 : decode cX4_after 13 = .ok (.goto 4, 3) := by decide +kernel
theorem dX4_after_16 : decode cX4_after 16 = .ok (.iconst 0, 1) := by decide +kernel
theorem dX4_after_17 : decode cX4_after 17 = .ok (.ireturn, 1) := by decide +kernel
theorem dX4_before_0 : decode cX4_before 0 = .ok (.iload_n 1, 1) := by decide +kernel
theorem dX4_before_1 : decode cX4_before 1 = .ok (.ifCond .le 9, 3) := by decide +kernel
theorem dX4_before_4 : decode cX4_before 4 = .ok (.iload_n 1, 1) := by decide +kernel
theorem dX4_before_5 : decode cX4_before 5 = .ok (.iconst 1, 1) := by decide +kernel
theorem dX4_before_6 : decode cX4_before 6 = .ok (.isub, 1) := by decide +kernel
theorem dX4_before_7 : decode cX4_before 7 = .ok (.goto 9, 3) := by decide +kernel
theorem dX4_before_10 : decode cX4_before 10 = .ok (.aload_n 0, 1) := by decide +kernel
theorem dX4_before_11 : decode cX4_before 11 = .ok (.getfield 24, 3) := by decide +kernel
theorem dX4_before_14 : decode cX4_before 14 = .ok (.iconst 1, 1) := by decide +kernel
theorem dX4_before_15 : decode cX4_before 15 = .ok (.isub, 1) := by decide +kernel
theorem dX4_before_16 : decode cX4_before 16 = .ok (.ireturn, 1) := by decide +kernel
theorem dX4_lets_0 : decode cX4_lets 0 = .ok (.aload_n 0, 1) := by decide +kernel
theorem dX4_lets_1 : decode cX4_lets 1 = .ok (.getfield 15, 3) := by decide +kernel
theorem dX4_lets_4 : decode cX4_lets 4 = .ok (.iload_n 1, 1) := by decide +kernel
theorem dX4_lets_5 : decode cX4_lets 5 = .ok (.iaload, 1) := by decide +kernel
theorem dX4_lets_6 : decode cX4_lets 6 = .ok (.ifCond .eq 23, 3) := by decide +kernel
theorem dX4_lets_9 : decode cX4_lets 9 = .ok (.aload_n 0, 1) := by decide +kernel
theorem dX4_lets_10 : decode cX4_lets 10 = .ok (.getfield 9, 3) := by decide +kernel
theorem dX4_lets_13 : decode cX4_lets 13 = .ok (.iload_n 1, 1) := by decide +kernel
theorem dX4_lets_14 : decode cX4_lets 14 = .ok (.iaload, 1) := by decide +kernel
theorem dX4_lets_15 : decode cX4_lets 15 = .ok (.iconst 4, 1) := by decide +kernel
theorem dX4_lets_16 : decode cX4_lets 16 = .ok (.if_icmp .eq 17, 3) := by decide +kernel
theorem dX4_lets_19 : decode cX4_lets 19 = .ok (.aload_n 0, 1) := by decide +kernel
theorem dX4_lets_20 : decode cX4_lets 20 = .ok (.getfield 9, 3) := by decide +kernel
theorem dX4_lets_23 : decode cX4_lets 23 = .ok (.iload_n 1, 1) := by decide +kernel
theorem dX4_lets_24 : decode cX4_lets 24 = .ok (.iaload, 1) := by decide +kernel
theorem dX4_lets_25 : decode cX4_lets 25 = .ok (.iconst 5, 1) := by decide +kernel
theorem dX4_lets_26 : decode cX4_lets 26 = .ok (.if_icmp .eq 7, 3) := by decide +kernel
theorem dX4_lets_29 : decode cX4_lets 29 = .ok (.iconst 1, 1) := by decide +kernel
theorem dX4_lets_30 : decode cX4_lets 30 = .ok (.goto 4, 3) := by decide +kernel
theorem dX4_lets_33 : decode cX4_lets 33 = .ok (.iconst 0, 1) := by decide +kernel
theorem dX4_lets_34 : decode cX4_lets 34 = .ok (.ireturn, 1) := by decide +kernel
theorem dX4_exchange_0 : decode cX4_exchange 0 = .ok (.aload_n 0, 1) := by decide +kernel
theorem dX4_exchange_1 : decode cX4_exchange 1 = .ok (.getfield 15, 3) := by decide +kernel
theorem dX4_exchange_4 : decode cX4_exchange 4 = .ok (.iload_n 1, 1) := by decide +kernel
theorem dX4_exchange_5 : decode cX4_exchange 5 = .ok (.iaload, 1) := by decide +kernel
theorem dX4_exchange_6 : decode cX4_exchange 6 = .ok (.istore_n 3, 1) := by decide +kernel
theorem dX4_exchange_7 : decode cX4_exchange 7 = .ok (.aload_n 0, 1) := by decide +kernel
theorem dX4_exchange_8 : decode cX4_exchange 8 = .ok (.getfield 15, 3) := by decide +kernel
theorem dX4_exchange_11 : decode cX4_exchange 11 = .ok (.iload_n 1, 1) := by decide +kernel
theorem dX4_exchange_12 : decode cX4_exchange 12 = .ok (.aload_n 0, 1) := by decide +kernel
theorem dX4_exchange_13 : decode cX4_exchange 13 = .ok (.getfield 15, 3) := by decide +kernel
theorem dX4_exchange_16 : decode cX4_exchange 16 = .ok (.iload_n 2, 1) := by decide +kernel
theorem dX4_exchange_17 : decode cX4_exchange 17 = .ok (.iaload, 1) := by decide +kernel
theorem dX4_exchange_18 : decode cX4_exchange 18 = .ok (.iastore, 1) := by decide +kernel
theorem dX4_exchange_19 : decode cX4_exchange 19 = .ok (.aload_n 0, 1) := by decide +kernel
theorem dX4_exchange_20 : decode cX4_exchange 20 = .ok (.getfield 15, 3) := by decide +kernel
theorem dX4_exchange_23 : decode cX4_exchange 23 = .ok (.iload_n 2, 1) := by decide +kernel
theorem dX4_exchange_24 : decode cX4_exchange 24 = .ok (.iload_n 3, 1) := by decide +kernel
theorem dX4_exchange_25 : decode cX4_exchange 25 = .ok (.iastore, 1) := by decide +kernel
theorem dX4_exchange_26 : decode cX4_exchange 26 = .ok (.return_, 1) := by decide +kernel
set_option maxRecDepth 20000 in
theorem ggX4_advance_X4_turn : GoodIn wsX4_advance wsX4_turn := goodIn_r _ [7, 8, 9, 2, 10, 11, 12, 6, 13, 1, 14, 15, 16, 17, 18, 19, 20, 21, 22, 23, 24, 25, 26, 27, 28, 29, 43, 44, 45, 46, 47] (by decide +kernel) (by decide +kernel)
set_option maxRecDepth 20000 in
theorem gX4_advance_X4_turn : GoodIn wsX4_advance (wsV RX4 34 RX4 yX4_turn wsX4_turn) := goodIn_app (goodIn_of _ (by decide +kernel)) ggX4_advance_X4_turn
set_option maxRecDepth 20000 in
theorem ggX4_advance_X4_isMatins : GoodIn wsX4_advance wsX4_isMatins := goodIn_r _ [33, 34, 2, 43, 44, 45, 46, 47] (by decide +kernel) (by decide +kernel)
set_option maxRecDepth 20000 in
theorem gX4_advance_X4_isMatins : GoodIn wsX4_advance (wsV RX4 38 RX4 yX4_isMatins wsX4_isMatins) := goodIn_app (goodIn_of _ (by decide +kernel)) ggX4_advance_X4_isMatins
set_option maxRecDepth 20000 in
theorem ggX4_advance_X4_singMatins : GoodIn wsX4_advance wsX4_singMatins := goodIn_r _ [38, 1, 9, 8, 39, 40, 41, 6, 42, 22, 23, 24, 25, 43, 44, 45, 46, 47] (by decide +kernel) (by decide +kernel)
set_option maxRecDepth 20000 in
theorem gX4_advance_X4_singMatins : GoodIn wsX4_advance (wsV RX4 42 RX4 yX4_singMatins wsX4_singMatins) := goodIn_app (goodIn_of _ (by decide +kernel)) ggX4_advance_X4_singMatins
theorem dX4_advance_0 : decode cX4_advance 0 = .ok (.iconst 0, 1) := by decide +kernel
theorem dX4_advance_1 : decode cX4_advance 1 = .ok (.istore_n 2, 1) := by decide +kernel
theorem dX4_advance_2 : decode cX4_advance 2 = .ok (.iload_n 2, 1) := by decide +kernel
theorem dX4_advance_3 : decode cX4_advance 3 = .ok (.aload_n 0, 1) := by decide +kernel
theorem dX4_advance_4 : decode cX4_advance 4 = .ok (.getfield 24, 3) := by decide +kernel
theorem dX4_advance_7 : decode cX4_advance 7 = .ok (.if_icmp .ge 22, 3) := by decide +kernel
theorem dX4_advance_10 : decode cX4_advance 10 = .ok (.iload_n 1, 1) := by decide +kernel
theorem dX4_advance_11 : decode cX4_advance 11 = .ok (.iload_n 2, 1) := by decide +kernel
theorem dX4_advance_12 : decode cX4_advance 12 = .ok (.ishr, 1) := by decide +kernel
theorem dX4_advance_13 : decode cX4_advance 13 = .ok (.iconst 1, 1) := by decide +kernel
theorem dX4_advance_14 : decode cX4_advance 14 = .ok (.iand, 1) := by decide +kernel
theorem dX4_advance_15 : decode cX4_advance 15 = .ok (.ifCond .ne 8, 3) := by decide +kernel
theorem dX4_advance_18 : decode cX4_advance 18 = .ok (.aload_n 0, 1) := by decide +kernel
theorem dX4_advance_19 : decode cX4_advance 19 = .ok (.iload_n 2, 1) := by decide +kernel
theorem dX4_advance_20 : decode cX4_advance 20 = .ok (.invokevirtual 34, 3) := by decide +kernel
theorem dX4_advance_23 : decode cX4_advance 23 = .ok (.iinc 2 1, 3) := by decide +kernel
theorem dX4_advance_26 : decode cX4_advance 26 = .ok (.goto (-24), 3) := by decide +kernel
theorem dX4_advance_29 : decode cX4_advance 29 = .ok (.aload_n 0, 1) := by decide +kernel
theorem dX4_advance_30 : decode cX4_advance 30 = .ok (.dup, 1) := by decide +kernel
theorem dX4_advance_31 : decode cX4_advance 31 = .ok (.getfield 28, 3) := by decide +kernel
theorem dX4_advance_34 : decode cX4_advance 34 = .ok (.iconst 1, 1) := by decide +kernel
theorem dX4_advance_35 : decode cX4_advance 35 = .ok (.iadd, 1) := by decide +kernel
theorem dX4_advance_36 : decode cX4_advance 36 = .ok (.putfield 28, 3) := by decide +kernel
theorem dX4_advance_39 : decode cX4_advance 39 = .ok (.aload_n 0, 1) := by decide +kernel
theorem dX4_advance_40 : decode cX4_advance 40 = .ok (.invokevirtual 38, 3) := by decide +kernel
theorem dX4_advance_43 : decode cX4_advance 43 = .ok (.ifCond .eq 7, 3) := by decide +kernel
theorem dX4_advance_46 : decode cX4_advance 46 = .ok (.aload_n 0, 1) := by decide +kernel
theorem dX4_advance_47 : decode cX4_advance 47 = .ok (.invokevirtual 42, 3) := by decide +kernel
theorem dX4_advance_50 : decode cX4_advance 50 = .ok (.return_, 1) := by decide +kernel
set_option maxRecDepth 20000 in
theorem ggX4_advanceToMatins_X4_advance : GoodIn wsX4_advanceToMatins wsX4_advance := goodIn_r _ [5, 6, 7, 8, 9, 10, 4, 11, 12, 13, 14, 15, 16, 17, 18, 19, 20, 21, 22, 23, 24, 25, 26, 27, 28, 29, 30, 31, 32, 33, 34, 35, 36, 37, 38, 39, 40, 41, 42, 43, 44, 45, 46, 47, 48, 49, 50, 51] (by decide +kernel) (by decide +kernel)
set_option maxRecDepth 20000 in
theorem gX4_advanceToMatins_X4_advance : GoodIn wsX4_advanceToMatins (wsV RX4 45 RX4 yX4_advance wsX4_advance) := goodIn_app (goodIn_of _ (by decide +kernel)) ggX4_advanceToMatins_X4_advance
set_option maxRecDepth 20000 in
theorem ggX4_advanceToMatins_X4_isMatins : GoodIn wsX4_advanceToMatins wsX4_isMatins := goodIn_r _ [37, 38, 7, 47, 48, 49, 50, 51] (by decide +kernel) (by decide +kernel)
set_option maxRecDepth 20000 in
theorem gX4_advanceToMatins_X4_isMatins : GoodIn wsX4_advanceToMatins (wsV RX4 38 RX4 yX4_isMatins wsX4_isMatins) := goodIn_app (goodIn_of _ (by decide +kernel)) ggX4_advanceToMatins_X4_isMatins
theorem dX4_advanceToMatins_0 : decode cX4_advanceToMatins 0 = .ok (.aload_n 0, 1) := by decide +kernel
theorem dX4_advanceToMatins_1 : decode cX4_advanceToMatins 1 = .ok (.iconst 0, 1) := by decide +kernel
theorem dX4_advanceToMatins_2 : decode cX4_advanceToMatins 2 = .ok (.invokevirtual 45, 3) := by decide +kernel
theorem dX4_advanceToMatins_5 : decode cX4_advanceToMatins 5 = .ok (.iconst 1, 1) := by decide +kernel
theorem dX4_advanceToMatins_6 : decode cX4_advanceToMatins 6 = .ok (.istore_n 1, 1) := by decide +kernel
theorem dX4_advanceToMatins_7 : decode cX4_advanceToMatins 7 = .ok (.iload_n 1, 1) := by decide +kernel
theorem dX4_advanceToMatins_8 : decode cX4_advanceToMatins 8 = .ok (.bipush 9, 2) := by decide +kernel
theorem dX4_advanceToMatins_10 : decode cX4_advanceToMatins 10 = .ok (.if_icmp .ge 21, 3) := by decide +kernel
theorem dX4_advanceToMatins_13 : decode cX4_advanceToMatins 13 = .ok (.aload_n 0, 1) := by decide +kernel
theorem dX4_advanceToMatins_14 : decode cX4_advanceToMatins 14 = .ok (.invokevirtual 38, 3) := by decide +kernel
theorem dX4_advanceToMatins_17 : decode cX4_advanceToMatins 17 = .ok (.ifCond .ne 14, 3) := by decide +kernel
theorem dX4_advanceToMatins_20 : decode cX4_advanceToMatins 20 = .ok (.aload_n 0, 1) := by decide +kernel
theorem dX4_advanceToMatins_21 : decode cX4_advanceToMatins 21 = .ok (.iconst 0, 1) := by decide +kernel
theorem dX4_advanceToMatins_22 : decode cX4_advanceToMatins 22 = .ok (.invokevirtual 45, 3) := by decide +kernel
theorem dX4_advanceToMatins_25 : decode cX4_advanceToMatins 25 = .ok (.iinc 1 1, 3) := by decide +kernel
theorem dX4_advanceToMatins_28 : decode cX4_advanceToMatins 28 = .ok (.goto (-21), 3) := by decide +kernel
theorem dX4_advanceToMatins_31 : decode cX4_advanceToMatins 31 = .ok (.return_, 1) := by decide +kernel
theorem dX4_isMatins_0 : decode cX4_isMatins 0 = .ok (.aload_n 0, 1) := by decide +kernel
theorem dX4_isMatins_1 : decode cX4_isMatins 1 = .ok (.getfield 31, 3) := by decide +kernel
theorem dX4_isMatins_4 : decode cX4_isMatins 4 = .ok (.ifCond .le 19, 3) := by decide +kernel
theorem dX4_isMatins_7 : decode cX4_isMatins 7 = .ok (.aload_n 0, 1) := by decide +kernel
theorem dX4_isMatins_8 : decode cX4_isMatins 8 = .ok (.getfield 28, 3) := by decide +kernel
theorem dX4_isMatins_11 : decode cX4_isMatins 11 = .ok (.aload_n 0, 1) := by decide +kernel
theorem dX4_isMatins_12 : decode cX4_isMatins 12 = .ok (.getfield 31, 3) := by decide +kernel
theorem dX4_isMatins_15 : decode cX4_isMatins 15 = .ok (.irem, 1) := by decide +kernel
theorem dX4_isMatins_16 : decode cX4_isMatins 16 = .ok (.ifCond .ne 7, 3) := by decide +kernel
theorem dX4_isMatins_19 : decode cX4_isMatins 19 = .ok (.iconst 1, 1) := by decide +kernel
theorem dX4_isMatins_20 : decode cX4_isMatins 20 = .ok (.goto 4, 3) := by decide +kernel
theorem dX4_isMatins_23 : decode cX4_isMatins 23 = .ok (.iconst 0, 1) := by decide +kernel
theorem dX4_isMatins_24 : decode cX4_isMatins 24 = .ok (.ireturn, 1) := by decide +kernel
set_option maxRecDepth 20000 in
theorem ggX4_turn_X4_after : GoodIn wsX4_turn wsX4_after := goodIn_r _ [8, 9, 26, 27, 28, 29, 30] (by decide +kernel) (by decide +kernel)
set_option maxRecDepth 20000 in
theorem gX4_turn_X4_after : GoodIn wsX4_turn (wsV RX4 48 RX4 yX4_after wsX4_after) := goodIn_app (goodIn_of _ (by decide +kernel)) ggX4_turn_X4_after
set_option maxRecDepth 20000 in
theorem ggX4_turn_X4_handOn : GoodIn wsX4_turn wsX4_handOn := goodIn_r _ [13, 14, 15, 16, 7, 17, 2, 1, 18, 19, 20, 21, 26, 27, 28, 29, 30] (by decide +kernel) (by decide +kernel)
set_option maxRecDepth 20000 in
theorem gX4_turn_X4_handOn : GoodIn wsX4_turn (wsV RX4 52 RX4 yX4_handOn wsX4_handOn) := goodIn_app (goodIn_of _ (by decide +kernel)) ggX4_turn_X4_handOn
set_option maxRecDepth 20000 in
theorem ggX4_turn_X4_before : GoodIn wsX4_turn wsX4_before := goodIn_r _ [25, 9, 26, 27, 28, 29, 30] (by decide +kernel) (by decide +kernel)
set_option maxRecDepth 20000 in
theorem gX4_turn_X4_before : GoodIn wsX4_turn (wsV RX4 56 RX4 yX4_before wsX4_before) := goodIn_app (goodIn_of _ (by decide +kernel)) ggX4_turn_X4_before
theorem dX4_turn_0 : decode cX4_turn 0 = .ok (.aload_n 0, 1) := by decide +kernel
theorem dX4_turn_1 : decode cX4_turn 1 = .ok (.iload_n 1, 1) := by decide +kernel
theorem dX4_turn_2 : decode cX4_turn 2 = .ok (.invokevirtual 48, 3) := by decide +kernel
theorem dX4_turn_5 : decode cX4_turn 5 = .ok (.istore_n 2, 1) := by decide +kernel
theorem dX4_turn_6 : decode cX4_turn 6 = .ok (.aload_n 0, 1) := by decide +kernel
theorem dX4_turn_7 : decode cX4_turn 7 = .ok (.getfield 9, 3) := by decide +kernel
theorem dX4_turn_10 : decode cX4_turn 10 = .ok (.iload_n 1, 1) := by decide +kernel
theorem dX4_turn_11 : decode cX4_turn 11 = .ok (.iaload, 1) := by decide +kernel
theorem dX4_turn_12 : decode cX4_turn 12 = .ok (.tableswitch 109 1 5 #[36, 45, 69, 109, 87], 36) := by decide +kernel
theorem dX4_turn_48 : decode cX4_turn 48 = .ok (.aload_n 0, 1) := by decide +kernel
theorem dX4_turn_49 : decode cX4_turn 49 = .ok (.iload_n 1, 1) := by decide +kernel
theorem dX4_turn_50 : decode cX4_turn 50 = .ok (.iload_n 2, 1) := by decide +kernel
theorem dX4_turn_51 : decode cX4_turn 51 = .ok (.invokevirtual 52, 3) := by decide +kernel
theorem dX4_turn_54 : decode cX4_turn 54 = .ok (.goto 67, 3) := by decide +kernel
theorem dX4_turn_57 : decode cX4_turn 57 = .ok (.aload_n 0, 1) := by decide +kernel
theorem dX4_turn_58 : decode cX4_turn 58 = .ok (.getfield 15, 3) := by decide +kernel
theorem dX4_turn_61 : decode cX4_turn 61 = .ok (.iload_n 1, 1) := by decide +kernel
theorem dX4_turn_62 : decode cX4_turn 62 = .ok (.iaload, 1) := by decide +kernel
theorem dX4_turn_63 : decode cX4_turn 63 = .ok (.aload_n 0, 1) := by decide +kernel
theorem dX4_turn_64 : decode cX4_turn 64 = .ok (.getfield 15, 3) := by decide +kernel
theorem dX4_turn_67 : decode cX4_turn 67 = .ok (.iload_n 2, 1) := by decide +kernel
theorem dX4_turn_68 : decode cX4_turn 68 = .ok (.iaload, 1) := by decide +kernel
theorem dX4_turn_69 : decode cX4_turn 69 = .ok (.if_icmp .le 52, 3) := by decide +kernel
theorem dX4_turn_72 : decode cX4_turn 72 = .ok (.aload_n 0, 1) := by decide +kernel
theorem dX4_turn_73 : decode cX4_turn 73 = .ok (.iload_n 1, 1) := by decide +kernel
theorem dX4_turn_74 : decode cX4_turn 74 = .ok (.iload_n 2, 1) := by decide +kernel
theorem dX4_turn_75 : decode cX4_turn 75 = .ok (.invokevirtual 52, 3) := by decide +kernel
theorem dX4_turn_78 : decode cX4_turn 78 = .ok (.goto 43, 3) := by decide +kernel
theorem dX4_turn_81 : decode cX4_turn 81 = .ok (.aload_n 0, 1) := by decide +kernel
theorem dX4_turn_82 : decode cX4_turn 82 = .ok (.getfield 28, 3) := by decide +kernel
theorem dX4_turn_85 : decode cX4_turn 85 = .ok (.iconst 2, 1) := by decide +kernel
theorem dX4_turn_86 : decode cX4_turn 86 = .ok (.irem, 1) := by decide +kernel
theorem dX4_turn_87 : decode cX4_turn 87 = .ok (.ifCond .ne 34, 3) := by decide +kernel
theorem dX4_turn_90 : decode cX4_turn 90 = .ok (.aload_n 0, 1) := by decide +kernel
theorem dX4_turn_91 : decode cX4_turn 91 = .ok (.iload_n 1, 1) := by decide +kernel
theorem dX4_turn_92 : decode cX4_turn 92 = .ok (.iload_n 2, 1) := by decide +kernel
theorem dX4_turn_93 : decode cX4_turn 93 = .ok (.invokevirtual 52, 3) := by decide +kernel
theorem dX4_turn_96 : decode cX4_turn 96 = .ok (.goto 25, 3) := by decide +kernel
theorem dX4_turn_99 : decode cX4_turn 99 = .ok (.aload_n 0, 1) := by decide +kernel
theorem dX4_turn_100 : decode cX4_turn 100 = .ok (.getfield 15, 3) := by decide +kernel
theorem dX4_turn_103 : decode cX4_turn 103 = .ok (.iload_n 1, 1) := by decide +kernel
theorem dX4_turn_104 : decode cX4_turn 104 = .ok (.iaload, 1) := by decide +kernel
theorem dX4_turn_105 : decode cX4_turn 105 = .ok (.ifCond .ne 16, 3) := by decide +kernel
theorem dX4_turn_108 : decode cX4_turn 108 = .ok (.aload_n 0, 1) := by decide +kernel
theorem dX4_turn_109 : decode cX4_turn 109 = .ok (.iload_n 1, 1) := by decide +kernel
theorem dX4_turn_110 : decode cX4_turn 110 = .ok (.aload_n 0, 1) := by decide +kernel
theorem dX4_turn_111 : decode cX4_turn 111 = .ok (.iload_n 1, 1) := by decide +kernel
theorem dX4_turn_112 : decode cX4_turn 112 = .ok (.invokevirtual 56, 3) := by decide +kernel
theorem dX4_turn_115 : decode cX4_turn 115 = .ok (.invokevirtual 52, 3) := by decide +kernel
theorem dX4_turn_118 : decode cX4_turn 118 = .ok (.goto 3, 3) := by decide +kernel
theorem dX4_turn_121 : decode cX4_turn 121 = .ok (.return_, 1) := by decide +kernel
set_option maxRecDepth 20000 in
theorem ggX4_handOn_X4_lets : GoodIn wsX4_handOn wsX4_lets := goodIn_r _ [5, 6, 7, 12, 13, 14, 15, 16] (by decide +kernel) (by decide +kernel)
set_option maxRecDepth 20000 in
theorem gX4_handOn_X4_lets : GoodIn wsX4_handOn (wsV RX4 59 RX4 yX4_lets wsX4_lets) := goodIn_app (goodIn_of _ (by decide +kernel)) ggX4_handOn_X4_lets
set_option maxRecDepth 20000 in
theorem ggX4_handOn_X4_exchange : GoodIn wsX4_handOn wsX4_exchange := goodIn_r _ [11, 6, 12, 13, 14, 15, 16] (by decide +kernel) (by decide +kernel)
set_option maxRecDepth 20000 in
theorem gX4_handOn_X4_exchange : GoodIn wsX4_handOn (wsV RX4 63 RX4 yX4_exchange wsX4_exchange) := goodIn_app (goodIn_of _ (by decide +kernel)) ggX4_handOn_X4_exchange
theorem dX4_handOn_0 : decode cX4_handOn 0 = .ok (.aload_n 0, 1) := by decide +kernel
theorem dX4_handOn_1 : decode cX4_handOn 1 = .ok (.iload_n 2, 1) := by decide +kernel
theorem dX4_handOn_2 : decode cX4_handOn 2 = .ok (.invokevirtual 59, 3) := by decide +kernel
theorem dX4_handOn_5 : decode cX4_handOn 5 = .ok (.ifCond .eq 9, 3) := by decide +kernel
theorem dX4_handOn_8 : decode cX4_handOn 8 = .ok (.aload_n 0, 1) := by decide +kernel
theorem dX4_handOn_9 : decode cX4_handOn 9 = .ok (.iload_n 1, 1) := by decide +kernel
theorem dX4_handOn_10 : decode cX4_handOn 10 = .ok (.iload_n 2, 1) := by decide +kernel
theorem dX4_handOn_11 : decode cX4_handOn 11 = .ok (.invokevirtual 63, 3) := by decide +kernel
theorem dX4_handOn_14 : decode cX4_handOn 14 = .ok (.return_, 1) := by decide +kernel
set_option maxRecDepth 20000 in
theorem ggX4_singMatins_X4_isSaint : GoodIn wsX4_singMatins wsX4_isSaint := goodIn_r _ [8, 1, 13, 14, 15, 16, 17] (by decide +kernel) (by decide +kernel)
set_option maxRecDepth 20000 in
theorem gX4_singMatins_X4_isSaint : GoodIn wsX4_singMatins (wsV RX4 66 RX4 yX4_isSaint wsX4_isSaint) := goodIn_app (goodIn_of _ (by decide +kernel)) ggX4_singMatins_X4_isSaint
set_option maxRecDepth 20000 in
theorem ggX4_singMatins_X4_exchange : GoodIn wsX4_singMatins wsX4_exchange := goodIn_r _ [12, 2, 13, 14, 15, 16, 17] (by decide +kernel) (by decide +kernel)
set_option maxRecDepth 20000 in
theorem gX4_singMatins_X4_exchange : GoodIn wsX4_singMatins (wsV RX4 63 RX4 yX4_exchange wsX4_exchange) := goodIn_app (goodIn_of _ (by decide +kernel)) ggX4_singMatins_X4_exchange
theorem dX4_singMatins_0 : decode cX4_singMatins 0 = .ok (.iconst 0, 1) := by decide +kernel
theorem dX4_singMatins_1 : decode cX4_singMatins 1 = .ok (.istore_n 1, 1) := by decide +kernel
theorem dX4_singMatins_2 : decode cX4_singMatins 2 = .ok (.iload_n 1, 1) := by decide +kernel
theorem dX4_singMatins_3 : decode cX4_singMatins 3 = .ok (.aload_n 0, 1) := by decide +kernel
theorem dX4_singMatins_4 : decode cX4_singMatins 4 = .ok (.getfield 24, 3) := by decide +kernel
theorem dX4_singMatins_7 : decode cX4_singMatins 7 = .ok (.if_icmp .ge 42, 3) := by decide +kernel
theorem dX4_singMatins_10 : decode cX4_singMatins 10 = .ok (.aload_n 0, 1) := by decide +kernel
theorem dX4_singMatins_11 : decode cX4_singMatins 11 = .ok (.getfield 15, 3) := by decide +kernel
theorem dX4_singMatins_14 : decode cX4_singMatins 14 = .ok (.iload_n 1, 1) := by decide +kernel
theorem dX4_singMatins_15 : decode cX4_singMatins 15 = .ok (.iaload, 1) := by decide +kernel
theorem dX4_singMatins_16 : decode cX4_singMatins 16 = .ok (.iconst 1, 1) := by decide +kernel
theorem dX4_singMatins_17 : decode cX4_singMatins 17 = .ok (.isub, 1) := by decide +kernel
theorem dX4_singMatins_18 : decode cX4_singMatins 18 = .ok (.istore_n 2, 1) := by decide +kernel
theorem dX4_singMatins_19 : decode cX4_singMatins 19 = .ok (.aload_n 0, 1) := by decide +kernel
theorem dX4_singMatins_20 : decode cX4_singMatins 20 = .ok (.getfield 9, 3) := by decide +kernel
theorem dX4_singMatins_23 : decode cX4_singMatins 23 = .ok (.iload_n 1, 1) := by decide +kernel
theorem dX4_singMatins_24 : decode cX4_singMatins 24 = .ok (.iaload, 1) := by decide +kernel
theorem dX4_singMatins_25 : decode cX4_singMatins 25 = .ok (.iconst 5, 1) := by decide +kernel
theorem dX4_singMatins_26 : decode cX4_singMatins 26 = .ok (.if_icmp .ne 17, 3) := by decide +kernel
theorem dX4_singMatins_29 : decode cX4_singMatins 29 = .ok (.aload_n 0, 1) := by decide +kernel
theorem dX4_singMatins_30 : decode cX4_singMatins 30 = .ok (.iload_n 2, 1) := by decide +kernel
theorem dX4_singMatins_31 : decode cX4_singMatins 31 = .ok (.invokevirtual 66, 3) := by decide +kernel
theorem dX4_singMatins_34 : decode cX4_singMatins 34 = .ok (.ifCond .eq 9, 3) := by decide +kernel
theorem dX4_singMatins_37 : decode cX4_singMatins 37 = .ok (.aload_n 0, 1) := by decide +kernel
theorem dX4_singMatins_38 : decode cX4_singMatins 38 = .ok (.iload_n 1, 1) := by decide +kernel
theorem dX4_singMatins_39 : decode cX4_singMatins 39 = .ok (.iload_n 2, 1) := by decide +kernel
theorem dX4_singMatins_40 : decode cX4_singMatins 40 = .ok (.invokevirtual 63, 3) := by decide +kernel
theorem dX4_singMatins_43 : decode cX4_singMatins 43 = .ok (.iinc 1 1, 3) := by decide +kernel
theorem dX4_singMatins_46 : decode cX4_singMatins 46 = .ok (.goto (-44), 3) := by decide +kernel
theorem dX4_singMatins_49 : decode cX4_singMatins 49 = .ok (.return_, 1) := by decide +kernel
theorem dX4_whoHas_0 : decode cX4_whoHas 0 = .ok (.iconst 0, 1) := by decide +kernel
theorem dX4_whoHas_1 : decode cX4_whoHas 1 = .ok (.istore_n 2, 1) := by decide +kernel
theorem dX4_whoHas_2 : decode cX4_whoHas 2 = .ok (.iload_n 2, 1) := by decide +kernel
theorem dX4_whoHas_3 : decode cX4_whoHas 3 = .ok (.aload_n 0, 1) := by decide +kernel
theorem dX4_whoHas_4 : decode cX4_whoHas 4 = .ok (.getfield 24, 3) := by decide +kernel
theorem dX4_whoHas_7 : decode cX4_whoHas 7 = .ok (.if_icmp .ge 21, 3) := by decide +kernel
theorem dX4_whoHas_10 : decode cX4_whoHas 10 = .ok (.aload_n 0, 1) := by decide +kernel
theorem dX4_whoHas_11 : decode cX4_whoHas 11 = .ok (.getfield 15, 3) := by decide +kernel
theorem dX4_whoHas_14 : decode cX4_whoHas 14 = .ok (.iload_n 2, 1) := by decide +kernel
theorem dX4_whoHas_15 : decode cX4_whoHas 15 = .ok (.iaload, 1) := by decide +kernel
theorem dX4_whoHas_16 : decode cX4_whoHas 16 = .ok (.iload_n 1, 1) := by decide +kernel
theorem dX4_whoHas_17 : decode cX4_whoHas 17 = .ok (.if_icmp .ne 5, 3) := by decide +kernel
theorem dX4_whoHas_20 : decode cX4_whoHas 20 = .ok (.iload_n 2, 1) := by decide +kernel
theorem dX4_whoHas_21 : decode cX4_whoHas 21 = .ok (.ireturn, 1) := by decide +kernel
theorem dX4_whoHas_22 : decode cX4_whoHas 22 = .ok (.iinc 2 1, 3) := by decide +kernel
theorem dX4_whoHas_25 : decode cX4_whoHas 25 = .ok (.goto (-23), 3) := by decide +kernel
theorem dX4_whoHas_28 : decode cX4_whoHas 28 = .ok (.ldc 69, 2) := by decide +kernel
theorem dX4_whoHas_30 : decode cX4_whoHas 30 = .ok (.ireturn, 1) := by decide +kernel
theorem dX4_withNone_0 : decode cX4_withNone 0 = .ok (.iconst 0, 1) := by decide +kernel
theorem dX4_withNone_1 : decode cX4_withNone 1 = .ok (.istore_n 1, 1) := by decide +kernel
theorem dX4_withNone_2 : decode cX4_withNone 2 = .ok (.iconst 0, 1) := by decide +kernel
theorem dX4_withNone_3 : decode cX4_withNone 3 = .ok (.istore_n 2, 1) := by decide +kernel
theorem dX4_withNone_4 : decode cX4_withNone 4 = .ok (.iload_n 2, 1) := by decide +kernel
theorem dX4_withNone_5 : decode cX4_withNone 5 = .ok (.aload_n 0, 1) := by decide +kernel
theorem dX4_withNone_6 : decode cX4_withNone 6 = .ok (.getfield 24, 3) := by decide +kernel
theorem dX4_withNone_9 : decode cX4_withNone 9 = .ok (.if_icmp .ge 21, 3) := by decide +kernel
theorem dX4_withNone_12 : decode cX4_withNone 12 = .ok (.aload_n 0, 1) := by decide +kernel
theorem dX4_withNone_13 : decode cX4_withNone 13 = .ok (.getfield 15, 3) := by decide +kernel
theorem dX4_withNone_16 : decode cX4_withNone 16 = .ok (.iload_n 2, 1) := by decide +kernel
theorem dX4_withNone_17 : decode cX4_withNone 17 = .ok (.iaload, 1) := by decide +kernel
theorem dX4_withNone_18 : decode cX4_withNone 18 = .ok (.ifCond .ne 6, 3) := by decide +kernel
theorem dX4_withNone_21 : decode cX4_withNone 21 = .ok (.iinc 1 1, 3) := by decide +kernel
theorem dX4_withNone_24 : decode cX4_withNone 24 = .ok (.iinc 2 1, 3) := by decide +kernel
theorem dX4_withNone_27 : decode cX4_withNone 27 = .ok (.goto (-23), 3) := by decide +kernel
theorem dX4_withNone_30 : decode cX4_withNone 30 = .ok (.iload_n 1, 1) := by decide +kernel
theorem dX4_withNone_31 : decode cX4_withNone 31 = .ok (.ireturn, 1) := by decide +kernel
theorem dX4_atHome_0 : decode cX4_atHome 0 = .ok (.iconst 0, 1) := by decide +kernel
theorem dX4_atHome_1 : decode cX4_atHome 1 = .ok (.istore_n 1, 1) := by decide +kernel
theorem dX4_atHome_2 : decode cX4_atHome 2 = .ok (.iconst 0, 1) := by decide +kernel
theorem dX4_atHome_3 : decode cX4_atHome 3 = .ok (.istore_n 2, 1) := by decide +kernel
theorem dX4_atHome_4 : decode cX4_atHome 4 = .ok (.iload_n 2, 1) := by decide +kernel
theorem dX4_atHome_5 : decode cX4_atHome 5 = .ok (.aload_n 0, 1) := by decide +kernel
theorem dX4_atHome_6 : decode cX4_atHome 6 = .ok (.getfield 24, 3) := by decide +kernel
theorem dX4_atHome_9 : decode cX4_atHome 9 = .ok (.if_icmp .ge 24, 3) := by decide +kernel
theorem dX4_atHome_12 : decode cX4_atHome 12 = .ok (.aload_n 0, 1) := by decide +kernel
theorem dX4_atHome_13 : decode cX4_atHome 13 = .ok (.getfield 15, 3) := by decide +kernel
theorem dX4_atHome_16 : decode cX4_atHome 16 = .ok (.iload_n 2, 1) := by decide +kernel
theorem dX4_atHome_17 : decode cX4_atHome 17 = .ok (.iaload, 1) := by decide +kernel
theorem dX4_atHome_18 : decode cX4_atHome 18 = .ok (.iload_n 2, 1) := by decide +kernel
theorem dX4_atHome_19 : decode cX4_atHome 19 = .ok (.iconst 1, 1) := by decide +kernel
theorem dX4_atHome_20 : decode cX4_atHome 20 = .ok (.iadd, 1) := by decide +kernel
theorem dX4_atHome_21 : decode cX4_atHome 21 = .ok (.if_icmp .ne 6, 3) := by decide +kernel
theorem dX4_atHome_24 : decode cX4_atHome 24 = .ok (.iinc 1 1, 3) := by decide +kernel
theorem dX4_atHome_27 : decode cX4_atHome 27 = .ok (.iinc 2 1, 3) := by decide +kernel
theorem dX4_atHome_30 : decode cX4_atHome 30 = .ok (.goto (-26), 3) := by decide +kernel
theorem dX4_atHome_33 : decode cX4_atHome 33 = .ok (.iload_n 1, 1) := by decide +kernel
theorem dX4_atHome_34 : decode cX4_atHome 34 = .ok (.ireturn, 1) := by decide +kernel
theorem dX4_hasHoodWithThing_0 : decode cX4_hasHoodWithThing 0 = .ok (.iconst 0, 1) := by decide +kernel
theorem dX4_hasHoodWithThing_1 : decode cX4_hasHoodWithThing 1 = .ok (.istore_n 1, 1) := by decide +kernel
theorem dX4_hasHoodWithThing_2 : decode cX4_hasHoodWithThing 2 = .ok (.iload_n 1, 1) := by decide +kernel
theorem dX4_hasHoodWithThing_3 : decode cX4_hasHoodWithThing 3 = .ok (.aload_n 0, 1) := by decide +kernel
theorem dX4_hasHoodWithThing_4 : decode cX4_hasHoodWithThing 4 = .ok (.getfield 24, 3) := by decide +kernel
theorem dX4_hasHoodWithThing_7 : decode cX4_hasHoodWithThing 7 = .ok (.if_icmp .ge 30, 3) := by decide +kernel
theorem dX4_hasHoodWithThing_10 : decode cX4_hasHoodWithThing 10 = .ok (.aload_n 0, 1) := by decide +kernel
theorem dX4_hasHoodWithThing_11 : decode cX4_hasHoodWithThing 11 = .ok (.getfield 9, 3) := by decide +kernel
theorem dX4_hasHoodWithThing_14 : decode cX4_hasHoodWithThing 14 = .ok (.iload_n 1, 1) := by decide +kernel
theorem dX4_hasHoodWithThing_15 : decode cX4_hasHoodWithThing 15 = .ok (.iaload, 1) := by decide +kernel
theorem dX4_hasHoodWithThing_16 : decode cX4_hasHoodWithThing 16 = .ok (.iconst 5, 1) := by decide +kernel
theorem dX4_hasHoodWithThing_17 : decode cX4_hasHoodWithThing 17 = .ok (.if_icmp .ne 14, 3) := by decide +kernel
theorem dX4_hasHoodWithThing_20 : decode cX4_hasHoodWithThing 20 = .ok (.aload_n 0, 1) := by decide +kernel
theorem dX4_hasHoodWithThing_21 : decode cX4_hasHoodWithThing 21 = .ok (.getfield 15, 3) := by decide +kernel
theorem dX4_hasHoodWithThing_24 : decode cX4_hasHoodWithThing 24 = .ok (.iload_n 1, 1) := by decide +kernel
theorem dX4_hasHoodWithThing_25 : decode cX4_hasHoodWithThing 25 = .ok (.iaload, 1) := by decide +kernel
theorem dX4_hasHoodWithThing_26 : decode cX4_hasHoodWithThing 26 = .ok (.ifCond .eq 5, 3) := by decide +kernel
theorem dX4_hasHoodWithThing_29 : decode cX4_hasHoodWithThing 29 = .ok (.iconst 1, 1) := by decide +kernel
theorem dX4_hasHoodWithThing_30 : decode cX4_hasHoodWithThing 30 = .ok (.ireturn, 1) := by decide +kernel
theorem dX4_hasHoodWithThing_31 : decode cX4_hasHoodWithThing 31 = .ok (.iinc 1 1, 3) := by decide +kernel
theorem dX4_hasHoodWithThing_34 : decode cX4_hasHoodWithThing 34 = .ok (.goto (-32), 3) := by decide +kernel
theorem dX4_hasHoodWithThing_37 : decode cX4_hasHoodWithThing 37 = .ok (.iconst 0, 1) := by decide +kernel
theorem dX4_hasHoodWithThing_38 : decode cX4_hasHoodWithThing 38 = .ok (.ireturn, 1) := by decide +kernel
theorem dX4_figures_0 : decode cX4_figures 0 = .ok (.iconst 0, 1) := by decide +kernel
theorem dX4_figures_1 : decode cX4_figures 1 = .ok (.istore_n 1, 1) := by decide +kernel
theorem dX4_figures_2 : decode cX4_figures 2 = .ok (.iconst 0, 1) := by decide +kernel
theorem dX4_figures_3 : decode cX4_figures 3 = .ok (.istore_n 2, 1) := by decide +kernel
theorem dX4_figures_4 : decode cX4_figures 4 = .ok (.iload_n 2, 1) := by decide +kernel
theorem dX4_figures_5 : decode cX4_figures 5 = .ok (.aload_n 0, 1) := by decide +kernel
theorem dX4_figures_6 : decode cX4_figures 6 = .ok (.getfield 24, 3) := by decide +kernel
theorem dX4_figures_9 : decode cX4_figures 9 = .ok (.if_icmp .ge 21, 3) := by decide +kernel
theorem dX4_figures_12 : decode cX4_figures 12 = .ok (.bipush 10, 2) := by decide +kernel
theorem dX4_figures_14 : decode cX4_figures 14 = .ok (.iload_n 1, 1) := by decide +kernel
theorem dX4_figures_15 : decode cX4_figures 15 = .ok (.imul, 1) := by decide +kernel
theorem dX4_figures_16 : decode cX4_figures 16 = .ok (.aload_n 0, 1) := by decide +kernel
theorem dX4_figures_17 : decode cX4_figures 17 = .ok (.getfield 15, 3) := by decide +kernel
theorem dX4_figures_20 : decode cX4_figures 20 = .ok (.iload_n 2, 1) := by decide +kernel
theorem dX4_figures_21 : decode cX4_figures 21 = .ok (.iaload, 1) := by decide +kernel
theorem dX4_figures_22 : decode cX4_figures 22 = .ok (.iadd, 1) := by decide +kernel
theorem dX4_figures_23 : decode cX4_figures 23 = .ok (.istore_n 1, 1) := by decide +kernel
theorem dX4_figures_24 : decode cX4_figures 24 = .ok (.iinc 2 1, 3) := by decide +kernel
theorem dX4_figures_27 : decode cX4_figures 27 = .ok (.goto (-23), 3) := by decide +kernel
theorem dX4_figures_30 : decode cX4_figures 30 = .ok (.iload_n 1, 1) := by decide +kernel
theorem dX4_figures_31 : decode cX4_figures 31 = .ok (.ireturn, 1) := by decide +kernel
theorem dX4_takeFigures_0 : decode cX4_takeFigures 0 = .ok (.iload_n 1, 1) := by decide +kernel
theorem dX4_takeFigures_1 : decode cX4_takeFigures 1 = .ok (.istore_n 2, 1) := by decide +kernel
theorem dX4_takeFigures_2 : decode cX4_takeFigures 2 = .ok (.aload_n 0, 1) := by decide +kernel
theorem dX4_takeFigures_3 : decode cX4_takeFigures 3 = .ok (.getfield 24, 3) := by decide +kernel
theorem dX4_takeFigures_6 : decode cX4_takeFigures 6 = .ok (.iconst 1, 1) := by decide +kernel
theorem dX4_takeFigures_7 : decode cX4_takeFigures 7 = .ok (.isub, 1) := by decide +kernel
theorem dX4_takeFigures_8 : decode cX4_takeFigures 8 = .ok (.istore_n 3, 1) := by decide +kernel
theorem dX4_takeFigures_9 : decode cX4_takeFigures 9 = .ok (.iload_n 3, 1) := by decide +kernel
theorem dX4_takeFigures_10 : decode cX4_takeFigures 10 = .ok (.ifCond .lt 24, 3) := by decide +kernel
theorem dX4_takeFigures_13 : decode cX4_takeFigures 13 = .ok (.aload_n 0, 1) := by decide +kernel
theorem dX4_takeFigures_14 : decode cX4_takeFigures 14 = .ok (.getfield 15, 3) := by decide +kernel
theorem dX4_takeFigures_17 : decode cX4_takeFigures 17 = .ok (.iload_n 3, 1) := by decide +kernel
theorem dX4_takeFigures_18 : decode cX4_takeFigures 18 = .ok (.iload_n 2, 1) := by decide +kernel
theorem dX4_takeFigures_19 : decode cX4_takeFigures 19 = .ok (.bipush 10, 2) := by decide +kernel
theorem dX4_takeFigures_21 : decode cX4_takeFigures 21 = .ok (.irem, 1) := by decide +kernel
theorem dX4_takeFigures_22 : decode cX4_takeFigures 22 = .ok (.iastore, 1) := by decide +kernel
theorem dX4_takeFigures_23 : decode cX4_takeFigures 23 = .ok (.iload_n 2, 1) := by decide +kernel
theorem dX4_takeFigures_24 : decode cX4_takeFigures 24 = .ok (.bipush 10, 2) := by decide +kernel
theorem dX4_takeFigures_26 : decode cX4_takeFigures 26 = .ok (.idiv, 1) := by decide +kernel
theorem dX4_takeFigures_27 : decode cX4_takeFigures 27 = .ok (.istore_n 2, 1) := by decide +kernel
theorem dX4_takeFigures_28 : decode cX4_takeFigures 28 = .ok (.iinc 3 (-1), 3) := by decide +kernel
theorem dX4_takeFigures_31 : decode cX4_takeFigures 31 = .ok (.goto (-22), 3) := by decide +kernel
theorem dX4_takeFigures_34 : decode cX4_takeFigures 34 = .ok (.return_, 1) := by decide +kernel
theorem dX5_init_0 : decode cX5_init 0 = .ok (.aload_n 0, 1) := by decide +kernel
theorem dX5_init_1 : decode cX5_init 1 = .ok (.invokespecial 3, 3) := by decide +kernel
theorem dX5_init_4 : decode cX5_init 4 = .ok (.aload_n 0, 1) := by decide +kernel
theorem dX5_init_5 : decode cX5_init 5 = .ok (.bipush 40, 2) := by decide +kernel
theorem dX5_init_7 : decode cX5_init 7 = .ok (.newarray .int, 2) := by decide +kernel
theorem dX5_init_9 : decode cX5_init 9 = .ok (.putfield 9, 3) := by decide +kernel
theorem dX5_init_12 : decode cX5_init 12 = .ok (.aload_n 0, 1) := by decide +kernel
theorem dX5_init_13 : decode cX5_init 13 = .ok (.iconst (-1), 1) := by decide +kernel
theorem dX5_init_14 : decode cX5_init 14 = .ok (.putfield 15, 3) := by decide +kernel
theorem dX5_init_17 : decode cX5_init 17 = .ok (.return_, 1) := by decide +kernel
theorem dX5_isMissing_0 : decode cX5_isMissing 0 = .ok (.aload_n 0, 1) := by decide +kernel
theorem dX5_isMissing_1 : decode cX5_isMissing 1 = .ok (.getfield 15, 3) := by decide +kernel
theorem dX5_isMissing_4 : decode cX5_isMissing 4 = .ok (.ifCond .ge 7, 3) := by decide +kernel
theorem dX5_isMissing_7 : decode cX5_isMissing 7 = .ok (.iconst 1, 1) := by decide +kernel
theorem dX5_isMissing_8 : decode cX5_isMissing 8 = .ok (.goto 4, 3) := by decide +kernel
theorem dX5_isMissing_11 : decode cX5_isMissing 11 = .ok (.iconst 0, 1) := by decide +kernel
theorem dX5_isMissing_12 : decode cX5_isMissing 12 = .ok (.ireturn, 1) := by decide +kernel
set_option maxRecDepth 20000 in
theorem ggX5_lay_J7_fill_53178 : GoodIn wsX5_lay wsJ7_fill_53178 := goodIn_r _ [7] (by decide +kernel) (by decide +kernel)
set_option maxRecDepth 20000 in
theorem gX5_lay_J7_fill_53178 : GoodIn wsX5_lay (va_wsS RX5 19 yJ7_fill_53178 wsJ7_fill_53178) := goodIn_app (goodIn_of _ (by decide +kernel)) ggX5_lay_J7_fill_53178
theorem dX5_lay_0 : decode cX5_lay 0 = .ok (.aload_n 0, 1) := by decide +kernel
theorem dX5_lay_1 : decode cX5_lay 1 = .ok (.getfield 9, 3) := by decide +kernel
theorem dX5_lay_4 : decode cX5_lay 4 = .ok (.iconst 0, 1) := by decide +kernel
theorem dX5_lay_5 : decode cX5_lay 5 = .ok (.invokestatic 19, 3) := by decide +kernel
theorem dX5_lay_8 : decode cX5_lay 8 = .ok (.aload_n 0, 1) := by decide +kernel
theorem dX5_lay_9 : decode cX5_lay 9 = .ok (.iload_n 1, 1) := by decide +kernel
theorem dX5_lay_10 : decode cX5_lay 10 = .ok (.putfield 15, 3) := by decide +kernel
theorem dX5_lay_13 : decode cX5_lay 13 = .ok (.aload_n 0, 1) := by decide +kernel
theorem dX5_lay_14 : decode cX5_lay 14 = .ok (.iload_n 2, 1) := by decide +kernel
theorem dX5_lay_15 : decode cX5_lay 15 = .ok (.putfield 25, 3) := by decide +kernel
theorem dX5_lay_18 : decode cX5_lay 18 = .ok (.return_, 1) := by decide +kernel
theorem dX5_clear_0 : decode cX5_clear 0 = .ok (.aload_n 0, 1) := by decide +kernel
theorem dX5_clear_1 : decode cX5_clear 1 = .ok (.getfield 25, 3) := by decide +kernel
theorem dX5_clear_4 : decode cX5_clear 4 = .ok (.istore_n 1, 1) := by decide +kernel
theorem dX5_clear_5 : decode cX5_clear 5 = .ok (.aload_n 0, 1) := by decide +kernel
theorem dX5_clear_6 : decode cX5_clear 6 = .ok (.iconst (-1), 1) := by decide +kernel
theorem dX5_clear_7 : decode cX5_clear 7 = .ok (.putfield 15, 3) := by decide +kernel
theorem dX5_clear_10 : decode cX5_clear 10 = .ok (.aload_n 0, 1) := by decide +kernel
theorem dX5_clear_11 : decode cX5_clear 11 = .ok (.iconst 0, 1) := by decide +kernel
theorem dX5_clear_12 : decode cX5_clear 12 = .ok (.putfield 25, 3) := by decide +kernel
theorem dX5_clear_15 : decode cX5_clear 15 = .ok (.iload_n 1, 1) := by decide +kernel
theorem dX5_clear_16 : decode cX5_clear 16 = .ok (.ireturn, 1) := by decide +kernel
theorem dX5_has_0 : decode cX5_has 0 = .ok (.iload_n 2, 1) := by decide +kernel
theorem dX5_has_1 : decode cX5_has 1 = .ok (.ifCond .lt 21, 3) := by decide +kernel
theorem dX5_has_4 : decode cX5_has 4 = .ok (.iload_n 1, 1) := by decide +kernel
theorem dX5_has_5 : decode cX5_has 5 = .ok (.ifCond .lt 17, 3) := by decide +kernel
theorem dX5_has_8 : decode cX5_has 8 = .ok (.iload_n 1, 1) := by decide +kernel
theorem dX5_has_9 : decode cX5_has 9 = .ok (.aload_n 0, 1) := by decide +kernel
theorem dX5_has_10 : decode cX5_has 10 = .ok (.getfield 25, 3) := by decide +kernel
theorem dX5_has_13 : decode cX5_has 13 = .ok (.iload_n 2, 1) := by decide +kernel
theorem dX5_has_14 : decode cX5_has 14 = .ok (.isub, 1) := by decide +kernel
theorem dX5_has_15 : decode cX5_has 15 = .ok (.if_icmp .gt 7, 3) := by decide +kernel
theorem dX5_has_18 : decode cX5_has 18 = .ok (.iconst 1, 1) := by decide +kernel
theorem dX5_has_19 : decode cX5_has 19 = .ok (.goto 4, 3) := by decide +kernel
theorem dX5_has_22 : decode cX5_has 22 = .ok (.iconst 0, 1) := by decide +kernel
theorem dX5_has_23 : decode cX5_has 23 = .ok (.ireturn, 1) := by decide +kernel
set_option maxRecDepth 20000 in
theorem ggX5_put_X5_cut : GoodIn wsX5_put wsX5_cut := goodIn_r _ [6, 7, 8, 9, 10] (by decide +kernel) (by decide +kernel)
set_option maxRecDepth 20000 in
theorem gX5_put_X5_cut : GoodIn wsX5_put (wsV RX5 28 RX5 yX5_cut wsX5_cut) := goodIn_app (goodIn_of _ (by decide +kernel)) ggX5_put_X5_cut
theorem dX5_put_0 : decode cX5_put 0 = .ok (.aload_n 0, 1) := by decide +kernel
theorem dX5_put_1 : decode cX5_put 1 = .ok (.getfield 9, 3) := by decide +kernel
theorem dX5_put_4 : decode cX5_put 4 = .ok (.iload_n 1, 1) := by decide +kernel
theorem dX5_put_5 : decode cX5_put 5 = .ok (.aload_n 0, 1) := by decide +kernel
theorem dX5_put_6 : decode cX5_put 6 = .ok (.iload_n 2, 1) := by decide +kernel
theorem dX5_put_7 : decode cX5_put 7 = .ok (.invokevirtual 28, 3) := by decide +kernel
theorem dX5_put_10 : decode cX5_put 10 = .ok (.iastore, 1) := by decide +kernel
theorem dX5_put_11 : decode cX5_put 11 = .ok (.aload_n 0, 1) := by decide +kernel
theorem dX5_put_12 : decode cX5_put 12 = .ok (.getfield 9, 3) := by decide +kernel
theorem dX5_put_15 : decode cX5_put 15 = .ok (.iload_n 1, 1) := by decide +kernel
theorem dX5_put_16 : decode cX5_put 16 = .ok (.iaload, 1) := by decide +kernel
theorem dX5_put_17 : decode cX5_put 17 = .ok (.ireturn, 1) := by decide +kernel
theorem dX5_cut_0 : decode cX5_cut 0 = .ok (.aload_n 0, 1) := by decide +kernel
theorem dX5_cut_1 : decode cX5_cut 1 = .ok (.getfield 15, 3) := by decide +kernel
theorem dX5_cut_4 : decode cX5_cut 4 = .ok (.lookupswitch 34 #[(0, 28), (1, 31)], 28) := by decide +kernel
theorem dX5_cut_32 : decode cX5_cut 32 = .ok (.iload_n 1, 1) := by decide +kernel
theorem dX5_cut_33 : decode cX5_cut 33 = .ok (.i2b, 1) := by decide +kernel
theorem dX5_cut_34 : decode cX5_cut 34 = .ok (.ireturn, 1) := by decide +kernel
theorem dX5_cut_35 : decode cX5_cut 35 = .ok (.iload_n 1, 1) := by decide +kernel
theorem dX5_cut_36 : decode cX5_cut 36 = .ok (.i2s, 1) := by decide +kernel
theorem dX5_cut_37 : decode cX5_cut 37 = .ok (.ireturn, 1) := by decide +kernel
theorem dX5_cut_38 : decode cX5_cut 38 = .ok (.iload_n 1, 1) := by decide +kernel
theorem dX5_cut_39 : decode cX5_cut 39 = .ok (.ireturn, 1) := by decide +kernel
set_option maxRecDepth 20000 in
theorem ggX6_init_X4_init : GoodIn wsX6_init wsX4_init := goodIn_r _ [11, 12, 2, 3, 4, 13, 14, 20, 21, 22, 23, 24] (by decide +kernel) (by decide +kernel)
set_option maxRecDepth 20000 in
theorem gX6_init_X4_init_n17 : GoodIn wsX6_init (wsX4_init) := ggX6_init_X4_init
theorem dX6_init_0 : decode cX6_init 0 = .ok (.aload_n 0, 1) := by decide +kernel
theorem dX6_init_1 : decode cX6_init 1 = .ok (.invokespecial 3, 3) := by decide +kernel
theorem dX6_init_4 : decode cX6_init 4 = .ok (.aload_n 0, 1) := by decide +kernel
theorem dX6_init_5 : decode cX6_init 5 = .ok (.bipush 50, 2) := by decide +kernel
theorem dX6_init_7 : decode cX6_init 7 = .ok (.newarray .int, 2) := by decide +kernel
theorem dX6_init_9 : decode cX6_init 9 = .ok (.putfield 9, 3) := by decide +kernel
theorem dX6_init_12 : decode cX6_init 12 = .ok (.aload_n 0, 1) := by decide +kernel
theorem dX6_init_13 : decode cX6_init 13 = .ok (.new 15, 3) := by decide +kernel
theorem dX6_init_16 : decode cX6_init 16 = .ok (.dup, 1) := by decide +kernel
theorem dX6_init_17 : decode cX6_init 17 = .ok (.invokespecial 17, 3) := by decide +kernel
theorem dX6_init_20 : decode cX6_init 20 = .ok (.putfield 18, 3) := by decide +kernel
theorem dX6_init_23 : decode cX6_init 23 = .ok (.return_, 1) := by decide +kernel
theorem dX6_add_0 : decode cX6_add 0 = .ok (.aload_n 0, 1) := by decide +kernel
theorem dX6_add_1 : decode cX6_add 1 = .ok (.getfield 22, 3) := by decide +kernel
theorem dX6_add_4 : decode cX6_add 4 = .ok (.bipush 50, 2) := by decide +kernel
theorem dX6_add_6 : decode cX6_add 6 = .ok (.if_icmp .ne 5, 3) := by decide +kernel
theorem dX6_add_9 : decode cX6_add 9 = .ok (.iconst 0, 1) := by decide +kernel
theorem dX6_add_10 : decode cX6_add 10 = .ok (.ireturn, 1) := by decide +kernel
theorem dX6_add_11 : decode cX6_add 11 = .ok (.aload_n 0, 1) := by decide +kernel
theorem dX6_add_12 : decode cX6_add 12 = .ok (.getfield 9, 3) := by decide +kernel
theorem dX6_add_15 : decode cX6_add 15 = .ok (.aload_n 0, 1) := by decide +kernel
theorem dX6_add_16 : decode cX6_add 16 = .ok (.getfield 22, 3) := by decide +kernel
theorem dX6_add_19 : decode cX6_add 19 = .ok (.iload_n 1, 1) := by decide +kernel
theorem dX6_add_20 : decode cX6_add 20 = .ok (.iastore, 1) := by decide +kernel
theorem dX6_add_21 : decode cX6_add 21 = .ok (.aload_n 0, 1) := by decide +kernel
theorem dX6_add_22 : decode cX6_add 22 = .ok (.dup, 1) := by decide +kernel
theorem dX6_add_23 : decode cX6_add 23 = .ok (.getfield 22, 3) := by decide +kernel
theorem dX6_add_26 : decode cX6_add 26 = .ok (.iconst 1, 1) := by decide +kernel
theorem dX6_add_27 : decode cX6_add 27 = .ok (.iadd, 1) := by decide +kernel
theorem dX6_add_28 : decode cX6_add 28 = .ok (.putfield 22, 3) := by decide +kernel
theorem dX6_add_31 : decode cX6_add 31 = .ok (.iconst 1, 1) := by decide +kernel
theorem dX6_add_32 : decode cX6_add 32 = .ok (.ireturn, 1) := by decide +kernel
set_option maxRecDepth 20000 in
theorem ggX6_read_X6_tokenLength : GoodIn wsX6_read wsX6_tokenLength := goodIn_r _ [9, 1, 10, 11, 12, 13, 14, 15, 16, 8, 17, 18, 150, 151, 152, 153, 154] (by decide +kernel) (by decide +kernel)
set_option maxRecDepth 20000 in
theorem gX6_read_X6_tokenLength : GoodIn wsX6_read (wsV RX6 30 RX6 yX6_tokenLength wsX6_tokenLength) := goodIn_app (goodIn_of _ (by decide +kernel)) ggX6_read_X6_tokenLength
set_option maxRecDepth 20000 in
theorem ggX6_read_X6_take : GoodIn wsX6_read wsX6_take := goodIn_r _ [22, 4, 23, 24, 25, 8, 26, 18, 27, 28, 29, 30, 2, 31, 32, 33, 34, 35, 14, 15, 16, 17, 36, 37, 38, 39, 40, 41, 42, 43, 3, 44, 45, 46, 47, 48, 49, 50, 51, 52, 53, 54, 55, 56, 57, 58, 59, 60, 61, 62, 63, 64, 65, 66, 67, 68, 69, 70, 71, 72, 73, 11, 12, 13, 74, 75, 76, 77, 78, 79, 80, 81, 82, 83, 84, 85, 86, 87, 88, 89, 90, 91, 92, 93, 94, 95, 96, 97, 98, 99, 100, 101, 102, 103, 104, 105, 106, 107, 108, 109, 110, 111, 112, 113, 114, 115, 116, 117, 118, 119, 120, 121, 122, 123, 124, 125, 126, 127, 128, 129, 130, 131, 132, 133, 134, 135, 136, 137, 138, 139, 140, 141, 142, 143, 144, 150, 151, 152, 153, 154, 155, 156, 157, 158, 159] (by decide +kernel) (by decide +kernel)
set_option maxRecDepth 20000 in
theorem gX6_read_X6_take : GoodIn wsX6_read (wsV RX6 34 RX6 yX6_take wsX6_take) := goodIn_app (goodIn_of _ (by decide +kernel)) ggX6_read_X6_take
set_option maxRecDepth 20000 in
theorem ggX6_read_X6_fail : GoodIn wsX6_read wsX6_fail := goodIn_r _ [148, 1, 149, 150, 151, 152, 153, 154] (by decide +kernel) (by decide +kernel)
set_option maxRecDepth 20000 in
theorem gX6_read_X6_fail : GoodIn wsX6_read (wsV RX6 38 RX6 yX6_fail wsX6_fail) := goodIn_app (goodIn_of _ (by decide +kernel)) ggX6_read_X6_fail
theorem dX6_read_0 : decode cX6_read 0 = .ok (.aload_n 0, 1) := by decide +kernel
theorem dX6_read_1 : decode cX6_read 1 = .ok (.getfield 22, 3) := by decide +kernel
theorem dX6_read_4 : decode cX6_read 4 = .ok (.istore_n 1, 1) := by decide +kernel
theorem dX6_read_5 : decode cX6_read 5 = .ok (.aload_n 0, 1) := by decide +kernel
theorem dX6_read_6 : decode cX6_read 6 = .ok (.getfield 18, 3) := by decide +kernel
theorem dX6_read_9 : decode cX6_read 9 = .ok (.iconst 0, 1) := by decide +kernel
theorem dX6_read_10 : decode cX6_read 10 = .ok (.putfield 26, 3) := by decide +kernel
theorem dX6_read_13 : decode cX6_read 13 = .ok (.aload_n 0, 1) := by decide +kernel
theorem dX6_read_14 : decode cX6_read 14 = .ok (.iconst 0, 1) := by decide +kernel
theorem dX6_read_15 : decode cX6_read 15 = .ok (.putfield 27, 3) := by decide +kernel
theorem dX6_read_18 : decode cX6_read 18 = .ok (.iconst 0, 1) := by decide +kernel
theorem dX6_read_19 : decode cX6_read 19 = .ok (.istore_n 2, 1) := by decide +kernel
theorem dX6_read_20 : decode cX6_read 20 = .ok (.iconst 0, 1) := by decide +kernel
theorem dX6_read_21 : decode cX6_read 21 = .ok (.istore_n 3, 1) := by decide +kernel
theorem dX6_read_22 : decode cX6_read 22 = .ok (.iload_n 3, 1) := by decide +kernel
theorem dX6_read_23 : decode cX6_read 23 = .ok (.bipush 50, 2) := by decide +kernel
theorem dX6_read_25 : decode cX6_read 25 = .ok (.if_icmp .ge 48, 3) := by decide +kernel
theorem dX6_read_28 : decode cX6_read 28 = .ok (.iload_n 2, 1) := by decide +kernel
theorem dX6_read_29 : decode cX6_read 29 = .ok (.iload_n 1, 1) := by decide +kernel
theorem dX6_read_30 : decode cX6_read 30 = .ok (.if_icmp .ge 43, 3) := by decide +kernel
theorem dX6_read_33 : decode cX6_read 33 = .ok (.aload_n 0, 1) := by decide +kernel
theorem dX6_read_34 : decode cX6_read 34 = .ok (.iload_n 2, 1) := by decide +kernel
theorem dX6_read_35 : decode cX6_read 35 = .ok (.invokevirtual 30, 3) := by decide +kernel
theorem dX6_read_38 : decode cX6_read 38 = .ok (.istore 4, 2) := by decide +kernel
theorem dX6_read_40 : decode cX6_read 40 = .ok (.aload_n 0, 1) := by decide +kernel
theorem dX6_read_41 : decode cX6_read 41 = .ok (.iload_n 2, 1) := by decide +kernel
theorem dX6_read_42 : decode cX6_read 42 = .ok (.iload 4, 2) := by decide +kernel
theorem dX6_read_44 : decode cX6_read 44 = .ok (.invokevirtual 34, 3) := by decide +kernel
theorem dX6_read_47 : decode cX6_read 47 = .ok (.istore 5, 2) := by decide +kernel
theorem dX6_read_49 : decode cX6_read 49 = .ok (.iload 5, 2) := by decide +kernel
theorem dX6_read_51 : decode cX6_read 51 = .ok (.ifCond .eq 11, 3) := by decide +kernel
theorem dX6_read_54 : decode cX6_read 54 = .ok (.aload_n 0, 1) := by decide +kernel
theorem dX6_read_55 : decode cX6_read 55 = .ok (.iload 5, 2) := by decide +kernel
theorem dX6_read_57 : decode cX6_read 57 = .ok (.iload_n 2, 1) := by decide +kernel
theorem dX6_read_58 : decode cX6_read 58 = .ok (.invokevirtual 38, 3) := by decide +kernel
theorem dX6_read_61 : decode cX6_read 61 = .ok (.ireturn, 1) := by decide +kernel
theorem dX6_read_62 : decode cX6_read 62 = .ok (.iload_n 2, 1) := by decide +kernel
theorem dX6_read_63 : decode cX6_read 63 = .ok (.iload 4, 2) := by decide +kernel
theorem dX6_read_65 : decode cX6_read 65 = .ok (.iadd, 1) := by decide +kernel
theorem dX6_read_66 : decode cX6_read 66 = .ok (.istore_n 2, 1) := by decide +kernel
theorem dX6_read_67 : decode cX6_read 67 = .ok (.iinc 3 1, 3) := by decide +kernel
theorem dX6_read_70 : decode cX6_read 70 = .ok (.goto (-48), 3) := by decide +kernel
theorem dX6_read_73 : decode cX6_read 73 = .ok (.aload_n 0, 1) := by decide +kernel
theorem dX6_read_74 : decode cX6_read 74 = .ok (.getfield 27, 3) := by decide +kernel
theorem dX6_read_77 : decode cX6_read 77 = .ok (.iconst 3, 1) := by decide +kernel
theorem dX6_read_78 : decode cX6_read 78 = .ok (.if_icmp .ne 14, 3) := by decide +kernel
theorem dX6_read_81 : decode cX6_read 81 = .ok (.aload_n 0, 1) := by decide +kernel
theorem dX6_read_82 : decode cX6_read 82 = .ok (.getfield 18, 3) := by decide +kernel
theorem dX6_read_85 : decode cX6_read 85 = .ok (.getfield 26, 3) := by decide +kernel
theorem dX6_read_88 : decode cX6_read 88 = .ok (.iconst 2, 1) := by decide +kernel
theorem dX6_read_89 : decode cX6_read 89 = .ok (.if_icmp .ge 10, 3) := by decide +kernel
theorem dX6_read_92 : decode cX6_read 92 = .ok (.aload_n 0, 1) := by decide +kernel
theorem dX6_read_93 : decode cX6_read 93 = .ok (.iconst 1, 1) := by decide +kernel
theorem dX6_read_94 : decode cX6_read 94 = .ok (.iload_n 1, 1) := by decide +kernel
theorem dX6_read_95 : decode cX6_read 95 = .ok (.invokevirtual 38, 3) := by decide +kernel
theorem dX6_read_98 : decode cX6_read 98 = .ok (.ireturn, 1) := by decide +kernel
theorem dX6_read_99 : decode cX6_read 99 = .ok (.aload_n 0, 1) := by decide +kernel
theorem dX6_read_100 : decode cX6_read 100 = .ok (.iconst 0, 1) := by decide +kernel
theorem dX6_read_101 : decode cX6_read 101 = .ok (.putfield 22, 3) := by decide +kernel
theorem dX6_read_104 : decode cX6_read 104 = .ok (.iconst (-1), 1) := by decide +kernel
theorem dX6_read_105 : decode cX6_read 105 = .ok (.ireturn, 1) := by decide +kernel
theorem dX6_fail_0 : decode cX6_fail 0 = .ok (.aload_n 0, 1) := by decide +kernel
theorem dX6_fail_1 : decode cX6_fail 1 = .ok (.iconst 0, 1) := by decide +kernel
theorem dX6_fail_2 : decode cX6_fail 2 = .ok (.putfield 22, 3) := by decide +kernel
theorem dX6_fail_5 : decode cX6_fail 5 = .ok (.aload_n 0, 1) := by decide +kernel
theorem dX6_fail_6 : decode cX6_fail 6 = .ok (.iload_n 1, 1) := by decide +kernel
theorem dX6_fail_7 : decode cX6_fail 7 = .ok (.putfield 41, 3) := by decide +kernel
theorem dX6_fail_10 : decode cX6_fail 10 = .ok (.iload_n 2, 1) := by decide +kernel
theorem dX6_fail_11 : decode cX6_fail 11 = .ok (.ireturn, 1) := by decide +kernel
theorem dX6_isFigure_0 : decode cX6_isFigure 0 = .ok (.aload_n 0, 1) := by decide +kernel
theorem dX6_isFigure_1 : decode cX6_isFigure 1 = .ok (.getfield 9, 3) := by decide +kernel
theorem dX6_isFigure_4 : decode cX6_isFigure 4 = .ok (.iload_n 1, 1) := by decide +kernel
theorem dX6_isFigure_5 : decode cX6_isFigure 5 = .ok (.iaload, 1) := by decide +kernel
theorem dX6_isFigure_6 : decode cX6_isFigure 6 = .ok (.bipush 48, 2) := by decide +kernel
theorem dX6_isFigure_8 : decode cX6_isFigure 8 = .ok (.if_icmp .lt 18, 3) := by decide +kernel
theorem dX6_isFigure_11 : decode cX6_isFigure 11 = .ok (.aload_n 0, 1) := by decide +kernel
theorem dX6_isFigure_12 : decode cX6_isFigure 12 = .ok (.getfield 9, 3) := by decide +kernel
theorem dX6_isFigure_15 : decode cX6_isFigure 15 = .ok (.iload_n 1, 1) := by decide +kernel
theorem dX6_isFigure_16 : decode cX6_isFigure 16 = .ok (.iaload, 1) := by decide +kernel
theorem dX6_isFigure_17 : decode cX6_isFigure 17 = .ok (.bipush 57, 2) := by decide +kernel
theorem dX6_isFigure_19 : decode cX6_isFigure 19 = .ok (.if_icmp .gt 7, 3) := by decide +kernel
theorem dX6_isFigure_22 : decode cX6_isFigure 22 = .ok (.iconst 1, 1) := by decide +kernel
theorem dX6_isFigure_23 : decode cX6_isFigure 23 = .ok (.goto 4, 3) := by decide +kernel
theorem dX6_isFigure_26 : decode cX6_isFigure 26 = .ok (.iconst 0, 1) := by decide +kernel
theorem dX6_isFigure_27 : decode cX6_isFigure 27 = .ok (.ireturn, 1) := by decide +kernel
set_option maxRecDepth 20000 in
theorem ggX6_tokenLength_X6_isFigure : GoodIn wsX6_tokenLength wsX6_isFigure := goodIn_r _ [10, 11, 12, 13, 14, 15, 16] (by decide +kernel) (by decide +kernel)
set_option maxRecDepth 20000 in
theorem gX6_tokenLength_X6_isFigure : GoodIn wsX6_tokenLength (wsV RX6 44 RX6 yX6_isFigure wsX6_isFigure) := goodIn_app (goodIn_of _ (by decide +kernel)) ggX6_tokenLength_X6_isFigure
theorem dX6_tokenLength_0 : decode cX6_tokenLength 0 = .ok (.iload_n 1, 1) := by decide +kernel
theorem dX6_tokenLength_1 : decode cX6_tokenLength 1 = .ok (.istore_n 2, 1) := by decide +kernel
theorem dX6_tokenLength_2 : decode cX6_tokenLength 2 = .ok (.iload_n 2, 1) := by decide +kernel
theorem dX6_tokenLength_3 : decode cX6_tokenLength 3 = .ok (.aload_n 0, 1) := by decide +kernel
theorem dX6_tokenLength_4 : decode cX6_tokenLength 4 = .ok (.getfield 22, 3) := by decide +kernel
theorem dX6_tokenLength_7 : decode cX6_tokenLength 7 = .ok (.if_icmp .ge 17, 3) := by decide +kernel
theorem dX6_tokenLength_10 : decode cX6_tokenLength 10 = .ok (.aload_n 0, 1) := by decide +kernel
theorem dX6_tokenLength_11 : decode cX6_tokenLength 11 = .ok (.iload_n 2, 1) := by decide +kernel
theorem dX6_tokenLength_12 : decode cX6_tokenLength 12 = .ok (.invokevirtual 44, 3) := by decide +kernel
theorem dX6_tokenLength_15 : decode cX6_tokenLength 15 = .ok (.ifCond .eq 9, 3) := by decide +kernel
theorem dX6_tokenLength_18 : decode cX6_tokenLength 18 = .ok (.iinc 2 1, 3) := by decide +kernel
theorem dX6_tokenLength_21 : decode cX6_tokenLength 21 = .ok (.goto (-19), 3) := by decide +kernel
theorem dX6_tokenLength_24 : decode cX6_tokenLength 24 = .ok (.iconst 1, 1) := by decide +kernel

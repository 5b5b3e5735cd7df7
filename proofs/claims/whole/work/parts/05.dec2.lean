theorem dX7_ask_4 : decode cX7_ask 4 = .ok (.iload_n 1, 1) := by decide +kernel
theorem dX7_ask_5 : decode cX7_ask 5 = .ok (.invokevirtual 154, 3) := by decide +kernel
theorem dX7_ask_8 : decode cX7_ask 8 = .ok (.ifCond .eq 10, 3) := by decide +kernel
theorem dX7_ask_11 : decode cX7_ask 11 = .ok (.iload_n 2, 1) := by decide +kernel
theorem dX7_ask_12 : decode cX7_ask 12 = .ok (.invokestatic 170, 3) := by decide +kernel
theorem dX7_ask_15 : decode cX7_ask 15 = .ok (.ifCond .ne 6, 3) := by decide +kernel
theorem dX7_ask_18 : decode cX7_ask 18 = .ok (.ldc 73, 2) := by decide +kernel
theorem dX7_ask_20 : decode cX7_ask 20 = .ok (.ireturn, 1) := by decide +kernel
theorem dX7_ask_21 : decode cX7_ask 21 = .ok (.aload_n 0, 1) := by decide +kernel
theorem dX7_ask_22 : decode cX7_ask 22 = .ok (.getfield 60, 3) := by decide +kernel
theorem dX7_ask_25 : decode cX7_ask 25 = .ok (.aload_n 0, 1) := by decide +kernel
theorem dX7_ask_26 : decode cX7_ask 26 = .ok (.getfield 25, 3) := by decide +kernel
theorem dX7_ask_29 : decode cX7_ask 29 = .ok (.iload_n 1, 1) := by decide +kernel
theorem dX7_ask_30 : decode cX7_ask 30 = .ok (.iload_n 2, 1) := by decide +kernel
theorem dX7_ask_31 : decode cX7_ask 31 = .ok (.invokevirtual 262, 3) := by decide +kernel
theorem dX7_ask_34 : decode cX7_ask 34 = .ok (.ireturn, 1) := by decide +kernel
theorem dX7_trace_0 : decode cX7_trace 0 = .ok (.iload_n 1, 1) := by decide +kernel
theorem dX7_trace_1 : decode cX7_trace 1 = .ok (.ifCond .lt 26, 3) := by decide +kernel
theorem dX7_trace_4 : decode cX7_trace 4 = .ok (.iload_n 1, 1) := by decide +kernel
theorem dX7_trace_5 : decode cX7_trace 5 = .ok (.aload_n 0, 1) := by decide +kernel
theorem dX7_trace_6 : decode cX7_trace 6 = .ok (.getfield 60, 3) := by decide +kernel
theorem dX7_trace_9 : decode cX7_trace 9 = .ok (.getfield 266, 3) := by decide +kernel
theorem dX7_trace_12 : decode cX7_trace 12 = .ok (.if_icmp .ge 15, 3) := by decide +kernel
theorem dX7_trace_15 : decode cX7_trace 15 = .ok (.aload_n 0, 1) := by decide +kernel
theorem dX7_trace_16 : decode cX7_trace 16 = .ok (.getfield 60, 3) := by decide +kernel
theorem dX7_trace_19 : decode cX7_trace 19 = .ok (.getfield 269, 3) := by decide +kernel
theorem dX7_trace_22 : decode cX7_trace 22 = .ok (.iload_n 1, 1) := by decide +kernel
theorem dX7_trace_23 : decode cX7_trace 23 = .ok (.iaload, 1) := by decide +kernel
theorem dX7_trace_24 : decode cX7_trace 24 = .ok (.goto 5, 3) := by decide +kernel
theorem dX7_trace_27 : decode cX7_trace 27 = .ok (.ldc 182, 2) := by decide +kernel
theorem dX7_trace_29 : decode cX7_trace 29 = .ok (.ireturn, 1) := by decide +kernel
set_option maxRecDepth 20000 in
theorem ggX7_count_X7_rowsThere : GoodIn wsX7_count wsX7_rowsThere := goodIn_r _ [14, 15, 16, 17, 18, 19, 20, 21, 33, 34, 35, 36, 37, 38, 39, 40, 41, 42, 43, 59, 60, 61] (by decide +kernel) (by decide +kernel)
set_option maxRecDepth 20000 in
theorem gX7_count_X7_rowsThere : GoodIn wsX7_count (wsV RX7 272 RX7 yX7_rowsThere wsX7_rowsThere) := goodIn_app (goodIn_of _ (by decide +kernel)) ggX7_count_X7_rowsThere
set_option maxRecDepth 20000 in
theorem ggX7_count_X4_figures : GoodIn wsX7_count wsX4_figures := goodIn_r _ [26, 27, 28, 44, 45, 46, 47, 48] (by decide +kernel) (by decide +kernel)
set_option maxRecDepth 20000 in
theorem gX7_count_X4_figures : GoodIn wsX7_count (wsV RX7 186 RX4 yX4_figures wsX4_figures) := goodIn_app (goodIn_of _ (by decide +kernel)) ggX7_count_X4_figures
set_option maxRecDepth 20000 in
theorem ggX7_count_X4_withNone : GoodIn wsX7_count wsX4_withNone := goodIn_r _ [32, 27, 28, 44, 45, 46, 47, 48] (by decide +kernel) (by decide +kernel)
set_option maxRecDepth 20000 in
theorem gX7_count_X4_withNone : GoodIn wsX7_count (wsV RX7 275 RX4 yX4_withNone wsX4_withNone) := goodIn_app (goodIn_of _ (by decide +kernel)) ggX7_count_X4_withNone
theorem dX7_count_0 : decode cX7_count 0 = .ok (.iload_n 1, 1) := by decide +kernel
theorem dX7_count_1 : decode cX7_count 1 = .ok (.tableswitch 108 0 7 #[47, 52, 60, 68, 76, 84, 92, 100], 47) := by decide +kernel
theorem dX7_count_48 : decode cX7_count 48 = .ok (.aload_n 0, 1) := by decide +kernel
theorem dX7_count_49 : decode cX7_count 49 = .ok (.invokevirtual 272, 3) := by decide +kernel
theorem dX7_count_52 : decode cX7_count 52 = .ok (.ireturn, 1) := by decide +kernel
theorem dX7_count_53 : decode cX7_count 53 = .ok (.aload_n 0, 1) := by decide +kernel
theorem dX7_count_54 : decode cX7_count 54 = .ok (.getfield 25, 3) := by decide +kernel
theorem dX7_count_57 : decode cX7_count 57 = .ok (.getfield 139, 3) := by decide +kernel
theorem dX7_count_60 : decode cX7_count 60 = .ok (.ireturn, 1) := by decide +kernel
theorem dX7_count_61 : decode cX7_count 61 = .ok (.aload_n 0, 1) := by decide +kernel
theorem dX7_count_62 : decode cX7_count 62 = .ok (.getfield 25, 3) := by decide +kernel
theorem dX7_count_65 : decode cX7_count 65 = .ok (.getfield 144, 3) := by decide +kernel
theorem dX7_count_68 : decode cX7_count 68 = .ok (.ireturn, 1) := by decide +kernel
theorem dX7_count_69 : decode cX7_count 69 = .ok (.aload_n 0, 1) := by decide +kernel
theorem dX7_count_70 : decode cX7_count 70 = .ok (.getfield 25, 3) := by decide +kernel
theorem dX7_count_73 : decode cX7_count 73 = .ok (.getfield 163, 3) := by decide +kernel
theorem dX7_count_76 : decode cX7_count 76 = .ok (.ireturn, 1) := by decide +kernel
theorem dX7_count_77 : decode cX7_count 77 = .ok (.aload_n 0, 1) := by decide +kernel
theorem dX7_count_78 : decode cX7_count 78 = .ok (.getfield 25, 3) := by decide +kernel
theorem dX7_count_81 : decode cX7_count 81 = .ok (.invokevirtual 186, 3) := by decide +kernel
theorem dX7_count_84 : decode cX7_count 84 = .ok (.ireturn, 1) := by decide +kernel
theorem dX7_count_85 : decode cX7_count 85 = .ok (.aload_n 0, 1) := by decide +kernel
theorem dX7_count_86 : decode cX7_count 86 = .ok (.getfield 25, 3) := by decide +kernel
theorem dX7_count_89 : decode cX7_count 89 = .ok (.invokevirtual 275, 3) := by decide +kernel
theorem dX7_count_92 : decode cX7_count 92 = .ok (.ireturn, 1) := by decide +kernel
theorem dX7_count_93 : decode cX7_count 93 = .ok (.aload_n 0, 1) := by decide +kernel
theorem dX7_count_94 : decode cX7_count 94 = .ok (.getfield 39, 3) := by decide +kernel
theorem dX7_count_97 : decode cX7_count 97 = .ok (.getfield 166, 3) := by decide +kernel
theorem dX7_count_100 : decode cX7_count 100 = .ok (.ireturn, 1) := by decide +kernel
theorem dX7_count_101 : decode cX7_count 101 = .ok (.aload_n 0, 1) := by decide +kernel
theorem dX7_count_102 : decode cX7_count 102 = .ok (.getfield 18, 3) := by decide +kernel
theorem dX7_count_105 : decode cX7_count 105 = .ok (.getfield 121, 3) := by decide +kernel
theorem dX7_count_108 : decode cX7_count 108 = .ok (.ireturn, 1) := by decide +kernel
theorem dX7_count_109 : decode cX7_count 109 = .ok (.ldc 73, 2) := by decide +kernel
theorem dX7_count_111 : decode cX7_count 111 = .ok (.ireturn, 1) := by decide +kernel
theorem dX7_status_0 : decode cX7_status 0 = .ok (.aload_n 0, 1) := by decide +kernel
theorem dX7_status_1 : decode cX7_status 1 = .ok (.getfield 78, 3) := by decide +kernel
theorem dX7_status_4 : decode cX7_status 4 = .ok (.ireturn, 1) := by decide +kernel
theorem dX7_isRow_0 : decode cX7_isRow 0 = .ok (.iload_n 0, 1) := by decide +kernel
theorem dX7_isRow_1 : decode cX7_isRow 1 = .ok (.ifCond .lt 13, 3) := by decide +kernel
theorem dX7_isRow_4 : decode cX7_isRow 4 = .ok (.iload_n 0, 1) := by decide +kernel
theorem dX7_isRow_5 : decode cX7_isRow 5 = .ok (.bipush 8, 2) := by decide +kernel
theorem dX7_isRow_7 : decode cX7_isRow 7 = .ok (.if_icmp .ge 7, 3) := by decide +kernel
theorem dX7_isRow_10 : decode cX7_isRow 10 = .ok (.iconst 1, 1) := by decide +kernel
theorem dX7_isRow_11 : decode cX7_isRow 11 = .ok (.goto 4, 3) := by decide +kernel
theorem dX7_isRow_14 : decode cX7_isRow 14 = .ok (.iconst 0, 1) := by decide +kernel
theorem dX7_isRow_15 : decode cX7_isRow 15 = .ok (.ireturn, 1) := by decide +kernel
theorem dX7_isThing_0 : decode cX7_isThing 0 = .ok (.iload_n 0, 1) := by decide +kernel
theorem dX7_isThing_1 : decode cX7_isThing 1 = .ok (.iconst 1, 1) := by decide +kernel
theorem dX7_isThing_2 : decode cX7_isThing 2 = .ok (.if_icmp .lt 13, 3) := by decide +kernel
theorem dX7_isThing_5 : decode cX7_isThing 5 = .ok (.iload_n 0, 1) := by decide +kernel
theorem dX7_isThing_6 : decode cX7_isThing 6 = .ok (.bipush 9, 2) := by decide +kernel
theorem dX7_isThing_8 : decode cX7_isThing 8 = .ok (.if_icmp .gt 7, 3) := by decide +kernel
theorem dX7_isThing_11 : decode cX7_isThing 11 = .ok (.iconst 1, 1) := by decide +kernel
theorem dX7_isThing_12 : decode cX7_isThing 12 = .ok (.goto 4, 3) := by decide +kernel
theorem dX7_isThing_15 : decode cX7_isThing 15 = .ok (.iconst 0, 1) := by decide +kernel
theorem dX7_isThing_16 : decode cX7_isThing 16 = .ok (.ireturn, 1) := by decide +kernel
theorem dX7_isFirstOrSecond_0 : decode cX7_isFirstOrSecond 0 = .ok (.iload_n 0, 1) := by decide +kernel
theorem dX7_isFirstOrSecond_1 : decode cX7_isFirstOrSecond 1 = .ok (.ifCond .eq 8, 3) := by decide +kernel
theorem dX7_isFirstOrSecond_4 : decode cX7_isFirstOrSecond 4 = .ok (.iload_n 0, 1) := by decide +kernel
theorem dX7_isFirstOrSecond_5 : decode cX7_isFirstOrSecond 5 = .ok (.iconst 1, 1) := by decide +kernel
theorem dX7_isFirstOrSecond_6 : decode cX7_isFirstOrSecond 6 = .ok (.if_icmp .ne 7, 3) := by decide +kernel
theorem dX7_isFirstOrSecond_9 : decode cX7_isFirstOrSecond 9 = .ok (.iconst 1, 1) := by decide +kernel
theorem dX7_isFirstOrSecond_10 : decode cX7_isFirstOrSecond 10 = .ok (.goto 4, 3) := by decide +kernel
theorem dX7_isFirstOrSecond_13 : decode cX7_isFirstOrSecond 13 = .ok (.iconst 0, 1) := by decide +kernel
theorem dX7_isFirstOrSecond_14 : decode cX7_isFirstOrSecond 14 = .ok (.ireturn, 1) := by decide +kernel
theorem dX7_isOfKind_0 : decode cX7_isOfKind 0 = .ok (.iload_n 0, 1) := by decide +kernel
theorem dX7_isOfKind_1 : decode cX7_isOfKind 1 = .ok (.istore_n 2, 1) := by decide +kernel
theorem dX7_isOfKind_2 : decode cX7_isOfKind 2 = .ok (.iconst 0, 1) := by decide +kernel
theorem dX7_isOfKind_3 : decode cX7_isOfKind 3 = .ok (.istore_n 3, 1) := by decide +kernel
theorem dX7_isOfKind_4 : decode cX7_isOfKind 4 = .ok (.iload_n 3, 1) := by decide +kernel
theorem dX7_isOfKind_5 : decode cX7_isOfKind 5 = .ok (.getstatic 278, 3) := by decide +kernel
theorem dX7_isOfKind_8 : decode cX7_isOfKind 8 = .ok (.arraylength, 1) := by decide +kernel
theorem dX7_isOfKind_9 : decode cX7_isOfKind 9 = .ok (.if_icmp .ge 34, 3) := by decide +kernel
theorem dX7_isOfKind_12 : decode cX7_isOfKind 12 = .ok (.iload_n 2, 1) := by decide +kernel
theorem dX7_isOfKind_13 : decode cX7_isOfKind 13 = .ok (.ifCond .lt 30, 3) := by decide +kernel
theorem dX7_isOfKind_16 : decode cX7_isOfKind 16 = .ok (.iload_n 2, 1) := by decide +kernel
theorem dX7_isOfKind_17 : decode cX7_isOfKind 17 = .ok (.getstatic 278, 3) := by decide +kernel
theorem dX7_isOfKind_20 : decode cX7_isOfKind 20 = .ok (.arraylength, 1) := by decide +kernel
theorem dX7_isOfKind_21 : decode cX7_isOfKind 21 = .ok (.if_icmp .ge 22, 3) := by decide +kernel
theorem dX7_isOfKind_24 : decode cX7_isOfKind 24 = .ok (.iload_n 2, 1) := by decide +kernel
theorem dX7_isOfKind_25 : decode cX7_isOfKind 25 = .ok (.iload_n 1, 1) := by decide +kernel
theorem dX7_isOfKind_26 : decode cX7_isOfKind 26 = .ok (.if_icmp .ne 5, 3) := by decide +kernel
theorem dX7_isOfKind_29 : decode cX7_isOfKind 29 = .ok (.iconst 1, 1) := by decide +kernel
theorem dX7_isOfKind_30 : decode cX7_isOfKind 30 = .ok (.ireturn, 1) := by decide +kernel
theorem dX7_isOfKind_31 : decode cX7_isOfKind 31 = .ok (.getstatic 278, 3) := by decide +kernel
theorem dX7_isOfKind_34 : decode cX7_isOfKind 34 = .ok (.iload_n 2, 1) := by decide +kernel
theorem dX7_isOfKind_35 : decode cX7_isOfKind 35 = .ok (.iaload, 1) := by decide +kernel
theorem dX7_isOfKind_36 : decode cX7_isOfKind 36 = .ok (.istore_n 2, 1) := by decide +kernel
theorem dX7_isOfKind_37 : decode cX7_isOfKind 37 = .ok (.iinc 3 1, 3) := by decide +kernel
theorem dX7_isOfKind_40 : decode cX7_isOfKind 40 = .ok (.goto (-36), 3) := by decide +kernel
theorem dX7_isOfKind_43 : decode cX7_isOfKind 43 = .ok (.iconst 0, 1) := by decide +kernel
theorem dX7_isOfKind_44 : decode cX7_isOfKind 44 = .ok (.ireturn, 1) := by decide +kernel
theorem dX7_power_0 : decode cX7_power 0 = .ok (.iconst 1, 1) := by decide +kernel
theorem dX7_power_1 : decode cX7_power 1 = .ok (.istore_n 2, 1) := by decide +kernel
theorem dX7_power_2 : decode cX7_power 2 = .ok (.iconst 0, 1) := by decide +kernel
theorem dX7_power_3 : decode cX7_power 3 = .ok (.istore_n 3, 1) := by decide +kernel
theorem dX7_power_4 : decode cX7_power 4 = .ok (.iload_n 3, 1) := by decide +kernel
theorem dX7_power_5 : decode cX7_power 5 = .ok (.iload_n 1, 1) := by decide +kernel
theorem dX7_power_6 : decode cX7_power 6 = .ok (.if_icmp .ge 13, 3) := by decide +kernel
theorem dX7_power_9 : decode cX7_power 9 = .ok (.iload_n 2, 1) := by decide +kernel
theorem dX7_power_10 : decode cX7_power 10 = .ok (.iload_n 0, 1) := by decide +kernel
theorem dX7_power_11 : decode cX7_power 11 = .ok (.imul, 1) := by decide +kernel
theorem dX7_power_12 : decode cX7_power 12 = .ok (.istore_n 2, 1) := by decide +kernel
theorem dX7_power_13 : decode cX7_power 13 = .ok (.iinc 3 1, 3) := by decide +kernel
theorem dX7_power_16 : decode cX7_power 16 = .ok (.goto (-12), 3) := by decide +kernel
theorem dX7_power_19 : decode cX7_power 19 = .ok (.iload_n 2, 1) := by decide +kernel
theorem dX7_power_20 : decode cX7_power 20 = .ok (.ireturn, 1) := by decide +kernel
theorem dX7_commonDivisor_0 : decode cX7_commonDivisor 0 = .ok (.iload_n 0, 1) := by decide +kernel
theorem dX7_commonDivisor_1 : decode cX7_commonDivisor 1 = .ok (.istore_n 2, 1) := by decide +kernel
theorem dX7_commonDivisor_2 : decode cX7_commonDivisor 2 = .ok (.iload_n 1, 1) := by decide +kernel
theorem dX7_commonDivisor_3 : decode cX7_commonDivisor 3 = .ok (.istore_n 3, 1) := by decide +kernel
theorem dX7_commonDivisor_4 : decode cX7_commonDivisor 4 = .ok (.iconst 0, 1) := by decide +kernel
theorem dX7_commonDivisor_5 : decode cX7_commonDivisor 5 = .ok (.istore 4, 2) := by decide +kernel
theorem dX7_commonDivisor_7 : decode cX7_commonDivisor 7 = .ok (.iload 4, 2) := by decide +kernel
theorem dX7_commonDivisor_9 : decode cX7_commonDivisor 9 = .ok (.bipush 64, 2) := by decide +kernel
theorem dX7_commonDivisor_11 : decode cX7_commonDivisor 11 = .ok (.if_icmp .ge 23, 3) := by decide +kernel
theorem dX7_commonDivisor_14 : decode cX7_commonDivisor 14 = .ok (.iload_n 3, 1) := by decide +kernel
theorem dX7_commonDivisor_15 : decode cX7_commonDivisor 15 = .ok (.ifCond .eq 19, 3) := by decide +kernel
theorem dX7_commonDivisor_18 : decode cX7_commonDivisor 18 = .ok (.iload_n 2, 1) := by decide +kernel
theorem dX7_commonDivisor_19 : decode cX7_commonDivisor 19 = .ok (.iload_n 3, 1) := by decide +kernel
theorem dX7_commonDivisor_20 : decode cX7_commonDivisor 20 = .ok (.irem, 1) := by decide +kernel
theorem dX7_commonDivisor_21 : decode cX7_commonDivisor 21 = .ok (.istore 5, 2) := by decide +kernel
theorem dX7_commonDivisor_23 : decode cX7_commonDivisor 23 = .ok (.iload_n 3, 1) := by decide +kernel
theorem dX7_commonDivisor_24 : decode cX7_commonDivisor 24 = .ok (.istore_n 2, 1) := by decide +kernel
theorem dX7_commonDivisor_25 : decode cX7_commonDivisor 25 = .ok (.iload 5, 2) := by decide +kernel
theorem dX7_commonDivisor_27 : decode cX7_commonDivisor 27 = .ok (.istore_n 3, 1) := by decide +kernel
theorem dX7_commonDivisor_28 : decode cX7_commonDivisor 28 = .ok (.iinc 4 1, 3) := by decide +kernel
theorem dX7_commonDivisor_31 : decode cX7_commonDivisor 31 = .ok (.goto (-24), 3) := by decide +kernel
theorem dX7_commonDivisor_34 : decode cX7_commonDivisor 34 = .ok (.iload_n 2, 1) := by decide +kernel
theorem dX7_commonDivisor_35 : decode cX7_commonDivisor 35 = .ok (.ireturn, 1) := by decide +kernel
theorem dX7_found_0 : decode cX7_found 0 = .ok (.aload_n 0, 1) := by decide +kernel
theorem dX7_found_1 : decode cX7_found 1 = .ok (.iload_n 1, 1) := by decide +kernel
theorem dX7_found_2 : decode cX7_found 2 = .ok (.putfield 78, 3) := by decide +kernel
theorem dX7_found_5 : decode cX7_found 5 = .ok (.ldc_w 281, 3) := by decide +kernel
theorem dX7_found_8 : decode cX7_found 8 = .ok (.iload_n 1, 1) := by decide +kernel
theorem dX7_found_9 : decode cX7_found 9 = .ok (.isub, 1) := by decide +kernel
theorem dX7_found_10 : decode cX7_found 10 = .ok (.ireturn, 1) := by decide +kernel
set_option maxRecDepth 20000 in
theorem ggX7_findingOf_X5_isMissing : GoodIn wsX7_findingOf wsX5_isMissing := goodIn_r _ [6, 7, 24, 25, 26] (by decide +kernel) (by decide +kernel)
set_option maxRecDepth 20000 in
theorem gX7_findingOf_X5_isMissing : GoodIn wsX7_findingOf (wsV RX7 94 RX5 yX5_isMissing wsX5_isMissing) := goodIn_app (goodIn_of _ (by decide +kernel)) ggX7_findingOf_X5_isMissing
set_option maxRecDepth 20000 in
theorem ggX7_findingOf_X5_has : GoodIn wsX7_findingOf wsX5_has := goodIn_r _ [11, 12, 24, 25, 26] (by decide +kernel) (by decide +kernel)
set_option maxRecDepth 20000 in
theorem gX7_findingOf_X5_has : GoodIn wsX7_findingOf (wsV RX7 101 RX5 yX5_has wsX5_has) := goodIn_app (goodIn_of _ (by decide +kernel)) ggX7_findingOf_X5_has
theorem dX7_findingOf_0 : decode cX7_findingOf 0 = .ok (.aload_n 0, 1) := by decide +kernel
theorem dX7_findingOf_1 : decode cX7_findingOf 1 = .ok (.getfield 11, 3) := by decide +kernel
theorem dX7_findingOf_4 : decode cX7_findingOf 4 = .ok (.iload_n 1, 1) := by decide +kernel
theorem dX7_findingOf_5 : decode cX7_findingOf 5 = .ok (.aaload, 1) := by decide +kernel
theorem dX7_findingOf_6 : decode cX7_findingOf 6 = .ok (.astore 4, 2) := by decide +kernel
theorem dX7_findingOf_8 : decode cX7_findingOf 8 = .ok (.aload 4, 2) := by decide +kernel
theorem dX7_findingOf_10 : decode cX7_findingOf 10 = .ok (.invokevirtual 94, 3) := by decide +kernel
theorem dX7_findingOf_13 : decode cX7_findingOf 13 = .ok (.ifCond .eq 5, 3) := by decide +kernel
theorem dX7_findingOf_16 : decode cX7_findingOf 16 = .ok (.iconst 1, 1) := by decide +kernel
theorem dX7_findingOf_17 : decode cX7_findingOf 17 = .ok (.ireturn, 1) := by decide +kernel
theorem dX7_findingOf_18 : decode cX7_findingOf 18 = .ok (.aload 4, 2) := by decide +kernel
theorem dX7_findingOf_20 : decode cX7_findingOf 20 = .ok (.iload_n 2, 1) := by decide +kernel
theorem dX7_findingOf_21 : decode cX7_findingOf 21 = .ok (.iload_n 3, 1) := by decide +kernel
theorem dX7_findingOf_22 : decode cX7_findingOf 22 = .ok (.invokevirtual 101, 3) := by decide +kernel
theorem dX7_findingOf_25 : decode cX7_findingOf 25 = .ok (.ifCond .eq 7, 3) := by decide +kernel
theorem dX7_findingOf_28 : decode cX7_findingOf 28 = .ok (.iconst 0, 1) := by decide +kernel
theorem dX7_findingOf_29 : decode cX7_findingOf 29 = .ok (.goto 4, 3) := by decide +kernel
theorem dX7_findingOf_32 : decode cX7_findingOf 32 = .ok (.iconst 2, 1) := by decide +kernel
theorem dX7_findingOf_33 : decode cX7_findingOf 33 = .ok (.ireturn, 1) := by decide +kernel
set_option maxRecDepth 20000 in
theorem ggX7_rowsThere_X5_isMissing : GoodIn wsX7_rowsThere wsX5_isMissing := goodIn_r _ [6, 7, 19, 20, 21] (by decide +kernel) (by decide +kernel)
set_option maxRecDepth 20000 in
theorem gX7_rowsThere_X5_isMissing : GoodIn wsX7_rowsThere (wsV RX7 94 RX5 yX5_isMissing wsX5_isMissing) := goodIn_app (goodIn_of _ (by decide +kernel)) ggX7_rowsThere_X5_isMissing
theorem dX7_rowsThere_0 : decode cX7_rowsThere 0 = .ok (.iconst 0, 1) := by decide +kernel
theorem dX7_rowsThere_1 : decode cX7_rowsThere 1 = .ok (.istore_n 1, 1) := by decide +kernel
theorem dX7_rowsThere_2 : decode cX7_rowsThere 2 = .ok (.iconst 0, 1) := by decide +kernel
theorem dX7_rowsThere_3 : decode cX7_rowsThere 3 = .ok (.istore_n 2, 1) := by decide +kernel
theorem dX7_rowsThere_4 : decode cX7_rowsThere 4 = .ok (.iload_n 2, 1) := by decide +kernel
theorem dX7_rowsThere_5 : decode cX7_rowsThere 5 = .ok (.bipush 8, 2) := by decide +kernel
theorem dX7_rowsThere_7 : decode cX7_rowsThere 7 = .ok (.if_icmp .ge 24, 3) := by decide +kernel
theorem dX7_rowsThere_10 : decode cX7_rowsThere 10 = .ok (.aload_n 0, 1) := by decide +kernel
theorem dX7_rowsThere_11 : decode cX7_rowsThere 11 = .ok (.getfield 11, 3) := by decide +kernel
theorem dX7_rowsThere_14 : decode cX7_rowsThere 14 = .ok (.iload_n 2, 1) := by decide +kernel
theorem dX7_rowsThere_15 : decode cX7_rowsThere 15 = .ok (.aaload, 1) := by decide +kernel
theorem dX7_rowsThere_16 : decode cX7_rowsThere 16 = .ok (.invokevirtual 94, 3) := by decide +kernel
theorem dX7_rowsThere_19 : decode cX7_rowsThere 19 = .ok (.ifCond .ne 6, 3) := by decide +kernel
theorem dX7_rowsThere_22 : decode cX7_rowsThere 22 = .ok (.iinc 1 1, 3) := by decide +kernel
theorem dX7_rowsThere_25 : decode cX7_rowsThere 25 = .ok (.iinc 2 1, 3) := by decide +kernel
theorem dX7_rowsThere_28 : decode cX7_rowsThere 28 = .ok (.goto (-24), 3) := by decide +kernel
theorem dX7_rowsThere_31 : decode cX7_rowsThere 31 = .ok (.iload_n 1, 1) := by decide +kernel
theorem dX7_rowsThere_32 : decode cX7_rowsThere 32 = .ok (.ireturn, 1) := by decide +kernel
set_option maxRecDepth 20000 in
theorem ggX7_fewestByHand_X7_comesByHand : GoodIn wsX7_fewestByHand wsX7_comesByHand := goodIn_r _ [6, 7, 8, 1, 9, 10, 11, 12, 13, 14, 15, 16, 17, 18, 19, 20, 21, 22, 23, 24, 25, 26, 27, 28, 29, 30, 31, 32, 33, 34, 35, 36, 37, 38, 39, 40, 41, 42, 43, 44, 45, 46, 47, 48, 49, 50, 51, 52, 53, 54, 55, 56, 57, 58, 59, 60, 61, 62, 63, 64, 65, 66, 67, 68, 74, 75, 76, 77, 78, 79, 80, 81, 82, 83, 84, 85, 86, 87, 88, 89] (by decide +kernel) (by decide +kernel)
set_option maxRecDepth 20000 in
theorem gX7_fewestByHand_X7_comesByHand : GoodIn wsX7_fewestByHand (wsV RX7 282 RX7 yX7_comesByHand wsX7_comesByHand) := goodIn_app (goodIn_of _ (by decide +kernel)) ggX7_fewestByHand_X7_comesByHand
set_option maxRecDepth 20000 in
theorem ggX7_fewestByHand_X7_isPair : GoodIn wsX7_fewestByHand wsX7_isPair := goodIn_r _ [72, 8, 73, 74, 75, 76, 77, 78, 79, 80, 81, 82, 83, 84, 85, 86, 87, 88, 89] (by decide +kernel) (by decide +kernel)
set_option maxRecDepth 20000 in
theorem gX7_fewestByHand_X7_isPair : GoodIn wsX7_fewestByHand (wsV RX7 285 RX7 yX7_isPair wsX7_isPair) := goodIn_app (goodIn_of _ (by decide +kernel)) ggX7_fewestByHand_X7_isPair
theorem dX7_fewestByHand_0 : decode cX7_fewestByHand 0 = .ok (.aload_n 0, 1) := by decide +kernel
theorem dX7_fewestByHand_1 : decode cX7_fewestByHand 1 = .ok (.getfield 64, 3) := by decide +kernel
theorem dX7_fewestByHand_4 : decode cX7_fewestByHand 4 = .ok (.iconst 0, 1) := by decide +kernel
theorem dX7_fewestByHand_5 : decode cX7_fewestByHand 5 = .ok (.iconst 0, 1) := by decide +kernel
theorem dX7_fewestByHand_6 : decode cX7_fewestByHand 6 = .ok (.iastore, 1) := by decide +kernel
theorem dX7_fewestByHand_7 : decode cX7_fewestByHand 7 = .ok (.aload_n 0, 1) := by decide +kernel
theorem dX7_fewestByHand_8 : decode cX7_fewestByHand 8 = .ok (.getfield 64, 3) := by decide +kernel
theorem dX7_fewestByHand_11 : decode cX7_fewestByHand 11 = .ok (.iconst 1, 1) := by decide +kernel
theorem dX7_fewestByHand_12 : decode cX7_fewestByHand 12 = .ok (.iconst 0, 1) := by decide +kernel
theorem dX7_fewestByHand_13 : decode cX7_fewestByHand 13 = .ok (.iastore, 1) := by decide +kernel
theorem dX7_fewestByHand_14 : decode cX7_fewestByHand 14 = .ok (.aload_n 0, 1) := by decide +kernel
theorem dX7_fewestByHand_15 : decode cX7_fewestByHand 15 = .ok (.iload_n 1, 1) := by decide +kernel
theorem dX7_fewestByHand_16 : decode cX7_fewestByHand 16 = .ok (.iload_n 2, 1) := by decide +kernel
theorem dX7_fewestByHand_17 : decode cX7_fewestByHand 17 = .ok (.invokevirtual 282, 3) := by decide +kernel
theorem dX7_fewestByHand_20 : decode cX7_fewestByHand 20 = .ok (.ifCond .eq 5, 3) := by decide +kernel
theorem dX7_fewestByHand_23 : decode cX7_fewestByHand 23 = .ok (.iconst 0, 1) := by decide +kernel
theorem dX7_fewestByHand_24 : decode cX7_fewestByHand 24 = .ok (.ireturn, 1) := by decide +kernel
theorem dX7_fewestByHand_25 : decode cX7_fewestByHand 25 = .ok (.iconst 1, 1) := by decide +kernel
theorem dX7_fewestByHand_26 : decode cX7_fewestByHand 26 = .ok (.istore_n 3, 1) := by decide +kernel
theorem dX7_fewestByHand_27 : decode cX7_fewestByHand 27 = .ok (.iload_n 3, 1) := by decide +kernel
theorem dX7_fewestByHand_28 : decode cX7_fewestByHand 28 = .ok (.bipush 56, 2) := by decide +kernel
theorem dX7_fewestByHand_30 : decode cX7_fewestByHand 30 = .ok (.if_icmp .gt 35, 3) := by decide +kernel
theorem dX7_fewestByHand_33 : decode cX7_fewestByHand 33 = .ok (.aload_n 0, 1) := by decide +kernel
theorem dX7_fewestByHand_34 : decode cX7_fewestByHand 34 = .ok (.getfield 64, 3) := by decide +kernel
theorem dX7_fewestByHand_37 : decode cX7_fewestByHand 37 = .ok (.iconst 0, 1) := by decide +kernel
theorem dX7_fewestByHand_38 : decode cX7_fewestByHand 38 = .ok (.iload_n 3, 1) := by decide +kernel
theorem dX7_fewestByHand_39 : decode cX7_fewestByHand 39 = .ok (.iastore, 1) := by decide +kernel
theorem dX7_fewestByHand_40 : decode cX7_fewestByHand 40 = .ok (.aload_n 0, 1) := by decide +kernel
theorem dX7_fewestByHand_41 : decode cX7_fewestByHand 41 = .ok (.iload_n 3, 1) := by decide +kernel
theorem dX7_fewestByHand_42 : decode cX7_fewestByHand 42 = .ok (.invokevirtual 285, 3) := by decide +kernel
theorem dX7_fewestByHand_45 : decode cX7_fewestByHand 45 = .ok (.ifCond .eq 14, 3) := by decide +kernel
theorem dX7_fewestByHand_48 : decode cX7_fewestByHand 48 = .ok (.aload_n 0, 1) := by decide +kernel
theorem dX7_fewestByHand_49 : decode cX7_fewestByHand 49 = .ok (.iload_n 1, 1) := by decide +kernel
theorem dX7_fewestByHand_50 : decode cX7_fewestByHand 50 = .ok (.iload_n 2, 1) := by decide +kernel
theorem dX7_fewestByHand_51 : decode cX7_fewestByHand 51 = .ok (.invokevirtual 282, 3) := by decide +kernel
theorem dX7_fewestByHand_54 : decode cX7_fewestByHand 54 = .ok (.ifCond .eq 5, 3) := by decide +kernel
theorem dX7_fewestByHand_57 : decode cX7_fewestByHand 57 = .ok (.iconst 1, 1) := by decide +kernel
theorem dX7_fewestByHand_58 : decode cX7_fewestByHand 58 = .ok (.ireturn, 1) := by decide +kernel
theorem dX7_fewestByHand_59 : decode cX7_fewestByHand 59 = .ok (.iinc 3 1, 3) := by decide +kernel
theorem dX7_fewestByHand_62 : decode cX7_fewestByHand 62 = .ok (.goto (-35), 3) := by decide +kernel
theorem dX7_fewestByHand_65 : decode cX7_fewestByHand 65 = .ok (.iconst 1, 1) := by decide +kernel
theorem dX7_fewestByHand_66 : decode cX7_fewestByHand 66 = .ok (.istore_n 3, 1) := by decide +kernel
theorem dX7_fewestByHand_67 : decode cX7_fewestByHand 67 = .ok (.iload_n 3, 1) := by decide +kernel
theorem dX7_fewestByHand_68 : decode cX7_fewestByHand 68 = .ok (.bipush 56, 2) := by decide +kernel
theorem dX7_fewestByHand_70 : decode cX7_fewestByHand 70 = .ok (.if_icmp .gt 68, 3) := by decide +kernel
theorem dX7_fewestByHand_73 : decode cX7_fewestByHand 73 = .ok (.iconst 1, 1) := by decide +kernel
theorem dX7_fewestByHand_74 : decode cX7_fewestByHand 74 = .ok (.istore 4, 2) := by decide +kernel
theorem dX7_fewestByHand_76 : decode cX7_fewestByHand 76 = .ok (.iload 4, 2) := by decide +kernel
theorem dX7_fewestByHand_78 : decode cX7_fewestByHand 78 = .ok (.bipush 56, 2) := by decide +kernel
theorem dX7_fewestByHand_80 : decode cX7_fewestByHand 80 = .ok (.if_icmp .gt 52, 3) := by decide +kernel
theorem dX7_fewestByHand_83 : decode cX7_fewestByHand 83 = .ok (.aload_n 0, 1) := by decide +kernel
theorem dX7_fewestByHand_84 : decode cX7_fewestByHand 84 = .ok (.getfield 64, 3) := by decide +kernel
theorem dX7_fewestByHand_87 : decode cX7_fewestByHand 87 = .ok (.iconst 0, 1) := by decide +kernel
theorem dX7_fewestByHand_88 : decode cX7_fewestByHand 88 = .ok (.iload_n 3, 1) := by decide +kernel
theorem dX7_fewestByHand_89 : decode cX7_fewestByHand 89 = .ok (.iastore, 1) := by decide +kernel
theorem dX7_fewestByHand_90 : decode cX7_fewestByHand 90 = .ok (.aload_n 0, 1) := by decide +kernel
theorem dX7_fewestByHand_91 : decode cX7_fewestByHand 91 = .ok (.getfield 64, 3) := by decide +kernel
theorem dX7_fewestByHand_94 : decode cX7_fewestByHand 94 = .ok (.iconst 1, 1) := by decide +kernel
theorem dX7_fewestByHand_95 : decode cX7_fewestByHand 95 = .ok (.iload 4, 2) := by decide +kernel
theorem dX7_fewestByHand_97 : decode cX7_fewestByHand 97 = .ok (.iastore, 1) := by decide +kernel
theorem dX7_fewestByHand_98 : decode cX7_fewestByHand 98 = .ok (.aload_n 0, 1) := by decide +kernel
theorem dX7_fewestByHand_99 : decode cX7_fewestByHand 99 = .ok (.iload_n 3, 1) := by decide +kernel
theorem dX7_fewestByHand_100 : decode cX7_fewestByHand 100 = .ok (.invokevirtual 285, 3) := by decide +kernel
theorem dX7_fewestByHand_103 : decode cX7_fewestByHand 103 = .ok (.ifCond .eq 23, 3) := by decide +kernel
theorem dX7_fewestByHand_106 : decode cX7_fewestByHand 106 = .ok (.aload_n 0, 1) := by decide +kernel
theorem dX7_fewestByHand_107 : decode cX7_fewestByHand 107 = .ok (.iload 4, 2) := by decide +kernel
theorem dX7_fewestByHand_109 : decode cX7_fewestByHand 109 = .ok (.invokevirtual 285, 3) := by decide +kernel
theorem dX7_fewestByHand_112 : decode cX7_fewestByHand 112 = .ok (.ifCond .eq 14, 3) := by decide +kernel
theorem dX7_fewestByHand_115 : decode cX7_fewestByHand 115 = .ok (.aload_n 0, 1) := by decide +kernel
theorem dX7_fewestByHand_116 : decode cX7_fewestByHand 116 = .ok (.iload_n 1, 1) := by decide +kernel
theorem dX7_fewestByHand_117 : decode cX7_fewestByHand 117 = .ok (.iload_n 2, 1) := by decide +kernel
theorem dX7_fewestByHand_118 : decode cX7_fewestByHand 118 = .ok (.invokevirtual 282, 3) := by decide +kernel
theorem dX7_fewestByHand_121 : decode cX7_fewestByHand 121 = .ok (.ifCond .eq 5, 3) := by decide +kernel
theorem dX7_fewestByHand_124 : decode cX7_fewestByHand 124 = .ok (.iconst 2, 1) := by decide +kernel
theorem dX7_fewestByHand_125 : decode cX7_fewestByHand 125 = .ok (.ireturn, 1) := by decide +kernel
theorem dX7_fewestByHand_126 : decode cX7_fewestByHand 126 = .ok (.iinc 4 1, 3) := by decide +kernel
theorem dX7_fewestByHand_129 : decode cX7_fewestByHand 129 = .ok (.goto (-53), 3) := by decide +kernel
theorem dX7_fewestByHand_132 : decode cX7_fewestByHand 132 = .ok (.iinc 3 1, 3) := by decide +kernel
theorem dX7_fewestByHand_135 : decode cX7_fewestByHand 135 = .ok (.goto (-68), 3) := by decide +kernel
theorem dX7_fewestByHand_138 : decode cX7_fewestByHand 138 = .ok (.iconst (-1), 1) := by decide +kernel
theorem dX7_fewestByHand_139 : decode cX7_fewestByHand 139 = .ok (.ireturn, 1) := by decide +kernel
theorem dX7_isPair_0 : decode cX7_isPair 0 = .ok (.iload_n 1, 1) := by decide +kernel
theorem dX7_isPair_1 : decode cX7_isPair 1 = .ok (.bipush 10, 2) := by decide +kernel
theorem dX7_isPair_3 : decode cX7_isPair 3 = .ok (.idiv, 1) := by decide +kernel
theorem dX7_isPair_4 : decode cX7_isPair 4 = .ok (.iload_n 1, 1) := by decide +kernel
theorem dX7_isPair_5 : decode cX7_isPair 5 = .ok (.bipush 10, 2) := by decide +kernel
theorem dX7_isPair_7 : decode cX7_isPair 7 = .ok (.irem, 1) := by decide +kernel
theorem dX7_isPair_8 : decode cX7_isPair 8 = .ok (.if_icmp .ge 21, 3) := by decide +kernel
theorem dX7_isPair_11 : decode cX7_isPair 11 = .ok (.iload_n 1, 1) := by decide +kernel
theorem dX7_isPair_12 : decode cX7_isPair 12 = .ok (.bipush 10, 2) := by decide +kernel
theorem dX7_isPair_14 : decode cX7_isPair 14 = .ok (.irem, 1) := by decide +kernel
theorem dX7_isPair_15 : decode cX7_isPair 15 = .ok (.aload_n 0, 1) := by decide +kernel
theorem dX7_isPair_16 : decode cX7_isPair 16 = .ok (.getfield 25, 3) := by decide +kernel
theorem dX7_isPair_19 : decode cX7_isPair 19 = .ok (.getfield 139, 3) := by decide +kernel
theorem dX7_isPair_22 : decode cX7_isPair 22 = .ok (.if_icmp .ge 7, 3) := by decide +kernel
theorem dX7_isPair_25 : decode cX7_isPair 25 = .ok (.iconst 1, 1) := by decide +kernel
theorem dX7_isPair_26 : decode cX7_isPair 26 = .ok (.goto 4, 3) := by decide +kernel
theorem dX7_isPair_29 : decode cX7_isPair 29 = .ok (.iconst 0, 1) := by decide +kernel
theorem dX7_isPair_30 : decode cX7_isPair 30 = .ok (.ireturn, 1) := by decide +kernel
set_option maxRecDepth 20000 in
theorem ggX7_comesByHand_X4_become : GoodIn wsX7_comesByHand wsX4_become := goodIn_r _ [9, 10, 11, 12, 13, 14, 15, 16, 17, 18, 75, 76, 77, 78, 79] (by decide +kernel) (by decide +kernel)
set_option maxRecDepth 20000 in
theorem gX7_comesByHand_X4_become : GoodIn wsX7_comesByHand (wsV RX7 132 RX4 yX4_become wsX4_become) := goodIn_app (goodIn_of _ (by decide +kernel)) ggX7_comesByHand_X4_become
set_option maxRecDepth 20000 in
theorem ggX7_comesByHand_X4_exchange : GoodIn wsX7_comesByHand wsX4_exchange := goodIn_r _ [22, 15, 75, 76, 77, 78, 79] (by decide +kernel) (by decide +kernel)
set_option maxRecDepth 20000 in
theorem gX7_comesByHand_X4_exchange : GoodIn wsX7_comesByHand (wsV RX7 157 RX4 yX4_exchange wsX4_exchange) := goodIn_app (goodIn_of _ (by decide +kernel)) ggX7_comesByHand_X4_exchange
set_option maxRecDepth 20000 in
theorem ggX7_comesByHand_X4_advanceToMatins : GoodIn wsX7_comesByHand wsX4_advanceToMatins := goodIn_r _ [26, 27, 28, 29, 8, 30, 16, 17, 31, 32, 33, 34, 10, 15, 35, 36, 37, 38, 39, 40, 41, 42, 43, 44, 45, 46, 47, 20, 21, 22, 48, 49, 50, 51, 52, 53, 54, 55, 18, 56, 57, 58, 59, 60, 61, 62, 63, 75, 76, 77, 78, 79] (by decide +kernel) (by decide +kernel)
set_option maxRecDepth 20000 in
theorem gX7_comesByHand_X4_advanceToMatins : GoodIn wsX7_comesByHand (wsV RX7 183 RX4 yX4_advanceToMatins wsX4_advanceToMatins) := goodIn_app (goodIn_of _ (by decide +kernel)) ggX7_comesByHand_X4_advanceToMatins
theorem dX7_comesByHand_0 : decode cX7_comesByHand 0 = .ok (.aload_n 0, 1) := by decide +kernel
theorem dX7_comesByHand_1 : decode cX7_comesByHand 1 = .ok (.getfield 29, 3) := by decide +kernel
theorem dX7_comesByHand_4 : decode cX7_comesByHand 4 = .ok (.aload_n 0, 1) := by decide +kernel
theorem dX7_comesByHand_5 : decode cX7_comesByHand 5 = .ok (.getfield 25, 3) := by decide +kernel
theorem dX7_comesByHand_8 : decode cX7_comesByHand 8 = .ok (.invokevirtual 132, 3) := by decide +kernel
theorem dX7_comesByHand_11 : decode cX7_comesByHand 11 = .ok (.aload_n 0, 1) := by decide +kernel
theorem dX7_comesByHand_12 : decode cX7_comesByHand 12 = .ok (.getfield 29, 3) := by decide +kernel
theorem dX7_comesByHand_15 : decode cX7_comesByHand 15 = .ok (.aload_n 0, 1) := by decide +kernel
theorem dX7_comesByHand_16 : decode cX7_comesByHand 16 = .ok (.getfield 64, 3) := by decide +kernel
theorem dX7_comesByHand_19 : decode cX7_comesByHand 19 = .ok (.iconst 0, 1) := by decide +kernel
theorem dX7_comesByHand_20 : decode cX7_comesByHand 20 = .ok (.iaload, 1) := by decide +kernel
theorem dX7_comesByHand_21 : decode cX7_comesByHand 21 = .ok (.bipush 10, 2) := by decide +kernel
theorem dX7_comesByHand_23 : decode cX7_comesByHand 23 = .ok (.idiv, 1) := by decide +kernel
theorem dX7_comesByHand_24 : decode cX7_comesByHand 24 = .ok (.aload_n 0, 1) := by decide +kernel
theorem dX7_comesByHand_25 : decode cX7_comesByHand 25 = .ok (.getfield 64, 3) := by decide +kernel
theorem dX7_comesByHand_28 : decode cX7_comesByHand 28 = .ok (.iconst 0, 1) := by decide +kernel
theorem dX7_comesByHand_29 : decode cX7_comesByHand 29 = .ok (.iaload, 1) := by decide +kernel
theorem dX7_comesByHand_30 : decode cX7_comesByHand 30 = .ok (.bipush 10, 2) := by decide +kernel
theorem dX7_comesByHand_32 : decode cX7_comesByHand 32 = .ok (.irem, 1) := by decide +kernel
theorem dX7_comesByHand_33 : decode cX7_comesByHand 33 = .ok (.invokevirtual 157, 3) := by decide +kernel
theorem dX7_comesByHand_36 : decode cX7_comesByHand 36 = .ok (.aload_n 0, 1) := by decide +kernel
theorem dX7_comesByHand_37 : decode cX7_comesByHand 37 = .ok (.getfield 29, 3) := by decide +kernel
theorem dX7_comesByHand_40 : decode cX7_comesByHand 40 = .ok (.aload_n 0, 1) := by decide +kernel
theorem dX7_comesByHand_41 : decode cX7_comesByHand 41 = .ok (.getfield 64, 3) := by decide +kernel
theorem dX7_comesByHand_44 : decode cX7_comesByHand 44 = .ok (.iconst 1, 1) := by decide +kernel
theorem dX7_comesByHand_45 : decode cX7_comesByHand 45 = .ok (.iaload, 1) := by decide +kernel
theorem dX7_comesByHand_46 : decode cX7_comesByHand 46 = .ok (.bipush 10, 2) := by decide +kernel
theorem dX7_comesByHand_48 : decode cX7_comesByHand 48 = .ok (.idiv, 1) := by decide +kernel
theorem dX7_comesByHand_49 : decode cX7_comesByHand 49 = .ok (.aload_n 0, 1) := by decide +kernel
theorem dX7_comesByHand_50 : decode cX7_comesByHand 50 = .ok (.getfield 64, 3) := by decide +kernel
theorem dX7_comesByHand_53 : decode cX7_comesByHand 53 = .ok (.iconst 1, 1) := by decide +kernel
theorem dX7_comesByHand_54 : decode cX7_comesByHand 54 = .ok (.iaload, 1) := by decide +kernel
theorem dX7_comesByHand_55 : decode cX7_comesByHand 55 = .ok (.bipush 10, 2) := by decide +kernel
theorem dX7_comesByHand_57 : decode cX7_comesByHand 57 = .ok (.irem, 1) := by decide +kernel
theorem dX7_comesByHand_58 : decode cX7_comesByHand 58 = .ok (.invokevirtual 157, 3) := by decide +kernel
theorem dX7_comesByHand_61 : decode cX7_comesByHand 61 = .ok (.aload_n 0, 1) := by decide +kernel
theorem dX7_comesByHand_62 : decode cX7_comesByHand 62 = .ok (.getfield 29, 3) := by decide +kernel
theorem dX7_comesByHand_65 : decode cX7_comesByHand 65 = .ok (.invokevirtual 183, 3) := by decide +kernel
theorem dX7_comesByHand_68 : decode cX7_comesByHand 68 = .ok (.aload_n 0, 1) := by decide +kernel
theorem dX7_comesByHand_69 : decode cX7_comesByHand 69 = .ok (.getfield 29, 3) := by decide +kernel
theorem dX7_comesByHand_72 : decode cX7_comesByHand 72 = .ok (.getfield 160, 3) := by decide +kernel
theorem dX7_comesByHand_75 : decode cX7_comesByHand 75 = .ok (.iload_n 1, 1) := by decide +kernel
theorem dX7_comesByHand_76 : decode cX7_comesByHand 76 = .ok (.iaload, 1) := by decide +kernel
theorem dX7_comesByHand_77 : decode cX7_comesByHand 77 = .ok (.iload_n 2, 1) := by decide +kernel
theorem dX7_comesByHand_78 : decode cX7_comesByHand 78 = .ok (.if_icmp .ne 7, 3) := by decide +kernel
theorem dX7_comesByHand_81 : decode cX7_comesByHand 81 = .ok (.iconst 1, 1) := by decide +kernel
theorem dX7_comesByHand_82 : decode cX7_comesByHand 82 = .ok (.goto 4, 3) := by decide +kernel
theorem dX7_comesByHand_85 : decode cX7_comesByHand 85 = .ok (.iconst 0, 1) := by decide +kernel
theorem dX7_comesByHand_86 : decode cX7_comesByHand 86 = .ok (.ireturn, 1) := by decide +kernel
set_option maxRecDepth 20000 in
theorem ggX7_areCluesAsTold_X4_isSaint : GoodIn wsX7_areCluesAsTold wsX4_isSaint := goodIn_r _ [6, 7, 26, 27, 28, 29, 30] (by decide +kernel) (by decide +kernel)
set_option maxRecDepth 20000 in
theorem gX7_areCluesAsTold_X4_isSaint : GoodIn wsX7_areCluesAsTold (wsV RX7 154 RX4 yX4_isSaint wsX4_isSaint) := goodIn_app (goodIn_of _ (by decide +kernel)) ggX7_areCluesAsTold_X4_isSaint
set_option maxRecDepth 20000 in
theorem ggX7_areCluesAsTold_X7_isRow : GoodIn wsX7_areCluesAsTold wsX7_isRow := goodIn_r _ [11] (by decide +kernel) (by decide +kernel)
set_option maxRecDepth 20000 in
theorem gX7_areCluesAsTold_X7_isRow : GoodIn wsX7_areCluesAsTold (va_wsS RX7 69 yX7_isRow wsX7_isRow) := goodIn_app (goodIn_of _ (by decide +kernel)) ggX7_areCluesAsTold_X7_isRow
set_option maxRecDepth 20000 in
theorem ggX7_areCluesAsTold_X7_isFirstOrSecond : GoodIn wsX7_areCluesAsTold wsX7_isFirstOrSecond := goodIn_r _ [14] (by decide +kernel) (by decide +kernel)
set_option maxRecDepth 20000 in
theorem gX7_areCluesAsTold_X7_isFirstOrSecond : GoodIn wsX7_areCluesAsTold (va_wsS RX7 170 yX7_isFirstOrSecond wsX7_isFirstOrSecond) := goodIn_app (goodIn_of _ (by decide +kernel)) ggX7_areCluesAsTold_X7_isFirstOrSecond
theorem dX7_areCluesAsTold_0 : decode cX7_areCluesAsTold 0 = .ok (.aload_n 0, 1) := by decide +kernel
theorem dX7_areCluesAsTold_1 : decode cX7_areCluesAsTold 1 = .ok (.getfield 25, 3) := by decide +kernel
theorem dX7_areCluesAsTold_4 : decode cX7_areCluesAsTold 4 = .ok (.iload_n 1, 1) := by decide +kernel
theorem dX7_areCluesAsTold_5 : decode cX7_areCluesAsTold 5 = .ok (.invokevirtual 154, 3) := by decide +kernel
theorem dX7_areCluesAsTold_8 : decode cX7_areCluesAsTold 8 = .ok (.ifCond .eq 33, 3) := by decide +kernel
theorem dX7_areCluesAsTold_11 : decode cX7_areCluesAsTold 11 = .ok (.iload_n 2, 1) := by decide +kernel
theorem dX7_areCluesAsTold_12 : decode cX7_areCluesAsTold 12 = .ok (.invokestatic 69, 3) := by decide +kernel
theorem dX7_areCluesAsTold_15 : decode cX7_areCluesAsTold 15 = .ok (.ifCond .eq 26, 3) := by decide +kernel
theorem dX7_areCluesAsTold_18 : decode cX7_areCluesAsTold 18 = .ok (.iload_n 3, 1) := by decide +kernel
theorem dX7_areCluesAsTold_19 : decode cX7_areCluesAsTold 19 = .ok (.iconst 1, 1) := by decide +kernel
theorem dX7_areCluesAsTold_20 : decode cX7_areCluesAsTold 20 = .ok (.if_icmp .lt 21, 3) := by decide +kernel
theorem dX7_areCluesAsTold_23 : decode cX7_areCluesAsTold 23 = .ok (.iload_n 3, 1) := by decide +kernel
theorem dX7_areCluesAsTold_24 : decode cX7_areCluesAsTold 24 = .ok (.bipush 12, 2) := by decide +kernel
theorem dX7_areCluesAsTold_26 : decode cX7_areCluesAsTold 26 = .ok (.if_icmp .gt 15, 3) := by decide +kernel
theorem dX7_areCluesAsTold_29 : decode cX7_areCluesAsTold 29 = .ok (.iload 4, 2) := by decide +kernel
theorem dX7_areCluesAsTold_31 : decode cX7_areCluesAsTold 31 = .ok (.invokestatic 170, 3) := by decide +kernel
theorem dX7_areCluesAsTold_34 : decode cX7_areCluesAsTold 34 = .ok (.ifCond .eq 7, 3) := by decide +kernel
theorem dX7_areCluesAsTold_37 : decode cX7_areCluesAsTold 37 = .ok (.iconst 1, 1) := by decide +kernel
theorem dX7_areCluesAsTold_38 : decode cX7_areCluesAsTold 38 = .ok (.goto 4, 3) := by decide +kernel
theorem dX7_areCluesAsTold_41 : decode cX7_areCluesAsTold 41 = .ok (.iconst 0, 1) := by decide +kernel
theorem dX7_areCluesAsTold_42 : decode cX7_areCluesAsTold 42 = .ok (.ireturn, 1) := by decide +kernel
set_option maxRecDepth 20000 in
theorem ggX7_kindsThatFit_X4_become : GoodIn wsX7_kindsThatFit wsX4_become := goodIn_r _ [8, 9, 10, 11, 12, 13, 14, 15, 16, 17, 77, 78, 79, 80, 81] (by decide +kernel) (by decide +kernel)
set_option maxRecDepth 20000 in
theorem gX7_kindsThatFit_X4_become : GoodIn wsX7_kindsThatFit (wsV RX7 132 RX4 yX4_become wsX4_become) := goodIn_app (goodIn_of _ (by decide +kernel)) ggX7_kindsThatFit_X4_become
set_option maxRecDepth 20000 in
theorem ggX7_kindsThatFit_X7_trialShows : GoodIn wsX7_kindsThatFit wsX7_trialShows := goodIn_r _ [22, 23, 1, 24, 25, 26, 27, 28, 7, 29, 15, 16, 30, 31, 32, 33, 9, 14, 34, 35, 36, 37, 38, 39, 40, 41, 42, 43, 44, 45, 46, 47, 48, 49, 50, 51, 52, 53, 54, 55, 56, 57, 17, 58, 59, 60, 61, 62, 63, 64, 65, 66, 67, 68, 69, 70, 71, 72, 73, 74, 75, 76, 77, 78, 79, 80, 81, 82, 83, 84] (by decide +kernel) (by decide +kernel)
set_option maxRecDepth 20000 in
theorem gX7_kindsThatFit_X7_trialShows : GoodIn wsX7_kindsThatFit (wsV RX7 288 RX7 yX7_trialShows wsX7_trialShows) := goodIn_app (goodIn_of _ (by decide +kernel)) ggX7_kindsThatFit_X7_trialShows
theorem dX7_kindsThatFit_0 : decode cX7_kindsThatFit 0 = .ok (.iconst 0, 1) := by decide +kernel
theorem dX7_kindsThatFit_1 : decode cX7_kindsThatFit 1 = .ok (.istore 5, 2) := by decide +kernel
theorem dX7_kindsThatFit_3 : decode cX7_kindsThatFit 3 = .ok (.iconst 1, 1) := by decide +kernel
theorem dX7_kindsThatFit_4 : decode cX7_kindsThatFit 4 = .ok (.istore 6, 2) := by decide +kernel
theorem dX7_kindsThatFit_6 : decode cX7_kindsThatFit 6 = .ok (.iload 6, 2) := by decide +kernel
theorem dX7_kindsThatFit_8 : decode cX7_kindsThatFit 8 = .ok (.iconst 5, 1) := by decide +kernel
theorem dX7_kindsThatFit_9 : decode cX7_kindsThatFit 9 = .ok (.if_icmp .gt 52, 3) := by decide +kernel
theorem dX7_kindsThatFit_12 : decode cX7_kindsThatFit 12 = .ok (.aload_n 0, 1) := by decide +kernel
theorem dX7_kindsThatFit_13 : decode cX7_kindsThatFit 13 = .ok (.getfield 29, 3) := by decide +kernel
theorem dX7_kindsThatFit_16 : decode cX7_kindsThatFit 16 = .ok (.aload_n 0, 1) := by decide +kernel
theorem dX7_kindsThatFit_17 : decode cX7_kindsThatFit 17 = .ok (.getfield 25, 3) := by decide +kernel
theorem dX7_kindsThatFit_20 : decode cX7_kindsThatFit 20 = .ok (.invokevirtual 132, 3) := by decide +kernel
theorem dX7_kindsThatFit_23 : decode cX7_kindsThatFit 23 = .ok (.aload_n 0, 1) := by decide +kernel
theorem dX7_kindsThatFit_24 : decode cX7_kindsThatFit 24 = .ok (.getfield 29, 3) := by decide +kernel
theorem dX7_kindsThatFit_27 : decode cX7_kindsThatFit 27 = .ok (.getfield 256, 3) := by decide +kernel
theorem dX7_kindsThatFit_30 : decode cX7_kindsThatFit 30 = .ok (.iload_n 1, 1) := by decide +kernel
theorem dX7_kindsThatFit_31 : decode cX7_kindsThatFit 31 = .ok (.iload 6, 2) := by decide +kernel
theorem dX7_kindsThatFit_33 : decode cX7_kindsThatFit 33 = .ok (.iastore, 1) := by decide +kernel
theorem dX7_kindsThatFit_34 : decode cX7_kindsThatFit 34 = .ok (.aload_n 0, 1) := by decide +kernel
theorem dX7_kindsThatFit_35 : decode cX7_kindsThatFit 35 = .ok (.iload_n 1, 1) := by decide +kernel
theorem dX7_kindsThatFit_36 : decode cX7_kindsThatFit 36 = .ok (.iload_n 2, 1) := by decide +kernel
theorem dX7_kindsThatFit_37 : decode cX7_kindsThatFit 37 = .ok (.iload_n 3, 1) := by decide +kernel
theorem dX7_kindsThatFit_38 : decode cX7_kindsThatFit 38 = .ok (.iload 4, 2) := by decide +kernel
theorem dX7_kindsThatFit_40 : decode cX7_kindsThatFit 40 = .ok (.invokevirtual 288, 3) := by decide +kernel
theorem dX7_kindsThatFit_43 : decode cX7_kindsThatFit 43 = .ok (.ifCond .eq 12, 3) := by decide +kernel
theorem dX7_kindsThatFit_46 : decode cX7_kindsThatFit 46 = .ok (.iload 5, 2) := by decide +kernel
theorem dX7_kindsThatFit_48 : decode cX7_kindsThatFit 48 = .ok (.iconst 1, 1) := by decide +kernel
theorem dX7_kindsThatFit_49 : decode cX7_kindsThatFit 49 = .ok (.iload 6, 2) := by decide +kernel
theorem dX7_kindsThatFit_51 : decode cX7_kindsThatFit 51 = .ok (.ishl, 1) := by decide +kernel
theorem dX7_kindsThatFit_52 : decode cX7_kindsThatFit 52 = .ok (.ior, 1) := by decide +kernel
theorem dX7_kindsThatFit_53 : decode cX7_kindsThatFit 53 = .ok (.istore 5, 2) := by decide +kernel
theorem dX7_kindsThatFit_55 : decode cX7_kindsThatFit 55 = .ok (.iinc 6 1, 3) := by decide +kernel
theorem dX7_kindsThatFit_58 : decode cX7_kindsThatFit 58 = .ok (.goto (-52), 3) := by decide +kernel
theorem dX7_kindsThatFit_61 : decode cX7_kindsThatFit 61 = .ok (.iload 5, 2) := by decide +kernel
theorem dX7_kindsThatFit_63 : decode cX7_kindsThatFit 63 = .ok (.ireturn, 1) := by decide +kernel
set_option maxRecDepth 20000 in
theorem ggX7_nightsThatFit_X4_become : GoodIn wsX7_nightsThatFit wsX4_become := goodIn_r _ [8, 9, 10, 11, 12, 13, 14, 15, 16, 17, 77, 78, 79, 80, 81] (by decide +kernel) (by decide +kernel)
set_option maxRecDepth 20000 in
theorem gX7_nightsThatFit_X4_become : GoodIn wsX7_nightsThatFit (wsV RX7 132 RX4 yX4_become wsX4_become) := goodIn_app (goodIn_of _ (by decide +kernel)) ggX7_nightsThatFit_X4_become
set_option maxRecDepth 20000 in
theorem ggX7_nightsThatFit_X7_trialShows : GoodIn wsX7_nightsThatFit wsX7_trialShows := goodIn_r _ [22, 23, 1, 24, 25, 26, 27, 28, 7, 29, 15, 16, 30, 31, 32, 33, 9, 14, 34, 35, 36, 37, 38, 39, 40, 41, 42, 43, 44, 45, 46, 47, 48, 49, 50, 51, 52, 53, 54, 55, 56, 57, 17, 58, 59, 60, 61, 62, 63, 64, 65, 66, 67, 68, 69, 70, 71, 72, 73, 74, 75, 76, 77, 78, 79, 80, 81, 82, 83, 84] (by decide +kernel) (by decide +kernel)
set_option maxRecDepth 20000 in
theorem gX7_nightsThatFit_X7_trialShows : GoodIn wsX7_nightsThatFit (wsV RX7 288 RX7 yX7_trialShows wsX7_trialShows) := goodIn_app (goodIn_of _ (by decide +kernel)) ggX7_nightsThatFit_X7_trialShows
theorem dX7_nightsThatFit_0 : decode cX7_nightsThatFit 0 = .ok (.iconst 0, 1) := by decide +kernel
theorem dX7_nightsThatFit_1 : decode cX7_nightsThatFit 1 = .ok (.istore 5, 2) := by decide +kernel
theorem dX7_nightsThatFit_3 : decode cX7_nightsThatFit 3 = .ok (.iconst 1, 1) := by decide +kernel
theorem dX7_nightsThatFit_4 : decode cX7_nightsThatFit 4 = .ok (.istore 6, 2) := by decide +kernel
theorem dX7_nightsThatFit_6 : decode cX7_nightsThatFit 6 = .ok (.iload 6, 2) := by decide +kernel
theorem dX7_nightsThatFit_8 : decode cX7_nightsThatFit 8 = .ok (.bipush 9, 2) := by decide +kernel
theorem dX7_nightsThatFit_10 : decode cX7_nightsThatFit 10 = .ok (.if_icmp .gt 50, 3) := by decide +kernel
theorem dX7_nightsThatFit_13 : decode cX7_nightsThatFit 13 = .ok (.aload_n 0, 1) := by decide +kernel
theorem dX7_nightsThatFit_14 : decode cX7_nightsThatFit 14 = .ok (.getfield 29, 3) := by decide +kernel
theorem dX7_nightsThatFit_17 : decode cX7_nightsThatFit 17 = .ok (.aload_n 0, 1) := by decide +kernel
theorem dX7_nightsThatFit_18 : decode cX7_nightsThatFit 18 = .ok (.getfield 25, 3) := by decide +kernel
theorem dX7_nightsThatFit_21 : decode cX7_nightsThatFit 21 = .ok (.invokevirtual 132, 3) := by decide +kernel
theorem dX7_nightsThatFit_24 : decode cX7_nightsThatFit 24 = .ok (.aload_n 0, 1) := by decide +kernel
theorem dX7_nightsThatFit_25 : decode cX7_nightsThatFit 25 = .ok (.getfield 29, 3) := by decide +kernel
theorem dX7_nightsThatFit_28 : decode cX7_nightsThatFit 28 = .ok (.iload 6, 2) := by decide +kernel
theorem dX7_nightsThatFit_30 : decode cX7_nightsThatFit 30 = .ok (.putfield 163, 3) := by decide +kernel
theorem dX7_nightsThatFit_33 : decode cX7_nightsThatFit 33 = .ok (.aload_n 0, 1) := by decide +kernel
theorem dX7_nightsThatFit_34 : decode cX7_nightsThatFit 34 = .ok (.iload_n 1, 1) := by decide +kernel
theorem dX7_nightsThatFit_35 : decode cX7_nightsThatFit 35 = .ok (.iload_n 2, 1) := by decide +kernel
theorem dX7_nightsThatFit_36 : decode cX7_nightsThatFit 36 = .ok (.iload_n 3, 1) := by decide +kernel
theorem dX7_nightsThatFit_37 : decode cX7_nightsThatFit 37 = .ok (.iload 4, 2) := by decide +kernel
theorem dX7_nightsThatFit_39 : decode cX7_nightsThatFit 39 = .ok (.invokevirtual 288, 3) := by decide +kernel
theorem dX7_nightsThatFit_42 : decode cX7_nightsThatFit 42 = .ok (.ifCond .eq 12, 3) := by decide +kernel
theorem dX7_nightsThatFit_45 : decode cX7_nightsThatFit 45 = .ok (.iload 5, 2) := by decide +kernel
theorem dX7_nightsThatFit_47 : decode cX7_nightsThatFit 47 = .ok (.iconst 1, 1) := by decide +kernel
theorem dX7_nightsThatFit_48 : decode cX7_nightsThatFit 48 = .ok (.iload 6, 2) := by decide +kernel
theorem dX7_nightsThatFit_50 : decode cX7_nightsThatFit 50 = .ok (.ishl, 1) := by decide +kernel
theorem dX7_nightsThatFit_51 : decode cX7_nightsThatFit 51 = .ok (.ior, 1) := by decide +kernel
theorem dX7_nightsThatFit_52 : decode cX7_nightsThatFit 52 = .ok (.istore 5, 2) := by decide +kernel
theorem dX7_nightsThatFit_54 : decode cX7_nightsThatFit 54 = .ok (.iinc 6 1, 3) := by decide +kernel
theorem dX7_nightsThatFit_57 : decode cX7_nightsThatFit 57 = .ok (.goto (-51), 3) := by decide +kernel
theorem dX7_nightsThatFit_60 : decode cX7_nightsThatFit 60 = .ok (.iload 5, 2) := by decide +kernel
theorem dX7_nightsThatFit_62 : decode cX7_nightsThatFit 62 = .ok (.ireturn, 1) := by decide +kernel
set_option maxRecDepth 20000 in
theorem ggX7_ordersThatFit_X3_begin : GoodIn wsX7_ordersThatFit wsX3_begin := goodIn_r _ [16, 17, 18, 19, 20, 21, 22, 15, 23, 24, 25, 26, 27, 28, 29, 30, 31, 32, 33, 34, 35, 36, 37, 115, 116, 117, 118, 119, 120, 121, 122] (by decide +kernel) (by decide +kernel)
set_option maxRecDepth 20000 in
theorem gX7_ordersThatFit_X3_begin : GoodIn wsX7_ordersThatFit (wsV RX7 291 RX3 yX3_begin wsX3_begin) := goodIn_app (goodIn_of _ (by decide +kernel)) ggX7_ordersThatFit_X3_begin
set_option maxRecDepth 20000 in
theorem ggX7_ordersThatFit_X4_become : GoodIn wsX7_ordersThatFit wsX4_become := goodIn_r _ [42, 43, 44, 8, 9, 10, 45, 46, 47, 48, 118, 119, 120, 121, 122] (by decide +kernel) (by decide +kernel)
set_option maxRecDepth 20000 in
theorem gX7_ordersThatFit_X4_become : GoodIn wsX7_ordersThatFit (wsV RX7 132 RX4 yX4_become wsX4_become) := goodIn_app (goodIn_of _ (by decide +kernel)) ggX7_ordersThatFit_X4_become
set_option maxRecDepth 20000 in
theorem ggX7_ordersThatFit_X7_trialShows : GoodIn wsX7_ordersThatFit wsX7_trialShows := goodIn_r _ [53, 54, 3, 5, 55, 56, 57, 58, 41, 59, 46, 47, 60, 61, 62, 63, 43, 45, 64, 65, 66, 67, 68, 69, 70, 71, 72, 73, 74, 75, 76, 77, 78, 79, 80, 81, 82, 83, 84, 85, 86, 87, 48, 88, 89, 90, 91, 92, 93, 94, 95, 104, 105, 106, 107, 108, 109, 110, 111, 112, 113, 114, 118, 119, 120, 121, 122, 123, 124, 125] (by decide +kernel) (by decide +kernel)
set_option maxRecDepth 20000 in
theorem gX7_ordersThatFit_X7_trialShows : GoodIn wsX7_ordersThatFit (wsV RX7 288 RX7 yX7_trialShows wsX7_trialShows) := goodIn_app (goodIn_of _ (by decide +kernel)) ggX7_ordersThatFit_X7_trialShows
set_option maxRecDepth 20000 in
theorem ggX7_ordersThatFit_X3_next : GoodIn wsX7_ordersThatFit wsX3_next := goodIn_r _ [99, 17, 19, 100, 101, 102, 15, 103, 115, 116, 117] (by decide +kernel) (by decide +kernel)
set_option maxRecDepth 20000 in
theorem gX7_ordersThatFit_X3_next : GoodIn wsX7_ordersThatFit (wsV RX7 295 RX3 yX3_next wsX3_next) := goodIn_app (goodIn_of _ (by decide +kernel)) ggX7_ordersThatFit_X3_next
theorem dX7_ordersThatFit_0 : decode cX7_ordersThatFit 0 = .ok (.aload_n 0, 1) := by decide +kernel
theorem dX7_ordersThatFit_1 : decode cX7_ordersThatFit 1 = .ok (.getfield 53, 3) := by decide +kernel
theorem dX7_ordersThatFit_4 : decode cX7_ordersThatFit 4 = .ok (.aload_n 0, 1) := by decide +kernel
theorem dX7_ordersThatFit_5 : decode cX7_ordersThatFit 5 = .ok (.getfield 25, 3) := by decide +kernel
theorem dX7_ordersThatFit_8 : decode cX7_ordersThatFit 8 = .ok (.invokevirtual 291, 3) := by decide +kernel
theorem dX7_ordersThatFit_11 : decode cX7_ordersThatFit 11 = .ok (.istore 6, 2) := by decide +kernel
theorem dX7_ordersThatFit_13 : decode cX7_ordersThatFit 13 = .ok (.iconst 0, 1) := by decide +kernel
theorem dX7_ordersThatFit_14 : decode cX7_ordersThatFit 14 = .ok (.istore 7, 2) := by decide +kernel
theorem dX7_ordersThatFit_16 : decode cX7_ordersThatFit 16 = .ok (.iconst 0, 1) := by decide +kernel
theorem dX7_ordersThatFit_17 : decode cX7_ordersThatFit 17 = .ok (.istore 8, 2) := by decide +kernel
theorem dX7_ordersThatFit_19 : decode cX7_ordersThatFit 19 = .ok (.iload 8, 2) := by decide +kernel
theorem dX7_ordersThatFit_21 : decode cX7_ordersThatFit 21 = .ok (.iload 6, 2) := by decide +kernel
theorem dX7_ordersThatFit_23 : decode cX7_ordersThatFit 23 = .ok (.if_icmp .ge 77, 3) := by decide +kernel
theorem dX7_ordersThatFit_26 : decode cX7_ordersThatFit 26 = .ok (.aload_n 0, 1) := by decide +kernel
theorem dX7_ordersThatFit_27 : decode cX7_ordersThatFit 27 = .ok (.getfield 29, 3) := by decide +kernel
theorem dX7_ordersThatFit_30 : decode cX7_ordersThatFit 30 = .ok (.aload_n 0, 1) := by decide +kernel
theorem dX7_ordersThatFit_31 : decode cX7_ordersThatFit 31 = .ok (.getfield 25, 3) := by decide +kernel
theorem dX7_ordersThatFit_34 : decode cX7_ordersThatFit 34 = .ok (.invokevirtual 132, 3) := by decide +kernel
theorem dX7_ordersThatFit_37 : decode cX7_ordersThatFit 37 = .ok (.aload_n 0, 1) := by decide +kernel
theorem dX7_ordersThatFit_38 : decode cX7_ordersThatFit 38 = .ok (.getfield 53, 3) := by decide +kernel
theorem dX7_ordersThatFit_41 : decode cX7_ordersThatFit 41 = .ok (.getfield 294, 3) := by decide +kernel
theorem dX7_ordersThatFit_44 : decode cX7_ordersThatFit 44 = .ok (.iconst 0, 1) := by decide +kernel
theorem dX7_ordersThatFit_45 : decode cX7_ordersThatFit 45 = .ok (.aload_n 0, 1) := by decide +kernel
theorem dX7_ordersThatFit_46 : decode cX7_ordersThatFit 46 = .ok (.getfield 29, 3) := by decide +kernel
theorem dX7_ordersThatFit_49 : decode cX7_ordersThatFit 49 = .ok (.getfield 160, 3) := by decide +kernel
theorem dX7_ordersThatFit_52 : decode cX7_ordersThatFit 52 = .ok (.iconst 0, 1) := by decide +kernel
theorem dX7_ordersThatFit_53 : decode cX7_ordersThatFit 53 = .ok (.aload_n 0, 1) := by decide +kernel
theorem dX7_ordersThatFit_54 : decode cX7_ordersThatFit 54 = .ok (.getfield 25, 3) := by decide +kernel
theorem dX7_ordersThatFit_57 : decode cX7_ordersThatFit 57 = .ok (.getfield 139, 3) := by decide +kernel
theorem dX7_ordersThatFit_60 : decode cX7_ordersThatFit 60 = .ok (.invokestatic 108, 3) := by decide +kernel
theorem dX7_ordersThatFit_63 : decode cX7_ordersThatFit 63 = .ok (.aload_n 0, 1) := by decide +kernel
theorem dX7_ordersThatFit_64 : decode cX7_ordersThatFit 64 = .ok (.iload_n 1, 1) := by decide +kernel
theorem dX7_ordersThatFit_65 : decode cX7_ordersThatFit 65 = .ok (.iload_n 2, 1) := by decide +kernel
theorem dX7_ordersThatFit_66 : decode cX7_ordersThatFit 66 = .ok (.iload_n 3, 1) := by decide +kernel
theorem dX7_ordersThatFit_67 : decode cX7_ordersThatFit 67 = .ok (.iload 4, 2) := by decide +kernel
theorem dX7_ordersThatFit_69 : decode cX7_ordersThatFit 69 = .ok (.invokevirtual 288, 3) := by decide +kernel
theorem dX7_ordersThatFit_72 : decode cX7_ordersThatFit 72 = .ok (.ifCond .eq 15, 3) := by decide +kernel
theorem dX7_ordersThatFit_75 : decode cX7_ordersThatFit 75 = .ok (.iload 5, 2) := by decide +kernel
theorem dX7_ordersThatFit_77 : decode cX7_ordersThatFit 77 = .ok (.iconst 1, 1) := by decide +kernel
theorem dX7_ordersThatFit_78 : decode cX7_ordersThatFit 78 = .ok (.if_icmp .ne 6, 3) := by decide +kernel
theorem dX7_ordersThatFit_81 : decode cX7_ordersThatFit 81 = .ok (.iload 8, 2) := by decide +kernel
theorem dX7_ordersThatFit_83 : decode cX7_ordersThatFit 83 = .ok (.ireturn, 1) := by decide +kernel
theorem dX7_ordersThatFit_84 : decode cX7_ordersThatFit 84 = .ok (.iinc 7 1, 3) := by decide +kernel
theorem dX7_ordersThatFit_87 : decode cX7_ordersThatFit 87 = .ok (.aload_n 0, 1) := by decide +kernel
theorem dX7_ordersThatFit_88 : decode cX7_ordersThatFit 88 = .ok (.getfield 53, 3) := by decide +kernel
theorem dX7_ordersThatFit_91 : decode cX7_ordersThatFit 91 = .ok (.invokevirtual 295, 3) := by decide +kernel
theorem dX7_ordersThatFit_94 : decode cX7_ordersThatFit 94 = .ok (.iinc 8 1, 3) := by decide +kernel
theorem dX7_ordersThatFit_97 : decode cX7_ordersThatFit 97 = .ok (.goto (-78), 3) := by decide +kernel
theorem dX7_ordersThatFit_100 : decode cX7_ordersThatFit 100 = .ok (.iload 5, 2) := by decide +kernel
theorem dX7_ordersThatFit_102 : decode cX7_ordersThatFit 102 = .ok (.ifCond .ne 8, 3) := by decide +kernel
theorem dX7_ordersThatFit_105 : decode cX7_ordersThatFit 105 = .ok (.iload 7, 2) := by decide +kernel
theorem dX7_ordersThatFit_107 : decode cX7_ordersThatFit 107 = .ok (.goto 5, 3) := by decide +kernel
theorem dX7_ordersThatFit_110 : decode cX7_ordersThatFit 110 = .ok (.ldc 182, 2) := by decide +kernel
theorem dX7_ordersThatFit_112 : decode cX7_ordersThatFit 112 = .ok (.ireturn, 1) := by decide +kernel
set_option maxRecDepth 20000 in
theorem ggX7_trialShows_X4_advance : GoodIn wsX7_trialShows wsX4_advance := goodIn_r _ [9, 10, 11, 12, 13, 14, 8, 15, 16, 17, 18, 19, 20, 21, 22, 23, 24, 25, 26, 27, 28, 29, 30, 31, 32, 33, 34, 35, 36, 37, 38, 39, 40, 41, 42, 43, 44, 45, 46, 47, 48, 49, 50, 62, 63, 64, 65, 66] (by decide +kernel) (by decide +kernel)
set_option maxRecDepth 20000 in
theorem gX7_trialShows_X4_advance : GoodIn wsX7_trialShows (wsV RX7 150 RX4 yX4_advance wsX4_advance) := goodIn_app (goodIn_of _ (by decide +kernel)) ggX7_trialShows_X4_advance
theorem dX7_trialShows_0 : decode cX7_trialShows 0 = .ok (.aload_n 0, 1) := by decide +kernel
theorem dX7_trialShows_1 : decode cX7_trialShows 1 = .ok (.getfield 11, 3) := by decide +kernel
theorem dX7_trialShows_4 : decode cX7_trialShows 4 = .ok (.iload_n 2, 1) := by decide +kernel
theorem dX7_trialShows_5 : decode cX7_trialShows 5 = .ok (.aaload, 1) := by decide +kernel
theorem dX7_trialShows_6 : decode cX7_trialShows 6 = .ok (.astore 5, 2) := by decide +kernel
theorem dX7_trialShows_8 : decode cX7_trialShows 8 = .ok (.iconst 0, 1) := by decide +kernel
theorem dX7_trialShows_9 : decode cX7_trialShows 9 = .ok (.istore 6, 2) := by decide +kernel
theorem dX7_trialShows_11 : decode cX7_trialShows 11 = .ok (.iload 6, 2) := by decide +kernel
theorem dX7_trialShows_13 : decode cX7_trialShows 13 = .ok (.iload 4, 2) := by decide +kernel
theorem dX7_trialShows_15 : decode cX7_trialShows 15 = .ok (.if_icmp .ge 41, 3) := by decide +kernel
theorem dX7_trialShows_18 : decode cX7_trialShows 18 = .ok (.aload_n 0, 1) := by decide +kernel
theorem dX7_trialShows_19 : decode cX7_trialShows 19 = .ok (.getfield 29, 3) := by decide +kernel
theorem dX7_trialShows_22 : decode cX7_trialShows 22 = .ok (.iconst 0, 1) := by decide +kernel
theorem dX7_trialShows_23 : decode cX7_trialShows 23 = .ok (.invokevirtual 150, 3) := by decide +kernel
theorem dX7_trialShows_26 : decode cX7_trialShows 26 = .ok (.aload_n 0, 1) := by decide +kernel
theorem dX7_trialShows_27 : decode cX7_trialShows 27 = .ok (.getfield 29, 3) := by decide +kernel
theorem dX7_trialShows_30 : decode cX7_trialShows 30 = .ok (.getfield 160, 3) := by decide +kernel
theorem dX7_trialShows_33 : decode cX7_trialShows 33 = .ok (.iload_n 1, 1) := by decide +kernel
theorem dX7_trialShows_34 : decode cX7_trialShows 34 = .ok (.iaload, 1) := by decide +kernel
theorem dX7_trialShows_35 : decode cX7_trialShows 35 = .ok (.aload 5, 2) := by decide +kernel
theorem dX7_trialShows_37 : decode cX7_trialShows 37 = .ok (.getfield 105, 3) := by decide +kernel
theorem dX7_trialShows_40 : decode cX7_trialShows 40 = .ok (.iload_n 3, 1) := by decide +kernel
theorem dX7_trialShows_41 : decode cX7_trialShows 41 = .ok (.iload 6, 2) := by decide +kernel
theorem dX7_trialShows_43 : decode cX7_trialShows 43 = .ok (.iadd, 1) := by decide +kernel
theorem dX7_trialShows_44 : decode cX7_trialShows 44 = .ok (.iaload, 1) := by decide +kernel
theorem dX7_trialShows_45 : decode cX7_trialShows 45 = .ok (.if_icmp .eq 5, 3) := by decide +kernel
theorem dX7_trialShows_48 : decode cX7_trialShows 48 = .ok (.iconst 0, 1) := by decide +kernel
theorem dX7_trialShows_49 : decode cX7_trialShows 49 = .ok (.ireturn, 1) := by decide +kernel
theorem dX7_trialShows_50 : decode cX7_trialShows 50 = .ok (.iinc 6 1, 3) := by decide +kernel
theorem dX7_trialShows_53 : decode cX7_trialShows 53 = .ok (.goto (-42), 3) := by decide +kernel
theorem dX7_trialShows_56 : decode cX7_trialShows 56 = .ok (.iconst 1, 1) := by decide +kernel
theorem dX7_trialShows_57 : decode cX7_trialShows 57 = .ok (.ireturn, 1) := by decide +kernel
theorem dX8_init_0 : decode cX8_init 0 = .ok (.aload_n 0, 1) := by decide +kernel
theorem dX8_init_1 : decode cX8_init 1 = .ok (.invokespecial 1, 3) := by decide +kernel
theorem dX8_init_4 : decode cX8_init 4 = .ok (.aload_n 0, 1) := by decide +kernel
theorem dX8_init_5 : decode cX8_init 5 = .ok (.sipush 301, 3) := by decide +kernel
theorem dX8_init_8 : decode cX8_init 8 = .ok (.newarray .int, 2) := by decide +kernel
theorem dX8_init_10 : decode cX8_init 10 = .ok (.putfield 7, 3) := by decide +kernel
theorem dX8_init_13 : decode cX8_init 13 = .ok (.aload_n 0, 1) := by decide +kernel
theorem dX8_init_14 : decode cX8_init 14 = .ok (.bipush 50, 2) := by decide +kernel
theorem dX8_init_16 : decode cX8_init 16 = .ok (.newarray .int, 2) := by decide +kernel
theorem dX8_init_18 : decode cX8_init 18 = .ok (.putfield 13, 3) := by decide +kernel
theorem dX8_init_21 : decode cX8_init 21 = .ok (.aload_n 0, 1) := by decide +kernel
theorem dX8_init_22 : decode cX8_init 22 = .ok (.bipush 8, 2) := by decide +kernel
theorem dX8_init_24 : decode cX8_init 24 = .ok (.newarray .int, 2) := by decide +kernel
theorem dX8_init_26 : decode cX8_init 26 = .ok (.putfield 16, 3) := by decide +kernel
theorem dX8_init_29 : decode cX8_init 29 = .ok (.aload_n 0, 1) := by decide +kernel
theorem dX8_init_30 : decode cX8_init 30 = .ok (.bipush 8, 2) := by decide +kernel
theorem dX8_init_32 : decode cX8_init 32 = .ok (.newarray .int, 2) := by decide +kernel
theorem dX8_init_34 : decode cX8_init 34 = .ok (.putfield 19, 3) := by decide +kernel
theorem dX8_init_37 : decode cX8_init 37 = .ok (.aload_n 0, 1) := by decide +kernel
theorem dX8_init_38 : decode cX8_init 38 = .ok (.sipush 320, 3) := by decide +kernel
theorem dX8_init_41 : decode cX8_init 41 = .ok (.newarray .int, 2) := by decide +kernel
theorem dX8_init_43 : decode cX8_init 43 = .ok (.putfield 22, 3) := by decide +kernel
theorem dX8_init_46 : decode cX8_init 46 = .ok (.aload_n 0, 1) := by decide +kernel
theorem dX8_init_47 : decode cX8_init 47 = .ok (.bipush 40, 2) := by decide +kernel
theorem dX8_init_49 : decode cX8_init 49 = .ok (.newarray .int, 2) := by decide +kernel
theorem dX8_init_51 : decode cX8_init 51 = .ok (.putfield 25, 3) := by decide +kernel
theorem dX8_init_54 : decode cX8_init 54 = .ok (.aload_n 0, 1) := by decide +kernel
theorem dX8_init_55 : decode cX8_init 55 = .ok (.bipush 10, 2) := by decide +kernel
theorem dX8_init_57 : decode cX8_init 57 = .ok (.newarray .int, 2) := by decide +kernel
theorem dX8_init_59 : decode cX8_init 59 = .ok (.putfield 28, 3) := by decide +kernel
theorem dX8_init_62 : decode cX8_init 62 = .ok (.aload_n 0, 1) := by decide +kernel
theorem dX8_init_63 : decode cX8_init 63 = .ok (.bipush 7, 2) := by decide +kernel
theorem dX8_init_65 : decode cX8_init 65 = .ok (.newarray .int, 2) := by decide +kernel
theorem dX8_init_67 : decode cX8_init 67 = .ok (.putfield 31, 3) := by decide +kernel
theorem dX8_init_70 : decode cX8_init 70 = .ok (.aload_n 0, 1) := by decide +kernel
theorem dX8_init_71 : decode cX8_init 71 = .ok (.bipush 7, 2) := by decide +kernel
theorem dX8_init_73 : decode cX8_init 73 = .ok (.newarray .int, 2) := by decide +kernel
theorem dX8_init_75 : decode cX8_init 75 = .ok (.putfield 34, 3) := by decide +kernel
theorem dX8_init_78 : decode cX8_init 78 = .ok (.aload_n 0, 1) := by decide +kernel
theorem dX8_init_79 : decode cX8_init 79 = .ok (.bipush 7, 2) := by decide +kernel
theorem dX8_init_81 : decode cX8_init 81 = .ok (.newarray .int, 2) := by decide +kernel
theorem dX8_init_83 : decode cX8_init 83 = .ok (.putfield 37, 3) := by decide +kernel
theorem dX8_init_86 : decode cX8_init 86 = .ok (.aload_n 0, 1) := by decide +kernel
theorem dX8_init_87 : decode cX8_init 87 = .ok (.bipush 7, 2) := by decide +kernel
theorem dX8_init_89 : decode cX8_init 89 = .ok (.newarray .int, 2) := by decide +kernel
theorem dX8_init_91 : decode cX8_init 91 = .ok (.putfield 40, 3) := by decide +kernel
theorem dX8_init_94 : decode cX8_init 94 = .ok (.aload_n 0, 1) := by decide +kernel
theorem dX8_init_95 : decode cX8_init 95 = .ok (.bipush 8, 2) := by decide +kernel
theorem dX8_init_97 : decode cX8_init 97 = .ok (.newarray .int, 2) := by decide +kernel
theorem dX8_init_99 : decode cX8_init 99 = .ok (.putfield 43, 3) := by decide +kernel
theorem dX8_init_102 : decode cX8_init 102 = .ok (.aload_n 0, 1) := by decide +kernel
theorem dX8_init_103 : decode cX8_init 103 = .ok (.bipush 21, 2) := by decide +kernel
theorem dX8_init_105 : decode cX8_init 105 = .ok (.newarray .int, 2) := by decide +kernel
theorem dX8_init_107 : decode cX8_init 107 = .ok (.putfield 46, 3) := by decide +kernel
theorem dX8_init_110 : decode cX8_init 110 = .ok (.aload_n 0, 1) := by decide +kernel
theorem dX8_init_111 : decode cX8_init 111 = .ok (.bipush 7, 2) := by decide +kernel
theorem dX8_init_113 : decode cX8_init 113 = .ok (.newarray .int, 2) := by decide +kernel
theorem dX8_init_115 : decode cX8_init 115 = .ok (.putfield 49, 3) := by decide +kernel
theorem dX8_init_118 : decode cX8_init 118 = .ok (.aload_n 0, 1) := by decide +kernel
theorem dX8_init_119 : decode cX8_init 119 = .ok (.bipush 16, 2) := by decide +kernel
theorem dX8_init_121 : decode cX8_init 121 = .ok (.newarray .int, 2) := by decide +kernel
theorem dX8_init_123 : decode cX8_init 123 = .ok (.putfield 52, 3) := by decide +kernel
theorem dX8_init_126 : decode cX8_init 126 = .ok (.iconst 0, 1) := by decide +kernel
theorem dX8_init_127 : decode cX8_init 127 = .ok (.istore_n 1, 1) := by decide +kernel
theorem dX8_init_128 : decode cX8_init 128 = .ok (.iload_n 1, 1) := by decide +kernel
theorem dX8_init_129 : decode cX8_init 129 = .ok (.bipush 8, 2) := by decide +kernel
theorem dX8_init_131 : decode cX8_init 131 = .ok (.if_icmp .ge 16, 3) := by decide +kernel
theorem dX8_init_134 : decode cX8_init 134 = .ok (.aload_n 0, 1) := by decide +kernel
theorem dX8_init_135 : decode cX8_init 135 = .ok (.getfield 16, 3) := by decide +kernel
theorem dX8_init_138 : decode cX8_init 138 = .ok (.iload_n 1, 1) := by decide +kernel
theorem dX8_init_139 : decode cX8_init 139 = .ok (.iconst (-1), 1) := by decide +kernel
theorem dX8_init_140 : decode cX8_init 140 = .ok (.iastore, 1) := by decide +kernel
theorem dX8_init_141 : decode cX8_init 141 = .ok (.iinc 1 1, 3) := by decide +kernel
theorem dX8_init_144 : decode cX8_init 144 = .ok (.goto (-16), 3) := by decide +kernel
theorem dX8_init_147 : decode cX8_init 147 = .ok (.return_, 1) := by decide +kernel
theorem dX8_in_0 : decode cX8_in 0 = .ok (.lload_n 0, 1) := by decide +kernel
theorem dX8_in_1 : decode cX8_in 1 = .ok (.lload_n 2, 1) := by decide +kernel
theorem dX8_in_2 : decode cX8_in 2 = .ok (.lcmp, 1) := by decide +kernel
theorem dX8_in_3 : decode cX8_in 3 = .ok (.ifCond .lt 14, 3) := by decide +kernel
theorem dX8_in_6 : decode cX8_in 6 = .ok (.lload_n 0, 1) := by decide +kernel
theorem dX8_in_7 : decode cX8_in 7 = .ok (.lload 4, 2) := by decide +kernel
theorem dX8_in_9 : decode cX8_in 9 = .ok (.lcmp, 1) := by decide +kernel
theorem dX8_in_10 : decode cX8_in 10 = .ok (.ifCond .gt 7, 3) := by decide +kernel
theorem dX8_in_13 : decode cX8_in 13 = .ok (.iconst 1, 1) := by decide +kernel
theorem dX8_in_14 : decode cX8_in 14 = .ok (.goto 4, 3) := by decide +kernel
theorem dX8_in_17 : decode cX8_in 17 = .ok (.iconst 0, 1) := by decide +kernel
theorem dX8_in_18 : decode cX8_in 18 = .ok (.ireturn, 1) := by decide +kernel
theorem dX8_has_0 : decode cX8_has 0 = .ok (.iload_n 0, 1) := by decide +kernel
theorem dX8_has_1 : decode cX8_has 1 = .ok (.iload_n 1, 1) := by decide +kernel
theorem dX8_has_2 : decode cX8_has 2 = .ok (.ishr, 1) := by decide +kernel
theorem dX8_has_3 : decode cX8_has 3 = .ok (.iconst 1, 1) := by decide +kernel
theorem dX8_has_4 : decode cX8_has 4 = .ok (.iand, 1) := by decide +kernel
theorem dX8_has_5 : decode cX8_has 5 = .ok (.iconst 1, 1) := by decide +kernel
theorem dX8_has_6 : decode cX8_has 6 = .ok (.if_icmp .ne 7, 3) := by decide +kernel
theorem dX8_has_9 : decode cX8_has 9 = .ok (.iconst 1, 1) := by decide +kernel
theorem dX8_has_10 : decode cX8_has 10 = .ok (.goto 4, 3) := by decide +kernel
theorem dX8_has_13 : decode cX8_has 13 = .ok (.iconst 0, 1) := by decide +kernel
theorem dX8_has_14 : decode cX8_has 14 = .ok (.ireturn, 1) := by decide +kernel
theorem dX8_copyOf_0 : decode cX8_copyOf 0 = .ok (.iconst 0, 1) := by decide +kernel
theorem dX8_copyOf_1 : decode cX8_copyOf 1 = .ok (.istore 4, 2) := by decide +kernel
theorem dX8_copyOf_3 : decode cX8_copyOf 3 = .ok (.iload 4, 2) := by decide +kernel
theorem dX8_copyOf_5 : decode cX8_copyOf 5 = .ok (.iload_n 3, 1) := by decide +kernel
theorem dX8_copyOf_6 : decode cX8_copyOf 6 = .ok (.if_icmp .ge 27, 3) := by decide +kernel
theorem dX8_copyOf_9 : decode cX8_copyOf 9 = .ok (.aload_n 0, 1) := by decide +kernel
theorem dX8_copyOf_10 : decode cX8_copyOf 10 = .ok (.getfield 7, 3) := by decide +kernel
theorem dX8_copyOf_13 : decode cX8_copyOf 13 = .ok (.iload_n 2, 1) := by decide +kernel
theorem dX8_copyOf_14 : decode cX8_copyOf 14 = .ok (.iload 4, 2) := by decide +kernel
theorem dX8_copyOf_16 : decode cX8_copyOf 16 = .ok (.iadd, 1) := by decide +kernel
theorem dX8_copyOf_17 : decode cX8_copyOf 17 = .ok (.aload_n 0, 1) := by decide +kernel
theorem dX8_copyOf_18 : decode cX8_copyOf 18 = .ok (.getfield 7, 3) := by decide +kernel
theorem dX8_copyOf_21 : decode cX8_copyOf 21 = .ok (.iload_n 1, 1) := by decide +kernel
theorem dX8_copyOf_22 : decode cX8_copyOf 22 = .ok (.iload 4, 2) := by decide +kernel
theorem dX8_copyOf_24 : decode cX8_copyOf 24 = .ok (.iadd, 1) := by decide +kernel
theorem dX8_copyOf_25 : decode cX8_copyOf 25 = .ok (.iaload, 1) := by decide +kernel
theorem dX8_copyOf_26 : decode cX8_copyOf 26 = .ok (.iastore, 1) := by decide +kernel
theorem dX8_copyOf_27 : decode cX8_copyOf 27 = .ok (.iinc 4 1, 3) := by decide +kernel
theorem dX8_copyOf_30 : decode cX8_copyOf 30 = .ok (.goto (-27), 3) := by decide +kernel
theorem dX8_copyOf_33 : decode cX8_copyOf 33 = .ok (.return_, 1) := by decide +kernel
set_option maxRecDepth 20000 in
theorem ggX8_isSaint_X8_in : GoodIn wsX8_isSaint wsX8_in := goodIn_r _ [5] (by decide +kernel) (by decide +kernel)
set_option maxRecDepth 20000 in
theorem gX8_isSaint_X8_in : GoodIn wsX8_isSaint (va_wsS RX8 55 yX8_in wsX8_in) := goodIn_app (goodIn_of _ (by decide +kernel)) ggX8_isSaint_X8_in
theorem dX8_isSaint_0 : decode cX8_isSaint 0 = .ok (.iload_n 1, 1) := by decide +kernel
theorem dX8_isSaint_1 : decode cX8_isSaint 1 = .ok (.i2l, 1) := by decide +kernel
theorem dX8_isSaint_2 : decode cX8_isSaint 2 = .ok (.lconst 0, 1) := by decide +kernel
theorem dX8_isSaint_3 : decode cX8_isSaint 3 = .ok (.aload_n 0, 1) := by decide +kernel
theorem dX8_isSaint_4 : decode cX8_isSaint 4 = .ok (.getfield 7, 3) := by decide +kernel
theorem dX8_isSaint_7 : decode cX8_isSaint 7 = .ok (.iconst 0, 1) := by decide +kernel
theorem dX8_isSaint_8 : decode cX8_isSaint 8 = .ok (.iaload, 1) := by decide +kernel
theorem dX8_isSaint_9 : decode cX8_isSaint 9 = .ok (.iconst 1, 1) := by decide +kernel
theorem dX8_isSaint_10 : decode cX8_isSaint 10 = .ok (.isub, 1) := by decide +kernel
theorem dX8_isSaint_11 : decode cX8_isSaint 11 = .ok (.i2l, 1) := by decide +kernel
theorem dX8_isSaint_12 : decode cX8_isSaint 12 = .ok (.invokestatic 55, 3) := by decide +kernel
theorem dX8_isSaint_15 : decode cX8_isSaint 15 = .ok (.ireturn, 1) := by decide +kernel
set_option maxRecDepth 20000 in
theorem ggX8_isRow_X8_in : GoodIn wsX8_isRow wsX8_in := goodIn_r _ [5] (by decide +kernel) (by decide +kernel)
set_option maxRecDepth 20000 in
theorem gX8_isRow_X8_in : GoodIn wsX8_isRow (va_wsS RX8 55 yX8_in wsX8_in) := goodIn_app (goodIn_of _ (by decide +kernel)) ggX8_isRow_X8_in
theorem dX8_isRow_0 : decode cX8_isRow 0 = .ok (.iload_n 0, 1) := by decide +kernel
theorem dX8_isRow_1 : decode cX8_isRow 1 = .ok (.i2l, 1) := by decide +kernel
theorem dX8_isRow_2 : decode cX8_isRow 2 = .ok (.lconst 0, 1) := by decide +kernel
theorem dX8_isRow_3 : decode cX8_isRow 3 = .ok (.ldc2_w 59, 3) := by decide +kernel
theorem dX8_isRow_6 : decode cX8_isRow 6 = .ok (.invokestatic 55, 3) := by decide +kernel
theorem dX8_isRow_9 : decode cX8_isRow 9 = .ok (.ireturn, 1) := by decide +kernel
theorem dX8_finds_0 : decode cX8_finds 0 = .ok (.aload_n 0, 1) := by decide +kernel
theorem dX8_finds_1 : decode cX8_finds 1 = .ok (.iload_n 1, 1) := by decide +kernel
theorem dX8_finds_2 : decode cX8_finds 2 = .ok (.putfield 61, 3) := by decide +kernel
theorem dX8_finds_5 : decode cX8_finds 5 = .ok (.ldc 65, 2) := by decide +kernel
theorem dX8_finds_7 : decode cX8_finds 7 = .ok (.iload_n 1, 1) := by decide +kernel
theorem dX8_finds_8 : decode cX8_finds 8 = .ok (.isub, 1) := by decide +kernel
theorem dX8_finds_9 : decode cX8_finds 9 = .ok (.ireturn, 1) := by decide +kernel
theorem dX8_against_0 : decode cX8_against 0 = .ok (.aload_n 0, 1) := by decide +kernel
theorem dX8_against_1 : decode cX8_against 1 = .ok (.getfield 16, 3) := by decide +kernel
theorem dX8_against_4 : decode cX8_against 4 = .ok (.iload_n 1, 1) := by decide +kernel
theorem dX8_against_5 : decode cX8_against 5 = .ok (.iaload, 1) := by decide +kernel
theorem dX8_against_6 : decode cX8_against 6 = .ok (.ifCond .ge 7, 3) := by decide +kernel
theorem dX8_against_9 : decode cX8_against 9 = .ok (.iconst 1, 1) := by decide +kernel
theorem dX8_against_10 : decode cX8_against 10 = .ok (.goto 32, 3) := by decide +kernel
theorem dX8_against_13 : decode cX8_against 13 = .ok (.iload_n 2, 1) := by decide +kernel
theorem dX8_against_14 : decode cX8_against 14 = .ok (.ifCond .lt 23, 3) := by decide +kernel
theorem dX8_against_17 : decode cX8_against 17 = .ok (.iload_n 3, 1) := by decide +kernel
theorem dX8_against_18 : decode cX8_against 18 = .ok (.ifCond .lt 19, 3) := by decide +kernel
theorem dX8_against_21 : decode cX8_against 21 = .ok (.iload_n 2, 1) := by decide +kernel
theorem dX8_against_22 : decode cX8_against 22 = .ok (.i2l, 1) := by decide +kernel
theorem dX8_against_23 : decode cX8_against 23 = .ok (.iload_n 3, 1) := by decide +kernel
theorem dX8_against_24 : decode cX8_against 24 = .ok (.i2l, 1) := by decide +kernel
theorem dX8_against_25 : decode cX8_against 25 = .ok (.ladd, 1) := by decide +kernel
theorem dX8_against_26 : decode cX8_against 26 = .ok (.aload_n 0, 1) := by decide +kernel
theorem dX8_against_27 : decode cX8_against 27 = .ok (.getfield 16, 3) := by decide +kernel
theorem dX8_against_30 : decode cX8_against 30 = .ok (.iload_n 1, 1) := by decide +kernel
theorem dX8_against_31 : decode cX8_against 31 = .ok (.iaload, 1) := by decide +kernel
theorem dX8_against_32 : decode cX8_against 32 = .ok (.i2l, 1) := by decide +kernel
theorem dX8_against_33 : decode cX8_against 33 = .ok (.lcmp, 1) := by decide +kernel
theorem dX8_against_34 : decode cX8_against 34 = .ok (.ifCond .le 7, 3) := by decide +kernel
theorem dX8_against_37 : decode cX8_against 37 = .ok (.iconst 2, 1) := by decide +kernel
theorem dX8_against_38 : decode cX8_against 38 = .ok (.goto 4, 3) := by decide +kernel
theorem dX8_against_41 : decode cX8_against 41 = .ok (.iconst 0, 1) := by decide +kernel
theorem dX8_against_42 : decode cX8_against 42 = .ok (.ireturn, 1) := by decide +kernel
set_option maxRecDepth 20000 in
theorem ggX8_row_X8_isRow : GoodIn wsX8_row wsX8_isRow := goodIn_r _ [10, 11, 12, 13, 9, 14] (by decide +kernel) (by decide +kernel)
set_option maxRecDepth 20000 in
theorem gX8_row_X8_isRow : GoodIn wsX8_row (va_wsS RX8 66 yX8_isRow wsX8_isRow) := goodIn_app (goodIn_of _ (by decide +kernel)) ggX8_row_X8_isRow
set_option maxRecDepth 20000 in
theorem ggX8_row_X8_in : GoodIn wsX8_row wsX8_in := goodIn_r _ [14] (by decide +kernel) (by decide +kernel)
set_option maxRecDepth 20000 in
theorem gX8_row_X8_in : GoodIn wsX8_row (va_wsS RX8 55 yX8_in wsX8_in) := goodIn_app (goodIn_of _ (by decide +kernel)) ggX8_row_X8_in
set_option maxRecDepth 20000 in
theorem ggX8_row_X8_finds : GoodIn wsX8_row wsX8_finds := goodIn_r _ [18, 3, 19, 20, 21, 22, 23, 24, 25, 26, 27, 28, 29, 30, 31, 32, 33, 34, 35, 36, 37, 38, 39, 40, 41, 42] (by decide +kernel) (by decide +kernel)
set_option maxRecDepth 20000 in
theorem gX8_row_X8_finds : GoodIn wsX8_row (wsV RX8 73 RX8 yX8_finds wsX8_finds) := goodIn_app (goodIn_of _ (by decide +kernel)) ggX8_row_X8_finds
theorem dX8_row_0 : decode cX8_row 0 = .ok (.iload_n 1, 1) := by decide +kernel
theorem dX8_row_1 : decode cX8_row 1 = .ok (.invokestatic 66, 3) := by decide +kernel
theorem dX8_row_4 : decode cX8_row 4 = .ok (.ifCond .eq 21, 3) := by decide +kernel
theorem dX8_row_7 : decode cX8_row 7 = .ok (.iload_n 2, 1) := by decide +kernel
theorem dX8_row_8 : decode cX8_row 8 = .ok (.i2l, 1) := by decide +kernel
theorem dX8_row_9 : decode cX8_row 9 = .ok (.lconst 0, 1) := by decide +kernel
theorem dX8_row_10 : decode cX8_row 10 = .ok (.ldc2_w 70, 3) := by decide +kernel
theorem dX8_row_13 : decode cX8_row 13 = .ok (.invokestatic 55, 3) := by decide +kernel
theorem dX8_row_16 : decode cX8_row 16 = .ok (.ifCond .eq 9, 3) := by decide +kernel
theorem dX8_row_19 : decode cX8_row 19 = .ok (.iload_n 3, 1) := by decide +kernel
theorem dX8_row_20 : decode cX8_row 20 = .ok (.bipush 40, 2) := by decide +kernel
theorem dX8_row_22 : decode cX8_row 22 = .ok (.if_icmp .le 6, 3) := by decide +kernel
theorem dX8_row_25 : decode cX8_row 25 = .ok (.ldc 72, 2) := by decide +kernel
theorem dX8_row_27 : decode cX8_row 27 = .ok (.ireturn, 1) := by decide +kernel
theorem dX8_row_28 : decode cX8_row 28 = .ok (.iload_n 3, 1) := by decide +kernel
theorem dX8_row_29 : decode cX8_row 29 = .ok (.ifCond .ge 9, 3) := by decide +kernel
theorem dX8_row_32 : decode cX8_row 32 = .ok (.aload_n 0, 1) := by decide +kernel
theorem dX8_row_33 : decode cX8_row 33 = .ok (.iconst 4, 1) := by decide +kernel
theorem dX8_row_34 : decode cX8_row 34 = .ok (.invokevirtual 73, 3) := by decide +kernel
theorem dX8_row_37 : decode cX8_row 37 = .ok (.ireturn, 1) := by decide +kernel
theorem dX8_row_38 : decode cX8_row 38 = .ok (.aload_n 0, 1) := by decide +kernel
theorem dX8_row_39 : decode cX8_row 39 = .ok (.iconst 0, 1) := by decide +kernel
theorem dX8_row_40 : decode cX8_row 40 = .ok (.putfield 61, 3) := by decide +kernel
theorem dX8_row_43 : decode cX8_row 43 = .ok (.aload_n 0, 1) := by decide +kernel
theorem dX8_row_44 : decode cX8_row 44 = .ok (.getfield 16, 3) := by decide +kernel
theorem dX8_row_47 : decode cX8_row 47 = .ok (.iload_n 1, 1) := by decide +kernel
theorem dX8_row_48 : decode cX8_row 48 = .ok (.iload_n 3, 1) := by decide +kernel
theorem dX8_row_49 : decode cX8_row 49 = .ok (.iastore, 1) := by decide +kernel
theorem dX8_row_50 : decode cX8_row 50 = .ok (.aload_n 0, 1) := by decide +kernel
theorem dX8_row_51 : decode cX8_row 51 = .ok (.getfield 19, 3) := by decide +kernel
theorem dX8_row_54 : decode cX8_row 54 = .ok (.iload_n 1, 1) := by decide +kernel
theorem dX8_row_55 : decode cX8_row 55 = .ok (.iload_n 2, 1) := by decide +kernel
theorem dX8_row_56 : decode cX8_row 56 = .ok (.iastore, 1) := by decide +kernel
theorem dX8_row_57 : decode cX8_row 57 = .ok (.iconst 0, 1) := by decide +kernel
theorem dX8_row_58 : decode cX8_row 58 = .ok (.istore 4, 2) := by decide +kernel
theorem dX8_row_60 : decode cX8_row 60 = .ok (.iload 4, 2) := by decide +kernel
theorem dX8_row_62 : decode cX8_row 62 = .ok (.bipush 40, 2) := by decide +kernel
theorem dX8_row_64 : decode cX8_row 64 = .ok (.if_icmp .ge 22, 3) := by decide +kernel
theorem dX8_row_67 : decode cX8_row 67 = .ok (.aload_n 0, 1) := by decide +kernel
theorem dX8_row_68 : decode cX8_row 68 = .ok (.getfield 22, 3) := by decide +kernel
theorem dX8_row_71 : decode cX8_row 71 = .ok (.bipush 40, 2) := by decide +kernel
theorem dX8_row_73 : decode cX8_row 73 = .ok (.iload_n 1, 1) := by decide +kernel
theorem dX8_row_74 : decode cX8_row 74 = .ok (.imul, 1) := by decide +kernel
theorem dX8_row_75 : decode cX8_row 75 = .ok (.iload 4, 2) := by decide +kernel
theorem dX8_row_77 : decode cX8_row 77 = .ok (.iadd, 1) := by decide +kernel
theorem dX8_row_78 : decode cX8_row 78 = .ok (.iconst 0, 1) := by decide +kernel
theorem dX8_row_79 : decode cX8_row 79 = .ok (.iastore, 1) := by decide +kernel
theorem dX8_row_80 : decode cX8_row 80 = .ok (.iinc 4 1, 3) := by decide +kernel
theorem dX8_row_83 : decode cX8_row 83 = .ok (.goto (-23), 3) := by decide +kernel
theorem dX8_row_86 : decode cX8_row 86 = .ok (.iload_n 3, 1) := by decide +kernel
theorem dX8_row_87 : decode cX8_row 87 = .ok (.ireturn, 1) := by decide +kernel
set_option maxRecDepth 20000 in
theorem ggX8_set_X8_isRow : GoodIn wsX8_set wsX8_isRow := goodIn_r _ [8, 9, 10, 11, 7, 12] (by decide +kernel) (by decide +kernel)
set_option maxRecDepth 20000 in
theorem gX8_set_X8_isRow : GoodIn wsX8_set (va_wsS RX8 66 yX8_isRow wsX8_isRow) := goodIn_app (goodIn_of _ (by decide +kernel)) ggX8_set_X8_isRow
set_option maxRecDepth 20000 in
theorem ggX8_set_X8_against : GoodIn wsX8_set wsX8_against := goodIn_r _ [16, 17, 23, 24, 25, 26, 27, 28, 29, 30, 31, 32, 33, 34, 35, 36, 37, 38, 39, 40, 41, 42, 43, 44, 45] (by decide +kernel) (by decide +kernel)
set_option maxRecDepth 20000 in
theorem gX8_set_X8_against : GoodIn wsX8_set (wsV RX8 77 RX8 yX8_against wsX8_against) := goodIn_app (goodIn_of _ (by decide +kernel)) ggX8_set_X8_against
set_option maxRecDepth 20000 in
theorem ggX8_set_X8_finds : GoodIn wsX8_set wsX8_finds := goodIn_r _ [21, 2, 22, 23, 24, 25, 26, 27, 28, 29, 30, 31, 32, 33, 34, 35, 36, 37, 38, 39, 40, 41, 42, 43, 44, 45] (by decide +kernel) (by decide +kernel)
set_option maxRecDepth 20000 in
theorem gX8_set_X8_finds : GoodIn wsX8_set (wsV RX8 73 RX8 yX8_finds wsX8_finds) := goodIn_app (goodIn_of _ (by decide +kernel)) ggX8_set_X8_finds
theorem dX8_set_0 : decode cX8_set 0 = .ok (.iload_n 1, 1) := by decide +kernel
theorem dX8_set_1 : decode cX8_set 1 = .ok (.invokestatic 66, 3) := by decide +kernel
theorem dX8_set_4 : decode cX8_set 4 = .ok (.ifCond .ne 6, 3) := by decide +kernel
theorem dX8_set_7 : decode cX8_set 7 = .ok (.ldc 72, 2) := by decide +kernel
theorem dX8_set_9 : decode cX8_set 9 = .ok (.ireturn, 1) := by decide +kernel
theorem dX8_set_10 : decode cX8_set 10 = .ok (.aload_n 0, 1) := by decide +kernel
theorem dX8_set_11 : decode cX8_set 11 = .ok (.iload_n 1, 1) := by decide +kernel
theorem dX8_set_12 : decode cX8_set 12 = .ok (.iload_n 2, 1) := by decide +kernel
theorem dX8_set_13 : decode cX8_set 13 = .ok (.iconst 1, 1) := by decide +kernel
theorem dX8_set_14 : decode cX8_set 14 = .ok (.invokevirtual 77, 3) := by decide +kernel
theorem dX8_set_17 : decode cX8_set 17 = .ok (.istore 4, 2) := by decide +kernel
theorem dX8_set_19 : decode cX8_set 19 = .ok (.iload 4, 2) := by decide +kernel
theorem dX8_set_21 : decode cX8_set 21 = .ok (.ifCond .le 10, 3) := by decide +kernel
theorem dX8_set_24 : decode cX8_set 24 = .ok (.aload_n 0, 1) := by decide +kernel
theorem dX8_set_25 : decode cX8_set 25 = .ok (.iload 4, 2) := by decide +kernel
theorem dX8_set_27 : decode cX8_set 27 = .ok (.invokevirtual 73, 3) := by decide +kernel
theorem dX8_set_30 : decode cX8_set 30 = .ok (.ireturn, 1) := by decide +kernel
theorem dX8_set_31 : decode cX8_set 31 = .ok (.aload_n 0, 1) := by decide +kernel
theorem dX8_set_32 : decode cX8_set 32 = .ok (.iconst 0, 1) := by decide +kernel
theorem dX8_set_33 : decode cX8_set 33 = .ok (.putfield 61, 3) := by decide +kernel
theorem dX8_set_36 : decode cX8_set 36 = .ok (.aload_n 0, 1) := by decide +kernel
theorem dX8_set_37 : decode cX8_set 37 = .ok (.getfield 22, 3) := by decide +kernel
theorem dX8_set_40 : decode cX8_set 40 = .ok (.bipush 40, 2) := by decide +kernel
theorem dX8_set_42 : decode cX8_set 42 = .ok (.iload_n 1, 1) := by decide +kernel
theorem dX8_set_43 : decode cX8_set 43 = .ok (.imul, 1) := by decide +kernel
theorem dX8_set_44 : decode cX8_set 44 = .ok (.iload_n 2, 1) := by decide +kernel
theorem dX8_set_45 : decode cX8_set 45 = .ok (.iadd, 1) := by decide +kernel
theorem dX8_set_46 : decode cX8_set 46 = .ok (.aload_n 0, 1) := by decide +kernel
theorem dX8_set_47 : decode cX8_set 47 = .ok (.getfield 19, 3) := by decide +kernel
theorem dX8_set_50 : decode cX8_set 50 = .ok (.iload_n 1, 1) := by decide +kernel
theorem dX8_set_51 : decode cX8_set 51 = .ok (.iaload, 1) := by decide +kernel
theorem dX8_set_52 : decode cX8_set 52 = .ok (.ifCond .ne 8, 3) := by decide +kernel
theorem dX8_set_55 : decode cX8_set 55 = .ok (.iload_n 3, 1) := by decide +kernel
theorem dX8_set_56 : decode cX8_set 56 = .ok (.i2b, 1) := by decide +kernel
theorem dX8_set_57 : decode cX8_set 57 = .ok (.goto 19, 3) := by decide +kernel
theorem dX8_set_60 : decode cX8_set 60 = .ok (.aload_n 0, 1) := by decide +kernel
theorem dX8_set_61 : decode cX8_set 61 = .ok (.getfield 19, 3) := by decide +kernel
theorem dX8_set_64 : decode cX8_set 64 = .ok (.iload_n 1, 1) := by decide +kernel
theorem dX8_set_65 : decode cX8_set 65 = .ok (.iaload, 1) := by decide +kernel
theorem dX8_set_66 : decode cX8_set 66 = .ok (.iconst 1, 1) := by decide +kernel
theorem dX8_set_67 : decode cX8_set 67 = .ok (.if_icmp .ne 8, 3) := by decide +kernel
theorem dX8_set_70 : decode cX8_set 70 = .ok (.iload_n 3, 1) := by decide +kernel
theorem dX8_set_71 : decode cX8_set 71 = .ok (.i2s, 1) := by decide +kernel
theorem dX8_set_72 : decode cX8_set 72 = .ok (.goto 4, 3) := by decide +kernel
theorem dX8_set_75 : decode cX8_set 75 = .ok (.iload_n 3, 1) := by decide +kernel
theorem dX8_set_76 : decode cX8_set 76 = .ok (.iastore, 1) := by decide +kernel
theorem dX8_set_77 : decode cX8_set 77 = .ok (.aload_n 0, 1) := by decide +kernel
theorem dX8_set_78 : decode cX8_set 78 = .ok (.getfield 22, 3) := by decide +kernel
theorem dX8_set_81 : decode cX8_set 81 = .ok (.bipush 40, 2) := by decide +kernel
theorem dX8_set_83 : decode cX8_set 83 = .ok (.iload_n 1, 1) := by decide +kernel
theorem dX8_set_84 : decode cX8_set 84 = .ok (.imul, 1) := by decide +kernel
theorem dX8_set_85 : decode cX8_set 85 = .ok (.iload_n 2, 1) := by decide +kernel
theorem dX8_set_86 : decode cX8_set 86 = .ok (.iadd, 1) := by decide +kernel
theorem dX8_set_87 : decode cX8_set 87 = .ok (.iaload, 1) := by decide +kernel
theorem dX8_set_88 : decode cX8_set 88 = .ok (.ireturn, 1) := by decide +kernel
set_option maxRecDepth 20000 in
theorem ggX8_copy_X8_isRow : GoodIn wsX8_copy wsX8_isRow := goodIn_r _ [10, 11, 12, 13, 9, 14] (by decide +kernel) (by decide +kernel)
set_option maxRecDepth 20000 in
theorem gX8_copy_X8_isRow : GoodIn wsX8_copy (va_wsS RX8 66 yX8_isRow wsX8_isRow) := goodIn_app (goodIn_of _ (by decide +kernel)) ggX8_copy_X8_isRow
set_option maxRecDepth 20000 in
theorem ggX8_copy_X8_finds : GoodIn wsX8_copy wsX8_finds := goodIn_r _ [18, 4, 19, 24, 25, 26, 27, 28, 29, 30, 31, 32, 33, 34, 35, 36, 37, 38, 39, 40, 41, 42, 43, 44, 45, 46] (by decide +kernel) (by decide +kernel)
set_option maxRecDepth 20000 in
theorem gX8_copy_X8_finds : GoodIn wsX8_copy (wsV RX8 73 RX8 yX8_finds wsX8_finds) := goodIn_app (goodIn_of _ (by decide +kernel)) ggX8_copy_X8_finds
set_option maxRecDepth 20000 in
theorem ggX8_copy_X8_against : GoodIn wsX8_copy wsX8_against := goodIn_r _ [23, 2, 24, 25, 26, 27, 28, 29, 30, 31, 32, 33, 34, 35, 36, 37, 38, 39, 40, 41, 42, 43, 44, 45, 46] (by decide +kernel) (by decide +kernel)
set_option maxRecDepth 20000 in
theorem gX8_copy_X8_against : GoodIn wsX8_copy (wsV RX8 77 RX8 yX8_against wsX8_against) := goodIn_app (goodIn_of _ (by decide +kernel)) ggX8_copy_X8_against
theorem dX8_copy_0 : decode cX8_copy 0 = .ok (.iload_n 1, 1) := by decide +kernel
theorem dX8_copy_1 : decode cX8_copy 1 = .ok (.invokestatic 66, 3) := by decide +kernel
theorem dX8_copy_4 : decode cX8_copy 4 = .ok (.ifCond .eq 10, 3) := by decide +kernel
theorem dX8_copy_7 : decode cX8_copy 7 = .ok (.iload_n 3, 1) := by decide +kernel
theorem dX8_copy_8 : decode cX8_copy 8 = .ok (.invokestatic 66, 3) := by decide +kernel
theorem dX8_copy_11 : decode cX8_copy 11 = .ok (.ifCond .ne 6, 3) := by decide +kernel
theorem dX8_copy_14 : decode cX8_copy 14 = .ok (.ldc 72, 2) := by decide +kernel
theorem dX8_copy_16 : decode cX8_copy 16 = .ok (.ireturn, 1) := by decide +kernel
theorem dX8_copy_17 : decode cX8_copy 17 = .ok (.aload_n 0, 1) := by decide +kernel
theorem dX8_copy_18 : decode cX8_copy 18 = .ok (.getfield 16, 3) := by decide +kernel
theorem dX8_copy_21 : decode cX8_copy 21 = .ok (.iload_n 1, 1) := by decide +kernel
theorem dX8_copy_22 : decode cX8_copy 22 = .ok (.iaload, 1) := by decide +kernel
theorem dX8_copy_23 : decode cX8_copy 23 = .ok (.ifCond .lt 12, 3) := by decide +kernel
theorem dX8_copy_26 : decode cX8_copy 26 = .ok (.aload_n 0, 1) := by decide +kernel
theorem dX8_copy_27 : decode cX8_copy 27 = .ok (.getfield 16, 3) := by decide +kernel
theorem dX8_copy_30 : decode cX8_copy 30 = .ok (.iload_n 3, 1) := by decide +kernel
theorem dX8_copy_31 : decode cX8_copy 31 = .ok (.iaload, 1) := by decide +kernel
theorem dX8_copy_32 : decode cX8_copy 32 = .ok (.ifCond .ge 9, 3) := by decide +kernel
theorem dX8_copy_35 : decode cX8_copy 35 = .ok (.aload_n 0, 1) := by decide +kernel
theorem dX8_copy_36 : decode cX8_copy 36 = .ok (.iconst 1, 1) := by decide +kernel
theorem dX8_copy_37 : decode cX8_copy 37 = .ok (.invokevirtual 73, 3) := by decide +kernel
theorem dX8_copy_40 : decode cX8_copy 40 = .ok (.ireturn, 1) := by decide +kernel
theorem dX8_copy_41 : decode cX8_copy 41 = .ok (.aload_n 0, 1) := by decide +kernel
theorem dX8_copy_42 : decode cX8_copy 42 = .ok (.getfield 19, 3) := by decide +kernel
theorem dX8_copy_45 : decode cX8_copy 45 = .ok (.iload_n 1, 1) := by decide +kernel
theorem dX8_copy_46 : decode cX8_copy 46 = .ok (.iaload, 1) := by decide +kernel
theorem dX8_copy_47 : decode cX8_copy 47 = .ok (.aload_n 0, 1) := by decide +kernel
theorem dX8_copy_48 : decode cX8_copy 48 = .ok (.getfield 19, 3) := by decide +kernel
theorem dX8_copy_51 : decode cX8_copy 51 = .ok (.iload_n 3, 1) := by decide +kernel
theorem dX8_copy_52 : decode cX8_copy 52 = .ok (.iaload, 1) := by decide +kernel
theorem dX8_copy_53 : decode cX8_copy 53 = .ok (.if_icmp .eq 9, 3) := by decide +kernel
theorem dX8_copy_56 : decode cX8_copy 56 = .ok (.aload_n 0, 1) := by decide +kernel
theorem dX8_copy_57 : decode cX8_copy 57 = .ok (.iconst 5, 1) := by decide +kernel
theorem dX8_copy_58 : decode cX8_copy 58 = .ok (.invokevirtual 73, 3) := by decide +kernel
theorem dX8_copy_61 : decode cX8_copy 61 = .ok (.ireturn, 1) := by decide +kernel
theorem dX8_copy_62 : decode cX8_copy 62 = .ok (.aload_n 0, 1) := by decide +kernel
theorem dX8_copy_63 : decode cX8_copy 63 = .ok (.iload_n 1, 1) := by decide +kernel
theorem dX8_copy_64 : decode cX8_copy 64 = .ok (.iload_n 2, 1) := by decide +kernel
theorem dX8_copy_65 : decode cX8_copy 65 = .ok (.iload 5, 2) := by decide +kernel
theorem dX8_copy_67 : decode cX8_copy 67 = .ok (.invokevirtual 77, 3) := by decide +kernel
theorem dX8_copy_70 : decode cX8_copy 70 = .ok (.ifCond .gt 15, 3) := by decide +kernel
theorem dX8_copy_73 : decode cX8_copy 73 = .ok (.aload_n 0, 1) := by decide +kernel
theorem dX8_copy_74 : decode cX8_copy 74 = .ok (.iload_n 3, 1) := by decide +kernel
theorem dX8_copy_75 : decode cX8_copy 75 = .ok (.iload 4, 2) := by decide +kernel
theorem dX8_copy_77 : decode cX8_copy 77 = .ok (.iload 5, 2) := by decide +kernel
theorem dX8_copy_79 : decode cX8_copy 79 = .ok (.invokevirtual 77, 3) := by decide +kernel
theorem dX8_copy_82 : decode cX8_copy 82 = .ok (.ifCond .le 9, 3) := by decide +kernel
theorem dX8_copy_85 : decode cX8_copy 85 = .ok (.aload_n 0, 1) := by decide +kernel
theorem dX8_copy_86 : decode cX8_copy 86 = .ok (.iconst 2, 1) := by decide +kernel
theorem dX8_copy_87 : decode cX8_copy 87 = .ok (.invokevirtual 73, 3) := by decide +kernel
theorem dX8_copy_90 : decode cX8_copy 90 = .ok (.ireturn, 1) := by decide +kernel
theorem dX8_copy_91 : decode cX8_copy 91 = .ok (.aload_n 0, 1) := by decide +kernel
theorem dX8_copy_92 : decode cX8_copy 92 = .ok (.iconst 0, 1) := by decide +kernel
theorem dX8_copy_93 : decode cX8_copy 93 = .ok (.putfield 61, 3) := by decide +kernel
theorem dX8_copy_96 : decode cX8_copy 96 = .ok (.iconst 0, 1) := by decide +kernel
theorem dX8_copy_97 : decode cX8_copy 97 = .ok (.istore 6, 2) := by decide +kernel
theorem dX8_copy_99 : decode cX8_copy 99 = .ok (.iload 6, 2) := by decide +kernel
theorem dX8_copy_101 : decode cX8_copy 101 = .ok (.iload 5, 2) := by decide +kernel
theorem dX8_copy_103 : decode cX8_copy 103 = .ok (.if_icmp .ge 30, 3) := by decide +kernel
theorem dX8_copy_106 : decode cX8_copy 106 = .ok (.aload_n 0, 1) := by decide +kernel
theorem dX8_copy_107 : decode cX8_copy 107 = .ok (.getfield 25, 3) := by decide +kernel
theorem dX8_copy_110 : decode cX8_copy 110 = .ok (.iload 6, 2) := by decide +kernel
theorem dX8_copy_112 : decode cX8_copy 112 = .ok (.aload_n 0, 1) := by decide +kernel
theorem dX8_copy_113 : decode cX8_copy 113 = .ok (.getfield 22, 3) := by decide +kernel
theorem dX8_copy_116 : decode cX8_copy 116 = .ok (.bipush 40, 2) := by decide +kernel
theorem dX8_copy_118 : decode cX8_copy 118 = .ok (.iload_n 1, 1) := by decide +kernel
theorem dX8_copy_119 : decode cX8_copy 119 = .ok (.imul, 1) := by decide +kernel
theorem dX8_copy_120 : decode cX8_copy 120 = .ok (.iload_n 2, 1) := by decide +kernel
theorem dX8_copy_121 : decode cX8_copy 121 = .ok (.iadd, 1) := by decide +kernel
theorem dX8_copy_122 : decode cX8_copy 122 = .ok (.iload 6, 2) := by decide +kernel
theorem dX8_copy_124 : decode cX8_copy 124 = .ok (.iadd, 1) := by decide +kernel
theorem dX8_copy_125 : decode cX8_copy 125 = .ok (.iaload, 1) := by decide +kernel
theorem dX8_copy_126 : decode cX8_copy 126 = .ok (.iastore, 1) := by decide +kernel
theorem dX8_copy_127 : decode cX8_copy 127 = .ok (.iinc 6 1, 3) := by decide +kernel
theorem dX8_copy_130 : decode cX8_copy 130 = .ok (.goto (-31), 3) := by decide +kernel
theorem dX8_copy_133 : decode cX8_copy 133 = .ok (.iconst 0, 1) := by decide +kernel
theorem dX8_copy_134 : decode cX8_copy 134 = .ok (.istore 6, 2) := by decide +kernel
theorem dX8_copy_136 : decode cX8_copy 136 = .ok (.iload 6, 2) := by decide +kernel
theorem dX8_copy_138 : decode cX8_copy 138 = .ok (.iload 5, 2) := by decide +kernel
theorem dX8_copy_140 : decode cX8_copy 140 = .ok (.if_icmp .ge 31, 3) := by decide +kernel
theorem dX8_copy_143 : decode cX8_copy 143 = .ok (.aload_n 0, 1) := by decide +kernel
theorem dX8_copy_144 : decode cX8_copy 144 = .ok (.getfield 22, 3) := by decide +kernel
theorem dX8_copy_147 : decode cX8_copy 147 = .ok (.bipush 40, 2) := by decide +kernel
theorem dX8_copy_149 : decode cX8_copy 149 = .ok (.iload_n 3, 1) := by decide +kernel
theorem dX8_copy_150 : decode cX8_copy 150 = .ok (.imul, 1) := by decide +kernel
theorem dX8_copy_151 : decode cX8_copy 151 = .ok (.iload 4, 2) := by decide +kernel
theorem dX8_copy_153 : decode cX8_copy 153 = .ok (.iadd, 1) := by decide +kernel
theorem dX8_copy_154 : decode cX8_copy 154 = .ok (.iload 6, 2) := by decide +kernel
theorem dX8_copy_156 : decode cX8_copy 156 = .ok (.iadd, 1) := by decide +kernel
theorem dX8_copy_157 : decode cX8_copy 157 = .ok (.aload_n 0, 1) := by decide +kernel
theorem dX8_copy_158 : decode cX8_copy 158 = .ok (.getfield 25, 3) := by decide +kernel
theorem dX8_copy_161 : decode cX8_copy 161 = .ok (.iload 6, 2) := by decide +kernel
theorem dX8_copy_163 : decode cX8_copy 163 = .ok (.iaload, 1) := by decide +kernel
theorem dX8_copy_164 : decode cX8_copy 164 = .ok (.iastore, 1) := by decide +kernel
theorem dX8_copy_165 : decode cX8_copy 165 = .ok (.iinc 6 1, 3) := by decide +kernel
theorem dX8_copy_168 : decode cX8_copy 168 = .ok (.goto (-32), 3) := by decide +kernel
theorem dX8_copy_171 : decode cX8_copy 171 = .ok (.iload 5, 2) := by decide +kernel
theorem dX8_copy_173 : decode cX8_copy 173 = .ok (.ireturn, 1) := by decide +kernel
set_option maxRecDepth 20000 in
theorem ggX8_drop_X8_isRow : GoodIn wsX8_drop wsX8_isRow := goodIn_r _ [7, 8, 9, 10, 6, 11] (by decide +kernel) (by decide +kernel)
set_option maxRecDepth 20000 in
theorem gX8_drop_X8_isRow : GoodIn wsX8_drop (va_wsS RX8 66 yX8_isRow wsX8_isRow) := goodIn_app (goodIn_of _ (by decide +kernel)) ggX8_drop_X8_isRow
set_option maxRecDepth 20000 in
theorem ggX8_drop_X8_finds : GoodIn wsX8_drop wsX8_finds := goodIn_r _ [15, 3, 16, 17, 18, 19, 20, 21, 22, 23, 24, 25, 26, 27, 28, 29, 30, 31, 32, 33, 34, 35, 36, 37, 38, 39] (by decide +kernel) (by decide +kernel)
set_option maxRecDepth 20000 in
theorem gX8_drop_X8_finds : GoodIn wsX8_drop (wsV RX8 73 RX8 yX8_finds wsX8_finds) := goodIn_app (goodIn_of _ (by decide +kernel)) ggX8_drop_X8_finds
theorem dX8_drop_0 : decode cX8_drop 0 = .ok (.iload_n 1, 1) := by decide +kernel
theorem dX8_drop_1 : decode cX8_drop 1 = .ok (.invokestatic 66, 3) := by decide +kernel
theorem dX8_drop_4 : decode cX8_drop 4 = .ok (.ifCond .ne 6, 3) := by decide +kernel
theorem dX8_drop_7 : decode cX8_drop 7 = .ok (.ldc 72, 2) := by decide +kernel
theorem dX8_drop_9 : decode cX8_drop 9 = .ok (.ireturn, 1) := by decide +kernel
theorem dX8_drop_10 : decode cX8_drop 10 = .ok (.aload_n 0, 1) := by decide +kernel
theorem dX8_drop_11 : decode cX8_drop 11 = .ok (.getfield 16, 3) := by decide +kernel
theorem dX8_drop_14 : decode cX8_drop 14 = .ok (.iload_n 1, 1) := by decide +kernel
theorem dX8_drop_15 : decode cX8_drop 15 = .ok (.iaload, 1) := by decide +kernel
theorem dX8_drop_16 : decode cX8_drop 16 = .ok (.ifCond .ge 9, 3) := by decide +kernel
theorem dX8_drop_19 : decode cX8_drop 19 = .ok (.aload_n 0, 1) := by decide +kernel
theorem dX8_drop_20 : decode cX8_drop 20 = .ok (.iconst 1, 1) := by decide +kernel
theorem dX8_drop_21 : decode cX8_drop 21 = .ok (.invokevirtual 73, 3) := by decide +kernel
theorem dX8_drop_24 : decode cX8_drop 24 = .ok (.ireturn, 1) := by decide +kernel
theorem dX8_drop_25 : decode cX8_drop 25 = .ok (.aload_n 0, 1) := by decide +kernel
theorem dX8_drop_26 : decode cX8_drop 26 = .ok (.iconst 0, 1) := by decide +kernel
theorem dX8_drop_27 : decode cX8_drop 27 = .ok (.putfield 61, 3) := by decide +kernel
theorem dX8_drop_30 : decode cX8_drop 30 = .ok (.aload_n 0, 1) := by decide +kernel
theorem dX8_drop_31 : decode cX8_drop 31 = .ok (.getfield 16, 3) := by decide +kernel
theorem dX8_drop_34 : decode cX8_drop 34 = .ok (.iload_n 1, 1) := by decide +kernel
theorem dX8_drop_35 : decode cX8_drop 35 = .ok (.iaload, 1) := by decide +kernel
theorem dX8_drop_36 : decode cX8_drop 36 = .ok (.istore_n 2, 1) := by decide +kernel
theorem dX8_drop_37 : decode cX8_drop 37 = .ok (.aload_n 0, 1) := by decide +kernel
theorem dX8_drop_38 : decode cX8_drop 38 = .ok (.getfield 16, 3) := by decide +kernel
theorem dX8_drop_41 : decode cX8_drop 41 = .ok (.iload_n 1, 1) := by decide +kernel
theorem dX8_drop_42 : decode cX8_drop 42 = .ok (.iconst (-1), 1) := by decide +kernel
theorem dX8_drop_43 : decode cX8_drop 43 = .ok (.iastore, 1) := by decide +kernel
theorem dX8_drop_44 : decode cX8_drop 44 = .ok (.iload_n 2, 1) := by decide +kernel
theorem dX8_drop_45 : decode cX8_drop 45 = .ok (.ireturn, 1) := by decide +kernel
set_option maxRecDepth 20000 in
theorem ggX8_feed_X8_in : GoodIn wsX8_feed wsX8_in := goodIn_r _ [9] (by decide +kernel) (by decide +kernel)
set_option maxRecDepth 20000 in
theorem gX8_feed_X8_in : GoodIn wsX8_feed (va_wsS RX8 55 yX8_in wsX8_in) := goodIn_app (goodIn_of _ (by decide +kernel)) ggX8_feed_X8_in
theorem dX8_feed_0 : decode cX8_feed 0 = .ok (.iload_n 1, 1) := by decide +kernel
theorem dX8_feed_1 : decode cX8_feed 1 = .ok (.i2l, 1) := by decide +kernel
theorem dX8_feed_2 : decode cX8_feed 2 = .ok (.lconst 0, 1) := by decide +kernel
theorem dX8_feed_3 : decode cX8_feed 3 = .ok (.ldc2_w 81, 3) := by decide +kernel
theorem dX8_feed_6 : decode cX8_feed 6 = .ok (.invokestatic 55, 3) := by decide +kernel
theorem dX8_feed_9 : decode cX8_feed 9 = .ok (.ifCond .ne 6, 3) := by decide +kernel
theorem dX8_feed_12 : decode cX8_feed 12 = .ok (.ldc 72, 2) := by decide +kernel
theorem dX8_feed_14 : decode cX8_feed 14 = .ok (.ireturn, 1) := by decide +kernel
theorem dX8_feed_15 : decode cX8_feed 15 = .ok (.aload_n 0, 1) := by decide +kernel
theorem dX8_feed_16 : decode cX8_feed 16 = .ok (.getfield 83, 3) := by decide +kernel
theorem dX8_feed_19 : decode cX8_feed 19 = .ok (.bipush 50, 2) := by decide +kernel
theorem dX8_feed_21 : decode cX8_feed 21 = .ok (.if_icmp .ne 6, 3) := by decide +kernel
theorem dX8_feed_24 : decode cX8_feed 24 = .ok (.ldc 86, 2) := by decide +kernel
theorem dX8_feed_26 : decode cX8_feed 26 = .ok (.ireturn, 1) := by decide +kernel
theorem dX8_feed_27 : decode cX8_feed 27 = .ok (.aload_n 0, 1) := by decide +kernel
theorem dX8_feed_28 : decode cX8_feed 28 = .ok (.getfield 13, 3) := by decide +kernel
theorem dX8_feed_31 : decode cX8_feed 31 = .ok (.aload_n 0, 1) := by decide +kernel
theorem dX8_feed_32 : decode cX8_feed 32 = .ok (.getfield 83, 3) := by decide +kernel
theorem dX8_feed_35 : decode cX8_feed 35 = .ok (.iload_n 1, 1) := by decide +kernel
theorem dX8_feed_36 : decode cX8_feed 36 = .ok (.iastore, 1) := by decide +kernel
theorem dX8_feed_37 : decode cX8_feed 37 = .ok (.aload_n 0, 1) := by decide +kernel
theorem dX8_feed_38 : decode cX8_feed 38 = .ok (.dup, 1) := by decide +kernel
theorem dX8_feed_39 : decode cX8_feed 39 = .ok (.getfield 83, 3) := by decide +kernel
theorem dX8_feed_42 : decode cX8_feed 42 = .ok (.iconst 1, 1) := by decide +kernel
theorem dX8_feed_43 : decode cX8_feed 43 = .ok (.iadd, 1) := by decide +kernel
theorem dX8_feed_44 : decode cX8_feed 44 = .ok (.putfield 83, 3) := by decide +kernel
theorem dX8_feed_47 : decode cX8_feed 47 = .ok (.aload_n 0, 1) := by decide +kernel
theorem dX8_feed_48 : decode cX8_feed 48 = .ok (.getfield 83, 3) := by decide +kernel
theorem dX8_feed_51 : decode cX8_feed 51 = .ok (.ireturn, 1) := by decide +kernel
theorem dX8_here_0 : decode cX8_here 0 = .ok (.aload_n 0, 1) := by decide +kernel
theorem dX8_here_1 : decode cX8_here 1 = .ok (.getfield 87, 3) := by decide +kernel
theorem dX8_here_4 : decode cX8_here 4 = .ok (.aload_n 0, 1) := by decide +kernel
theorem dX8_here_5 : decode cX8_here 5 = .ok (.getfield 83, 3) := by decide +kernel
theorem dX8_here_8 : decode cX8_here 8 = .ok (.if_icmp .ge 15, 3) := by decide +kernel
theorem dX8_here_11 : decode cX8_here 11 = .ok (.aload_n 0, 1) := by decide +kernel
theorem dX8_here_12 : decode cX8_here 12 = .ok (.getfield 13, 3) := by decide +kernel
theorem dX8_here_15 : decode cX8_here 15 = .ok (.aload_n 0, 1) := by decide +kernel
theorem dX8_here_16 : decode cX8_here 16 = .ok (.getfield 87, 3) := by decide +kernel
theorem dX8_here_19 : decode cX8_here 19 = .ok (.iaload, 1) := by decide +kernel
theorem dX8_here_20 : decode cX8_here 20 = .ok (.goto 4, 3) := by decide +kernel
theorem dX8_here_23 : decode cX8_here 23 = .ok (.iconst (-1), 1) := by decide +kernel
theorem dX8_here_24 : decode cX8_here 24 = .ok (.ireturn, 1) := by decide +kernel
theorem dX8_fails_0 : decode cX8_fails 0 = .ok (.aload_n 0, 1) := by decide +kernel
theorem dX8_fails_1 : decode cX8_fails 1 = .ok (.iload_n 1, 1) := by decide +kernel
theorem dX8_fails_2 : decode cX8_fails 2 = .ok (.putfield 90, 3) := by decide +kernel
theorem dX8_fails_5 : decode cX8_fails 5 = .ok (.aload_n 0, 1) := by decide +kernel
theorem dX8_fails_6 : decode cX8_fails 6 = .ok (.iload_n 2, 1) := by decide +kernel
theorem dX8_fails_7 : decode cX8_fails 7 = .ok (.putfield 93, 3) := by decide +kernel
theorem dX8_fails_10 : decode cX8_fails 10 = .ok (.iconst 0, 1) := by decide +kernel
theorem dX8_fails_11 : decode cX8_fails 11 = .ok (.ireturn, 1) := by decide +kernel
set_option maxRecDepth 20000 in
theorem ggX8_takes_X8_here : GoodIn wsX8_takes wsX8_here := goodIn_r _ [6, 1, 7, 8, 15, 16, 17, 18, 19, 20, 21, 22, 23, 24, 25, 26, 27, 28, 29, 30, 31, 32, 33, 34, 35, 36, 37] (by decide +kernel) (by decide +kernel)
set_option maxRecDepth 20000 in
theorem gX8_takes_X8_here : GoodIn wsX8_takes (wsV RX8 96 RX8 yX8_here wsX8_here) := goodIn_app (goodIn_of _ (by decide +kernel)) ggX8_takes_X8_here
set_option maxRecDepth 20000 in
theorem ggX8_takes_X8_fails : GoodIn wsX8_takes wsX8_fails := goodIn_r _ [12, 13, 14, 15, 16, 17, 18, 19, 20, 21, 22, 23, 24, 25, 26, 27, 28, 29, 30, 31, 32, 33, 34, 35, 36, 37] (by decide +kernel) (by decide +kernel)
set_option maxRecDepth 20000 in
theorem gX8_takes_X8_fails : GoodIn wsX8_takes (wsV RX8 100 RX8 yX8_fails wsX8_fails) := goodIn_app (goodIn_of _ (by decide +kernel)) ggX8_takes_X8_fails
theorem dX8_takes_0 : decode cX8_takes 0 = .ok (.aload_n 0, 1) := by decide +kernel
theorem dX8_takes_1 : decode cX8_takes 1 = .ok (.invokevirtual 96, 3) := by decide +kernel
theorem dX8_takes_4 : decode cX8_takes 4 = .ok (.iload_n 1, 1) := by decide +kernel
theorem dX8_takes_5 : decode cX8_takes 5 = .ok (.if_icmp .eq 13, 3) := by decide +kernel
theorem dX8_takes_8 : decode cX8_takes 8 = .ok (.aload_n 0, 1) := by decide +kernel
theorem dX8_takes_9 : decode cX8_takes 9 = .ok (.iconst 1, 1) := by decide +kernel
theorem dX8_takes_10 : decode cX8_takes 10 = .ok (.aload_n 0, 1) := by decide +kernel
theorem dX8_takes_11 : decode cX8_takes 11 = .ok (.getfield 87, 3) := by decide +kernel
theorem dX8_takes_14 : decode cX8_takes 14 = .ok (.invokevirtual 100, 3) := by decide +kernel
theorem dX8_takes_17 : decode cX8_takes 17 = .ok (.ireturn, 1) := by decide +kernel
theorem dX8_takes_18 : decode cX8_takes 18 = .ok (.aload_n 0, 1) := by decide +kernel
theorem dX8_takes_19 : decode cX8_takes 19 = .ok (.dup, 1) := by decide +kernel
theorem dX8_takes_20 : decode cX8_takes 20 = .ok (.getfield 87, 3) := by decide +kernel
theorem dX8_takes_23 : decode cX8_takes 23 = .ok (.iconst 1, 1) := by decide +kernel
theorem dX8_takes_24 : decode cX8_takes 24 = .ok (.iadd, 1) := by decide +kernel
theorem dX8_takes_25 : decode cX8_takes 25 = .ok (.putfield 87, 3) := by decide +kernel
theorem dX8_takes_28 : decode cX8_takes 28 = .ok (.iconst 1, 1) := by decide +kernel
theorem dX8_takes_29 : decode cX8_takes 29 = .ok (.ireturn, 1) := by decide +kernel
set_option maxRecDepth 20000 in
theorem ggX8_takesNumber_X8_here : GoodIn wsX8_takesNumber wsX8_here := goodIn_r _ [10, 1, 11, 12, 25, 26, 27, 28, 29, 30, 31, 32, 33, 34, 35, 36, 37, 38, 39, 40, 41, 42, 43, 44, 45, 46, 47] (by decide +kernel) (by decide +kernel)
set_option maxRecDepth 20000 in
theorem gX8_takesNumber_X8_here : GoodIn wsX8_takesNumber (wsV RX8 96 RX8 yX8_here wsX8_here) := goodIn_app (goodIn_of _ (by decide +kernel)) ggX8_takesNumber_X8_here
set_option maxRecDepth 20000 in
theorem ggX8_takesNumber_X8_in : GoodIn wsX8_takesNumber wsX8_in := goodIn_r _ [15] (by decide +kernel) (by decide +kernel)
set_option maxRecDepth 20000 in
theorem gX8_takesNumber_X8_in : GoodIn wsX8_takesNumber (va_wsS RX8 55 yX8_in wsX8_in) := goodIn_app (goodIn_of _ (by decide +kernel)) ggX8_takesNumber_X8_in
set_option maxRecDepth 20000 in
theorem ggX8_takesNumber_X8_fails : GoodIn wsX8_takesNumber wsX8_fails := goodIn_r _ [19, 20, 21, 25, 26, 27, 28, 29, 30, 31, 32, 33, 34, 35, 36, 37, 38, 39, 40, 41, 42, 43, 44, 45, 46, 47] (by decide +kernel) (by decide +kernel)
set_option maxRecDepth 20000 in
theorem gX8_takesNumber_X8_fails : GoodIn wsX8_takesNumber (wsV RX8 100 RX8 yX8_fails wsX8_fails) := goodIn_app (goodIn_of _ (by decide +kernel)) ggX8_takesNumber_X8_fails
set_option maxRecDepth 20000 in
theorem ggX8_takesNumber_X8_has : GoodIn wsX8_takesNumber wsX8_has := goodIn_r _ [24] (by decide +kernel) (by decide +kernel)
set_option maxRecDepth 20000 in
theorem gX8_takesNumber_X8_has : GoodIn wsX8_takesNumber (va_wsS RX8 111 yX8_has wsX8_has) := goodIn_app (goodIn_of _ (by decide +kernel)) ggX8_takesNumber_X8_has
theorem dX8_takesNumber_0 : decode cX8_takesNumber 0 = .ok (.aload_n 0, 1) := by decide +kernel
theorem dX8_takesNumber_1 : decode cX8_takesNumber 1 = .ok (.getfield 87, 3) := by decide +kernel
theorem dX8_takesNumber_4 : decode cX8_takesNumber 4 = .ok (.istore 4, 2) := by decide +kernel
theorem dX8_takesNumber_6 : decode cX8_takesNumber 6 = .ok (.aload_n 0, 1) := by decide +kernel
theorem dX8_takesNumber_7 : decode cX8_takesNumber 7 = .ok (.iconst 0, 1) := by decide +kernel
theorem dX8_takesNumber_8 : decode cX8_takesNumber 8 = .ok (.putfield 104, 3) := by decide +kernel
theorem dX8_takesNumber_11 : decode cX8_takesNumber 11 = .ok (.aload_n 0, 1) := by decide +kernel
theorem dX8_takesNumber_12 : decode cX8_takesNumber 12 = .ok (.invokevirtual 96, 3) := by decide +kernel
theorem dX8_takesNumber_15 : decode cX8_takesNumber 15 = .ok (.i2l, 1) := by decide +kernel
theorem dX8_takesNumber_16 : decode cX8_takesNumber 16 = .ok (.ldc2_w 107, 3) := by decide +kernel
theorem dX8_takesNumber_19 : decode cX8_takesNumber 19 = .ok (.ldc2_w 109, 3) := by decide +kernel
theorem dX8_takesNumber_22 : decode cX8_takesNumber 22 = .ok (.invokestatic 55, 3) := by decide +kernel
theorem dX8_takesNumber_25 : decode cX8_takesNumber 25 = .ok (.ifCond .eq 53, 3) := by decide +kernel
theorem dX8_takesNumber_28 : decode cX8_takesNumber 28 = .ok (.aload_n 0, 1) := by decide +kernel
theorem dX8_takesNumber_29 : decode cX8_takesNumber 29 = .ok (.aload_n 0, 1) := by decide +kernel
theorem dX8_takesNumber_30 : decode cX8_takesNumber 30 = .ok (.getfield 87, 3) := by decide +kernel
theorem dX8_takesNumber_33 : decode cX8_takesNumber 33 = .ok (.iload 4, 2) := by decide +kernel
theorem dX8_takesNumber_35 : decode cX8_takesNumber 35 = .ok (.isub, 1) := by decide +kernel
theorem dX8_takesNumber_36 : decode cX8_takesNumber 36 = .ok (.iconst 2, 1) := by decide +kernel
theorem dX8_takesNumber_37 : decode cX8_takesNumber 37 = .ok (.if_icmp .ge 21, 3) := by decide +kernel
theorem dX8_takesNumber_40 : decode cX8_takesNumber 40 = .ok (.bipush 10, 2) := by decide +kernel
theorem dX8_takesNumber_42 : decode cX8_takesNumber 42 = .ok (.aload_n 0, 1) := by decide +kernel
theorem dX8_takesNumber_43 : decode cX8_takesNumber 43 = .ok (.getfield 104, 3) := by decide +kernel
theorem dX8_takesNumber_46 : decode cX8_takesNumber 46 = .ok (.imul, 1) := by decide +kernel
theorem dX8_takesNumber_47 : decode cX8_takesNumber 47 = .ok (.aload_n 0, 1) := by decide +kernel
theorem dX8_takesNumber_48 : decode cX8_takesNumber 48 = .ok (.invokevirtual 96, 3) := by decide +kernel
theorem dX8_takesNumber_51 : decode cX8_takesNumber 51 = .ok (.iadd, 1) := by decide +kernel
theorem dX8_takesNumber_52 : decode cX8_takesNumber 52 = .ok (.bipush 48, 2) := by decide +kernel
theorem dX8_takesNumber_54 : decode cX8_takesNumber 54 = .ok (.isub, 1) := by decide +kernel
theorem dX8_takesNumber_55 : decode cX8_takesNumber 55 = .ok (.goto 7, 3) := by decide +kernel
theorem dX8_takesNumber_58 : decode cX8_takesNumber 58 = .ok (.aload_n 0, 1) := by decide +kernel
theorem dX8_takesNumber_59 : decode cX8_takesNumber 59 = .ok (.getfield 104, 3) := by decide +kernel
theorem dX8_takesNumber_62 : decode cX8_takesNumber 62 = .ok (.putfield 104, 3) := by decide +kernel
theorem dX8_takesNumber_65 : decode cX8_takesNumber 65 = .ok (.aload_n 0, 1) := by decide +kernel
theorem dX8_takesNumber_66 : decode cX8_takesNumber 66 = .ok (.dup, 1) := by decide +kernel
theorem dX8_takesNumber_67 : decode cX8_takesNumber 67 = .ok (.getfield 87, 3) := by decide +kernel
theorem dX8_takesNumber_70 : decode cX8_takesNumber 70 = .ok (.iconst 1, 1) := by decide +kernel
theorem dX8_takesNumber_71 : decode cX8_takesNumber 71 = .ok (.iadd, 1) := by decide +kernel
theorem dX8_takesNumber_72 : decode cX8_takesNumber 72 = .ok (.putfield 87, 3) := by decide +kernel
theorem dX8_takesNumber_75 : decode cX8_takesNumber 75 = .ok (.goto (-64), 3) := by decide +kernel
theorem dX8_takesNumber_78 : decode cX8_takesNumber 78 = .ok (.aload_n 0, 1) := by decide +kernel
theorem dX8_takesNumber_79 : decode cX8_takesNumber 79 = .ok (.getfield 87, 3) := by decide +kernel
theorem dX8_takesNumber_82 : decode cX8_takesNumber 82 = .ok (.iload 4, 2) := by decide +kernel
theorem dX8_takesNumber_84 : decode cX8_takesNumber 84 = .ok (.isub, 1) := by decide +kernel
theorem dX8_takesNumber_85 : decode cX8_takesNumber 85 = .ok (.i2l, 1) := by decide +kernel
theorem dX8_takesNumber_86 : decode cX8_takesNumber 86 = .ok (.lconst 1, 1) := by decide +kernel
theorem dX8_takesNumber_87 : decode cX8_takesNumber 87 = .ok (.ldc2_w 70, 3) := by decide +kernel
theorem dX8_takesNumber_90 : decode cX8_takesNumber 90 = .ok (.invokestatic 55, 3) := by decide +kernel
theorem dX8_takesNumber_93 : decode cX8_takesNumber 93 = .ok (.ifCond .ne 11, 3) := by decide +kernel
theorem dX8_takesNumber_96 : decode cX8_takesNumber 96 = .ok (.aload_n 0, 1) := by decide +kernel
theorem dX8_takesNumber_97 : decode cX8_takesNumber 97 = .ok (.iconst 1, 1) := by decide +kernel
theorem dX8_takesNumber_98 : decode cX8_takesNumber 98 = .ok (.iload 4, 2) := by decide +kernel
theorem dX8_takesNumber_100 : decode cX8_takesNumber 100 = .ok (.invokevirtual 100, 3) := by decide +kernel
theorem dX8_takesNumber_103 : decode cX8_takesNumber 103 = .ok (.ireturn, 1) := by decide +kernel
theorem dX8_takesNumber_104 : decode cX8_takesNumber 104 = .ok (.aload_n 0, 1) := by decide +kernel
theorem dX8_takesNumber_105 : decode cX8_takesNumber 105 = .ok (.getfield 104, 3) := by decide +kernel
theorem dX8_takesNumber_108 : decode cX8_takesNumber 108 = .ok (.i2l, 1) := by decide +kernel
theorem dX8_takesNumber_109 : decode cX8_takesNumber 109 = .ok (.iload_n 1, 1) := by decide +kernel
theorem dX8_takesNumber_110 : decode cX8_takesNumber 110 = .ok (.i2l, 1) := by decide +kernel
theorem dX8_takesNumber_111 : decode cX8_takesNumber 111 = .ok (.iload_n 2, 1) := by decide +kernel
theorem dX8_takesNumber_112 : decode cX8_takesNumber 112 = .ok (.i2l, 1) := by decide +kernel
theorem dX8_takesNumber_113 : decode cX8_takesNumber 113 = .ok (.invokestatic 55, 3) := by decide +kernel
theorem dX8_takesNumber_116 : decode cX8_takesNumber 116 = .ok (.ifCond .eq 14, 3) := by decide +kernel
theorem dX8_takesNumber_119 : decode cX8_takesNumber 119 = .ok (.iload_n 3, 1) := by decide +kernel
theorem dX8_takesNumber_120 : decode cX8_takesNumber 120 = .ok (.aload_n 0, 1) := by decide +kernel
theorem dX8_takesNumber_121 : decode cX8_takesNumber 121 = .ok (.getfield 104, 3) := by decide +kernel
theorem dX8_takesNumber_124 : decode cX8_takesNumber 124 = .ok (.invokestatic 111, 3) := by decide +kernel
theorem dX8_takesNumber_127 : decode cX8_takesNumber 127 = .ok (.ifCond .eq 11, 3) := by decide +kernel
theorem dX8_takesNumber_130 : decode cX8_takesNumber 130 = .ok (.aload_n 0, 1) := by decide +kernel
theorem dX8_takesNumber_131 : decode cX8_takesNumber 131 = .ok (.iconst 2, 1) := by decide +kernel
theorem dX8_takesNumber_132 : decode cX8_takesNumber 132 = .ok (.iload 4, 2) := by decide +kernel
theorem dX8_takesNumber_134 : decode cX8_takesNumber 134 = .ok (.invokevirtual 100, 3) := by decide +kernel
theorem dX8_takesNumber_137 : decode cX8_takesNumber 137 = .ok (.ireturn, 1) := by decide +kernel
theorem dX8_takesNumber_138 : decode cX8_takesNumber 138 = .ok (.iconst 1, 1) := by decide +kernel
theorem dX8_takesNumber_139 : decode cX8_takesNumber 139 = .ok (.ireturn, 1) := by decide +kernel
theorem dX8_kindOf_0 : decode cX8_kindOf 0 = .ok (.iload_n 0, 1) := by decide +kernel
theorem dX8_kindOf_1 : decode cX8_kindOf 1 = .ok (.bipush 103, 2) := by decide +kernel
theorem dX8_kindOf_3 : decode cX8_kindOf 3 = .ok (.if_icmp .ne 7, 3) := by decide +kernel
theorem dX8_kindOf_6 : decode cX8_kindOf 6 = .ok (.iconst 1, 1) := by decide +kernel
theorem dX8_kindOf_7 : decode cX8_kindOf 7 = .ok (.goto 44, 3) := by decide +kernel
theorem dX8_kindOf_10 : decode cX8_kindOf 10 = .ok (.iload_n 0, 1) := by decide +kernel
theorem dX8_kindOf_11 : decode cX8_kindOf 11 = .ok (.bipush 115, 2) := by decide +kernel
theorem dX8_kindOf_13 : decode cX8_kindOf 13 = .ok (.if_icmp .ne 7, 3) := by decide +kernel
theorem dX8_kindOf_16 : decode cX8_kindOf 16 = .ok (.iconst 2, 1) := by decide +kernel
theorem dX8_kindOf_17 : decode cX8_kindOf 17 = .ok (.goto 34, 3) := by decide +kernel
theorem dX8_kindOf_20 : decode cX8_kindOf 20 = .ok (.iload_n 0, 1) := by decide +kernel
theorem dX8_kindOf_21 : decode cX8_kindOf 21 = .ok (.bipush 112, 2) := by decide +kernel
theorem dX8_kindOf_23 : decode cX8_kindOf 23 = .ok (.if_icmp .ne 7, 3) := by decide +kernel
theorem dX8_kindOf_26 : decode cX8_kindOf 26 = .ok (.iconst 3, 1) := by decide +kernel
theorem dX8_kindOf_27 : decode cX8_kindOf 27 = .ok (.goto 24, 3) := by decide +kernel
theorem dX8_kindOf_30 : decode cX8_kindOf 30 = .ok (.iload_n 0, 1) := by decide +kernel
theorem dX8_kindOf_31 : decode cX8_kindOf 31 = .ok (.bipush 104, 2) := by decide +kernel
theorem dX8_kindOf_33 : decode cX8_kindOf 33 = .ok (.if_icmp .ne 7, 3) := by decide +kernel
theorem dX8_kindOf_36 : decode cX8_kindOf 36 = .ok (.iconst 4, 1) := by decide +kernel
theorem dX8_kindOf_37 : decode cX8_kindOf 37 = .ok (.goto 14, 3) := by decide +kernel
theorem dX8_kindOf_40 : decode cX8_kindOf 40 = .ok (.iload_n 0, 1) := by decide +kernel
theorem dX8_kindOf_41 : decode cX8_kindOf 41 = .ok (.bipush 111, 2) := by decide +kernel
theorem dX8_kindOf_43 : decode cX8_kindOf 43 = .ok (.if_icmp .ne 7, 3) := by decide +kernel
theorem dX8_kindOf_46 : decode cX8_kindOf 46 = .ok (.iconst 5, 1) := by decide +kernel
theorem dX8_kindOf_47 : decode cX8_kindOf 47 = .ok (.goto 4, 3) := by decide +kernel
theorem dX8_kindOf_50 : decode cX8_kindOf 50 = .ok (.iconst 0, 1) := by decide +kernel
theorem dX8_kindOf_51 : decode cX8_kindOf 51 = .ok (.ireturn, 1) := by decide +kernel
set_option maxRecDepth 20000 in
theorem ggX8_takesSaint_X8_here : GoodIn wsX8_takesSaint wsX8_here := goodIn_r _ [8, 2, 9, 10, 37, 38, 39, 40, 41, 42, 43, 44, 45, 46, 47, 48, 49, 50, 51, 52, 53, 54, 55, 56, 57, 58, 59] (by decide +kernel) (by decide +kernel)
set_option maxRecDepth 20000 in
theorem gX8_takesSaint_X8_here : GoodIn wsX8_takesSaint (wsV RX8 96 RX8 yX8_here wsX8_here) := goodIn_app (goodIn_of _ (by decide +kernel)) ggX8_takesSaint_X8_here
set_option maxRecDepth 20000 in
theorem ggX8_takesSaint_X8_kindOf : GoodIn wsX8_takesSaint wsX8_kindOf := goodIn_r _ [13] (by decide +kernel) (by decide +kernel)
set_option maxRecDepth 20000 in
theorem gX8_takesSaint_X8_kindOf : GoodIn wsX8_takesSaint (va_wsS RX8 114 yX8_kindOf wsX8_kindOf) := goodIn_app (goodIn_of _ (by decide +kernel)) ggX8_takesSaint_X8_kindOf
set_option maxRecDepth 20000 in
theorem ggX8_takesSaint_X8_fails : GoodIn wsX8_takesSaint wsX8_fails := goodIn_r _ [17, 18, 19, 37, 38, 39, 40, 41, 42, 43, 44, 45, 46, 47, 48, 49, 50, 51, 52, 53, 54, 55, 56, 57, 58, 59] (by decide +kernel) (by decide +kernel)
set_option maxRecDepth 20000 in
theorem gX8_takesSaint_X8_fails : GoodIn wsX8_takesSaint (wsV RX8 100 RX8 yX8_fails wsX8_fails) := goodIn_app (goodIn_of _ (by decide +kernel)) ggX8_takesSaint_X8_fails
set_option maxRecDepth 20000 in
theorem ggX8_takesSaint_X8_takesNumber : GoodIn wsX8_takesSaint wsX8_takesNumber := goodIn_r _ [23, 2, 3, 24, 25, 26, 4, 5, 6, 7, 8, 9, 10, 27, 28, 29, 14, 15, 16, 17, 18, 19, 30, 31, 32, 37, 38, 39, 40, 41, 42, 43, 44, 45, 46, 47, 48, 49, 50, 51, 52, 53, 54, 55, 56, 57, 58, 59] (by decide +kernel) (by decide +kernel)
set_option maxRecDepth 20000 in
theorem gX8_takesSaint_X8_takesNumber : GoodIn wsX8_takesSaint (wsV RX8 117 RX8 yX8_takesNumber wsX8_takesNumber) := goodIn_app (goodIn_of _ (by decide +kernel)) ggX8_takesSaint_X8_takesNumber
set_option maxRecDepth 20000 in
theorem ggX8_takesSaint_X8_takes : GoodIn wsX8_takesSaint wsX8_takes := goodIn_r _ [36, 2, 4, 5, 6, 7, 8, 9, 10, 14, 15, 16, 17, 18, 19, 37, 38, 39, 40, 41, 42, 43, 44, 45, 46, 47, 48, 49, 50, 51, 52, 53, 54, 55, 56, 57, 58, 59] (by decide +kernel) (by decide +kernel)
set_option maxRecDepth 20000 in
theorem gX8_takesSaint_X8_takes : GoodIn wsX8_takesSaint (wsV RX8 121 RX8 yX8_takes wsX8_takes) := goodIn_app (goodIn_of _ (by decide +kernel)) ggX8_takesSaint_X8_takes
theorem dX8_takesSaint_0 : decode cX8_takesSaint 0 = .ok (.aload_n 0, 1) := by decide +kernel
theorem dX8_takesSaint_1 : decode cX8_takesSaint 1 = .ok (.getfield 7, 3) := by decide +kernel
theorem dX8_takesSaint_4 : decode cX8_takesSaint 4 = .ok (.bipush 68, 2) := by decide +kernel
theorem dX8_takesSaint_6 : decode cX8_takesSaint 6 = .ok (.iaload, 1) := by decide +kernel
theorem dX8_takesSaint_7 : decode cX8_takesSaint 7 = .ok (.istore_n 1, 1) := by decide +kernel
theorem dX8_takesSaint_8 : decode cX8_takesSaint 8 = .ok (.aload_n 0, 1) := by decide +kernel
theorem dX8_takesSaint_9 : decode cX8_takesSaint 9 = .ok (.invokevirtual 96, 3) := by decide +kernel
theorem dX8_takesSaint_12 : decode cX8_takesSaint 12 = .ok (.invokestatic 114, 3) := by decide +kernel
theorem dX8_takesSaint_15 : decode cX8_takesSaint 15 = .ok (.istore_n 2, 1) := by decide +kernel
theorem dX8_takesSaint_16 : decode cX8_takesSaint 16 = .ok (.iload_n 2, 1) := by decide +kernel
theorem dX8_takesSaint_17 : decode cX8_takesSaint 17 = .ok (.ifCond .ne 13, 3) := by decide +kernel
theorem dX8_takesSaint_20 : decode cX8_takesSaint 20 = .ok (.aload_n 0, 1) := by decide +kernel
theorem dX8_takesSaint_21 : decode cX8_takesSaint 21 = .ok (.iconst 1, 1) := by decide +kernel
theorem dX8_takesSaint_22 : decode cX8_takesSaint 22 = .ok (.aload_n 0, 1) := by decide +kernel
theorem dX8_takesSaint_23 : decode cX8_takesSaint 23 = .ok (.getfield 87, 3) := by decide +kernel
theorem dX8_takesSaint_26 : decode cX8_takesSaint 26 = .ok (.invokevirtual 100, 3) := by decide +kernel
theorem dX8_takesSaint_29 : decode cX8_takesSaint 29 = .ok (.ireturn, 1) := by decide +kernel
theorem dX8_takesSaint_30 : decode cX8_takesSaint 30 = .ok (.iload_n 1, 1) := by decide +kernel
theorem dX8_takesSaint_31 : decode cX8_takesSaint 31 = .ok (.bipush 7, 2) := by decide +kernel
theorem dX8_takesSaint_33 : decode cX8_takesSaint 33 = .ok (.if_icmp .ne 13, 3) := by decide +kernel
theorem dX8_takesSaint_36 : decode cX8_takesSaint 36 = .ok (.aload_n 0, 1) := by decide +kernel
theorem dX8_takesSaint_37 : decode cX8_takesSaint 37 = .ok (.iconst 3, 1) := by decide +kernel
theorem dX8_takesSaint_38 : decode cX8_takesSaint 38 = .ok (.aload_n 0, 1) := by decide +kernel
theorem dX8_takesSaint_39 : decode cX8_takesSaint 39 = .ok (.getfield 87, 3) := by decide +kernel
theorem dX8_takesSaint_42 : decode cX8_takesSaint 42 = .ok (.invokevirtual 100, 3) := by decide +kernel
theorem dX8_takesSaint_45 : decode cX8_takesSaint 45 = .ok (.ireturn, 1) := by decide +kernel
theorem dX8_takesSaint_46 : decode cX8_takesSaint 46 = .ok (.aload_n 0, 1) := by decide +kernel
theorem dX8_takesSaint_47 : decode cX8_takesSaint 47 = .ok (.dup, 1) := by decide +kernel
theorem dX8_takesSaint_48 : decode cX8_takesSaint 48 = .ok (.getfield 87, 3) := by decide +kernel
theorem dX8_takesSaint_51 : decode cX8_takesSaint 51 = .ok (.iconst 1, 1) := by decide +kernel
theorem dX8_takesSaint_52 : decode cX8_takesSaint 52 = .ok (.iadd, 1) := by decide +kernel
theorem dX8_takesSaint_53 : decode cX8_takesSaint 53 = .ok (.putfield 87, 3) := by decide +kernel
theorem dX8_takesSaint_56 : decode cX8_takesSaint 56 = .ok (.iconst 0, 1) := by decide +kernel
theorem dX8_takesSaint_57 : decode cX8_takesSaint 57 = .ok (.istore_n 3, 1) := by decide +kernel
theorem dX8_takesSaint_58 : decode cX8_takesSaint 58 = .ok (.iconst 0, 1) := by decide +kernel
theorem dX8_takesSaint_59 : decode cX8_takesSaint 59 = .ok (.istore 4, 2) := by decide +kernel
theorem dX8_takesSaint_61 : decode cX8_takesSaint 61 = .ok (.iload 4, 2) := by decide +kernel
theorem dX8_takesSaint_63 : decode cX8_takesSaint 63 = .ok (.iload_n 1, 1) := by decide +kernel
theorem dX8_takesSaint_64 : decode cX8_takesSaint 64 = .ok (.if_icmp .ge 27, 3) := by decide +kernel
theorem dX8_takesSaint_67 : decode cX8_takesSaint 67 = .ok (.iload_n 3, 1) := by decide +kernel
theorem dX8_takesSaint_68 : decode cX8_takesSaint 68 = .ok (.iconst 1, 1) := by decide +kernel
theorem dX8_takesSaint_69 : decode cX8_takesSaint 69 = .ok (.aload_n 0, 1) := by decide +kernel
theorem dX8_takesSaint_70 : decode cX8_takesSaint 70 = .ok (.getfield 7, 3) := by decide +kernel
theorem dX8_takesSaint_73 : decode cX8_takesSaint 73 = .ok (.bipush 71, 2) := by decide +kernel
theorem dX8_takesSaint_75 : decode cX8_takesSaint 75 = .ok (.iload 4, 2) := by decide +kernel
theorem dX8_takesSaint_77 : decode cX8_takesSaint 77 = .ok (.iadd, 1) := by decide +kernel
theorem dX8_takesSaint_78 : decode cX8_takesSaint 78 = .ok (.iaload, 1) := by decide +kernel
theorem dX8_takesSaint_79 : decode cX8_takesSaint 79 = .ok (.ishl, 1) := by decide +kernel
theorem dX8_takesSaint_80 : decode cX8_takesSaint 80 = .ok (.bipush (-2), 2) := by decide +kernel
theorem dX8_takesSaint_82 : decode cX8_takesSaint 82 = .ok (.iand, 1) := by decide +kernel
theorem dX8_takesSaint_83 : decode cX8_takesSaint 83 = .ok (.ior, 1) := by decide +kernel
theorem dX8_takesSaint_84 : decode cX8_takesSaint 84 = .ok (.istore_n 3, 1) := by decide +kernel
theorem dX8_takesSaint_85 : decode cX8_takesSaint 85 = .ok (.iinc 4 1, 3) := by decide +kernel
theorem dX8_takesSaint_88 : decode cX8_takesSaint 88 = .ok (.goto (-27), 3) := by decide +kernel
theorem dX8_takesSaint_91 : decode cX8_takesSaint 91 = .ok (.aload_n 0, 1) := by decide +kernel
theorem dX8_takesSaint_92 : decode cX8_takesSaint 92 = .ok (.iconst 0, 1) := by decide +kernel
theorem dX8_takesSaint_93 : decode cX8_takesSaint 93 = .ok (.bipush 9, 2) := by decide +kernel
theorem dX8_takesSaint_95 : decode cX8_takesSaint 95 = .ok (.iload_n 3, 1) := by decide +kernel
theorem dX8_takesSaint_96 : decode cX8_takesSaint 96 = .ok (.invokevirtual 117, 3) := by decide +kernel
theorem dX8_takesSaint_99 : decode cX8_takesSaint 99 = .ok (.ifCond .ne 5, 3) := by decide +kernel
theorem dX8_takesSaint_102 : decode cX8_takesSaint 102 = .ok (.iconst 0, 1) := by decide +kernel
theorem dX8_takesSaint_103 : decode cX8_takesSaint 103 = .ok (.ireturn, 1) := by decide +kernel
theorem dX8_takesSaint_104 : decode cX8_takesSaint 104 = .ok (.aload_n 0, 1) := by decide +kernel
theorem dX8_takesSaint_105 : decode cX8_takesSaint 105 = .ok (.getfield 7, 3) := by decide +kernel
theorem dX8_takesSaint_108 : decode cX8_takesSaint 108 = .ok (.bipush 78, 2) := by decide +kernel
theorem dX8_takesSaint_110 : decode cX8_takesSaint 110 = .ok (.iload_n 1, 1) := by decide +kernel
theorem dX8_takesSaint_111 : decode cX8_takesSaint 111 = .ok (.iadd, 1) := by decide +kernel
theorem dX8_takesSaint_112 : decode cX8_takesSaint 112 = .ok (.iload_n 2, 1) := by decide +kernel
theorem dX8_takesSaint_113 : decode cX8_takesSaint 113 = .ok (.iastore, 1) := by decide +kernel
theorem dX8_takesSaint_114 : decode cX8_takesSaint 114 = .ok (.aload_n 0, 1) := by decide +kernel
theorem dX8_takesSaint_115 : decode cX8_takesSaint 115 = .ok (.getfield 7, 3) := by decide +kernel
theorem dX8_takesSaint_118 : decode cX8_takesSaint 118 = .ok (.bipush 71, 2) := by decide +kernel
theorem dX8_takesSaint_120 : decode cX8_takesSaint 120 = .ok (.iload_n 1, 1) := by decide +kernel
theorem dX8_takesSaint_121 : decode cX8_takesSaint 121 = .ok (.iadd, 1) := by decide +kernel
theorem dX8_takesSaint_122 : decode cX8_takesSaint 122 = .ok (.aload_n 0, 1) := by decide +kernel
theorem dX8_takesSaint_123 : decode cX8_takesSaint 123 = .ok (.getfield 104, 3) := by decide +kernel
theorem dX8_takesSaint_126 : decode cX8_takesSaint 126 = .ok (.iastore, 1) := by decide +kernel
theorem dX8_takesSaint_127 : decode cX8_takesSaint 127 = .ok (.aload_n 0, 1) := by decide +kernel
theorem dX8_takesSaint_128 : decode cX8_takesSaint 128 = .ok (.getfield 7, 3) := by decide +kernel
theorem dX8_takesSaint_131 : decode cX8_takesSaint 131 = .ok (.bipush 68, 2) := by decide +kernel
theorem dX8_takesSaint_133 : decode cX8_takesSaint 133 = .ok (.dup2, 1) := by decide +kernel
theorem dX8_takesSaint_134 : decode cX8_takesSaint 134 = .ok (.iaload, 1) := by decide +kernel
theorem dX8_takesSaint_135 : decode cX8_takesSaint 135 = .ok (.iconst 1, 1) := by decide +kernel
theorem dX8_takesSaint_136 : decode cX8_takesSaint 136 = .ok (.iadd, 1) := by decide +kernel
theorem dX8_takesSaint_137 : decode cX8_takesSaint 137 = .ok (.iastore, 1) := by decide +kernel
theorem dX8_takesSaint_138 : decode cX8_takesSaint 138 = .ok (.aload_n 0, 1) := by decide +kernel
theorem dX8_takesSaint_139 : decode cX8_takesSaint 139 = .ok (.bipush 59, 2) := by decide +kernel
theorem dX8_takesSaint_141 : decode cX8_takesSaint 141 = .ok (.invokevirtual 121, 3) := by decide +kernel
theorem dX8_takesSaint_144 : decode cX8_takesSaint 144 = .ok (.ireturn, 1) := by decide +kernel
set_option maxRecDepth 20000 in
theorem ggX8_takesAll_X8_takes : GoodIn wsX8_takesAll wsX8_takes := goodIn_r _ [9, 3, 10, 11, 12, 8, 13, 4, 14, 15, 16, 17, 18, 19, 20, 41, 42, 43, 44, 45, 46, 47, 48, 49, 50, 51, 52, 53, 54, 55, 56, 57, 58, 59, 60, 61, 62, 63] (by decide +kernel) (by decide +kernel)
set_option maxRecDepth 20000 in
theorem gX8_takesAll_X8_takes : GoodIn wsX8_takesAll (wsV RX8 121 RX8 yX8_takes wsX8_takes) := goodIn_app (goodIn_of _ (by decide +kernel)) ggX8_takesAll_X8_takes
set_option maxRecDepth 20000 in
theorem ggX8_takesAll_X8_takesNumber : GoodIn wsX8_takesAll wsX8_takesNumber := goodIn_r _ [24, 3, 2, 25, 26, 27, 10, 11, 12, 8, 13, 4, 14, 28, 29, 30, 15, 16, 17, 18, 19, 20, 31, 32, 33, 41, 42, 43, 44, 45, 46, 47, 48, 49, 50, 51, 52, 53, 54, 55, 56, 57, 58, 59, 60, 61, 62, 63] (by decide +kernel) (by decide +kernel)
set_option maxRecDepth 20000 in
theorem gX8_takesAll_X8_takesNumber : GoodIn wsX8_takesAll (wsV RX8 117 RX8 yX8_takesNumber wsX8_takesNumber) := goodIn_app (goodIn_of _ (by decide +kernel)) ggX8_takesAll_X8_takesNumber
set_option maxRecDepth 20000 in
theorem ggX8_takesAll_X8_takesSaint : GoodIn wsX8_takesAll wsX8_takesSaint := goodIn_r _ [37, 1, 3, 2, 10, 11, 12, 8, 13, 4, 14, 38, 39, 40, 15, 16, 17, 18, 19, 20, 21, 22, 23, 24, 25, 26, 27, 28, 29, 30, 31, 32, 33, 5, 6, 7, 9, 41, 42, 43, 44, 45, 46, 47, 48, 49, 50, 51, 52, 53, 54, 55, 56, 57, 58, 59, 60, 61, 62, 63] (by decide +kernel) (by decide +kernel)
set_option maxRecDepth 20000 in
theorem gX8_takesAll_X8_takesSaint : GoodIn wsX8_takesAll (wsV RX8 124 RX8 yX8_takesSaint wsX8_takesSaint) := goodIn_app (goodIn_of _ (by decide +kernel)) ggX8_takesAll_X8_takesSaint
theorem dX8_takesAll_0 : decode cX8_takesAll 0 = .ok (.aload_n 0, 1) := by decide +kernel
theorem dX8_takesAll_1 : decode cX8_takesAll 1 = .ok (.bipush 114, 2) := by decide +kernel
theorem dX8_takesAll_3 : decode cX8_takesAll 3 = .ok (.invokevirtual 121, 3) := by decide +kernel
theorem dX8_takesAll_6 : decode cX8_takesAll 6 = .ok (.ifCond .eq 14, 3) := by decide +kernel
theorem dX8_takesAll_9 : decode cX8_takesAll 9 = .ok (.aload_n 0, 1) := by decide +kernel
theorem dX8_takesAll_10 : decode cX8_takesAll 10 = .ok (.iconst 1, 1) := by decide +kernel
theorem dX8_takesAll_11 : decode cX8_takesAll 11 = .ok (.bipush 9, 2) := by decide +kernel
theorem dX8_takesAll_13 : decode cX8_takesAll 13 = .ok (.iconst 0, 1) := by decide +kernel
theorem dX8_takesAll_14 : decode cX8_takesAll 14 = .ok (.invokevirtual 117, 3) := by decide +kernel
theorem dX8_takesAll_17 : decode cX8_takesAll 17 = .ok (.ifCond .ne 5, 3) := by decide +kernel
theorem dX8_takesAll_20 : decode cX8_takesAll 20 = .ok (.iconst 0, 1) := by decide +kernel
theorem dX8_takesAll_21 : decode cX8_takesAll 21 = .ok (.ireturn, 1) := by decide +kernel
theorem dX8_takesAll_22 : decode cX8_takesAll 22 = .ok (.aload_n 0, 1) := by decide +kernel
theorem dX8_takesAll_23 : decode cX8_takesAll 23 = .ok (.getfield 7, 3) := by decide +kernel
theorem dX8_takesAll_26 : decode cX8_takesAll 26 = .ok (.bipush 69, 2) := by decide +kernel
theorem dX8_takesAll_28 : decode cX8_takesAll 28 = .ok (.aload_n 0, 1) := by decide +kernel
theorem dX8_takesAll_29 : decode cX8_takesAll 29 = .ok (.getfield 104, 3) := by decide +kernel
theorem dX8_takesAll_32 : decode cX8_takesAll 32 = .ok (.iastore, 1) := by decide +kernel
theorem dX8_takesAll_33 : decode cX8_takesAll 33 = .ok (.aload_n 0, 1) := by decide +kernel
theorem dX8_takesAll_34 : decode cX8_takesAll 34 = .ok (.bipush 59, 2) := by decide +kernel
theorem dX8_takesAll_36 : decode cX8_takesAll 36 = .ok (.invokevirtual 121, 3) := by decide +kernel
theorem dX8_takesAll_39 : decode cX8_takesAll 39 = .ok (.ifCond .ne 5, 3) := by decide +kernel
theorem dX8_takesAll_42 : decode cX8_takesAll 42 = .ok (.iconst 0, 1) := by decide +kernel
theorem dX8_takesAll_43 : decode cX8_takesAll 43 = .ok (.ireturn, 1) := by decide +kernel
theorem dX8_takesAll_44 : decode cX8_takesAll 44 = .ok (.aload_n 0, 1) := by decide +kernel
theorem dX8_takesAll_45 : decode cX8_takesAll 45 = .ok (.getfield 7, 3) := by decide +kernel
theorem dX8_takesAll_48 : decode cX8_takesAll 48 = .ok (.bipush 68, 2) := by decide +kernel
theorem dX8_takesAll_50 : decode cX8_takesAll 50 = .ok (.iaload, 1) := by decide +kernel
theorem dX8_takesAll_51 : decode cX8_takesAll 51 = .ok (.iconst 2, 1) := by decide +kernel
theorem dX8_takesAll_52 : decode cX8_takesAll 52 = .ok (.if_icmp .lt 14, 3) := by decide +kernel
theorem dX8_takesAll_55 : decode cX8_takesAll 55 = .ok (.aload_n 0, 1) := by decide +kernel
theorem dX8_takesAll_56 : decode cX8_takesAll 56 = .ok (.getfield 87, 3) := by decide +kernel
theorem dX8_takesAll_59 : decode cX8_takesAll 59 = .ok (.aload_n 0, 1) := by decide +kernel
theorem dX8_takesAll_60 : decode cX8_takesAll 60 = .ok (.getfield 83, 3) := by decide +kernel
theorem dX8_takesAll_63 : decode cX8_takesAll 63 = .ok (.if_icmp .ge 12, 3) := by decide +kernel
theorem dX8_takesAll_66 : decode cX8_takesAll 66 = .ok (.aload_n 0, 1) := by decide +kernel
theorem dX8_takesAll_67 : decode cX8_takesAll 67 = .ok (.invokevirtual 124, 3) := by decide +kernel
theorem dX8_takesAll_70 : decode cX8_takesAll 70 = .ok (.ifCond .ne (-26), 3) := by decide +kernel
theorem dX8_takesAll_73 : decode cX8_takesAll 73 = .ok (.iconst 0, 1) := by decide +kernel
theorem dX8_takesAll_74 : decode cX8_takesAll 74 = .ok (.ireturn, 1) := by decide +kernel
theorem dX8_takesAll_75 : decode cX8_takesAll 75 = .ok (.iconst 1, 1) := by decide +kernel
theorem dX8_takesAll_76 : decode cX8_takesAll 76 = .ok (.ireturn, 1) := by decide +kernel
set_option maxRecDepth 20000 in
theorem ggX8_saints_X8_takesAll : GoodIn wsX8_saints wsX8_takesAll := goodIn_r _ [11, 1, 12, 2, 3, 13, 14, 15, 10, 16, 17, 18, 19, 20, 21, 22, 23, 24, 25, 26, 5, 27, 28, 29, 30, 31, 32, 33, 34, 35, 36, 37, 38, 39, 40, 41, 42, 43, 44, 45, 46, 51, 52, 53, 54, 55, 56, 57, 58, 59, 60, 61, 62, 63, 64, 65, 66, 67, 68, 69, 70, 71, 72, 73] (by decide +kernel) (by decide +kernel)
set_option maxRecDepth 20000 in
theorem gX8_saints_X8_takesAll : GoodIn wsX8_saints (wsV RX8 128 RX8 yX8_takesAll wsX8_takesAll) := goodIn_app (goodIn_of _ (by decide +kernel)) ggX8_saints_X8_takesAll
set_option maxRecDepth 20000 in
theorem ggX8_saints_X8_copyOf : GoodIn wsX8_saints wsX8_copyOf := goodIn_r _ [50, 1, 51, 52, 53, 54, 55, 56, 57, 58, 59, 60, 61, 62, 63, 64, 65, 66, 67, 68, 69, 70, 71, 72, 73] (by decide +kernel) (by decide +kernel)
set_option maxRecDepth 20000 in
theorem gX8_saints_X8_copyOf : GoodIn wsX8_saints (wsV RX8 132 RX8 yX8_copyOf wsX8_copyOf) := goodIn_app (goodIn_of _ (by decide +kernel)) ggX8_saints_X8_copyOf
theorem dX8_saints_0 : decode cX8_saints 0 = .ok (.iconst 0, 1) := by decide +kernel
theorem dX8_saints_1 : decode cX8_saints 1 = .ok (.istore_n 1, 1) := by decide +kernel
theorem dX8_saints_2 : decode cX8_saints 2 = .ok (.iload_n 1, 1) := by decide +kernel
theorem dX8_saints_3 : decode cX8_saints 3 = .ok (.bipush 17, 2) := by decide +kernel
theorem dX8_saints_5 : decode cX8_saints 5 = .ok (.if_icmp .ge 19, 3) := by decide +kernel
theorem dX8_saints_8 : decode cX8_saints 8 = .ok (.aload_n 0, 1) := by decide +kernel
theorem dX8_saints_9 : decode cX8_saints 9 = .ok (.getfield 7, 3) := by decide +kernel
theorem dX8_saints_12 : decode cX8_saints 12 = .ok (.bipush 68, 2) := by decide +kernel
theorem dX8_saints_14 : decode cX8_saints 14 = .ok (.iload_n 1, 1) := by decide +kernel
theorem dX8_saints_15 : decode cX8_saints 15 = .ok (.iadd, 1) := by decide +kernel
theorem dX8_saints_16 : decode cX8_saints 16 = .ok (.iconst 0, 1) := by decide +kernel
theorem dX8_saints_17 : decode cX8_saints 17 = .ok (.iastore, 1) := by decide +kernel
theorem dX8_saints_18 : decode cX8_saints 18 = .ok (.iinc 1 1, 3) := by decide +kernel
theorem dX8_saints_21 : decode cX8_saints 21 = .ok (.goto (-19), 3) := by decide +kernel
theorem dX8_saints_24 : decode cX8_saints 24 = .ok (.aload_n 0, 1) := by decide +kernel
theorem dX8_saints_25 : decode cX8_saints 25 = .ok (.iconst 0, 1) := by decide +kernel
theorem dX8_saints_26 : decode cX8_saints 26 = .ok (.putfield 87, 3) := by decide +kernel
theorem dX8_saints_29 : decode cX8_saints 29 = .ok (.aload_n 0, 1) := by decide +kernel
theorem dX8_saints_30 : decode cX8_saints 30 = .ok (.invokevirtual 128, 3) := by decide +kernel
theorem dX8_saints_33 : decode cX8_saints 33 = .ok (.istore_n 1, 1) := by decide +kernel
theorem dX8_saints_34 : decode cX8_saints 34 = .ok (.aload_n 0, 1) := by decide +kernel
theorem dX8_saints_35 : decode cX8_saints 35 = .ok (.iconst 0, 1) := by decide +kernel
theorem dX8_saints_36 : decode cX8_saints 36 = .ok (.putfield 83, 3) := by decide +kernel
theorem dX8_saints_39 : decode cX8_saints 39 = .ok (.iload_n 1, 1) := by decide +kernel
theorem dX8_saints_40 : decode cX8_saints 40 = .ok (.ifCond .ne 11, 3) := by decide +kernel
theorem dX8_saints_43 : decode cX8_saints 43 = .ok (.ldc 131, 2) := by decide +kernel
theorem dX8_saints_45 : decode cX8_saints 45 = .ok (.aload_n 0, 1) := by decide +kernel
theorem dX8_saints_46 : decode cX8_saints 46 = .ok (.getfield 93, 3) := by decide +kernel
theorem dX8_saints_49 : decode cX8_saints 49 = .ok (.isub, 1) := by decide +kernel
theorem dX8_saints_50 : decode cX8_saints 50 = .ok (.ireturn, 1) := by decide +kernel
theorem dX8_saints_51 : decode cX8_saints 51 = .ok (.aload_n 0, 1) := by decide +kernel
theorem dX8_saints_52 : decode cX8_saints 52 = .ok (.bipush 68, 2) := by decide +kernel
theorem dX8_saints_54 : decode cX8_saints 54 = .ok (.iconst 0, 1) := by decide +kernel
theorem dX8_saints_55 : decode cX8_saints 55 = .ok (.bipush 17, 2) := by decide +kernel
theorem dX8_saints_57 : decode cX8_saints 57 = .ok (.invokevirtual 132, 3) := by decide +kernel
theorem dX8_saints_60 : decode cX8_saints 60 = .ok (.aload_n 0, 1) := by decide +kernel
theorem dX8_saints_61 : decode cX8_saints 61 = .ok (.iconst 0, 1) := by decide +kernel
theorem dX8_saints_62 : decode cX8_saints 62 = .ok (.putfield 136, 3) := by decide +kernel
theorem dX8_saints_65 : decode cX8_saints 65 = .ok (.aload_n 0, 1) := by decide +kernel
theorem dX8_saints_66 : decode cX8_saints 66 = .ok (.getfield 7, 3) := by decide +kernel
theorem dX8_saints_69 : decode cX8_saints 69 = .ok (.iconst 0, 1) := by decide +kernel
theorem dX8_saints_70 : decode cX8_saints 70 = .ok (.iaload, 1) := by decide +kernel
theorem dX8_saints_71 : decode cX8_saints 71 = .ok (.ireturn, 1) := by decide +kernel
theorem dX8_fault_0 : decode cX8_fault 0 = .ok (.aload_n 0, 1) := by decide +kernel
theorem dX8_fault_1 : decode cX8_fault 1 = .ok (.getfield 90, 3) := by decide +kernel
theorem dX8_fault_4 : decode cX8_fault 4 = .ok (.ireturn, 1) := by decide +kernel
theorem dX8_lets_0 : decode cX8_lets 0 = .ok (.aload_n 0, 1) := by decide +kernel
theorem dX8_lets_1 : decode cX8_lets 1 = .ok (.getfield 7, 3) := by decide +kernel
theorem dX8_lets_4 : decode cX8_lets 4 = .ok (.iload_n 1, 1) := by decide +kernel
theorem dX8_lets_5 : decode cX8_lets 5 = .ok (.bipush 10, 2) := by decide +kernel
theorem dX8_lets_7 : decode cX8_lets 7 = .ok (.iadd, 1) := by decide +kernel
theorem dX8_lets_8 : decode cX8_lets 8 = .ok (.iload_n 2, 1) := by decide +kernel
theorem dX8_lets_9 : decode cX8_lets 9 = .ok (.iadd, 1) := by decide +kernel
theorem dX8_lets_10 : decode cX8_lets 10 = .ok (.iaload, 1) := by decide +kernel
theorem dX8_lets_11 : decode cX8_lets 11 = .ok (.iconst 4, 1) := by decide +kernel
theorem dX8_lets_12 : decode cX8_lets 12 = .ok (.if_icmp .lt 16, 3) := by decide +kernel
theorem dX8_lets_15 : decode cX8_lets 15 = .ok (.aload_n 0, 1) := by decide +kernel
theorem dX8_lets_16 : decode cX8_lets 16 = .ok (.getfield 7, 3) := by decide +kernel
theorem dX8_lets_19 : decode cX8_lets 19 = .ok (.iload_n 1, 1) := by decide +kernel
theorem dX8_lets_20 : decode cX8_lets 20 = .ok (.iconst 3, 1) := by decide +kernel
theorem dX8_lets_21 : decode cX8_lets 21 = .ok (.iadd, 1) := by decide +kernel
theorem dX8_lets_22 : decode cX8_lets 22 = .ok (.iload_n 2, 1) := by decide +kernel
theorem dX8_lets_23 : decode cX8_lets 23 = .ok (.iadd, 1) := by decide +kernel
theorem dX8_lets_24 : decode cX8_lets 24 = .ok (.iaload, 1) := by decide +kernel
theorem dX8_lets_25 : decode cX8_lets 25 = .ok (.ifCond .ne 7, 3) := by decide +kernel
theorem dX8_lets_28 : decode cX8_lets 28 = .ok (.iconst 1, 1) := by decide +kernel
theorem dX8_lets_29 : decode cX8_lets 29 = .ok (.goto 4, 3) := by decide +kernel
theorem dX8_lets_32 : decode cX8_lets 32 = .ok (.iconst 0, 1) := by decide +kernel
theorem dX8_lets_33 : decode cX8_lets 33 = .ok (.ireturn, 1) := by decide +kernel
theorem dX8_changes_0 : decode cX8_changes 0 = .ok (.aload_n 0, 1) := by decide +kernel
theorem dX8_changes_1 : decode cX8_changes 1 = .ok (.getfield 7, 3) := by decide +kernel
theorem dX8_changes_4 : decode cX8_changes 4 = .ok (.iload_n 1, 1) := by decide +kernel
theorem dX8_changes_5 : decode cX8_changes 5 = .ok (.iconst 3, 1) := by decide +kernel
theorem dX8_changes_6 : decode cX8_changes 6 = .ok (.iadd, 1) := by decide +kernel
theorem dX8_changes_7 : decode cX8_changes 7 = .ok (.iload_n 2, 1) := by decide +kernel
theorem dX8_changes_8 : decode cX8_changes 8 = .ok (.iadd, 1) := by decide +kernel
theorem dX8_changes_9 : decode cX8_changes 9 = .ok (.iaload, 1) := by decide +kernel
theorem dX8_changes_10 : decode cX8_changes 10 = .ok (.istore 4, 2) := by decide +kernel
theorem dX8_changes_12 : decode cX8_changes 12 = .ok (.aload_n 0, 1) := by decide +kernel
theorem dX8_changes_13 : decode cX8_changes 13 = .ok (.getfield 7, 3) := by decide +kernel
theorem dX8_changes_16 : decode cX8_changes 16 = .ok (.iload_n 1, 1) := by decide +kernel
theorem dX8_changes_17 : decode cX8_changes 17 = .ok (.iconst 3, 1) := by decide +kernel
theorem dX8_changes_18 : decode cX8_changes 18 = .ok (.iadd, 1) := by decide +kernel
theorem dX8_changes_19 : decode cX8_changes 19 = .ok (.iload_n 2, 1) := by decide +kernel
theorem dX8_changes_20 : decode cX8_changes 20 = .ok (.iadd, 1) := by decide +kernel
theorem dX8_changes_21 : decode cX8_changes 21 = .ok (.aload_n 0, 1) := by decide +kernel
theorem dX8_changes_22 : decode cX8_changes 22 = .ok (.getfield 7, 3) := by decide +kernel
theorem dX8_changes_25 : decode cX8_changes 25 = .ok (.iload_n 1, 1) := by decide +kernel
theorem dX8_changes_26 : decode cX8_changes 26 = .ok (.iconst 3, 1) := by decide +kernel
theorem dX8_changes_27 : decode cX8_changes 27 = .ok (.iadd, 1) := by decide +kernel
theorem dX8_changes_28 : decode cX8_changes 28 = .ok (.iload_n 3, 1) := by decide +kernel
theorem dX8_changes_29 : decode cX8_changes 29 = .ok (.iadd, 1) := by decide +kernel
theorem dX8_changes_30 : decode cX8_changes 30 = .ok (.iaload, 1) := by decide +kernel
theorem dX8_changes_31 : decode cX8_changes 31 = .ok (.iastore, 1) := by decide +kernel
theorem dX8_changes_32 : decode cX8_changes 32 = .ok (.aload_n 0, 1) := by decide +kernel
theorem dX8_changes_33 : decode cX8_changes 33 = .ok (.getfield 7, 3) := by decide +kernel
theorem dX8_changes_36 : decode cX8_changes 36 = .ok (.iload_n 1, 1) := by decide +kernel
theorem dX8_changes_37 : decode cX8_changes 37 = .ok (.iconst 3, 1) := by decide +kernel
theorem dX8_changes_38 : decode cX8_changes 38 = .ok (.iadd, 1) := by decide +kernel
theorem dX8_changes_39 : decode cX8_changes 39 = .ok (.iload_n 3, 1) := by decide +kernel
theorem dX8_changes_40 : decode cX8_changes 40 = .ok (.iadd, 1) := by decide +kernel
theorem dX8_changes_41 : decode cX8_changes 41 = .ok (.iload 4, 2) := by decide +kernel
theorem dX8_changes_43 : decode cX8_changes 43 = .ok (.iastore, 1) := by decide +kernel
theorem dX8_changes_44 : decode cX8_changes 44 = .ok (.return_, 1) := by decide +kernel
set_option maxRecDepth 20000 in
theorem ggX8_turns_X8_lets : GoodIn wsX8_turns wsX8_lets := goodIn_r _ [6, 1, 11, 12, 13, 14, 15, 16, 17, 18, 19, 20, 21, 22, 23, 24, 25, 26, 27, 28, 29, 30, 31, 32, 33] (by decide +kernel) (by decide +kernel)
set_option maxRecDepth 20000 in
theorem gX8_turns_X8_lets : GoodIn wsX8_turns (wsV RX8 139 RX8 yX8_lets wsX8_lets) := goodIn_app (goodIn_of _ (by decide +kernel)) ggX8_turns_X8_lets
set_option maxRecDepth 20000 in
theorem ggX8_turns_X8_changes : GoodIn wsX8_turns wsX8_changes := goodIn_r _ [10, 1, 11, 12, 13, 14, 15, 16, 17, 18, 19, 20, 21, 22, 23, 24, 25, 26, 27, 28, 29, 30, 31, 32, 33] (by decide +kernel) (by decide +kernel)
set_option maxRecDepth 20000 in
theorem gX8_turns_X8_changes : GoodIn wsX8_turns (wsV RX8 142 RX8 yX8_changes wsX8_changes) := goodIn_app (goodIn_of _ (by decide +kernel)) ggX8_turns_X8_changes
theorem dX8_turns_0 : decode cX8_turns 0 = .ok (.aload_n 0, 1) := by decide +kernel
theorem dX8_turns_1 : decode cX8_turns 1 = .ok (.getfield 7, 3) := by decide +kernel
theorem dX8_turns_4 : decode cX8_turns 4 = .ok (.iload_n 1, 1) := by decide +kernel
theorem dX8_turns_5 : decode cX8_turns 5 = .ok (.iconst 0, 1) := by decide +kernel
theorem dX8_turns_6 : decode cX8_turns 6 = .ok (.iadd, 1) := by decide +kernel
theorem dX8_turns_7 : decode cX8_turns 7 = .ok (.iaload, 1) := by decide +kernel
theorem dX8_turns_8 : decode cX8_turns 8 = .ok (.istore_n 3, 1) := by decide +kernel
theorem dX8_turns_9 : decode cX8_turns 9 = .ok (.iload_n 2, 1) := by decide +kernel
theorem dX8_turns_10 : decode cX8_turns 10 = .ok (.iload_n 3, 1) := by decide +kernel
theorem dX8_turns_11 : decode cX8_turns 11 = .ok (.iconst 1, 1) := by decide +kernel
theorem dX8_turns_12 : decode cX8_turns 12 = .ok (.isub, 1) := by decide +kernel
theorem dX8_turns_13 : decode cX8_turns 13 = .ok (.if_icmp .ne 7, 3) := by decide +kernel
theorem dX8_turns_16 : decode cX8_turns 16 = .ok (.iconst 0, 1) := by decide +kernel
theorem dX8_turns_17 : decode cX8_turns 17 = .ok (.goto 6, 3) := by decide +kernel
theorem dX8_turns_20 : decode cX8_turns 20 = .ok (.iload_n 2, 1) := by decide +kernel
theorem dX8_turns_21 : decode cX8_turns 21 = .ok (.iconst 1, 1) := by decide +kernel
theorem dX8_turns_22 : decode cX8_turns 22 = .ok (.iadd, 1) := by decide +kernel
theorem dX8_turns_23 : decode cX8_turns 23 = .ok (.istore 4, 2) := by decide +kernel
theorem dX8_turns_25 : decode cX8_turns 25 = .ok (.iload_n 2, 1) := by decide +kernel
theorem dX8_turns_26 : decode cX8_turns 26 = .ok (.ifCond .ne 9, 3) := by decide +kernel
theorem dX8_turns_29 : decode cX8_turns 29 = .ok (.iload_n 3, 1) := by decide +kernel
theorem dX8_turns_30 : decode cX8_turns 30 = .ok (.iconst 1, 1) := by decide +kernel
theorem dX8_turns_31 : decode cX8_turns 31 = .ok (.isub, 1) := by decide +kernel
theorem dX8_turns_32 : decode cX8_turns 32 = .ok (.goto 6, 3) := by decide +kernel
theorem dX8_turns_35 : decode cX8_turns 35 = .ok (.iload_n 2, 1) := by decide +kernel
theorem dX8_turns_36 : decode cX8_turns 36 = .ok (.iconst 1, 1) := by decide +kernel
theorem dX8_turns_37 : decode cX8_turns 37 = .ok (.isub, 1) := by decide +kernel
theorem dX8_turns_38 : decode cX8_turns 38 = .ok (.istore 5, 2) := by decide +kernel
theorem dX8_turns_40 : decode cX8_turns 40 = .ok (.aload_n 0, 1) := by decide +kernel
theorem dX8_turns_41 : decode cX8_turns 41 = .ok (.getfield 7, 3) := by decide +kernel
theorem dX8_turns_44 : decode cX8_turns 44 = .ok (.iload_n 1, 1) := by decide +kernel
theorem dX8_turns_45 : decode cX8_turns 45 = .ok (.bipush 10, 2) := by decide +kernel
theorem dX8_turns_47 : decode cX8_turns 47 = .ok (.iadd, 1) := by decide +kernel
theorem dX8_turns_48 : decode cX8_turns 48 = .ok (.iload_n 2, 1) := by decide +kernel
theorem dX8_turns_49 : decode cX8_turns 49 = .ok (.iadd, 1) := by decide +kernel
theorem dX8_turns_50 : decode cX8_turns 50 = .ok (.iaload, 1) := by decide +kernel
theorem dX8_turns_51 : decode cX8_turns 51 = .ok (.tableswitch 167 1 5 #[33, 54, 99, 167, 133], 33) := by decide +kernel
theorem dX8_turns_84 : decode cX8_turns 84 = .ok (.aload_n 0, 1) := by decide +kernel
theorem dX8_turns_85 : decode cX8_turns 85 = .ok (.iload_n 1, 1) := by decide +kernel
theorem dX8_turns_86 : decode cX8_turns 86 = .ok (.iload 4, 2) := by decide +kernel
theorem dX8_turns_88 : decode cX8_turns 88 = .ok (.invokevirtual 139, 3) := by decide +kernel
theorem dX8_turns_91 : decode cX8_turns 91 = .ok (.ifCond .eq 127, 3) := by decide +kernel
theorem dX8_turns_94 : decode cX8_turns 94 = .ok (.aload_n 0, 1) := by decide +kernel
theorem dX8_turns_95 : decode cX8_turns 95 = .ok (.iload_n 1, 1) := by decide +kernel
theorem dX8_turns_96 : decode cX8_turns 96 = .ok (.iload_n 2, 1) := by decide +kernel
theorem dX8_turns_97 : decode cX8_turns 97 = .ok (.iload 4, 2) := by decide +kernel
theorem dX8_turns_99 : decode cX8_turns 99 = .ok (.invokevirtual 142, 3) := by decide +kernel
theorem dX8_turns_102 : decode cX8_turns 102 = .ok (.goto 116, 3) := by decide +kernel
theorem dX8_turns_105 : decode cX8_turns 105 = .ok (.aload_n 0, 1) := by decide +kernel
theorem dX8_turns_106 : decode cX8_turns 106 = .ok (.iload_n 1, 1) := by decide +kernel
theorem dX8_turns_107 : decode cX8_turns 107 = .ok (.iload 4, 2) := by decide +kernel
theorem dX8_turns_109 : decode cX8_turns 109 = .ok (.invokevirtual 139, 3) := by decide +kernel
theorem dX8_turns_112 : decode cX8_turns 112 = .ok (.ifCond .eq 106, 3) := by decide +kernel

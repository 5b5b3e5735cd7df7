theorem dX8_plan_45 : decode cX8_plan 45 = .ok (.iconst (-1), 1) := by decide +kernel
theorem dX8_plan_46 : decode cX8_plan 46 = .ok (.invokevirtual 212, 3) := by decide +kernel
theorem dX8_plan_49 : decode cX8_plan 49 = .ok (.ifCond .eq 14, 3) := by decide +kernel
theorem dX8_plan_52 : decode cX8_plan 52 = .ok (.iload_n 3, 1) := by decide +kernel
theorem dX8_plan_53 : decode cX8_plan 53 = .ok (.ifCond .ge 7, 3) := by decide +kernel
theorem dX8_plan_56 : decode cX8_plan 56 = .ok (.iconst 0, 1) := by decide +kernel
theorem dX8_plan_57 : decode cX8_plan 57 = .ok (.goto 5, 3) := by decide +kernel
theorem dX8_plan_60 : decode cX8_plan 60 = .ok (.ldc 163, 2) := by decide +kernel
theorem dX8_plan_62 : decode cX8_plan 62 = .ok (.ireturn, 1) := by decide +kernel
theorem dX8_plan_63 : decode cX8_plan 63 = .ok (.iconst 0, 1) := by decide +kernel
theorem dX8_plan_64 : decode cX8_plan 64 = .ok (.istore 5, 2) := by decide +kernel
theorem dX8_plan_66 : decode cX8_plan 66 = .ok (.iload 5, 2) := by decide +kernel
theorem dX8_plan_68 : decode cX8_plan 68 = .ok (.iload 4, 2) := by decide +kernel
theorem dX8_plan_70 : decode cX8_plan 70 = .ok (.if_icmp .ge 46, 3) := by decide +kernel
theorem dX8_plan_73 : decode cX8_plan 73 = .ok (.aload_n 0, 1) := by decide +kernel
theorem dX8_plan_74 : decode cX8_plan 74 = .ok (.iload_n 1, 1) := by decide +kernel
theorem dX8_plan_75 : decode cX8_plan 75 = .ok (.iload_n 2, 1) := by decide +kernel
theorem dX8_plan_76 : decode cX8_plan 76 = .ok (.iload 5, 2) := by decide +kernel
theorem dX8_plan_78 : decode cX8_plan 78 = .ok (.iconst (-1), 1) := by decide +kernel
theorem dX8_plan_79 : decode cX8_plan 79 = .ok (.invokevirtual 212, 3) := by decide +kernel
theorem dX8_plan_82 : decode cX8_plan 82 = .ok (.ifCond .eq 28, 3) := by decide +kernel
theorem dX8_plan_85 : decode cX8_plan 85 = .ok (.iload_n 3, 1) := by decide +kernel
theorem dX8_plan_86 : decode cX8_plan 86 = .ok (.ifCond .ge 7, 3) := by decide +kernel
theorem dX8_plan_89 : decode cX8_plan 89 = .ok (.iconst 1, 1) := by decide +kernel
theorem dX8_plan_90 : decode cX8_plan 90 = .ok (.goto 19, 3) := by decide +kernel
theorem dX8_plan_93 : decode cX8_plan 93 = .ok (.iload_n 3, 1) := by decide +kernel
theorem dX8_plan_94 : decode cX8_plan 94 = .ok (.ifCond .ne 13, 3) := by decide +kernel
theorem dX8_plan_97 : decode cX8_plan 97 = .ok (.aload_n 0, 1) := by decide +kernel
theorem dX8_plan_98 : decode cX8_plan 98 = .ok (.getfield 46, 3) := by decide +kernel
theorem dX8_plan_101 : decode cX8_plan 101 = .ok (.iload 5, 2) := by decide +kernel
theorem dX8_plan_103 : decode cX8_plan 103 = .ok (.iaload, 1) := by decide +kernel
theorem dX8_plan_104 : decode cX8_plan 104 = .ok (.goto 5, 3) := by decide +kernel
theorem dX8_plan_107 : decode cX8_plan 107 = .ok (.ldc 163, 2) := by decide +kernel
theorem dX8_plan_109 : decode cX8_plan 109 = .ok (.ireturn, 1) := by decide +kernel
theorem dX8_plan_110 : decode cX8_plan 110 = .ok (.iinc 5 1, 3) := by decide +kernel
theorem dX8_plan_113 : decode cX8_plan 113 = .ok (.goto (-47), 3) := by decide +kernel
theorem dX8_plan_116 : decode cX8_plan 116 = .ok (.iconst 0, 1) := by decide +kernel
theorem dX8_plan_117 : decode cX8_plan 117 = .ok (.istore 5, 2) := by decide +kernel
theorem dX8_plan_119 : decode cX8_plan 119 = .ok (.iload 5, 2) := by decide +kernel
theorem dX8_plan_121 : decode cX8_plan 121 = .ok (.iload 4, 2) := by decide +kernel
theorem dX8_plan_123 : decode cX8_plan 123 = .ok (.if_icmp .ge 68, 3) := by decide +kernel
theorem dX8_plan_126 : decode cX8_plan 126 = .ok (.iconst 0, 1) := by decide +kernel
theorem dX8_plan_127 : decode cX8_plan 127 = .ok (.istore 6, 2) := by decide +kernel
theorem dX8_plan_129 : decode cX8_plan 129 = .ok (.iload 6, 2) := by decide +kernel
theorem dX8_plan_131 : decode cX8_plan 131 = .ok (.iload 4, 2) := by decide +kernel
theorem dX8_plan_133 : decode cX8_plan 133 = .ok (.if_icmp .ge 52, 3) := by decide +kernel
theorem dX8_plan_136 : decode cX8_plan 136 = .ok (.aload_n 0, 1) := by decide +kernel
theorem dX8_plan_137 : decode cX8_plan 137 = .ok (.iload_n 1, 1) := by decide +kernel
theorem dX8_plan_138 : decode cX8_plan 138 = .ok (.iload_n 2, 1) := by decide +kernel
theorem dX8_plan_139 : decode cX8_plan 139 = .ok (.iload 5, 2) := by decide +kernel
theorem dX8_plan_141 : decode cX8_plan 141 = .ok (.iload 6, 2) := by decide +kernel
theorem dX8_plan_143 : decode cX8_plan 143 = .ok (.invokevirtual 212, 3) := by decide +kernel
theorem dX8_plan_146 : decode cX8_plan 146 = .ok (.ifCond .eq 33, 3) := by decide +kernel
theorem dX8_plan_149 : decode cX8_plan 149 = .ok (.iload_n 3, 1) := by decide +kernel
theorem dX8_plan_150 : decode cX8_plan 150 = .ok (.ifCond .ge 7, 3) := by decide +kernel
theorem dX8_plan_153 : decode cX8_plan 153 = .ok (.iconst 2, 1) := by decide +kernel
theorem dX8_plan_154 : decode cX8_plan 154 = .ok (.goto 24, 3) := by decide +kernel
theorem dX8_plan_157 : decode cX8_plan 157 = .ok (.iload_n 3, 1) := by decide +kernel
theorem dX8_plan_158 : decode cX8_plan 158 = .ok (.ifCond .ne 13, 3) := by decide +kernel
theorem dX8_plan_161 : decode cX8_plan 161 = .ok (.aload_n 0, 1) := by decide +kernel
theorem dX8_plan_162 : decode cX8_plan 162 = .ok (.getfield 46, 3) := by decide +kernel
theorem dX8_plan_165 : decode cX8_plan 165 = .ok (.iload 5, 2) := by decide +kernel
theorem dX8_plan_167 : decode cX8_plan 167 = .ok (.iaload, 1) := by decide +kernel
theorem dX8_plan_168 : decode cX8_plan 168 = .ok (.goto 10, 3) := by decide +kernel
theorem dX8_plan_171 : decode cX8_plan 171 = .ok (.aload_n 0, 1) := by decide +kernel
theorem dX8_plan_172 : decode cX8_plan 172 = .ok (.getfield 46, 3) := by decide +kernel
theorem dX8_plan_175 : decode cX8_plan 175 = .ok (.iload 6, 2) := by decide +kernel
theorem dX8_plan_177 : decode cX8_plan 177 = .ok (.iaload, 1) := by decide +kernel
theorem dX8_plan_178 : decode cX8_plan 178 = .ok (.ireturn, 1) := by decide +kernel
theorem dX8_plan_179 : decode cX8_plan 179 = .ok (.iinc 6 1, 3) := by decide +kernel
theorem dX8_plan_182 : decode cX8_plan 182 = .ok (.goto (-53), 3) := by decide +kernel
theorem dX8_plan_185 : decode cX8_plan 185 = .ok (.iinc 5 1, 3) := by decide +kernel
theorem dX8_plan_188 : decode cX8_plan 188 = .ok (.goto (-69), 3) := by decide +kernel
theorem dX8_plan_191 : decode cX8_plan 191 = .ok (.ldc 163, 2) := by decide +kernel
theorem dX8_plan_193 : decode cX8_plan 193 = .ok (.ireturn, 1) := by decide +kernel
set_option maxRecDepth 20000 in
theorem ggX8_isSo_X8_stepsBy : GoodIn wsX8_isSo wsX8_stepsBy := goodIn_r _ [7, 1, 8, 9, 6, 10, 11, 12, 13, 14, 15, 16, 17, 18, 19, 20, 21, 22, 23, 24, 25, 26, 27, 28, 29, 30, 31, 32, 33, 34, 35, 36, 37, 38, 39, 40, 41, 42, 43, 44, 45, 46, 47, 48] (by decide +kernel) (by decide +kernel)
set_option maxRecDepth 20000 in
theorem gX8_isSo_X8_stepsBy : GoodIn wsX8_isSo (wsV RX8 155 RX8 yX8_stepsBy wsX8_stepsBy) := goodIn_app (goodIn_of _ (by decide +kernel)) ggX8_isSo_X8_stepsBy
theorem dX8_isSo_0 : decode cX8_isSo 0 = .ok (.iconst 1, 1) := by decide +kernel
theorem dX8_isSo_1 : decode cX8_isSo 1 = .ok (.istore 4, 2) := by decide +kernel
theorem dX8_isSo_3 : decode cX8_isSo 3 = .ok (.iconst 0, 1) := by decide +kernel
theorem dX8_isSo_4 : decode cX8_isSo 4 = .ok (.istore 5, 2) := by decide +kernel
theorem dX8_isSo_6 : decode cX8_isSo 6 = .ok (.iload 5, 2) := by decide +kernel
theorem dX8_isSo_8 : decode cX8_isSo 8 = .ok (.iload_n 3, 1) := by decide +kernel
theorem dX8_isSo_9 : decode cX8_isSo 9 = .ok (.if_icmp .ge 49, 3) := by decide +kernel
theorem dX8_isSo_12 : decode cX8_isSo 12 = .ok (.iload 4, 2) := by decide +kernel
theorem dX8_isSo_14 : decode cX8_isSo 14 = .ok (.ifCond .eq 44, 3) := by decide +kernel
theorem dX8_isSo_17 : decode cX8_isSo 17 = .ok (.aload_n 0, 1) := by decide +kernel
theorem dX8_isSo_18 : decode cX8_isSo 18 = .ok (.bipush 17, 2) := by decide +kernel
theorem dX8_isSo_20 : decode cX8_isSo 20 = .ok (.iconst 0, 1) := by decide +kernel
theorem dX8_isSo_21 : decode cX8_isSo 21 = .ok (.invokevirtual 155, 3) := by decide +kernel
theorem dX8_isSo_24 : decode cX8_isSo 24 = .ok (.aload_n 0, 1) := by decide +kernel
theorem dX8_isSo_25 : decode cX8_isSo 25 = .ok (.getfield 7, 3) := by decide +kernel
theorem dX8_isSo_28 : decode cX8_isSo 28 = .ok (.bipush 20, 2) := by decide +kernel
theorem dX8_isSo_30 : decode cX8_isSo 30 = .ok (.iload_n 1, 1) := by decide +kernel
theorem dX8_isSo_31 : decode cX8_isSo 31 = .ok (.iadd, 1) := by decide +kernel
theorem dX8_isSo_32 : decode cX8_isSo 32 = .ok (.iaload, 1) := by decide +kernel
theorem dX8_isSo_33 : decode cX8_isSo 33 = .ok (.aload_n 0, 1) := by decide +kernel
theorem dX8_isSo_34 : decode cX8_isSo 34 = .ok (.getfield 22, 3) := by decide +kernel
theorem dX8_isSo_37 : decode cX8_isSo 37 = .ok (.iload_n 2, 1) := by decide +kernel
theorem dX8_isSo_38 : decode cX8_isSo 38 = .ok (.iload 5, 2) := by decide +kernel
theorem dX8_isSo_40 : decode cX8_isSo 40 = .ok (.iadd, 1) := by decide +kernel
theorem dX8_isSo_41 : decode cX8_isSo 41 = .ok (.iaload, 1) := by decide +kernel
theorem dX8_isSo_42 : decode cX8_isSo 42 = .ok (.if_icmp .ne 7, 3) := by decide +kernel
theorem dX8_isSo_45 : decode cX8_isSo 45 = .ok (.iconst 1, 1) := by decide +kernel
theorem dX8_isSo_46 : decode cX8_isSo 46 = .ok (.goto 4, 3) := by decide +kernel
theorem dX8_isSo_49 : decode cX8_isSo 49 = .ok (.iconst 0, 1) := by decide +kernel
theorem dX8_isSo_50 : decode cX8_isSo 50 = .ok (.istore 4, 2) := by decide +kernel
theorem dX8_isSo_52 : decode cX8_isSo 52 = .ok (.iinc 5 1, 3) := by decide +kernel
theorem dX8_isSo_55 : decode cX8_isSo 55 = .ok (.goto (-49), 3) := by decide +kernel
theorem dX8_isSo_58 : decode cX8_isSo 58 = .ok (.iload 4, 2) := by decide +kernel
theorem dX8_isSo_60 : decode cX8_isSo 60 = .ok (.ireturn, 1) := by decide +kernel
set_option maxRecDepth 20000 in
theorem ggX8_bars_X8_isSaint : GoodIn wsX8_bars wsX8_isSaint := goodIn_r _ [8, 9, 10, 11, 7, 12, 27, 28, 29, 30, 31, 32, 33, 34, 35, 36, 37, 38, 39, 40, 41, 42, 43, 44, 45, 46, 47, 48, 49] (by decide +kernel) (by decide +kernel)
set_option maxRecDepth 20000 in
theorem gX8_bars_X8_isSaint : GoodIn wsX8_bars (wsV RX8 158 RX8 yX8_isSaint wsX8_isSaint) := goodIn_app (goodIn_of _ (by decide +kernel)) ggX8_bars_X8_isSaint
set_option maxRecDepth 20000 in
theorem ggX8_bars_X8_isRow : GoodIn wsX8_bars wsX8_isRow := goodIn_r _ [15, 16, 10, 11, 7, 12] (by decide +kernel) (by decide +kernel)
set_option maxRecDepth 20000 in
theorem gX8_bars_X8_isRow : GoodIn wsX8_bars (va_wsS RX8 66 yX8_isRow wsX8_isRow) := goodIn_app (goodIn_of _ (by decide +kernel)) ggX8_bars_X8_isRow
set_option maxRecDepth 20000 in
theorem ggX8_bars_X8_in : GoodIn wsX8_bars wsX8_in := goodIn_r _ [12] (by decide +kernel) (by decide +kernel)
set_option maxRecDepth 20000 in
theorem gX8_bars_X8_in : GoodIn wsX8_bars (va_wsS RX8 55 yX8_in wsX8_in) := goodIn_app (goodIn_of _ (by decide +kernel)) ggX8_bars_X8_in
set_option maxRecDepth 20000 in
theorem ggX8_bars_X8_against : GoodIn wsX8_bars wsX8_against := goodIn_r _ [20, 21, 27, 28, 29, 30, 31, 32, 33, 34, 35, 36, 37, 38, 39, 40, 41, 42, 43, 44, 45, 46, 47, 48, 49] (by decide +kernel) (by decide +kernel)
set_option maxRecDepth 20000 in
theorem gX8_bars_X8_against : GoodIn wsX8_bars (wsV RX8 77 RX8 yX8_against wsX8_against) := goodIn_app (goodIn_of _ (by decide +kernel)) ggX8_bars_X8_against
set_option maxRecDepth 20000 in
theorem ggX8_bars_X8_finds : GoodIn wsX8_bars wsX8_finds := goodIn_r _ [25, 3, 26, 27, 28, 29, 30, 31, 32, 33, 34, 35, 36, 37, 38, 39, 40, 41, 42, 43, 44, 45, 46, 47, 48, 49] (by decide +kernel) (by decide +kernel)
set_option maxRecDepth 20000 in
theorem gX8_bars_X8_finds : GoodIn wsX8_bars (wsV RX8 73 RX8 yX8_finds wsX8_finds) := goodIn_app (goodIn_of _ (by decide +kernel)) ggX8_bars_X8_finds
theorem dX8_bars_0 : decode cX8_bars 0 = .ok (.aload_n 0, 1) := by decide +kernel
theorem dX8_bars_1 : decode cX8_bars 1 = .ok (.iload_n 1, 1) := by decide +kernel
theorem dX8_bars_2 : decode cX8_bars 2 = .ok (.invokevirtual 158, 3) := by decide +kernel
theorem dX8_bars_5 : decode cX8_bars 5 = .ok (.ifCond .eq 34, 3) := by decide +kernel
theorem dX8_bars_8 : decode cX8_bars 8 = .ok (.iload_n 2, 1) := by decide +kernel
theorem dX8_bars_9 : decode cX8_bars 9 = .ok (.invokestatic 66, 3) := by decide +kernel
theorem dX8_bars_12 : decode cX8_bars 12 = .ok (.ifCond .eq 27, 3) := by decide +kernel
theorem dX8_bars_15 : decode cX8_bars 15 = .ok (.iload 4, 2) := by decide +kernel
theorem dX8_bars_17 : decode cX8_bars 17 = .ok (.i2l, 1) := by decide +kernel
theorem dX8_bars_18 : decode cX8_bars 18 = .ok (.lconst 1, 1) := by decide +kernel
theorem dX8_bars_19 : decode cX8_bars 19 = .ok (.ldc2_w 216, 3) := by decide +kernel
theorem dX8_bars_22 : decode cX8_bars 22 = .ok (.invokestatic 55, 3) := by decide +kernel
theorem dX8_bars_25 : decode cX8_bars 25 = .ok (.ifCond .eq 14, 3) := by decide +kernel
theorem dX8_bars_28 : decode cX8_bars 28 = .ok (.iload 5, 2) := by decide +kernel
theorem dX8_bars_30 : decode cX8_bars 30 = .ok (.i2l, 1) := by decide +kernel
theorem dX8_bars_31 : decode cX8_bars 31 = .ok (.lconst 0, 1) := by decide +kernel
theorem dX8_bars_32 : decode cX8_bars 32 = .ok (.lconst 1, 1) := by decide +kernel
theorem dX8_bars_33 : decode cX8_bars 33 = .ok (.invokestatic 55, 3) := by decide +kernel
theorem dX8_bars_36 : decode cX8_bars 36 = .ok (.ifCond .ne 6, 3) := by decide +kernel
theorem dX8_bars_39 : decode cX8_bars 39 = .ok (.ldc 72, 2) := by decide +kernel
theorem dX8_bars_41 : decode cX8_bars 41 = .ok (.ireturn, 1) := by decide +kernel
theorem dX8_bars_42 : decode cX8_bars 42 = .ok (.aload_n 0, 1) := by decide +kernel
theorem dX8_bars_43 : decode cX8_bars 43 = .ok (.iload_n 2, 1) := by decide +kernel
theorem dX8_bars_44 : decode cX8_bars 44 = .ok (.iload_n 3, 1) := by decide +kernel
theorem dX8_bars_45 : decode cX8_bars 45 = .ok (.iload 4, 2) := by decide +kernel
theorem dX8_bars_47 : decode cX8_bars 47 = .ok (.invokevirtual 77, 3) := by decide +kernel
theorem dX8_bars_50 : decode cX8_bars 50 = .ok (.istore 6, 2) := by decide +kernel
theorem dX8_bars_52 : decode cX8_bars 52 = .ok (.iload 6, 2) := by decide +kernel
theorem dX8_bars_54 : decode cX8_bars 54 = .ok (.ifCond .le 10, 3) := by decide +kernel
theorem dX8_bars_57 : decode cX8_bars 57 = .ok (.aload_n 0, 1) := by decide +kernel
theorem dX8_bars_58 : decode cX8_bars 58 = .ok (.iload 6, 2) := by decide +kernel
theorem dX8_bars_60 : decode cX8_bars 60 = .ok (.invokevirtual 73, 3) := by decide +kernel
theorem dX8_bars_63 : decode cX8_bars 63 = .ok (.ireturn, 1) := by decide +kernel
theorem dX8_bars_64 : decode cX8_bars 64 = .ok (.aload_n 0, 1) := by decide +kernel
theorem dX8_bars_65 : decode cX8_bars 65 = .ok (.iconst 0, 1) := by decide +kernel
theorem dX8_bars_66 : decode cX8_bars 66 = .ok (.putfield 61, 3) := by decide +kernel
theorem dX8_bars_69 : decode cX8_bars 69 = .ok (.iconst 0, 1) := by decide +kernel
theorem dX8_bars_70 : decode cX8_bars 70 = .ok (.ireturn, 1) := by decide +kernel
set_option maxRecDepth 20000 in
theorem ggX8_fits_X8_bars : GoodIn wsX8_fits wsX8_bars := goodIn_r _ [6, 7, 8, 9, 10, 11, 12, 5, 13, 1, 14, 15, 16, 17, 18, 19, 20, 21, 22, 23, 24, 25, 26, 27, 28, 29, 30, 63, 64, 65, 66, 67, 68, 69, 70, 71, 72, 73, 74, 75, 76, 77, 78, 79, 80, 81, 82, 83, 84, 85] (by decide +kernel) (by decide +kernel)
set_option maxRecDepth 20000 in
theorem gX8_fits_X8_bars : GoodIn wsX8_fits (wsV RX8 218 RX8 yX8_bars wsX8_bars) := goodIn_app (goodIn_of _ (by decide +kernel)) ggX8_fits_X8_bars
set_option maxRecDepth 20000 in
theorem ggX8_fits_X8_tries : GoodIn wsX8_fits wsX8_tries := goodIn_r _ [34, 35, 36, 37, 5, 38, 1, 63, 64, 65, 66, 67, 68, 69, 70, 71, 72, 73, 74, 75, 76, 77, 78, 79, 80, 81, 82, 83, 84, 85] (by decide +kernel) (by decide +kernel)
set_option maxRecDepth 20000 in
theorem gX8_fits_X8_tries : GoodIn wsX8_fits (wsV RX8 170 RX8 yX8_tries wsX8_tries) := goodIn_app (goodIn_of _ (by decide +kernel)) ggX8_fits_X8_tries
set_option maxRecDepth 20000 in
theorem ggX8_fits_X8_isSo : GoodIn wsX8_fits wsX8_isSo := goodIn_r _ [42, 1, 43, 44, 45, 46, 5, 47, 48, 49, 50, 51, 52, 53, 54, 55, 56, 57, 58, 59, 60, 61, 62, 14, 15, 16, 63, 64, 65, 66, 67, 68, 69, 70, 71, 72, 73, 74, 75, 76, 77, 78, 79, 80, 81, 82, 83, 84, 85] (by decide +kernel) (by decide +kernel)
set_option maxRecDepth 20000 in
theorem gX8_fits_X8_isSo : GoodIn wsX8_fits (wsV RX8 222 RX8 yX8_isSo wsX8_isSo) := goodIn_app (goodIn_of _ (by decide +kernel)) ggX8_fits_X8_isSo
theorem dX8_fits_0 : decode cX8_fits 0 = .ok (.aload_n 0, 1) := by decide +kernel
theorem dX8_fits_1 : decode cX8_fits 1 = .ok (.iload_n 1, 1) := by decide +kernel
theorem dX8_fits_2 : decode cX8_fits 2 = .ok (.iload_n 2, 1) := by decide +kernel
theorem dX8_fits_3 : decode cX8_fits 3 = .ok (.iload_n 3, 1) := by decide +kernel
theorem dX8_fits_4 : decode cX8_fits 4 = .ok (.iload 4, 2) := by decide +kernel
theorem dX8_fits_6 : decode cX8_fits 6 = .ok (.iload 5, 2) := by decide +kernel
theorem dX8_fits_8 : decode cX8_fits 8 = .ok (.invokevirtual 218, 3) := by decide +kernel
theorem dX8_fits_11 : decode cX8_fits 11 = .ok (.istore 6, 2) := by decide +kernel
theorem dX8_fits_13 : decode cX8_fits 13 = .ok (.iload 6, 2) := by decide +kernel
theorem dX8_fits_15 : decode cX8_fits 15 = .ok (.ifCond .ge 6, 3) := by decide +kernel
theorem dX8_fits_18 : decode cX8_fits 18 = .ok (.iload 6, 2) := by decide +kernel
theorem dX8_fits_20 : decode cX8_fits 20 = .ok (.ireturn, 1) := by decide +kernel
theorem dX8_fits_21 : decode cX8_fits 21 = .ok (.iconst 0, 1) := by decide +kernel
theorem dX8_fits_22 : decode cX8_fits 22 = .ok (.istore 7, 2) := by decide +kernel
theorem dX8_fits_24 : decode cX8_fits 24 = .ok (.iconst 1, 1) := by decide +kernel
theorem dX8_fits_25 : decode cX8_fits 25 = .ok (.istore 8, 2) := by decide +kernel
theorem dX8_fits_27 : decode cX8_fits 27 = .ok (.iload 8, 2) := by decide +kernel
theorem dX8_fits_29 : decode cX8_fits 29 = .ok (.iload 5, 2) := by decide +kernel
theorem dX8_fits_31 : decode cX8_fits 31 = .ok (.ifCond .ne 7, 3) := by decide +kernel
theorem dX8_fits_34 : decode cX8_fits 34 = .ok (.iconst 5, 1) := by decide +kernel
theorem dX8_fits_35 : decode cX8_fits 35 = .ok (.goto 5, 3) := by decide +kernel
theorem dX8_fits_38 : decode cX8_fits 38 = .ok (.bipush 9, 2) := by decide +kernel
theorem dX8_fits_40 : decode cX8_fits 40 = .ok (.if_icmp .gt 65, 3) := by decide +kernel
theorem dX8_fits_43 : decode cX8_fits 43 = .ok (.aload_n 0, 1) := by decide +kernel
theorem dX8_fits_44 : decode cX8_fits 44 = .ok (.invokevirtual 170, 3) := by decide +kernel
theorem dX8_fits_47 : decode cX8_fits 47 = .ok (.aload_n 0, 1) := by decide +kernel
theorem dX8_fits_48 : decode cX8_fits 48 = .ok (.getfield 7, 3) := by decide +kernel
theorem dX8_fits_51 : decode cX8_fits 51 = .ok (.bipush 17, 2) := by decide +kernel
theorem dX8_fits_53 : decode cX8_fits 53 = .ok (.iload 5, 2) := by decide +kernel
theorem dX8_fits_55 : decode cX8_fits 55 = .ok (.ifCond .ne 10, 3) := by decide +kernel
theorem dX8_fits_58 : decode cX8_fits 58 = .ok (.bipush 10, 2) := by decide +kernel
theorem dX8_fits_60 : decode cX8_fits 60 = .ok (.iload_n 1, 1) := by decide +kernel
theorem dX8_fits_61 : decode cX8_fits 61 = .ok (.iadd, 1) := by decide +kernel
theorem dX8_fits_62 : decode cX8_fits 62 = .ok (.goto 4, 3) := by decide +kernel
theorem dX8_fits_65 : decode cX8_fits 65 = .ok (.iconst 1, 1) := by decide +kernel
theorem dX8_fits_66 : decode cX8_fits 66 = .ok (.iadd, 1) := by decide +kernel
theorem dX8_fits_67 : decode cX8_fits 67 = .ok (.iload 8, 2) := by decide +kernel
theorem dX8_fits_69 : decode cX8_fits 69 = .ok (.iastore, 1) := by decide +kernel
theorem dX8_fits_70 : decode cX8_fits 70 = .ok (.iload 7, 2) := by decide +kernel
theorem dX8_fits_72 : decode cX8_fits 72 = .ok (.aload_n 0, 1) := by decide +kernel
theorem dX8_fits_73 : decode cX8_fits 73 = .ok (.iload_n 1, 1) := by decide +kernel
theorem dX8_fits_74 : decode cX8_fits 74 = .ok (.bipush 40, 2) := by decide +kernel
theorem dX8_fits_76 : decode cX8_fits 76 = .ok (.iload_n 2, 1) := by decide +kernel
theorem dX8_fits_77 : decode cX8_fits 77 = .ok (.imul, 1) := by decide +kernel
theorem dX8_fits_78 : decode cX8_fits 78 = .ok (.iload_n 3, 1) := by decide +kernel
theorem dX8_fits_79 : decode cX8_fits 79 = .ok (.iadd, 1) := by decide +kernel
theorem dX8_fits_80 : decode cX8_fits 80 = .ok (.iload 4, 2) := by decide +kernel
theorem dX8_fits_82 : decode cX8_fits 82 = .ok (.invokevirtual 222, 3) := by decide +kernel
theorem dX8_fits_85 : decode cX8_fits 85 = .ok (.ifCond .eq 10, 3) := by decide +kernel
theorem dX8_fits_88 : decode cX8_fits 88 = .ok (.iconst 1, 1) := by decide +kernel
theorem dX8_fits_89 : decode cX8_fits 89 = .ok (.iload 8, 2) := by decide +kernel
theorem dX8_fits_91 : decode cX8_fits 91 = .ok (.ishl, 1) := by decide +kernel
theorem dX8_fits_92 : decode cX8_fits 92 = .ok (.goto 4, 3) := by decide +kernel
theorem dX8_fits_95 : decode cX8_fits 95 = .ok (.iconst 0, 1) := by decide +kernel
theorem dX8_fits_96 : decode cX8_fits 96 = .ok (.ior, 1) := by decide +kernel
theorem dX8_fits_97 : decode cX8_fits 97 = .ok (.istore 7, 2) := by decide +kernel
theorem dX8_fits_99 : decode cX8_fits 99 = .ok (.iinc 8 1, 3) := by decide +kernel
theorem dX8_fits_102 : decode cX8_fits 102 = .ok (.goto (-75), 3) := by decide +kernel
theorem dX8_fits_105 : decode cX8_fits 105 = .ok (.iload 7, 2) := by decide +kernel
theorem dX8_fits_107 : decode cX8_fits 107 = .ok (.ireturn, 1) := by decide +kernel
theorem dX8_nextRow_0 : decode cX8_nextRow 0 = .ok (.aload_n 0, 1) := by decide +kernel
theorem dX8_nextRow_1 : decode cX8_nextRow 1 = .ok (.getfield 7, 3) := by decide +kernel
theorem dX8_nextRow_4 : decode cX8_nextRow 4 = .ok (.iconst 0, 1) := by decide +kernel
theorem dX8_nextRow_5 : decode cX8_nextRow 5 = .ok (.iaload, 1) := by decide +kernel
theorem dX8_nextRow_6 : decode cX8_nextRow 6 = .ok (.istore_n 1, 1) := by decide +kernel
theorem dX8_nextRow_7 : decode cX8_nextRow 7 = .ok (.iload_n 1, 1) := by decide +kernel
theorem dX8_nextRow_8 : decode cX8_nextRow 8 = .ok (.iconst 2, 1) := by decide +kernel
theorem dX8_nextRow_9 : decode cX8_nextRow 9 = .ok (.isub, 1) := by decide +kernel
theorem dX8_nextRow_10 : decode cX8_nextRow 10 = .ok (.istore_n 2, 1) := by decide +kernel
theorem dX8_nextRow_11 : decode cX8_nextRow 11 = .ok (.iload_n 2, 1) := by decide +kernel
theorem dX8_nextRow_12 : decode cX8_nextRow 12 = .ok (.ifCond .lt 26, 3) := by decide +kernel
theorem dX8_nextRow_15 : decode cX8_nextRow 15 = .ok (.aload_n 0, 1) := by decide +kernel
theorem dX8_nextRow_16 : decode cX8_nextRow 16 = .ok (.getfield 49, 3) := by decide +kernel
theorem dX8_nextRow_19 : decode cX8_nextRow 19 = .ok (.iload_n 2, 1) := by decide +kernel
theorem dX8_nextRow_20 : decode cX8_nextRow 20 = .ok (.iaload, 1) := by decide +kernel
theorem dX8_nextRow_21 : decode cX8_nextRow 21 = .ok (.aload_n 0, 1) := by decide +kernel
theorem dX8_nextRow_22 : decode cX8_nextRow 22 = .ok (.getfield 49, 3) := by decide +kernel
theorem dX8_nextRow_25 : decode cX8_nextRow 25 = .ok (.iload_n 2, 1) := by decide +kernel
theorem dX8_nextRow_26 : decode cX8_nextRow 26 = .ok (.iconst 1, 1) := by decide +kernel
theorem dX8_nextRow_27 : decode cX8_nextRow 27 = .ok (.iadd, 1) := by decide +kernel
theorem dX8_nextRow_28 : decode cX8_nextRow 28 = .ok (.iaload, 1) := by decide +kernel
theorem dX8_nextRow_29 : decode cX8_nextRow 29 = .ok (.if_icmp .lt 9, 3) := by decide +kernel
theorem dX8_nextRow_32 : decode cX8_nextRow 32 = .ok (.iinc 2 (-1), 3) := by decide +kernel
theorem dX8_nextRow_35 : decode cX8_nextRow 35 = .ok (.goto (-24), 3) := by decide +kernel
theorem dX8_nextRow_38 : decode cX8_nextRow 38 = .ok (.iload_n 2, 1) := by decide +kernel
theorem dX8_nextRow_39 : decode cX8_nextRow 39 = .ok (.ifCond .ge 5, 3) := by decide +kernel
theorem dX8_nextRow_42 : decode cX8_nextRow 42 = .ok (.iconst 0, 1) := by decide +kernel
theorem dX8_nextRow_43 : decode cX8_nextRow 43 = .ok (.ireturn, 1) := by decide +kernel
theorem dX8_nextRow_44 : decode cX8_nextRow 44 = .ok (.iload_n 1, 1) := by decide +kernel
theorem dX8_nextRow_45 : decode cX8_nextRow 45 = .ok (.iconst 1, 1) := by decide +kernel
theorem dX8_nextRow_46 : decode cX8_nextRow 46 = .ok (.isub, 1) := by decide +kernel
theorem dX8_nextRow_47 : decode cX8_nextRow 47 = .ok (.istore_n 3, 1) := by decide +kernel
theorem dX8_nextRow_48 : decode cX8_nextRow 48 = .ok (.aload_n 0, 1) := by decide +kernel
theorem dX8_nextRow_49 : decode cX8_nextRow 49 = .ok (.getfield 49, 3) := by decide +kernel
theorem dX8_nextRow_52 : decode cX8_nextRow 52 = .ok (.iload_n 3, 1) := by decide +kernel
theorem dX8_nextRow_53 : decode cX8_nextRow 53 = .ok (.iaload, 1) := by decide +kernel
theorem dX8_nextRow_54 : decode cX8_nextRow 54 = .ok (.aload_n 0, 1) := by decide +kernel
theorem dX8_nextRow_55 : decode cX8_nextRow 55 = .ok (.getfield 49, 3) := by decide +kernel
theorem dX8_nextRow_58 : decode cX8_nextRow 58 = .ok (.iload_n 2, 1) := by decide +kernel
theorem dX8_nextRow_59 : decode cX8_nextRow 59 = .ok (.iaload, 1) := by decide +kernel
theorem dX8_nextRow_60 : decode cX8_nextRow 60 = .ok (.if_icmp .gt 9, 3) := by decide +kernel
theorem dX8_nextRow_63 : decode cX8_nextRow 63 = .ok (.iinc 3 (-1), 3) := by decide +kernel
theorem dX8_nextRow_66 : decode cX8_nextRow 66 = .ok (.goto (-18), 3) := by decide +kernel
theorem dX8_nextRow_69 : decode cX8_nextRow 69 = .ok (.aload_n 0, 1) := by decide +kernel
theorem dX8_nextRow_70 : decode cX8_nextRow 70 = .ok (.getfield 49, 3) := by decide +kernel
theorem dX8_nextRow_73 : decode cX8_nextRow 73 = .ok (.iload_n 2, 1) := by decide +kernel
theorem dX8_nextRow_74 : decode cX8_nextRow 74 = .ok (.iaload, 1) := by decide +kernel
theorem dX8_nextRow_75 : decode cX8_nextRow 75 = .ok (.istore 4, 2) := by decide +kernel
theorem dX8_nextRow_77 : decode cX8_nextRow 77 = .ok (.aload_n 0, 1) := by decide +kernel
theorem dX8_nextRow_78 : decode cX8_nextRow 78 = .ok (.getfield 49, 3) := by decide +kernel
theorem dX8_nextRow_81 : decode cX8_nextRow 81 = .ok (.iload_n 2, 1) := by decide +kernel
theorem dX8_nextRow_82 : decode cX8_nextRow 82 = .ok (.aload_n 0, 1) := by decide +kernel
theorem dX8_nextRow_83 : decode cX8_nextRow 83 = .ok (.getfield 49, 3) := by decide +kernel
theorem dX8_nextRow_86 : decode cX8_nextRow 86 = .ok (.iload_n 3, 1) := by decide +kernel
theorem dX8_nextRow_87 : decode cX8_nextRow 87 = .ok (.iaload, 1) := by decide +kernel
theorem dX8_nextRow_88 : decode cX8_nextRow 88 = .ok (.iastore, 1) := by decide +kernel
theorem dX8_nextRow_89 : decode cX8_nextRow 89 = .ok (.aload_n 0, 1) := by decide +kernel
theorem dX8_nextRow_90 : decode cX8_nextRow 90 = .ok (.getfield 49, 3) := by decide +kernel
theorem dX8_nextRow_93 : decode cX8_nextRow 93 = .ok (.iload_n 3, 1) := by decide +kernel
theorem dX8_nextRow_94 : decode cX8_nextRow 94 = .ok (.iload 4, 2) := by decide +kernel
theorem dX8_nextRow_96 : decode cX8_nextRow 96 = .ok (.iastore, 1) := by decide +kernel
theorem dX8_nextRow_97 : decode cX8_nextRow 97 = .ok (.iconst 0, 1) := by decide +kernel
theorem dX8_nextRow_98 : decode cX8_nextRow 98 = .ok (.istore 5, 2) := by decide +kernel
theorem dX8_nextRow_100 : decode cX8_nextRow 100 = .ok (.iload_n 2, 1) := by decide +kernel
theorem dX8_nextRow_101 : decode cX8_nextRow 101 = .ok (.iconst 1, 1) := by decide +kernel
theorem dX8_nextRow_102 : decode cX8_nextRow 102 = .ok (.iadd, 1) := by decide +kernel
theorem dX8_nextRow_103 : decode cX8_nextRow 103 = .ok (.iload 5, 2) := by decide +kernel
theorem dX8_nextRow_105 : decode cX8_nextRow 105 = .ok (.iadd, 1) := by decide +kernel
theorem dX8_nextRow_106 : decode cX8_nextRow 106 = .ok (.iload_n 1, 1) := by decide +kernel
theorem dX8_nextRow_107 : decode cX8_nextRow 107 = .ok (.iconst 1, 1) := by decide +kernel
theorem dX8_nextRow_108 : decode cX8_nextRow 108 = .ok (.isub, 1) := by decide +kernel
theorem dX8_nextRow_109 : decode cX8_nextRow 109 = .ok (.iload 5, 2) := by decide +kernel
theorem dX8_nextRow_111 : decode cX8_nextRow 111 = .ok (.isub, 1) := by decide +kernel
theorem dX8_nextRow_112 : decode cX8_nextRow 112 = .ok (.if_icmp .ge 57, 3) := by decide +kernel
theorem dX8_nextRow_115 : decode cX8_nextRow 115 = .ok (.aload_n 0, 1) := by decide +kernel
theorem dX8_nextRow_116 : decode cX8_nextRow 116 = .ok (.getfield 49, 3) := by decide +kernel
theorem dX8_nextRow_119 : decode cX8_nextRow 119 = .ok (.iload_n 2, 1) := by decide +kernel
theorem dX8_nextRow_120 : decode cX8_nextRow 120 = .ok (.iconst 1, 1) := by decide +kernel
theorem dX8_nextRow_121 : decode cX8_nextRow 121 = .ok (.iadd, 1) := by decide +kernel
theorem dX8_nextRow_122 : decode cX8_nextRow 122 = .ok (.iload 5, 2) := by decide +kernel
theorem dX8_nextRow_124 : decode cX8_nextRow 124 = .ok (.iadd, 1) := by decide +kernel
theorem dX8_nextRow_125 : decode cX8_nextRow 125 = .ok (.iaload, 1) := by decide +kernel
theorem dX8_nextRow_126 : decode cX8_nextRow 126 = .ok (.istore 4, 2) := by decide +kernel
theorem dX8_nextRow_128 : decode cX8_nextRow 128 = .ok (.aload_n 0, 1) := by decide +kernel
theorem dX8_nextRow_129 : decode cX8_nextRow 129 = .ok (.getfield 49, 3) := by decide +kernel
theorem dX8_nextRow_132 : decode cX8_nextRow 132 = .ok (.iload_n 2, 1) := by decide +kernel
theorem dX8_nextRow_133 : decode cX8_nextRow 133 = .ok (.iconst 1, 1) := by decide +kernel
theorem dX8_nextRow_134 : decode cX8_nextRow 134 = .ok (.iadd, 1) := by decide +kernel
theorem dX8_nextRow_135 : decode cX8_nextRow 135 = .ok (.iload 5, 2) := by decide +kernel
theorem dX8_nextRow_137 : decode cX8_nextRow 137 = .ok (.iadd, 1) := by decide +kernel
theorem dX8_nextRow_138 : decode cX8_nextRow 138 = .ok (.aload_n 0, 1) := by decide +kernel
theorem dX8_nextRow_139 : decode cX8_nextRow 139 = .ok (.getfield 49, 3) := by decide +kernel
theorem dX8_nextRow_142 : decode cX8_nextRow 142 = .ok (.iload_n 1, 1) := by decide +kernel
theorem dX8_nextRow_143 : decode cX8_nextRow 143 = .ok (.iconst 1, 1) := by decide +kernel
theorem dX8_nextRow_144 : decode cX8_nextRow 144 = .ok (.isub, 1) := by decide +kernel
theorem dX8_nextRow_145 : decode cX8_nextRow 145 = .ok (.iload 5, 2) := by decide +kernel
theorem dX8_nextRow_147 : decode cX8_nextRow 147 = .ok (.isub, 1) := by decide +kernel
theorem dX8_nextRow_148 : decode cX8_nextRow 148 = .ok (.iaload, 1) := by decide +kernel
theorem dX8_nextRow_149 : decode cX8_nextRow 149 = .ok (.iastore, 1) := by decide +kernel
theorem dX8_nextRow_150 : decode cX8_nextRow 150 = .ok (.aload_n 0, 1) := by decide +kernel
theorem dX8_nextRow_151 : decode cX8_nextRow 151 = .ok (.getfield 49, 3) := by decide +kernel
theorem dX8_nextRow_154 : decode cX8_nextRow 154 = .ok (.iload_n 1, 1) := by decide +kernel
theorem dX8_nextRow_155 : decode cX8_nextRow 155 = .ok (.iconst 1, 1) := by decide +kernel
theorem dX8_nextRow_156 : decode cX8_nextRow 156 = .ok (.isub, 1) := by decide +kernel
theorem dX8_nextRow_157 : decode cX8_nextRow 157 = .ok (.iload 5, 2) := by decide +kernel
theorem dX8_nextRow_159 : decode cX8_nextRow 159 = .ok (.isub, 1) := by decide +kernel
theorem dX8_nextRow_160 : decode cX8_nextRow 160 = .ok (.iload 4, 2) := by decide +kernel
theorem dX8_nextRow_162 : decode cX8_nextRow 162 = .ok (.iastore, 1) := by decide +kernel
theorem dX8_nextRow_163 : decode cX8_nextRow 163 = .ok (.iinc 5 1, 3) := by decide +kernel
theorem dX8_nextRow_166 : decode cX8_nextRow 166 = .ok (.goto (-66), 3) := by decide +kernel
theorem dX8_nextRow_169 : decode cX8_nextRow 169 = .ok (.iconst 1, 1) := by decide +kernel
theorem dX8_nextRow_170 : decode cX8_nextRow 170 = .ok (.ireturn, 1) := by decide +kernel
set_option maxRecDepth 20000 in
theorem ggX8_began_X8_bars : GoodIn wsX8_began wsX8_bars := goodIn_r _ [9, 10, 11, 12, 13, 14, 15, 8, 16, 4, 17, 18, 19, 20, 21, 22, 23, 24, 25, 26, 27, 28, 29, 30, 31, 32, 33, 74, 75, 76, 77, 78, 79, 80, 81, 82, 83, 84, 85, 86, 87, 88, 89, 90, 91, 92, 93, 94, 95, 96] (by decide +kernel) (by decide +kernel)
set_option maxRecDepth 20000 in
theorem gX8_began_X8_bars : GoodIn wsX8_began (wsV RX8 218 RX8 yX8_bars wsX8_bars) := goodIn_app (goodIn_of _ (by decide +kernel)) ggX8_began_X8_bars
set_option maxRecDepth 20000 in
theorem ggX8_began_X8_countsThere : GoodIn wsX8_began wsX8_countsThere := goodIn_r _ [37, 1, 4, 74, 75, 76, 77, 78, 79, 80, 81, 82, 83, 84, 85, 86, 87, 88, 89, 90, 91, 92, 93, 94, 95, 96] (by decide +kernel) (by decide +kernel)
set_option maxRecDepth 20000 in
theorem gX8_began_X8_countsThere : GoodIn wsX8_began (wsV RX8 180 RX8 yX8_countsThere wsX8_countsThere) := goodIn_app (goodIn_of _ (by decide +kernel)) ggX8_began_X8_countsThere
set_option maxRecDepth 20000 in
theorem ggX8_began_X8_tries : GoodIn wsX8_began wsX8_tries := goodIn_r _ [41, 42, 43, 44, 8, 45, 4, 74, 75, 76, 77, 78, 79, 80, 81, 82, 83, 84, 85, 86, 87, 88, 89, 90, 91, 92, 93, 94, 95, 96] (by decide +kernel) (by decide +kernel)
set_option maxRecDepth 20000 in
theorem gX8_began_X8_tries : GoodIn wsX8_began (wsV RX8 170 RX8 yX8_tries wsX8_tries) := goodIn_app (goodIn_of _ (by decide +kernel)) ggX8_began_X8_tries
set_option maxRecDepth 20000 in
theorem ggX8_began_X8_isSo : GoodIn wsX8_began wsX8_isSo := goodIn_r _ [49, 4, 50, 51, 52, 53, 8, 54, 55, 56, 57, 58, 59, 60, 61, 62, 63, 64, 65, 66, 67, 68, 69, 17, 18, 19, 74, 75, 76, 77, 78, 79, 80, 81, 82, 83, 84, 85, 86, 87, 88, 89, 90, 91, 92, 93, 94, 95, 96] (by decide +kernel) (by decide +kernel)
set_option maxRecDepth 20000 in
theorem gX8_began_X8_isSo : GoodIn wsX8_began (wsV RX8 222 RX8 yX8_isSo wsX8_isSo) := goodIn_app (goodIn_of _ (by decide +kernel)) ggX8_began_X8_isSo
set_option maxRecDepth 20000 in
theorem ggX8_began_X8_nextRow : GoodIn wsX8_began wsX8_nextRow := goodIn_r _ [73, 4, 2, 74, 75, 76, 77, 78, 79, 80, 81, 82, 83, 84, 85, 86, 87, 88, 89, 90, 91, 92, 93, 94, 95, 96] (by decide +kernel) (by decide +kernel)
set_option maxRecDepth 20000 in
theorem gX8_began_X8_nextRow : GoodIn wsX8_began (wsV RX8 225 RX8 yX8_nextRow wsX8_nextRow) := goodIn_app (goodIn_of _ (by decide +kernel)) ggX8_began_X8_nextRow
theorem dX8_began_0 : decode cX8_began 0 = .ok (.aload_n 0, 1) := by decide +kernel
theorem dX8_began_1 : decode cX8_began 1 = .ok (.iload_n 1, 1) := by decide +kernel
theorem dX8_began_2 : decode cX8_began 2 = .ok (.iload_n 2, 1) := by decide +kernel
theorem dX8_began_3 : decode cX8_began 3 = .ok (.iload_n 3, 1) := by decide +kernel
theorem dX8_began_4 : decode cX8_began 4 = .ok (.iload 4, 2) := by decide +kernel
theorem dX8_began_6 : decode cX8_began 6 = .ok (.iload 5, 2) := by decide +kernel
theorem dX8_began_8 : decode cX8_began 8 = .ok (.invokevirtual 218, 3) := by decide +kernel
theorem dX8_began_11 : decode cX8_began 11 = .ok (.istore 6, 2) := by decide +kernel
theorem dX8_began_13 : decode cX8_began 13 = .ok (.iload 6, 2) := by decide +kernel
theorem dX8_began_15 : decode cX8_began 15 = .ok (.ifCond .ge 6, 3) := by decide +kernel
theorem dX8_began_18 : decode cX8_began 18 = .ok (.iload 6, 2) := by decide +kernel
theorem dX8_began_20 : decode cX8_began 20 = .ok (.ireturn, 1) := by decide +kernel
theorem dX8_began_21 : decode cX8_began 21 = .ok (.aload_n 0, 1) := by decide +kernel
theorem dX8_began_22 : decode cX8_began 22 = .ok (.invokevirtual 180, 3) := by decide +kernel
theorem dX8_began_25 : decode cX8_began 25 = .ok (.iconst 0, 1) := by decide +kernel
theorem dX8_began_26 : decode cX8_began 26 = .ok (.istore 7, 2) := by decide +kernel
theorem dX8_began_28 : decode cX8_began 28 = .ok (.iconst 0, 1) := by decide +kernel
theorem dX8_began_29 : decode cX8_began 29 = .ok (.istore 8, 2) := by decide +kernel
theorem dX8_began_31 : decode cX8_began 31 = .ok (.iload 8, 2) := by decide +kernel
theorem dX8_began_33 : decode cX8_began 33 = .ok (.bipush 10, 2) := by decide +kernel
theorem dX8_began_35 : decode cX8_began 35 = .ok (.if_icmp .ge 42, 3) := by decide +kernel
theorem dX8_began_38 : decode cX8_began 38 = .ok (.iconst 0, 1) := by decide +kernel
theorem dX8_began_39 : decode cX8_began 39 = .ok (.istore 9, 2) := by decide +kernel
theorem dX8_began_41 : decode cX8_began 41 = .ok (.iload 9, 2) := by decide +kernel
theorem dX8_began_43 : decode cX8_began 43 = .ok (.aload_n 0, 1) := by decide +kernel
theorem dX8_began_44 : decode cX8_began 44 = .ok (.getfield 28, 3) := by decide +kernel
theorem dX8_began_47 : decode cX8_began 47 = .ok (.iload 8, 2) := by decide +kernel
theorem dX8_began_49 : decode cX8_began 49 = .ok (.iaload, 1) := by decide +kernel
theorem dX8_began_50 : decode cX8_began 50 = .ok (.if_icmp .ge 21, 3) := by decide +kernel
theorem dX8_began_53 : decode cX8_began 53 = .ok (.aload_n 0, 1) := by decide +kernel
theorem dX8_began_54 : decode cX8_began 54 = .ok (.getfield 49, 3) := by decide +kernel
theorem dX8_began_57 : decode cX8_began 57 = .ok (.iload 7, 2) := by decide +kernel
theorem dX8_began_59 : decode cX8_began 59 = .ok (.iload 8, 2) := by decide +kernel
theorem dX8_began_61 : decode cX8_began 61 = .ok (.iastore, 1) := by decide +kernel
theorem dX8_began_62 : decode cX8_began 62 = .ok (.iinc 7 1, 3) := by decide +kernel
theorem dX8_began_65 : decode cX8_began 65 = .ok (.iinc 9 1, 3) := by decide +kernel
theorem dX8_began_68 : decode cX8_began 68 = .ok (.goto (-27), 3) := by decide +kernel
theorem dX8_began_71 : decode cX8_began 71 = .ok (.iinc 8 1, 3) := by decide +kernel
theorem dX8_began_74 : decode cX8_began 74 = .ok (.goto (-43), 3) := by decide +kernel
theorem dX8_began_77 : decode cX8_began 77 = .ok (.iconst 0, 1) := by decide +kernel
theorem dX8_began_78 : decode cX8_began 78 = .ok (.istore 8, 2) := by decide +kernel
theorem dX8_began_80 : decode cX8_began 80 = .ok (.ldc 163, 2) := by decide +kernel
theorem dX8_began_82 : decode cX8_began 82 = .ok (.istore 9, 2) := by decide +kernel
theorem dX8_began_84 : decode cX8_began 84 = .ok (.iconst 0, 1) := by decide +kernel
theorem dX8_began_85 : decode cX8_began 85 = .ok (.istore 10, 2) := by decide +kernel
theorem dX8_began_87 : decode cX8_began 87 = .ok (.iconst 1, 1) := by decide +kernel
theorem dX8_began_88 : decode cX8_began 88 = .ok (.istore 11, 2) := by decide +kernel
theorem dX8_began_90 : decode cX8_began 90 = .ok (.iload 11, 2) := by decide +kernel
theorem dX8_began_92 : decode cX8_began 92 = .ok (.ifCond .eq 105, 3) := by decide +kernel
theorem dX8_began_95 : decode cX8_began 95 = .ok (.aload_n 0, 1) := by decide +kernel
theorem dX8_began_96 : decode cX8_began 96 = .ok (.invokevirtual 170, 3) := by decide +kernel
theorem dX8_began_99 : decode cX8_began 99 = .ok (.iconst 0, 1) := by decide +kernel
theorem dX8_began_100 : decode cX8_began 100 = .ok (.istore 12, 2) := by decide +kernel
theorem dX8_began_102 : decode cX8_began 102 = .ok (.iload 12, 2) := by decide +kernel
theorem dX8_began_104 : decode cX8_began 104 = .ok (.aload_n 0, 1) := by decide +kernel
theorem dX8_began_105 : decode cX8_began 105 = .ok (.getfield 7, 3) := by decide +kernel
theorem dX8_began_108 : decode cX8_began 108 = .ok (.iconst 0, 1) := by decide +kernel
theorem dX8_began_109 : decode cX8_began 109 = .ok (.iaload, 1) := by decide +kernel
theorem dX8_began_110 : decode cX8_began 110 = .ok (.if_icmp .ge 26, 3) := by decide +kernel
theorem dX8_began_113 : decode cX8_began 113 = .ok (.aload_n 0, 1) := by decide +kernel
theorem dX8_began_114 : decode cX8_began 114 = .ok (.getfield 7, 3) := by decide +kernel
theorem dX8_began_117 : decode cX8_began 117 = .ok (.bipush 20, 2) := by decide +kernel
theorem dX8_began_119 : decode cX8_began 119 = .ok (.iload 12, 2) := by decide +kernel
theorem dX8_began_121 : decode cX8_began 121 = .ok (.iadd, 1) := by decide +kernel
theorem dX8_began_122 : decode cX8_began 122 = .ok (.aload_n 0, 1) := by decide +kernel
theorem dX8_began_123 : decode cX8_began 123 = .ok (.getfield 49, 3) := by decide +kernel
theorem dX8_began_126 : decode cX8_began 126 = .ok (.iload 12, 2) := by decide +kernel
theorem dX8_began_128 : decode cX8_began 128 = .ok (.iaload, 1) := by decide +kernel
theorem dX8_began_129 : decode cX8_began 129 = .ok (.iastore, 1) := by decide +kernel
theorem dX8_began_130 : decode cX8_began 130 = .ok (.iinc 12 1, 3) := by decide +kernel
theorem dX8_began_133 : decode cX8_began 133 = .ok (.goto (-31), 3) := by decide +kernel
theorem dX8_began_136 : decode cX8_began 136 = .ok (.aload_n 0, 1) := by decide +kernel
theorem dX8_began_137 : decode cX8_began 137 = .ok (.iload_n 1, 1) := by decide +kernel
theorem dX8_began_138 : decode cX8_began 138 = .ok (.bipush 40, 2) := by decide +kernel
theorem dX8_began_140 : decode cX8_began 140 = .ok (.iload_n 2, 1) := by decide +kernel
theorem dX8_began_141 : decode cX8_began 141 = .ok (.imul, 1) := by decide +kernel
theorem dX8_began_142 : decode cX8_began 142 = .ok (.iload_n 3, 1) := by decide +kernel
theorem dX8_began_143 : decode cX8_began 143 = .ok (.iadd, 1) := by decide +kernel
theorem dX8_began_144 : decode cX8_began 144 = .ok (.iload 4, 2) := by decide +kernel
theorem dX8_began_146 : decode cX8_began 146 = .ok (.invokevirtual 222, 3) := by decide +kernel
theorem dX8_began_149 : decode cX8_began 149 = .ok (.istore 12, 2) := by decide +kernel
theorem dX8_began_151 : decode cX8_began 151 = .ok (.iload 12, 2) := by decide +kernel
theorem dX8_began_153 : decode cX8_began 153 = .ok (.ifCond .eq 13, 3) := by decide +kernel
theorem dX8_began_156 : decode cX8_began 156 = .ok (.iload 8, 2) := by decide +kernel
theorem dX8_began_158 : decode cX8_began 158 = .ok (.ifCond .ne 8, 3) := by decide +kernel
theorem dX8_began_161 : decode cX8_began 161 = .ok (.iload 10, 2) := by decide +kernel
theorem dX8_began_163 : decode cX8_began 163 = .ok (.goto 5, 3) := by decide +kernel
theorem dX8_began_166 : decode cX8_began 166 = .ok (.iload 9, 2) := by decide +kernel
theorem dX8_began_168 : decode cX8_began 168 = .ok (.istore 9, 2) := by decide +kernel
theorem dX8_began_170 : decode cX8_began 170 = .ok (.iload 8, 2) := by decide +kernel
theorem dX8_began_172 : decode cX8_began 172 = .ok (.iload 12, 2) := by decide +kernel
theorem dX8_began_174 : decode cX8_began 174 = .ok (.ifCond .eq 7, 3) := by decide +kernel
theorem dX8_began_177 : decode cX8_began 177 = .ok (.iconst 1, 1) := by decide +kernel
theorem dX8_began_178 : decode cX8_began 178 = .ok (.goto 4, 3) := by decide +kernel
theorem dX8_began_181 : decode cX8_began 181 = .ok (.iconst 0, 1) := by decide +kernel
theorem dX8_began_182 : decode cX8_began 182 = .ok (.iadd, 1) := by decide +kernel
theorem dX8_began_183 : decode cX8_began 183 = .ok (.istore 8, 2) := by decide +kernel
theorem dX8_began_185 : decode cX8_began 185 = .ok (.iinc 10 1, 3) := by decide +kernel
theorem dX8_began_188 : decode cX8_began 188 = .ok (.aload_n 0, 1) := by decide +kernel
theorem dX8_began_189 : decode cX8_began 189 = .ok (.invokevirtual 225, 3) := by decide +kernel
theorem dX8_began_192 : decode cX8_began 192 = .ok (.istore 11, 2) := by decide +kernel
theorem dX8_began_194 : decode cX8_began 194 = .ok (.goto (-104), 3) := by decide +kernel
theorem dX8_began_197 : decode cX8_began 197 = .ok (.iload 5, 2) := by decide +kernel
theorem dX8_began_199 : decode cX8_began 199 = .ok (.ifCond .ne 8, 3) := by decide +kernel
theorem dX8_began_202 : decode cX8_began 202 = .ok (.iload 8, 2) := by decide +kernel
theorem dX8_began_204 : decode cX8_began 204 = .ok (.goto 5, 3) := by decide +kernel
theorem dX8_began_207 : decode cX8_began 207 = .ok (.iload 9, 2) := by decide +kernel
theorem dX8_began_209 : decode cX8_began 209 = .ok (.ireturn, 1) := by decide +kernel
set_option maxRecDepth 20000 in
theorem ggX8_sleep_X8_isSaint : GoodIn wsX8_sleep wsX8_isSaint := goodIn_r _ [9, 4, 10, 11, 8, 12, 40, 41, 42, 43, 44, 45, 46, 47, 48, 49, 50, 51, 52, 53, 54, 55, 56, 57, 58, 59, 60, 61, 62] (by decide +kernel) (by decide +kernel)
set_option maxRecDepth 20000 in
theorem gX8_sleep_X8_isSaint : GoodIn wsX8_sleep (wsV RX8 158 RX8 yX8_isSaint wsX8_isSaint) := goodIn_app (goodIn_of _ (by decide +kernel)) ggX8_sleep_X8_isSaint
set_option maxRecDepth 20000 in
theorem ggX8_sleep_X8_in : GoodIn wsX8_sleep wsX8_in := goodIn_r _ [12] (by decide +kernel) (by decide +kernel)
set_option maxRecDepth 20000 in
theorem gX8_sleep_X8_in : GoodIn wsX8_sleep (va_wsS RX8 55 yX8_in wsX8_in) := goodIn_app (goodIn_of _ (by decide +kernel)) ggX8_sleep_X8_in
set_option maxRecDepth 20000 in
theorem ggX8_sleep_X8_has : GoodIn wsX8_sleep wsX8_has := goodIn_r _ [15] (by decide +kernel) (by decide +kernel)
set_option maxRecDepth 20000 in
theorem gX8_sleep_X8_has : GoodIn wsX8_sleep (va_wsS RX8 111 yX8_has wsX8_has) := goodIn_app (goodIn_of _ (by decide +kernel)) ggX8_sleep_X8_has
set_option maxRecDepth 20000 in
theorem ggX8_sleep_X8_tries : GoodIn wsX8_sleep wsX8_tries := goodIn_r _ [19, 20, 21, 22, 8, 23, 4, 40, 41, 42, 43, 44, 45, 46, 47, 48, 49, 50, 51, 52, 53, 54, 55, 56, 57, 58, 59, 60, 61, 62] (by decide +kernel) (by decide +kernel)
set_option maxRecDepth 20000 in
theorem gX8_sleep_X8_tries : GoodIn wsX8_sleep (wsV RX8 170 RX8 yX8_tries wsX8_tries) := goodIn_app (goodIn_of _ (by decide +kernel)) ggX8_sleep_X8_tries
set_option maxRecDepth 20000 in
theorem ggX8_sleep_X8_stepsBy : GoodIn wsX8_sleep wsX8_stepsBy := goodIn_r _ [27, 4, 13, 14, 8, 15, 28, 29, 30, 31, 32, 33, 34, 35, 36, 37, 38, 39, 10, 11, 12, 40, 41, 42, 43, 44, 45, 46, 47, 48, 49, 50, 51, 52, 53, 54, 55, 56, 57, 58, 59, 60, 61, 62] (by decide +kernel) (by decide +kernel)
set_option maxRecDepth 20000 in
theorem gX8_sleep_X8_stepsBy : GoodIn wsX8_sleep (wsV RX8 155 RX8 yX8_stepsBy wsX8_stepsBy) := goodIn_app (goodIn_of _ (by decide +kernel)) ggX8_sleep_X8_stepsBy
theorem dX8_sleep_0 : decode cX8_sleep 0 = .ok (.aload_n 0, 1) := by decide +kernel
theorem dX8_sleep_1 : decode cX8_sleep 1 = .ok (.iload_n 1, 1) := by decide +kernel
theorem dX8_sleep_2 : decode cX8_sleep 2 = .ok (.invokevirtual 158, 3) := by decide +kernel
theorem dX8_sleep_5 : decode cX8_sleep 5 = .ok (.ifCond .eq 38, 3) := by decide +kernel
theorem dX8_sleep_8 : decode cX8_sleep 8 = .ok (.iload_n 2, 1) := by decide +kernel
theorem dX8_sleep_9 : decode cX8_sleep 9 = .ok (.i2l, 1) := by decide +kernel
theorem dX8_sleep_10 : decode cX8_sleep 10 = .ok (.lconst 0, 1) := by decide +kernel
theorem dX8_sleep_11 : decode cX8_sleep 11 = .ok (.ldc2_w 161, 3) := by decide +kernel
theorem dX8_sleep_14 : decode cX8_sleep 14 = .ok (.invokestatic 55, 3) := by decide +kernel
theorem dX8_sleep_17 : decode cX8_sleep 17 = .ok (.ifCond .eq 26, 3) := by decide +kernel
theorem dX8_sleep_20 : decode cX8_sleep 20 = .ok (.iload_n 3, 1) := by decide +kernel
theorem dX8_sleep_21 : decode cX8_sleep 21 = .ok (.i2l, 1) := by decide +kernel
theorem dX8_sleep_22 : decode cX8_sleep 22 = .ok (.lconst 0, 1) := by decide +kernel
theorem dX8_sleep_23 : decode cX8_sleep 23 = .ok (.ldc2_w 228, 3) := by decide +kernel
theorem dX8_sleep_26 : decode cX8_sleep 26 = .ok (.invokestatic 55, 3) := by decide +kernel
theorem dX8_sleep_29 : decode cX8_sleep 29 = .ok (.ifCond .eq 14, 3) := by decide +kernel
theorem dX8_sleep_32 : decode cX8_sleep 32 = .ok (.iload 4, 2) := by decide +kernel
theorem dX8_sleep_34 : decode cX8_sleep 34 = .ok (.i2l, 1) := by decide +kernel
theorem dX8_sleep_35 : decode cX8_sleep 35 = .ok (.lconst 0, 1) := by decide +kernel
theorem dX8_sleep_36 : decode cX8_sleep 36 = .ok (.lconst 1, 1) := by decide +kernel
theorem dX8_sleep_37 : decode cX8_sleep 37 = .ok (.invokestatic 55, 3) := by decide +kernel
theorem dX8_sleep_40 : decode cX8_sleep 40 = .ok (.ifCond .ne 6, 3) := by decide +kernel
theorem dX8_sleep_43 : decode cX8_sleep 43 = .ok (.ldc 72, 2) := by decide +kernel
theorem dX8_sleep_45 : decode cX8_sleep 45 = .ok (.ireturn, 1) := by decide +kernel
theorem dX8_sleep_46 : decode cX8_sleep 46 = .ok (.iconst 0, 1) := by decide +kernel
theorem dX8_sleep_47 : decode cX8_sleep 47 = .ok (.istore 5, 2) := by decide +kernel
theorem dX8_sleep_49 : decode cX8_sleep 49 = .ok (.iconst 1, 1) := by decide +kernel
theorem dX8_sleep_50 : decode cX8_sleep 50 = .ok (.istore 6, 2) := by decide +kernel
theorem dX8_sleep_52 : decode cX8_sleep 52 = .ok (.iconst 0, 1) := by decide +kernel
theorem dX8_sleep_53 : decode cX8_sleep 53 = .ok (.istore 7, 2) := by decide +kernel
theorem dX8_sleep_55 : decode cX8_sleep 55 = .ok (.iload 7, 2) := by decide +kernel
theorem dX8_sleep_57 : decode cX8_sleep 57 = .ok (.aload_n 0, 1) := by decide +kernel
theorem dX8_sleep_58 : decode cX8_sleep 58 = .ok (.getfield 7, 3) := by decide +kernel
theorem dX8_sleep_61 : decode cX8_sleep 61 = .ok (.iconst 0, 1) := by decide +kernel
theorem dX8_sleep_62 : decode cX8_sleep 62 = .ok (.iaload, 1) := by decide +kernel
theorem dX8_sleep_63 : decode cX8_sleep 63 = .ok (.if_icmp .ge 16, 3) := by decide +kernel
theorem dX8_sleep_66 : decode cX8_sleep 66 = .ok (.iload 6, 2) := by decide +kernel
theorem dX8_sleep_68 : decode cX8_sleep 68 = .ok (.bipush 10, 2) := by decide +kernel
theorem dX8_sleep_70 : decode cX8_sleep 70 = .ok (.imul, 1) := by decide +kernel
theorem dX8_sleep_71 : decode cX8_sleep 71 = .ok (.istore 6, 2) := by decide +kernel
theorem dX8_sleep_73 : decode cX8_sleep 73 = .ok (.iinc 7 1, 3) := by decide +kernel
theorem dX8_sleep_76 : decode cX8_sleep 76 = .ok (.goto (-21), 3) := by decide +kernel
theorem dX8_sleep_79 : decode cX8_sleep 79 = .ok (.iconst 0, 1) := by decide +kernel
theorem dX8_sleep_80 : decode cX8_sleep 80 = .ok (.istore 7, 2) := by decide +kernel
theorem dX8_sleep_82 : decode cX8_sleep 82 = .ok (.iload 7, 2) := by decide +kernel
theorem dX8_sleep_84 : decode cX8_sleep 84 = .ok (.iconst 1, 1) := by decide +kernel
theorem dX8_sleep_85 : decode cX8_sleep 85 = .ok (.aload_n 0, 1) := by decide +kernel
theorem dX8_sleep_86 : decode cX8_sleep 86 = .ok (.getfield 7, 3) := by decide +kernel
theorem dX8_sleep_89 : decode cX8_sleep 89 = .ok (.iconst 0, 1) := by decide +kernel
theorem dX8_sleep_90 : decode cX8_sleep 90 = .ok (.iaload, 1) := by decide +kernel
theorem dX8_sleep_91 : decode cX8_sleep 91 = .ok (.ishl, 1) := by decide +kernel
theorem dX8_sleep_92 : decode cX8_sleep 92 = .ok (.if_icmp .ge 91, 3) := by decide +kernel
theorem dX8_sleep_95 : decode cX8_sleep 95 = .ok (.iconst 1, 1) := by decide +kernel
theorem dX8_sleep_96 : decode cX8_sleep 96 = .ok (.istore 8, 2) := by decide +kernel
theorem dX8_sleep_98 : decode cX8_sleep 98 = .ok (.iconst 0, 1) := by decide +kernel
theorem dX8_sleep_99 : decode cX8_sleep 99 = .ok (.istore 9, 2) := by decide +kernel
theorem dX8_sleep_101 : decode cX8_sleep 101 = .ok (.iload 9, 2) := by decide +kernel
theorem dX8_sleep_103 : decode cX8_sleep 103 = .ok (.aload_n 0, 1) := by decide +kernel
theorem dX8_sleep_104 : decode cX8_sleep 104 = .ok (.getfield 7, 3) := by decide +kernel
theorem dX8_sleep_107 : decode cX8_sleep 107 = .ok (.iconst 0, 1) := by decide +kernel
theorem dX8_sleep_108 : decode cX8_sleep 108 = .ok (.iaload, 1) := by decide +kernel
theorem dX8_sleep_109 : decode cX8_sleep 109 = .ok (.if_icmp .ge 32, 3) := by decide +kernel
theorem dX8_sleep_112 : decode cX8_sleep 112 = .ok (.iload 8, 2) := by decide +kernel
theorem dX8_sleep_114 : decode cX8_sleep 114 = .ok (.iload 7, 2) := by decide +kernel
theorem dX8_sleep_116 : decode cX8_sleep 116 = .ok (.iload 9, 2) := by decide +kernel
theorem dX8_sleep_118 : decode cX8_sleep 118 = .ok (.invokestatic 111, 3) := by decide +kernel
theorem dX8_sleep_121 : decode cX8_sleep 121 = .ok (.ifCond .eq 7, 3) := by decide +kernel
theorem dX8_sleep_124 : decode cX8_sleep 124 = .ok (.iload_n 3, 1) := by decide +kernel
theorem dX8_sleep_125 : decode cX8_sleep 125 = .ok (.goto 7, 3) := by decide +kernel
theorem dX8_sleep_128 : decode cX8_sleep 128 = .ok (.bipush 10, 2) := by decide +kernel
theorem dX8_sleep_130 : decode cX8_sleep 130 = .ok (.iload_n 3, 1) := by decide +kernel
theorem dX8_sleep_131 : decode cX8_sleep 131 = .ok (.isub, 1) := by decide +kernel
theorem dX8_sleep_132 : decode cX8_sleep 132 = .ok (.imul, 1) := by decide +kernel
theorem dX8_sleep_133 : decode cX8_sleep 133 = .ok (.istore 8, 2) := by decide +kernel
theorem dX8_sleep_135 : decode cX8_sleep 135 = .ok (.iinc 9 1, 3) := by decide +kernel
theorem dX8_sleep_138 : decode cX8_sleep 138 = .ok (.goto (-37), 3) := by decide +kernel
theorem dX8_sleep_141 : decode cX8_sleep 141 = .ok (.aload_n 0, 1) := by decide +kernel
theorem dX8_sleep_142 : decode cX8_sleep 142 = .ok (.invokevirtual 170, 3) := by decide +kernel
theorem dX8_sleep_145 : decode cX8_sleep 145 = .ok (.aload_n 0, 1) := by decide +kernel
theorem dX8_sleep_146 : decode cX8_sleep 146 = .ok (.bipush 17, 2) := by decide +kernel
theorem dX8_sleep_148 : decode cX8_sleep 148 = .ok (.iload 7, 2) := by decide +kernel
theorem dX8_sleep_150 : decode cX8_sleep 150 = .ok (.invokevirtual 155, 3) := by decide +kernel
theorem dX8_sleep_153 : decode cX8_sleep 153 = .ok (.iload 5, 2) := by decide +kernel
theorem dX8_sleep_155 : decode cX8_sleep 155 = .ok (.aload_n 0, 1) := by decide +kernel
theorem dX8_sleep_156 : decode cX8_sleep 156 = .ok (.getfield 7, 3) := by decide +kernel
theorem dX8_sleep_159 : decode cX8_sleep 159 = .ok (.bipush 20, 2) := by decide +kernel
theorem dX8_sleep_161 : decode cX8_sleep 161 = .ok (.iload_n 1, 1) := by decide +kernel
theorem dX8_sleep_162 : decode cX8_sleep 162 = .ok (.iadd, 1) := by decide +kernel
theorem dX8_sleep_163 : decode cX8_sleep 163 = .ok (.iaload, 1) := by decide +kernel
theorem dX8_sleep_164 : decode cX8_sleep 164 = .ok (.iload_n 2, 1) := by decide +kernel
theorem dX8_sleep_165 : decode cX8_sleep 165 = .ok (.if_icmp .ne 8, 3) := by decide +kernel
theorem dX8_sleep_168 : decode cX8_sleep 168 = .ok (.iload 8, 2) := by decide +kernel
theorem dX8_sleep_170 : decode cX8_sleep 170 = .ok (.goto 4, 3) := by decide +kernel
theorem dX8_sleep_173 : decode cX8_sleep 173 = .ok (.iconst 0, 1) := by decide +kernel
theorem dX8_sleep_174 : decode cX8_sleep 174 = .ok (.iadd, 1) := by decide +kernel
theorem dX8_sleep_175 : decode cX8_sleep 175 = .ok (.istore 5, 2) := by decide +kernel
theorem dX8_sleep_177 : decode cX8_sleep 177 = .ok (.iinc 7 1, 3) := by decide +kernel
theorem dX8_sleep_180 : decode cX8_sleep 180 = .ok (.goto (-98), 3) := by decide +kernel
theorem dX8_sleep_183 : decode cX8_sleep 183 = .ok (.iload 5, 2) := by decide +kernel
theorem dX8_sleep_185 : decode cX8_sleep 185 = .ok (.istore 7, 2) := by decide +kernel
theorem dX8_sleep_187 : decode cX8_sleep 187 = .ok (.iload 6, 2) := by decide +kernel
theorem dX8_sleep_189 : decode cX8_sleep 189 = .ok (.istore 8, 2) := by decide +kernel
theorem dX8_sleep_191 : decode cX8_sleep 191 = .ok (.iload 8, 2) := by decide +kernel
theorem dX8_sleep_193 : decode cX8_sleep 193 = .ok (.ifCond .eq 21, 3) := by decide +kernel
theorem dX8_sleep_196 : decode cX8_sleep 196 = .ok (.iload 7, 2) := by decide +kernel
theorem dX8_sleep_198 : decode cX8_sleep 198 = .ok (.iload 8, 2) := by decide +kernel
theorem dX8_sleep_200 : decode cX8_sleep 200 = .ok (.irem, 1) := by decide +kernel
theorem dX8_sleep_201 : decode cX8_sleep 201 = .ok (.istore 9, 2) := by decide +kernel
theorem dX8_sleep_203 : decode cX8_sleep 203 = .ok (.iload 8, 2) := by decide +kernel
theorem dX8_sleep_205 : decode cX8_sleep 205 = .ok (.istore 7, 2) := by decide +kernel
theorem dX8_sleep_207 : decode cX8_sleep 207 = .ok (.iload 9, 2) := by decide +kernel
theorem dX8_sleep_209 : decode cX8_sleep 209 = .ok (.istore 8, 2) := by decide +kernel
theorem dX8_sleep_211 : decode cX8_sleep 211 = .ok (.goto (-20), 3) := by decide +kernel
theorem dX8_sleep_214 : decode cX8_sleep 214 = .ok (.iload 4, 2) := by decide +kernel
theorem dX8_sleep_216 : decode cX8_sleep 216 = .ok (.ifCond .ne 11, 3) := by decide +kernel
theorem dX8_sleep_219 : decode cX8_sleep 219 = .ok (.iload 5, 2) := by decide +kernel
theorem dX8_sleep_221 : decode cX8_sleep 221 = .ok (.iload 7, 2) := by decide +kernel
theorem dX8_sleep_223 : decode cX8_sleep 223 = .ok (.idiv, 1) := by decide +kernel
theorem dX8_sleep_224 : decode cX8_sleep 224 = .ok (.goto 8, 3) := by decide +kernel
theorem dX8_sleep_227 : decode cX8_sleep 227 = .ok (.iload 6, 2) := by decide +kernel
theorem dX8_sleep_229 : decode cX8_sleep 229 = .ok (.iload 7, 2) := by decide +kernel
theorem dX8_sleep_231 : decode cX8_sleep 231 = .ok (.idiv, 1) := by decide +kernel
theorem dX8_sleep_232 : decode cX8_sleep 232 = .ok (.ireturn, 1) := by decide +kernel
theorem dX8_figures_0 : decode cX8_figures 0 = .ok (.iconst 0, 1) := by decide +kernel
theorem dX8_figures_1 : decode cX8_figures 1 = .ok (.istore_n 2, 1) := by decide +kernel
theorem dX8_figures_2 : decode cX8_figures 2 = .ok (.iconst 0, 1) := by decide +kernel
theorem dX8_figures_3 : decode cX8_figures 3 = .ok (.istore_n 3, 1) := by decide +kernel
theorem dX8_figures_4 : decode cX8_figures 4 = .ok (.iload_n 3, 1) := by decide +kernel
theorem dX8_figures_5 : decode cX8_figures 5 = .ok (.aload_n 0, 1) := by decide +kernel
theorem dX8_figures_6 : decode cX8_figures 6 = .ok (.getfield 7, 3) := by decide +kernel
theorem dX8_figures_9 : decode cX8_figures 9 = .ok (.iload_n 1, 1) := by decide +kernel
theorem dX8_figures_10 : decode cX8_figures 10 = .ok (.iconst 0, 1) := by decide +kernel
theorem dX8_figures_11 : decode cX8_figures 11 = .ok (.iadd, 1) := by decide +kernel
theorem dX8_figures_12 : decode cX8_figures 12 = .ok (.iaload, 1) := by decide +kernel
theorem dX8_figures_13 : decode cX8_figures 13 = .ok (.if_icmp .ge 25, 3) := by decide +kernel
theorem dX8_figures_16 : decode cX8_figures 16 = .ok (.bipush 10, 2) := by decide +kernel
theorem dX8_figures_18 : decode cX8_figures 18 = .ok (.iload_n 2, 1) := by decide +kernel
theorem dX8_figures_19 : decode cX8_figures 19 = .ok (.imul, 1) := by decide +kernel
theorem dX8_figures_20 : decode cX8_figures 20 = .ok (.aload_n 0, 1) := by decide +kernel
theorem dX8_figures_21 : decode cX8_figures 21 = .ok (.getfield 7, 3) := by decide +kernel
theorem dX8_figures_24 : decode cX8_figures 24 = .ok (.iload_n 1, 1) := by decide +kernel
theorem dX8_figures_25 : decode cX8_figures 25 = .ok (.iconst 3, 1) := by decide +kernel
theorem dX8_figures_26 : decode cX8_figures 26 = .ok (.iadd, 1) := by decide +kernel
theorem dX8_figures_27 : decode cX8_figures 27 = .ok (.iload_n 3, 1) := by decide +kernel
theorem dX8_figures_28 : decode cX8_figures 28 = .ok (.iadd, 1) := by decide +kernel
theorem dX8_figures_29 : decode cX8_figures 29 = .ok (.iaload, 1) := by decide +kernel
theorem dX8_figures_30 : decode cX8_figures 30 = .ok (.iadd, 1) := by decide +kernel
theorem dX8_figures_31 : decode cX8_figures 31 = .ok (.istore_n 2, 1) := by decide +kernel
theorem dX8_figures_32 : decode cX8_figures 32 = .ok (.iinc 3 1, 3) := by decide +kernel
theorem dX8_figures_35 : decode cX8_figures 35 = .ok (.goto (-31), 3) := by decide +kernel
theorem dX8_figures_38 : decode cX8_figures 38 = .ok (.iload_n 2, 1) := by decide +kernel
theorem dX8_figures_39 : decode cX8_figures 39 = .ok (.ireturn, 1) := by decide +kernel
set_option maxRecDepth 20000 in
theorem ggX8_drawn_X8_in : GoodIn wsX8_drawn wsX8_in := goodIn_r _ [11] (by decide +kernel) (by decide +kernel)
set_option maxRecDepth 20000 in
theorem gX8_drawn_X8_in : GoodIn wsX8_drawn (va_wsS RX8 55 yX8_in wsX8_in) := goodIn_app (goodIn_of _ (by decide +kernel)) ggX8_drawn_X8_in
set_option maxRecDepth 20000 in
theorem ggX8_drawn_X8_tries : GoodIn wsX8_drawn wsX8_tries := goodIn_r _ [15, 16, 17, 18, 10, 19, 1, 43, 44, 45, 46, 47, 48, 49, 50, 51, 52, 53, 54, 55, 56, 57, 58, 59, 60, 61, 62, 63, 64, 65] (by decide +kernel) (by decide +kernel)
set_option maxRecDepth 20000 in
theorem gX8_drawn_X8_tries : GoodIn wsX8_drawn (wsV RX8 170 RX8 yX8_tries wsX8_tries) := goodIn_app (goodIn_of _ (by decide +kernel)) ggX8_drawn_X8_tries
set_option maxRecDepth 20000 in
theorem ggX8_drawn_X8_changes : GoodIn wsX8_drawn wsX8_changes := goodIn_r _ [23, 1, 43, 44, 45, 46, 47, 48, 49, 50, 51, 52, 53, 54, 55, 56, 57, 58, 59, 60, 61, 62, 63, 64, 65] (by decide +kernel) (by decide +kernel)
set_option maxRecDepth 20000 in
theorem gX8_drawn_X8_changes : GoodIn wsX8_drawn (wsV RX8 142 RX8 yX8_changes wsX8_changes) := goodIn_app (goodIn_of _ (by decide +kernel)) ggX8_drawn_X8_changes
set_option maxRecDepth 20000 in
theorem ggX8_drawn_X8_stepsBy : GoodIn wsX8_drawn wsX8_stepsBy := goodIn_r _ [27, 1, 28, 29, 10, 30, 31, 32, 33, 34, 35, 36, 37, 38, 20, 21, 22, 23, 8, 9, 11, 43, 44, 45, 46, 47, 48, 49, 50, 51, 52, 53, 54, 55, 56, 57, 58, 59, 60, 61, 62, 63, 64, 65] (by decide +kernel) (by decide +kernel)
set_option maxRecDepth 20000 in
theorem gX8_drawn_X8_stepsBy : GoodIn wsX8_drawn (wsV RX8 155 RX8 yX8_stepsBy wsX8_stepsBy) := goodIn_app (goodIn_of _ (by decide +kernel)) ggX8_drawn_X8_stepsBy
set_option maxRecDepth 20000 in
theorem ggX8_drawn_X8_figures : GoodIn wsX8_drawn wsX8_figures := goodIn_r _ [42, 1, 43, 44, 45, 46, 47, 48, 49, 50, 51, 52, 53, 54, 55, 56, 57, 58, 59, 60, 61, 62, 63, 64, 65] (by decide +kernel) (by decide +kernel)
set_option maxRecDepth 20000 in
theorem gX8_drawn_X8_figures : GoodIn wsX8_drawn (wsV RX8 236 RX8 yX8_figures wsX8_figures) := goodIn_app (goodIn_of _ (by decide +kernel)) ggX8_drawn_X8_figures
theorem dX8_drawn_0 : decode cX8_drawn 0 = .ok (.aload_n 0, 1) := by decide +kernel
theorem dX8_drawn_1 : decode cX8_drawn 1 = .ok (.getfield 7, 3) := by decide +kernel
theorem dX8_drawn_4 : decode cX8_drawn 4 = .ok (.iconst 0, 1) := by decide +kernel
theorem dX8_drawn_5 : decode cX8_drawn 5 = .ok (.iaload, 1) := by decide +kernel
theorem dX8_drawn_6 : decode cX8_drawn 6 = .ok (.ifCond .ne 6, 3) := by decide +kernel
theorem dX8_drawn_9 : decode cX8_drawn 9 = .ok (.ldc 149, 2) := by decide +kernel
theorem dX8_drawn_11 : decode cX8_drawn 11 = .ok (.ireturn, 1) := by decide +kernel
theorem dX8_drawn_12 : decode cX8_drawn 12 = .ok (.iload_n 1, 1) := by decide +kernel
theorem dX8_drawn_13 : decode cX8_drawn 13 = .ok (.i2l, 1) := by decide +kernel
theorem dX8_drawn_14 : decode cX8_drawn 14 = .ok (.lconst 0, 1) := by decide +kernel
theorem dX8_drawn_15 : decode cX8_drawn 15 = .ok (.ldc2_w 168, 3) := by decide +kernel
theorem dX8_drawn_18 : decode cX8_drawn 18 = .ok (.invokestatic 55, 3) := by decide +kernel
theorem dX8_drawn_21 : decode cX8_drawn 21 = .ok (.ifCond .eq 25, 3) := by decide +kernel
theorem dX8_drawn_24 : decode cX8_drawn 24 = .ok (.iload_n 2, 1) := by decide +kernel
theorem dX8_drawn_25 : decode cX8_drawn 25 = .ok (.i2l, 1) := by decide +kernel
theorem dX8_drawn_26 : decode cX8_drawn 26 = .ok (.lconst 1, 1) := by decide +kernel
theorem dX8_drawn_27 : decode cX8_drawn 27 = .ok (.ldc2_w 230, 3) := by decide +kernel
theorem dX8_drawn_30 : decode cX8_drawn 30 = .ok (.invokestatic 55, 3) := by decide +kernel
theorem dX8_drawn_33 : decode cX8_drawn 33 = .ok (.ifCond .eq 13, 3) := by decide +kernel
theorem dX8_drawn_36 : decode cX8_drawn 36 = .ok (.iload_n 3, 1) := by decide +kernel
theorem dX8_drawn_37 : decode cX8_drawn 37 = .ok (.i2l, 1) := by decide +kernel
theorem dX8_drawn_38 : decode cX8_drawn 38 = .ok (.lconst 0, 1) := by decide +kernel
theorem dX8_drawn_39 : decode cX8_drawn 39 = .ok (.lconst 1, 1) := by decide +kernel
theorem dX8_drawn_40 : decode cX8_drawn 40 = .ok (.invokestatic 55, 3) := by decide +kernel
theorem dX8_drawn_43 : decode cX8_drawn 43 = .ok (.ifCond .ne 6, 3) := by decide +kernel
theorem dX8_drawn_46 : decode cX8_drawn 46 = .ok (.ldc 72, 2) := by decide +kernel
theorem dX8_drawn_48 : decode cX8_drawn 48 = .ok (.ireturn, 1) := by decide +kernel
theorem dX8_drawn_49 : decode cX8_drawn 49 = .ok (.aload_n 0, 1) := by decide +kernel
theorem dX8_drawn_50 : decode cX8_drawn 50 = .ok (.invokevirtual 170, 3) := by decide +kernel
theorem dX8_drawn_53 : decode cX8_drawn 53 = .ok (.iload_n 2, 1) := by decide +kernel
theorem dX8_drawn_54 : decode cX8_drawn 54 = .ok (.i2l, 1) := by decide +kernel
theorem dX8_drawn_55 : decode cX8_drawn 55 = .ok (.lstore 4, 2) := by decide +kernel
theorem dX8_drawn_57 : decode cX8_drawn 57 = .ok (.iconst 0, 1) := by decide +kernel
theorem dX8_drawn_58 : decode cX8_drawn 58 = .ok (.istore 6, 2) := by decide +kernel
theorem dX8_drawn_60 : decode cX8_drawn 60 = .ok (.iconst 0, 1) := by decide +kernel
theorem dX8_drawn_61 : decode cX8_drawn 61 = .ok (.istore 7, 2) := by decide +kernel
theorem dX8_drawn_63 : decode cX8_drawn 63 = .ok (.iload 7, 2) := by decide +kernel
theorem dX8_drawn_65 : decode cX8_drawn 65 = .ok (.iload_n 1, 1) := by decide +kernel
theorem dX8_drawn_66 : decode cX8_drawn 66 = .ok (.if_icmp .ge 147, 3) := by decide +kernel
theorem dX8_drawn_69 : decode cX8_drawn 69 = .ok (.lload 4, 2) := by decide +kernel
theorem dX8_drawn_71 : decode cX8_drawn 71 = .ok (.ldc2_w 232, 3) := by decide +kernel
theorem dX8_drawn_74 : decode cX8_drawn 74 = .ok (.lmul, 1) := by decide +kernel
theorem dX8_drawn_75 : decode cX8_drawn 75 = .ok (.ldc2_w 234, 3) := by decide +kernel
theorem dX8_drawn_78 : decode cX8_drawn 78 = .ok (.lrem, 1) := by decide +kernel
theorem dX8_drawn_79 : decode cX8_drawn 79 = .ok (.lstore 4, 2) := by decide +kernel
theorem dX8_drawn_81 : decode cX8_drawn 81 = .ok (.lload 4, 2) := by decide +kernel
theorem dX8_drawn_83 : decode cX8_drawn 83 = .ok (.aload_n 0, 1) := by decide +kernel
theorem dX8_drawn_84 : decode cX8_drawn 84 = .ok (.getfield 7, 3) := by decide +kernel
theorem dX8_drawn_87 : decode cX8_drawn 87 = .ok (.iconst 0, 1) := by decide +kernel
theorem dX8_drawn_88 : decode cX8_drawn 88 = .ok (.iaload, 1) := by decide +kernel
theorem dX8_drawn_89 : decode cX8_drawn 89 = .ok (.i2l, 1) := by decide +kernel
theorem dX8_drawn_90 : decode cX8_drawn 90 = .ok (.lrem, 1) := by decide +kernel
theorem dX8_drawn_91 : decode cX8_drawn 91 = .ok (.l2i, 1) := by decide +kernel
theorem dX8_drawn_92 : decode cX8_drawn 92 = .ok (.istore 8, 2) := by decide +kernel
theorem dX8_drawn_94 : decode cX8_drawn 94 = .ok (.aload_n 0, 1) := by decide +kernel
theorem dX8_drawn_95 : decode cX8_drawn 95 = .ok (.bipush 17, 2) := by decide +kernel
theorem dX8_drawn_97 : decode cX8_drawn 97 = .ok (.iload 8, 2) := by decide +kernel
theorem dX8_drawn_99 : decode cX8_drawn 99 = .ok (.iload 8, 2) := by decide +kernel
theorem dX8_drawn_101 : decode cX8_drawn 101 = .ok (.aload_n 0, 1) := by decide +kernel
theorem dX8_drawn_102 : decode cX8_drawn 102 = .ok (.getfield 7, 3) := by decide +kernel
theorem dX8_drawn_105 : decode cX8_drawn 105 = .ok (.iconst 0, 1) := by decide +kernel
theorem dX8_drawn_106 : decode cX8_drawn 106 = .ok (.iaload, 1) := by decide +kernel
theorem dX8_drawn_107 : decode cX8_drawn 107 = .ok (.iconst 1, 1) := by decide +kernel
theorem dX8_drawn_108 : decode cX8_drawn 108 = .ok (.isub, 1) := by decide +kernel
theorem dX8_drawn_109 : decode cX8_drawn 109 = .ok (.if_icmp .ne 7, 3) := by decide +kernel
theorem dX8_drawn_112 : decode cX8_drawn 112 = .ok (.iconst 0, 1) := by decide +kernel
theorem dX8_drawn_113 : decode cX8_drawn 113 = .ok (.goto 7, 3) := by decide +kernel
theorem dX8_drawn_116 : decode cX8_drawn 116 = .ok (.iload 8, 2) := by decide +kernel
theorem dX8_drawn_118 : decode cX8_drawn 118 = .ok (.iconst 1, 1) := by decide +kernel
theorem dX8_drawn_119 : decode cX8_drawn 119 = .ok (.iadd, 1) := by decide +kernel
theorem dX8_drawn_120 : decode cX8_drawn 120 = .ok (.invokevirtual 142, 3) := by decide +kernel
theorem dX8_drawn_123 : decode cX8_drawn 123 = .ok (.aload_n 0, 1) := by decide +kernel
theorem dX8_drawn_124 : decode cX8_drawn 124 = .ok (.bipush 17, 2) := by decide +kernel
theorem dX8_drawn_126 : decode cX8_drawn 126 = .ok (.iconst 0, 1) := by decide +kernel
theorem dX8_drawn_127 : decode cX8_drawn 127 = .ok (.invokevirtual 155, 3) := by decide +kernel
theorem dX8_drawn_130 : decode cX8_drawn 130 = .ok (.iconst 0, 1) := by decide +kernel
theorem dX8_drawn_131 : decode cX8_drawn 131 = .ok (.istore 9, 2) := by decide +kernel
theorem dX8_drawn_133 : decode cX8_drawn 133 = .ok (.iconst 0, 1) := by decide +kernel
theorem dX8_drawn_134 : decode cX8_drawn 134 = .ok (.istore 10, 2) := by decide +kernel
theorem dX8_drawn_136 : decode cX8_drawn 136 = .ok (.iload 10, 2) := by decide +kernel
theorem dX8_drawn_138 : decode cX8_drawn 138 = .ok (.aload_n 0, 1) := by decide +kernel
theorem dX8_drawn_139 : decode cX8_drawn 139 = .ok (.getfield 7, 3) := by decide +kernel
theorem dX8_drawn_142 : decode cX8_drawn 142 = .ok (.iconst 0, 1) := by decide +kernel
theorem dX8_drawn_143 : decode cX8_drawn 143 = .ok (.iaload, 1) := by decide +kernel
theorem dX8_drawn_144 : decode cX8_drawn 144 = .ok (.if_icmp .ge 48, 3) := by decide +kernel
theorem dX8_drawn_147 : decode cX8_drawn 147 = .ok (.iload 9, 2) := by decide +kernel
theorem dX8_drawn_149 : decode cX8_drawn 149 = .ok (.ifCond .ne 30, 3) := by decide +kernel
theorem dX8_drawn_152 : decode cX8_drawn 152 = .ok (.aload_n 0, 1) := by decide +kernel
theorem dX8_drawn_153 : decode cX8_drawn 153 = .ok (.getfield 7, 3) := by decide +kernel
theorem dX8_drawn_156 : decode cX8_drawn 156 = .ok (.bipush 10, 2) := by decide +kernel
theorem dX8_drawn_158 : decode cX8_drawn 158 = .ok (.iload 10, 2) := by decide +kernel
theorem dX8_drawn_160 : decode cX8_drawn 160 = .ok (.iadd, 1) := by decide +kernel
theorem dX8_drawn_161 : decode cX8_drawn 161 = .ok (.iaload, 1) := by decide +kernel
theorem dX8_drawn_162 : decode cX8_drawn 162 = .ok (.iconst 5, 1) := by decide +kernel
theorem dX8_drawn_163 : decode cX8_drawn 163 = .ok (.if_icmp .ne 20, 3) := by decide +kernel
theorem dX8_drawn_166 : decode cX8_drawn 166 = .ok (.aload_n 0, 1) := by decide +kernel
theorem dX8_drawn_167 : decode cX8_drawn 167 = .ok (.getfield 7, 3) := by decide +kernel
theorem dX8_drawn_170 : decode cX8_drawn 170 = .ok (.bipush 20, 2) := by decide +kernel
theorem dX8_drawn_172 : decode cX8_drawn 172 = .ok (.iload 10, 2) := by decide +kernel
theorem dX8_drawn_174 : decode cX8_drawn 174 = .ok (.iadd, 1) := by decide +kernel
theorem dX8_drawn_175 : decode cX8_drawn 175 = .ok (.iaload, 1) := by decide +kernel
theorem dX8_drawn_176 : decode cX8_drawn 176 = .ok (.ifCond .le 7, 3) := by decide +kernel
theorem dX8_drawn_179 : decode cX8_drawn 179 = .ok (.iconst 1, 1) := by decide +kernel
theorem dX8_drawn_180 : decode cX8_drawn 180 = .ok (.goto 4, 3) := by decide +kernel
theorem dX8_drawn_183 : decode cX8_drawn 183 = .ok (.iconst 0, 1) := by decide +kernel
theorem dX8_drawn_184 : decode cX8_drawn 184 = .ok (.istore 9, 2) := by decide +kernel
theorem dX8_drawn_186 : decode cX8_drawn 186 = .ok (.iinc 10 1, 3) := by decide +kernel
theorem dX8_drawn_189 : decode cX8_drawn 189 = .ok (.goto (-53), 3) := by decide +kernel
theorem dX8_drawn_192 : decode cX8_drawn 192 = .ok (.iload 6, 2) := by decide +kernel
theorem dX8_drawn_194 : decode cX8_drawn 194 = .ok (.iload 9, 2) := by decide +kernel
theorem dX8_drawn_196 : decode cX8_drawn 196 = .ok (.ifCond .eq 7, 3) := by decide +kernel
theorem dX8_drawn_199 : decode cX8_drawn 199 = .ok (.iconst 1, 1) := by decide +kernel
theorem dX8_drawn_200 : decode cX8_drawn 200 = .ok (.goto 4, 3) := by decide +kernel
theorem dX8_drawn_203 : decode cX8_drawn 203 = .ok (.iconst 0, 1) := by decide +kernel
theorem dX8_drawn_204 : decode cX8_drawn 204 = .ok (.iadd, 1) := by decide +kernel
theorem dX8_drawn_205 : decode cX8_drawn 205 = .ok (.istore 6, 2) := by decide +kernel
theorem dX8_drawn_207 : decode cX8_drawn 207 = .ok (.iinc 7 1, 3) := by decide +kernel
theorem dX8_drawn_210 : decode cX8_drawn 210 = .ok (.goto (-147), 3) := by decide +kernel
theorem dX8_drawn_213 : decode cX8_drawn 213 = .ok (.iload_n 3, 1) := by decide +kernel
theorem dX8_drawn_214 : decode cX8_drawn 214 = .ok (.ifCond .ne 12, 3) := by decide +kernel
theorem dX8_drawn_217 : decode cX8_drawn 217 = .ok (.aload_n 0, 1) := by decide +kernel
theorem dX8_drawn_218 : decode cX8_drawn 218 = .ok (.bipush 17, 2) := by decide +kernel
theorem dX8_drawn_220 : decode cX8_drawn 220 = .ok (.invokevirtual 236, 3) := by decide +kernel
theorem dX8_drawn_223 : decode cX8_drawn 223 = .ok (.goto 5, 3) := by decide +kernel
theorem dX8_drawn_226 : decode cX8_drawn 226 = .ok (.iload 6, 2) := by decide +kernel
theorem dX8_drawn_228 : decode cX8_drawn 228 = .ok (.ireturn, 1) := by decide +kernel
set_option maxRecDepth 20000 in
theorem ggX8_image_X8_in : GoodIn wsX8_image wsX8_in := goodIn_r _ [7] (by decide +kernel) (by decide +kernel)
set_option maxRecDepth 20000 in
theorem gX8_image_X8_in : GoodIn wsX8_image (va_wsS RX8 55 yX8_in wsX8_in) := goodIn_app (goodIn_of _ (by decide +kernel)) ggX8_image_X8_in
set_option maxRecDepth 20000 in
theorem ggX8_image_X8_copyOf : GoodIn wsX8_image wsX8_copyOf := goodIn_r _ [11, 2, 12, 13, 14, 15, 16, 17, 18, 19, 20, 21, 22, 23, 24, 25, 26, 27, 28, 29, 30, 31, 32, 33, 34] (by decide +kernel) (by decide +kernel)
set_option maxRecDepth 20000 in
theorem gX8_image_X8_copyOf : GoodIn wsX8_image (wsV RX8 132 RX8 yX8_copyOf wsX8_copyOf) := goodIn_app (goodIn_of _ (by decide +kernel)) ggX8_image_X8_copyOf
theorem dX8_image_0 : decode cX8_image 0 = .ok (.iload_n 1, 1) := by decide +kernel
theorem dX8_image_1 : decode cX8_image 1 = .ok (.i2l, 1) := by decide +kernel
theorem dX8_image_2 : decode cX8_image 2 = .ok (.lconst 0, 1) := by decide +kernel
theorem dX8_image_3 : decode cX8_image 3 = .ok (.lconst 1, 1) := by decide +kernel
theorem dX8_image_4 : decode cX8_image 4 = .ok (.invokestatic 55, 3) := by decide +kernel
theorem dX8_image_7 : decode cX8_image 7 = .ok (.ifCond .ne 6, 3) := by decide +kernel
theorem dX8_image_10 : decode cX8_image 10 = .ok (.ldc 72, 2) := by decide +kernel
theorem dX8_image_12 : decode cX8_image 12 = .ok (.ireturn, 1) := by decide +kernel
theorem dX8_image_13 : decode cX8_image 13 = .ok (.aload_n 0, 1) := by decide +kernel
theorem dX8_image_14 : decode cX8_image 14 = .ok (.getfield 7, 3) := by decide +kernel
theorem dX8_image_17 : decode cX8_image 17 = .ok (.iconst 0, 1) := by decide +kernel
theorem dX8_image_18 : decode cX8_image 18 = .ok (.iaload, 1) := by decide +kernel
theorem dX8_image_19 : decode cX8_image 19 = .ok (.ifCond .ne 6, 3) := by decide +kernel
theorem dX8_image_22 : decode cX8_image 22 = .ok (.ldc 149, 2) := by decide +kernel
theorem dX8_image_24 : decode cX8_image 24 = .ok (.ireturn, 1) := by decide +kernel
theorem dX8_image_25 : decode cX8_image 25 = .ok (.aload_n 0, 1) := by decide +kernel
theorem dX8_image_26 : decode cX8_image 26 = .ok (.iconst 0, 1) := by decide +kernel
theorem dX8_image_27 : decode cX8_image 27 = .ok (.bipush 34, 2) := by decide +kernel
theorem dX8_image_29 : decode cX8_image 29 = .ok (.bipush 17, 2) := by decide +kernel
theorem dX8_image_31 : decode cX8_image 31 = .ok (.iload_n 1, 1) := by decide +kernel
theorem dX8_image_32 : decode cX8_image 32 = .ok (.imul, 1) := by decide +kernel
theorem dX8_image_33 : decode cX8_image 33 = .ok (.iadd, 1) := by decide +kernel
theorem dX8_image_34 : decode cX8_image 34 = .ok (.bipush 17, 2) := by decide +kernel
theorem dX8_image_36 : decode cX8_image 36 = .ok (.invokevirtual 132, 3) := by decide +kernel
theorem dX8_image_39 : decode cX8_image 39 = .ok (.iconst 1, 1) := by decide +kernel
theorem dX8_image_40 : decode cX8_image 40 = .ok (.ireturn, 1) := by decide +kernel
set_option maxRecDepth 20000 in
theorem ggX8_restore_X8_in : GoodIn wsX8_restore wsX8_in := goodIn_r _ [8] (by decide +kernel) (by decide +kernel)
set_option maxRecDepth 20000 in
theorem gX8_restore_X8_in : GoodIn wsX8_restore (va_wsS RX8 55 yX8_in wsX8_in) := goodIn_app (goodIn_of _ (by decide +kernel)) ggX8_restore_X8_in
set_option maxRecDepth 20000 in
theorem ggX8_restore_X8_copyOf : GoodIn wsX8_restore wsX8_copyOf := goodIn_r _ [12, 2, 13, 14, 15, 16, 17, 18, 19, 20, 21, 22, 23, 24, 25, 26, 27, 28, 29, 30, 31, 32, 33, 34, 35] (by decide +kernel) (by decide +kernel)
set_option maxRecDepth 20000 in
theorem gX8_restore_X8_copyOf : GoodIn wsX8_restore (wsV RX8 132 RX8 yX8_copyOf wsX8_copyOf) := goodIn_app (goodIn_of _ (by decide +kernel)) ggX8_restore_X8_copyOf
theorem dX8_restore_0 : decode cX8_restore 0 = .ok (.iload_n 1, 1) := by decide +kernel
theorem dX8_restore_1 : decode cX8_restore 1 = .ok (.i2l, 1) := by decide +kernel
theorem dX8_restore_2 : decode cX8_restore 2 = .ok (.lconst 0, 1) := by decide +kernel
theorem dX8_restore_3 : decode cX8_restore 3 = .ok (.lconst 1, 1) := by decide +kernel
theorem dX8_restore_4 : decode cX8_restore 4 = .ok (.invokestatic 55, 3) := by decide +kernel
theorem dX8_restore_7 : decode cX8_restore 7 = .ok (.ifCond .ne 6, 3) := by decide +kernel
theorem dX8_restore_10 : decode cX8_restore 10 = .ok (.ldc 72, 2) := by decide +kernel
theorem dX8_restore_12 : decode cX8_restore 12 = .ok (.ireturn, 1) := by decide +kernel
theorem dX8_restore_13 : decode cX8_restore 13 = .ok (.aload_n 0, 1) := by decide +kernel
theorem dX8_restore_14 : decode cX8_restore 14 = .ok (.getfield 7, 3) := by decide +kernel
theorem dX8_restore_17 : decode cX8_restore 17 = .ok (.bipush 34, 2) := by decide +kernel
theorem dX8_restore_19 : decode cX8_restore 19 = .ok (.bipush 17, 2) := by decide +kernel
theorem dX8_restore_21 : decode cX8_restore 21 = .ok (.iload_n 1, 1) := by decide +kernel
theorem dX8_restore_22 : decode cX8_restore 22 = .ok (.imul, 1) := by decide +kernel
theorem dX8_restore_23 : decode cX8_restore 23 = .ok (.iadd, 1) := by decide +kernel
theorem dX8_restore_24 : decode cX8_restore 24 = .ok (.iconst 0, 1) := by decide +kernel
theorem dX8_restore_25 : decode cX8_restore 25 = .ok (.iadd, 1) := by decide +kernel
theorem dX8_restore_26 : decode cX8_restore 26 = .ok (.iaload, 1) := by decide +kernel
theorem dX8_restore_27 : decode cX8_restore 27 = .ok (.ifCond .ne 6, 3) := by decide +kernel
theorem dX8_restore_30 : decode cX8_restore 30 = .ok (.ldc 149, 2) := by decide +kernel
theorem dX8_restore_32 : decode cX8_restore 32 = .ok (.ireturn, 1) := by decide +kernel
theorem dX8_restore_33 : decode cX8_restore 33 = .ok (.aload_n 0, 1) := by decide +kernel
theorem dX8_restore_34 : decode cX8_restore 34 = .ok (.bipush 34, 2) := by decide +kernel
theorem dX8_restore_36 : decode cX8_restore 36 = .ok (.bipush 17, 2) := by decide +kernel
theorem dX8_restore_38 : decode cX8_restore 38 = .ok (.iload_n 1, 1) := by decide +kernel
theorem dX8_restore_39 : decode cX8_restore 39 = .ok (.imul, 1) := by decide +kernel
theorem dX8_restore_40 : decode cX8_restore 40 = .ok (.iadd, 1) := by decide +kernel
theorem dX8_restore_41 : decode cX8_restore 41 = .ok (.iconst 0, 1) := by decide +kernel
theorem dX8_restore_42 : decode cX8_restore 42 = .ok (.bipush 17, 2) := by decide +kernel
theorem dX8_restore_44 : decode cX8_restore 44 = .ok (.invokevirtual 132, 3) := by decide +kernel
theorem dX8_restore_47 : decode cX8_restore 47 = .ok (.aload_n 0, 1) := by decide +kernel
theorem dX8_restore_48 : decode cX8_restore 48 = .ok (.iconst 0, 1) := by decide +kernel
theorem dX8_restore_49 : decode cX8_restore 49 = .ok (.putfield 136, 3) := by decide +kernel
theorem dX8_restore_52 : decode cX8_restore 52 = .ok (.iconst 1, 1) := by decide +kernel
theorem dX8_restore_53 : decode cX8_restore 53 = .ok (.ireturn, 1) := by decide +kernel
set_option maxRecDepth 20000 in
theorem ggX8_kind_X8_isSaint : GoodIn wsX8_kind wsX8_isSaint := goodIn_r _ [7, 1, 8, 9, 6, 10, 11, 12, 13, 14, 15, 16, 17, 18, 19, 20, 21, 22, 23, 24, 25, 26, 27, 28, 29, 30, 31, 32, 33] (by decide +kernel) (by decide +kernel)
set_option maxRecDepth 20000 in
theorem gX8_kind_X8_isSaint : GoodIn wsX8_kind (wsV RX8 158 RX8 yX8_isSaint wsX8_isSaint) := goodIn_app (goodIn_of _ (by decide +kernel)) ggX8_kind_X8_isSaint
theorem dX8_kind_0 : decode cX8_kind 0 = .ok (.aload_n 0, 1) := by decide +kernel
theorem dX8_kind_1 : decode cX8_kind 1 = .ok (.iload_n 1, 1) := by decide +kernel
theorem dX8_kind_2 : decode cX8_kind 2 = .ok (.invokevirtual 158, 3) := by decide +kernel
theorem dX8_kind_5 : decode cX8_kind 5 = .ok (.ifCond .eq 15, 3) := by decide +kernel
theorem dX8_kind_8 : decode cX8_kind 8 = .ok (.aload_n 0, 1) := by decide +kernel
theorem dX8_kind_9 : decode cX8_kind 9 = .ok (.getfield 7, 3) := by decide +kernel
theorem dX8_kind_12 : decode cX8_kind 12 = .ok (.bipush 10, 2) := by decide +kernel
theorem dX8_kind_14 : decode cX8_kind 14 = .ok (.iload_n 1, 1) := by decide +kernel
theorem dX8_kind_15 : decode cX8_kind 15 = .ok (.iadd, 1) := by decide +kernel
theorem dX8_kind_16 : decode cX8_kind 16 = .ok (.iaload, 1) := by decide +kernel
theorem dX8_kind_17 : decode cX8_kind 17 = .ok (.goto 5, 3) := by decide +kernel
theorem dX8_kind_20 : decode cX8_kind 20 = .ok (.ldc 72, 2) := by decide +kernel
theorem dX8_kind_22 : decode cX8_kind 22 = .ok (.ireturn, 1) := by decide +kernel
theorem dX8_isA_0 : decode cX8_isA 0 = .ok (.iload_n 1, 1) := by decide +kernel
theorem dX8_isA_1 : decode cX8_isA 1 = .ok (.ifCond .eq 33, 3) := by decide +kernel
theorem dX8_isA_4 : decode cX8_isA 4 = .ok (.iload_n 1, 1) := by decide +kernel
theorem dX8_isA_5 : decode cX8_isA 5 = .ok (.iload_n 0, 1) := by decide +kernel
theorem dX8_isA_6 : decode cX8_isA 6 = .ok (.if_icmp .eq 28, 3) := by decide +kernel
theorem dX8_isA_9 : decode cX8_isA 9 = .ok (.iload_n 1, 1) := by decide +kernel
theorem dX8_isA_10 : decode cX8_isA 10 = .ok (.iconst 1, 1) := by decide +kernel
theorem dX8_isA_11 : decode cX8_isA 11 = .ok (.if_icmp .ne 13, 3) := by decide +kernel
theorem dX8_isA_14 : decode cX8_isA 14 = .ok (.iload_n 0, 1) := by decide +kernel
theorem dX8_isA_15 : decode cX8_isA 15 = .ok (.iconst 2, 1) := by decide +kernel
theorem dX8_isA_16 : decode cX8_isA 16 = .ok (.if_icmp .eq 18, 3) := by decide +kernel
theorem dX8_isA_19 : decode cX8_isA 19 = .ok (.iload_n 0, 1) := by decide +kernel
theorem dX8_isA_20 : decode cX8_isA 20 = .ok (.iconst 3, 1) := by decide +kernel
theorem dX8_isA_21 : decode cX8_isA 21 = .ok (.if_icmp .eq 13, 3) := by decide +kernel
theorem dX8_isA_24 : decode cX8_isA 24 = .ok (.iload_n 1, 1) := by decide +kernel
theorem dX8_isA_25 : decode cX8_isA 25 = .ok (.iconst 4, 1) := by decide +kernel
theorem dX8_isA_26 : decode cX8_isA 26 = .ok (.if_icmp .ne 12, 3) := by decide +kernel
theorem dX8_isA_29 : decode cX8_isA 29 = .ok (.iload_n 0, 1) := by decide +kernel
theorem dX8_isA_30 : decode cX8_isA 30 = .ok (.iconst 5, 1) := by decide +kernel
theorem dX8_isA_31 : decode cX8_isA 31 = .ok (.if_icmp .ne 7, 3) := by decide +kernel
theorem dX8_isA_34 : decode cX8_isA 34 = .ok (.iconst 1, 1) := by decide +kernel
theorem dX8_isA_35 : decode cX8_isA 35 = .ok (.goto 4, 3) := by decide +kernel
theorem dX8_isA_38 : decode cX8_isA 38 = .ok (.iconst 0, 1) := by decide +kernel
theorem dX8_isA_39 : decode cX8_isA 39 = .ok (.ireturn, 1) := by decide +kernel
set_option maxRecDepth 20000 in
theorem ggX8_as_X8_isSaint : GoodIn wsX8_as wsX8_isSaint := goodIn_r _ [9, 3, 10, 11, 8, 12, 21, 22, 23, 24, 25, 26, 27, 28, 29, 30, 31, 32, 33, 34, 35, 36, 37, 38, 39, 40, 41, 42, 43] (by decide +kernel) (by decide +kernel)
set_option maxRecDepth 20000 in
theorem gX8_as_X8_isSaint : GoodIn wsX8_as (wsV RX8 158 RX8 yX8_isSaint wsX8_isSaint) := goodIn_app (goodIn_of _ (by decide +kernel)) ggX8_as_X8_isSaint
set_option maxRecDepth 20000 in
theorem ggX8_as_X8_in : GoodIn wsX8_as wsX8_in := goodIn_r _ [12] (by decide +kernel) (by decide +kernel)
set_option maxRecDepth 20000 in
theorem gX8_as_X8_in : GoodIn wsX8_as (va_wsS RX8 55 yX8_in wsX8_in) := goodIn_app (goodIn_of _ (by decide +kernel)) ggX8_as_X8_in
set_option maxRecDepth 20000 in
theorem ggX8_as_X8_isA : GoodIn wsX8_as wsX8_isA := goodIn_r _ [15] (by decide +kernel) (by decide +kernel)
set_option maxRecDepth 20000 in
theorem gX8_as_X8_isA : GoodIn wsX8_as (va_wsS RX8 241 yX8_isA wsX8_isA) := goodIn_app (goodIn_of _ (by decide +kernel)) ggX8_as_X8_isA
set_option maxRecDepth 20000 in
theorem ggX8_as_X8_finds : GoodIn wsX8_as wsX8_finds := goodIn_r _ [19, 4, 20, 21, 22, 23, 24, 25, 26, 27, 28, 29, 30, 31, 32, 33, 34, 35, 36, 37, 38, 39, 40, 41, 42, 43] (by decide +kernel) (by decide +kernel)
set_option maxRecDepth 20000 in
theorem gX8_as_X8_finds : GoodIn wsX8_as (wsV RX8 73 RX8 yX8_finds wsX8_finds) := goodIn_app (goodIn_of _ (by decide +kernel)) ggX8_as_X8_finds
theorem dX8_as_0 : decode cX8_as 0 = .ok (.aload_n 0, 1) := by decide +kernel
theorem dX8_as_1 : decode cX8_as 1 = .ok (.iload_n 1, 1) := by decide +kernel
theorem dX8_as_2 : decode cX8_as 2 = .ok (.invokevirtual 158, 3) := by decide +kernel
theorem dX8_as_5 : decode cX8_as 5 = .ok (.ifCond .eq 15, 3) := by decide +kernel
theorem dX8_as_8 : decode cX8_as 8 = .ok (.iload_n 2, 1) := by decide +kernel
theorem dX8_as_9 : decode cX8_as 9 = .ok (.i2l, 1) := by decide +kernel
theorem dX8_as_10 : decode cX8_as 10 = .ok (.lconst 0, 1) := by decide +kernel
theorem dX8_as_11 : decode cX8_as 11 = .ok (.ldc2_w 239, 3) := by decide +kernel
theorem dX8_as_14 : decode cX8_as 14 = .ok (.invokestatic 55, 3) := by decide +kernel
theorem dX8_as_17 : decode cX8_as 17 = .ok (.ifCond .ne 6, 3) := by decide +kernel
theorem dX8_as_20 : decode cX8_as 20 = .ok (.ldc 72, 2) := by decide +kernel
theorem dX8_as_22 : decode cX8_as 22 = .ok (.ireturn, 1) := by decide +kernel
theorem dX8_as_23 : decode cX8_as 23 = .ok (.aload_n 0, 1) := by decide +kernel
theorem dX8_as_24 : decode cX8_as 24 = .ok (.getfield 7, 3) := by decide +kernel
theorem dX8_as_27 : decode cX8_as 27 = .ok (.bipush 10, 2) := by decide +kernel
theorem dX8_as_29 : decode cX8_as 29 = .ok (.iload_n 1, 1) := by decide +kernel
theorem dX8_as_30 : decode cX8_as 30 = .ok (.iadd, 1) := by decide +kernel
theorem dX8_as_31 : decode cX8_as 31 = .ok (.iaload, 1) := by decide +kernel
theorem dX8_as_32 : decode cX8_as 32 = .ok (.iload_n 2, 1) := by decide +kernel
theorem dX8_as_33 : decode cX8_as 33 = .ok (.invokestatic 241, 3) := by decide +kernel
theorem dX8_as_36 : decode cX8_as 36 = .ok (.ifCond .ne 9, 3) := by decide +kernel
theorem dX8_as_39 : decode cX8_as 39 = .ok (.aload_n 0, 1) := by decide +kernel
theorem dX8_as_40 : decode cX8_as 40 = .ok (.iconst 3, 1) := by decide +kernel
theorem dX8_as_41 : decode cX8_as 41 = .ok (.invokevirtual 73, 3) := by decide +kernel
theorem dX8_as_44 : decode cX8_as 44 = .ok (.ireturn, 1) := by decide +kernel
theorem dX8_as_45 : decode cX8_as 45 = .ok (.aload_n 0, 1) := by decide +kernel
theorem dX8_as_46 : decode cX8_as 46 = .ok (.iconst 0, 1) := by decide +kernel
theorem dX8_as_47 : decode cX8_as 47 = .ok (.putfield 61, 3) := by decide +kernel
theorem dX8_as_50 : decode cX8_as 50 = .ok (.iload_n 1, 1) := by decide +kernel
theorem dX8_as_51 : decode cX8_as 51 = .ok (.ireturn, 1) := by decide +kernel
theorem dX8_traces_0 : decode cX8_traces 0 = .ok (.aload_n 0, 1) := by decide +kernel
theorem dX8_traces_1 : decode cX8_traces 1 = .ok (.getfield 244, 3) := by decide +kernel
theorem dX8_traces_4 : decode cX8_traces 4 = .ok (.bipush 16, 2) := by decide +kernel
theorem dX8_traces_6 : decode cX8_traces 6 = .ok (.if_icmp .ge 23, 3) := by decide +kernel
theorem dX8_traces_9 : decode cX8_traces 9 = .ok (.aload_n 0, 1) := by decide +kernel
theorem dX8_traces_10 : decode cX8_traces 10 = .ok (.getfield 52, 3) := by decide +kernel
theorem dX8_traces_13 : decode cX8_traces 13 = .ok (.aload_n 0, 1) := by decide +kernel
theorem dX8_traces_14 : decode cX8_traces 14 = .ok (.getfield 244, 3) := by decide +kernel
theorem dX8_traces_17 : decode cX8_traces 17 = .ok (.iload_n 1, 1) := by decide +kernel
theorem dX8_traces_18 : decode cX8_traces 18 = .ok (.iastore, 1) := by decide +kernel
theorem dX8_traces_19 : decode cX8_traces 19 = .ok (.aload_n 0, 1) := by decide +kernel
theorem dX8_traces_20 : decode cX8_traces 20 = .ok (.dup, 1) := by decide +kernel
theorem dX8_traces_21 : decode cX8_traces 21 = .ok (.getfield 244, 3) := by decide +kernel
theorem dX8_traces_24 : decode cX8_traces 24 = .ok (.iconst 1, 1) := by decide +kernel
theorem dX8_traces_25 : decode cX8_traces 25 = .ok (.iadd, 1) := by decide +kernel
theorem dX8_traces_26 : decode cX8_traces 26 = .ok (.putfield 244, 3) := by decide +kernel
theorem dX8_traces_29 : decode cX8_traces 29 = .ok (.return_, 1) := by decide +kernel
set_option maxRecDepth 20000 in
theorem ggX8_size10_X8_traces : GoodIn wsX8_size10 wsX8_traces := goodIn_r _ [6, 7, 8, 9, 10, 11, 12, 13, 14, 15, 16, 17, 18, 19, 20, 21, 22, 23, 24, 25, 26, 27, 28, 29, 30, 31] (by decide +kernel) (by decide +kernel)
set_option maxRecDepth 20000 in
theorem gX8_size10_X8_traces : GoodIn wsX8_size10 (wsV RX8 247 RX8 yX8_traces wsX8_traces) := goodIn_app (goodIn_of _ (by decide +kernel)) ggX8_size10_X8_traces
theorem dX8_size10_0 : decode cX8_size10 0 = .ok (.aload_n 0, 1) := by decide +kernel
theorem dX8_size10_1 : decode cX8_size10 1 = .ok (.bipush 10, 2) := by decide +kernel
theorem dX8_size10_3 : decode cX8_size10 3 = .ok (.invokevirtual 247, 3) := by decide +kernel
theorem dX8_size10_6 : decode cX8_size10 6 = .ok (.aload_n 0, 1) := by decide +kernel
theorem dX8_size10_7 : decode cX8_size10 7 = .ok (.getfield 7, 3) := by decide +kernel
theorem dX8_size10_10 : decode cX8_size10 10 = .ok (.iconst 3, 1) := by decide +kernel
theorem dX8_size10_11 : decode cX8_size10 11 = .ok (.iload_n 1, 1) := by decide +kernel
theorem dX8_size10_12 : decode cX8_size10 12 = .ok (.iadd, 1) := by decide +kernel
theorem dX8_size10_13 : decode cX8_size10 13 = .ok (.iaload, 1) := by decide +kernel
theorem dX8_size10_14 : decode cX8_size10 14 = .ok (.ireturn, 1) := by decide +kernel
set_option maxRecDepth 20000 in
theorem ggX8_size11_X8_traces : GoodIn wsX8_size11 wsX8_traces := goodIn_r _ [5, 6, 7, 29, 30, 31, 32, 33, 34, 35, 36, 37, 38, 39, 40, 41, 42, 43, 44, 45, 46, 47, 48, 49, 50, 51] (by decide +kernel) (by decide +kernel)
set_option maxRecDepth 20000 in
theorem gX8_size11_X8_traces : GoodIn wsX8_size11 (wsV RX8 247 RX8 yX8_traces wsX8_traces) := goodIn_app (goodIn_of _ (by decide +kernel)) ggX8_size11_X8_traces
set_option maxRecDepth 20000 in
theorem ggX8_size11_X8_size10 : GoodIn wsX8_size11 wsX8_size10 := goodIn_r _ [11, 12, 1, 2, 3, 4, 5, 6, 7, 29, 30, 31, 32, 33, 34, 35, 36, 37, 38, 39, 40, 41, 42, 43, 44, 45, 46, 47, 48, 49, 50, 51] (by decide +kernel) (by decide +kernel)
set_option maxRecDepth 20000 in
theorem gX8_size11_X8_size10 : GoodIn wsX8_size11 (wsV RX8 250 RX8 yX8_size10 wsX8_size10) := goodIn_app (goodIn_of _ (by decide +kernel)) ggX8_size11_X8_size10
set_option maxRecDepth 20000 in
theorem ggX8_size11_X8_markOf : GoodIn wsX8_size11 wsX8_markOf := goodIn_r _ [16, 12, 1, 2, 3, 4, 5, 6, 7, 17, 18, 19, 20, 21, 22, 23, 24, 25, 26, 27, 28, 29, 30, 31, 32, 33, 34, 35, 36, 37, 38, 39, 40, 41, 42, 43, 44, 45, 46, 47, 48, 49, 50, 51] (by decide +kernel) (by decide +kernel)
set_option maxRecDepth 20000 in
theorem gX8_size11_X8_markOf : GoodIn wsX8_size11 (wsV RX8 253 RX8 yX8_markOf wsX8_markOf) := goodIn_app (goodIn_of _ (by decide +kernel)) ggX8_size11_X8_markOf
theorem dX8_size11_0 : decode cX8_size11 0 = .ok (.aload_n 0, 1) := by decide +kernel
theorem dX8_size11_1 : decode cX8_size11 1 = .ok (.bipush 11, 2) := by decide +kernel
theorem dX8_size11_3 : decode cX8_size11 3 = .ok (.invokevirtual 247, 3) := by decide +kernel
theorem dX8_size11_6 : decode cX8_size11 6 = .ok (.aload_n 0, 1) := by decide +kernel
theorem dX8_size11_7 : decode cX8_size11 7 = .ok (.iload_n 1, 1) := by decide +kernel
theorem dX8_size11_8 : decode cX8_size11 8 = .ok (.invokevirtual 250, 3) := by decide +kernel
theorem dX8_size11_11 : decode cX8_size11 11 = .ok (.istore_n 2, 1) := by decide +kernel
theorem dX8_size11_12 : decode cX8_size11 12 = .ok (.iload_n 2, 1) := by decide +kernel
theorem dX8_size11_13 : decode cX8_size11 13 = .ok (.aload_n 0, 1) := by decide +kernel
theorem dX8_size11_14 : decode cX8_size11 14 = .ok (.iload_n 1, 1) := by decide +kernel
theorem dX8_size11_15 : decode cX8_size11 15 = .ok (.invokevirtual 253, 3) := by decide +kernel
theorem dX8_size11_18 : decode cX8_size11 18 = .ok (.iadd, 1) := by decide +kernel
theorem dX8_size11_19 : decode cX8_size11 19 = .ok (.ireturn, 1) := by decide +kernel
set_option maxRecDepth 20000 in
theorem ggX8_size13_X8_traces : GoodIn wsX8_size13 wsX8_traces := goodIn_r _ [5, 6, 7, 13, 14, 15, 16, 17, 18, 19, 20, 21, 22, 23, 24, 25, 26, 27, 28, 29, 30, 31, 32, 33, 34, 35] (by decide +kernel) (by decide +kernel)
set_option maxRecDepth 20000 in
theorem gX8_size13_X8_traces : GoodIn wsX8_size13 (wsV RX8 247 RX8 yX8_traces wsX8_traces) := goodIn_app (goodIn_of _ (by decide +kernel)) ggX8_size13_X8_traces
set_option maxRecDepth 20000 in
theorem ggX8_size13_X8_size10 : GoodIn wsX8_size13 wsX8_size10 := goodIn_r _ [11, 12, 1, 2, 3, 4, 5, 6, 7, 13, 14, 15, 16, 17, 18, 19, 20, 21, 22, 23, 24, 25, 26, 27, 28, 29, 30, 31, 32, 33, 34, 35] (by decide +kernel) (by decide +kernel)
set_option maxRecDepth 20000 in
theorem gX8_size13_X8_size10 : GoodIn wsX8_size13 (wsV RX8 250 RX8 yX8_size10 wsX8_size10) := goodIn_app (goodIn_of _ (by decide +kernel)) ggX8_size13_X8_size10
theorem dX8_size13_0 : decode cX8_size13 0 = .ok (.aload_n 0, 1) := by decide +kernel
theorem dX8_size13_1 : decode cX8_size13 1 = .ok (.bipush 13, 2) := by decide +kernel
theorem dX8_size13_3 : decode cX8_size13 3 = .ok (.invokevirtual 247, 3) := by decide +kernel
theorem dX8_size13_6 : decode cX8_size13 6 = .ok (.aload_n 0, 1) := by decide +kernel
theorem dX8_size13_7 : decode cX8_size13 7 = .ok (.iload_n 1, 1) := by decide +kernel
theorem dX8_size13_8 : decode cX8_size13 8 = .ok (.invokevirtual 250, 3) := by decide +kernel
theorem dX8_size13_11 : decode cX8_size13 11 = .ok (.bipush 100, 2) := by decide +kernel
theorem dX8_size13_13 : decode cX8_size13 13 = .ok (.isub, 1) := by decide +kernel
theorem dX8_size13_14 : decode cX8_size13 14 = .ok (.ireturn, 1) := by decide +kernel
set_option maxRecDepth 20000 in
theorem ggX8_sizeOf_X8_traces : GoodIn wsX8_sizeOf wsX8_traces := goodIn_r _ [6, 7, 8, 37, 38, 39, 40, 41, 42, 43, 44, 45, 46, 47, 48, 49, 50, 51, 52, 53, 54, 55, 56, 57, 58, 59] (by decide +kernel) (by decide +kernel)
set_option maxRecDepth 20000 in
theorem gX8_sizeOf_X8_traces : GoodIn wsX8_sizeOf (wsV RX8 247 RX8 yX8_traces wsX8_traces) := goodIn_app (goodIn_of _ (by decide +kernel)) ggX8_sizeOf_X8_traces
set_option maxRecDepth 20000 in
theorem ggX8_sizeOf_X8_size11 : GoodIn wsX8_sizeOf wsX8_size11 := goodIn_r _ [12, 2, 3, 4, 5, 6, 7, 8, 13, 14, 15, 16, 1, 17, 18, 19, 20, 21, 22, 23, 24, 25, 26, 27, 28, 29, 30, 31, 32, 37, 38, 39, 40, 41, 42, 43, 44, 45, 46, 47, 48, 49, 50, 51, 52, 53, 54, 55, 56, 57, 58, 59] (by decide +kernel) (by decide +kernel)
set_option maxRecDepth 20000 in
theorem gX8_sizeOf_X8_size11 : GoodIn wsX8_sizeOf (wsV RX8 256 RX8 yX8_size11 wsX8_size11) := goodIn_app (goodIn_of _ (by decide +kernel)) ggX8_sizeOf_X8_size11
set_option maxRecDepth 20000 in
theorem ggX8_sizeOf_X8_size13 : GoodIn wsX8_sizeOf wsX8_size13 := goodIn_r _ [36, 2, 3, 4, 5, 6, 7, 8, 13, 14, 15, 16, 1, 37, 38, 39, 40, 41, 42, 43, 44, 45, 46, 47, 48, 49, 50, 51, 52, 53, 54, 55, 56, 57, 58, 59] (by decide +kernel) (by decide +kernel)
set_option maxRecDepth 20000 in
theorem gX8_sizeOf_X8_size13 : GoodIn wsX8_sizeOf (wsV RX8 259 RX8 yX8_size13 wsX8_size13) := goodIn_app (goodIn_of _ (by decide +kernel)) ggX8_sizeOf_X8_size13
theorem dX8_sizeOf_0 : decode cX8_sizeOf 0 = .ok (.aload_n 0, 1) := by decide +kernel
theorem dX8_sizeOf_1 : decode cX8_sizeOf 1 = .ok (.getfield 7, 3) := by decide +kernel
theorem dX8_sizeOf_4 : decode cX8_sizeOf 4 = .ok (.bipush 10, 2) := by decide +kernel
theorem dX8_sizeOf_6 : decode cX8_sizeOf 6 = .ok (.iload_n 1, 1) := by decide +kernel
theorem dX8_sizeOf_7 : decode cX8_sizeOf 7 = .ok (.iadd, 1) := by decide +kernel
theorem dX8_sizeOf_8 : decode cX8_sizeOf 8 = .ok (.iaload, 1) := by decide +kernel
theorem dX8_sizeOf_9 : decode cX8_sizeOf 9 = .ok (.tableswitch 64 2 5 #[31, 64, 44, 50], 31) := by decide +kernel
theorem dX8_sizeOf_40 : decode cX8_sizeOf 40 = .ok (.aload_n 0, 1) := by decide +kernel
theorem dX8_sizeOf_41 : decode cX8_sizeOf 41 = .ok (.bipush 12, 2) := by decide +kernel
theorem dX8_sizeOf_43 : decode cX8_sizeOf 43 = .ok (.invokevirtual 247, 3) := by decide +kernel
theorem dX8_sizeOf_46 : decode cX8_sizeOf 46 = .ok (.aload_n 0, 1) := by decide +kernel
theorem dX8_sizeOf_47 : decode cX8_sizeOf 47 = .ok (.iload_n 1, 1) := by decide +kernel
theorem dX8_sizeOf_48 : decode cX8_sizeOf 48 = .ok (.invokevirtual 256, 3) := by decide +kernel
theorem dX8_sizeOf_51 : decode cX8_sizeOf 51 = .ok (.ineg, 1) := by decide +kernel
theorem dX8_sizeOf_52 : decode cX8_sizeOf 52 = .ok (.ireturn, 1) := by decide +kernel
theorem dX8_sizeOf_53 : decode cX8_sizeOf 53 = .ok (.aload_n 0, 1) := by decide +kernel
theorem dX8_sizeOf_54 : decode cX8_sizeOf 54 = .ok (.iload_n 1, 1) := by decide +kernel
theorem dX8_sizeOf_55 : decode cX8_sizeOf 55 = .ok (.invokevirtual 259, 3) := by decide +kernel
theorem dX8_sizeOf_58 : decode cX8_sizeOf 58 = .ok (.ireturn, 1) := by decide +kernel
theorem dX8_sizeOf_59 : decode cX8_sizeOf 59 = .ok (.aload_n 0, 1) := by decide +kernel
theorem dX8_sizeOf_60 : decode cX8_sizeOf 60 = .ok (.bipush 14, 2) := by decide +kernel
theorem dX8_sizeOf_62 : decode cX8_sizeOf 62 = .ok (.invokevirtual 247, 3) := by decide +kernel
theorem dX8_sizeOf_65 : decode cX8_sizeOf 65 = .ok (.iconst 2, 1) := by decide +kernel
theorem dX8_sizeOf_66 : decode cX8_sizeOf 66 = .ok (.aload_n 0, 1) := by decide +kernel
theorem dX8_sizeOf_67 : decode cX8_sizeOf 67 = .ok (.iload_n 1, 1) := by decide +kernel
theorem dX8_sizeOf_68 : decode cX8_sizeOf 68 = .ok (.invokevirtual 259, 3) := by decide +kernel
theorem dX8_sizeOf_71 : decode cX8_sizeOf 71 = .ok (.imul, 1) := by decide +kernel
theorem dX8_sizeOf_72 : decode cX8_sizeOf 72 = .ok (.ireturn, 1) := by decide +kernel
theorem dX8_sizeOf_73 : decode cX8_sizeOf 73 = .ok (.aload_n 0, 1) := by decide +kernel
theorem dX8_sizeOf_74 : decode cX8_sizeOf 74 = .ok (.iload_n 1, 1) := by decide +kernel
theorem dX8_sizeOf_75 : decode cX8_sizeOf 75 = .ok (.invokevirtual 256, 3) := by decide +kernel
theorem dX8_sizeOf_78 : decode cX8_sizeOf 78 = .ok (.ireturn, 1) := by decide +kernel
set_option maxRecDepth 20000 in
theorem ggX8_mark20_X8_traces : GoodIn wsX8_mark20 wsX8_traces := goodIn_r _ [5, 6, 7, 8, 9, 10, 11, 12, 13, 14, 15, 16, 17, 18, 19, 20, 21, 22, 23, 24, 25, 26, 27, 28, 29, 30] (by decide +kernel) (by decide +kernel)
set_option maxRecDepth 20000 in
theorem gX8_mark20_X8_traces : GoodIn wsX8_mark20 (wsV RX8 247 RX8 yX8_traces wsX8_traces) := goodIn_app (goodIn_of _ (by decide +kernel)) ggX8_mark20_X8_traces
theorem dX8_mark20_0 : decode cX8_mark20 0 = .ok (.aload_n 0, 1) := by decide +kernel
theorem dX8_mark20_1 : decode cX8_mark20 1 = .ok (.bipush 20, 2) := by decide +kernel
theorem dX8_mark20_3 : decode cX8_mark20 3 = .ok (.invokevirtual 247, 3) := by decide +kernel
theorem dX8_mark20_6 : decode cX8_mark20 6 = .ok (.iload_n 1, 1) := by decide +kernel
theorem dX8_mark20_7 : decode cX8_mark20 7 = .ok (.ireturn, 1) := by decide +kernel
set_option maxRecDepth 20000 in
theorem ggX8_mark21_X8_traces : GoodIn wsX8_mark21 wsX8_traces := goodIn_r _ [5, 6, 7, 17, 18, 19, 20, 21, 22, 23, 24, 25, 26, 27, 28, 29, 30, 31, 32, 33, 34, 35, 36, 37, 38, 39] (by decide +kernel) (by decide +kernel)
set_option maxRecDepth 20000 in
theorem gX8_mark21_X8_traces : GoodIn wsX8_mark21 (wsV RX8 247 RX8 yX8_traces wsX8_traces) := goodIn_app (goodIn_of _ (by decide +kernel)) ggX8_mark21_X8_traces
set_option maxRecDepth 20000 in
theorem ggX8_mark21_X8_mark20 : GoodIn wsX8_mark21 wsX8_mark20 := goodIn_r _ [11, 1, 2, 3, 4, 5, 6, 7, 17, 18, 19, 20, 21, 22, 23, 24, 25, 26, 27, 28, 29, 30, 31, 32, 33, 34, 35, 36, 37, 38, 39] (by decide +kernel) (by decide +kernel)
set_option maxRecDepth 20000 in
theorem gX8_mark21_X8_mark20 : GoodIn wsX8_mark21 (wsV RX8 262 RX8 yX8_mark20 wsX8_mark20) := goodIn_app (goodIn_of _ (by decide +kernel)) ggX8_mark21_X8_mark20
set_option maxRecDepth 20000 in
theorem ggX8_mark21_X8_noneOf : GoodIn wsX8_mark21 wsX8_noneOf := goodIn_r _ [15, 16, 17, 18, 19, 20, 21, 22, 23, 24, 25, 26, 27, 28, 29, 30, 31, 32, 33, 34, 35, 36, 37, 38, 39] (by decide +kernel) (by decide +kernel)
set_option maxRecDepth 20000 in
theorem gX8_mark21_X8_noneOf : GoodIn wsX8_mark21 (wsV RX8 204 RX8 yX8_noneOf wsX8_noneOf) := goodIn_app (goodIn_of _ (by decide +kernel)) ggX8_mark21_X8_noneOf
theorem dX8_mark21_0 : decode cX8_mark21 0 = .ok (.aload_n 0, 1) := by decide +kernel
theorem dX8_mark21_1 : decode cX8_mark21 1 = .ok (.bipush 21, 2) := by decide +kernel
theorem dX8_mark21_3 : decode cX8_mark21 3 = .ok (.invokevirtual 247, 3) := by decide +kernel
theorem dX8_mark21_6 : decode cX8_mark21 6 = .ok (.aload_n 0, 1) := by decide +kernel
theorem dX8_mark21_7 : decode cX8_mark21 7 = .ok (.iload_n 1, 1) := by decide +kernel
theorem dX8_mark21_8 : decode cX8_mark21 8 = .ok (.invokevirtual 262, 3) := by decide +kernel
theorem dX8_mark21_11 : decode cX8_mark21 11 = .ok (.aload_n 0, 1) := by decide +kernel
theorem dX8_mark21_12 : decode cX8_mark21 12 = .ok (.invokevirtual 204, 3) := by decide +kernel
theorem dX8_mark21_15 : decode cX8_mark21 15 = .ok (.iadd, 1) := by decide +kernel
theorem dX8_mark21_16 : decode cX8_mark21 16 = .ok (.ireturn, 1) := by decide +kernel
set_option maxRecDepth 20000 in
theorem ggX8_markOf_X8_traces : GoodIn wsX8_markOf wsX8_traces := goodIn_r _ [6, 7, 8, 21, 22, 23, 24, 25, 26, 27, 28, 29, 30, 31, 32, 33, 34, 35, 36, 37, 38, 39, 40, 41, 42, 43] (by decide +kernel) (by decide +kernel)
set_option maxRecDepth 20000 in
theorem gX8_markOf_X8_traces : GoodIn wsX8_markOf (wsV RX8 247 RX8 yX8_traces wsX8_traces) := goodIn_app (goodIn_of _ (by decide +kernel)) ggX8_markOf_X8_traces
set_option maxRecDepth 20000 in
theorem ggX8_markOf_X8_mark21 : GoodIn wsX8_markOf wsX8_mark21 := goodIn_r _ [12, 2, 3, 4, 5, 6, 7, 8, 13, 14, 15, 16, 17, 18, 19, 20, 1, 21, 22, 23, 24, 25, 26, 27, 28, 29, 30, 31, 32, 33, 34, 35, 36, 37, 38, 39, 40, 41, 42, 43] (by decide +kernel) (by decide +kernel)
set_option maxRecDepth 20000 in
theorem gX8_markOf_X8_mark21 : GoodIn wsX8_markOf (wsV RX8 265 RX8 yX8_mark21 wsX8_mark21) := goodIn_app (goodIn_of _ (by decide +kernel)) ggX8_markOf_X8_mark21
theorem dX8_markOf_0 : decode cX8_markOf 0 = .ok (.aload_n 0, 1) := by decide +kernel
theorem dX8_markOf_1 : decode cX8_markOf 1 = .ok (.getfield 7, 3) := by decide +kernel
theorem dX8_markOf_4 : decode cX8_markOf 4 = .ok (.bipush 10, 2) := by decide +kernel
theorem dX8_markOf_6 : decode cX8_markOf 6 = .ok (.iload_n 1, 1) := by decide +kernel
theorem dX8_markOf_7 : decode cX8_markOf 7 = .ok (.iadd, 1) := by decide +kernel
theorem dX8_markOf_8 : decode cX8_markOf 8 = .ok (.iaload, 1) := by decide +kernel
theorem dX8_markOf_9 : decode cX8_markOf 9 = .ok (.lookupswitch 57 #[(2, 27), (3, 41)], 27) := by decide +kernel
theorem dX8_markOf_36 : decode cX8_markOf 36 = .ok (.aload_n 0, 1) := by decide +kernel
theorem dX8_markOf_37 : decode cX8_markOf 37 = .ok (.bipush 24, 2) := by decide +kernel
theorem dX8_markOf_39 : decode cX8_markOf 39 = .ok (.invokevirtual 247, 3) := by decide +kernel
theorem dX8_markOf_42 : decode cX8_markOf 42 = .ok (.iconst 2, 1) := by decide +kernel
theorem dX8_markOf_43 : decode cX8_markOf 43 = .ok (.aload_n 0, 1) := by decide +kernel
theorem dX8_markOf_44 : decode cX8_markOf 44 = .ok (.iload_n 1, 1) := by decide +kernel
theorem dX8_markOf_45 : decode cX8_markOf 45 = .ok (.invokevirtual 265, 3) := by decide +kernel
theorem dX8_markOf_48 : decode cX8_markOf 48 = .ok (.imul, 1) := by decide +kernel
theorem dX8_markOf_49 : decode cX8_markOf 49 = .ok (.ireturn, 1) := by decide +kernel
theorem dX8_markOf_50 : decode cX8_markOf 50 = .ok (.aload_n 0, 1) := by decide +kernel
theorem dX8_markOf_51 : decode cX8_markOf 51 = .ok (.bipush 22, 2) := by decide +kernel
theorem dX8_markOf_53 : decode cX8_markOf 53 = .ok (.invokevirtual 247, 3) := by decide +kernel
theorem dX8_markOf_56 : decode cX8_markOf 56 = .ok (.aload_n 0, 1) := by decide +kernel
theorem dX8_markOf_57 : decode cX8_markOf 57 = .ok (.iload_n 1, 1) := by decide +kernel
theorem dX8_markOf_58 : decode cX8_markOf 58 = .ok (.invokevirtual 265, 3) := by decide +kernel
theorem dX8_markOf_61 : decode cX8_markOf 61 = .ok (.sipush 1000, 3) := by decide +kernel
theorem dX8_markOf_64 : decode cX8_markOf 64 = .ok (.isub, 1) := by decide +kernel
theorem dX8_markOf_65 : decode cX8_markOf 65 = .ok (.ireturn, 1) := by decide +kernel
theorem dX8_markOf_66 : decode cX8_markOf 66 = .ok (.aload_n 0, 1) := by decide +kernel
theorem dX8_markOf_67 : decode cX8_markOf 67 = .ok (.iload_n 1, 1) := by decide +kernel
theorem dX8_markOf_68 : decode cX8_markOf 68 = .ok (.invokevirtual 265, 3) := by decide +kernel
theorem dX8_markOf_71 : decode cX8_markOf 71 = .ok (.ireturn, 1) := by decide +kernel
set_option maxRecDepth 20000 in
theorem ggX8_mark23_X8_traces : GoodIn wsX8_mark23 wsX8_traces := goodIn_r _ [5, 6, 7, 41, 42, 43, 44, 45, 46, 47, 48, 49, 50, 51, 52, 53, 54, 55, 56, 57, 58, 59, 60, 61, 62, 63] (by decide +kernel) (by decide +kernel)
set_option maxRecDepth 20000 in
theorem gX8_mark23_X8_traces : GoodIn wsX8_mark23 (wsV RX8 247 RX8 yX8_traces wsX8_traces) := goodIn_app (goodIn_of _ (by decide +kernel)) ggX8_mark23_X8_traces
set_option maxRecDepth 20000 in
theorem ggX8_mark23_X8_mark20 : GoodIn wsX8_mark23 wsX8_mark20 := goodIn_r _ [11, 1, 2, 3, 4, 5, 6, 7, 41, 42, 43, 44, 45, 46, 47, 48, 49, 50, 51, 52, 53, 54, 55, 56, 57, 58, 59, 60, 61, 62, 63] (by decide +kernel) (by decide +kernel)
set_option maxRecDepth 20000 in
theorem gX8_mark23_X8_mark20 : GoodIn wsX8_mark23 (wsV RX8 262 RX8 yX8_mark20 wsX8_mark20) := goodIn_app (goodIn_of _ (by decide +kernel)) ggX8_mark23_X8_mark20
set_option maxRecDepth 20000 in
theorem ggX8_mark23_X8_sizeOf : GoodIn wsX8_mark23 wsX8_sizeOf := goodIn_r _ [15, 16, 1, 2, 3, 4, 5, 6, 7, 17, 18, 19, 20, 21, 22, 23, 24, 25, 26, 27, 28, 29, 30, 31, 32, 8, 9, 10, 11, 33, 34, 35, 36, 37, 38, 39, 40, 41, 42, 43, 44, 45, 46, 47, 48, 49, 50, 51, 52, 53, 54, 55, 56, 57, 58, 59, 60, 61, 62, 63] (by decide +kernel) (by decide +kernel)
set_option maxRecDepth 20000 in
theorem gX8_mark23_X8_sizeOf : GoodIn wsX8_mark23 (wsV RX8 268 RX8 yX8_sizeOf wsX8_sizeOf) := goodIn_app (goodIn_of _ (by decide +kernel)) ggX8_mark23_X8_sizeOf
theorem dX8_mark23_0 : decode cX8_mark23 0 = .ok (.aload_n 0, 1) := by decide +kernel
theorem dX8_mark23_1 : decode cX8_mark23 1 = .ok (.bipush 23, 2) := by decide +kernel
theorem dX8_mark23_3 : decode cX8_mark23 3 = .ok (.invokevirtual 247, 3) := by decide +kernel
theorem dX8_mark23_6 : decode cX8_mark23 6 = .ok (.aload_n 0, 1) := by decide +kernel
theorem dX8_mark23_7 : decode cX8_mark23 7 = .ok (.iload_n 1, 1) := by decide +kernel
theorem dX8_mark23_8 : decode cX8_mark23 8 = .ok (.invokevirtual 262, 3) := by decide +kernel
theorem dX8_mark23_11 : decode cX8_mark23 11 = .ok (.istore_n 2, 1) := by decide +kernel
theorem dX8_mark23_12 : decode cX8_mark23 12 = .ok (.iload_n 2, 1) := by decide +kernel
theorem dX8_mark23_13 : decode cX8_mark23 13 = .ok (.aload_n 0, 1) := by decide +kernel
theorem dX8_mark23_14 : decode cX8_mark23 14 = .ok (.iload_n 1, 1) := by decide +kernel
theorem dX8_mark23_15 : decode cX8_mark23 15 = .ok (.invokevirtual 268, 3) := by decide +kernel
theorem dX8_mark23_18 : decode cX8_mark23 18 = .ok (.isub, 1) := by decide +kernel
theorem dX8_mark23_19 : decode cX8_mark23 19 = .ok (.ireturn, 1) := by decide +kernel
set_option maxRecDepth 20000 in
theorem ggX8_ask_X8_isSaint : GoodIn wsX8_ask wsX8_isSaint := goodIn_r _ [8, 3, 9, 10, 7, 11, 53, 54, 55, 56, 57, 58, 59, 60, 61, 62, 63, 64, 65, 66, 67, 68, 69, 70, 71, 72, 73, 74, 75] (by decide +kernel) (by decide +kernel)
set_option maxRecDepth 20000 in
theorem gX8_ask_X8_isSaint : GoodIn wsX8_ask (wsV RX8 158 RX8 yX8_isSaint wsX8_isSaint) := goodIn_app (goodIn_of _ (by decide +kernel)) ggX8_ask_X8_isSaint
set_option maxRecDepth 20000 in
theorem ggX8_ask_X8_in : GoodIn wsX8_ask wsX8_in := goodIn_r _ [11] (by decide +kernel) (by decide +kernel)
set_option maxRecDepth 20000 in
theorem gX8_ask_X8_in : GoodIn wsX8_ask (va_wsS RX8 55 yX8_in wsX8_in) := goodIn_app (goodIn_of _ (by decide +kernel)) ggX8_ask_X8_in
set_option maxRecDepth 20000 in
theorem ggX8_ask_X8_sizeOf : GoodIn wsX8_ask wsX8_sizeOf := goodIn_r _ [15, 3, 16, 17, 18, 7, 19, 2, 20, 21, 22, 23, 24, 25, 26, 27, 28, 29, 30, 31, 32, 33, 34, 35, 36, 37, 38, 39, 40, 41, 42, 43, 44, 45, 46, 47, 48, 53, 54, 55, 56, 57, 58, 59, 60, 61, 62, 63, 64, 65, 66, 67, 68, 69, 70, 71, 72, 73, 74, 75] (by decide +kernel) (by decide +kernel)
set_option maxRecDepth 20000 in
theorem gX8_ask_X8_sizeOf : GoodIn wsX8_ask (wsV RX8 268 RX8 yX8_sizeOf wsX8_sizeOf) := goodIn_app (goodIn_of _ (by decide +kernel)) ggX8_ask_X8_sizeOf
set_option maxRecDepth 20000 in
theorem ggX8_ask_X8_mark23 : GoodIn wsX8_ask wsX8_mark23 := goodIn_r _ [52, 16, 17, 18, 7, 19, 2, 20, 37, 38, 39, 40, 12, 13, 14, 15, 3, 21, 22, 23, 24, 25, 26, 27, 28, 29, 30, 31, 32, 33, 34, 35, 36, 41, 42, 43, 44, 45, 46, 47, 48, 53, 54, 55, 56, 57, 58, 59, 60, 61, 62, 63, 64, 65, 66, 67, 68, 69, 70, 71, 72, 73, 74, 75] (by decide +kernel) (by decide +kernel)
set_option maxRecDepth 20000 in
theorem gX8_ask_X8_mark23 : GoodIn wsX8_ask (wsV RX8 271 RX8 yX8_mark23 wsX8_mark23) := goodIn_app (goodIn_of _ (by decide +kernel)) ggX8_ask_X8_mark23
set_option maxRecDepth 20000 in
theorem ggX8_ask_X8_markOf : GoodIn wsX8_ask wsX8_markOf := goodIn_r _ [32, 3, 16, 17, 18, 7, 19, 2, 20, 33, 34, 35, 36, 37, 38, 39, 40, 41, 42, 43, 44, 53, 54, 55, 56, 57, 58, 59, 60, 61, 62, 63, 64, 65, 66, 67, 68, 69, 70, 71, 72, 73, 74, 75] (by decide +kernel) (by decide +kernel)
set_option maxRecDepth 20000 in
theorem gX8_ask_X8_markOf : GoodIn wsX8_ask (wsV RX8 253 RX8 yX8_markOf wsX8_markOf) := goodIn_app (goodIn_of _ (by decide +kernel)) ggX8_ask_X8_markOf
theorem dX8_ask_0 : decode cX8_ask 0 = .ok (.aload_n 0, 1) := by decide +kernel
theorem dX8_ask_1 : decode cX8_ask 1 = .ok (.iload_n 1, 1) := by decide +kernel
theorem dX8_ask_2 : decode cX8_ask 2 = .ok (.invokevirtual 158, 3) := by decide +kernel
theorem dX8_ask_5 : decode cX8_ask 5 = .ok (.ifCond .eq 13, 3) := by decide +kernel
theorem dX8_ask_8 : decode cX8_ask 8 = .ok (.iload_n 2, 1) := by decide +kernel
theorem dX8_ask_9 : decode cX8_ask 9 = .ok (.i2l, 1) := by decide +kernel
theorem dX8_ask_10 : decode cX8_ask 10 = .ok (.lconst 0, 1) := by decide +kernel
theorem dX8_ask_11 : decode cX8_ask 11 = .ok (.lconst 1, 1) := by decide +kernel
theorem dX8_ask_12 : decode cX8_ask 12 = .ok (.invokestatic 55, 3) := by decide +kernel
theorem dX8_ask_15 : decode cX8_ask 15 = .ok (.ifCond .ne 6, 3) := by decide +kernel
theorem dX8_ask_18 : decode cX8_ask 18 = .ok (.ldc 72, 2) := by decide +kernel
theorem dX8_ask_20 : decode cX8_ask 20 = .ok (.ireturn, 1) := by decide +kernel
theorem dX8_ask_21 : decode cX8_ask 21 = .ok (.aload_n 0, 1) := by decide +kernel
theorem dX8_ask_22 : decode cX8_ask 22 = .ok (.iconst 0, 1) := by decide +kernel
theorem dX8_ask_23 : decode cX8_ask 23 = .ok (.putfield 244, 3) := by decide +kernel
theorem dX8_ask_26 : decode cX8_ask 26 = .ok (.iload_n 2, 1) := by decide +kernel
theorem dX8_ask_27 : decode cX8_ask 27 = .ok (.ifCond .ne 11, 3) := by decide +kernel
theorem dX8_ask_30 : decode cX8_ask 30 = .ok (.aload_n 0, 1) := by decide +kernel
theorem dX8_ask_31 : decode cX8_ask 31 = .ok (.iload_n 1, 1) := by decide +kernel
theorem dX8_ask_32 : decode cX8_ask 32 = .ok (.invokevirtual 268, 3) := by decide +kernel
theorem dX8_ask_35 : decode cX8_ask 35 = .ok (.goto 29, 3) := by decide +kernel
theorem dX8_ask_38 : decode cX8_ask 38 = .ok (.aload_n 0, 1) := by decide +kernel
theorem dX8_ask_39 : decode cX8_ask 39 = .ok (.getfield 7, 3) := by decide +kernel
theorem dX8_ask_42 : decode cX8_ask 42 = .ok (.bipush 10, 2) := by decide +kernel
theorem dX8_ask_44 : decode cX8_ask 44 = .ok (.iload_n 1, 1) := by decide +kernel
theorem dX8_ask_45 : decode cX8_ask 45 = .ok (.iadd, 1) := by decide +kernel
theorem dX8_ask_46 : decode cX8_ask 46 = .ok (.iaload, 1) := by decide +kernel
theorem dX8_ask_47 : decode cX8_ask 47 = .ok (.iconst 4, 1) := by decide +kernel
theorem dX8_ask_48 : decode cX8_ask 48 = .ok (.if_icmp .lt 11, 3) := by decide +kernel
theorem dX8_ask_51 : decode cX8_ask 51 = .ok (.aload_n 0, 1) := by decide +kernel
theorem dX8_ask_52 : decode cX8_ask 52 = .ok (.iload_n 1, 1) := by decide +kernel
theorem dX8_ask_53 : decode cX8_ask 53 = .ok (.invokevirtual 271, 3) := by decide +kernel
theorem dX8_ask_56 : decode cX8_ask 56 = .ok (.goto 8, 3) := by decide +kernel
theorem dX8_ask_59 : decode cX8_ask 59 = .ok (.aload_n 0, 1) := by decide +kernel
theorem dX8_ask_60 : decode cX8_ask 60 = .ok (.iload_n 1, 1) := by decide +kernel
theorem dX8_ask_61 : decode cX8_ask 61 = .ok (.invokevirtual 253, 3) := by decide +kernel
theorem dX8_ask_64 : decode cX8_ask 64 = .ok (.ireturn, 1) := by decide +kernel
set_option maxRecDepth 20000 in
theorem ggX8_trace_X8_in : GoodIn wsX8_trace wsX8_in := goodIn_r _ [7] (by decide +kernel) (by decide +kernel)
set_option maxRecDepth 20000 in
theorem gX8_trace_X8_in : GoodIn wsX8_trace (va_wsS RX8 55 yX8_in wsX8_in) := goodIn_app (goodIn_of _ (by decide +kernel)) ggX8_trace_X8_in
theorem dX8_trace_0 : decode cX8_trace 0 = .ok (.iload_n 1, 1) := by decide +kernel
theorem dX8_trace_1 : decode cX8_trace 1 = .ok (.i2l, 1) := by decide +kernel
theorem dX8_trace_2 : decode cX8_trace 2 = .ok (.lconst 0, 1) := by decide +kernel
theorem dX8_trace_3 : decode cX8_trace 3 = .ok (.aload_n 0, 1) := by decide +kernel
theorem dX8_trace_4 : decode cX8_trace 4 = .ok (.getfield 244, 3) := by decide +kernel
theorem dX8_trace_7 : decode cX8_trace 7 = .ok (.iconst 1, 1) := by decide +kernel
theorem dX8_trace_8 : decode cX8_trace 8 = .ok (.isub, 1) := by decide +kernel
theorem dX8_trace_9 : decode cX8_trace 9 = .ok (.i2l, 1) := by decide +kernel
theorem dX8_trace_10 : decode cX8_trace 10 = .ok (.invokestatic 55, 3) := by decide +kernel
theorem dX8_trace_13 : decode cX8_trace 13 = .ok (.ifCond .eq 12, 3) := by decide +kernel
theorem dX8_trace_16 : decode cX8_trace 16 = .ok (.aload_n 0, 1) := by decide +kernel
theorem dX8_trace_17 : decode cX8_trace 17 = .ok (.getfield 52, 3) := by decide +kernel
theorem dX8_trace_20 : decode cX8_trace 20 = .ok (.iload_n 1, 1) := by decide +kernel
theorem dX8_trace_21 : decode cX8_trace 21 = .ok (.iaload, 1) := by decide +kernel
theorem dX8_trace_22 : decode cX8_trace 22 = .ok (.goto 5, 3) := by decide +kernel
theorem dX8_trace_25 : decode cX8_trace 25 = .ok (.ldc 163, 2) := by decide +kernel
theorem dX8_trace_27 : decode cX8_trace 27 = .ok (.ireturn, 1) := by decide +kernel
theorem dX8_rowsThere_0 : decode cX8_rowsThere 0 = .ok (.iconst 0, 1) := by decide +kernel
theorem dX8_rowsThere_1 : decode cX8_rowsThere 1 = .ok (.istore_n 1, 1) := by decide +kernel
theorem dX8_rowsThere_2 : decode cX8_rowsThere 2 = .ok (.iconst 0, 1) := by decide +kernel
theorem dX8_rowsThere_3 : decode cX8_rowsThere 3 = .ok (.istore_n 2, 1) := by decide +kernel
theorem dX8_rowsThere_4 : decode cX8_rowsThere 4 = .ok (.iload_n 2, 1) := by decide +kernel
theorem dX8_rowsThere_5 : decode cX8_rowsThere 5 = .ok (.bipush 8, 2) := by decide +kernel
theorem dX8_rowsThere_7 : decode cX8_rowsThere 7 = .ok (.if_icmp .ge 26, 3) := by decide +kernel
theorem dX8_rowsThere_10 : decode cX8_rowsThere 10 = .ok (.iload_n 1, 1) := by decide +kernel
theorem dX8_rowsThere_11 : decode cX8_rowsThere 11 = .ok (.aload_n 0, 1) := by decide +kernel
theorem dX8_rowsThere_12 : decode cX8_rowsThere 12 = .ok (.getfield 16, 3) := by decide +kernel
theorem dX8_rowsThere_15 : decode cX8_rowsThere 15 = .ok (.iload_n 2, 1) := by decide +kernel
theorem dX8_rowsThere_16 : decode cX8_rowsThere 16 = .ok (.iaload, 1) := by decide +kernel
theorem dX8_rowsThere_17 : decode cX8_rowsThere 17 = .ok (.ifCond .lt 7, 3) := by decide +kernel
theorem dX8_rowsThere_20 : decode cX8_rowsThere 20 = .ok (.iconst 1, 1) := by decide +kernel
theorem dX8_rowsThere_21 : decode cX8_rowsThere 21 = .ok (.goto 4, 3) := by decide +kernel
theorem dX8_rowsThere_24 : decode cX8_rowsThere 24 = .ok (.iconst 0, 1) := by decide +kernel
theorem dX8_rowsThere_25 : decode cX8_rowsThere 25 = .ok (.iadd, 1) := by decide +kernel
theorem dX8_rowsThere_26 : decode cX8_rowsThere 26 = .ok (.istore_n 1, 1) := by decide +kernel
theorem dX8_rowsThere_27 : decode cX8_rowsThere 27 = .ok (.iinc 2 1, 3) := by decide +kernel
theorem dX8_rowsThere_30 : decode cX8_rowsThere 30 = .ok (.goto (-26), 3) := by decide +kernel
theorem dX8_rowsThere_33 : decode cX8_rowsThere 33 = .ok (.iload_n 1, 1) := by decide +kernel
theorem dX8_rowsThere_34 : decode cX8_rowsThere 34 = .ok (.ireturn, 1) := by decide +kernel
set_option maxRecDepth 20000 in
theorem ggX8_count_X8_rowsThere : GoodIn wsX8_count wsX8_rowsThere := goodIn_r _ [9, 10, 19, 20, 21, 22, 23, 24, 25, 26, 27, 28, 29, 30, 31, 32, 33, 34, 35, 36, 37, 38, 39, 40, 41] (by decide +kernel) (by decide +kernel)
set_option maxRecDepth 20000 in
theorem gX8_count_X8_rowsThere : GoodIn wsX8_count (wsV RX8 274 RX8 yX8_rowsThere wsX8_rowsThere) := goodIn_app (goodIn_of _ (by decide +kernel)) ggX8_count_X8_rowsThere
set_option maxRecDepth 20000 in
theorem ggX8_count_X8_figures : GoodIn wsX8_count wsX8_figures := goodIn_r _ [14, 1, 19, 20, 21, 22, 23, 24, 25, 26, 27, 28, 29, 30, 31, 32, 33, 34, 35, 36, 37, 38, 39, 40, 41] (by decide +kernel) (by decide +kernel)
set_option maxRecDepth 20000 in
theorem gX8_count_X8_figures : GoodIn wsX8_count (wsV RX8 236 RX8 yX8_figures wsX8_figures) := goodIn_app (goodIn_of _ (by decide +kernel)) ggX8_count_X8_figures
set_option maxRecDepth 20000 in
theorem ggX8_count_X8_noneOf : GoodIn wsX8_count wsX8_noneOf := goodIn_r _ [18, 1, 19, 20, 21, 22, 23, 24, 25, 26, 27, 28, 29, 30, 31, 32, 33, 34, 35, 36, 37, 38, 39, 40, 41] (by decide +kernel) (by decide +kernel)
set_option maxRecDepth 20000 in
theorem gX8_count_X8_noneOf : GoodIn wsX8_count (wsV RX8 204 RX8 yX8_noneOf wsX8_noneOf) := goodIn_app (goodIn_of _ (by decide +kernel)) ggX8_count_X8_noneOf
theorem dX8_count_0 : decode cX8_count 0 = .ok (.iload_n 1, 1) := by decide +kernel
theorem dX8_count_1 : decode cX8_count 1 = .ok (.tableswitch 94 0 7 #[47, 52, 59, 66, 73, 79, 84, 89], 47) := by decide +kernel
theorem dX8_count_48 : decode cX8_count 48 = .ok (.aload_n 0, 1) := by decide +kernel
theorem dX8_count_49 : decode cX8_count 49 = .ok (.invokevirtual 274, 3) := by decide +kernel
theorem dX8_count_52 : decode cX8_count 52 = .ok (.ireturn, 1) := by decide +kernel
theorem dX8_count_53 : decode cX8_count 53 = .ok (.aload_n 0, 1) := by decide +kernel
theorem dX8_count_54 : decode cX8_count 54 = .ok (.getfield 7, 3) := by decide +kernel
theorem dX8_count_57 : decode cX8_count 57 = .ok (.iconst 0, 1) := by decide +kernel
theorem dX8_count_58 : decode cX8_count 58 = .ok (.iaload, 1) := by decide +kernel
theorem dX8_count_59 : decode cX8_count 59 = .ok (.ireturn, 1) := by decide +kernel
theorem dX8_count_60 : decode cX8_count 60 = .ok (.aload_n 0, 1) := by decide +kernel
theorem dX8_count_61 : decode cX8_count 61 = .ok (.getfield 7, 3) := by decide +kernel
theorem dX8_count_64 : decode cX8_count 64 = .ok (.iconst 2, 1) := by decide +kernel
theorem dX8_count_65 : decode cX8_count 65 = .ok (.iaload, 1) := by decide +kernel
theorem dX8_count_66 : decode cX8_count 66 = .ok (.ireturn, 1) := by decide +kernel
theorem dX8_count_67 : decode cX8_count 67 = .ok (.aload_n 0, 1) := by decide +kernel
theorem dX8_count_68 : decode cX8_count 68 = .ok (.getfield 7, 3) := by decide +kernel
theorem dX8_count_71 : decode cX8_count 71 = .ok (.iconst 1, 1) := by decide +kernel
theorem dX8_count_72 : decode cX8_count 72 = .ok (.iaload, 1) := by decide +kernel
theorem dX8_count_73 : decode cX8_count 73 = .ok (.ireturn, 1) := by decide +kernel
theorem dX8_count_74 : decode cX8_count 74 = .ok (.aload_n 0, 1) := by decide +kernel
theorem dX8_count_75 : decode cX8_count 75 = .ok (.iconst 0, 1) := by decide +kernel
theorem dX8_count_76 : decode cX8_count 76 = .ok (.invokevirtual 236, 3) := by decide +kernel
theorem dX8_count_79 : decode cX8_count 79 = .ok (.ireturn, 1) := by decide +kernel
theorem dX8_count_80 : decode cX8_count 80 = .ok (.aload_n 0, 1) := by decide +kernel
theorem dX8_count_81 : decode cX8_count 81 = .ok (.invokevirtual 204, 3) := by decide +kernel
theorem dX8_count_84 : decode cX8_count 84 = .ok (.ireturn, 1) := by decide +kernel
theorem dX8_count_85 : decode cX8_count 85 = .ok (.aload_n 0, 1) := by decide +kernel
theorem dX8_count_86 : decode cX8_count 86 = .ok (.getfield 136, 3) := by decide +kernel
theorem dX8_count_89 : decode cX8_count 89 = .ok (.ireturn, 1) := by decide +kernel
theorem dX8_count_90 : decode cX8_count 90 = .ok (.aload_n 0, 1) := by decide +kernel
theorem dX8_count_91 : decode cX8_count 91 = .ok (.getfield 83, 3) := by decide +kernel
theorem dX8_count_94 : decode cX8_count 94 = .ok (.ireturn, 1) := by decide +kernel
theorem dX8_count_95 : decode cX8_count 95 = .ok (.ldc 72, 2) := by decide +kernel
theorem dX8_count_97 : decode cX8_count 97 = .ok (.ireturn, 1) := by decide +kernel
theorem dX8_status_0 : decode cX8_status 0 = .ok (.aload_n 0, 1) := by decide +kernel
theorem dX8_status_1 : decode cX8_status 1 = .ok (.getfield 61, 3) := by decide +kernel
theorem dX8_status_4 : decode cX8_status 4 = .ok (.ireturn, 1) := by decide +kernel
theorem dJ11_isValidCodePoint_9a6ad_0 : decode cJ11_isValidCodePoint_9a6ad 0 = .ok (.iload_n 0, 1) := by decide +kernel
theorem dJ11_isValidCodePoint_9a6ad_1 : decode cJ11_isValidCodePoint_9a6ad 1 = .ok (.bipush 16, 2) := by decide +kernel
theorem dJ11_isValidCodePoint_9a6ad_3 : decode cJ11_isValidCodePoint_9a6ad 3 = .ok (.iushr, 1) := by decide +kernel
theorem dJ11_isValidCodePoint_9a6ad_4 : decode cJ11_isValidCodePoint_9a6ad 4 = .ok (.istore_n 1, 1) := by decide +kernel
theorem dJ11_isValidCodePoint_9a6ad_5 : decode cJ11_isValidCodePoint_9a6ad 5 = .ok (.iload_n 1, 1) := by decide +kernel
theorem dJ11_isValidCodePoint_9a6ad_6 : decode cJ11_isValidCodePoint_9a6ad 6 = .ok (.bipush 17, 2) := by decide +kernel
theorem dJ11_isValidCodePoint_9a6ad_8 : decode cJ11_isValidCodePoint_9a6ad 8 = .ok (.if_icmp .ge 7, 3) := by decide +kernel
theorem dJ11_isValidCodePoint_9a6ad_11 : decode cJ11_isValidCodePoint_9a6ad 11 = .ok (.iconst 1, 1) := by decide +kernel
theorem dJ11_isValidCodePoint_9a6ad_12 : decode cJ11_isValidCodePoint_9a6ad 12 = .ok (.goto 4, 3) := by decide +kernel
theorem dJ11_isValidCodePoint_9a6ad_15 : decode cJ11_isValidCodePoint_9a6ad 15 = .ok (.iconst 0, 1) := by decide +kernel
theorem dJ11_isValidCodePoint_9a6ad_16 : decode cJ11_isValidCodePoint_9a6ad 16 = .ok (.ireturn, 1) := by decide +kernel
theorem dJ11_highSurrogate_5068e_0 : decode cJ11_highSurrogate_5068e 0 = .ok (.iload_n 0, 1) := by decide +kernel
theorem dJ11_highSurrogate_5068e_1 : decode cJ11_highSurrogate_5068e 1 = .ok (.bipush 10, 2) := by decide +kernel
theorem dJ11_highSurrogate_5068e_3 : decode cJ11_highSurrogate_5068e 3 = .ok (.iushr, 1) := by decide +kernel
theorem dJ11_highSurrogate_5068e_4 : decode cJ11_highSurrogate_5068e 4 = .ok (.ldc 110, 2) := by decide +kernel
theorem dJ11_highSurrogate_5068e_6 : decode cJ11_highSurrogate_5068e 6 = .ok (.iadd, 1) := by decide +kernel
theorem dJ11_highSurrogate_5068e_7 : decode cJ11_highSurrogate_5068e 7 = .ok (.i2c, 1) := by decide +kernel
theorem dJ11_highSurrogate_5068e_8 : decode cJ11_highSurrogate_5068e 8 = .ok (.ireturn, 1) := by decide +kernel
theorem dJ11_lowSurrogate_5068e_0 : decode cJ11_lowSurrogate_5068e 0 = .ok (.iload_n 0, 1) := by decide +kernel
theorem dJ11_lowSurrogate_5068e_1 : decode cJ11_lowSurrogate_5068e 1 = .ok (.sipush 1023, 3) := by decide +kernel
theorem dJ11_lowSurrogate_5068e_4 : decode cJ11_lowSurrogate_5068e 4 = .ok (.iand, 1) := by decide +kernel
theorem dJ11_lowSurrogate_5068e_5 : decode cJ11_lowSurrogate_5068e 5 = .ok (.ldc 76, 2) := by decide +kernel
theorem dJ11_lowSurrogate_5068e_7 : decode cJ11_lowSurrogate_5068e 7 = .ok (.iadd, 1) := by decide +kernel
theorem dJ11_lowSurrogate_5068e_8 : decode cJ11_lowSurrogate_5068e 8 = .ok (.i2c, 1) := by decide +kernel
theorem dJ11_lowSurrogate_5068e_9 : decode cJ11_lowSurrogate_5068e 9 = .ok (.ireturn, 1) := by decide +kernel
theorem dJ6_bitCount_0f7a4_0 : decode cJ6_bitCount_0f7a4 0 = .ok (.iload_n 0, 1) := by decide +kernel
theorem dJ6_bitCount_0f7a4_1 : decode cJ6_bitCount_0f7a4 1 = .ok (.iload_n 0, 1) := by decide +kernel
theorem dJ6_bitCount_0f7a4_2 : decode cJ6_bitCount_0f7a4 2 = .ok (.iconst 1, 1) := by decide +kernel
theorem dJ6_bitCount_0f7a4_3 : decode cJ6_bitCount_0f7a4 3 = .ok (.iushr, 1) := by decide +kernel
theorem dJ6_bitCount_0f7a4_4 : decode cJ6_bitCount_0f7a4 4 = .ok (.ldc_w 265, 3) := by decide +kernel
theorem dJ6_bitCount_0f7a4_7 : decode cJ6_bitCount_0f7a4 7 = .ok (.iand, 1) := by decide +kernel
theorem dJ6_bitCount_0f7a4_8 : decode cJ6_bitCount_0f7a4 8 = .ok (.isub, 1) := by decide +kernel
theorem dJ6_bitCount_0f7a4_9 : decode cJ6_bitCount_0f7a4 9 = .ok (.istore_n 0, 1) := by decide +kernel
theorem dJ6_bitCount_0f7a4_10 : decode cJ6_bitCount_0f7a4 10 = .ok (.iload_n 0, 1) := by decide +kernel
theorem dJ6_bitCount_0f7a4_11 : decode cJ6_bitCount_0f7a4 11 = .ok (.ldc_w 266, 3) := by decide +kernel
theorem dJ6_bitCount_0f7a4_14 : decode cJ6_bitCount_0f7a4 14 = .ok (.iand, 1) := by decide +kernel
theorem dJ6_bitCount_0f7a4_15 : decode cJ6_bitCount_0f7a4 15 = .ok (.iload_n 0, 1) := by decide +kernel
theorem dJ6_bitCount_0f7a4_16 : decode cJ6_bitCount_0f7a4 16 = .ok (.iconst 2, 1) := by decide +kernel
theorem dJ6_bitCount_0f7a4_17 : decode cJ6_bitCount_0f7a4 17 = .ok (.iushr, 1) := by decide +kernel
theorem dJ6_bitCount_0f7a4_18 : decode cJ6_bitCount_0f7a4 18 = .ok (.ldc_w 266, 3) := by decide +kernel
theorem dJ6_bitCount_0f7a4_21 : decode cJ6_bitCount_0f7a4 21 = .ok (.iand, 1) := by decide +kernel
theorem dJ6_bitCount_0f7a4_22 : decode cJ6_bitCount_0f7a4 22 = .ok (.iadd, 1) := by decide +kernel
theorem dJ6_bitCount_0f7a4_23 : decode cJ6_bitCount_0f7a4 23 = .ok (.istore_n 0, 1) := by decide +kernel
theorem dJ6_bitCount_0f7a4_24 : decode cJ6_bitCount_0f7a4 24 = .ok (.iload_n 0, 1) := by decide +kernel
theorem dJ6_bitCount_0f7a4_25 : decode cJ6_bitCount_0f7a4 25 = .ok (.iload_n 0, 1) := by decide +kernel
theorem dJ6_bitCount_0f7a4_26 : decode cJ6_bitCount_0f7a4 26 = .ok (.iconst 4, 1) := by decide +kernel
theorem dJ6_bitCount_0f7a4_27 : decode cJ6_bitCount_0f7a4 27 = .ok (.iushr, 1) := by decide +kernel
theorem dJ6_bitCount_0f7a4_28 : decode cJ6_bitCount_0f7a4 28 = .ok (.iadd, 1) := by decide +kernel
theorem dJ6_bitCount_0f7a4_29 : decode cJ6_bitCount_0f7a4 29 = .ok (.ldc_w 267, 3) := by decide +kernel
theorem dJ6_bitCount_0f7a4_32 : decode cJ6_bitCount_0f7a4 32 = .ok (.iand, 1) := by decide +kernel
theorem dJ6_bitCount_0f7a4_33 : decode cJ6_bitCount_0f7a4 33 = .ok (.istore_n 0, 1) := by decide +kernel
theorem dJ6_bitCount_0f7a4_34 : decode cJ6_bitCount_0f7a4 34 = .ok (.iload_n 0, 1) := by decide +kernel
theorem dJ6_bitCount_0f7a4_35 : decode cJ6_bitCount_0f7a4 35 = .ok (.iload_n 0, 1) := by decide +kernel
theorem dJ6_bitCount_0f7a4_36 : decode cJ6_bitCount_0f7a4 36 = .ok (.bipush 8, 2) := by decide +kernel
theorem dJ6_bitCount_0f7a4_38 : decode cJ6_bitCount_0f7a4 38 = .ok (.iushr, 1) := by decide +kernel
theorem dJ6_bitCount_0f7a4_39 : decode cJ6_bitCount_0f7a4 39 = .ok (.iadd, 1) := by decide +kernel
theorem dJ6_bitCount_0f7a4_40 : decode cJ6_bitCount_0f7a4 40 = .ok (.istore_n 0, 1) := by decide +kernel
theorem dJ6_bitCount_0f7a4_41 : decode cJ6_bitCount_0f7a4 41 = .ok (.iload_n 0, 1) := by decide +kernel
theorem dJ6_bitCount_0f7a4_42 : decode cJ6_bitCount_0f7a4 42 = .ok (.iload_n 0, 1) := by decide +kernel
theorem dJ6_bitCount_0f7a4_43 : decode cJ6_bitCount_0f7a4 43 = .ok (.bipush 16, 2) := by decide +kernel
theorem dJ6_bitCount_0f7a4_45 : decode cJ6_bitCount_0f7a4 45 = .ok (.iushr, 1) := by decide +kernel
theorem dJ6_bitCount_0f7a4_46 : decode cJ6_bitCount_0f7a4 46 = .ok (.iadd, 1) := by decide +kernel
theorem dJ6_bitCount_0f7a4_47 : decode cJ6_bitCount_0f7a4 47 = .ok (.istore_n 0, 1) := by decide +kernel
theorem dJ6_bitCount_0f7a4_48 : decode cJ6_bitCount_0f7a4 48 = .ok (.iload_n 0, 1) := by decide +kernel
theorem dJ6_bitCount_0f7a4_49 : decode cJ6_bitCount_0f7a4 49 = .ok (.bipush 63, 2) := by decide +kernel
theorem dJ6_bitCount_0f7a4_51 : decode cJ6_bitCount_0f7a4 51 = .ok (.iand, 1) := by decide +kernel
theorem dJ6_bitCount_0f7a4_52 : decode cJ6_bitCount_0f7a4 52 = .ok (.ireturn, 1) := by decide +kernel
theorem dJ9_max_7cf53_0 : decode cJ9_max_7cf53 0 = .ok (.iload_n 0, 1) := by decide +kernel
theorem dJ9_max_7cf53_1 : decode cJ9_max_7cf53 1 = .ok (.iload_n 1, 1) := by decide +kernel
theorem dJ9_max_7cf53_2 : decode cJ9_max_7cf53 2 = .ok (.if_icmp .lt 7, 3) := by decide +kernel
theorem dJ9_max_7cf53_5 : decode cJ9_max_7cf53 5 = .ok (.iload_n 0, 1) := by decide +kernel
theorem dJ9_max_7cf53_6 : decode cJ9_max_7cf53 6 = .ok (.goto 4, 3) := by decide +kernel
theorem dJ9_max_7cf53_9 : decode cJ9_max_7cf53 9 = .ok (.iload_n 1, 1) := by decide +kernel
theorem dJ9_max_7cf53_10 : decode cJ9_max_7cf53 10 = .ok (.ireturn, 1) := by decide +kernel
theorem dJ9_min_7cf53_0 : decode cJ9_min_7cf53 0 = .ok (.iload_n 0, 1) := by decide +kernel
theorem dJ9_min_7cf53_1 : decode cJ9_min_7cf53 1 = .ok (.iload_n 1, 1) := by decide +kernel
theorem dJ9_min_7cf53_2 : decode cJ9_min_7cf53 2 = .ok (.if_icmp .gt 7, 3) := by decide +kernel
theorem dJ9_min_7cf53_5 : decode cJ9_min_7cf53 5 = .ok (.iload_n 0, 1) := by decide +kernel
theorem dJ9_min_7cf53_6 : decode cJ9_min_7cf53 6 = .ok (.goto 4, 3) := by decide +kernel
theorem dJ9_min_7cf53_9 : decode cJ9_min_7cf53 9 = .ok (.iload_n 1, 1) := by decide +kernel
theorem dJ9_min_7cf53_10 : decode cJ9_min_7cf53 10 = .ok (.ireturn, 1) := by decide +kernel
set_option maxRecDepth 20000 in
theorem ggJ0_length_8abf5_J0_coder_7d493 : GoodIn wsJ0_length_8abf5 wsJ0_coder_7d493 := goodIn_r _ [6, 7, 8] (by decide +kernel) (by decide +kernel)
set_option maxRecDepth 20000 in
theorem gJ0_length_8abf5_J0_coder_7d493 : GoodIn wsJ0_length_8abf5 (wsV RJ0 335 RJ0 yJ0_coder_7d493 wsJ0_coder_7d493) := goodIn_app (goodIn_of _ (by decide +kernel)) ggJ0_length_8abf5_J0_coder_7d493
theorem dJ0_length_8abf5_0 : decode cJ0_length_8abf5 0 = .ok (.aload_n 0, 1) := by decide +kernel
theorem dJ0_length_8abf5_1 : decode cJ0_length_8abf5 1 = .ok (.getfield 9, 3) := by decide +kernel
theorem dJ0_length_8abf5_4 : decode cJ0_length_8abf5 4 = .ok (.arraylength, 1) := by decide +kernel
theorem dJ0_length_8abf5_5 : decode cJ0_length_8abf5 5 = .ok (.aload_n 0, 1) := by decide +kernel
theorem dJ0_length_8abf5_6 : decode cJ0_length_8abf5 6 = .ok (.invokevirtual 335, 3) := by decide +kernel
theorem dJ0_length_8abf5_9 : decode cJ0_length_8abf5 9 = .ok (.ishr, 1) := by decide +kernel
theorem dJ0_length_8abf5_10 : decode cJ0_length_8abf5 10 = .ok (.ireturn, 1) := by decide +kernel
set_option maxRecDepth 20000 in
theorem ggJ0_indexOf_0f7a4_J0_indexOf_7cf53 : GoodIn wsJ0_indexOf_0f7a4 wsJ0_indexOf_7cf53 := goodIn_r _ [5, 6, 7, 8, 9, 4, 10, 11, 12, 13, 14, 15, 16, 17, 18, 19, 20, 21, 22, 23, 24, 25, 26, 27, 28, 29, 30, 31, 32, 33, 34, 35, 36, 37, 38, 39, 40, 41, 42, 43, 44, 45, 46, 47, 48, 49, 50, 51, 52, 53, 54, 55, 56, 57, 58, 59, 60, 61, 62, 63, 64, 65, 66, 67, 68, 69, 70, 71, 72, 73, 74, 75, 76, 77, 78, 79, 80, 81, 82, 83, 84, 85] (by decide +kernel) (by decide +kernel)
set_option maxRecDepth 20000 in
theorem gJ0_indexOf_0f7a4_J0_indexOf_7cf53 : GoodIn wsJ0_indexOf_0f7a4 (wsV RJ0 633 RJ0 yJ0_indexOf_7cf53 wsJ0_indexOf_7cf53) := goodIn_app (goodIn_of _ (by decide +kernel)) ggJ0_indexOf_0f7a4_J0_indexOf_7cf53
theorem dJ0_indexOf_0f7a4_0 : decode cJ0_indexOf_0f7a4 0 = .ok (.aload_n 0, 1) := by decide +kernel
theorem dJ0_indexOf_0f7a4_1 : decode cJ0_indexOf_0f7a4 1 = .ok (.iload_n 1, 1) := by decide +kernel
theorem dJ0_indexOf_0f7a4_2 : decode cJ0_indexOf_0f7a4 2 = .ok (.iconst 0, 1) := by decide +kernel
theorem dJ0_indexOf_0f7a4_3 : decode cJ0_indexOf_0f7a4 3 = .ok (.invokevirtual 633, 3) := by decide +kernel
theorem dJ0_indexOf_0f7a4_6 : decode cJ0_indexOf_0f7a4 6 = .ok (.ireturn, 1) := by decide +kernel
set_option maxRecDepth 20000 in
theorem ggJ0_indexOf_7cf53_J0_isLatin1_aae02 : GoodIn wsJ0_indexOf_7cf53 wsJ0_isLatin1_aae02 := goodIn_r _ [6, 7, 8] (by decide +kernel) (by decide +kernel)
set_option maxRecDepth 20000 in
theorem gJ0_indexOf_7cf53_J0_isLatin1_aae02 : GoodIn wsJ0_indexOf_7cf53 (wsV RJ0 492 RJ0 yJ0_isLatin1_aae02 wsJ0_isLatin1_aae02) := goodIn_app (goodIn_of _ (by decide +kernel)) ggJ0_indexOf_7cf53_J0_isLatin1_aae02
set_option maxRecDepth 20000 in
theorem ggJ0_indexOf_7cf53_J0_length_8abf5 : GoodIn wsJ0_indexOf_7cf53 wsJ0_length_8abf5 := goodIn_r _ [12, 1, 13, 14, 15, 5, 16, 7, 8] (by decide +kernel) (by decide +kernel)
set_option maxRecDepth 20000 in
theorem gJ0_indexOf_7cf53_J0_length_8abf5 : GoodIn wsJ0_indexOf_7cf53 (wsV RJ0 505 RJ0 yJ0_length_8abf5 wsJ0_length_8abf5) := goodIn_app (goodIn_of _ (by decide +kernel)) ggJ0_indexOf_7cf53_J0_length_8abf5
set_option maxRecDepth 20000 in
theorem ggJ0_indexOf_7cf53_J1_indexOf_4cfef : GoodIn wsJ0_indexOf_7cf53 wsJ1_indexOf_4cfef := goodIn_r _ [20, 21, 22, 23, 24, 25, 26, 27, 28, 29, 19, 30, 31, 32, 33] (by decide +kernel) (by decide +kernel)
set_option maxRecDepth 20000 in
theorem gJ0_indexOf_7cf53_J1_indexOf_4cfef : GoodIn wsJ0_indexOf_7cf53 (va_wsS RJ0 637 yJ1_indexOf_4cfef wsJ1_indexOf_4cfef) := goodIn_app (goodIn_of _ (by decide +kernel)) ggJ0_indexOf_7cf53_J1_indexOf_4cfef
set_option maxRecDepth 20000 in
theorem ggJ0_indexOf_7cf53_J2_indexOf_4cfef : GoodIn wsJ0_indexOf_7cf53 wsJ2_indexOf_4cfef := goodIn_r _ [37, 38, 22, 23, 24, 39, 26, 27, 40, 41, 42, 36, 43, 44, 45, 46, 47, 48, 49, 50, 51, 5, 52, 53, 54, 55, 56, 57, 58, 59, 60, 61, 62, 63, 64, 65, 66, 67, 68, 69, 70, 71, 72, 73, 74, 75, 76, 77, 78, 79, 80, 81] (by decide +kernel) (by decide +kernel)
set_option maxRecDepth 20000 in
theorem gJ0_indexOf_7cf53_J2_indexOf_4cfef : GoodIn wsJ0_indexOf_7cf53 (va_wsS RJ0 640 yJ2_indexOf_4cfef wsJ2_indexOf_4cfef) := goodIn_app (goodIn_of _ (by decide +kernel)) ggJ0_indexOf_7cf53_J2_indexOf_4cfef
theorem dJ0_indexOf_7cf53_0 : decode cJ0_indexOf_7cf53 0 = .ok (.aload_n 0, 1) := by decide +kernel
theorem dJ0_indexOf_7cf53_1 : decode cJ0_indexOf_7cf53 1 = .ok (.invokevirtual 492, 3) := by decide +kernel
theorem dJ0_indexOf_7cf53_4 : decode cJ0_indexOf_7cf53 4 = .ok (.ifCond .eq 19, 3) := by decide +kernel
theorem dJ0_indexOf_7cf53_7 : decode cJ0_indexOf_7cf53 7 = .ok (.aload_n 0, 1) := by decide +kernel
theorem dJ0_indexOf_7cf53_8 : decode cJ0_indexOf_7cf53 8 = .ok (.getfield 9, 3) := by decide +kernel
theorem dJ0_indexOf_7cf53_11 : decode cJ0_indexOf_7cf53 11 = .ok (.iload_n 1, 1) := by decide +kernel
theorem dJ0_indexOf_7cf53_12 : decode cJ0_indexOf_7cf53 12 = .ok (.iload_n 2, 1) := by decide +kernel
theorem dJ0_indexOf_7cf53_13 : decode cJ0_indexOf_7cf53 13 = .ok (.aload_n 0, 1) := by decide +kernel
theorem dJ0_indexOf_7cf53_14 : decode cJ0_indexOf_7cf53 14 = .ok (.invokevirtual 505, 3) := by decide +kernel
theorem dJ0_indexOf_7cf53_17 : decode cJ0_indexOf_7cf53 17 = .ok (.invokestatic 637, 3) := by decide +kernel
theorem dJ0_indexOf_7cf53_20 : decode cJ0_indexOf_7cf53 20 = .ok (.goto 16, 3) := by decide +kernel
theorem dJ0_indexOf_7cf53_23 : decode cJ0_indexOf_7cf53 23 = .ok (.aload_n 0, 1) := by decide +kernel
theorem dJ0_indexOf_7cf53_24 : decode cJ0_indexOf_7cf53 24 = .ok (.getfield 9, 3) := by decide +kernel
theorem dJ0_indexOf_7cf53_27 : decode cJ0_indexOf_7cf53 27 = .ok (.iload_n 1, 1) := by decide +kernel
theorem dJ0_indexOf_7cf53_28 : decode cJ0_indexOf_7cf53 28 = .ok (.iload_n 2, 1) := by decide +kernel
theorem dJ0_indexOf_7cf53_29 : decode cJ0_indexOf_7cf53 29 = .ok (.aload_n 0, 1) := by decide +kernel
theorem dJ0_indexOf_7cf53_30 : decode cJ0_indexOf_7cf53 30 = .ok (.invokevirtual 505, 3) := by decide +kernel
theorem dJ0_indexOf_7cf53_33 : decode cJ0_indexOf_7cf53 33 = .ok (.invokestatic 640, 3) := by decide +kernel
theorem dJ0_indexOf_7cf53_36 : decode cJ0_indexOf_7cf53 36 = .ok (.ireturn, 1) := by decide +kernel
theorem dJ0_coder_7d493_0 : decode cJ0_coder_7d493 0 = .ok (.getstatic 38, 3) := by decide +kernel
theorem dJ0_coder_7d493_3 : decode cJ0_coder_7d493 3 = .ok (.ifCond .eq 10, 3) := by decide +kernel
theorem dJ0_coder_7d493_6 : decode cJ0_coder_7d493 6 = .ok (.aload_n 0, 1) := by decide +kernel
theorem dJ0_coder_7d493_7 : decode cJ0_coder_7d493 7 = .ok (.getfield 15, 3) := by decide +kernel
theorem dJ0_coder_7d493_10 : decode cJ0_coder_7d493 10 = .ok (.goto 4, 3) := by decide +kernel
theorem dJ0_coder_7d493_13 : decode cJ0_coder_7d493 13 = .ok (.iconst 1, 1) := by decide +kernel
theorem dJ0_coder_7d493_14 : decode cJ0_coder_7d493 14 = .ok (.ireturn, 1) := by decide +kernel
theorem dJ0_isLatin1_aae02_0 : decode cJ0_isLatin1_aae02 0 = .ok (.getstatic 38, 3) := by decide +kernel
theorem dJ0_isLatin1_aae02_3 : decode cJ0_isLatin1_aae02 3 = .ok (.ifCond .eq 14, 3) := by decide +kernel
theorem dJ0_isLatin1_aae02_6 : decode cJ0_isLatin1_aae02 6 = .ok (.aload_n 0, 1) := by decide +kernel
theorem dJ0_isLatin1_aae02_7 : decode cJ0_isLatin1_aae02 7 = .ok (.getfield 15, 3) := by decide +kernel
theorem dJ0_isLatin1_aae02_10 : decode cJ0_isLatin1_aae02 10 = .ok (.ifCond .ne 7, 3) := by decide +kernel
theorem dJ0_isLatin1_aae02_13 : decode cJ0_isLatin1_aae02 13 = .ok (.iconst 1, 1) := by decide +kernel
theorem dJ0_isLatin1_aae02_14 : decode cJ0_isLatin1_aae02 14 = .ok (.goto 4, 3) := by decide +kernel
theorem dJ0_isLatin1_aae02_17 : decode cJ0_isLatin1_aae02 17 = .ok (.iconst 0, 1) := by decide +kernel
theorem dJ0_isLatin1_aae02_18 : decode cJ0_isLatin1_aae02 18 = .ok (.ireturn, 1) := by decide +kernel
set_option maxRecDepth 20000 in
theorem ggJ0_checkBoundsBeginEnd_23922_J3_checkFromToIndex_8c36e : GoodIn wsJ0_checkBoundsBeginEnd_23922 wsJ3_checkFromToIndex_8c36e := goodIn_r _ [5] (by decide +kernel) (by decide +kernel)
set_option maxRecDepth 20000 in
theorem gJ0_checkBoundsBeginEnd_23922_J3_checkFromToIndex_8c36e : GoodIn wsJ0_checkBoundsBeginEnd_23922 (va_wsS RJ0 1062 yJ3_checkFromToIndex_8c36e wsJ3_checkFromToIndex_8c36e) := goodIn_app (goodIn_of _ (by decide +kernel)) ggJ0_checkBoundsBeginEnd_23922_J3_checkFromToIndex_8c36e
theorem dJ0_checkBoundsBeginEnd_23922_0 : decode cJ0_checkBoundsBeginEnd_23922 0 = .ok (.iload_n 0, 1) := by decide +kernel
theorem dJ0_checkBoundsBeginEnd_23922_1 : decode cJ0_checkBoundsBeginEnd_23922 1 = .ok (.iload_n 1, 1) := by decide +kernel
theorem dJ0_checkBoundsBeginEnd_23922_2 : decode cJ0_checkBoundsBeginEnd_23922 2 = .ok (.iload_n 2, 1) := by decide +kernel
theorem dJ0_checkBoundsBeginEnd_23922_3 : decode cJ0_checkBoundsBeginEnd_23922 3 = .ok (.getstatic 1053, 3) := by decide +kernel
theorem dJ0_checkBoundsBeginEnd_23922_6 : decode cJ0_checkBoundsBeginEnd_23922 6 = .ok (.invokestatic 1062, 3) := by decide +kernel
theorem dJ0_checkBoundsBeginEnd_23922_9 : decode cJ0_checkBoundsBeginEnd_23922 9 = .ok (.pop, 1) := by decide +kernel
theorem dJ0_checkBoundsBeginEnd_23922_10 : decode cJ0_checkBoundsBeginEnd_23922 10 = .ok (.return_, 1) := by decide +kernel
theorem dJ1_canEncode_9a6ad_0 : decode cJ1_canEncode_9a6ad 0 = .ok (.iload_n 0, 1) := by decide +kernel
theorem dJ1_canEncode_9a6ad_1 : decode cJ1_canEncode_9a6ad 1 = .ok (.ifCond .lt 14, 3) := by decide +kernel
theorem dJ1_canEncode_9a6ad_4 : decode cJ1_canEncode_9a6ad 4 = .ok (.iload_n 0, 1) := by decide +kernel
theorem dJ1_canEncode_9a6ad_5 : decode cJ1_canEncode_9a6ad 5 = .ok (.sipush 255, 3) := by decide +kernel
theorem dJ1_canEncode_9a6ad_8 : decode cJ1_canEncode_9a6ad 8 = .ok (.if_icmp .gt 7, 3) := by decide +kernel
theorem dJ1_canEncode_9a6ad_11 : decode cJ1_canEncode_9a6ad 11 = .ok (.iconst 1, 1) := by decide +kernel
theorem dJ1_canEncode_9a6ad_12 : decode cJ1_canEncode_9a6ad 12 = .ok (.goto 4, 3) := by decide +kernel
theorem dJ1_canEncode_9a6ad_15 : decode cJ1_canEncode_9a6ad 15 = .ok (.iconst 0, 1) := by decide +kernel
theorem dJ1_canEncode_9a6ad_16 : decode cJ1_canEncode_9a6ad 16 = .ok (.ireturn, 1) := by decide +kernel
set_option maxRecDepth 20000 in
theorem ggJ1_indexOf_4cfef_J1_canEncode_9a6ad : GoodIn wsJ1_indexOf_4cfef wsJ1_canEncode_9a6ad := goodIn_r _ [11] (by decide +kernel) (by decide +kernel)
set_option maxRecDepth 20000 in
theorem gJ1_indexOf_4cfef_J1_canEncode_9a6ad : GoodIn wsJ1_indexOf_4cfef (va_wsS RJ1 88 yJ1_canEncode_9a6ad wsJ1_canEncode_9a6ad) := goodIn_app (goodIn_of _ (by decide +kernel)) ggJ1_indexOf_4cfef_J1_canEncode_9a6ad
set_option maxRecDepth 20000 in
theorem ggJ1_indexOf_4cfef_J1_indexOfChar_4cfef : GoodIn wsJ1_indexOf_4cfef wsJ1_indexOfChar_4cfef := goodIn_r _ [14] (by decide +kernel) (by decide +kernel)
set_option maxRecDepth 20000 in
theorem gJ1_indexOf_4cfef_J1_indexOfChar_4cfef : GoodIn wsJ1_indexOf_4cfef (va_wsS RJ1 95 yJ1_indexOfChar_4cfef wsJ1_indexOfChar_4cfef) := goodIn_app (goodIn_of _ (by decide +kernel)) ggJ1_indexOf_4cfef_J1_indexOfChar_4cfef
theorem dJ1_indexOf_4cfef_0 : decode cJ1_indexOf_4cfef 0 = .ok (.iload_n 1, 1) := by decide +kernel
theorem dJ1_indexOf_4cfef_1 : decode cJ1_indexOf_4cfef 1 = .ok (.invokestatic 88, 3) := by decide +kernel
theorem dJ1_indexOf_4cfef_4 : decode cJ1_indexOf_4cfef 4 = .ok (.ifCond .ne 5, 3) := by decide +kernel
theorem dJ1_indexOf_4cfef_7 : decode cJ1_indexOf_4cfef 7 = .ok (.iconst (-1), 1) := by decide +kernel
theorem dJ1_indexOf_4cfef_8 : decode cJ1_indexOf_4cfef 8 = .ok (.ireturn, 1) := by decide +kernel
theorem dJ1_indexOf_4cfef_9 : decode cJ1_indexOf_4cfef 9 = .ok (.iload_n 2, 1) := by decide +kernel
theorem dJ1_indexOf_4cfef_10 : decode cJ1_indexOf_4cfef 10 = .ok (.iconst 0, 1) := by decide +kernel
theorem dJ1_indexOf_4cfef_11 : decode cJ1_indexOf_4cfef 11 = .ok (.invokestatic 92, 3) := by decide +kernel
theorem dJ1_indexOf_4cfef_14 : decode cJ1_indexOf_4cfef 14 = .ok (.istore_n 2, 1) := by decide +kernel
theorem dJ1_indexOf_4cfef_15 : decode cJ1_indexOf_4cfef 15 = .ok (.iload_n 3, 1) := by decide +kernel
theorem dJ1_indexOf_4cfef_16 : decode cJ1_indexOf_4cfef 16 = .ok (.aload_n 0, 1) := by decide +kernel
theorem dJ1_indexOf_4cfef_17 : decode cJ1_indexOf_4cfef 17 = .ok (.arraylength, 1) := by decide +kernel
theorem dJ1_indexOf_4cfef_18 : decode cJ1_indexOf_4cfef 18 = .ok (.invokestatic 38, 3) := by decide +kernel
theorem dJ1_indexOf_4cfef_21 : decode cJ1_indexOf_4cfef 21 = .ok (.istore_n 3, 1) := by decide +kernel
theorem dJ1_indexOf_4cfef_22 : decode cJ1_indexOf_4cfef 22 = .ok (.iload_n 2, 1) := by decide +kernel
theorem dJ1_indexOf_4cfef_23 : decode cJ1_indexOf_4cfef 23 = .ok (.iload_n 3, 1) := by decide +kernel
theorem dJ1_indexOf_4cfef_24 : decode cJ1_indexOf_4cfef 24 = .ok (.if_icmp .lt 5, 3) := by decide +kernel
theorem dJ1_indexOf_4cfef_27 : decode cJ1_indexOf_4cfef 27 = .ok (.iconst (-1), 1) := by decide +kernel
theorem dJ1_indexOf_4cfef_28 : decode cJ1_indexOf_4cfef 28 = .ok (.ireturn, 1) := by decide +kernel
theorem dJ1_indexOf_4cfef_29 : decode cJ1_indexOf_4cfef 29 = .ok (.aload_n 0, 1) := by decide +kernel
theorem dJ1_indexOf_4cfef_30 : decode cJ1_indexOf_4cfef 30 = .ok (.iload_n 1, 1) := by decide +kernel
theorem dJ1_indexOf_4cfef_31 : decode cJ1_indexOf_4cfef 31 = .ok (.iload_n 2, 1) := by decide +kernel
theorem dJ1_indexOf_4cfef_32 : decode cJ1_indexOf_4cfef 32 = .ok (.iload_n 3, 1) := by decide +kernel
theorem dJ1_indexOf_4cfef_33 : decode cJ1_indexOf_4cfef 33 = .ok (.invokestatic 95, 3) := by decide +kernel
theorem dJ1_indexOf_4cfef_36 : decode cJ1_indexOf_4cfef 36 = .ok (.ireturn, 1) := by decide +kernel
theorem dJ1_indexOfChar_4cfef_0 : decode cJ1_indexOfChar_4cfef 0 = .ok (.iload_n 1, 1) := by decide +kernel
theorem dJ1_indexOfChar_4cfef_1 : decode cJ1_indexOfChar_4cfef 1 = .ok (.i2b, 1) := by decide +kernel
theorem dJ1_indexOfChar_4cfef_2 : decode cJ1_indexOfChar_4cfef 2 = .ok (.istore 4, 2) := by decide +kernel
theorem dJ1_indexOfChar_4cfef_4 : decode cJ1_indexOfChar_4cfef 4 = .ok (.iload_n 2, 1) := by decide +kernel
theorem dJ1_indexOfChar_4cfef_5 : decode cJ1_indexOfChar_4cfef 5 = .ok (.istore 5, 2) := by decide +kernel
theorem dJ1_indexOfChar_4cfef_7 : decode cJ1_indexOfChar_4cfef 7 = .ok (.iload 5, 2) := by decide +kernel
theorem dJ1_indexOfChar_4cfef_9 : decode cJ1_indexOfChar_4cfef 9 = .ok (.iload_n 3, 1) := by decide +kernel
theorem dJ1_indexOfChar_4cfef_10 : decode cJ1_indexOfChar_4cfef 10 = .ok (.if_icmp .ge 21, 3) := by decide +kernel
theorem dJ1_indexOfChar_4cfef_13 : decode cJ1_indexOfChar_4cfef 13 = .ok (.aload_n 0, 1) := by decide +kernel
theorem dJ1_indexOfChar_4cfef_14 : decode cJ1_indexOfChar_4cfef 14 = .ok (.iload 5, 2) := by decide +kernel
theorem dJ1_indexOfChar_4cfef_16 : decode cJ1_indexOfChar_4cfef 16 = .ok (.baload, 1) := by decide +kernel
theorem dJ1_indexOfChar_4cfef_17 : decode cJ1_indexOfChar_4cfef 17 = .ok (.iload 4, 2) := by decide +kernel
theorem dJ1_indexOfChar_4cfef_19 : decode cJ1_indexOfChar_4cfef 19 = .ok (.if_icmp .ne 6, 3) := by decide +kernel
theorem dJ1_indexOfChar_4cfef_22 : decode cJ1_indexOfChar_4cfef 22 = .ok (.iload 5, 2) := by decide +kernel
theorem dJ1_indexOfChar_4cfef_24 : decode cJ1_indexOfChar_4cfef 24 = .ok (.ireturn, 1) := by decide +kernel
theorem dJ1_indexOfChar_4cfef_25 : decode cJ1_indexOfChar_4cfef 25 = .ok (.iinc 5 1, 3) := by decide +kernel
theorem dJ1_indexOfChar_4cfef_28 : decode cJ1_indexOfChar_4cfef 28 = .ok (.goto (-21), 3) := by decide +kernel
theorem dJ1_indexOfChar_4cfef_31 : decode cJ1_indexOfChar_4cfef 31 = .ok (.iconst (-1), 1) := by decide +kernel
theorem dJ1_indexOfChar_4cfef_32 : decode cJ1_indexOfChar_4cfef 32 = .ok (.ireturn, 1) := by decide +kernel
set_option maxRecDepth 20000 in
theorem ggJ2_getChar_3b067_J2_length_9d52b : GoodIn wsJ2_getChar_3b067 wsJ2_length_9d52b := goodIn_r _ [7] (by decide +kernel) (by decide +kernel)
set_option maxRecDepth 20000 in
theorem gJ2_getChar_3b067_J2_length_9d52b : GoodIn wsJ2_getChar_3b067 (va_wsS RJ2 48 yJ2_length_9d52b wsJ2_length_9d52b) := goodIn_app (goodIn_of _ (by decide +kernel)) ggJ2_getChar_3b067_J2_length_9d52b
theorem dJ2_getChar_3b067_0 : decode cJ2_getChar_3b067 0 = .ok (.getstatic 44, 3) := by decide +kernel
theorem dJ2_getChar_3b067_3 : decode cJ2_getChar_3b067 3 = .ok (.ifCond .ne 25, 3) := by decide +kernel
theorem dJ2_getChar_3b067_6 : decode cJ2_getChar_3b067 6 = .ok (.iload_n 1, 1) := by decide +kernel
theorem dJ2_getChar_3b067_7 : decode cJ2_getChar_3b067 7 = .ok (.ifCond .lt 11, 3) := by decide +kernel
theorem dJ2_getChar_3b067_10 : decode cJ2_getChar_3b067 10 = .ok (.iload_n 1, 1) := by decide +kernel
theorem dJ2_getChar_3b067_11 : decode cJ2_getChar_3b067 11 = .ok (.aload_n 0, 1) := by decide +kernel
theorem dJ2_getChar_3b067_12 : decode cJ2_getChar_3b067 12 = .ok (.invokestatic 48, 3) := by decide +kernel
theorem dJ2_getChar_3b067_15 : decode cJ2_getChar_3b067 15 = .ok (.if_icmp .lt 13, 3) := by decide +kernel
theorem dJ2_getChar_3b067_18 : decode cJ2_getChar_3b067 18 = .ok (.new 52, 3) := by decide +kernel
theorem dJ2_getChar_3b067_21 : decode cJ2_getChar_3b067 21 = .ok (.dup, 1) := by decide +kernel
theorem dJ2_getChar_3b067_22 : decode cJ2_getChar_3b067 22 = .ok (.ldc 54, 2) := by decide +kernel
theorem dJ2_getChar_3b067_24 : decode cJ2_getChar_3b067 24 = .ok (.invokespecial 56, 3) := by decide +kernel
theorem dJ2_getChar_3b067_27 : decode cJ2_getChar_3b067 27 = .ok (.athrow, 1) := by decide +kernel
theorem dJ2_getChar_3b067_28 : decode cJ2_getChar_3b067 28 = .ok (.iload_n 1, 1) := by decide +kernel
theorem dJ2_getChar_3b067_29 : decode cJ2_getChar_3b067 29 = .ok (.iconst 1, 1) := by decide +kernel
theorem dJ2_getChar_3b067_30 : decode cJ2_getChar_3b067 30 = .ok (.ishl, 1) := by decide +kernel
theorem dJ2_getChar_3b067_31 : decode cJ2_getChar_3b067 31 = .ok (.istore_n 1, 1) := by decide +kernel
theorem dJ2_getChar_3b067_32 : decode cJ2_getChar_3b067 32 = .ok (.aload_n 0, 1) := by decide +kernel
theorem dJ2_getChar_3b067_33 : decode cJ2_getChar_3b067 33 = .ok (.iload_n 1, 1) := by decide +kernel
theorem dJ2_getChar_3b067_34 : decode cJ2_getChar_3b067 34 = .ok (.iinc 1 1, 3) := by decide +kernel
theorem dJ2_getChar_3b067_37 : decode cJ2_getChar_3b067 37 = .ok (.baload, 1) := by decide +kernel
theorem dJ2_getChar_3b067_38 : decode cJ2_getChar_3b067 38 = .ok (.sipush 255, 3) := by decide +kernel
theorem dJ2_getChar_3b067_41 : decode cJ2_getChar_3b067 41 = .ok (.iand, 1) := by decide +kernel
theorem dJ2_getChar_3b067_42 : decode cJ2_getChar_3b067 42 = .ok (.getstatic 59, 3) := by decide +kernel
theorem dJ2_getChar_3b067_45 : decode cJ2_getChar_3b067 45 = .ok (.ishl, 1) := by decide +kernel
theorem dJ2_getChar_3b067_46 : decode cJ2_getChar_3b067 46 = .ok (.aload_n 0, 1) := by decide +kernel
theorem dJ2_getChar_3b067_47 : decode cJ2_getChar_3b067 47 = .ok (.iload_n 1, 1) := by decide +kernel
theorem dJ2_getChar_3b067_48 : decode cJ2_getChar_3b067 48 = .ok (.baload, 1) := by decide +kernel
theorem dJ2_getChar_3b067_49 : decode cJ2_getChar_3b067 49 = .ok (.sipush 255, 3) := by decide +kernel
theorem dJ2_getChar_3b067_52 : decode cJ2_getChar_3b067 52 = .ok (.iand, 1) := by decide +kernel
theorem dJ2_getChar_3b067_53 : decode cJ2_getChar_3b067 53 = .ok (.getstatic 63, 3) := by decide +kernel
theorem dJ2_getChar_3b067_56 : decode cJ2_getChar_3b067 56 = .ok (.ishl, 1) := by decide +kernel
theorem dJ2_getChar_3b067_57 : decode cJ2_getChar_3b067 57 = .ok (.ior, 1) := by decide +kernel
theorem dJ2_getChar_3b067_58 : decode cJ2_getChar_3b067 58 = .ok (.i2c, 1) := by decide +kernel
theorem dJ2_getChar_3b067_59 : decode cJ2_getChar_3b067 59 = .ok (.ireturn, 1) := by decide +kernel
theorem dJ2_length_9d52b_0 : decode cJ2_length_9d52b 0 = .ok (.aload_n 0, 1) := by decide +kernel
theorem dJ2_length_9d52b_1 : decode cJ2_length_9d52b 1 = .ok (.arraylength, 1) := by decide +kernel
theorem dJ2_length_9d52b_2 : decode cJ2_length_9d52b 2 = .ok (.iconst 1, 1) := by decide +kernel
theorem dJ2_length_9d52b_3 : decode cJ2_length_9d52b 3 = .ok (.ishr, 1) := by decide +kernel
theorem dJ2_length_9d52b_4 : decode cJ2_length_9d52b 4 = .ok (.ireturn, 1) := by decide +kernel
set_option maxRecDepth 20000 in
theorem ggJ2_indexOf_4cfef_J2_indexOfChar_4cfef : GoodIn wsJ2_indexOf_4cfef wsJ2_indexOfChar_4cfef := goodIn_r _ [12, 13, 14, 11, 15, 16, 17, 18, 19, 20, 21, 22, 23, 24, 25, 26, 27, 28, 29, 30, 31, 32, 33, 34, 35, 36] (by decide +kernel) (by decide +kernel)
set_option maxRecDepth 20000 in
theorem gJ2_indexOf_4cfef_J2_indexOfChar_4cfef : GoodIn wsJ2_indexOf_4cfef (va_wsS RJ2 228 yJ2_indexOfChar_4cfef wsJ2_indexOfChar_4cfef) := goodIn_app (goodIn_of _ (by decide +kernel)) ggJ2_indexOf_4cfef_J2_indexOfChar_4cfef
set_option maxRecDepth 20000 in
theorem ggJ2_indexOf_4cfef_J2_indexOfSupplementary_4cfef : GoodIn wsJ2_indexOf_4cfef wsJ2_indexOfSupplementary_4cfef := goodIn_r _ [39, 40, 41, 42, 43, 44, 45, 46, 47, 48, 49, 50, 51, 13, 14, 11, 15, 16, 17, 18, 19, 20, 21, 22, 23, 24, 25, 26, 27, 31, 32, 33, 34, 35, 36] (by decide +kernel) (by decide +kernel)
set_option maxRecDepth 20000 in
theorem gJ2_indexOf_4cfef_J2_indexOfSupplementary_4cfef : GoodIn wsJ2_indexOf_4cfef (va_wsS RJ2 232 yJ2_indexOfSupplementary_4cfef wsJ2_indexOfSupplementary_4cfef) := goodIn_app (goodIn_of _ (by decide +kernel)) ggJ2_indexOf_4cfef_J2_indexOfSupplementary_4cfef
theorem dJ2_indexOf_4cfef_0 : decode cJ2_indexOf_4cfef 0 = .ok (.iload_n 2, 1) := by decide +kernel
theorem dJ2_indexOf_4cfef_1 : decode cJ2_indexOf_4cfef 1 = .ok (.iconst 0, 1) := by decide +kernel
theorem dJ2_indexOf_4cfef_2 : decode cJ2_indexOf_4cfef 2 = .ok (.invokestatic 224, 3) := by decide +kernel
theorem dJ2_indexOf_4cfef_5 : decode cJ2_indexOf_4cfef 5 = .ok (.istore_n 2, 1) := by decide +kernel
theorem dJ2_indexOf_4cfef_6 : decode cJ2_indexOf_4cfef 6 = .ok (.iload_n 3, 1) := by decide +kernel
theorem dJ2_indexOf_4cfef_7 : decode cJ2_indexOf_4cfef 7 = .ok (.aload_n 0, 1) := by decide +kernel
theorem dJ2_indexOf_4cfef_8 : decode cJ2_indexOf_4cfef 8 = .ok (.arraylength, 1) := by decide +kernel
theorem dJ2_indexOf_4cfef_9 : decode cJ2_indexOf_4cfef 9 = .ok (.iconst 1, 1) := by decide +kernel
theorem dJ2_indexOf_4cfef_10 : decode cJ2_indexOf_4cfef 10 = .ok (.ishr, 1) := by decide +kernel
theorem dJ2_indexOf_4cfef_11 : decode cJ2_indexOf_4cfef 11 = .ok (.invokestatic 183, 3) := by decide +kernel
theorem dJ2_indexOf_4cfef_14 : decode cJ2_indexOf_4cfef 14 = .ok (.istore_n 3, 1) := by decide +kernel
theorem dJ2_indexOf_4cfef_15 : decode cJ2_indexOf_4cfef 15 = .ok (.iload_n 2, 1) := by decide +kernel
theorem dJ2_indexOf_4cfef_16 : decode cJ2_indexOf_4cfef 16 = .ok (.iload_n 3, 1) := by decide +kernel
theorem dJ2_indexOf_4cfef_17 : decode cJ2_indexOf_4cfef 17 = .ok (.if_icmp .lt 5, 3) := by decide +kernel
theorem dJ2_indexOf_4cfef_20 : decode cJ2_indexOf_4cfef 20 = .ok (.iconst (-1), 1) := by decide +kernel
theorem dJ2_indexOf_4cfef_21 : decode cJ2_indexOf_4cfef 21 = .ok (.ireturn, 1) := by decide +kernel
theorem dJ2_indexOf_4cfef_22 : decode cJ2_indexOf_4cfef 22 = .ok (.iload_n 1, 1) := by decide +kernel
theorem dJ2_indexOf_4cfef_23 : decode cJ2_indexOf_4cfef 23 = .ok (.ldc 227, 2) := by decide +kernel
theorem dJ2_indexOf_4cfef_25 : decode cJ2_indexOf_4cfef 25 = .ok (.if_icmp .ge 11, 3) := by decide +kernel
theorem dJ2_indexOf_4cfef_28 : decode cJ2_indexOf_4cfef 28 = .ok (.aload_n 0, 1) := by decide +kernel
theorem dJ2_indexOf_4cfef_29 : decode cJ2_indexOf_4cfef 29 = .ok (.iload_n 1, 1) := by decide +kernel
theorem dJ2_indexOf_4cfef_30 : decode cJ2_indexOf_4cfef 30 = .ok (.iload_n 2, 1) := by decide +kernel
theorem dJ2_indexOf_4cfef_31 : decode cJ2_indexOf_4cfef 31 = .ok (.iload_n 3, 1) := by decide +kernel
theorem dJ2_indexOf_4cfef_32 : decode cJ2_indexOf_4cfef 32 = .ok (.invokestatic 228, 3) := by decide +kernel
theorem dJ2_indexOf_4cfef_35 : decode cJ2_indexOf_4cfef 35 = .ok (.ireturn, 1) := by decide +kernel
theorem dJ2_indexOf_4cfef_36 : decode cJ2_indexOf_4cfef 36 = .ok (.aload_n 0, 1) := by decide +kernel
theorem dJ2_indexOf_4cfef_37 : decode cJ2_indexOf_4cfef 37 = .ok (.iload_n 1, 1) := by decide +kernel
theorem dJ2_indexOf_4cfef_38 : decode cJ2_indexOf_4cfef 38 = .ok (.iload_n 2, 1) := by decide +kernel
theorem dJ2_indexOf_4cfef_39 : decode cJ2_indexOf_4cfef 39 = .ok (.iload_n 3, 1) := by decide +kernel
theorem dJ2_indexOf_4cfef_40 : decode cJ2_indexOf_4cfef 40 = .ok (.invokestatic 232, 3) := by decide +kernel
theorem dJ2_indexOf_4cfef_43 : decode cJ2_indexOf_4cfef 43 = .ok (.ireturn, 1) := by decide +kernel
set_option maxRecDepth 20000 in
theorem ggJ2_indexOfChar_4cfef_J2_checkBoundsBeginEnd_d044e : GoodIn wsJ2_indexOfChar_4cfef wsJ2_checkBoundsBeginEnd_d044e := goodIn_r _ [4, 5, 6, 3, 7, 8, 9, 10, 11, 12, 13, 14, 15, 16] (by decide +kernel) (by decide +kernel)
set_option maxRecDepth 20000 in
theorem gJ2_indexOfChar_4cfef_J2_checkBoundsBeginEnd_d044e : GoodIn wsJ2_indexOfChar_4cfef (va_wsS RJ2 96 yJ2_checkBoundsBeginEnd_d044e wsJ2_checkBoundsBeginEnd_d044e) := goodIn_app (goodIn_of _ (by decide +kernel)) ggJ2_indexOfChar_4cfef_J2_checkBoundsBeginEnd_d044e
set_option maxRecDepth 20000 in
theorem ggJ2_indexOfChar_4cfef_J2_indexOfCharUnsafe_4cfef : GoodIn wsJ2_indexOfChar_4cfef wsJ2_indexOfCharUnsafe_4cfef := goodIn_r _ [19, 20, 21, 3, 22, 23, 24, 25, 5, 6, 7] (by decide +kernel) (by decide +kernel)
set_option maxRecDepth 20000 in
theorem gJ2_indexOfChar_4cfef_J2_indexOfCharUnsafe_4cfef : GoodIn wsJ2_indexOfChar_4cfef (va_wsS RJ2 244 yJ2_indexOfCharUnsafe_4cfef wsJ2_indexOfCharUnsafe_4cfef) := goodIn_app (goodIn_of _ (by decide +kernel)) ggJ2_indexOfChar_4cfef_J2_indexOfCharUnsafe_4cfef
theorem dJ2_indexOfChar_4cfef_0 : decode cJ2_indexOfChar_4cfef 0 = .ok (.iload_n 2, 1) := by decide +kernel
theorem dJ2_indexOfChar_4cfef_1 : decode cJ2_indexOfChar_4cfef 1 = .ok (.iload_n 3, 1) := by decide +kernel
theorem dJ2_indexOfChar_4cfef_2 : decode cJ2_indexOfChar_4cfef 2 = .ok (.aload_n 0, 1) := by decide +kernel
theorem dJ2_indexOfChar_4cfef_3 : decode cJ2_indexOfChar_4cfef 3 = .ok (.invokestatic 96, 3) := by decide +kernel
theorem dJ2_indexOfChar_4cfef_6 : decode cJ2_indexOfChar_4cfef 6 = .ok (.aload_n 0, 1) := by decide +kernel
theorem dJ2_indexOfChar_4cfef_7 : decode cJ2_indexOfChar_4cfef 7 = .ok (.iload_n 1, 1) := by decide +kernel
theorem dJ2_indexOfChar_4cfef_8 : decode cJ2_indexOfChar_4cfef 8 = .ok (.iload_n 2, 1) := by decide +kernel
theorem dJ2_indexOfChar_4cfef_9 : decode cJ2_indexOfChar_4cfef 9 = .ok (.iload_n 3, 1) := by decide +kernel

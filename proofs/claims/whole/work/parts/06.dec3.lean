theorem dX8_turns_115 : decode cX8_turns 115 = .ok (.aload_n 0, 1) := by decide +kernel
theorem dX8_turns_116 : decode cX8_turns 116 = .ok (.getfield 7, 3) := by decide +kernel
theorem dX8_turns_119 : decode cX8_turns 119 = .ok (.iload_n 1, 1) := by decide +kernel
theorem dX8_turns_120 : decode cX8_turns 120 = .ok (.iconst 3, 1) := by decide +kernel
theorem dX8_turns_121 : decode cX8_turns 121 = .ok (.iadd, 1) := by decide +kernel
theorem dX8_turns_122 : decode cX8_turns 122 = .ok (.iload_n 2, 1) := by decide +kernel
theorem dX8_turns_123 : decode cX8_turns 123 = .ok (.iadd, 1) := by decide +kernel
theorem dX8_turns_124 : decode cX8_turns 124 = .ok (.iaload, 1) := by decide +kernel
theorem dX8_turns_125 : decode cX8_turns 125 = .ok (.aload_n 0, 1) := by decide +kernel
theorem dX8_turns_126 : decode cX8_turns 126 = .ok (.getfield 7, 3) := by decide +kernel
theorem dX8_turns_129 : decode cX8_turns 129 = .ok (.iload_n 1, 1) := by decide +kernel
theorem dX8_turns_130 : decode cX8_turns 130 = .ok (.iconst 3, 1) := by decide +kernel
theorem dX8_turns_131 : decode cX8_turns 131 = .ok (.iadd, 1) := by decide +kernel
theorem dX8_turns_132 : decode cX8_turns 132 = .ok (.iload 4, 2) := by decide +kernel
theorem dX8_turns_134 : decode cX8_turns 134 = .ok (.iadd, 1) := by decide +kernel
theorem dX8_turns_135 : decode cX8_turns 135 = .ok (.iaload, 1) := by decide +kernel
theorem dX8_turns_136 : decode cX8_turns 136 = .ok (.if_icmp .le 82, 3) := by decide +kernel
theorem dX8_turns_139 : decode cX8_turns 139 = .ok (.aload_n 0, 1) := by decide +kernel
theorem dX8_turns_140 : decode cX8_turns 140 = .ok (.iload_n 1, 1) := by decide +kernel
theorem dX8_turns_141 : decode cX8_turns 141 = .ok (.iload_n 2, 1) := by decide +kernel
theorem dX8_turns_142 : decode cX8_turns 142 = .ok (.iload 4, 2) := by decide +kernel
theorem dX8_turns_144 : decode cX8_turns 144 = .ok (.invokevirtual 142, 3) := by decide +kernel
theorem dX8_turns_147 : decode cX8_turns 147 = .ok (.goto 71, 3) := by decide +kernel
theorem dX8_turns_150 : decode cX8_turns 150 = .ok (.aload_n 0, 1) := by decide +kernel
theorem dX8_turns_151 : decode cX8_turns 151 = .ok (.iload_n 1, 1) := by decide +kernel
theorem dX8_turns_152 : decode cX8_turns 152 = .ok (.iload 4, 2) := by decide +kernel
theorem dX8_turns_154 : decode cX8_turns 154 = .ok (.invokevirtual 139, 3) := by decide +kernel
theorem dX8_turns_157 : decode cX8_turns 157 = .ok (.ifCond .eq 61, 3) := by decide +kernel
theorem dX8_turns_160 : decode cX8_turns 160 = .ok (.aload_n 0, 1) := by decide +kernel
theorem dX8_turns_161 : decode cX8_turns 161 = .ok (.getfield 7, 3) := by decide +kernel
theorem dX8_turns_164 : decode cX8_turns 164 = .ok (.iload_n 1, 1) := by decide +kernel
theorem dX8_turns_165 : decode cX8_turns 165 = .ok (.iconst 2, 1) := by decide +kernel
theorem dX8_turns_166 : decode cX8_turns 166 = .ok (.iadd, 1) := by decide +kernel
theorem dX8_turns_167 : decode cX8_turns 167 = .ok (.iaload, 1) := by decide +kernel
theorem dX8_turns_168 : decode cX8_turns 168 = .ok (.iconst 2, 1) := by decide +kernel
theorem dX8_turns_169 : decode cX8_turns 169 = .ok (.irem, 1) := by decide +kernel
theorem dX8_turns_170 : decode cX8_turns 170 = .ok (.ifCond .ne 48, 3) := by decide +kernel
theorem dX8_turns_173 : decode cX8_turns 173 = .ok (.aload_n 0, 1) := by decide +kernel
theorem dX8_turns_174 : decode cX8_turns 174 = .ok (.iload_n 1, 1) := by decide +kernel
theorem dX8_turns_175 : decode cX8_turns 175 = .ok (.iload_n 2, 1) := by decide +kernel
theorem dX8_turns_176 : decode cX8_turns 176 = .ok (.iload 4, 2) := by decide +kernel
theorem dX8_turns_178 : decode cX8_turns 178 = .ok (.invokevirtual 142, 3) := by decide +kernel
theorem dX8_turns_181 : decode cX8_turns 181 = .ok (.goto 37, 3) := by decide +kernel
theorem dX8_turns_184 : decode cX8_turns 184 = .ok (.aload_n 0, 1) := by decide +kernel
theorem dX8_turns_185 : decode cX8_turns 185 = .ok (.getfield 7, 3) := by decide +kernel
theorem dX8_turns_188 : decode cX8_turns 188 = .ok (.iload_n 1, 1) := by decide +kernel
theorem dX8_turns_189 : decode cX8_turns 189 = .ok (.iconst 3, 1) := by decide +kernel
theorem dX8_turns_190 : decode cX8_turns 190 = .ok (.iadd, 1) := by decide +kernel
theorem dX8_turns_191 : decode cX8_turns 191 = .ok (.iload_n 2, 1) := by decide +kernel
theorem dX8_turns_192 : decode cX8_turns 192 = .ok (.iadd, 1) := by decide +kernel
theorem dX8_turns_193 : decode cX8_turns 193 = .ok (.iaload, 1) := by decide +kernel
theorem dX8_turns_194 : decode cX8_turns 194 = .ok (.ifCond .ne 24, 3) := by decide +kernel
theorem dX8_turns_197 : decode cX8_turns 197 = .ok (.aload_n 0, 1) := by decide +kernel
theorem dX8_turns_198 : decode cX8_turns 198 = .ok (.iload_n 1, 1) := by decide +kernel
theorem dX8_turns_199 : decode cX8_turns 199 = .ok (.iload 5, 2) := by decide +kernel
theorem dX8_turns_201 : decode cX8_turns 201 = .ok (.invokevirtual 139, 3) := by decide +kernel
theorem dX8_turns_204 : decode cX8_turns 204 = .ok (.ifCond .eq 14, 3) := by decide +kernel
theorem dX8_turns_207 : decode cX8_turns 207 = .ok (.aload_n 0, 1) := by decide +kernel
theorem dX8_turns_208 : decode cX8_turns 208 = .ok (.iload_n 1, 1) := by decide +kernel
theorem dX8_turns_209 : decode cX8_turns 209 = .ok (.iload_n 2, 1) := by decide +kernel
theorem dX8_turns_210 : decode cX8_turns 210 = .ok (.iload 5, 2) := by decide +kernel
theorem dX8_turns_212 : decode cX8_turns 212 = .ok (.invokevirtual 142, 3) := by decide +kernel
theorem dX8_turns_215 : decode cX8_turns 215 = .ok (.goto 3, 3) := by decide +kernel
theorem dX8_turns_218 : decode cX8_turns 218 = .ok (.return_, 1) := by decide +kernel
set_option maxRecDepth 20000 in
theorem ggX8_stepsBy_X8_has : GoodIn wsX8_stepsBy wsX8_has := goodIn_r _ [5] (by decide +kernel) (by decide +kernel)
set_option maxRecDepth 20000 in
theorem gX8_stepsBy_X8_has : GoodIn wsX8_stepsBy (va_wsS RX8 111 yX8_has wsX8_has) := goodIn_app (goodIn_of _ (by decide +kernel)) ggX8_stepsBy_X8_has
set_option maxRecDepth 20000 in
theorem ggX8_stepsBy_X8_turns : GoodIn wsX8_stepsBy wsX8_turns := goodIn_r _ [9, 1, 10, 11, 12, 4, 13, 14, 15, 16, 17, 21, 22, 23, 24, 25, 26, 27, 28, 29, 30, 31, 32, 33, 34, 35, 36, 37, 38, 39, 40, 41, 42, 43] (by decide +kernel) (by decide +kernel)
set_option maxRecDepth 20000 in
theorem gX8_stepsBy_X8_turns : GoodIn wsX8_stepsBy (wsV RX8 145 RX8 yX8_turns wsX8_turns) := goodIn_app (goodIn_of _ (by decide +kernel)) ggX8_stepsBy_X8_turns
set_option maxRecDepth 20000 in
theorem ggX8_stepsBy_X8_in : GoodIn wsX8_stepsBy wsX8_in := goodIn_r _ [20] (by decide +kernel) (by decide +kernel)
set_option maxRecDepth 20000 in
theorem gX8_stepsBy_X8_in : GoodIn wsX8_stepsBy (va_wsS RX8 55 yX8_in wsX8_in) := goodIn_app (goodIn_of _ (by decide +kernel)) ggX8_stepsBy_X8_in
set_option maxRecDepth 20000 in
theorem ggX8_stepsBy_X8_changes : GoodIn wsX8_stepsBy wsX8_changes := goodIn_r _ [17, 1, 21, 22, 23, 24, 25, 26, 27, 28, 29, 30, 31, 32, 33, 34, 35, 36, 37, 38, 39, 40, 41, 42, 43] (by decide +kernel) (by decide +kernel)
set_option maxRecDepth 20000 in
theorem gX8_stepsBy_X8_changes : GoodIn wsX8_stepsBy (wsV RX8 142 RX8 yX8_changes wsX8_changes) := goodIn_app (goodIn_of _ (by decide +kernel)) ggX8_stepsBy_X8_changes
theorem dX8_stepsBy_0 : decode cX8_stepsBy 0 = .ok (.iconst 0, 1) := by decide +kernel
theorem dX8_stepsBy_1 : decode cX8_stepsBy 1 = .ok (.istore_n 3, 1) := by decide +kernel
theorem dX8_stepsBy_2 : decode cX8_stepsBy 2 = .ok (.iload_n 3, 1) := by decide +kernel
theorem dX8_stepsBy_3 : decode cX8_stepsBy 3 = .ok (.aload_n 0, 1) := by decide +kernel
theorem dX8_stepsBy_4 : decode cX8_stepsBy 4 = .ok (.getfield 7, 3) := by decide +kernel
theorem dX8_stepsBy_7 : decode cX8_stepsBy 7 = .ok (.iload_n 1, 1) := by decide +kernel
theorem dX8_stepsBy_8 : decode cX8_stepsBy 8 = .ok (.iconst 0, 1) := by decide +kernel
theorem dX8_stepsBy_9 : decode cX8_stepsBy 9 = .ok (.iadd, 1) := by decide +kernel
theorem dX8_stepsBy_10 : decode cX8_stepsBy 10 = .ok (.iaload, 1) := by decide +kernel
theorem dX8_stepsBy_11 : decode cX8_stepsBy 11 = .ok (.if_icmp .ge 23, 3) := by decide +kernel
theorem dX8_stepsBy_14 : decode cX8_stepsBy 14 = .ok (.iload_n 2, 1) := by decide +kernel
theorem dX8_stepsBy_15 : decode cX8_stepsBy 15 = .ok (.iload_n 3, 1) := by decide +kernel
theorem dX8_stepsBy_16 : decode cX8_stepsBy 16 = .ok (.invokestatic 111, 3) := by decide +kernel
theorem dX8_stepsBy_19 : decode cX8_stepsBy 19 = .ok (.ifCond .ne 9, 3) := by decide +kernel
theorem dX8_stepsBy_22 : decode cX8_stepsBy 22 = .ok (.aload_n 0, 1) := by decide +kernel
theorem dX8_stepsBy_23 : decode cX8_stepsBy 23 = .ok (.iload_n 1, 1) := by decide +kernel
theorem dX8_stepsBy_24 : decode cX8_stepsBy 24 = .ok (.iload_n 3, 1) := by decide +kernel
theorem dX8_stepsBy_25 : decode cX8_stepsBy 25 = .ok (.invokevirtual 145, 3) := by decide +kernel
theorem dX8_stepsBy_28 : decode cX8_stepsBy 28 = .ok (.iinc 3 1, 3) := by decide +kernel
theorem dX8_stepsBy_31 : decode cX8_stepsBy 31 = .ok (.goto (-29), 3) := by decide +kernel
theorem dX8_stepsBy_34 : decode cX8_stepsBy 34 = .ok (.aload_n 0, 1) := by decide +kernel
theorem dX8_stepsBy_35 : decode cX8_stepsBy 35 = .ok (.getfield 7, 3) := by decide +kernel
theorem dX8_stepsBy_38 : decode cX8_stepsBy 38 = .ok (.iload_n 1, 1) := by decide +kernel
theorem dX8_stepsBy_39 : decode cX8_stepsBy 39 = .ok (.iconst 2, 1) := by decide +kernel
theorem dX8_stepsBy_40 : decode cX8_stepsBy 40 = .ok (.iadd, 1) := by decide +kernel
theorem dX8_stepsBy_41 : decode cX8_stepsBy 41 = .ok (.dup2, 1) := by decide +kernel
theorem dX8_stepsBy_42 : decode cX8_stepsBy 42 = .ok (.iaload, 1) := by decide +kernel
theorem dX8_stepsBy_43 : decode cX8_stepsBy 43 = .ok (.iconst 1, 1) := by decide +kernel
theorem dX8_stepsBy_44 : decode cX8_stepsBy 44 = .ok (.iadd, 1) := by decide +kernel
theorem dX8_stepsBy_45 : decode cX8_stepsBy 45 = .ok (.iastore, 1) := by decide +kernel
theorem dX8_stepsBy_46 : decode cX8_stepsBy 46 = .ok (.aload_n 0, 1) := by decide +kernel
theorem dX8_stepsBy_47 : decode cX8_stepsBy 47 = .ok (.getfield 7, 3) := by decide +kernel
theorem dX8_stepsBy_50 : decode cX8_stepsBy 50 = .ok (.iload_n 1, 1) := by decide +kernel
theorem dX8_stepsBy_51 : decode cX8_stepsBy 51 = .ok (.iconst 2, 1) := by decide +kernel
theorem dX8_stepsBy_52 : decode cX8_stepsBy 52 = .ok (.iadd, 1) := by decide +kernel
theorem dX8_stepsBy_53 : decode cX8_stepsBy 53 = .ok (.iaload, 1) := by decide +kernel
theorem dX8_stepsBy_54 : decode cX8_stepsBy 54 = .ok (.aload_n 0, 1) := by decide +kernel
theorem dX8_stepsBy_55 : decode cX8_stepsBy 55 = .ok (.getfield 7, 3) := by decide +kernel
theorem dX8_stepsBy_58 : decode cX8_stepsBy 58 = .ok (.iload_n 1, 1) := by decide +kernel
theorem dX8_stepsBy_59 : decode cX8_stepsBy 59 = .ok (.iconst 1, 1) := by decide +kernel
theorem dX8_stepsBy_60 : decode cX8_stepsBy 60 = .ok (.iadd, 1) := by decide +kernel
theorem dX8_stepsBy_61 : decode cX8_stepsBy 61 = .ok (.iaload, 1) := by decide +kernel
theorem dX8_stepsBy_62 : decode cX8_stepsBy 62 = .ok (.irem, 1) := by decide +kernel
theorem dX8_stepsBy_63 : decode cX8_stepsBy 63 = .ok (.ifCond .ne 87, 3) := by decide +kernel
theorem dX8_stepsBy_66 : decode cX8_stepsBy 66 = .ok (.iconst 0, 1) := by decide +kernel
theorem dX8_stepsBy_67 : decode cX8_stepsBy 67 = .ok (.istore_n 3, 1) := by decide +kernel
theorem dX8_stepsBy_68 : decode cX8_stepsBy 68 = .ok (.iload_n 3, 1) := by decide +kernel
theorem dX8_stepsBy_69 : decode cX8_stepsBy 69 = .ok (.aload_n 0, 1) := by decide +kernel
theorem dX8_stepsBy_70 : decode cX8_stepsBy 70 = .ok (.getfield 7, 3) := by decide +kernel
theorem dX8_stepsBy_73 : decode cX8_stepsBy 73 = .ok (.iload_n 1, 1) := by decide +kernel
theorem dX8_stepsBy_74 : decode cX8_stepsBy 74 = .ok (.iconst 0, 1) := by decide +kernel
theorem dX8_stepsBy_75 : decode cX8_stepsBy 75 = .ok (.iadd, 1) := by decide +kernel
theorem dX8_stepsBy_76 : decode cX8_stepsBy 76 = .ok (.iaload, 1) := by decide +kernel
theorem dX8_stepsBy_77 : decode cX8_stepsBy 77 = .ok (.if_icmp .ge 73, 3) := by decide +kernel
theorem dX8_stepsBy_80 : decode cX8_stepsBy 80 = .ok (.aload_n 0, 1) := by decide +kernel
theorem dX8_stepsBy_81 : decode cX8_stepsBy 81 = .ok (.getfield 7, 3) := by decide +kernel
theorem dX8_stepsBy_84 : decode cX8_stepsBy 84 = .ok (.iload_n 1, 1) := by decide +kernel
theorem dX8_stepsBy_85 : decode cX8_stepsBy 85 = .ok (.iconst 3, 1) := by decide +kernel
theorem dX8_stepsBy_86 : decode cX8_stepsBy 86 = .ok (.iadd, 1) := by decide +kernel
theorem dX8_stepsBy_87 : decode cX8_stepsBy 87 = .ok (.iload_n 3, 1) := by decide +kernel
theorem dX8_stepsBy_88 : decode cX8_stepsBy 88 = .ok (.iadd, 1) := by decide +kernel
theorem dX8_stepsBy_89 : decode cX8_stepsBy 89 = .ok (.iaload, 1) := by decide +kernel
theorem dX8_stepsBy_90 : decode cX8_stepsBy 90 = .ok (.istore 4, 2) := by decide +kernel
theorem dX8_stepsBy_92 : decode cX8_stepsBy 92 = .ok (.aload_n 0, 1) := by decide +kernel
theorem dX8_stepsBy_93 : decode cX8_stepsBy 93 = .ok (.getfield 7, 3) := by decide +kernel
theorem dX8_stepsBy_96 : decode cX8_stepsBy 96 = .ok (.iload_n 1, 1) := by decide +kernel
theorem dX8_stepsBy_97 : decode cX8_stepsBy 97 = .ok (.bipush 10, 2) := by decide +kernel
theorem dX8_stepsBy_99 : decode cX8_stepsBy 99 = .ok (.iadd, 1) := by decide +kernel
theorem dX8_stepsBy_100 : decode cX8_stepsBy 100 = .ok (.iload_n 3, 1) := by decide +kernel
theorem dX8_stepsBy_101 : decode cX8_stepsBy 101 = .ok (.iadd, 1) := by decide +kernel
theorem dX8_stepsBy_102 : decode cX8_stepsBy 102 = .ok (.iaload, 1) := by decide +kernel
theorem dX8_stepsBy_103 : decode cX8_stepsBy 103 = .ok (.iconst 5, 1) := by decide +kernel
theorem dX8_stepsBy_104 : decode cX8_stepsBy 104 = .ok (.if_icmp .ne 40, 3) := by decide +kernel
theorem dX8_stepsBy_107 : decode cX8_stepsBy 107 = .ok (.iload 4, 2) := by decide +kernel
theorem dX8_stepsBy_109 : decode cX8_stepsBy 109 = .ok (.i2l, 1) := by decide +kernel
theorem dX8_stepsBy_110 : decode cX8_stepsBy 110 = .ok (.lconst 1, 1) := by decide +kernel
theorem dX8_stepsBy_111 : decode cX8_stepsBy 111 = .ok (.aload_n 0, 1) := by decide +kernel
theorem dX8_stepsBy_112 : decode cX8_stepsBy 112 = .ok (.getfield 7, 3) := by decide +kernel
theorem dX8_stepsBy_115 : decode cX8_stepsBy 115 = .ok (.iload_n 1, 1) := by decide +kernel
theorem dX8_stepsBy_116 : decode cX8_stepsBy 116 = .ok (.iconst 0, 1) := by decide +kernel
theorem dX8_stepsBy_117 : decode cX8_stepsBy 117 = .ok (.iadd, 1) := by decide +kernel
theorem dX8_stepsBy_118 : decode cX8_stepsBy 118 = .ok (.iaload, 1) := by decide +kernel
theorem dX8_stepsBy_119 : decode cX8_stepsBy 119 = .ok (.i2l, 1) := by decide +kernel
theorem dX8_stepsBy_120 : decode cX8_stepsBy 120 = .ok (.invokestatic 55, 3) := by decide +kernel
theorem dX8_stepsBy_123 : decode cX8_stepsBy 123 = .ok (.ifCond .eq 21, 3) := by decide +kernel
theorem dX8_stepsBy_126 : decode cX8_stepsBy 126 = .ok (.iload 4, 2) := by decide +kernel
theorem dX8_stepsBy_128 : decode cX8_stepsBy 128 = .ok (.iconst 1, 1) := by decide +kernel
theorem dX8_stepsBy_129 : decode cX8_stepsBy 129 = .ok (.isub, 1) := by decide +kernel
theorem dX8_stepsBy_130 : decode cX8_stepsBy 130 = .ok (.iload_n 3, 1) := by decide +kernel
theorem dX8_stepsBy_131 : decode cX8_stepsBy 131 = .ok (.if_icmp .eq 13, 3) := by decide +kernel
theorem dX8_stepsBy_134 : decode cX8_stepsBy 134 = .ok (.aload_n 0, 1) := by decide +kernel
theorem dX8_stepsBy_135 : decode cX8_stepsBy 135 = .ok (.iload_n 1, 1) := by decide +kernel
theorem dX8_stepsBy_136 : decode cX8_stepsBy 136 = .ok (.iload_n 3, 1) := by decide +kernel
theorem dX8_stepsBy_137 : decode cX8_stepsBy 137 = .ok (.iload 4, 2) := by decide +kernel
theorem dX8_stepsBy_139 : decode cX8_stepsBy 139 = .ok (.iconst 1, 1) := by decide +kernel
theorem dX8_stepsBy_140 : decode cX8_stepsBy 140 = .ok (.isub, 1) := by decide +kernel
theorem dX8_stepsBy_141 : decode cX8_stepsBy 141 = .ok (.invokevirtual 142, 3) := by decide +kernel
theorem dX8_stepsBy_144 : decode cX8_stepsBy 144 = .ok (.iinc 3 1, 3) := by decide +kernel
theorem dX8_stepsBy_147 : decode cX8_stepsBy 147 = .ok (.goto (-79), 3) := by decide +kernel
theorem dX8_stepsBy_150 : decode cX8_stepsBy 150 = .ok (.return_, 1) := by decide +kernel
set_option maxRecDepth 20000 in
theorem ggX8_minds_X8_copyOf : GoodIn wsX8_minds wsX8_copyOf := goodIn_r _ [7, 2, 8, 9, 10, 11, 12, 13, 14, 15, 16, 17, 18, 19, 20, 21, 22, 23, 24, 25, 26, 27, 28, 29, 30] (by decide +kernel) (by decide +kernel)
set_option maxRecDepth 20000 in
theorem gX8_minds_X8_copyOf : GoodIn wsX8_minds (wsV RX8 132 RX8 yX8_copyOf wsX8_copyOf) := goodIn_app (goodIn_of _ (by decide +kernel)) ggX8_minds_X8_copyOf
theorem dX8_minds_0 : decode cX8_minds 0 = .ok (.aload_n 0, 1) := by decide +kernel
theorem dX8_minds_1 : decode cX8_minds 1 = .ok (.getfield 136, 3) := by decide +kernel
theorem dX8_minds_4 : decode cX8_minds 4 = .ok (.bipush 24, 2) := by decide +kernel
theorem dX8_minds_6 : decode cX8_minds 6 = .ok (.if_icmp .ne 49, 3) := by decide +kernel
theorem dX8_minds_9 : decode cX8_minds 9 = .ok (.iconst 0, 1) := by decide +kernel
theorem dX8_minds_10 : decode cX8_minds 10 = .ok (.istore_n 1, 1) := by decide +kernel
theorem dX8_minds_11 : decode cX8_minds 11 = .ok (.iload_n 1, 1) := by decide +kernel
theorem dX8_minds_12 : decode cX8_minds 12 = .ok (.sipush 207, 3) := by decide +kernel
theorem dX8_minds_15 : decode cX8_minds 15 = .ok (.if_icmp .ge 30, 3) := by decide +kernel
theorem dX8_minds_18 : decode cX8_minds 18 = .ok (.aload_n 0, 1) := by decide +kernel
theorem dX8_minds_19 : decode cX8_minds 19 = .ok (.getfield 7, 3) := by decide +kernel
theorem dX8_minds_22 : decode cX8_minds 22 = .ok (.bipush 85, 2) := by decide +kernel
theorem dX8_minds_24 : decode cX8_minds 24 = .ok (.iload_n 1, 1) := by decide +kernel
theorem dX8_minds_25 : decode cX8_minds 25 = .ok (.iadd, 1) := by decide +kernel
theorem dX8_minds_26 : decode cX8_minds 26 = .ok (.aload_n 0, 1) := by decide +kernel
theorem dX8_minds_27 : decode cX8_minds 27 = .ok (.getfield 7, 3) := by decide +kernel
theorem dX8_minds_30 : decode cX8_minds 30 = .ok (.bipush 85, 2) := by decide +kernel
theorem dX8_minds_32 : decode cX8_minds 32 = .ok (.iload_n 1, 1) := by decide +kernel
theorem dX8_minds_33 : decode cX8_minds 33 = .ok (.iadd, 1) := by decide +kernel
theorem dX8_minds_34 : decode cX8_minds 34 = .ok (.bipush 9, 2) := by decide +kernel
theorem dX8_minds_36 : decode cX8_minds 36 = .ok (.iadd, 1) := by decide +kernel
theorem dX8_minds_37 : decode cX8_minds 37 = .ok (.iaload, 1) := by decide +kernel
theorem dX8_minds_38 : decode cX8_minds 38 = .ok (.iastore, 1) := by decide +kernel
theorem dX8_minds_39 : decode cX8_minds 39 = .ok (.iinc 1 1, 3) := by decide +kernel
theorem dX8_minds_42 : decode cX8_minds 42 = .ok (.goto (-31), 3) := by decide +kernel
theorem dX8_minds_45 : decode cX8_minds 45 = .ok (.aload_n 0, 1) := by decide +kernel
theorem dX8_minds_46 : decode cX8_minds 46 = .ok (.dup, 1) := by decide +kernel
theorem dX8_minds_47 : decode cX8_minds 47 = .ok (.getfield 136, 3) := by decide +kernel
theorem dX8_minds_50 : decode cX8_minds 50 = .ok (.iconst 1, 1) := by decide +kernel
theorem dX8_minds_51 : decode cX8_minds 51 = .ok (.isub, 1) := by decide +kernel
theorem dX8_minds_52 : decode cX8_minds 52 = .ok (.putfield 136, 3) := by decide +kernel
theorem dX8_minds_55 : decode cX8_minds 55 = .ok (.aload_n 0, 1) := by decide +kernel
theorem dX8_minds_56 : decode cX8_minds 56 = .ok (.iconst 1, 1) := by decide +kernel
theorem dX8_minds_57 : decode cX8_minds 57 = .ok (.bipush 85, 2) := by decide +kernel
theorem dX8_minds_59 : decode cX8_minds 59 = .ok (.bipush 9, 2) := by decide +kernel
theorem dX8_minds_61 : decode cX8_minds 61 = .ok (.aload_n 0, 1) := by decide +kernel
theorem dX8_minds_62 : decode cX8_minds 62 = .ok (.getfield 136, 3) := by decide +kernel
theorem dX8_minds_65 : decode cX8_minds 65 = .ok (.imul, 1) := by decide +kernel
theorem dX8_minds_66 : decode cX8_minds 66 = .ok (.iadd, 1) := by decide +kernel
theorem dX8_minds_67 : decode cX8_minds 67 = .ok (.bipush 9, 2) := by decide +kernel
theorem dX8_minds_69 : decode cX8_minds 69 = .ok (.invokevirtual 132, 3) := by decide +kernel
theorem dX8_minds_72 : decode cX8_minds 72 = .ok (.aload_n 0, 1) := by decide +kernel
theorem dX8_minds_73 : decode cX8_minds 73 = .ok (.dup, 1) := by decide +kernel
theorem dX8_minds_74 : decode cX8_minds 74 = .ok (.getfield 136, 3) := by decide +kernel
theorem dX8_minds_77 : decode cX8_minds 77 = .ok (.iconst 1, 1) := by decide +kernel
theorem dX8_minds_78 : decode cX8_minds 78 = .ok (.iadd, 1) := by decide +kernel
theorem dX8_minds_79 : decode cX8_minds 79 = .ok (.putfield 136, 3) := by decide +kernel
theorem dX8_minds_82 : decode cX8_minds 82 = .ok (.return_, 1) := by decide +kernel
set_option maxRecDepth 20000 in
theorem ggX8_steps_X8_in : GoodIn wsX8_steps wsX8_in := goodIn_r _ [9] (by decide +kernel) (by decide +kernel)
set_option maxRecDepth 20000 in
theorem gX8_steps_X8_in : GoodIn wsX8_steps (va_wsS RX8 55 yX8_in wsX8_in) := goodIn_app (goodIn_of _ (by decide +kernel)) ggX8_steps_X8_in
set_option maxRecDepth 20000 in
theorem ggX8_steps_X8_minds : GoodIn wsX8_steps wsX8_minds := goodIn_r _ [13, 14, 1, 15, 16, 17, 8, 18, 38, 39, 40, 41, 42, 43, 44, 45, 46, 47, 48, 49, 50, 51, 52, 53, 54, 55, 56, 57, 58, 59, 60] (by decide +kernel) (by decide +kernel)
set_option maxRecDepth 20000 in
theorem gX8_steps_X8_minds : GoodIn wsX8_steps (wsV RX8 152 RX8 yX8_minds wsX8_minds) := goodIn_app (goodIn_of _ (by decide +kernel)) ggX8_steps_X8_minds
set_option maxRecDepth 20000 in
theorem ggX8_steps_X8_stepsBy : GoodIn wsX8_steps wsX8_stepsBy := goodIn_r _ [22, 1, 23, 24, 8, 25, 26, 27, 28, 29, 30, 31, 32, 33, 34, 35, 36, 37, 6, 7, 9, 38, 39, 40, 41, 42, 43, 44, 45, 46, 47, 48, 49, 50, 51, 52, 53, 54, 55, 56, 57, 58, 59, 60] (by decide +kernel) (by decide +kernel)
set_option maxRecDepth 20000 in
theorem gX8_steps_X8_stepsBy : GoodIn wsX8_steps (wsV RX8 155 RX8 yX8_stepsBy wsX8_stepsBy) := goodIn_app (goodIn_of _ (by decide +kernel)) ggX8_steps_X8_stepsBy
theorem dX8_steps_0 : decode cX8_steps 0 = .ok (.aload_n 0, 1) := by decide +kernel
theorem dX8_steps_1 : decode cX8_steps 1 = .ok (.getfield 7, 3) := by decide +kernel
theorem dX8_steps_4 : decode cX8_steps 4 = .ok (.iconst 0, 1) := by decide +kernel
theorem dX8_steps_5 : decode cX8_steps 5 = .ok (.iaload, 1) := by decide +kernel
theorem dX8_steps_6 : decode cX8_steps 6 = .ok (.ifCond .ne 6, 3) := by decide +kernel
theorem dX8_steps_9 : decode cX8_steps 9 = .ok (.ldc 149, 2) := by decide +kernel
theorem dX8_steps_11 : decode cX8_steps 11 = .ok (.ireturn, 1) := by decide +kernel
theorem dX8_steps_12 : decode cX8_steps 12 = .ok (.iload_n 1, 1) := by decide +kernel
theorem dX8_steps_13 : decode cX8_steps 13 = .ok (.i2l, 1) := by decide +kernel
theorem dX8_steps_14 : decode cX8_steps 14 = .ok (.lconst 1, 1) := by decide +kernel
theorem dX8_steps_15 : decode cX8_steps 15 = .ok (.ldc2_w 150, 3) := by decide +kernel
theorem dX8_steps_18 : decode cX8_steps 18 = .ok (.invokestatic 55, 3) := by decide +kernel
theorem dX8_steps_21 : decode cX8_steps 21 = .ok (.ifCond .ne 6, 3) := by decide +kernel
theorem dX8_steps_24 : decode cX8_steps 24 = .ok (.ldc 72, 2) := by decide +kernel
theorem dX8_steps_26 : decode cX8_steps 26 = .ok (.ireturn, 1) := by decide +kernel
theorem dX8_steps_27 : decode cX8_steps 27 = .ok (.aload_n 0, 1) := by decide +kernel
theorem dX8_steps_28 : decode cX8_steps 28 = .ok (.getfield 7, 3) := by decide +kernel
theorem dX8_steps_31 : decode cX8_steps 31 = .ok (.iconst 2, 1) := by decide +kernel
theorem dX8_steps_32 : decode cX8_steps 32 = .ok (.iaload, 1) := by decide +kernel
theorem dX8_steps_33 : decode cX8_steps 33 = .ok (.iload_n 1, 1) := by decide +kernel
theorem dX8_steps_34 : decode cX8_steps 34 = .ok (.iadd, 1) := by decide +kernel
theorem dX8_steps_35 : decode cX8_steps 35 = .ok (.sipush 9999, 3) := by decide +kernel
theorem dX8_steps_38 : decode cX8_steps 38 = .ok (.if_icmp .le 6, 3) := by decide +kernel
theorem dX8_steps_41 : decode cX8_steps 41 = .ok (.ldc 86, 2) := by decide +kernel
theorem dX8_steps_43 : decode cX8_steps 43 = .ok (.ireturn, 1) := by decide +kernel
theorem dX8_steps_44 : decode cX8_steps 44 = .ok (.iconst 0, 1) := by decide +kernel
theorem dX8_steps_45 : decode cX8_steps 45 = .ok (.istore_n 2, 1) := by decide +kernel
theorem dX8_steps_46 : decode cX8_steps 46 = .ok (.iload_n 2, 1) := by decide +kernel
theorem dX8_steps_47 : decode cX8_steps 47 = .ok (.iload_n 1, 1) := by decide +kernel
theorem dX8_steps_48 : decode cX8_steps 48 = .ok (.if_icmp .ge 19, 3) := by decide +kernel
theorem dX8_steps_51 : decode cX8_steps 51 = .ok (.aload_n 0, 1) := by decide +kernel
theorem dX8_steps_52 : decode cX8_steps 52 = .ok (.invokevirtual 152, 3) := by decide +kernel
theorem dX8_steps_55 : decode cX8_steps 55 = .ok (.aload_n 0, 1) := by decide +kernel
theorem dX8_steps_56 : decode cX8_steps 56 = .ok (.iconst 0, 1) := by decide +kernel
theorem dX8_steps_57 : decode cX8_steps 57 = .ok (.iconst 0, 1) := by decide +kernel
theorem dX8_steps_58 : decode cX8_steps 58 = .ok (.invokevirtual 155, 3) := by decide +kernel
theorem dX8_steps_61 : decode cX8_steps 61 = .ok (.iinc 2 1, 3) := by decide +kernel
theorem dX8_steps_64 : decode cX8_steps 64 = .ok (.goto (-18), 3) := by decide +kernel
theorem dX8_steps_67 : decode cX8_steps 67 = .ok (.aload_n 0, 1) := by decide +kernel
theorem dX8_steps_68 : decode cX8_steps 68 = .ok (.getfield 7, 3) := by decide +kernel
theorem dX8_steps_71 : decode cX8_steps 71 = .ok (.iconst 2, 1) := by decide +kernel
theorem dX8_steps_72 : decode cX8_steps 72 = .ok (.iaload, 1) := by decide +kernel
theorem dX8_steps_73 : decode cX8_steps 73 = .ok (.ireturn, 1) := by decide +kernel
set_option maxRecDepth 20000 in
theorem ggX8_swap_X8_isSaint : GoodIn wsX8_swap wsX8_isSaint := goodIn_r _ [7, 2, 8, 9, 6, 10, 24, 25, 26, 27, 28, 29, 30, 31, 32, 33, 34, 35, 36, 37, 38, 39, 40, 41, 42, 43, 44, 45, 46] (by decide +kernel) (by decide +kernel)
set_option maxRecDepth 20000 in
theorem gX8_swap_X8_isSaint : GoodIn wsX8_swap (wsV RX8 158 RX8 yX8_isSaint wsX8_isSaint) := goodIn_app (goodIn_of _ (by decide +kernel)) ggX8_swap_X8_isSaint
set_option maxRecDepth 20000 in
theorem ggX8_swap_X8_minds : GoodIn wsX8_swap wsX8_minds := goodIn_r _ [14, 15, 2, 16, 17, 18, 6, 19, 24, 25, 26, 27, 28, 29, 30, 31, 32, 33, 34, 35, 36, 37, 38, 39, 40, 41, 42, 43, 44, 45, 46] (by decide +kernel) (by decide +kernel)
set_option maxRecDepth 20000 in
theorem gX8_swap_X8_minds : GoodIn wsX8_swap (wsV RX8 152 RX8 yX8_minds wsX8_minds) := goodIn_app (goodIn_of _ (by decide +kernel)) ggX8_swap_X8_minds
set_option maxRecDepth 20000 in
theorem ggX8_swap_X8_changes : GoodIn wsX8_swap wsX8_changes := goodIn_r _ [23, 2, 24, 25, 26, 27, 28, 29, 30, 31, 32, 33, 34, 35, 36, 37, 38, 39, 40, 41, 42, 43, 44, 45, 46] (by decide +kernel) (by decide +kernel)
set_option maxRecDepth 20000 in
theorem gX8_swap_X8_changes : GoodIn wsX8_swap (wsV RX8 142 RX8 yX8_changes wsX8_changes) := goodIn_app (goodIn_of _ (by decide +kernel)) ggX8_swap_X8_changes
theorem dX8_swap_0 : decode cX8_swap 0 = .ok (.aload_n 0, 1) := by decide +kernel
theorem dX8_swap_1 : decode cX8_swap 1 = .ok (.iload_n 1, 1) := by decide +kernel
theorem dX8_swap_2 : decode cX8_swap 2 = .ok (.invokevirtual 158, 3) := by decide +kernel
theorem dX8_swap_5 : decode cX8_swap 5 = .ok (.ifCond .eq 16, 3) := by decide +kernel
theorem dX8_swap_8 : decode cX8_swap 8 = .ok (.aload_n 0, 1) := by decide +kernel
theorem dX8_swap_9 : decode cX8_swap 9 = .ok (.iload_n 2, 1) := by decide +kernel
theorem dX8_swap_10 : decode cX8_swap 10 = .ok (.invokevirtual 158, 3) := by decide +kernel
theorem dX8_swap_13 : decode cX8_swap 13 = .ok (.ifCond .eq 8, 3) := by decide +kernel
theorem dX8_swap_16 : decode cX8_swap 16 = .ok (.iload_n 1, 1) := by decide +kernel
theorem dX8_swap_17 : decode cX8_swap 17 = .ok (.iload_n 2, 1) := by decide +kernel
theorem dX8_swap_18 : decode cX8_swap 18 = .ok (.if_icmp .ne 6, 3) := by decide +kernel
theorem dX8_swap_21 : decode cX8_swap 21 = .ok (.ldc 72, 2) := by decide +kernel
theorem dX8_swap_23 : decode cX8_swap 23 = .ok (.ireturn, 1) := by decide +kernel
theorem dX8_swap_24 : decode cX8_swap 24 = .ok (.aload_n 0, 1) := by decide +kernel
theorem dX8_swap_25 : decode cX8_swap 25 = .ok (.invokevirtual 152, 3) := by decide +kernel
theorem dX8_swap_28 : decode cX8_swap 28 = .ok (.aload_n 0, 1) := by decide +kernel
theorem dX8_swap_29 : decode cX8_swap 29 = .ok (.iconst 0, 1) := by decide +kernel
theorem dX8_swap_30 : decode cX8_swap 30 = .ok (.iload_n 1, 1) := by decide +kernel
theorem dX8_swap_31 : decode cX8_swap 31 = .ok (.iload_n 2, 1) := by decide +kernel
theorem dX8_swap_32 : decode cX8_swap 32 = .ok (.invokevirtual 142, 3) := by decide +kernel
theorem dX8_swap_35 : decode cX8_swap 35 = .ok (.bipush 10, 2) := by decide +kernel
theorem dX8_swap_37 : decode cX8_swap 37 = .ok (.aload_n 0, 1) := by decide +kernel
theorem dX8_swap_38 : decode cX8_swap 38 = .ok (.getfield 7, 3) := by decide +kernel
theorem dX8_swap_41 : decode cX8_swap 41 = .ok (.iconst 3, 1) := by decide +kernel
theorem dX8_swap_42 : decode cX8_swap 42 = .ok (.iload_n 1, 1) := by decide +kernel
theorem dX8_swap_43 : decode cX8_swap 43 = .ok (.iadd, 1) := by decide +kernel
theorem dX8_swap_44 : decode cX8_swap 44 = .ok (.iaload, 1) := by decide +kernel
theorem dX8_swap_45 : decode cX8_swap 45 = .ok (.imul, 1) := by decide +kernel
theorem dX8_swap_46 : decode cX8_swap 46 = .ok (.aload_n 0, 1) := by decide +kernel
theorem dX8_swap_47 : decode cX8_swap 47 = .ok (.getfield 7, 3) := by decide +kernel
theorem dX8_swap_50 : decode cX8_swap 50 = .ok (.iconst 3, 1) := by decide +kernel
theorem dX8_swap_51 : decode cX8_swap 51 = .ok (.iload_n 2, 1) := by decide +kernel
theorem dX8_swap_52 : decode cX8_swap 52 = .ok (.iadd, 1) := by decide +kernel
theorem dX8_swap_53 : decode cX8_swap 53 = .ok (.iaload, 1) := by decide +kernel
theorem dX8_swap_54 : decode cX8_swap 54 = .ok (.iadd, 1) := by decide +kernel
theorem dX8_swap_55 : decode cX8_swap 55 = .ok (.ireturn, 1) := by decide +kernel
set_option maxRecDepth 20000 in
theorem ggX8_night_X8_in : GoodIn wsX8_night wsX8_in := goodIn_r _ [8] (by decide +kernel) (by decide +kernel)
set_option maxRecDepth 20000 in
theorem gX8_night_X8_in : GoodIn wsX8_night (va_wsS RX8 55 yX8_in wsX8_in) := goodIn_app (goodIn_of _ (by decide +kernel)) ggX8_night_X8_in
set_option maxRecDepth 20000 in
theorem ggX8_night_X8_minds : GoodIn wsX8_night wsX8_minds := goodIn_r _ [12, 13, 1, 14, 15, 16, 7, 17, 18, 19, 20, 21, 22, 23, 24, 25, 26, 27, 28, 29, 30, 31, 32, 33, 34, 35, 36, 37, 38, 39, 40] (by decide +kernel) (by decide +kernel)
set_option maxRecDepth 20000 in
theorem gX8_night_X8_minds : GoodIn wsX8_night (wsV RX8 152 RX8 yX8_minds wsX8_minds) := goodIn_app (goodIn_of _ (by decide +kernel)) ggX8_night_X8_minds
theorem dX8_night_0 : decode cX8_night 0 = .ok (.aload_n 0, 1) := by decide +kernel
theorem dX8_night_1 : decode cX8_night 1 = .ok (.getfield 7, 3) := by decide +kernel
theorem dX8_night_4 : decode cX8_night 4 = .ok (.iconst 0, 1) := by decide +kernel
theorem dX8_night_5 : decode cX8_night 5 = .ok (.iaload, 1) := by decide +kernel
theorem dX8_night_6 : decode cX8_night 6 = .ok (.ifCond .ne 6, 3) := by decide +kernel
theorem dX8_night_9 : decode cX8_night 9 = .ok (.ldc 149, 2) := by decide +kernel
theorem dX8_night_11 : decode cX8_night 11 = .ok (.ireturn, 1) := by decide +kernel
theorem dX8_night_12 : decode cX8_night 12 = .ok (.iload_n 1, 1) := by decide +kernel
theorem dX8_night_13 : decode cX8_night 13 = .ok (.i2l, 1) := by decide +kernel
theorem dX8_night_14 : decode cX8_night 14 = .ok (.lconst 1, 1) := by decide +kernel
theorem dX8_night_15 : decode cX8_night 15 = .ok (.ldc2_w 161, 3) := by decide +kernel
theorem dX8_night_18 : decode cX8_night 18 = .ok (.invokestatic 55, 3) := by decide +kernel
theorem dX8_night_21 : decode cX8_night 21 = .ok (.ifCond .ne 6, 3) := by decide +kernel
theorem dX8_night_24 : decode cX8_night 24 = .ok (.ldc 72, 2) := by decide +kernel
theorem dX8_night_26 : decode cX8_night 26 = .ok (.ireturn, 1) := by decide +kernel
theorem dX8_night_27 : decode cX8_night 27 = .ok (.aload_n 0, 1) := by decide +kernel
theorem dX8_night_28 : decode cX8_night 28 = .ok (.invokevirtual 152, 3) := by decide +kernel
theorem dX8_night_31 : decode cX8_night 31 = .ok (.aload_n 0, 1) := by decide +kernel
theorem dX8_night_32 : decode cX8_night 32 = .ok (.getfield 7, 3) := by decide +kernel
theorem dX8_night_35 : decode cX8_night 35 = .ok (.iconst 1, 1) := by decide +kernel
theorem dX8_night_36 : decode cX8_night 36 = .ok (.iaload, 1) := by decide +kernel
theorem dX8_night_37 : decode cX8_night 37 = .ok (.istore_n 2, 1) := by decide +kernel
theorem dX8_night_38 : decode cX8_night 38 = .ok (.aload_n 0, 1) := by decide +kernel
theorem dX8_night_39 : decode cX8_night 39 = .ok (.getfield 7, 3) := by decide +kernel
theorem dX8_night_42 : decode cX8_night 42 = .ok (.iconst 1, 1) := by decide +kernel
theorem dX8_night_43 : decode cX8_night 43 = .ok (.iload_n 1, 1) := by decide +kernel
theorem dX8_night_44 : decode cX8_night 44 = .ok (.iastore, 1) := by decide +kernel
theorem dX8_night_45 : decode cX8_night 45 = .ok (.iload_n 2, 1) := by decide +kernel
theorem dX8_night_46 : decode cX8_night 46 = .ok (.ireturn, 1) := by decide +kernel
set_option maxRecDepth 20000 in
theorem ggX8_undo_X8_copyOf : GoodIn wsX8_undo wsX8_copyOf := goodIn_r _ [7, 8, 9, 10, 11, 12, 13, 14, 15, 16, 17, 18, 19, 20, 21, 22, 23, 24, 25, 26, 27, 28, 29, 30, 31] (by decide +kernel) (by decide +kernel)
set_option maxRecDepth 20000 in
theorem gX8_undo_X8_copyOf : GoodIn wsX8_undo (wsV RX8 132 RX8 yX8_copyOf wsX8_copyOf) := goodIn_app (goodIn_of _ (by decide +kernel)) ggX8_undo_X8_copyOf
theorem dX8_undo_0 : decode cX8_undo 0 = .ok (.aload_n 0, 1) := by decide +kernel
theorem dX8_undo_1 : decode cX8_undo 1 = .ok (.getfield 136, 3) := by decide +kernel
theorem dX8_undo_4 : decode cX8_undo 4 = .ok (.ifCond .ne 6, 3) := by decide +kernel
theorem dX8_undo_7 : decode cX8_undo 7 = .ok (.ldc 149, 2) := by decide +kernel
theorem dX8_undo_9 : decode cX8_undo 9 = .ok (.ireturn, 1) := by decide +kernel
theorem dX8_undo_10 : decode cX8_undo 10 = .ok (.aload_n 0, 1) := by decide +kernel
theorem dX8_undo_11 : decode cX8_undo 11 = .ok (.dup, 1) := by decide +kernel
theorem dX8_undo_12 : decode cX8_undo 12 = .ok (.getfield 136, 3) := by decide +kernel
theorem dX8_undo_15 : decode cX8_undo 15 = .ok (.iconst 1, 1) := by decide +kernel
theorem dX8_undo_16 : decode cX8_undo 16 = .ok (.isub, 1) := by decide +kernel
theorem dX8_undo_17 : decode cX8_undo 17 = .ok (.putfield 136, 3) := by decide +kernel
theorem dX8_undo_20 : decode cX8_undo 20 = .ok (.aload_n 0, 1) := by decide +kernel
theorem dX8_undo_21 : decode cX8_undo 21 = .ok (.bipush 85, 2) := by decide +kernel
theorem dX8_undo_23 : decode cX8_undo 23 = .ok (.bipush 9, 2) := by decide +kernel
theorem dX8_undo_25 : decode cX8_undo 25 = .ok (.aload_n 0, 1) := by decide +kernel
theorem dX8_undo_26 : decode cX8_undo 26 = .ok (.getfield 136, 3) := by decide +kernel
theorem dX8_undo_29 : decode cX8_undo 29 = .ok (.imul, 1) := by decide +kernel
theorem dX8_undo_30 : decode cX8_undo 30 = .ok (.iadd, 1) := by decide +kernel
theorem dX8_undo_31 : decode cX8_undo 31 = .ok (.iconst 1, 1) := by decide +kernel
theorem dX8_undo_32 : decode cX8_undo 32 = .ok (.bipush 9, 2) := by decide +kernel
theorem dX8_undo_34 : decode cX8_undo 34 = .ok (.invokevirtual 132, 3) := by decide +kernel
theorem dX8_undo_37 : decode cX8_undo 37 = .ok (.aload_n 0, 1) := by decide +kernel
theorem dX8_undo_38 : decode cX8_undo 38 = .ok (.getfield 136, 3) := by decide +kernel
theorem dX8_undo_41 : decode cX8_undo 41 = .ok (.ireturn, 1) := by decide +kernel
set_option maxRecDepth 20000 in
theorem ggX8_saint_X8_isSaint : GoodIn wsX8_saint wsX8_isSaint := goodIn_r _ [7, 2, 8, 9, 6, 10, 15, 16, 17, 18, 19, 20, 21, 22, 23, 24, 25, 26, 27, 28, 29, 30, 31, 32, 33, 34, 35, 36, 37] (by decide +kernel) (by decide +kernel)
set_option maxRecDepth 20000 in
theorem gX8_saint_X8_isSaint : GoodIn wsX8_saint (wsV RX8 158 RX8 yX8_isSaint wsX8_isSaint) := goodIn_app (goodIn_of _ (by decide +kernel)) ggX8_saint_X8_isSaint
set_option maxRecDepth 20000 in
theorem ggX8_saint_X8_in : GoodIn wsX8_saint wsX8_in := goodIn_r _ [10] (by decide +kernel) (by decide +kernel)
set_option maxRecDepth 20000 in
theorem gX8_saint_X8_in : GoodIn wsX8_saint (va_wsS RX8 55 yX8_in wsX8_in) := goodIn_app (goodIn_of _ (by decide +kernel)) ggX8_saint_X8_in
set_option maxRecDepth 20000 in
theorem ggX8_saint_X8_lets : GoodIn wsX8_saint wsX8_lets := goodIn_r _ [14, 2, 15, 16, 17, 18, 19, 20, 21, 22, 23, 24, 25, 26, 27, 28, 29, 30, 31, 32, 33, 34, 35, 36, 37] (by decide +kernel) (by decide +kernel)
set_option maxRecDepth 20000 in
theorem gX8_saint_X8_lets : GoodIn wsX8_saint (wsV RX8 139 RX8 yX8_lets wsX8_lets) := goodIn_app (goodIn_of _ (by decide +kernel)) ggX8_saint_X8_lets
theorem dX8_saint_0 : decode cX8_saint 0 = .ok (.aload_n 0, 1) := by decide +kernel
theorem dX8_saint_1 : decode cX8_saint 1 = .ok (.iload_n 1, 1) := by decide +kernel
theorem dX8_saint_2 : decode cX8_saint 2 = .ok (.invokevirtual 158, 3) := by decide +kernel
theorem dX8_saint_5 : decode cX8_saint 5 = .ok (.ifCond .eq 13, 3) := by decide +kernel
theorem dX8_saint_8 : decode cX8_saint 8 = .ok (.iload_n 2, 1) := by decide +kernel
theorem dX8_saint_9 : decode cX8_saint 9 = .ok (.i2l, 1) := by decide +kernel
theorem dX8_saint_10 : decode cX8_saint 10 = .ok (.lconst 0, 1) := by decide +kernel
theorem dX8_saint_11 : decode cX8_saint 11 = .ok (.lconst 1, 1) := by decide +kernel
theorem dX8_saint_12 : decode cX8_saint 12 = .ok (.invokestatic 55, 3) := by decide +kernel
theorem dX8_saint_15 : decode cX8_saint 15 = .ok (.ifCond .ne 6, 3) := by decide +kernel
theorem dX8_saint_18 : decode cX8_saint 18 = .ok (.ldc 72, 2) := by decide +kernel
theorem dX8_saint_20 : decode cX8_saint 20 = .ok (.ireturn, 1) := by decide +kernel
theorem dX8_saint_21 : decode cX8_saint 21 = .ok (.iload_n 2, 1) := by decide +kernel
theorem dX8_saint_22 : decode cX8_saint 22 = .ok (.ifCond .ne 14, 3) := by decide +kernel
theorem dX8_saint_25 : decode cX8_saint 25 = .ok (.aload_n 0, 1) := by decide +kernel
theorem dX8_saint_26 : decode cX8_saint 26 = .ok (.getfield 7, 3) := by decide +kernel
theorem dX8_saint_29 : decode cX8_saint 29 = .ok (.iconst 3, 1) := by decide +kernel
theorem dX8_saint_30 : decode cX8_saint 30 = .ok (.iload_n 1, 1) := by decide +kernel
theorem dX8_saint_31 : decode cX8_saint 31 = .ok (.iadd, 1) := by decide +kernel
theorem dX8_saint_32 : decode cX8_saint 32 = .ok (.iaload, 1) := by decide +kernel
theorem dX8_saint_33 : decode cX8_saint 33 = .ok (.goto 17, 3) := by decide +kernel
theorem dX8_saint_36 : decode cX8_saint 36 = .ok (.aload_n 0, 1) := by decide +kernel
theorem dX8_saint_37 : decode cX8_saint 37 = .ok (.iconst 0, 1) := by decide +kernel
theorem dX8_saint_38 : decode cX8_saint 38 = .ok (.iload_n 1, 1) := by decide +kernel
theorem dX8_saint_39 : decode cX8_saint 39 = .ok (.invokevirtual 139, 3) := by decide +kernel
theorem dX8_saint_42 : decode cX8_saint 42 = .ok (.ifCond .eq 7, 3) := by decide +kernel
theorem dX8_saint_45 : decode cX8_saint 45 = .ok (.iconst 1, 1) := by decide +kernel
theorem dX8_saint_46 : decode cX8_saint 46 = .ok (.goto 4, 3) := by decide +kernel
theorem dX8_saint_49 : decode cX8_saint 49 = .ok (.iconst 0, 1) := by decide +kernel
theorem dX8_saint_50 : decode cX8_saint 50 = .ok (.ireturn, 1) := by decide +kernel
theorem dX8_holderIn_0 : decode cX8_holderIn 0 = .ok (.iconst 0, 1) := by decide +kernel
theorem dX8_holderIn_1 : decode cX8_holderIn 1 = .ok (.istore_n 3, 1) := by decide +kernel
theorem dX8_holderIn_2 : decode cX8_holderIn 2 = .ok (.iload_n 3, 1) := by decide +kernel
theorem dX8_holderIn_3 : decode cX8_holderIn 3 = .ok (.aload_n 0, 1) := by decide +kernel
theorem dX8_holderIn_4 : decode cX8_holderIn 4 = .ok (.getfield 7, 3) := by decide +kernel
theorem dX8_holderIn_7 : decode cX8_holderIn 7 = .ok (.iload_n 1, 1) := by decide +kernel
theorem dX8_holderIn_8 : decode cX8_holderIn 8 = .ok (.iconst 0, 1) := by decide +kernel
theorem dX8_holderIn_9 : decode cX8_holderIn 9 = .ok (.iadd, 1) := by decide +kernel
theorem dX8_holderIn_10 : decode cX8_holderIn 10 = .ok (.iaload, 1) := by decide +kernel
theorem dX8_holderIn_11 : decode cX8_holderIn 11 = .ok (.if_icmp .ge 25, 3) := by decide +kernel
theorem dX8_holderIn_14 : decode cX8_holderIn 14 = .ok (.aload_n 0, 1) := by decide +kernel
theorem dX8_holderIn_15 : decode cX8_holderIn 15 = .ok (.getfield 7, 3) := by decide +kernel
theorem dX8_holderIn_18 : decode cX8_holderIn 18 = .ok (.iload_n 1, 1) := by decide +kernel
theorem dX8_holderIn_19 : decode cX8_holderIn 19 = .ok (.iconst 3, 1) := by decide +kernel
theorem dX8_holderIn_20 : decode cX8_holderIn 20 = .ok (.iadd, 1) := by decide +kernel
theorem dX8_holderIn_21 : decode cX8_holderIn 21 = .ok (.iload_n 3, 1) := by decide +kernel
theorem dX8_holderIn_22 : decode cX8_holderIn 22 = .ok (.iadd, 1) := by decide +kernel
theorem dX8_holderIn_23 : decode cX8_holderIn 23 = .ok (.iaload, 1) := by decide +kernel
theorem dX8_holderIn_24 : decode cX8_holderIn 24 = .ok (.iload_n 2, 1) := by decide +kernel
theorem dX8_holderIn_25 : decode cX8_holderIn 25 = .ok (.if_icmp .ne 5, 3) := by decide +kernel
theorem dX8_holderIn_28 : decode cX8_holderIn 28 = .ok (.iload_n 3, 1) := by decide +kernel
theorem dX8_holderIn_29 : decode cX8_holderIn 29 = .ok (.ireturn, 1) := by decide +kernel
theorem dX8_holderIn_30 : decode cX8_holderIn 30 = .ok (.iinc 3 1, 3) := by decide +kernel
theorem dX8_holderIn_33 : decode cX8_holderIn 33 = .ok (.goto (-31), 3) := by decide +kernel
theorem dX8_holderIn_36 : decode cX8_holderIn 36 = .ok (.ldc 163, 2) := by decide +kernel
theorem dX8_holderIn_38 : decode cX8_holderIn 38 = .ok (.ireturn, 1) := by decide +kernel
set_option maxRecDepth 20000 in
theorem ggX8_holder_X8_in : GoodIn wsX8_holder wsX8_in := goodIn_r _ [6] (by decide +kernel) (by decide +kernel)
set_option maxRecDepth 20000 in
theorem gX8_holder_X8_in : GoodIn wsX8_holder (va_wsS RX8 55 yX8_in wsX8_in) := goodIn_app (goodIn_of _ (by decide +kernel)) ggX8_holder_X8_in
set_option maxRecDepth 20000 in
theorem ggX8_holder_X8_holderIn : GoodIn wsX8_holder wsX8_holderIn := goodIn_r _ [10, 11, 12, 13, 14, 15, 16, 17, 18, 19, 20, 21, 22, 23, 24, 25, 26, 27, 28, 29, 30, 31, 32, 33, 34, 35] (by decide +kernel) (by decide +kernel)
set_option maxRecDepth 20000 in
theorem gX8_holder_X8_holderIn : GoodIn wsX8_holder (wsV RX8 164 RX8 yX8_holderIn wsX8_holderIn) := goodIn_app (goodIn_of _ (by decide +kernel)) ggX8_holder_X8_holderIn
theorem dX8_holder_0 : decode cX8_holder 0 = .ok (.iload_n 1, 1) := by decide +kernel
theorem dX8_holder_1 : decode cX8_holder 1 = .ok (.i2l, 1) := by decide +kernel
theorem dX8_holder_2 : decode cX8_holder 2 = .ok (.lconst 1, 1) := by decide +kernel
theorem dX8_holder_3 : decode cX8_holder 3 = .ok (.ldc2_w 161, 3) := by decide +kernel
theorem dX8_holder_6 : decode cX8_holder 6 = .ok (.invokestatic 55, 3) := by decide +kernel
theorem dX8_holder_9 : decode cX8_holder 9 = .ok (.ifCond .eq 12, 3) := by decide +kernel
theorem dX8_holder_12 : decode cX8_holder 12 = .ok (.aload_n 0, 1) := by decide +kernel
theorem dX8_holder_13 : decode cX8_holder 13 = .ok (.iconst 0, 1) := by decide +kernel
theorem dX8_holder_14 : decode cX8_holder 14 = .ok (.iload_n 1, 1) := by decide +kernel
theorem dX8_holder_15 : decode cX8_holder 15 = .ok (.invokevirtual 164, 3) := by decide +kernel
theorem dX8_holder_18 : decode cX8_holder 18 = .ok (.goto 5, 3) := by decide +kernel
theorem dX8_holder_21 : decode cX8_holder 21 = .ok (.ldc 72, 2) := by decide +kernel
theorem dX8_holder_23 : decode cX8_holder 23 = .ok (.ireturn, 1) := by decide +kernel
set_option maxRecDepth 20000 in
theorem ggX8_tries_X8_copyOf : GoodIn wsX8_tries wsX8_copyOf := goodIn_r _ [5, 6, 7, 8, 9, 10, 11, 12, 13, 14, 15, 16, 17, 18, 19, 20, 21, 22, 23, 24, 25, 26, 27, 28, 29] (by decide +kernel) (by decide +kernel)
set_option maxRecDepth 20000 in
theorem gX8_tries_X8_copyOf : GoodIn wsX8_tries (wsV RX8 132 RX8 yX8_copyOf wsX8_copyOf) := goodIn_app (goodIn_of _ (by decide +kernel)) ggX8_tries_X8_copyOf
theorem dX8_tries_0 : decode cX8_tries 0 = .ok (.aload_n 0, 1) := by decide +kernel
theorem dX8_tries_1 : decode cX8_tries 1 = .ok (.iconst 0, 1) := by decide +kernel
theorem dX8_tries_2 : decode cX8_tries 2 = .ok (.bipush 17, 2) := by decide +kernel
theorem dX8_tries_4 : decode cX8_tries 4 = .ok (.bipush 17, 2) := by decide +kernel
theorem dX8_tries_6 : decode cX8_tries 6 = .ok (.invokevirtual 132, 3) := by decide +kernel
theorem dX8_tries_9 : decode cX8_tries 9 = .ok (.return_, 1) := by decide +kernel
set_option maxRecDepth 20000 in
theorem ggX8_goesOn_X8_stepsBy : GoodIn wsX8_goesOn wsX8_stepsBy := goodIn_r _ [5, 6, 7, 8, 4, 9, 10, 11, 12, 13, 14, 15, 16, 17, 18, 19, 20, 21, 22, 23, 24, 25, 26, 27, 28, 29, 30, 31, 32, 33, 34, 35, 36, 37, 38, 39, 40, 41, 42, 43, 44, 45, 46, 47] (by decide +kernel) (by decide +kernel)
set_option maxRecDepth 20000 in
theorem gX8_goesOn_X8_stepsBy : GoodIn wsX8_goesOn (wsV RX8 155 RX8 yX8_stepsBy wsX8_stepsBy) := goodIn_app (goodIn_of _ (by decide +kernel)) ggX8_goesOn_X8_stepsBy
theorem dX8_goesOn_0 : decode cX8_goesOn 0 = .ok (.iconst 0, 1) := by decide +kernel
theorem dX8_goesOn_1 : decode cX8_goesOn 1 = .ok (.istore_n 2, 1) := by decide +kernel
theorem dX8_goesOn_2 : decode cX8_goesOn 2 = .ok (.iload_n 2, 1) := by decide +kernel
theorem dX8_goesOn_3 : decode cX8_goesOn 3 = .ok (.iload_n 1, 1) := by decide +kernel
theorem dX8_goesOn_4 : decode cX8_goesOn 4 = .ok (.if_icmp .ge 16, 3) := by decide +kernel
theorem dX8_goesOn_7 : decode cX8_goesOn 7 = .ok (.aload_n 0, 1) := by decide +kernel
theorem dX8_goesOn_8 : decode cX8_goesOn 8 = .ok (.bipush 17, 2) := by decide +kernel
theorem dX8_goesOn_10 : decode cX8_goesOn 10 = .ok (.iconst 0, 1) := by decide +kernel
theorem dX8_goesOn_11 : decode cX8_goesOn 11 = .ok (.invokevirtual 155, 3) := by decide +kernel
theorem dX8_goesOn_14 : decode cX8_goesOn 14 = .ok (.iinc 2 1, 3) := by decide +kernel
theorem dX8_goesOn_17 : decode cX8_goesOn 17 = .ok (.goto (-15), 3) := by decide +kernel
theorem dX8_goesOn_20 : decode cX8_goesOn 20 = .ok (.return_, 1) := by decide +kernel
set_option maxRecDepth 20000 in
theorem ggX8_ahead_X8_isSaint : GoodIn wsX8_ahead wsX8_isSaint := goodIn_r _ [8, 3, 9, 10, 7, 11, 43, 44, 45, 46, 47, 48, 49, 50, 51, 52, 53, 54, 55, 56, 57, 58, 59, 60, 61, 62, 63, 64, 65] (by decide +kernel) (by decide +kernel)
set_option maxRecDepth 20000 in
theorem gX8_ahead_X8_isSaint : GoodIn wsX8_ahead (wsV RX8 158 RX8 yX8_isSaint wsX8_isSaint) := goodIn_app (goodIn_of _ (by decide +kernel)) ggX8_ahead_X8_isSaint
set_option maxRecDepth 20000 in
theorem ggX8_ahead_X8_in : GoodIn wsX8_ahead wsX8_in := goodIn_r _ [11] (by decide +kernel) (by decide +kernel)
set_option maxRecDepth 20000 in
theorem gX8_ahead_X8_in : GoodIn wsX8_ahead (va_wsS RX8 55 yX8_in wsX8_in) := goodIn_app (goodIn_of _ (by decide +kernel)) ggX8_ahead_X8_in
set_option maxRecDepth 20000 in
theorem ggX8_ahead_X8_tries : GoodIn wsX8_ahead wsX8_tries := goodIn_r _ [15, 16, 17, 18, 7, 19, 3, 43, 44, 45, 46, 47, 48, 49, 50, 51, 52, 53, 54, 55, 56, 57, 58, 59, 60, 61, 62, 63, 64, 65] (by decide +kernel) (by decide +kernel)
set_option maxRecDepth 20000 in
theorem gX8_ahead_X8_tries : GoodIn wsX8_ahead (wsV RX8 170 RX8 yX8_tries wsX8_tries) := goodIn_app (goodIn_of _ (by decide +kernel)) ggX8_ahead_X8_tries
set_option maxRecDepth 20000 in
theorem ggX8_ahead_X8_goesOn : GoodIn wsX8_ahead wsX8_goesOn := goodIn_r _ [23, 24, 25, 26, 7, 27, 3, 28, 29, 30, 31, 32, 33, 34, 35, 36, 37, 38, 39, 40, 41, 42, 9, 10, 11, 43, 44, 45, 46, 47, 48, 49, 50, 51, 52, 53, 54, 55, 56, 57, 58, 59, 60, 61, 62, 63, 64, 65] (by decide +kernel) (by decide +kernel)
set_option maxRecDepth 20000 in
theorem gX8_ahead_X8_goesOn : GoodIn wsX8_ahead (wsV RX8 173 RX8 yX8_goesOn wsX8_goesOn) := goodIn_app (goodIn_of _ (by decide +kernel)) ggX8_ahead_X8_goesOn
theorem dX8_ahead_0 : decode cX8_ahead 0 = .ok (.aload_n 0, 1) := by decide +kernel
theorem dX8_ahead_1 : decode cX8_ahead 1 = .ok (.iload_n 1, 1) := by decide +kernel
theorem dX8_ahead_2 : decode cX8_ahead 2 = .ok (.invokevirtual 158, 3) := by decide +kernel
theorem dX8_ahead_5 : decode cX8_ahead 5 = .ok (.ifCond .eq 15, 3) := by decide +kernel
theorem dX8_ahead_8 : decode cX8_ahead 8 = .ok (.iload_n 2, 1) := by decide +kernel
theorem dX8_ahead_9 : decode cX8_ahead 9 = .ok (.i2l, 1) := by decide +kernel
theorem dX8_ahead_10 : decode cX8_ahead 10 = .ok (.lconst 0, 1) := by decide +kernel
theorem dX8_ahead_11 : decode cX8_ahead 11 = .ok (.ldc2_w 168, 3) := by decide +kernel
theorem dX8_ahead_14 : decode cX8_ahead 14 = .ok (.invokestatic 55, 3) := by decide +kernel
theorem dX8_ahead_17 : decode cX8_ahead 17 = .ok (.ifCond .ne 6, 3) := by decide +kernel
theorem dX8_ahead_20 : decode cX8_ahead 20 = .ok (.ldc 72, 2) := by decide +kernel
theorem dX8_ahead_22 : decode cX8_ahead 22 = .ok (.ireturn, 1) := by decide +kernel
theorem dX8_ahead_23 : decode cX8_ahead 23 = .ok (.aload_n 0, 1) := by decide +kernel
theorem dX8_ahead_24 : decode cX8_ahead 24 = .ok (.invokevirtual 170, 3) := by decide +kernel
theorem dX8_ahead_27 : decode cX8_ahead 27 = .ok (.aload_n 0, 1) := by decide +kernel
theorem dX8_ahead_28 : decode cX8_ahead 28 = .ok (.iload_n 2, 1) := by decide +kernel
theorem dX8_ahead_29 : decode cX8_ahead 29 = .ok (.invokevirtual 173, 3) := by decide +kernel
theorem dX8_ahead_32 : decode cX8_ahead 32 = .ok (.aload_n 0, 1) := by decide +kernel
theorem dX8_ahead_33 : decode cX8_ahead 33 = .ok (.getfield 7, 3) := by decide +kernel
theorem dX8_ahead_36 : decode cX8_ahead 36 = .ok (.bipush 20, 2) := by decide +kernel
theorem dX8_ahead_38 : decode cX8_ahead 38 = .ok (.iload_n 1, 1) := by decide +kernel
theorem dX8_ahead_39 : decode cX8_ahead 39 = .ok (.iadd, 1) := by decide +kernel
theorem dX8_ahead_40 : decode cX8_ahead 40 = .ok (.iaload, 1) := by decide +kernel
theorem dX8_ahead_41 : decode cX8_ahead 41 = .ok (.ireturn, 1) := by decide +kernel
set_option maxRecDepth 20000 in
theorem ggX8_when_X8_isSaint : GoodIn wsX8_when wsX8_isSaint := goodIn_r _ [9, 3, 10, 11, 8, 12, 40, 41, 42, 43, 44, 45, 46, 47, 48, 49, 50, 51, 52, 53, 54, 55, 56, 57, 58, 59, 60, 61, 62] (by decide +kernel) (by decide +kernel)
set_option maxRecDepth 20000 in
theorem gX8_when_X8_isSaint : GoodIn wsX8_when (wsV RX8 158 RX8 yX8_isSaint wsX8_isSaint) := goodIn_app (goodIn_of _ (by decide +kernel)) ggX8_when_X8_isSaint
set_option maxRecDepth 20000 in
theorem ggX8_when_X8_in : GoodIn wsX8_when wsX8_in := goodIn_r _ [12] (by decide +kernel) (by decide +kernel)
set_option maxRecDepth 20000 in
theorem gX8_when_X8_in : GoodIn wsX8_when (va_wsS RX8 55 yX8_in wsX8_in) := goodIn_app (goodIn_of _ (by decide +kernel)) ggX8_when_X8_in
set_option maxRecDepth 20000 in
theorem ggX8_when_X8_tries : GoodIn wsX8_when wsX8_tries := goodIn_r _ [16, 17, 18, 19, 8, 20, 3, 40, 41, 42, 43, 44, 45, 46, 47, 48, 49, 50, 51, 52, 53, 54, 55, 56, 57, 58, 59, 60, 61, 62] (by decide +kernel) (by decide +kernel)
set_option maxRecDepth 20000 in
theorem gX8_when_X8_tries : GoodIn wsX8_when (wsV RX8 170 RX8 yX8_tries wsX8_tries) := goodIn_app (goodIn_of _ (by decide +kernel)) ggX8_when_X8_tries
set_option maxRecDepth 20000 in
theorem ggX8_when_X8_stepsBy : GoodIn wsX8_when wsX8_stepsBy := goodIn_r _ [24, 3, 25, 26, 8, 27, 28, 29, 30, 31, 32, 33, 34, 35, 36, 37, 38, 39, 10, 11, 12, 40, 41, 42, 43, 44, 45, 46, 47, 48, 49, 50, 51, 52, 53, 54, 55, 56, 57, 58, 59, 60, 61, 62] (by decide +kernel) (by decide +kernel)
set_option maxRecDepth 20000 in
theorem gX8_when_X8_stepsBy : GoodIn wsX8_when (wsV RX8 155 RX8 yX8_stepsBy wsX8_stepsBy) := goodIn_app (goodIn_of _ (by decide +kernel)) ggX8_when_X8_stepsBy
theorem dX8_when_0 : decode cX8_when 0 = .ok (.aload_n 0, 1) := by decide +kernel
theorem dX8_when_1 : decode cX8_when 1 = .ok (.iload_n 1, 1) := by decide +kernel
theorem dX8_when_2 : decode cX8_when 2 = .ok (.invokevirtual 158, 3) := by decide +kernel
theorem dX8_when_5 : decode cX8_when 5 = .ok (.ifCond .eq 15, 3) := by decide +kernel
theorem dX8_when_8 : decode cX8_when 8 = .ok (.iload_n 2, 1) := by decide +kernel
theorem dX8_when_9 : decode cX8_when 9 = .ok (.i2l, 1) := by decide +kernel
theorem dX8_when_10 : decode cX8_when 10 = .ok (.lconst 1, 1) := by decide +kernel
theorem dX8_when_11 : decode cX8_when 11 = .ok (.ldc2_w 161, 3) := by decide +kernel
theorem dX8_when_14 : decode cX8_when 14 = .ok (.invokestatic 55, 3) := by decide +kernel
theorem dX8_when_17 : decode cX8_when 17 = .ok (.ifCond .ne 6, 3) := by decide +kernel
theorem dX8_when_20 : decode cX8_when 20 = .ok (.ldc 72, 2) := by decide +kernel
theorem dX8_when_22 : decode cX8_when 22 = .ok (.ireturn, 1) := by decide +kernel
theorem dX8_when_23 : decode cX8_when 23 = .ok (.aload_n 0, 1) := by decide +kernel
theorem dX8_when_24 : decode cX8_when 24 = .ok (.invokevirtual 170, 3) := by decide +kernel
theorem dX8_when_27 : decode cX8_when 27 = .ok (.iconst 0, 1) := by decide +kernel
theorem dX8_when_28 : decode cX8_when 28 = .ok (.istore_n 3, 1) := by decide +kernel
theorem dX8_when_29 : decode cX8_when 29 = .ok (.iload_n 3, 1) := by decide +kernel
theorem dX8_when_30 : decode cX8_when 30 = .ok (.bipush 60, 2) := by decide +kernel
theorem dX8_when_32 : decode cX8_when 32 = .ok (.if_icmp .gt 31, 3) := by decide +kernel
theorem dX8_when_35 : decode cX8_when 35 = .ok (.aload_n 0, 1) := by decide +kernel
theorem dX8_when_36 : decode cX8_when 36 = .ok (.getfield 7, 3) := by decide +kernel
theorem dX8_when_39 : decode cX8_when 39 = .ok (.bipush 20, 2) := by decide +kernel
theorem dX8_when_41 : decode cX8_when 41 = .ok (.iload_n 1, 1) := by decide +kernel
theorem dX8_when_42 : decode cX8_when 42 = .ok (.iadd, 1) := by decide +kernel
theorem dX8_when_43 : decode cX8_when 43 = .ok (.iaload, 1) := by decide +kernel
theorem dX8_when_44 : decode cX8_when 44 = .ok (.iload_n 2, 1) := by decide +kernel
theorem dX8_when_45 : decode cX8_when 45 = .ok (.if_icmp .ne 5, 3) := by decide +kernel
theorem dX8_when_48 : decode cX8_when 48 = .ok (.iload_n 3, 1) := by decide +kernel
theorem dX8_when_49 : decode cX8_when 49 = .ok (.ireturn, 1) := by decide +kernel
theorem dX8_when_50 : decode cX8_when 50 = .ok (.aload_n 0, 1) := by decide +kernel
theorem dX8_when_51 : decode cX8_when 51 = .ok (.bipush 17, 2) := by decide +kernel
theorem dX8_when_53 : decode cX8_when 53 = .ok (.iconst 0, 1) := by decide +kernel
theorem dX8_when_54 : decode cX8_when 54 = .ok (.invokevirtual 155, 3) := by decide +kernel
theorem dX8_when_57 : decode cX8_when 57 = .ok (.iinc 3 1, 3) := by decide +kernel
theorem dX8_when_60 : decode cX8_when 60 = .ok (.goto (-31), 3) := by decide +kernel
theorem dX8_when_63 : decode cX8_when 63 = .ok (.ldc 163, 2) := by decide +kernel
theorem dX8_when_65 : decode cX8_when 65 = .ok (.ireturn, 1) := by decide +kernel
set_option maxRecDepth 20000 in
theorem ggX8_toMatins_X8_stepsBy : GoodIn wsX8_toMatins wsX8_stepsBy := goodIn_r _ [6, 1, 7, 8, 5, 9, 10, 11, 12, 13, 14, 15, 16, 17, 18, 19, 20, 21, 22, 23, 24, 25, 26, 27, 28, 29, 30, 31, 32, 33, 34, 35, 36, 37, 38, 39, 40, 41, 42, 43, 44, 45, 46, 47] (by decide +kernel) (by decide +kernel)
set_option maxRecDepth 20000 in
theorem gX8_toMatins_X8_stepsBy : GoodIn wsX8_toMatins (wsV RX8 155 RX8 yX8_stepsBy wsX8_stepsBy) := goodIn_app (goodIn_of _ (by decide +kernel)) ggX8_toMatins_X8_stepsBy
theorem dX8_toMatins_0 : decode cX8_toMatins 0 = .ok (.aload_n 0, 1) := by decide +kernel
theorem dX8_toMatins_1 : decode cX8_toMatins 1 = .ok (.bipush 17, 2) := by decide +kernel
theorem dX8_toMatins_3 : decode cX8_toMatins 3 = .ok (.iconst 0, 1) := by decide +kernel
theorem dX8_toMatins_4 : decode cX8_toMatins 4 = .ok (.invokevirtual 155, 3) := by decide +kernel
theorem dX8_toMatins_7 : decode cX8_toMatins 7 = .ok (.aload_n 0, 1) := by decide +kernel
theorem dX8_toMatins_8 : decode cX8_toMatins 8 = .ok (.getfield 7, 3) := by decide +kernel
theorem dX8_toMatins_11 : decode cX8_toMatins 11 = .ok (.bipush 19, 2) := by decide +kernel
theorem dX8_toMatins_13 : decode cX8_toMatins 13 = .ok (.iaload, 1) := by decide +kernel
theorem dX8_toMatins_14 : decode cX8_toMatins 14 = .ok (.aload_n 0, 1) := by decide +kernel
theorem dX8_toMatins_15 : decode cX8_toMatins 15 = .ok (.getfield 7, 3) := by decide +kernel
theorem dX8_toMatins_18 : decode cX8_toMatins 18 = .ok (.bipush 18, 2) := by decide +kernel
theorem dX8_toMatins_20 : decode cX8_toMatins 20 = .ok (.iaload, 1) := by decide +kernel
theorem dX8_toMatins_21 : decode cX8_toMatins 21 = .ok (.irem, 1) := by decide +kernel
theorem dX8_toMatins_22 : decode cX8_toMatins 22 = .ok (.ifCond .eq 13, 3) := by decide +kernel
theorem dX8_toMatins_25 : decode cX8_toMatins 25 = .ok (.aload_n 0, 1) := by decide +kernel
theorem dX8_toMatins_26 : decode cX8_toMatins 26 = .ok (.bipush 17, 2) := by decide +kernel
theorem dX8_toMatins_28 : decode cX8_toMatins 28 = .ok (.iconst 0, 1) := by decide +kernel
theorem dX8_toMatins_29 : decode cX8_toMatins 29 = .ok (.invokevirtual 155, 3) := by decide +kernel
theorem dX8_toMatins_32 : decode cX8_toMatins 32 = .ok (.goto (-25), 3) := by decide +kernel
theorem dX8_toMatins_35 : decode cX8_toMatins 35 = .ok (.return_, 1) := by decide +kernel
set_option maxRecDepth 20000 in
theorem ggX8_pray_X8_in : GoodIn wsX8_pray wsX8_in := goodIn_r _ [8] (by decide +kernel) (by decide +kernel)
set_option maxRecDepth 20000 in
theorem gX8_pray_X8_in : GoodIn wsX8_pray (va_wsS RX8 55 yX8_in wsX8_in) := goodIn_app (goodIn_of _ (by decide +kernel)) ggX8_pray_X8_in
set_option maxRecDepth 20000 in
theorem ggX8_pray_X8_tries : GoodIn wsX8_pray wsX8_tries := goodIn_r _ [12, 13, 14, 15, 7, 16, 1, 45, 46, 47, 48, 49, 50, 51, 52, 53, 54, 55, 56, 57, 58, 59, 60, 61, 62, 63, 64, 65, 66, 67] (by decide +kernel) (by decide +kernel)
set_option maxRecDepth 20000 in
theorem gX8_pray_X8_tries : GoodIn wsX8_pray (wsV RX8 170 RX8 yX8_tries wsX8_tries) := goodIn_app (goodIn_of _ (by decide +kernel)) ggX8_pray_X8_tries
set_option maxRecDepth 20000 in
theorem ggX8_pray_X8_toMatins : GoodIn wsX8_pray wsX8_toMatins := goodIn_r _ [20, 1, 21, 22, 23, 7, 24, 25, 26, 27, 28, 29, 30, 31, 32, 33, 34, 35, 36, 37, 38, 39, 5, 6, 8, 45, 46, 47, 48, 49, 50, 51, 52, 53, 54, 55, 56, 57, 58, 59, 60, 61, 62, 63, 64, 65, 66, 67] (by decide +kernel) (by decide +kernel)
set_option maxRecDepth 20000 in
theorem gX8_pray_X8_toMatins : GoodIn wsX8_pray (wsV RX8 177 RX8 yX8_toMatins wsX8_toMatins) := goodIn_app (goodIn_of _ (by decide +kernel)) ggX8_pray_X8_toMatins
set_option maxRecDepth 20000 in
theorem ggX8_pray_X8_holderIn : GoodIn wsX8_pray wsX8_holderIn := goodIn_r _ [43, 1, 44, 45, 46, 47, 48, 49, 50, 51, 52, 53, 54, 55, 56, 57, 58, 59, 60, 61, 62, 63, 64, 65, 66, 67] (by decide +kernel) (by decide +kernel)
set_option maxRecDepth 20000 in
theorem gX8_pray_X8_holderIn : GoodIn wsX8_pray (wsV RX8 164 RX8 yX8_holderIn wsX8_holderIn) := goodIn_app (goodIn_of _ (by decide +kernel)) ggX8_pray_X8_holderIn
theorem dX8_pray_0 : decode cX8_pray 0 = .ok (.aload_n 0, 1) := by decide +kernel
theorem dX8_pray_1 : decode cX8_pray 1 = .ok (.getfield 7, 3) := by decide +kernel
theorem dX8_pray_4 : decode cX8_pray 4 = .ok (.iconst 0, 1) := by decide +kernel
theorem dX8_pray_5 : decode cX8_pray 5 = .ok (.iaload, 1) := by decide +kernel
theorem dX8_pray_6 : decode cX8_pray 6 = .ok (.ifCond .ne 6, 3) := by decide +kernel
theorem dX8_pray_9 : decode cX8_pray 9 = .ok (.ldc 149, 2) := by decide +kernel
theorem dX8_pray_11 : decode cX8_pray 11 = .ok (.ireturn, 1) := by decide +kernel
theorem dX8_pray_12 : decode cX8_pray 12 = .ok (.iload_n 1, 1) := by decide +kernel
theorem dX8_pray_13 : decode cX8_pray 13 = .ok (.i2l, 1) := by decide +kernel
theorem dX8_pray_14 : decode cX8_pray 14 = .ok (.lconst 1, 1) := by decide +kernel
theorem dX8_pray_15 : decode cX8_pray 15 = .ok (.ldc2_w 161, 3) := by decide +kernel
theorem dX8_pray_18 : decode cX8_pray 18 = .ok (.invokestatic 55, 3) := by decide +kernel
theorem dX8_pray_21 : decode cX8_pray 21 = .ok (.ifCond .ne 6, 3) := by decide +kernel
theorem dX8_pray_24 : decode cX8_pray 24 = .ok (.ldc 72, 2) := by decide +kernel
theorem dX8_pray_26 : decode cX8_pray 26 = .ok (.ireturn, 1) := by decide +kernel
theorem dX8_pray_27 : decode cX8_pray 27 = .ok (.aload_n 0, 1) := by decide +kernel
theorem dX8_pray_28 : decode cX8_pray 28 = .ok (.invokevirtual 170, 3) := by decide +kernel
theorem dX8_pray_31 : decode cX8_pray 31 = .ok (.aload_n 0, 1) := by decide +kernel
theorem dX8_pray_32 : decode cX8_pray 32 = .ok (.invokevirtual 177, 3) := by decide +kernel
theorem dX8_pray_35 : decode cX8_pray 35 = .ok (.aload_n 0, 1) := by decide +kernel
theorem dX8_pray_36 : decode cX8_pray 36 = .ok (.bipush 17, 2) := by decide +kernel
theorem dX8_pray_38 : decode cX8_pray 38 = .ok (.iload_n 1, 1) := by decide +kernel
theorem dX8_pray_39 : decode cX8_pray 39 = .ok (.invokevirtual 164, 3) := by decide +kernel
theorem dX8_pray_42 : decode cX8_pray 42 = .ok (.ireturn, 1) := by decide +kernel
set_option maxRecDepth 20000 in
theorem ggX8_round_X8_tries : GoodIn wsX8_round wsX8_tries := goodIn_r _ [8, 9, 10, 11, 7, 12, 1, 35, 36, 37, 38, 39, 40, 41, 42, 43, 44, 45, 46, 47, 48, 49, 50, 51, 52, 53, 54, 55, 56, 57] (by decide +kernel) (by decide +kernel)
set_option maxRecDepth 20000 in
theorem gX8_round_X8_tries : GoodIn wsX8_round (wsV RX8 170 RX8 yX8_tries wsX8_tries) := goodIn_app (goodIn_of _ (by decide +kernel)) ggX8_round_X8_tries
set_option maxRecDepth 20000 in
theorem ggX8_round_X8_stepsBy : GoodIn wsX8_round wsX8_stepsBy := goodIn_r _ [16, 1, 17, 18, 7, 19, 20, 21, 22, 23, 24, 25, 26, 27, 28, 29, 30, 31, 32, 33, 34, 35, 36, 37, 38, 39, 40, 41, 42, 43, 44, 45, 46, 47, 48, 49, 50, 51, 52, 53, 54, 55, 56, 57] (by decide +kernel) (by decide +kernel)
set_option maxRecDepth 20000 in
theorem gX8_round_X8_stepsBy : GoodIn wsX8_round (wsV RX8 155 RX8 yX8_stepsBy wsX8_stepsBy) := goodIn_app (goodIn_of _ (by decide +kernel)) ggX8_round_X8_stepsBy
theorem dX8_round_0 : decode cX8_round 0 = .ok (.aload_n 0, 1) := by decide +kernel
theorem dX8_round_1 : decode cX8_round 1 = .ok (.getfield 7, 3) := by decide +kernel
theorem dX8_round_4 : decode cX8_round 4 = .ok (.iconst 0, 1) := by decide +kernel
theorem dX8_round_5 : decode cX8_round 5 = .ok (.iaload, 1) := by decide +kernel
theorem dX8_round_6 : decode cX8_round 6 = .ok (.ifCond .ne 6, 3) := by decide +kernel
theorem dX8_round_9 : decode cX8_round 9 = .ok (.ldc 149, 2) := by decide +kernel
theorem dX8_round_11 : decode cX8_round 11 = .ok (.ireturn, 1) := by decide +kernel
theorem dX8_round_12 : decode cX8_round 12 = .ok (.aload_n 0, 1) := by decide +kernel
theorem dX8_round_13 : decode cX8_round 13 = .ok (.invokevirtual 170, 3) := by decide +kernel
theorem dX8_round_16 : decode cX8_round 16 = .ok (.iconst 1, 1) := by decide +kernel
theorem dX8_round_17 : decode cX8_round 17 = .ok (.istore_n 1, 1) := by decide +kernel
theorem dX8_round_18 : decode cX8_round 18 = .ok (.iload_n 1, 1) := by decide +kernel
theorem dX8_round_19 : decode cX8_round 19 = .ok (.sipush 200, 3) := by decide +kernel
theorem dX8_round_22 : decode cX8_round 22 = .ok (.if_icmp .gt 72, 3) := by decide +kernel
theorem dX8_round_25 : decode cX8_round 25 = .ok (.aload_n 0, 1) := by decide +kernel
theorem dX8_round_26 : decode cX8_round 26 = .ok (.bipush 17, 2) := by decide +kernel
theorem dX8_round_28 : decode cX8_round 28 = .ok (.iconst 0, 1) := by decide +kernel
theorem dX8_round_29 : decode cX8_round 29 = .ok (.invokevirtual 155, 3) := by decide +kernel
theorem dX8_round_32 : decode cX8_round 32 = .ok (.iconst 1, 1) := by decide +kernel
theorem dX8_round_33 : decode cX8_round 33 = .ok (.istore_n 2, 1) := by decide +kernel
theorem dX8_round_34 : decode cX8_round 34 = .ok (.iconst 0, 1) := by decide +kernel
theorem dX8_round_35 : decode cX8_round 35 = .ok (.istore_n 3, 1) := by decide +kernel
theorem dX8_round_36 : decode cX8_round 36 = .ok (.iload_n 3, 1) := by decide +kernel
theorem dX8_round_37 : decode cX8_round 37 = .ok (.aload_n 0, 1) := by decide +kernel
theorem dX8_round_38 : decode cX8_round 38 = .ok (.getfield 7, 3) := by decide +kernel
theorem dX8_round_41 : decode cX8_round 41 = .ok (.iconst 0, 1) := by decide +kernel
theorem dX8_round_42 : decode cX8_round 42 = .ok (.iaload, 1) := by decide +kernel
theorem dX8_round_43 : decode cX8_round 43 = .ok (.if_icmp .ge 39, 3) := by decide +kernel
theorem dX8_round_46 : decode cX8_round 46 = .ok (.iload_n 2, 1) := by decide +kernel
theorem dX8_round_47 : decode cX8_round 47 = .ok (.ifCond .eq 27, 3) := by decide +kernel
theorem dX8_round_50 : decode cX8_round 50 = .ok (.aload_n 0, 1) := by decide +kernel
theorem dX8_round_51 : decode cX8_round 51 = .ok (.getfield 7, 3) := by decide +kernel
theorem dX8_round_54 : decode cX8_round 54 = .ok (.bipush 20, 2) := by decide +kernel
theorem dX8_round_56 : decode cX8_round 56 = .ok (.iload_n 3, 1) := by decide +kernel
theorem dX8_round_57 : decode cX8_round 57 = .ok (.iadd, 1) := by decide +kernel
theorem dX8_round_58 : decode cX8_round 58 = .ok (.iaload, 1) := by decide +kernel
theorem dX8_round_59 : decode cX8_round 59 = .ok (.aload_n 0, 1) := by decide +kernel
theorem dX8_round_60 : decode cX8_round 60 = .ok (.getfield 7, 3) := by decide +kernel
theorem dX8_round_63 : decode cX8_round 63 = .ok (.iconst 3, 1) := by decide +kernel
theorem dX8_round_64 : decode cX8_round 64 = .ok (.iload_n 3, 1) := by decide +kernel
theorem dX8_round_65 : decode cX8_round 65 = .ok (.iadd, 1) := by decide +kernel
theorem dX8_round_66 : decode cX8_round 66 = .ok (.iaload, 1) := by decide +kernel
theorem dX8_round_67 : decode cX8_round 67 = .ok (.if_icmp .ne 7, 3) := by decide +kernel
theorem dX8_round_70 : decode cX8_round 70 = .ok (.iconst 1, 1) := by decide +kernel
theorem dX8_round_71 : decode cX8_round 71 = .ok (.goto 4, 3) := by decide +kernel
theorem dX8_round_74 : decode cX8_round 74 = .ok (.iconst 0, 1) := by decide +kernel
theorem dX8_round_75 : decode cX8_round 75 = .ok (.istore_n 2, 1) := by decide +kernel
theorem dX8_round_76 : decode cX8_round 76 = .ok (.iinc 3 1, 3) := by decide +kernel
theorem dX8_round_79 : decode cX8_round 79 = .ok (.goto (-43), 3) := by decide +kernel
theorem dX8_round_82 : decode cX8_round 82 = .ok (.iload_n 2, 1) := by decide +kernel
theorem dX8_round_83 : decode cX8_round 83 = .ok (.ifCond .eq 5, 3) := by decide +kernel
theorem dX8_round_86 : decode cX8_round 86 = .ok (.iload_n 1, 1) := by decide +kernel
theorem dX8_round_87 : decode cX8_round 87 = .ok (.ireturn, 1) := by decide +kernel
theorem dX8_round_88 : decode cX8_round 88 = .ok (.iinc 1 1, 3) := by decide +kernel
theorem dX8_round_91 : decode cX8_round 91 = .ok (.goto (-73), 3) := by decide +kernel
theorem dX8_round_94 : decode cX8_round 94 = .ok (.ldc 163, 2) := by decide +kernel
theorem dX8_round_96 : decode cX8_round 96 = .ok (.ireturn, 1) := by decide +kernel
theorem dX8_countsThere_0 : decode cX8_countsThere 0 = .ok (.iconst 0, 1) := by decide +kernel
theorem dX8_countsThere_1 : decode cX8_countsThere 1 = .ok (.istore_n 1, 1) := by decide +kernel
theorem dX8_countsThere_2 : decode cX8_countsThere 2 = .ok (.iload_n 1, 1) := by decide +kernel
theorem dX8_countsThere_3 : decode cX8_countsThere 3 = .ok (.bipush 10, 2) := by decide +kernel
theorem dX8_countsThere_5 : decode cX8_countsThere 5 = .ok (.if_icmp .ge 16, 3) := by decide +kernel
theorem dX8_countsThere_8 : decode cX8_countsThere 8 = .ok (.aload_n 0, 1) := by decide +kernel
theorem dX8_countsThere_9 : decode cX8_countsThere 9 = .ok (.getfield 28, 3) := by decide +kernel
theorem dX8_countsThere_12 : decode cX8_countsThere 12 = .ok (.iload_n 1, 1) := by decide +kernel
theorem dX8_countsThere_13 : decode cX8_countsThere 13 = .ok (.iconst 0, 1) := by decide +kernel
theorem dX8_countsThere_14 : decode cX8_countsThere 14 = .ok (.iastore, 1) := by decide +kernel
theorem dX8_countsThere_15 : decode cX8_countsThere 15 = .ok (.iinc 1 1, 3) := by decide +kernel
theorem dX8_countsThere_18 : decode cX8_countsThere 18 = .ok (.goto (-16), 3) := by decide +kernel
theorem dX8_countsThere_21 : decode cX8_countsThere 21 = .ok (.iconst 0, 1) := by decide +kernel
theorem dX8_countsThere_22 : decode cX8_countsThere 22 = .ok (.istore_n 1, 1) := by decide +kernel
theorem dX8_countsThere_23 : decode cX8_countsThere 23 = .ok (.iload_n 1, 1) := by decide +kernel
theorem dX8_countsThere_24 : decode cX8_countsThere 24 = .ok (.aload_n 0, 1) := by decide +kernel
theorem dX8_countsThere_25 : decode cX8_countsThere 25 = .ok (.getfield 7, 3) := by decide +kernel
theorem dX8_countsThere_28 : decode cX8_countsThere 28 = .ok (.iconst 0, 1) := by decide +kernel
theorem dX8_countsThere_29 : decode cX8_countsThere 29 = .ok (.iaload, 1) := by decide +kernel
theorem dX8_countsThere_30 : decode cX8_countsThere 30 = .ok (.if_icmp .ge 26, 3) := by decide +kernel
theorem dX8_countsThere_33 : decode cX8_countsThere 33 = .ok (.aload_n 0, 1) := by decide +kernel
theorem dX8_countsThere_34 : decode cX8_countsThere 34 = .ok (.getfield 28, 3) := by decide +kernel
theorem dX8_countsThere_37 : decode cX8_countsThere 37 = .ok (.aload_n 0, 1) := by decide +kernel
theorem dX8_countsThere_38 : decode cX8_countsThere 38 = .ok (.getfield 7, 3) := by decide +kernel
theorem dX8_countsThere_41 : decode cX8_countsThere 41 = .ok (.iconst 3, 1) := by decide +kernel
theorem dX8_countsThere_42 : decode cX8_countsThere 42 = .ok (.iload_n 1, 1) := by decide +kernel
theorem dX8_countsThere_43 : decode cX8_countsThere 43 = .ok (.iadd, 1) := by decide +kernel
theorem dX8_countsThere_44 : decode cX8_countsThere 44 = .ok (.iaload, 1) := by decide +kernel
theorem dX8_countsThere_45 : decode cX8_countsThere 45 = .ok (.dup2, 1) := by decide +kernel
theorem dX8_countsThere_46 : decode cX8_countsThere 46 = .ok (.iaload, 1) := by decide +kernel
theorem dX8_countsThere_47 : decode cX8_countsThere 47 = .ok (.iconst 1, 1) := by decide +kernel
theorem dX8_countsThere_48 : decode cX8_countsThere 48 = .ok (.iadd, 1) := by decide +kernel
theorem dX8_countsThere_49 : decode cX8_countsThere 49 = .ok (.iastore, 1) := by decide +kernel
theorem dX8_countsThere_50 : decode cX8_countsThere 50 = .ok (.iinc 1 1, 3) := by decide +kernel
theorem dX8_countsThere_53 : decode cX8_countsThere 53 = .ok (.goto (-30), 3) := by decide +kernel
theorem dX8_countsThere_56 : decode cX8_countsThere 56 = .ok (.return_, 1) := by decide +kernel
theorem dX8_rowsOf_0 : decode cX8_rowsOf 0 = .ok (.iconst 0, 1) := by decide +kernel
theorem dX8_rowsOf_1 : decode cX8_rowsOf 1 = .ok (.istore_n 1, 1) := by decide +kernel
theorem dX8_rowsOf_2 : decode cX8_rowsOf 2 = .ok (.iconst 0, 1) := by decide +kernel
theorem dX8_rowsOf_3 : decode cX8_rowsOf 3 = .ok (.istore_n 2, 1) := by decide +kernel
theorem dX8_rowsOf_4 : decode cX8_rowsOf 4 = .ok (.iload_n 2, 1) := by decide +kernel
theorem dX8_rowsOf_5 : decode cX8_rowsOf 5 = .ok (.bipush 10, 2) := by decide +kernel
theorem dX8_rowsOf_7 : decode cX8_rowsOf 7 = .ok (.if_icmp .ge 18, 3) := by decide +kernel
theorem dX8_rowsOf_10 : decode cX8_rowsOf 10 = .ok (.iload_n 1, 1) := by decide +kernel
theorem dX8_rowsOf_11 : decode cX8_rowsOf 11 = .ok (.aload_n 0, 1) := by decide +kernel
theorem dX8_rowsOf_12 : decode cX8_rowsOf 12 = .ok (.getfield 28, 3) := by decide +kernel
theorem dX8_rowsOf_15 : decode cX8_rowsOf 15 = .ok (.iload_n 2, 1) := by decide +kernel
theorem dX8_rowsOf_16 : decode cX8_rowsOf 16 = .ok (.iaload, 1) := by decide +kernel
theorem dX8_rowsOf_17 : decode cX8_rowsOf 17 = .ok (.iadd, 1) := by decide +kernel
theorem dX8_rowsOf_18 : decode cX8_rowsOf 18 = .ok (.istore_n 1, 1) := by decide +kernel
theorem dX8_rowsOf_19 : decode cX8_rowsOf 19 = .ok (.iinc 2 1, 3) := by decide +kernel
theorem dX8_rowsOf_22 : decode cX8_rowsOf 22 = .ok (.goto (-18), 3) := by decide +kernel
theorem dX8_rowsOf_25 : decode cX8_rowsOf 25 = .ok (.iconst 1, 1) := by decide +kernel
theorem dX8_rowsOf_26 : decode cX8_rowsOf 26 = .ok (.istore_n 2, 1) := by decide +kernel
theorem dX8_rowsOf_27 : decode cX8_rowsOf 27 = .ok (.aload_n 0, 1) := by decide +kernel
theorem dX8_rowsOf_28 : decode cX8_rowsOf 28 = .ok (.getfield 28, 3) := by decide +kernel
theorem dX8_rowsOf_31 : decode cX8_rowsOf 31 = .ok (.iconst 0, 1) := by decide +kernel
theorem dX8_rowsOf_32 : decode cX8_rowsOf 32 = .ok (.iaload, 1) := by decide +kernel
theorem dX8_rowsOf_33 : decode cX8_rowsOf 33 = .ok (.iconst 1, 1) := by decide +kernel
theorem dX8_rowsOf_34 : decode cX8_rowsOf 34 = .ok (.iadd, 1) := by decide +kernel
theorem dX8_rowsOf_35 : decode cX8_rowsOf 35 = .ok (.istore_n 3, 1) := by decide +kernel
theorem dX8_rowsOf_36 : decode cX8_rowsOf 36 = .ok (.iload_n 3, 1) := by decide +kernel
theorem dX8_rowsOf_37 : decode cX8_rowsOf 37 = .ok (.iload_n 1, 1) := by decide +kernel
theorem dX8_rowsOf_38 : decode cX8_rowsOf 38 = .ok (.if_icmp .gt 13, 3) := by decide +kernel
theorem dX8_rowsOf_41 : decode cX8_rowsOf 41 = .ok (.iload_n 2, 1) := by decide +kernel
theorem dX8_rowsOf_42 : decode cX8_rowsOf 42 = .ok (.iload_n 3, 1) := by decide +kernel
theorem dX8_rowsOf_43 : decode cX8_rowsOf 43 = .ok (.imul, 1) := by decide +kernel
theorem dX8_rowsOf_44 : decode cX8_rowsOf 44 = .ok (.istore_n 2, 1) := by decide +kernel
theorem dX8_rowsOf_45 : decode cX8_rowsOf 45 = .ok (.iinc 3 1, 3) := by decide +kernel
theorem dX8_rowsOf_48 : decode cX8_rowsOf 48 = .ok (.goto (-12), 3) := by decide +kernel
theorem dX8_rowsOf_51 : decode cX8_rowsOf 51 = .ok (.iload_n 2, 1) := by decide +kernel
theorem dX8_rowsOf_52 : decode cX8_rowsOf 52 = .ok (.ireturn, 1) := by decide +kernel
set_option maxRecDepth 20000 in
theorem ggX8_placeOf_X8_countsThere : GoodIn wsX8_placeOf wsX8_countsThere := goodIn_r _ [7, 2, 1, 12, 13, 14, 15, 16, 17, 18, 19, 20, 21, 22, 23, 24, 25, 26, 27, 28, 29, 30, 31, 32, 33, 34] (by decide +kernel) (by decide +kernel)
set_option maxRecDepth 20000 in
theorem gX8_placeOf_X8_countsThere : GoodIn wsX8_placeOf (wsV RX8 180 RX8 yX8_countsThere wsX8_countsThere) := goodIn_app (goodIn_of _ (by decide +kernel)) ggX8_placeOf_X8_countsThere
set_option maxRecDepth 20000 in
theorem ggX8_placeOf_X8_rowsOf : GoodIn wsX8_placeOf wsX8_rowsOf := goodIn_r _ [11, 2, 12, 13, 14, 15, 16, 17, 18, 19, 20, 21, 22, 23, 24, 25, 26, 27, 28, 29, 30, 31, 32, 33, 34] (by decide +kernel) (by decide +kernel)
set_option maxRecDepth 20000 in
theorem gX8_placeOf_X8_rowsOf : GoodIn wsX8_placeOf (wsV RX8 183 RX8 yX8_rowsOf wsX8_rowsOf) := goodIn_app (goodIn_of _ (by decide +kernel)) ggX8_placeOf_X8_rowsOf
theorem dX8_placeOf_0 : decode cX8_placeOf 0 = .ok (.aload_n 0, 1) := by decide +kernel
theorem dX8_placeOf_1 : decode cX8_placeOf 1 = .ok (.invokevirtual 180, 3) := by decide +kernel
theorem dX8_placeOf_4 : decode cX8_placeOf 4 = .ok (.iconst 0, 1) := by decide +kernel
theorem dX8_placeOf_5 : decode cX8_placeOf 5 = .ok (.istore_n 2, 1) := by decide +kernel
theorem dX8_placeOf_6 : decode cX8_placeOf 6 = .ok (.iconst 0, 1) := by decide +kernel
theorem dX8_placeOf_7 : decode cX8_placeOf 7 = .ok (.istore_n 3, 1) := by decide +kernel
theorem dX8_placeOf_8 : decode cX8_placeOf 8 = .ok (.iload_n 3, 1) := by decide +kernel
theorem dX8_placeOf_9 : decode cX8_placeOf 9 = .ok (.aload_n 0, 1) := by decide +kernel
theorem dX8_placeOf_10 : decode cX8_placeOf 10 = .ok (.getfield 7, 3) := by decide +kernel
theorem dX8_placeOf_13 : decode cX8_placeOf 13 = .ok (.iconst 0, 1) := by decide +kernel
theorem dX8_placeOf_14 : decode cX8_placeOf 14 = .ok (.iaload, 1) := by decide +kernel
theorem dX8_placeOf_15 : decode cX8_placeOf 15 = .ok (.if_icmp .ge 87, 3) := by decide +kernel
theorem dX8_placeOf_18 : decode cX8_placeOf 18 = .ok (.aload_n 0, 1) := by decide +kernel
theorem dX8_placeOf_19 : decode cX8_placeOf 19 = .ok (.getfield 7, 3) := by decide +kernel
theorem dX8_placeOf_22 : decode cX8_placeOf 22 = .ok (.iload_n 1, 1) := by decide +kernel
theorem dX8_placeOf_23 : decode cX8_placeOf 23 = .ok (.iconst 3, 1) := by decide +kernel
theorem dX8_placeOf_24 : decode cX8_placeOf 24 = .ok (.iadd, 1) := by decide +kernel
theorem dX8_placeOf_25 : decode cX8_placeOf 25 = .ok (.iload_n 3, 1) := by decide +kernel
theorem dX8_placeOf_26 : decode cX8_placeOf 26 = .ok (.iadd, 1) := by decide +kernel
theorem dX8_placeOf_27 : decode cX8_placeOf 27 = .ok (.iaload, 1) := by decide +kernel
theorem dX8_placeOf_28 : decode cX8_placeOf 28 = .ok (.istore 4, 2) := by decide +kernel
theorem dX8_placeOf_30 : decode cX8_placeOf 30 = .ok (.iconst 0, 1) := by decide +kernel
theorem dX8_placeOf_31 : decode cX8_placeOf 31 = .ok (.istore 5, 2) := by decide +kernel
theorem dX8_placeOf_33 : decode cX8_placeOf 33 = .ok (.iload 5, 2) := by decide +kernel
theorem dX8_placeOf_35 : decode cX8_placeOf 35 = .ok (.iload 4, 2) := by decide +kernel
theorem dX8_placeOf_37 : decode cX8_placeOf 37 = .ok (.if_icmp .ge 48, 3) := by decide +kernel
theorem dX8_placeOf_40 : decode cX8_placeOf 40 = .ok (.aload_n 0, 1) := by decide +kernel
theorem dX8_placeOf_41 : decode cX8_placeOf 41 = .ok (.getfield 28, 3) := by decide +kernel
theorem dX8_placeOf_44 : decode cX8_placeOf 44 = .ok (.iload 5, 2) := by decide +kernel
theorem dX8_placeOf_46 : decode cX8_placeOf 46 = .ok (.iaload, 1) := by decide +kernel
theorem dX8_placeOf_47 : decode cX8_placeOf 47 = .ok (.ifCond .le 32, 3) := by decide +kernel
theorem dX8_placeOf_50 : decode cX8_placeOf 50 = .ok (.aload_n 0, 1) := by decide +kernel
theorem dX8_placeOf_51 : decode cX8_placeOf 51 = .ok (.getfield 28, 3) := by decide +kernel
theorem dX8_placeOf_54 : decode cX8_placeOf 54 = .ok (.iload 5, 2) := by decide +kernel
theorem dX8_placeOf_56 : decode cX8_placeOf 56 = .ok (.dup2, 1) := by decide +kernel
theorem dX8_placeOf_57 : decode cX8_placeOf 57 = .ok (.iaload, 1) := by decide +kernel
theorem dX8_placeOf_58 : decode cX8_placeOf 58 = .ok (.iconst 1, 1) := by decide +kernel
theorem dX8_placeOf_59 : decode cX8_placeOf 59 = .ok (.isub, 1) := by decide +kernel
theorem dX8_placeOf_60 : decode cX8_placeOf 60 = .ok (.iastore, 1) := by decide +kernel
theorem dX8_placeOf_61 : decode cX8_placeOf 61 = .ok (.iload_n 2, 1) := by decide +kernel
theorem dX8_placeOf_62 : decode cX8_placeOf 62 = .ok (.aload_n 0, 1) := by decide +kernel
theorem dX8_placeOf_63 : decode cX8_placeOf 63 = .ok (.invokevirtual 183, 3) := by decide +kernel
theorem dX8_placeOf_66 : decode cX8_placeOf 66 = .ok (.iadd, 1) := by decide +kernel
theorem dX8_placeOf_67 : decode cX8_placeOf 67 = .ok (.istore_n 2, 1) := by decide +kernel
theorem dX8_placeOf_68 : decode cX8_placeOf 68 = .ok (.aload_n 0, 1) := by decide +kernel
theorem dX8_placeOf_69 : decode cX8_placeOf 69 = .ok (.getfield 28, 3) := by decide +kernel
theorem dX8_placeOf_72 : decode cX8_placeOf 72 = .ok (.iload 5, 2) := by decide +kernel
theorem dX8_placeOf_74 : decode cX8_placeOf 74 = .ok (.dup2, 1) := by decide +kernel
theorem dX8_placeOf_75 : decode cX8_placeOf 75 = .ok (.iaload, 1) := by decide +kernel
theorem dX8_placeOf_76 : decode cX8_placeOf 76 = .ok (.iconst 1, 1) := by decide +kernel
theorem dX8_placeOf_77 : decode cX8_placeOf 77 = .ok (.iadd, 1) := by decide +kernel
theorem dX8_placeOf_78 : decode cX8_placeOf 78 = .ok (.iastore, 1) := by decide +kernel
theorem dX8_placeOf_79 : decode cX8_placeOf 79 = .ok (.iinc 5 1, 3) := by decide +kernel
theorem dX8_placeOf_82 : decode cX8_placeOf 82 = .ok (.goto (-49), 3) := by decide +kernel
theorem dX8_placeOf_85 : decode cX8_placeOf 85 = .ok (.aload_n 0, 1) := by decide +kernel
theorem dX8_placeOf_86 : decode cX8_placeOf 86 = .ok (.getfield 28, 3) := by decide +kernel
theorem dX8_placeOf_89 : decode cX8_placeOf 89 = .ok (.iload 4, 2) := by decide +kernel
theorem dX8_placeOf_91 : decode cX8_placeOf 91 = .ok (.dup2, 1) := by decide +kernel
theorem dX8_placeOf_92 : decode cX8_placeOf 92 = .ok (.iaload, 1) := by decide +kernel
theorem dX8_placeOf_93 : decode cX8_placeOf 93 = .ok (.iconst 1, 1) := by decide +kernel
theorem dX8_placeOf_94 : decode cX8_placeOf 94 = .ok (.isub, 1) := by decide +kernel
theorem dX8_placeOf_95 : decode cX8_placeOf 95 = .ok (.iastore, 1) := by decide +kernel
theorem dX8_placeOf_96 : decode cX8_placeOf 96 = .ok (.iinc 3 1, 3) := by decide +kernel
theorem dX8_placeOf_99 : decode cX8_placeOf 99 = .ok (.goto (-91), 3) := by decide +kernel
theorem dX8_placeOf_102 : decode cX8_placeOf 102 = .ok (.iload_n 2, 1) := by decide +kernel
theorem dX8_placeOf_103 : decode cX8_placeOf 103 = .ok (.ireturn, 1) := by decide +kernel
theorem dX8_atHome_0 : decode cX8_atHome 0 = .ok (.iconst 0, 1) := by decide +kernel
theorem dX8_atHome_1 : decode cX8_atHome 1 = .ok (.istore_n 1, 1) := by decide +kernel
theorem dX8_atHome_2 : decode cX8_atHome 2 = .ok (.iconst 0, 1) := by decide +kernel
theorem dX8_atHome_3 : decode cX8_atHome 3 = .ok (.istore_n 2, 1) := by decide +kernel
theorem dX8_atHome_4 : decode cX8_atHome 4 = .ok (.iload_n 2, 1) := by decide +kernel
theorem dX8_atHome_5 : decode cX8_atHome 5 = .ok (.aload_n 0, 1) := by decide +kernel
theorem dX8_atHome_6 : decode cX8_atHome 6 = .ok (.getfield 7, 3) := by decide +kernel
theorem dX8_atHome_9 : decode cX8_atHome 9 = .ok (.iconst 0, 1) := by decide +kernel
theorem dX8_atHome_10 : decode cX8_atHome 10 = .ok (.iaload, 1) := by decide +kernel
theorem dX8_atHome_11 : decode cX8_atHome 11 = .ok (.if_icmp .ge 31, 3) := by decide +kernel
theorem dX8_atHome_14 : decode cX8_atHome 14 = .ok (.iload_n 1, 1) := by decide +kernel
theorem dX8_atHome_15 : decode cX8_atHome 15 = .ok (.aload_n 0, 1) := by decide +kernel
theorem dX8_atHome_16 : decode cX8_atHome 16 = .ok (.getfield 7, 3) := by decide +kernel
theorem dX8_atHome_19 : decode cX8_atHome 19 = .ok (.iconst 3, 1) := by decide +kernel
theorem dX8_atHome_20 : decode cX8_atHome 20 = .ok (.iload_n 2, 1) := by decide +kernel
theorem dX8_atHome_21 : decode cX8_atHome 21 = .ok (.iadd, 1) := by decide +kernel
theorem dX8_atHome_22 : decode cX8_atHome 22 = .ok (.iaload, 1) := by decide +kernel
theorem dX8_atHome_23 : decode cX8_atHome 23 = .ok (.iload_n 2, 1) := by decide +kernel
theorem dX8_atHome_24 : decode cX8_atHome 24 = .ok (.iconst 1, 1) := by decide +kernel
theorem dX8_atHome_25 : decode cX8_atHome 25 = .ok (.iadd, 1) := by decide +kernel
theorem dX8_atHome_26 : decode cX8_atHome 26 = .ok (.if_icmp .ne 7, 3) := by decide +kernel
theorem dX8_atHome_29 : decode cX8_atHome 29 = .ok (.iconst 1, 1) := by decide +kernel
theorem dX8_atHome_30 : decode cX8_atHome 30 = .ok (.goto 4, 3) := by decide +kernel
theorem dX8_atHome_33 : decode cX8_atHome 33 = .ok (.iconst 0, 1) := by decide +kernel
theorem dX8_atHome_34 : decode cX8_atHome 34 = .ok (.iadd, 1) := by decide +kernel
theorem dX8_atHome_35 : decode cX8_atHome 35 = .ok (.istore_n 1, 1) := by decide +kernel
theorem dX8_atHome_36 : decode cX8_atHome 36 = .ok (.iinc 2 1, 3) := by decide +kernel
theorem dX8_atHome_39 : decode cX8_atHome 39 = .ok (.goto (-35), 3) := by decide +kernel
theorem dX8_atHome_42 : decode cX8_atHome 42 = .ok (.iload_n 1, 1) := by decide +kernel
theorem dX8_atHome_43 : decode cX8_atHome 43 = .ok (.ireturn, 1) := by decide +kernel
set_option maxRecDepth 20000 in
theorem ggX8_allRows_X8_countsThere : GoodIn wsX8_allRows wsX8_countsThere := goodIn_r _ [5, 6, 7, 12, 13, 14, 15, 16, 17, 18, 19, 20, 21, 22, 23, 24, 25, 26, 27, 28, 29, 30, 31, 32, 33, 34] (by decide +kernel) (by decide +kernel)
set_option maxRecDepth 20000 in
theorem gX8_allRows_X8_countsThere : GoodIn wsX8_allRows (wsV RX8 180 RX8 yX8_countsThere wsX8_countsThere) := goodIn_app (goodIn_of _ (by decide +kernel)) ggX8_allRows_X8_countsThere
set_option maxRecDepth 20000 in
theorem ggX8_allRows_X8_rowsOf : GoodIn wsX8_allRows wsX8_rowsOf := goodIn_r _ [11, 6, 12, 13, 14, 15, 16, 17, 18, 19, 20, 21, 22, 23, 24, 25, 26, 27, 28, 29, 30, 31, 32, 33, 34] (by decide +kernel) (by decide +kernel)
set_option maxRecDepth 20000 in
theorem gX8_allRows_X8_rowsOf : GoodIn wsX8_allRows (wsV RX8 183 RX8 yX8_rowsOf wsX8_rowsOf) := goodIn_app (goodIn_of _ (by decide +kernel)) ggX8_allRows_X8_rowsOf
theorem dX8_allRows_0 : decode cX8_allRows 0 = .ok (.aload_n 0, 1) := by decide +kernel
theorem dX8_allRows_1 : decode cX8_allRows 1 = .ok (.invokevirtual 180, 3) := by decide +kernel
theorem dX8_allRows_4 : decode cX8_allRows 4 = .ok (.aload_n 0, 1) := by decide +kernel
theorem dX8_allRows_5 : decode cX8_allRows 5 = .ok (.invokevirtual 183, 3) := by decide +kernel
theorem dX8_allRows_8 : decode cX8_allRows 8 = .ok (.ireturn, 1) := by decide +kernel
set_option maxRecDepth 20000 in
theorem ggX8_home_X8_atHome : GoodIn wsX8_home wsX8_atHome := goodIn_r _ [8, 1, 26, 27, 28, 29, 30, 31, 32, 33, 34, 35, 36, 37, 38, 39, 40, 41, 42, 43, 44, 45, 46, 47, 48] (by decide +kernel) (by decide +kernel)
set_option maxRecDepth 20000 in
theorem gX8_home_X8_atHome : GoodIn wsX8_home (wsV RX8 186 RX8 yX8_atHome wsX8_atHome) := goodIn_app (goodIn_of _ (by decide +kernel)) ggX8_home_X8_atHome
set_option maxRecDepth 20000 in
theorem ggX8_home_X8_placeOf : GoodIn wsX8_home wsX8_placeOf := goodIn_r _ [12, 1, 13, 14, 15, 16, 7, 17, 18, 19, 20, 21, 26, 27, 28, 29, 30, 31, 32, 33, 34, 35, 36, 37, 38, 39, 40, 41, 42, 43, 44, 45, 46, 47, 48] (by decide +kernel) (by decide +kernel)
set_option maxRecDepth 20000 in
theorem gX8_home_X8_placeOf : GoodIn wsX8_home (wsV RX8 189 RX8 yX8_placeOf wsX8_placeOf) := goodIn_app (goodIn_of _ (by decide +kernel)) ggX8_home_X8_placeOf
set_option maxRecDepth 20000 in
theorem ggX8_home_X8_allRows : GoodIn wsX8_home wsX8_allRows := goodIn_r _ [25, 14, 15, 16, 7, 17, 13, 1, 18, 19, 20, 21, 26, 27, 28, 29, 30, 31, 32, 33, 34, 35, 36, 37, 38, 39, 40, 41, 42, 43, 44, 45, 46, 47, 48] (by decide +kernel) (by decide +kernel)
set_option maxRecDepth 20000 in
theorem gX8_home_X8_allRows : GoodIn wsX8_home (wsV RX8 192 RX8 yX8_allRows wsX8_allRows) := goodIn_app (goodIn_of _ (by decide +kernel)) ggX8_home_X8_allRows
theorem dX8_home_0 : decode cX8_home 0 = .ok (.aload_n 0, 1) := by decide +kernel
theorem dX8_home_1 : decode cX8_home 1 = .ok (.getfield 7, 3) := by decide +kernel
theorem dX8_home_4 : decode cX8_home 4 = .ok (.iconst 0, 1) := by decide +kernel
theorem dX8_home_5 : decode cX8_home 5 = .ok (.iaload, 1) := by decide +kernel
theorem dX8_home_6 : decode cX8_home 6 = .ok (.ifCond .ne 6, 3) := by decide +kernel
theorem dX8_home_9 : decode cX8_home 9 = .ok (.ldc 149, 2) := by decide +kernel
theorem dX8_home_11 : decode cX8_home 11 = .ok (.ireturn, 1) := by decide +kernel
theorem dX8_home_12 : decode cX8_home 12 = .ok (.iload_n 1, 1) := by decide +kernel
theorem dX8_home_13 : decode cX8_home 13 = .ok (.ifCond .ne 10, 3) := by decide +kernel
theorem dX8_home_16 : decode cX8_home 16 = .ok (.aload_n 0, 1) := by decide +kernel
theorem dX8_home_17 : decode cX8_home 17 = .ok (.invokevirtual 186, 3) := by decide +kernel
theorem dX8_home_20 : decode cX8_home 20 = .ok (.goto 30, 3) := by decide +kernel
theorem dX8_home_23 : decode cX8_home 23 = .ok (.iload_n 1, 1) := by decide +kernel
theorem dX8_home_24 : decode cX8_home 24 = .ok (.iconst 1, 1) := by decide +kernel
theorem dX8_home_25 : decode cX8_home 25 = .ok (.if_icmp .ne 11, 3) := by decide +kernel
theorem dX8_home_28 : decode cX8_home 28 = .ok (.aload_n 0, 1) := by decide +kernel
theorem dX8_home_29 : decode cX8_home 29 = .ok (.iconst 0, 1) := by decide +kernel
theorem dX8_home_30 : decode cX8_home 30 = .ok (.invokevirtual 189, 3) := by decide +kernel
theorem dX8_home_33 : decode cX8_home 33 = .ok (.goto 17, 3) := by decide +kernel
theorem dX8_home_36 : decode cX8_home 36 = .ok (.iload_n 1, 1) := by decide +kernel
theorem dX8_home_37 : decode cX8_home 37 = .ok (.iconst 2, 1) := by decide +kernel
theorem dX8_home_38 : decode cX8_home 38 = .ok (.if_icmp .ne 10, 3) := by decide +kernel
theorem dX8_home_41 : decode cX8_home 41 = .ok (.aload_n 0, 1) := by decide +kernel
theorem dX8_home_42 : decode cX8_home 42 = .ok (.invokevirtual 192, 3) := by decide +kernel
theorem dX8_home_45 : decode cX8_home 45 = .ok (.goto 5, 3) := by decide +kernel
theorem dX8_home_48 : decode cX8_home 48 = .ok (.ldc 72, 2) := by decide +kernel
theorem dX8_home_50 : decode cX8_home 50 = .ok (.ireturn, 1) := by decide +kernel
set_option maxRecDepth 20000 in
theorem ggX8_laysTo_X8_has : GoodIn wsX8_laysTo wsX8_has := goodIn_r _ [8] (by decide +kernel) (by decide +kernel)
set_option maxRecDepth 20000 in
theorem gX8_laysTo_X8_has : GoodIn wsX8_laysTo (va_wsS RX8 111 yX8_has wsX8_has) := goodIn_app (goodIn_of _ (by decide +kernel)) ggX8_laysTo_X8_has
theorem dX8_laysTo_0 : decode cX8_laysTo 0 = .ok (.aload_n 0, 1) := by decide +kernel
theorem dX8_laysTo_1 : decode cX8_laysTo 1 = .ok (.getfield 7, 3) := by decide +kernel
theorem dX8_laysTo_4 : decode cX8_laysTo 4 = .ok (.iconst 0, 1) := by decide +kernel
theorem dX8_laysTo_5 : decode cX8_laysTo 5 = .ok (.iaload, 1) := by decide +kernel
theorem dX8_laysTo_6 : decode cX8_laysTo 6 = .ok (.istore_n 3, 1) := by decide +kernel
theorem dX8_laysTo_7 : decode cX8_laysTo 7 = .ok (.iconst 0, 1) := by decide +kernel
theorem dX8_laysTo_8 : decode cX8_laysTo 8 = .ok (.istore 4, 2) := by decide +kernel
theorem dX8_laysTo_10 : decode cX8_laysTo 10 = .ok (.iconst 0, 1) := by decide +kernel
theorem dX8_laysTo_11 : decode cX8_laysTo 11 = .ok (.istore 5, 2) := by decide +kernel
theorem dX8_laysTo_13 : decode cX8_laysTo 13 = .ok (.iload 5, 2) := by decide +kernel
theorem dX8_laysTo_15 : decode cX8_laysTo 15 = .ok (.iload_n 3, 1) := by decide +kernel
theorem dX8_laysTo_16 : decode cX8_laysTo 16 = .ok (.if_icmp .ge 30, 3) := by decide +kernel
theorem dX8_laysTo_19 : decode cX8_laysTo 19 = .ok (.aload_n 0, 1) := by decide +kernel
theorem dX8_laysTo_20 : decode cX8_laysTo 20 = .ok (.getfield 34, 3) := by decide +kernel
theorem dX8_laysTo_23 : decode cX8_laysTo 23 = .ok (.iload 5, 2) := by decide +kernel
theorem dX8_laysTo_25 : decode cX8_laysTo 25 = .ok (.aload_n 0, 1) := by decide +kernel
theorem dX8_laysTo_26 : decode cX8_laysTo 26 = .ok (.getfield 22, 3) := by decide +kernel
theorem dX8_laysTo_29 : decode cX8_laysTo 29 = .ok (.bipush 40, 2) := by decide +kernel
theorem dX8_laysTo_31 : decode cX8_laysTo 31 = .ok (.iload_n 1, 1) := by decide +kernel
theorem dX8_laysTo_32 : decode cX8_laysTo 32 = .ok (.imul, 1) := by decide +kernel
theorem dX8_laysTo_33 : decode cX8_laysTo 33 = .ok (.iload_n 2, 1) := by decide +kernel
theorem dX8_laysTo_34 : decode cX8_laysTo 34 = .ok (.iadd, 1) := by decide +kernel
theorem dX8_laysTo_35 : decode cX8_laysTo 35 = .ok (.iload 5, 2) := by decide +kernel
theorem dX8_laysTo_37 : decode cX8_laysTo 37 = .ok (.iadd, 1) := by decide +kernel
theorem dX8_laysTo_38 : decode cX8_laysTo 38 = .ok (.iaload, 1) := by decide +kernel
theorem dX8_laysTo_39 : decode cX8_laysTo 39 = .ok (.iastore, 1) := by decide +kernel
theorem dX8_laysTo_40 : decode cX8_laysTo 40 = .ok (.iinc 5 1, 3) := by decide +kernel
theorem dX8_laysTo_43 : decode cX8_laysTo 43 = .ok (.goto (-30), 3) := by decide +kernel
theorem dX8_laysTo_46 : decode cX8_laysTo 46 = .ok (.iconst 0, 1) := by decide +kernel
theorem dX8_laysTo_47 : decode cX8_laysTo 47 = .ok (.istore 5, 2) := by decide +kernel
theorem dX8_laysTo_49 : decode cX8_laysTo 49 = .ok (.iload 5, 2) := by decide +kernel
theorem dX8_laysTo_51 : decode cX8_laysTo 51 = .ok (.iload_n 3, 1) := by decide +kernel
theorem dX8_laysTo_52 : decode cX8_laysTo 52 = .ok (.if_icmp .ge 107, 3) := by decide +kernel
theorem dX8_laysTo_55 : decode cX8_laysTo 55 = .ok (.aload_n 0, 1) := by decide +kernel
theorem dX8_laysTo_56 : decode cX8_laysTo 56 = .ok (.getfield 31, 3) := by decide +kernel
theorem dX8_laysTo_59 : decode cX8_laysTo 59 = .ok (.iload 5, 2) := by decide +kernel
theorem dX8_laysTo_61 : decode cX8_laysTo 61 = .ok (.iconst (-1), 1) := by decide +kernel
theorem dX8_laysTo_62 : decode cX8_laysTo 62 = .ok (.iastore, 1) := by decide +kernel
theorem dX8_laysTo_63 : decode cX8_laysTo 63 = .ok (.iload_n 3, 1) := by decide +kernel
theorem dX8_laysTo_64 : decode cX8_laysTo 64 = .ok (.iconst 1, 1) := by decide +kernel
theorem dX8_laysTo_65 : decode cX8_laysTo 65 = .ok (.isub, 1) := by decide +kernel
theorem dX8_laysTo_66 : decode cX8_laysTo 66 = .ok (.istore 6, 2) := by decide +kernel
theorem dX8_laysTo_68 : decode cX8_laysTo 68 = .ok (.iload 6, 2) := by decide +kernel
theorem dX8_laysTo_70 : decode cX8_laysTo 70 = .ok (.ifCond .lt 57, 3) := by decide +kernel
theorem dX8_laysTo_73 : decode cX8_laysTo 73 = .ok (.aload_n 0, 1) := by decide +kernel
theorem dX8_laysTo_74 : decode cX8_laysTo 74 = .ok (.getfield 31, 3) := by decide +kernel
theorem dX8_laysTo_77 : decode cX8_laysTo 77 = .ok (.iload 5, 2) := by decide +kernel
theorem dX8_laysTo_79 : decode cX8_laysTo 79 = .ok (.iload 4, 2) := by decide +kernel
theorem dX8_laysTo_81 : decode cX8_laysTo 81 = .ok (.iload 6, 2) := by decide +kernel
theorem dX8_laysTo_83 : decode cX8_laysTo 83 = .ok (.invokestatic 111, 3) := by decide +kernel
theorem dX8_laysTo_86 : decode cX8_laysTo 86 = .ok (.ifCond .ne 27, 3) := by decide +kernel
theorem dX8_laysTo_89 : decode cX8_laysTo 89 = .ok (.aload_n 0, 1) := by decide +kernel
theorem dX8_laysTo_90 : decode cX8_laysTo 90 = .ok (.getfield 34, 3) := by decide +kernel
theorem dX8_laysTo_93 : decode cX8_laysTo 93 = .ok (.iload 6, 2) := by decide +kernel
theorem dX8_laysTo_95 : decode cX8_laysTo 95 = .ok (.iaload, 1) := by decide +kernel
theorem dX8_laysTo_96 : decode cX8_laysTo 96 = .ok (.aload_n 0, 1) := by decide +kernel
theorem dX8_laysTo_97 : decode cX8_laysTo 97 = .ok (.getfield 7, 3) := by decide +kernel
theorem dX8_laysTo_100 : decode cX8_laysTo 100 = .ok (.iconst 3, 1) := by decide +kernel
theorem dX8_laysTo_101 : decode cX8_laysTo 101 = .ok (.iload 5, 2) := by decide +kernel
theorem dX8_laysTo_103 : decode cX8_laysTo 103 = .ok (.iadd, 1) := by decide +kernel
theorem dX8_laysTo_104 : decode cX8_laysTo 104 = .ok (.iaload, 1) := by decide +kernel
theorem dX8_laysTo_105 : decode cX8_laysTo 105 = .ok (.if_icmp .ne 8, 3) := by decide +kernel
theorem dX8_laysTo_108 : decode cX8_laysTo 108 = .ok (.iload 6, 2) := by decide +kernel
theorem dX8_laysTo_110 : decode cX8_laysTo 110 = .ok (.goto 10, 3) := by decide +kernel
theorem dX8_laysTo_113 : decode cX8_laysTo 113 = .ok (.aload_n 0, 1) := by decide +kernel
theorem dX8_laysTo_114 : decode cX8_laysTo 114 = .ok (.getfield 31, 3) := by decide +kernel
theorem dX8_laysTo_117 : decode cX8_laysTo 117 = .ok (.iload 5, 2) := by decide +kernel
theorem dX8_laysTo_119 : decode cX8_laysTo 119 = .ok (.iaload, 1) := by decide +kernel
theorem dX8_laysTo_120 : decode cX8_laysTo 120 = .ok (.iastore, 1) := by decide +kernel
theorem dX8_laysTo_121 : decode cX8_laysTo 121 = .ok (.iinc 6 (-1), 3) := by decide +kernel
theorem dX8_laysTo_124 : decode cX8_laysTo 124 = .ok (.goto (-56), 3) := by decide +kernel
theorem dX8_laysTo_127 : decode cX8_laysTo 127 = .ok (.aload_n 0, 1) := by decide +kernel
theorem dX8_laysTo_128 : decode cX8_laysTo 128 = .ok (.getfield 31, 3) := by decide +kernel
theorem dX8_laysTo_131 : decode cX8_laysTo 131 = .ok (.iload 5, 2) := by decide +kernel
theorem dX8_laysTo_133 : decode cX8_laysTo 133 = .ok (.iaload, 1) := by decide +kernel
theorem dX8_laysTo_134 : decode cX8_laysTo 134 = .ok (.ifCond .ge 5, 3) := by decide +kernel
theorem dX8_laysTo_137 : decode cX8_laysTo 137 = .ok (.iconst 0, 1) := by decide +kernel
theorem dX8_laysTo_138 : decode cX8_laysTo 138 = .ok (.ireturn, 1) := by decide +kernel
theorem dX8_laysTo_139 : decode cX8_laysTo 139 = .ok (.iload 4, 2) := by decide +kernel
theorem dX8_laysTo_141 : decode cX8_laysTo 141 = .ok (.iconst 1, 1) := by decide +kernel
theorem dX8_laysTo_142 : decode cX8_laysTo 142 = .ok (.aload_n 0, 1) := by decide +kernel
theorem dX8_laysTo_143 : decode cX8_laysTo 143 = .ok (.getfield 31, 3) := by decide +kernel
theorem dX8_laysTo_146 : decode cX8_laysTo 146 = .ok (.iload 5, 2) := by decide +kernel
theorem dX8_laysTo_148 : decode cX8_laysTo 148 = .ok (.iaload, 1) := by decide +kernel
theorem dX8_laysTo_149 : decode cX8_laysTo 149 = .ok (.ishl, 1) := by decide +kernel
theorem dX8_laysTo_150 : decode cX8_laysTo 150 = .ok (.ior, 1) := by decide +kernel
theorem dX8_laysTo_151 : decode cX8_laysTo 151 = .ok (.istore 4, 2) := by decide +kernel
theorem dX8_laysTo_153 : decode cX8_laysTo 153 = .ok (.iinc 5 1, 3) := by decide +kernel
theorem dX8_laysTo_156 : decode cX8_laysTo 156 = .ok (.goto (-107), 3) := by decide +kernel
theorem dX8_laysTo_159 : decode cX8_laysTo 159 = .ok (.iconst 1, 1) := by decide +kernel
theorem dX8_laysTo_160 : decode cX8_laysTo 160 = .ok (.ireturn, 1) := by decide +kernel
set_option maxRecDepth 20000 in
theorem ggX8_rings_X8_has : GoodIn wsX8_rings wsX8_has := goodIn_r _ [6] (by decide +kernel) (by decide +kernel)
set_option maxRecDepth 20000 in
theorem gX8_rings_X8_has : GoodIn wsX8_rings (va_wsS RX8 111 yX8_has wsX8_has) := goodIn_app (goodIn_of _ (by decide +kernel)) ggX8_rings_X8_has
theorem dX8_rings_0 : decode cX8_rings 0 = .ok (.iconst 0, 1) := by decide +kernel
theorem dX8_rings_1 : decode cX8_rings 1 = .ok (.istore_n 1, 1) := by decide +kernel
theorem dX8_rings_2 : decode cX8_rings 2 = .ok (.iconst 0, 1) := by decide +kernel
theorem dX8_rings_3 : decode cX8_rings 3 = .ok (.istore_n 2, 1) := by decide +kernel
theorem dX8_rings_4 : decode cX8_rings 4 = .ok (.iconst 0, 1) := by decide +kernel
theorem dX8_rings_5 : decode cX8_rings 5 = .ok (.istore_n 3, 1) := by decide +kernel
theorem dX8_rings_6 : decode cX8_rings 6 = .ok (.iload_n 3, 1) := by decide +kernel
theorem dX8_rings_7 : decode cX8_rings 7 = .ok (.aload_n 0, 1) := by decide +kernel
theorem dX8_rings_8 : decode cX8_rings 8 = .ok (.getfield 7, 3) := by decide +kernel
theorem dX8_rings_11 : decode cX8_rings 11 = .ok (.iconst 0, 1) := by decide +kernel
theorem dX8_rings_12 : decode cX8_rings 12 = .ok (.iaload, 1) := by decide +kernel
theorem dX8_rings_13 : decode cX8_rings 13 = .ok (.if_icmp .ge 56, 3) := by decide +kernel
theorem dX8_rings_16 : decode cX8_rings 16 = .ok (.iload_n 3, 1) := by decide +kernel
theorem dX8_rings_17 : decode cX8_rings 17 = .ok (.istore 4, 2) := by decide +kernel
theorem dX8_rings_19 : decode cX8_rings 19 = .ok (.iload_n 2, 1) := by decide +kernel
theorem dX8_rings_20 : decode cX8_rings 20 = .ok (.iload_n 1, 1) := by decide +kernel
theorem dX8_rings_21 : decode cX8_rings 21 = .ok (.iload_n 3, 1) := by decide +kernel
theorem dX8_rings_22 : decode cX8_rings 22 = .ok (.invokestatic 111, 3) := by decide +kernel
theorem dX8_rings_25 : decode cX8_rings 25 = .ok (.ifCond .eq 7, 3) := by decide +kernel
theorem dX8_rings_28 : decode cX8_rings 28 = .ok (.iconst 0, 1) := by decide +kernel
theorem dX8_rings_29 : decode cX8_rings 29 = .ok (.goto 4, 3) := by decide +kernel
theorem dX8_rings_32 : decode cX8_rings 32 = .ok (.iconst 1, 1) := by decide +kernel
theorem dX8_rings_33 : decode cX8_rings 33 = .ok (.iadd, 1) := by decide +kernel
theorem dX8_rings_34 : decode cX8_rings 34 = .ok (.istore_n 2, 1) := by decide +kernel
theorem dX8_rings_35 : decode cX8_rings 35 = .ok (.iload_n 1, 1) := by decide +kernel
theorem dX8_rings_36 : decode cX8_rings 36 = .ok (.iload 4, 2) := by decide +kernel
theorem dX8_rings_38 : decode cX8_rings 38 = .ok (.invokestatic 111, 3) := by decide +kernel
theorem dX8_rings_41 : decode cX8_rings 41 = .ok (.ifCond .ne 22, 3) := by decide +kernel
theorem dX8_rings_44 : decode cX8_rings 44 = .ok (.iload_n 1, 1) := by decide +kernel
theorem dX8_rings_45 : decode cX8_rings 45 = .ok (.iconst 1, 1) := by decide +kernel
theorem dX8_rings_46 : decode cX8_rings 46 = .ok (.iload 4, 2) := by decide +kernel
theorem dX8_rings_48 : decode cX8_rings 48 = .ok (.ishl, 1) := by decide +kernel
theorem dX8_rings_49 : decode cX8_rings 49 = .ok (.ior, 1) := by decide +kernel
theorem dX8_rings_50 : decode cX8_rings 50 = .ok (.istore_n 1, 1) := by decide +kernel
theorem dX8_rings_51 : decode cX8_rings 51 = .ok (.aload_n 0, 1) := by decide +kernel
theorem dX8_rings_52 : decode cX8_rings 52 = .ok (.getfield 31, 3) := by decide +kernel
theorem dX8_rings_55 : decode cX8_rings 55 = .ok (.iload 4, 2) := by decide +kernel
theorem dX8_rings_57 : decode cX8_rings 57 = .ok (.iaload, 1) := by decide +kernel
theorem dX8_rings_58 : decode cX8_rings 58 = .ok (.istore 4, 2) := by decide +kernel
theorem dX8_rings_60 : decode cX8_rings 60 = .ok (.goto (-25), 3) := by decide +kernel
theorem dX8_rings_63 : decode cX8_rings 63 = .ok (.iinc 3 1, 3) := by decide +kernel
theorem dX8_rings_66 : decode cX8_rings 66 = .ok (.goto (-60), 3) := by decide +kernel
theorem dX8_rings_69 : decode cX8_rings 69 = .ok (.iload_n 2, 1) := by decide +kernel
theorem dX8_rings_70 : decode cX8_rings 70 = .ok (.ireturn, 1) := by decide +kernel
set_option maxRecDepth 20000 in
theorem ggX8_mostRings_X8_rings : GoodIn wsX8_mostRings wsX8_rings := goodIn_r _ [10, 1, 4, 11, 12, 9, 13, 14, 15, 16, 17, 18, 19, 20, 21, 22, 23, 24, 25, 26, 27, 28, 29, 30, 31, 32, 33, 34, 35, 36] (by decide +kernel) (by decide +kernel)
set_option maxRecDepth 20000 in
theorem gX8_mostRings_X8_rings : GoodIn wsX8_mostRings (wsV RX8 195 RX8 yX8_rings wsX8_rings) := goodIn_app (goodIn_of _ (by decide +kernel)) ggX8_mostRings_X8_rings
set_option maxRecDepth 20000 in
theorem ggX8_mostRings_X8_has : GoodIn wsX8_mostRings wsX8_has := goodIn_r _ [13] (by decide +kernel) (by decide +kernel)
set_option maxRecDepth 20000 in
theorem gX8_mostRings_X8_has : GoodIn wsX8_mostRings (va_wsS RX8 111 yX8_has wsX8_has) := goodIn_app (goodIn_of _ (by decide +kernel)) ggX8_mostRings_X8_has
theorem dX8_mostRings_0 : decode cX8_mostRings 0 = .ok (.iconst 0, 1) := by decide +kernel
theorem dX8_mostRings_1 : decode cX8_mostRings 1 = .ok (.istore_n 1, 1) := by decide +kernel
theorem dX8_mostRings_2 : decode cX8_mostRings 2 = .ok (.iconst 0, 1) := by decide +kernel
theorem dX8_mostRings_3 : decode cX8_mostRings 3 = .ok (.istore_n 2, 1) := by decide +kernel
theorem dX8_mostRings_4 : decode cX8_mostRings 4 = .ok (.iload_n 2, 1) := by decide +kernel
theorem dX8_mostRings_5 : decode cX8_mostRings 5 = .ok (.aload_n 0, 1) := by decide +kernel
theorem dX8_mostRings_6 : decode cX8_mostRings 6 = .ok (.getfield 7, 3) := by decide +kernel
theorem dX8_mostRings_9 : decode cX8_mostRings 9 = .ok (.iconst 0, 1) := by decide +kernel
theorem dX8_mostRings_10 : decode cX8_mostRings 10 = .ok (.iaload, 1) := by decide +kernel
theorem dX8_mostRings_11 : decode cX8_mostRings 11 = .ok (.if_icmp .ge 42, 3) := by decide +kernel
theorem dX8_mostRings_14 : decode cX8_mostRings 14 = .ok (.aload_n 0, 1) := by decide +kernel
theorem dX8_mostRings_15 : decode cX8_mostRings 15 = .ok (.getfield 7, 3) := by decide +kernel
theorem dX8_mostRings_18 : decode cX8_mostRings 18 = .ok (.iconst 3, 1) := by decide +kernel
theorem dX8_mostRings_19 : decode cX8_mostRings 19 = .ok (.iload_n 2, 1) := by decide +kernel
theorem dX8_mostRings_20 : decode cX8_mostRings 20 = .ok (.iadd, 1) := by decide +kernel
theorem dX8_mostRings_21 : decode cX8_mostRings 21 = .ok (.iaload, 1) := by decide +kernel
theorem dX8_mostRings_22 : decode cX8_mostRings 22 = .ok (.ifCond .ne 25, 3) := by decide +kernel
theorem dX8_mostRings_25 : decode cX8_mostRings 25 = .ok (.aload_n 0, 1) := by decide +kernel
theorem dX8_mostRings_26 : decode cX8_mostRings 26 = .ok (.getfield 37, 3) := by decide +kernel
theorem dX8_mostRings_29 : decode cX8_mostRings 29 = .ok (.iload_n 1, 1) := by decide +kernel
theorem dX8_mostRings_30 : decode cX8_mostRings 30 = .ok (.iload_n 2, 1) := by decide +kernel
theorem dX8_mostRings_31 : decode cX8_mostRings 31 = .ok (.iastore, 1) := by decide +kernel
theorem dX8_mostRings_32 : decode cX8_mostRings 32 = .ok (.aload_n 0, 1) := by decide +kernel
theorem dX8_mostRings_33 : decode cX8_mostRings 33 = .ok (.getfield 40, 3) := by decide +kernel
theorem dX8_mostRings_36 : decode cX8_mostRings 36 = .ok (.iload_n 1, 1) := by decide +kernel
theorem dX8_mostRings_37 : decode cX8_mostRings 37 = .ok (.aload_n 0, 1) := by decide +kernel
theorem dX8_mostRings_38 : decode cX8_mostRings 38 = .ok (.getfield 31, 3) := by decide +kernel
theorem dX8_mostRings_41 : decode cX8_mostRings 41 = .ok (.iload_n 2, 1) := by decide +kernel
theorem dX8_mostRings_42 : decode cX8_mostRings 42 = .ok (.iaload, 1) := by decide +kernel
theorem dX8_mostRings_43 : decode cX8_mostRings 43 = .ok (.iastore, 1) := by decide +kernel
theorem dX8_mostRings_44 : decode cX8_mostRings 44 = .ok (.iinc 1 1, 3) := by decide +kernel
theorem dX8_mostRings_47 : decode cX8_mostRings 47 = .ok (.iinc 2 1, 3) := by decide +kernel
theorem dX8_mostRings_50 : decode cX8_mostRings 50 = .ok (.goto (-46), 3) := by decide +kernel
theorem dX8_mostRings_53 : decode cX8_mostRings 53 = .ok (.iconst 0, 1) := by decide +kernel
theorem dX8_mostRings_54 : decode cX8_mostRings 54 = .ok (.istore_n 2, 1) := by decide +kernel
theorem dX8_mostRings_55 : decode cX8_mostRings 55 = .ok (.iconst 0, 1) := by decide +kernel
theorem dX8_mostRings_56 : decode cX8_mostRings 56 = .ok (.istore_n 3, 1) := by decide +kernel
theorem dX8_mostRings_57 : decode cX8_mostRings 57 = .ok (.aload_n 0, 1) := by decide +kernel
theorem dX8_mostRings_58 : decode cX8_mostRings 58 = .ok (.getfield 43, 3) := by decide +kernel
theorem dX8_mostRings_61 : decode cX8_mostRings 61 = .ok (.iconst 0, 1) := by decide +kernel
theorem dX8_mostRings_62 : decode cX8_mostRings 62 = .ok (.iconst (-1), 1) := by decide +kernel
theorem dX8_mostRings_63 : decode cX8_mostRings 63 = .ok (.iastore, 1) := by decide +kernel
theorem dX8_mostRings_64 : decode cX8_mostRings 64 = .ok (.iload_n 3, 1) := by decide +kernel
theorem dX8_mostRings_65 : decode cX8_mostRings 65 = .ok (.ifCond .lt 169, 3) := by decide +kernel
theorem dX8_mostRings_68 : decode cX8_mostRings 68 = .ok (.iconst 0, 1) := by decide +kernel
theorem dX8_mostRings_69 : decode cX8_mostRings 69 = .ok (.istore 4, 2) := by decide +kernel
theorem dX8_mostRings_71 : decode cX8_mostRings 71 = .ok (.iconst 0, 1) := by decide +kernel
theorem dX8_mostRings_72 : decode cX8_mostRings 72 = .ok (.istore 5, 2) := by decide +kernel
theorem dX8_mostRings_74 : decode cX8_mostRings 74 = .ok (.iload 5, 2) := by decide +kernel
theorem dX8_mostRings_76 : decode cX8_mostRings 76 = .ok (.iload_n 3, 1) := by decide +kernel
theorem dX8_mostRings_77 : decode cX8_mostRings 77 = .ok (.if_icmp .ge 23, 3) := by decide +kernel
theorem dX8_mostRings_80 : decode cX8_mostRings 80 = .ok (.iload 4, 2) := by decide +kernel
theorem dX8_mostRings_82 : decode cX8_mostRings 82 = .ok (.iconst 1, 1) := by decide +kernel
theorem dX8_mostRings_83 : decode cX8_mostRings 83 = .ok (.aload_n 0, 1) := by decide +kernel
theorem dX8_mostRings_84 : decode cX8_mostRings 84 = .ok (.getfield 43, 3) := by decide +kernel
theorem dX8_mostRings_87 : decode cX8_mostRings 87 = .ok (.iload 5, 2) := by decide +kernel
theorem dX8_mostRings_89 : decode cX8_mostRings 89 = .ok (.iaload, 1) := by decide +kernel
theorem dX8_mostRings_90 : decode cX8_mostRings 90 = .ok (.ishl, 1) := by decide +kernel
theorem dX8_mostRings_91 : decode cX8_mostRings 91 = .ok (.ior, 1) := by decide +kernel
theorem dX8_mostRings_92 : decode cX8_mostRings 92 = .ok (.istore 4, 2) := by decide +kernel
theorem dX8_mostRings_94 : decode cX8_mostRings 94 = .ok (.iinc 5 1, 3) := by decide +kernel
theorem dX8_mostRings_97 : decode cX8_mostRings 97 = .ok (.goto (-23), 3) := by decide +kernel
theorem dX8_mostRings_100 : decode cX8_mostRings 100 = .ok (.iload_n 3, 1) := by decide +kernel
theorem dX8_mostRings_101 : decode cX8_mostRings 101 = .ok (.iload_n 1, 1) := by decide +kernel
theorem dX8_mostRings_102 : decode cX8_mostRings 102 = .ok (.if_icmp .ne 67, 3) := by decide +kernel
theorem dX8_mostRings_105 : decode cX8_mostRings 105 = .ok (.iconst 0, 1) := by decide +kernel
theorem dX8_mostRings_106 : decode cX8_mostRings 106 = .ok (.istore 5, 2) := by decide +kernel
theorem dX8_mostRings_108 : decode cX8_mostRings 108 = .ok (.iload 5, 2) := by decide +kernel
theorem dX8_mostRings_110 : decode cX8_mostRings 110 = .ok (.iload_n 1, 1) := by decide +kernel
theorem dX8_mostRings_111 : decode cX8_mostRings 111 = .ok (.if_icmp .ge 33, 3) := by decide +kernel
theorem dX8_mostRings_114 : decode cX8_mostRings 114 = .ok (.aload_n 0, 1) := by decide +kernel
theorem dX8_mostRings_115 : decode cX8_mostRings 115 = .ok (.getfield 31, 3) := by decide +kernel
theorem dX8_mostRings_118 : decode cX8_mostRings 118 = .ok (.aload_n 0, 1) := by decide +kernel
theorem dX8_mostRings_119 : decode cX8_mostRings 119 = .ok (.getfield 37, 3) := by decide +kernel
theorem dX8_mostRings_122 : decode cX8_mostRings 122 = .ok (.iload 5, 2) := by decide +kernel
theorem dX8_mostRings_124 : decode cX8_mostRings 124 = .ok (.iaload, 1) := by decide +kernel
theorem dX8_mostRings_125 : decode cX8_mostRings 125 = .ok (.aload_n 0, 1) := by decide +kernel
theorem dX8_mostRings_126 : decode cX8_mostRings 126 = .ok (.getfield 40, 3) := by decide +kernel
theorem dX8_mostRings_129 : decode cX8_mostRings 129 = .ok (.aload_n 0, 1) := by decide +kernel
theorem dX8_mostRings_130 : decode cX8_mostRings 130 = .ok (.getfield 43, 3) := by decide +kernel
theorem dX8_mostRings_133 : decode cX8_mostRings 133 = .ok (.iload 5, 2) := by decide +kernel
theorem dX8_mostRings_135 : decode cX8_mostRings 135 = .ok (.iaload, 1) := by decide +kernel
theorem dX8_mostRings_136 : decode cX8_mostRings 136 = .ok (.iaload, 1) := by decide +kernel
theorem dX8_mostRings_137 : decode cX8_mostRings 137 = .ok (.iastore, 1) := by decide +kernel
theorem dX8_mostRings_138 : decode cX8_mostRings 138 = .ok (.iinc 5 1, 3) := by decide +kernel
theorem dX8_mostRings_141 : decode cX8_mostRings 141 = .ok (.goto (-33), 3) := by decide +kernel
theorem dX8_mostRings_144 : decode cX8_mostRings 144 = .ok (.aload_n 0, 1) := by decide +kernel
theorem dX8_mostRings_145 : decode cX8_mostRings 145 = .ok (.invokevirtual 195, 3) := by decide +kernel
theorem dX8_mostRings_148 : decode cX8_mostRings 148 = .ok (.istore 5, 2) := by decide +kernel
theorem dX8_mostRings_150 : decode cX8_mostRings 150 = .ok (.iload 5, 2) := by decide +kernel
theorem dX8_mostRings_152 : decode cX8_mostRings 152 = .ok (.iload_n 2, 1) := by decide +kernel
theorem dX8_mostRings_153 : decode cX8_mostRings 153 = .ok (.if_icmp .le 8, 3) := by decide +kernel
theorem dX8_mostRings_156 : decode cX8_mostRings 156 = .ok (.iload 5, 2) := by decide +kernel
theorem dX8_mostRings_158 : decode cX8_mostRings 158 = .ok (.goto 4, 3) := by decide +kernel
theorem dX8_mostRings_161 : decode cX8_mostRings 161 = .ok (.iload_n 2, 1) := by decide +kernel
theorem dX8_mostRings_162 : decode cX8_mostRings 162 = .ok (.istore_n 2, 1) := by decide +kernel
theorem dX8_mostRings_163 : decode cX8_mostRings 163 = .ok (.iinc 3 (-1), 3) := by decide +kernel
theorem dX8_mostRings_166 : decode cX8_mostRings 166 = .ok (.goto 65, 3) := by decide +kernel
theorem dX8_mostRings_169 : decode cX8_mostRings 169 = .ok (.aload_n 0, 1) := by decide +kernel
theorem dX8_mostRings_170 : decode cX8_mostRings 170 = .ok (.getfield 43, 3) := by decide +kernel
theorem dX8_mostRings_173 : decode cX8_mostRings 173 = .ok (.iload_n 3, 1) := by decide +kernel
theorem dX8_mostRings_174 : decode cX8_mostRings 174 = .ok (.iaload, 1) := by decide +kernel
theorem dX8_mostRings_175 : decode cX8_mostRings 175 = .ok (.iconst 1, 1) := by decide +kernel
theorem dX8_mostRings_176 : decode cX8_mostRings 176 = .ok (.iadd, 1) := by decide +kernel
theorem dX8_mostRings_177 : decode cX8_mostRings 177 = .ok (.istore 5, 2) := by decide +kernel
theorem dX8_mostRings_179 : decode cX8_mostRings 179 = .ok (.iload 5, 2) := by decide +kernel
theorem dX8_mostRings_181 : decode cX8_mostRings 181 = .ok (.iload_n 1, 1) := by decide +kernel
theorem dX8_mostRings_182 : decode cX8_mostRings 182 = .ok (.if_icmp .ge 19, 3) := by decide +kernel
theorem dX8_mostRings_185 : decode cX8_mostRings 185 = .ok (.iload 4, 2) := by decide +kernel
theorem dX8_mostRings_187 : decode cX8_mostRings 187 = .ok (.iload 5, 2) := by decide +kernel
theorem dX8_mostRings_189 : decode cX8_mostRings 189 = .ok (.invokestatic 111, 3) := by decide +kernel
theorem dX8_mostRings_192 : decode cX8_mostRings 192 = .ok (.ifCond .eq 9, 3) := by decide +kernel
theorem dX8_mostRings_195 : decode cX8_mostRings 195 = .ok (.iinc 5 1, 3) := by decide +kernel
theorem dX8_mostRings_198 : decode cX8_mostRings 198 = .ok (.goto (-19), 3) := by decide +kernel
theorem dX8_mostRings_201 : decode cX8_mostRings 201 = .ok (.aload_n 0, 1) := by decide +kernel
theorem dX8_mostRings_202 : decode cX8_mostRings 202 = .ok (.getfield 43, 3) := by decide +kernel
theorem dX8_mostRings_205 : decode cX8_mostRings 205 = .ok (.iload_n 3, 1) := by decide +kernel
theorem dX8_mostRings_206 : decode cX8_mostRings 206 = .ok (.iload 5, 2) := by decide +kernel
theorem dX8_mostRings_208 : decode cX8_mostRings 208 = .ok (.iastore, 1) := by decide +kernel
theorem dX8_mostRings_209 : decode cX8_mostRings 209 = .ok (.iload 5, 2) := by decide +kernel
theorem dX8_mostRings_211 : decode cX8_mostRings 211 = .ok (.iload_n 1, 1) := by decide +kernel
theorem dX8_mostRings_212 : decode cX8_mostRings 212 = .ok (.if_icmp .ne 9, 3) := by decide +kernel
theorem dX8_mostRings_215 : decode cX8_mostRings 215 = .ok (.iinc 3 (-1), 3) := by decide +kernel
theorem dX8_mostRings_218 : decode cX8_mostRings 218 = .ok (.goto 13, 3) := by decide +kernel
theorem dX8_mostRings_221 : decode cX8_mostRings 221 = .ok (.iinc 3 1, 3) := by decide +kernel
theorem dX8_mostRings_224 : decode cX8_mostRings 224 = .ok (.aload_n 0, 1) := by decide +kernel
theorem dX8_mostRings_225 : decode cX8_mostRings 225 = .ok (.getfield 43, 3) := by decide +kernel
theorem dX8_mostRings_228 : decode cX8_mostRings 228 = .ok (.iload_n 3, 1) := by decide +kernel
theorem dX8_mostRings_229 : decode cX8_mostRings 229 = .ok (.iconst (-1), 1) := by decide +kernel
theorem dX8_mostRings_230 : decode cX8_mostRings 230 = .ok (.iastore, 1) := by decide +kernel
theorem dX8_mostRings_231 : decode cX8_mostRings 231 = .ok (.goto (-167), 3) := by decide +kernel
theorem dX8_mostRings_234 : decode cX8_mostRings 234 = .ok (.iload_n 2, 1) := by decide +kernel
theorem dX8_mostRings_235 : decode cX8_mostRings 235 = .ok (.ireturn, 1) := by decide +kernel
theorem dX8_noneOf_0 : decode cX8_noneOf 0 = .ok (.iconst 0, 1) := by decide +kernel
theorem dX8_noneOf_1 : decode cX8_noneOf 1 = .ok (.istore_n 1, 1) := by decide +kernel
theorem dX8_noneOf_2 : decode cX8_noneOf 2 = .ok (.iconst 0, 1) := by decide +kernel
theorem dX8_noneOf_3 : decode cX8_noneOf 3 = .ok (.istore_n 2, 1) := by decide +kernel
theorem dX8_noneOf_4 : decode cX8_noneOf 4 = .ok (.iload_n 2, 1) := by decide +kernel
theorem dX8_noneOf_5 : decode cX8_noneOf 5 = .ok (.aload_n 0, 1) := by decide +kernel
theorem dX8_noneOf_6 : decode cX8_noneOf 6 = .ok (.getfield 7, 3) := by decide +kernel
theorem dX8_noneOf_9 : decode cX8_noneOf 9 = .ok (.iconst 0, 1) := by decide +kernel
theorem dX8_noneOf_10 : decode cX8_noneOf 10 = .ok (.iaload, 1) := by decide +kernel
theorem dX8_noneOf_11 : decode cX8_noneOf 11 = .ok (.if_icmp .ge 28, 3) := by decide +kernel
theorem dX8_noneOf_14 : decode cX8_noneOf 14 = .ok (.iload_n 1, 1) := by decide +kernel
theorem dX8_noneOf_15 : decode cX8_noneOf 15 = .ok (.aload_n 0, 1) := by decide +kernel
theorem dX8_noneOf_16 : decode cX8_noneOf 16 = .ok (.getfield 7, 3) := by decide +kernel
theorem dX8_noneOf_19 : decode cX8_noneOf 19 = .ok (.iconst 3, 1) := by decide +kernel
theorem dX8_noneOf_20 : decode cX8_noneOf 20 = .ok (.iload_n 2, 1) := by decide +kernel
theorem dX8_noneOf_21 : decode cX8_noneOf 21 = .ok (.iadd, 1) := by decide +kernel
theorem dX8_noneOf_22 : decode cX8_noneOf 22 = .ok (.iaload, 1) := by decide +kernel
theorem dX8_noneOf_23 : decode cX8_noneOf 23 = .ok (.ifCond .ne 7, 3) := by decide +kernel
theorem dX8_noneOf_26 : decode cX8_noneOf 26 = .ok (.iconst 1, 1) := by decide +kernel
theorem dX8_noneOf_27 : decode cX8_noneOf 27 = .ok (.goto 4, 3) := by decide +kernel
theorem dX8_noneOf_30 : decode cX8_noneOf 30 = .ok (.iconst 0, 1) := by decide +kernel
theorem dX8_noneOf_31 : decode cX8_noneOf 31 = .ok (.iadd, 1) := by decide +kernel
theorem dX8_noneOf_32 : decode cX8_noneOf 32 = .ok (.istore_n 1, 1) := by decide +kernel
theorem dX8_noneOf_33 : decode cX8_noneOf 33 = .ok (.iinc 2 1, 3) := by decide +kernel
theorem dX8_noneOf_36 : decode cX8_noneOf 36 = .ok (.goto (-32), 3) := by decide +kernel
theorem dX8_noneOf_39 : decode cX8_noneOf 39 = .ok (.iload_n 1, 1) := by decide +kernel
theorem dX8_noneOf_40 : decode cX8_noneOf 40 = .ok (.ireturn, 1) := by decide +kernel
set_option maxRecDepth 20000 in
theorem ggX8_swaps_X8_isRow : GoodIn wsX8_swaps wsX8_isRow := goodIn_r _ [9, 10, 11, 12, 8, 13] (by decide +kernel) (by decide +kernel)
set_option maxRecDepth 20000 in
theorem gX8_swaps_X8_isRow : GoodIn wsX8_swaps (va_wsS RX8 66 yX8_isRow wsX8_isRow) := goodIn_app (goodIn_of _ (by decide +kernel)) ggX8_swaps_X8_isRow
set_option maxRecDepth 20000 in
theorem ggX8_swaps_X8_in : GoodIn wsX8_swaps wsX8_in := goodIn_r _ [13] (by decide +kernel) (by decide +kernel)
set_option maxRecDepth 20000 in
theorem gX8_swaps_X8_in : GoodIn wsX8_swaps (va_wsS RX8 55 yX8_in wsX8_in) := goodIn_app (goodIn_of _ (by decide +kernel)) ggX8_swaps_X8_in
set_option maxRecDepth 20000 in
theorem ggX8_swaps_X8_against : GoodIn wsX8_swaps wsX8_against := goodIn_r _ [17, 18, 49, 50, 51, 52, 53, 54, 55, 56, 57, 58, 59, 60, 61, 62, 63, 64, 65, 66, 67, 68, 69, 70, 71] (by decide +kernel) (by decide +kernel)
set_option maxRecDepth 20000 in
theorem gX8_swaps_X8_against : GoodIn wsX8_swaps (wsV RX8 77 RX8 yX8_against wsX8_against) := goodIn_app (goodIn_of _ (by decide +kernel)) ggX8_swaps_X8_against
set_option maxRecDepth 20000 in
theorem ggX8_swaps_X8_finds : GoodIn wsX8_swaps wsX8_finds := goodIn_r _ [22, 4, 23, 49, 50, 51, 52, 53, 54, 55, 56, 57, 58, 59, 60, 61, 62, 63, 64, 65, 66, 67, 68, 69, 70, 71] (by decide +kernel) (by decide +kernel)
set_option maxRecDepth 20000 in
theorem gX8_swaps_X8_finds : GoodIn wsX8_swaps (wsV RX8 73 RX8 yX8_finds wsX8_finds) := goodIn_app (goodIn_of _ (by decide +kernel)) ggX8_swaps_X8_finds
set_option maxRecDepth 20000 in
theorem ggX8_swaps_X8_laysTo : GoodIn wsX8_swaps wsX8_laysTo := goodIn_r _ [27, 1, 28, 29, 30, 31, 32, 8, 33, 49, 50, 51, 52, 53, 54, 55, 56, 57, 58, 59, 60, 61, 62, 63, 64, 65, 66, 67, 68, 69, 70, 71] (by decide +kernel) (by decide +kernel)
set_option maxRecDepth 20000 in
theorem gX8_swaps_X8_laysTo : GoodIn wsX8_swaps (wsV RX8 198 RX8 yX8_laysTo wsX8_laysTo) := goodIn_app (goodIn_of _ (by decide +kernel)) ggX8_swaps_X8_laysTo
set_option maxRecDepth 20000 in
theorem ggX8_swaps_X8_mostRings : GoodIn wsX8_swaps wsX8_mostRings := goodIn_r _ [37, 1, 38, 39, 30, 40, 41, 42, 43, 8, 44, 31, 32, 33, 49, 50, 51, 52, 53, 54, 55, 56, 57, 58, 59, 60, 61, 62, 63, 64, 65, 66, 67, 68, 69, 70, 71] (by decide +kernel) (by decide +kernel)
set_option maxRecDepth 20000 in
theorem gX8_swaps_X8_mostRings : GoodIn wsX8_swaps (wsV RX8 201 RX8 yX8_mostRings wsX8_mostRings) := goodIn_app (goodIn_of _ (by decide +kernel)) ggX8_swaps_X8_mostRings
set_option maxRecDepth 20000 in
theorem ggX8_swaps_X8_noneOf : GoodIn wsX8_swaps wsX8_noneOf := goodIn_r _ [48, 1, 49, 50, 51, 52, 53, 54, 55, 56, 57, 58, 59, 60, 61, 62, 63, 64, 65, 66, 67, 68, 69, 70, 71] (by decide +kernel) (by decide +kernel)
set_option maxRecDepth 20000 in
theorem gX8_swaps_X8_noneOf : GoodIn wsX8_swaps (wsV RX8 204 RX8 yX8_noneOf wsX8_noneOf) := goodIn_app (goodIn_of _ (by decide +kernel)) ggX8_swaps_X8_noneOf
theorem dX8_swaps_0 : decode cX8_swaps 0 = .ok (.aload_n 0, 1) := by decide +kernel
theorem dX8_swaps_1 : decode cX8_swaps 1 = .ok (.getfield 7, 3) := by decide +kernel
theorem dX8_swaps_4 : decode cX8_swaps 4 = .ok (.iconst 0, 1) := by decide +kernel
theorem dX8_swaps_5 : decode cX8_swaps 5 = .ok (.iaload, 1) := by decide +kernel
theorem dX8_swaps_6 : decode cX8_swaps 6 = .ok (.ifCond .ne 6, 3) := by decide +kernel
theorem dX8_swaps_9 : decode cX8_swaps 9 = .ok (.ldc 149, 2) := by decide +kernel
theorem dX8_swaps_11 : decode cX8_swaps 11 = .ok (.ireturn, 1) := by decide +kernel
theorem dX8_swaps_12 : decode cX8_swaps 12 = .ok (.iload_n 1, 1) := by decide +kernel
theorem dX8_swaps_13 : decode cX8_swaps 13 = .ok (.invokestatic 66, 3) := by decide +kernel
theorem dX8_swaps_16 : decode cX8_swaps 16 = .ok (.ifCond .eq 13, 3) := by decide +kernel
theorem dX8_swaps_19 : decode cX8_swaps 19 = .ok (.iload_n 3, 1) := by decide +kernel
theorem dX8_swaps_20 : decode cX8_swaps 20 = .ok (.i2l, 1) := by decide +kernel
theorem dX8_swaps_21 : decode cX8_swaps 21 = .ok (.lconst 0, 1) := by decide +kernel
theorem dX8_swaps_22 : decode cX8_swaps 22 = .ok (.lconst 1, 1) := by decide +kernel
theorem dX8_swaps_23 : decode cX8_swaps 23 = .ok (.invokestatic 55, 3) := by decide +kernel
theorem dX8_swaps_26 : decode cX8_swaps 26 = .ok (.ifCond .ne 6, 3) := by decide +kernel
theorem dX8_swaps_29 : decode cX8_swaps 29 = .ok (.ldc 72, 2) := by decide +kernel
theorem dX8_swaps_31 : decode cX8_swaps 31 = .ok (.ireturn, 1) := by decide +kernel
theorem dX8_swaps_32 : decode cX8_swaps 32 = .ok (.aload_n 0, 1) := by decide +kernel
theorem dX8_swaps_33 : decode cX8_swaps 33 = .ok (.iload_n 1, 1) := by decide +kernel
theorem dX8_swaps_34 : decode cX8_swaps 34 = .ok (.iload_n 2, 1) := by decide +kernel
theorem dX8_swaps_35 : decode cX8_swaps 35 = .ok (.aload_n 0, 1) := by decide +kernel
theorem dX8_swaps_36 : decode cX8_swaps 36 = .ok (.getfield 7, 3) := by decide +kernel
theorem dX8_swaps_39 : decode cX8_swaps 39 = .ok (.iconst 0, 1) := by decide +kernel
theorem dX8_swaps_40 : decode cX8_swaps 40 = .ok (.iaload, 1) := by decide +kernel
theorem dX8_swaps_41 : decode cX8_swaps 41 = .ok (.invokevirtual 77, 3) := by decide +kernel
theorem dX8_swaps_44 : decode cX8_swaps 44 = .ok (.istore 4, 2) := by decide +kernel
theorem dX8_swaps_46 : decode cX8_swaps 46 = .ok (.iload 4, 2) := by decide +kernel
theorem dX8_swaps_48 : decode cX8_swaps 48 = .ok (.ifCond .le 10, 3) := by decide +kernel
theorem dX8_swaps_51 : decode cX8_swaps 51 = .ok (.aload_n 0, 1) := by decide +kernel
theorem dX8_swaps_52 : decode cX8_swaps 52 = .ok (.iload 4, 2) := by decide +kernel
theorem dX8_swaps_54 : decode cX8_swaps 54 = .ok (.invokevirtual 73, 3) := by decide +kernel
theorem dX8_swaps_57 : decode cX8_swaps 57 = .ok (.ireturn, 1) := by decide +kernel
theorem dX8_swaps_58 : decode cX8_swaps 58 = .ok (.aload_n 0, 1) := by decide +kernel
theorem dX8_swaps_59 : decode cX8_swaps 59 = .ok (.iconst 0, 1) := by decide +kernel
theorem dX8_swaps_60 : decode cX8_swaps 60 = .ok (.putfield 61, 3) := by decide +kernel
theorem dX8_swaps_63 : decode cX8_swaps 63 = .ok (.aload_n 0, 1) := by decide +kernel
theorem dX8_swaps_64 : decode cX8_swaps 64 = .ok (.iload_n 1, 1) := by decide +kernel
theorem dX8_swaps_65 : decode cX8_swaps 65 = .ok (.iload_n 2, 1) := by decide +kernel
theorem dX8_swaps_66 : decode cX8_swaps 66 = .ok (.invokevirtual 198, 3) := by decide +kernel
theorem dX8_swaps_69 : decode cX8_swaps 69 = .ok (.ifCond .ne 6, 3) := by decide +kernel
theorem dX8_swaps_72 : decode cX8_swaps 72 = .ok (.ldc 163, 2) := by decide +kernel
theorem dX8_swaps_74 : decode cX8_swaps 74 = .ok (.ireturn, 1) := by decide +kernel
theorem dX8_swaps_75 : decode cX8_swaps 75 = .ok (.aload_n 0, 1) := by decide +kernel
theorem dX8_swaps_76 : decode cX8_swaps 76 = .ok (.getfield 7, 3) := by decide +kernel
theorem dX8_swaps_79 : decode cX8_swaps 79 = .ok (.iconst 0, 1) := by decide +kernel
theorem dX8_swaps_80 : decode cX8_swaps 80 = .ok (.iaload, 1) := by decide +kernel
theorem dX8_swaps_81 : decode cX8_swaps 81 = .ok (.aload_n 0, 1) := by decide +kernel
theorem dX8_swaps_82 : decode cX8_swaps 82 = .ok (.invokevirtual 201, 3) := by decide +kernel
theorem dX8_swaps_85 : decode cX8_swaps 85 = .ok (.isub, 1) := by decide +kernel
theorem dX8_swaps_86 : decode cX8_swaps 86 = .ok (.istore 5, 2) := by decide +kernel
theorem dX8_swaps_88 : decode cX8_swaps 88 = .ok (.iload_n 3, 1) := by decide +kernel
theorem dX8_swaps_89 : decode cX8_swaps 89 = .ok (.ifCond .ne 8, 3) := by decide +kernel
theorem dX8_swaps_92 : decode cX8_swaps 92 = .ok (.iload 5, 2) := by decide +kernel
theorem dX8_swaps_94 : decode cX8_swaps 94 = .ok (.goto 27, 3) := by decide +kernel
theorem dX8_swaps_97 : decode cX8_swaps 97 = .ok (.aload_n 0, 1) := by decide +kernel
theorem dX8_swaps_98 : decode cX8_swaps 98 = .ok (.invokevirtual 204, 3) := by decide +kernel
theorem dX8_swaps_101 : decode cX8_swaps 101 = .ok (.iconst 1, 1) := by decide +kernel
theorem dX8_swaps_102 : decode cX8_swaps 102 = .ok (.if_icmp .le 7, 3) := by decide +kernel
theorem dX8_swaps_105 : decode cX8_swaps 105 = .ok (.iconst 3, 1) := by decide +kernel
theorem dX8_swaps_106 : decode cX8_swaps 106 = .ok (.goto 15, 3) := by decide +kernel
theorem dX8_swaps_109 : decode cX8_swaps 109 = .ok (.iload 5, 2) := by decide +kernel
theorem dX8_swaps_111 : decode cX8_swaps 111 = .ok (.iconst 2, 1) := by decide +kernel
theorem dX8_swaps_112 : decode cX8_swaps 112 = .ok (.irem, 1) := by decide +kernel
theorem dX8_swaps_113 : decode cX8_swaps 113 = .ok (.ifCond .ne 7, 3) := by decide +kernel
theorem dX8_swaps_116 : decode cX8_swaps 116 = .ok (.iconst 1, 1) := by decide +kernel
theorem dX8_swaps_117 : decode cX8_swaps 117 = .ok (.goto 4, 3) := by decide +kernel
theorem dX8_swaps_120 : decode cX8_swaps 120 = .ok (.iconst 2, 1) := by decide +kernel
theorem dX8_swaps_121 : decode cX8_swaps 121 = .ok (.ireturn, 1) := by decide +kernel
set_option maxRecDepth 20000 in
theorem ggX8_sort_X8_isRow : GoodIn wsX8_sort wsX8_isRow := goodIn_r _ [10, 11, 12, 13, 9, 14] (by decide +kernel) (by decide +kernel)
set_option maxRecDepth 20000 in
theorem gX8_sort_X8_isRow : GoodIn wsX8_sort (va_wsS RX8 66 yX8_isRow wsX8_isRow) := goodIn_app (goodIn_of _ (by decide +kernel)) ggX8_sort_X8_isRow
set_option maxRecDepth 20000 in
theorem ggX8_sort_X8_against : GoodIn wsX8_sort wsX8_against := goodIn_r _ [18, 19, 34, 35, 36, 37, 38, 39, 40, 41, 42, 43, 44, 45, 46, 47, 48, 49, 50, 51, 52, 53, 54, 55, 56] (by decide +kernel) (by decide +kernel)
set_option maxRecDepth 20000 in
theorem gX8_sort_X8_against : GoodIn wsX8_sort (wsV RX8 77 RX8 yX8_against wsX8_against) := goodIn_app (goodIn_of _ (by decide +kernel)) ggX8_sort_X8_against
set_option maxRecDepth 20000 in
theorem ggX8_sort_X8_finds : GoodIn wsX8_sort wsX8_finds := goodIn_r _ [23, 4, 24, 34, 35, 36, 37, 38, 39, 40, 41, 42, 43, 44, 45, 46, 47, 48, 49, 50, 51, 52, 53, 54, 55, 56] (by decide +kernel) (by decide +kernel)
set_option maxRecDepth 20000 in
theorem gX8_sort_X8_finds : GoodIn wsX8_sort (wsV RX8 73 RX8 yX8_finds wsX8_finds) := goodIn_app (goodIn_of _ (by decide +kernel)) ggX8_sort_X8_finds
set_option maxRecDepth 20000 in
theorem ggX8_sort_X8_laysTo : GoodIn wsX8_sort wsX8_laysTo := goodIn_r _ [28, 1, 29, 30, 6, 31, 32, 9, 33, 34, 35, 36, 37, 38, 39, 40, 41, 42, 43, 44, 45, 46, 47, 48, 49, 50, 51, 52, 53, 54, 55, 56] (by decide +kernel) (by decide +kernel)
set_option maxRecDepth 20000 in
theorem gX8_sort_X8_laysTo : GoodIn wsX8_sort (wsV RX8 198 RX8 yX8_laysTo wsX8_laysTo) := goodIn_app (goodIn_of _ (by decide +kernel)) ggX8_sort_X8_laysTo
theorem dX8_sort_0 : decode cX8_sort 0 = .ok (.aload_n 0, 1) := by decide +kernel
theorem dX8_sort_1 : decode cX8_sort 1 = .ok (.getfield 7, 3) := by decide +kernel
theorem dX8_sort_4 : decode cX8_sort 4 = .ok (.iconst 0, 1) := by decide +kernel
theorem dX8_sort_5 : decode cX8_sort 5 = .ok (.iaload, 1) := by decide +kernel
theorem dX8_sort_6 : decode cX8_sort 6 = .ok (.ifCond .ne 6, 3) := by decide +kernel
theorem dX8_sort_9 : decode cX8_sort 9 = .ok (.ldc 149, 2) := by decide +kernel
theorem dX8_sort_11 : decode cX8_sort 11 = .ok (.ireturn, 1) := by decide +kernel
theorem dX8_sort_12 : decode cX8_sort 12 = .ok (.iload_n 1, 1) := by decide +kernel
theorem dX8_sort_13 : decode cX8_sort 13 = .ok (.invokestatic 66, 3) := by decide +kernel
theorem dX8_sort_16 : decode cX8_sort 16 = .ok (.ifCond .eq 8, 3) := by decide +kernel
theorem dX8_sort_19 : decode cX8_sort 19 = .ok (.iload_n 3, 1) := by decide +kernel
theorem dX8_sort_20 : decode cX8_sort 20 = .ok (.iconst (-1), 1) := by decide +kernel
theorem dX8_sort_21 : decode cX8_sort 21 = .ok (.if_icmp .ge 6, 3) := by decide +kernel
theorem dX8_sort_24 : decode cX8_sort 24 = .ok (.ldc 72, 2) := by decide +kernel
theorem dX8_sort_26 : decode cX8_sort 26 = .ok (.ireturn, 1) := by decide +kernel
theorem dX8_sort_27 : decode cX8_sort 27 = .ok (.aload_n 0, 1) := by decide +kernel
theorem dX8_sort_28 : decode cX8_sort 28 = .ok (.iload_n 1, 1) := by decide +kernel
theorem dX8_sort_29 : decode cX8_sort 29 = .ok (.iload_n 2, 1) := by decide +kernel
theorem dX8_sort_30 : decode cX8_sort 30 = .ok (.aload_n 0, 1) := by decide +kernel
theorem dX8_sort_31 : decode cX8_sort 31 = .ok (.getfield 7, 3) := by decide +kernel
theorem dX8_sort_34 : decode cX8_sort 34 = .ok (.iconst 0, 1) := by decide +kernel
theorem dX8_sort_35 : decode cX8_sort 35 = .ok (.iaload, 1) := by decide +kernel
theorem dX8_sort_36 : decode cX8_sort 36 = .ok (.invokevirtual 77, 3) := by decide +kernel
theorem dX8_sort_39 : decode cX8_sort 39 = .ok (.istore 4, 2) := by decide +kernel
theorem dX8_sort_41 : decode cX8_sort 41 = .ok (.iload 4, 2) := by decide +kernel
theorem dX8_sort_43 : decode cX8_sort 43 = .ok (.ifCond .le 10, 3) := by decide +kernel
theorem dX8_sort_46 : decode cX8_sort 46 = .ok (.aload_n 0, 1) := by decide +kernel
theorem dX8_sort_47 : decode cX8_sort 47 = .ok (.iload 4, 2) := by decide +kernel
theorem dX8_sort_49 : decode cX8_sort 49 = .ok (.invokevirtual 73, 3) := by decide +kernel
theorem dX8_sort_52 : decode cX8_sort 52 = .ok (.ireturn, 1) := by decide +kernel
theorem dX8_sort_53 : decode cX8_sort 53 = .ok (.aload_n 0, 1) := by decide +kernel
theorem dX8_sort_54 : decode cX8_sort 54 = .ok (.iconst 0, 1) := by decide +kernel
theorem dX8_sort_55 : decode cX8_sort 55 = .ok (.putfield 61, 3) := by decide +kernel
theorem dX8_sort_58 : decode cX8_sort 58 = .ok (.aload_n 0, 1) := by decide +kernel
theorem dX8_sort_59 : decode cX8_sort 59 = .ok (.iload_n 1, 1) := by decide +kernel
theorem dX8_sort_60 : decode cX8_sort 60 = .ok (.iload_n 2, 1) := by decide +kernel
theorem dX8_sort_61 : decode cX8_sort 61 = .ok (.invokevirtual 198, 3) := by decide +kernel
theorem dX8_sort_64 : decode cX8_sort 64 = .ok (.ifCond .ne 6, 3) := by decide +kernel
theorem dX8_sort_67 : decode cX8_sort 67 = .ok (.ldc 163, 2) := by decide +kernel
theorem dX8_sort_69 : decode cX8_sort 69 = .ok (.ireturn, 1) := by decide +kernel
theorem dX8_sort_70 : decode cX8_sort 70 = .ok (.iconst 0, 1) := by decide +kernel
theorem dX8_sort_71 : decode cX8_sort 71 = .ok (.istore 5, 2) := by decide +kernel
theorem dX8_sort_73 : decode cX8_sort 73 = .ok (.iconst 0, 1) := by decide +kernel
theorem dX8_sort_74 : decode cX8_sort 74 = .ok (.istore 6, 2) := by decide +kernel
theorem dX8_sort_76 : decode cX8_sort 76 = .ok (.iload 6, 2) := by decide +kernel
theorem dX8_sort_78 : decode cX8_sort 78 = .ok (.iconst 1, 1) := by decide +kernel
theorem dX8_sort_79 : decode cX8_sort 79 = .ok (.iadd, 1) := by decide +kernel
theorem dX8_sort_80 : decode cX8_sort 80 = .ok (.aload_n 0, 1) := by decide +kernel
theorem dX8_sort_81 : decode cX8_sort 81 = .ok (.getfield 7, 3) := by decide +kernel
theorem dX8_sort_84 : decode cX8_sort 84 = .ok (.iconst 0, 1) := by decide +kernel
theorem dX8_sort_85 : decode cX8_sort 85 = .ok (.iaload, 1) := by decide +kernel
theorem dX8_sort_86 : decode cX8_sort 86 = .ok (.if_icmp .ge 82, 3) := by decide +kernel
theorem dX8_sort_89 : decode cX8_sort 89 = .ok (.aload_n 0, 1) := by decide +kernel
theorem dX8_sort_90 : decode cX8_sort 90 = .ok (.getfield 31, 3) := by decide +kernel
theorem dX8_sort_93 : decode cX8_sort 93 = .ok (.iload 6, 2) := by decide +kernel
theorem dX8_sort_95 : decode cX8_sort 95 = .ok (.iaload, 1) := by decide +kernel
theorem dX8_sort_96 : decode cX8_sort 96 = .ok (.aload_n 0, 1) := by decide +kernel
theorem dX8_sort_97 : decode cX8_sort 97 = .ok (.getfield 31, 3) := by decide +kernel
theorem dX8_sort_100 : decode cX8_sort 100 = .ok (.iload 6, 2) := by decide +kernel
theorem dX8_sort_102 : decode cX8_sort 102 = .ok (.iconst 1, 1) := by decide +kernel
theorem dX8_sort_103 : decode cX8_sort 103 = .ok (.iadd, 1) := by decide +kernel
theorem dX8_sort_104 : decode cX8_sort 104 = .ok (.iaload, 1) := by decide +kernel
theorem dX8_sort_105 : decode cX8_sort 105 = .ok (.if_icmp .le 57, 3) := by decide +kernel
theorem dX8_sort_108 : decode cX8_sort 108 = .ok (.iload 5, 2) := by decide +kernel
theorem dX8_sort_110 : decode cX8_sort 110 = .ok (.iload_n 3, 1) := by decide +kernel
theorem dX8_sort_111 : decode cX8_sort 111 = .ok (.if_icmp .ne 6, 3) := by decide +kernel
theorem dX8_sort_114 : decode cX8_sort 114 = .ok (.iload 6, 2) := by decide +kernel
theorem dX8_sort_116 : decode cX8_sort 116 = .ok (.ireturn, 1) := by decide +kernel
theorem dX8_sort_117 : decode cX8_sort 117 = .ok (.aload_n 0, 1) := by decide +kernel
theorem dX8_sort_118 : decode cX8_sort 118 = .ok (.getfield 31, 3) := by decide +kernel
theorem dX8_sort_121 : decode cX8_sort 121 = .ok (.iload 6, 2) := by decide +kernel
theorem dX8_sort_123 : decode cX8_sort 123 = .ok (.iaload, 1) := by decide +kernel
theorem dX8_sort_124 : decode cX8_sort 124 = .ok (.istore 7, 2) := by decide +kernel
theorem dX8_sort_126 : decode cX8_sort 126 = .ok (.aload_n 0, 1) := by decide +kernel
theorem dX8_sort_127 : decode cX8_sort 127 = .ok (.getfield 31, 3) := by decide +kernel
theorem dX8_sort_130 : decode cX8_sort 130 = .ok (.iload 6, 2) := by decide +kernel
theorem dX8_sort_132 : decode cX8_sort 132 = .ok (.aload_n 0, 1) := by decide +kernel
theorem dX8_sort_133 : decode cX8_sort 133 = .ok (.getfield 31, 3) := by decide +kernel
theorem dX8_sort_136 : decode cX8_sort 136 = .ok (.iload 6, 2) := by decide +kernel
theorem dX8_sort_138 : decode cX8_sort 138 = .ok (.iconst 1, 1) := by decide +kernel
theorem dX8_sort_139 : decode cX8_sort 139 = .ok (.iadd, 1) := by decide +kernel
theorem dX8_sort_140 : decode cX8_sort 140 = .ok (.iaload, 1) := by decide +kernel
theorem dX8_sort_141 : decode cX8_sort 141 = .ok (.iastore, 1) := by decide +kernel
theorem dX8_sort_142 : decode cX8_sort 142 = .ok (.aload_n 0, 1) := by decide +kernel
theorem dX8_sort_143 : decode cX8_sort 143 = .ok (.getfield 31, 3) := by decide +kernel
theorem dX8_sort_146 : decode cX8_sort 146 = .ok (.iload 6, 2) := by decide +kernel
theorem dX8_sort_148 : decode cX8_sort 148 = .ok (.iconst 1, 1) := by decide +kernel
theorem dX8_sort_149 : decode cX8_sort 149 = .ok (.iadd, 1) := by decide +kernel
theorem dX8_sort_150 : decode cX8_sort 150 = .ok (.iload 7, 2) := by decide +kernel
theorem dX8_sort_152 : decode cX8_sort 152 = .ok (.iastore, 1) := by decide +kernel
theorem dX8_sort_153 : decode cX8_sort 153 = .ok (.iinc 5 1, 3) := by decide +kernel
theorem dX8_sort_156 : decode cX8_sort 156 = .ok (.iconst 0, 1) := by decide +kernel
theorem dX8_sort_157 : decode cX8_sort 157 = .ok (.istore 6, 2) := by decide +kernel
theorem dX8_sort_159 : decode cX8_sort 159 = .ok (.goto (-83), 3) := by decide +kernel
theorem dX8_sort_162 : decode cX8_sort 162 = .ok (.iinc 6 1, 3) := by decide +kernel
theorem dX8_sort_165 : decode cX8_sort 165 = .ok (.goto (-89), 3) := by decide +kernel
theorem dX8_sort_168 : decode cX8_sort 168 = .ok (.iload_n 3, 1) := by decide +kernel
theorem dX8_sort_169 : decode cX8_sort 169 = .ok (.ifCond .ge 8, 3) := by decide +kernel
theorem dX8_sort_172 : decode cX8_sort 172 = .ok (.iload 5, 2) := by decide +kernel
theorem dX8_sort_174 : decode cX8_sort 174 = .ok (.goto 5, 3) := by decide +kernel
theorem dX8_sort_177 : decode cX8_sort 177 = .ok (.ldc 163, 2) := by decide +kernel
theorem dX8_sort_179 : decode cX8_sort 179 = .ok (.ireturn, 1) := by decide +kernel
theorem dX8_laysPairs_0 : decode cX8_laysPairs 0 = .ok (.iconst 0, 1) := by decide +kernel
theorem dX8_laysPairs_1 : decode cX8_laysPairs 1 = .ok (.istore_n 1, 1) := by decide +kernel
theorem dX8_laysPairs_2 : decode cX8_laysPairs 2 = .ok (.iconst 0, 1) := by decide +kernel
theorem dX8_laysPairs_3 : decode cX8_laysPairs 3 = .ok (.istore_n 2, 1) := by decide +kernel
theorem dX8_laysPairs_4 : decode cX8_laysPairs 4 = .ok (.iload_n 2, 1) := by decide +kernel
theorem dX8_laysPairs_5 : decode cX8_laysPairs 5 = .ok (.aload_n 0, 1) := by decide +kernel
theorem dX8_laysPairs_6 : decode cX8_laysPairs 6 = .ok (.getfield 7, 3) := by decide +kernel
theorem dX8_laysPairs_9 : decode cX8_laysPairs 9 = .ok (.iconst 0, 1) := by decide +kernel
theorem dX8_laysPairs_10 : decode cX8_laysPairs 10 = .ok (.iaload, 1) := by decide +kernel
theorem dX8_laysPairs_11 : decode cX8_laysPairs 11 = .ok (.if_icmp .ge 44, 3) := by decide +kernel
theorem dX8_laysPairs_14 : decode cX8_laysPairs 14 = .ok (.iload_n 2, 1) := by decide +kernel
theorem dX8_laysPairs_15 : decode cX8_laysPairs 15 = .ok (.iconst 1, 1) := by decide +kernel
theorem dX8_laysPairs_16 : decode cX8_laysPairs 16 = .ok (.iadd, 1) := by decide +kernel
theorem dX8_laysPairs_17 : decode cX8_laysPairs 17 = .ok (.istore_n 3, 1) := by decide +kernel
theorem dX8_laysPairs_18 : decode cX8_laysPairs 18 = .ok (.iload_n 3, 1) := by decide +kernel
theorem dX8_laysPairs_19 : decode cX8_laysPairs 19 = .ok (.aload_n 0, 1) := by decide +kernel
theorem dX8_laysPairs_20 : decode cX8_laysPairs 20 = .ok (.getfield 7, 3) := by decide +kernel
theorem dX8_laysPairs_23 : decode cX8_laysPairs 23 = .ok (.iconst 0, 1) := by decide +kernel
theorem dX8_laysPairs_24 : decode cX8_laysPairs 24 = .ok (.iaload, 1) := by decide +kernel
theorem dX8_laysPairs_25 : decode cX8_laysPairs 25 = .ok (.if_icmp .ge 24, 3) := by decide +kernel
theorem dX8_laysPairs_28 : decode cX8_laysPairs 28 = .ok (.aload_n 0, 1) := by decide +kernel
theorem dX8_laysPairs_29 : decode cX8_laysPairs 29 = .ok (.getfield 46, 3) := by decide +kernel
theorem dX8_laysPairs_32 : decode cX8_laysPairs 32 = .ok (.iload_n 1, 1) := by decide +kernel
theorem dX8_laysPairs_33 : decode cX8_laysPairs 33 = .ok (.bipush 10, 2) := by decide +kernel
theorem dX8_laysPairs_35 : decode cX8_laysPairs 35 = .ok (.iload_n 2, 1) := by decide +kernel
theorem dX8_laysPairs_36 : decode cX8_laysPairs 36 = .ok (.imul, 1) := by decide +kernel
theorem dX8_laysPairs_37 : decode cX8_laysPairs 37 = .ok (.iload_n 3, 1) := by decide +kernel
theorem dX8_laysPairs_38 : decode cX8_laysPairs 38 = .ok (.iadd, 1) := by decide +kernel
theorem dX8_laysPairs_39 : decode cX8_laysPairs 39 = .ok (.iastore, 1) := by decide +kernel
theorem dX8_laysPairs_40 : decode cX8_laysPairs 40 = .ok (.iinc 1 1, 3) := by decide +kernel
theorem dX8_laysPairs_43 : decode cX8_laysPairs 43 = .ok (.iinc 3 1, 3) := by decide +kernel
theorem dX8_laysPairs_46 : decode cX8_laysPairs 46 = .ok (.goto (-28), 3) := by decide +kernel
theorem dX8_laysPairs_49 : decode cX8_laysPairs 49 = .ok (.iinc 2 1, 3) := by decide +kernel
theorem dX8_laysPairs_52 : decode cX8_laysPairs 52 = .ok (.goto (-48), 3) := by decide +kernel
theorem dX8_laysPairs_55 : decode cX8_laysPairs 55 = .ok (.iload_n 1, 1) := by decide +kernel
theorem dX8_laysPairs_56 : decode cX8_laysPairs 56 = .ok (.ireturn, 1) := by decide +kernel
set_option maxRecDepth 20000 in
theorem ggX8_hasBy_X8_tries : GoodIn wsX8_hasBy wsX8_tries := goodIn_r _ [7, 8, 9, 10, 6, 11, 2, 38, 39, 40, 41, 42, 43, 44, 45, 46, 47, 48, 49, 50, 51, 52, 53, 54, 55, 56, 57, 58, 59, 60] (by decide +kernel) (by decide +kernel)
set_option maxRecDepth 20000 in
theorem gX8_hasBy_X8_tries : GoodIn wsX8_hasBy (wsV RX8 170 RX8 yX8_tries wsX8_tries) := goodIn_app (goodIn_of _ (by decide +kernel)) ggX8_hasBy_X8_tries
set_option maxRecDepth 20000 in
theorem ggX8_hasBy_X8_changes : GoodIn wsX8_hasBy wsX8_changes := goodIn_r _ [15, 2, 38, 39, 40, 41, 42, 43, 44, 45, 46, 47, 48, 49, 50, 51, 52, 53, 54, 55, 56, 57, 58, 59, 60] (by decide +kernel) (by decide +kernel)
set_option maxRecDepth 20000 in
theorem gX8_hasBy_X8_changes : GoodIn wsX8_hasBy (wsV RX8 142 RX8 yX8_changes wsX8_changes) := goodIn_app (goodIn_of _ (by decide +kernel)) ggX8_hasBy_X8_changes
set_option maxRecDepth 20000 in
theorem ggX8_hasBy_X8_toMatins : GoodIn wsX8_hasBy wsX8_toMatins := goodIn_r _ [19, 2, 20, 21, 22, 6, 23, 24, 25, 26, 27, 28, 29, 30, 31, 32, 33, 34, 12, 13, 14, 15, 35, 36, 37, 38, 39, 40, 41, 42, 43, 44, 45, 46, 47, 48, 49, 50, 51, 52, 53, 54, 55, 56, 57, 58, 59, 60] (by decide +kernel) (by decide +kernel)
set_option maxRecDepth 20000 in
theorem gX8_hasBy_X8_toMatins : GoodIn wsX8_hasBy (wsV RX8 177 RX8 yX8_toMatins wsX8_toMatins) := goodIn_app (goodIn_of _ (by decide +kernel)) ggX8_hasBy_X8_toMatins
theorem dX8_hasBy_0 : decode cX8_hasBy 0 = .ok (.aload_n 0, 1) := by decide +kernel
theorem dX8_hasBy_1 : decode cX8_hasBy 1 = .ok (.invokevirtual 170, 3) := by decide +kernel
theorem dX8_hasBy_4 : decode cX8_hasBy 4 = .ok (.iload_n 3, 1) := by decide +kernel
theorem dX8_hasBy_5 : decode cX8_hasBy 5 = .ok (.ifCond .lt 27, 3) := by decide +kernel
theorem dX8_hasBy_8 : decode cX8_hasBy 8 = .ok (.aload_n 0, 1) := by decide +kernel
theorem dX8_hasBy_9 : decode cX8_hasBy 9 = .ok (.bipush 17, 2) := by decide +kernel
theorem dX8_hasBy_11 : decode cX8_hasBy 11 = .ok (.aload_n 0, 1) := by decide +kernel
theorem dX8_hasBy_12 : decode cX8_hasBy 12 = .ok (.getfield 46, 3) := by decide +kernel
theorem dX8_hasBy_15 : decode cX8_hasBy 15 = .ok (.iload_n 3, 1) := by decide +kernel
theorem dX8_hasBy_16 : decode cX8_hasBy 16 = .ok (.iaload, 1) := by decide +kernel
theorem dX8_hasBy_17 : decode cX8_hasBy 17 = .ok (.bipush 10, 2) := by decide +kernel
theorem dX8_hasBy_19 : decode cX8_hasBy 19 = .ok (.idiv, 1) := by decide +kernel
theorem dX8_hasBy_20 : decode cX8_hasBy 20 = .ok (.aload_n 0, 1) := by decide +kernel
theorem dX8_hasBy_21 : decode cX8_hasBy 21 = .ok (.getfield 46, 3) := by decide +kernel
theorem dX8_hasBy_24 : decode cX8_hasBy 24 = .ok (.iload_n 3, 1) := by decide +kernel
theorem dX8_hasBy_25 : decode cX8_hasBy 25 = .ok (.iaload, 1) := by decide +kernel
theorem dX8_hasBy_26 : decode cX8_hasBy 26 = .ok (.bipush 10, 2) := by decide +kernel
theorem dX8_hasBy_28 : decode cX8_hasBy 28 = .ok (.irem, 1) := by decide +kernel
theorem dX8_hasBy_29 : decode cX8_hasBy 29 = .ok (.invokevirtual 142, 3) := by decide +kernel
theorem dX8_hasBy_32 : decode cX8_hasBy 32 = .ok (.iload 4, 2) := by decide +kernel
theorem dX8_hasBy_34 : decode cX8_hasBy 34 = .ok (.ifCond .lt 29, 3) := by decide +kernel
theorem dX8_hasBy_37 : decode cX8_hasBy 37 = .ok (.aload_n 0, 1) := by decide +kernel
theorem dX8_hasBy_38 : decode cX8_hasBy 38 = .ok (.bipush 17, 2) := by decide +kernel
theorem dX8_hasBy_40 : decode cX8_hasBy 40 = .ok (.aload_n 0, 1) := by decide +kernel
theorem dX8_hasBy_41 : decode cX8_hasBy 41 = .ok (.getfield 46, 3) := by decide +kernel
theorem dX8_hasBy_44 : decode cX8_hasBy 44 = .ok (.iload 4, 2) := by decide +kernel
theorem dX8_hasBy_46 : decode cX8_hasBy 46 = .ok (.iaload, 1) := by decide +kernel
theorem dX8_hasBy_47 : decode cX8_hasBy 47 = .ok (.bipush 10, 2) := by decide +kernel
theorem dX8_hasBy_49 : decode cX8_hasBy 49 = .ok (.idiv, 1) := by decide +kernel
theorem dX8_hasBy_50 : decode cX8_hasBy 50 = .ok (.aload_n 0, 1) := by decide +kernel
theorem dX8_hasBy_51 : decode cX8_hasBy 51 = .ok (.getfield 46, 3) := by decide +kernel
theorem dX8_hasBy_54 : decode cX8_hasBy 54 = .ok (.iload 4, 2) := by decide +kernel
theorem dX8_hasBy_56 : decode cX8_hasBy 56 = .ok (.iaload, 1) := by decide +kernel
theorem dX8_hasBy_57 : decode cX8_hasBy 57 = .ok (.bipush 10, 2) := by decide +kernel
theorem dX8_hasBy_59 : decode cX8_hasBy 59 = .ok (.irem, 1) := by decide +kernel
theorem dX8_hasBy_60 : decode cX8_hasBy 60 = .ok (.invokevirtual 142, 3) := by decide +kernel
theorem dX8_hasBy_63 : decode cX8_hasBy 63 = .ok (.aload_n 0, 1) := by decide +kernel
theorem dX8_hasBy_64 : decode cX8_hasBy 64 = .ok (.invokevirtual 177, 3) := by decide +kernel
theorem dX8_hasBy_67 : decode cX8_hasBy 67 = .ok (.aload_n 0, 1) := by decide +kernel
theorem dX8_hasBy_68 : decode cX8_hasBy 68 = .ok (.getfield 7, 3) := by decide +kernel
theorem dX8_hasBy_71 : decode cX8_hasBy 71 = .ok (.bipush 20, 2) := by decide +kernel
theorem dX8_hasBy_73 : decode cX8_hasBy 73 = .ok (.iload_n 1, 1) := by decide +kernel
theorem dX8_hasBy_74 : decode cX8_hasBy 74 = .ok (.iadd, 1) := by decide +kernel
theorem dX8_hasBy_75 : decode cX8_hasBy 75 = .ok (.iaload, 1) := by decide +kernel
theorem dX8_hasBy_76 : decode cX8_hasBy 76 = .ok (.iload_n 2, 1) := by decide +kernel
theorem dX8_hasBy_77 : decode cX8_hasBy 77 = .ok (.if_icmp .ne 7, 3) := by decide +kernel
theorem dX8_hasBy_80 : decode cX8_hasBy 80 = .ok (.iconst 1, 1) := by decide +kernel
theorem dX8_hasBy_81 : decode cX8_hasBy 81 = .ok (.goto 4, 3) := by decide +kernel
theorem dX8_hasBy_84 : decode cX8_hasBy 84 = .ok (.iconst 0, 1) := by decide +kernel
theorem dX8_hasBy_85 : decode cX8_hasBy 85 = .ok (.ireturn, 1) := by decide +kernel
set_option maxRecDepth 20000 in
theorem ggX8_plan_X8_isSaint : GoodIn wsX8_plan wsX8_isSaint := goodIn_r _ [10, 11, 12, 13, 9, 14, 54, 55, 56, 57, 58, 59, 60, 61, 62, 63, 64, 65, 66, 67, 68, 69, 70, 71, 72, 73, 74, 75, 76] (by decide +kernel) (by decide +kernel)
set_option maxRecDepth 20000 in
theorem gX8_plan_X8_isSaint : GoodIn wsX8_plan (wsV RX8 158 RX8 yX8_isSaint wsX8_isSaint) := goodIn_app (goodIn_of _ (by decide +kernel)) ggX8_plan_X8_isSaint
set_option maxRecDepth 20000 in
theorem ggX8_plan_X8_in : GoodIn wsX8_plan wsX8_in := goodIn_r _ [14] (by decide +kernel) (by decide +kernel)
set_option maxRecDepth 20000 in
theorem gX8_plan_X8_in : GoodIn wsX8_plan (va_wsS RX8 55 yX8_in wsX8_in) := goodIn_app (goodIn_of _ (by decide +kernel)) ggX8_plan_X8_in
set_option maxRecDepth 20000 in
theorem ggX8_plan_X8_laysPairs : GoodIn wsX8_plan wsX8_laysPairs := goodIn_r _ [18, 11, 5, 54, 55, 56, 57, 58, 59, 60, 61, 62, 63, 64, 65, 66, 67, 68, 69, 70, 71, 72, 73, 74, 75, 76] (by decide +kernel) (by decide +kernel)
set_option maxRecDepth 20000 in
theorem gX8_plan_X8_laysPairs : GoodIn wsX8_plan (wsV RX8 209 RX8 yX8_laysPairs wsX8_laysPairs) := goodIn_app (goodIn_of _ (by decide +kernel)) ggX8_plan_X8_laysPairs
set_option maxRecDepth 20000 in
theorem ggX8_plan_X8_hasBy : GoodIn wsX8_plan wsX8_hasBy := goodIn_r _ [22, 5, 11, 23, 24, 25, 9, 26, 27, 28, 29, 30, 31, 32, 33, 34, 35, 36, 37, 38, 39, 40, 41, 42, 43, 44, 45, 46, 47, 48, 49, 50, 51, 52, 53, 12, 13, 14, 54, 55, 56, 57, 58, 59, 60, 61, 62, 63, 64, 65, 66, 67, 68, 69, 70, 71, 72, 73, 74, 75, 76] (by decide +kernel) (by decide +kernel)
set_option maxRecDepth 20000 in
theorem gX8_plan_X8_hasBy : GoodIn wsX8_plan (wsV RX8 212 RX8 yX8_hasBy wsX8_hasBy) := goodIn_app (goodIn_of _ (by decide +kernel)) ggX8_plan_X8_hasBy
theorem dX8_plan_0 : decode cX8_plan 0 = .ok (.aload_n 0, 1) := by decide +kernel
theorem dX8_plan_1 : decode cX8_plan 1 = .ok (.iload_n 1, 1) := by decide +kernel
theorem dX8_plan_2 : decode cX8_plan 2 = .ok (.invokevirtual 158, 3) := by decide +kernel
theorem dX8_plan_5 : decode cX8_plan 5 = .ok (.ifCond .eq 27, 3) := by decide +kernel
theorem dX8_plan_8 : decode cX8_plan 8 = .ok (.iload_n 2, 1) := by decide +kernel
theorem dX8_plan_9 : decode cX8_plan 9 = .ok (.i2l, 1) := by decide +kernel
theorem dX8_plan_10 : decode cX8_plan 10 = .ok (.lconst 1, 1) := by decide +kernel
theorem dX8_plan_11 : decode cX8_plan 11 = .ok (.ldc2_w 161, 3) := by decide +kernel
theorem dX8_plan_14 : decode cX8_plan 14 = .ok (.invokestatic 55, 3) := by decide +kernel
theorem dX8_plan_17 : decode cX8_plan 17 = .ok (.ifCond .eq 15, 3) := by decide +kernel
theorem dX8_plan_20 : decode cX8_plan 20 = .ok (.iload_n 3, 1) := by decide +kernel
theorem dX8_plan_21 : decode cX8_plan 21 = .ok (.i2l, 1) := by decide +kernel
theorem dX8_plan_22 : decode cX8_plan 22 = .ok (.ldc2_w 207, 3) := by decide +kernel
theorem dX8_plan_25 : decode cX8_plan 25 = .ok (.lconst 1, 1) := by decide +kernel
theorem dX8_plan_26 : decode cX8_plan 26 = .ok (.invokestatic 55, 3) := by decide +kernel
theorem dX8_plan_29 : decode cX8_plan 29 = .ok (.ifCond .ne 6, 3) := by decide +kernel
theorem dX8_plan_32 : decode cX8_plan 32 = .ok (.ldc 72, 2) := by decide +kernel
theorem dX8_plan_34 : decode cX8_plan 34 = .ok (.ireturn, 1) := by decide +kernel
theorem dX8_plan_35 : decode cX8_plan 35 = .ok (.aload_n 0, 1) := by decide +kernel
theorem dX8_plan_36 : decode cX8_plan 36 = .ok (.invokevirtual 209, 3) := by decide +kernel
theorem dX8_plan_39 : decode cX8_plan 39 = .ok (.istore 4, 2) := by decide +kernel
theorem dX8_plan_41 : decode cX8_plan 41 = .ok (.aload_n 0, 1) := by decide +kernel
theorem dX8_plan_42 : decode cX8_plan 42 = .ok (.iload_n 1, 1) := by decide +kernel
theorem dX8_plan_43 : decode cX8_plan 43 = .ok (.iload_n 2, 1) := by decide +kernel
theorem dX8_plan_44 : decode cX8_plan 44 = .ok (.iconst (-1), 1) := by decide +kernel

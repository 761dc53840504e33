theorem dL_acts_939 : decode cL_acts 939 = .ok (.iadd, 1) := by decide +kernel
theorem dL_acts_940 : decode cL_acts 940 = .ok (.iastore, 1) := by decide +kernel
theorem dL_acts_941 : decode cL_acts 941 = .ok (.iinc 14 1, 3) := by decide +kernel
theorem dL_acts_944 : decode cL_acts 944 = .ok (.goto (-24), 3) := by decide +kernel
theorem dL_acts_947 : decode cL_acts 947 = .ok (.aload_n 0, 1) := by decide +kernel
theorem dL_acts_948 : decode cL_acts 948 = .ok (.iload 13, 2) := by decide +kernel
theorem dL_acts_950 : decode cL_acts 950 = .ok (.invokevirtual 88, 3) := by decide +kernel
theorem dL_acts_953 : decode cL_acts 953 = .ok (.aload_n 1, 1) := by decide +kernel
theorem dL_acts_954 : decode cL_acts 954 = .ok (.iconst 0, 1) := by decide +kernel
theorem dL_acts_955 : decode cL_acts 955 = .ok (.iaload, 1) := by decide +kernel
theorem dL_acts_956 : decode cL_acts 956 = .ok (.if_icmp .ne 7, 3) := by decide +kernel
theorem dL_acts_959 : decode cL_acts 959 = .ok (.iconst 1, 1) := by decide +kernel
theorem dL_acts_960 : decode cL_acts 960 = .ok (.goto 4, 3) := by decide +kernel
theorem dL_acts_963 : decode cL_acts 963 = .ok (.iconst 0, 1) := by decide +kernel
theorem dL_acts_964 : decode cL_acts 964 = .ok (.ireturn, 1) := by decide +kernel
set_option maxRecDepth 20000 in
theorem ggL_isSo_L_gets : GoodIn wsL_isSo wsL_gets := goodIn_r _ [7, 8, 9, 6, 10] (by decide +kernel) (by decide +kernel)
set_option maxRecDepth 20000 in
theorem gL_isSo_L_gets : GoodIn wsL_isSo (va_wsS RL 15 yL_gets wsL_gets) := goodIn_app (goodIn_of _ (by decide +kernel)) ggL_isSo_L_gets
set_option maxRecDepth 20000 in
theorem ggL_isSo_L_who : GoodIn wsL_isSo wsL_who := goodIn_r _ [13] (by decide +kernel) (by decide +kernel)
set_option maxRecDepth 20000 in
theorem gL_isSo_L_who : GoodIn wsL_isSo (va_wsS RL 63 yL_who wsL_who) := goodIn_app (goodIn_of _ (by decide +kernel)) ggL_isSo_L_who
set_option maxRecDepth 20000 in
theorem ggL_isSo_X1_cell : GoodIn wsL_isSo wsX1_cell := goodIn_r _ [18, 19, 20, 21, 22, 23, 24, 25, 26, 27, 28, 29, 30, 17, 31, 32, 33, 34, 35, 36, 37, 38, 39, 40, 41, 42, 43, 44, 45, 46, 47, 48, 49, 50, 51, 52, 53, 54, 55, 56, 57, 58, 59, 60, 61, 62, 63, 64, 65, 171, 172, 173, 174, 175, 176, 177, 178, 179, 180, 181, 182, 183, 184, 185, 186, 187, 188, 189, 190, 191, 192] (by decide +kernel) (by decide +kernel)
set_option maxRecDepth 20000 in
theorem gL_isSo_X1_cell : GoodIn wsL_isSo (wsV RL 91 RX1 yX1_cell wsX1_cell) := goodIn_app (goodIn_of _ (by decide +kernel)) ggL_isSo_X1_cell
set_option maxRecDepth 20000 in
theorem ggL_isSo_X1_walker : GoodIn wsL_isSo wsX1_walker := goodIn_r _ [69, 19, 21, 36, 28, 62, 57, 26, 70, 71, 72, 73, 74, 17, 75, 76, 77, 78, 79, 80, 81, 82, 83, 84, 85, 86, 87, 88, 89, 90, 91, 92, 93, 171, 172, 173, 174, 175, 176, 177, 178, 179, 180, 181, 182, 183, 184, 185, 186, 187, 188, 189, 190, 191, 192] (by decide +kernel) (by decide +kernel)
set_option maxRecDepth 20000 in
theorem gL_isSo_X1_walker : GoodIn wsL_isSo (wsV RL 95 RX1 yX1_walker wsX1_walker) := goodIn_app (goodIn_of _ (by decide +kernel)) ggL_isSo_X1_walker
set_option maxRecDepth 20000 in
theorem ggL_isSo_X1_estimate : GoodIn wsL_isSo wsX1_estimate := goodIn_r _ [97, 19, 98, 72, 73, 74, 17, 75, 21, 76, 77, 78, 79, 80, 28, 57, 99, 100, 101, 102, 26, 62, 20, 27, 103, 104, 42, 105, 32, 33, 34, 35, 22, 36, 37, 38, 39, 40, 41, 43, 44, 45, 46, 47, 48, 49, 50, 51, 52, 53, 29, 30, 31, 54, 55, 56, 58, 59, 60, 61, 24, 171, 172, 173, 174, 175, 176, 177, 178, 179, 180, 181, 182, 183, 184, 185, 186, 187, 188, 189, 190, 191, 192] (by decide +kernel) (by decide +kernel)
set_option maxRecDepth 20000 in
theorem gL_isSo_X1_estimate : GoodIn wsL_isSo (wsV RL 98 RX1 yX1_estimate wsX1_estimate) := goodIn_app (goodIn_of _ (by decide +kernel)) ggL_isSo_X1_estimate
set_option maxRecDepth 20000 in
theorem ggL_isSo_L_estimate : GoodIn wsL_isSo wsL_estimate := goodIn_r _ [108, 8, 9, 6, 10, 4, 5, 7] (by decide +kernel) (by decide +kernel)
set_option maxRecDepth 20000 in
theorem gL_isSo_L_estimate : GoodIn wsL_isSo (va_wsS RL 42 yL_estimate wsL_estimate) := goodIn_app (goodIn_of _ (by decide +kernel)) ggL_isSo_L_estimate
set_option maxRecDepth 20000 in
theorem ggL_isSo_X1_certainty : GoodIn wsL_isSo wsX1_certainty := goodIn_r _ [112, 19, 98, 72, 73, 74, 17, 75, 21, 76, 77, 78, 79, 80, 28, 57, 113, 114, 115, 116, 117, 26, 70, 103, 104, 42, 105, 118, 119, 120, 121, 25, 40, 41, 43, 54, 55, 56, 29, 30, 31, 171, 172, 173, 174, 175, 176, 177, 178, 179, 180, 181, 182, 183, 184, 185, 186, 187, 188, 189, 190, 191, 192] (by decide +kernel) (by decide +kernel)
set_option maxRecDepth 20000 in
theorem gL_isSo_X1_certainty : GoodIn wsL_isSo (wsV RL 100 RX1 yX1_certainty wsX1_certainty) := goodIn_app (goodIn_of _ (by decide +kernel)) ggL_isSo_X1_certainty
set_option maxRecDepth 20000 in
theorem ggL_isSo_L_certainty : GoodIn wsL_isSo wsL_certainty := goodIn_r _ [124, 125, 126, 6, 127, 8, 9, 10] (by decide +kernel) (by decide +kernel)
set_option maxRecDepth 20000 in
theorem gL_isSo_L_certainty : GoodIn wsL_isSo (va_wsS RL 46 yL_certainty wsL_certainty) := goodIn_app (goodIn_of _ (by decide +kernel)) ggL_isSo_L_certainty
set_option maxRecDepth 20000 in
theorem ggL_isSo_X1_count : GoodIn wsL_isSo wsX1_count := goodIn_r _ [131, 21, 117, 76, 132, 26, 24, 133, 19, 134, 135, 136, 17, 137, 77, 78, 79, 80, 28, 57, 72, 73, 74, 75, 138, 139, 140, 141, 20, 27, 142, 143, 42, 144, 32, 33, 34, 35, 22, 36, 37, 38, 39, 40, 41, 43, 44, 45, 46, 47, 48, 49, 50, 51, 52, 53, 29, 30, 31, 54, 55, 56, 58, 59, 60, 61, 62, 145, 146, 147, 148, 149, 150, 151, 152, 153, 154, 155, 156, 157, 158, 159, 71, 93, 86, 87, 88, 160, 161, 162, 163, 81, 82, 83, 84, 85, 164, 165, 166, 167, 89, 90, 91, 92, 171, 172, 173, 174, 175, 176, 177, 178, 179, 180, 181, 182, 183, 184, 185, 186, 187, 188, 189, 190, 191, 192] (by decide +kernel) (by decide +kernel)
set_option maxRecDepth 20000 in
theorem gL_isSo_X1_count : GoodIn wsL_isSo (wsV RL 102 RX1 yX1_count wsX1_count) := goodIn_app (goodIn_of _ (by decide +kernel)) ggL_isSo_X1_count
set_option maxRecDepth 20000 in
theorem ggL_isSo_L_error : GoodIn wsL_isSo wsL_error := goodIn_r _ [170, 4, 5, 6, 7, 8, 9, 10] (by decide +kernel) (by decide +kernel)
set_option maxRecDepth 20000 in
theorem gL_isSo_L_error : GoodIn wsL_isSo (va_wsS RL 34 yL_error wsL_error) := goodIn_app (goodIn_of _ (by decide +kernel)) ggL_isSo_L_error
theorem dL_isSo_0 : decode cL_isSo 0 = .ok (.iconst 0, 1) := by decide +kernel
theorem dL_isSo_1 : decode cL_isSo 1 = .ok (.istore 8, 2) := by decide +kernel
theorem dL_isSo_3 : decode cL_isSo 3 = .ok (.iconst 0, 1) := by decide +kernel
theorem dL_isSo_4 : decode cL_isSo 4 = .ok (.istore 9, 2) := by decide +kernel
theorem dL_isSo_6 : decode cL_isSo 6 = .ok (.iconst 0, 1) := by decide +kernel
theorem dL_isSo_7 : decode cL_isSo 7 = .ok (.istore 10, 2) := by decide +kernel
theorem dL_isSo_9 : decode cL_isSo 9 = .ok (.iconst 0, 1) := by decide +kernel
theorem dL_isSo_10 : decode cL_isSo 10 = .ok (.istore 11, 2) := by decide +kernel
theorem dL_isSo_12 : decode cL_isSo 12 = .ok (.iconst 0, 1) := by decide +kernel
theorem dL_isSo_13 : decode cL_isSo 13 = .ok (.istore 12, 2) := by decide +kernel
theorem dL_isSo_15 : decode cL_isSo 15 = .ok (.iconst 0, 1) := by decide +kernel
theorem dL_isSo_16 : decode cL_isSo 16 = .ok (.istore 13, 2) := by decide +kernel
theorem dL_isSo_18 : decode cL_isSo 18 = .ok (.iconst 1, 1) := by decide +kernel
theorem dL_isSo_19 : decode cL_isSo 19 = .ok (.istore 14, 2) := by decide +kernel
theorem dL_isSo_21 : decode cL_isSo 21 = .ok (.iconst 0, 1) := by decide +kernel
theorem dL_isSo_22 : decode cL_isSo 22 = .ok (.istore 15, 2) := by decide +kernel
theorem dL_isSo_24 : decode cL_isSo 24 = .ok (.iload 15, 2) := by decide +kernel
theorem dL_isSo_26 : decode cL_isSo 26 = .ok (.bipush 24, 2) := by decide +kernel
theorem dL_isSo_28 : decode cL_isSo 28 = .ok (.if_icmp .ge 251, 3) := by decide +kernel
theorem dL_isSo_31 : decode cL_isSo 31 = .ok (.iload 14, 2) := by decide +kernel
theorem dL_isSo_33 : decode cL_isSo 33 = .ok (.ifCond .eq 246, 3) := by decide +kernel
theorem dL_isSo_36 : decode cL_isSo 36 = .ok (.aload_n 1, 1) := by decide +kernel
theorem dL_isSo_37 : decode cL_isSo 37 = .ok (.aload 6, 2) := by decide +kernel
theorem dL_isSo_39 : decode cL_isSo 39 = .ok (.iload 15, 2) := by decide +kernel
theorem dL_isSo_41 : decode cL_isSo 41 = .ok (.iconst 0, 1) := by decide +kernel
theorem dL_isSo_42 : decode cL_isSo 42 = .ok (.iconst (-1), 1) := by decide +kernel
theorem dL_isSo_43 : decode cL_isSo 43 = .ok (.invokestatic 15, 3) := by decide +kernel
theorem dL_isSo_46 : decode cL_isSo 46 = .ok (.aload_n 2, 1) := by decide +kernel
theorem dL_isSo_47 : decode cL_isSo 47 = .ok (.iload 15, 2) := by decide +kernel
theorem dL_isSo_49 : decode cL_isSo 49 = .ok (.iaload, 1) := by decide +kernel
theorem dL_isSo_50 : decode cL_isSo 50 = .ok (.iadd, 1) := by decide +kernel
theorem dL_isSo_51 : decode cL_isSo 51 = .ok (.istore 16, 2) := by decide +kernel
theorem dL_isSo_53 : decode cL_isSo 53 = .ok (.aload_n 1, 1) := by decide +kernel
theorem dL_isSo_54 : decode cL_isSo 54 = .ok (.aload 6, 2) := by decide +kernel
theorem dL_isSo_56 : decode cL_isSo 56 = .ok (.iload 15, 2) := by decide +kernel
theorem dL_isSo_58 : decode cL_isSo 58 = .ok (.iconst 1, 1) := by decide +kernel
theorem dL_isSo_59 : decode cL_isSo 59 = .ok (.invokestatic 63, 3) := by decide +kernel
theorem dL_isSo_62 : decode cL_isSo 62 = .ok (.istore 17, 2) := by decide +kernel
theorem dL_isSo_64 : decode cL_isSo 64 = .ok (.aload_n 1, 1) := by decide +kernel
theorem dL_isSo_65 : decode cL_isSo 65 = .ok (.aload 6, 2) := by decide +kernel
theorem dL_isSo_67 : decode cL_isSo 67 = .ok (.iload 15, 2) := by decide +kernel
theorem dL_isSo_69 : decode cL_isSo 69 = .ok (.iconst 3, 1) := by decide +kernel
theorem dL_isSo_70 : decode cL_isSo 70 = .ok (.invokestatic 63, 3) := by decide +kernel
theorem dL_isSo_73 : decode cL_isSo 73 = .ok (.istore 18, 2) := by decide +kernel
theorem dL_isSo_75 : decode cL_isSo 75 = .ok (.iload 8, 2) := by decide +kernel
theorem dL_isSo_77 : decode cL_isSo 77 = .ok (.iload 16, 2) := by decide +kernel
theorem dL_isSo_79 : decode cL_isSo 79 = .ok (.iadd, 1) := by decide +kernel
theorem dL_isSo_80 : decode cL_isSo 80 = .ok (.istore 8, 2) := by decide +kernel
theorem dL_isSo_82 : decode cL_isSo 82 = .ok (.iload 9, 2) := by decide +kernel
theorem dL_isSo_84 : decode cL_isSo 84 = .ok (.aload 4, 2) := by decide +kernel
theorem dL_isSo_86 : decode cL_isSo 86 = .ok (.iload 15, 2) := by decide +kernel
theorem dL_isSo_88 : decode cL_isSo 88 = .ok (.iaload, 1) := by decide +kernel
theorem dL_isSo_89 : decode cL_isSo 89 = .ok (.iadd, 1) := by decide +kernel
theorem dL_isSo_90 : decode cL_isSo 90 = .ok (.istore 9, 2) := by decide +kernel
theorem dL_isSo_92 : decode cL_isSo 92 = .ok (.iload 10, 2) := by decide +kernel
theorem dL_isSo_94 : decode cL_isSo 94 = .ok (.aload_n 2, 1) := by decide +kernel
theorem dL_isSo_95 : decode cL_isSo 95 = .ok (.iload 15, 2) := by decide +kernel
theorem dL_isSo_97 : decode cL_isSo 97 = .ok (.iaload, 1) := by decide +kernel
theorem dL_isSo_98 : decode cL_isSo 98 = .ok (.iadd, 1) := by decide +kernel
theorem dL_isSo_99 : decode cL_isSo 99 = .ok (.istore 10, 2) := by decide +kernel
theorem dL_isSo_101 : decode cL_isSo 101 = .ok (.aload_n 0, 1) := by decide +kernel
theorem dL_isSo_102 : decode cL_isSo 102 = .ok (.iload 15, 2) := by decide +kernel
theorem dL_isSo_104 : decode cL_isSo 104 = .ok (.iconst 0, 1) := by decide +kernel
theorem dL_isSo_105 : decode cL_isSo 105 = .ok (.invokevirtual 91, 3) := by decide +kernel
theorem dL_isSo_108 : decode cL_isSo 108 = .ok (.iload 16, 2) := by decide +kernel
theorem dL_isSo_110 : decode cL_isSo 110 = .ok (.if_icmp .ne 160, 3) := by decide +kernel
theorem dL_isSo_113 : decode cL_isSo 113 = .ok (.aload_n 0, 1) := by decide +kernel
theorem dL_isSo_114 : decode cL_isSo 114 = .ok (.iload 15, 2) := by decide +kernel
theorem dL_isSo_116 : decode cL_isSo 116 = .ok (.iconst 1, 1) := by decide +kernel
theorem dL_isSo_117 : decode cL_isSo 117 = .ok (.invokevirtual 91, 3) := by decide +kernel
theorem dL_isSo_120 : decode cL_isSo 120 = .ok (.aload_n 2, 1) := by decide +kernel
theorem dL_isSo_121 : decode cL_isSo 121 = .ok (.iload 15, 2) := by decide +kernel
theorem dL_isSo_123 : decode cL_isSo 123 = .ok (.iaload, 1) := by decide +kernel
theorem dL_isSo_124 : decode cL_isSo 124 = .ok (.if_icmp .ne 146, 3) := by decide +kernel
theorem dL_isSo_127 : decode cL_isSo 127 = .ok (.aload_n 0, 1) := by decide +kernel
theorem dL_isSo_128 : decode cL_isSo 128 = .ok (.iload 15, 2) := by decide +kernel
theorem dL_isSo_130 : decode cL_isSo 130 = .ok (.iconst 2, 1) := by decide +kernel
theorem dL_isSo_131 : decode cL_isSo 131 = .ok (.invokevirtual 91, 3) := by decide +kernel
theorem dL_isSo_134 : decode cL_isSo 134 = .ok (.aload_n 3, 1) := by decide +kernel
theorem dL_isSo_135 : decode cL_isSo 135 = .ok (.iload 15, 2) := by decide +kernel
theorem dL_isSo_137 : decode cL_isSo 137 = .ok (.iaload, 1) := by decide +kernel
theorem dL_isSo_138 : decode cL_isSo 138 = .ok (.if_icmp .ne 132, 3) := by decide +kernel
theorem dL_isSo_141 : decode cL_isSo 141 = .ok (.aload_n 0, 1) := by decide +kernel
theorem dL_isSo_142 : decode cL_isSo 142 = .ok (.iload 15, 2) := by decide +kernel
theorem dL_isSo_144 : decode cL_isSo 144 = .ok (.iconst 3, 1) := by decide +kernel
theorem dL_isSo_145 : decode cL_isSo 145 = .ok (.invokevirtual 91, 3) := by decide +kernel
theorem dL_isSo_148 : decode cL_isSo 148 = .ok (.aload 4, 2) := by decide +kernel
theorem dL_isSo_150 : decode cL_isSo 150 = .ok (.iload 15, 2) := by decide +kernel
theorem dL_isSo_152 : decode cL_isSo 152 = .ok (.iaload, 1) := by decide +kernel
theorem dL_isSo_153 : decode cL_isSo 153 = .ok (.if_icmp .ne 117, 3) := by decide +kernel
theorem dL_isSo_156 : decode cL_isSo 156 = .ok (.aload_n 0, 1) := by decide +kernel
theorem dL_isSo_157 : decode cL_isSo 157 = .ok (.iload 15, 2) := by decide +kernel
theorem dL_isSo_159 : decode cL_isSo 159 = .ok (.iconst 4, 1) := by decide +kernel
theorem dL_isSo_160 : decode cL_isSo 160 = .ok (.invokevirtual 91, 3) := by decide +kernel
theorem dL_isSo_163 : decode cL_isSo 163 = .ok (.aload 5, 2) := by decide +kernel
theorem dL_isSo_165 : decode cL_isSo 165 = .ok (.iload 15, 2) := by decide +kernel
theorem dL_isSo_167 : decode cL_isSo 167 = .ok (.iaload, 1) := by decide +kernel
theorem dL_isSo_168 : decode cL_isSo 168 = .ok (.if_icmp .ne 102, 3) := by decide +kernel
theorem dL_isSo_171 : decode cL_isSo 171 = .ok (.aload_n 0, 1) := by decide +kernel
theorem dL_isSo_172 : decode cL_isSo 172 = .ok (.iload 15, 2) := by decide +kernel
theorem dL_isSo_174 : decode cL_isSo 174 = .ok (.iconst 5, 1) := by decide +kernel
theorem dL_isSo_175 : decode cL_isSo 175 = .ok (.invokevirtual 91, 3) := by decide +kernel
theorem dL_isSo_178 : decode cL_isSo 178 = .ok (.aload_n 1, 1) := by decide +kernel
theorem dL_isSo_179 : decode cL_isSo 179 = .ok (.aload 6, 2) := by decide +kernel
theorem dL_isSo_181 : decode cL_isSo 181 = .ok (.iload 15, 2) := by decide +kernel
theorem dL_isSo_183 : decode cL_isSo 183 = .ok (.iconst 2, 1) := by decide +kernel
theorem dL_isSo_184 : decode cL_isSo 184 = .ok (.iconst (-1), 1) := by decide +kernel
theorem dL_isSo_185 : decode cL_isSo 185 = .ok (.invokestatic 15, 3) := by decide +kernel
theorem dL_isSo_188 : decode cL_isSo 188 = .ok (.aload 4, 2) := by decide +kernel
theorem dL_isSo_190 : decode cL_isSo 190 = .ok (.iload 15, 2) := by decide +kernel
theorem dL_isSo_192 : decode cL_isSo 192 = .ok (.iaload, 1) := by decide +kernel
theorem dL_isSo_193 : decode cL_isSo 193 = .ok (.iadd, 1) := by decide +kernel
theorem dL_isSo_194 : decode cL_isSo 194 = .ok (.if_icmp .ne 76, 3) := by decide +kernel
theorem dL_isSo_197 : decode cL_isSo 197 = .ok (.aload_n 0, 1) := by decide +kernel
theorem dL_isSo_198 : decode cL_isSo 198 = .ok (.iload 15, 2) := by decide +kernel
theorem dL_isSo_200 : decode cL_isSo 200 = .ok (.bipush 6, 2) := by decide +kernel
theorem dL_isSo_202 : decode cL_isSo 202 = .ok (.invokevirtual 91, 3) := by decide +kernel
theorem dL_isSo_205 : decode cL_isSo 205 = .ok (.iload 17, 2) := by decide +kernel
theorem dL_isSo_207 : decode cL_isSo 207 = .ok (.ifCond .ge 8, 3) := by decide +kernel
theorem dL_isSo_210 : decode cL_isSo 210 = .ok (.ldc 94, 2) := by decide +kernel
theorem dL_isSo_212 : decode cL_isSo 212 = .ok (.goto 5, 3) := by decide +kernel
theorem dL_isSo_215 : decode cL_isSo 215 = .ok (.iload 17, 2) := by decide +kernel
theorem dL_isSo_217 : decode cL_isSo 217 = .ok (.if_icmp .ne 53, 3) := by decide +kernel
theorem dL_isSo_220 : decode cL_isSo 220 = .ok (.aload_n 0, 1) := by decide +kernel
theorem dL_isSo_221 : decode cL_isSo 221 = .ok (.iload 15, 2) := by decide +kernel
theorem dL_isSo_223 : decode cL_isSo 223 = .ok (.bipush 7, 2) := by decide +kernel
theorem dL_isSo_225 : decode cL_isSo 225 = .ok (.invokevirtual 91, 3) := by decide +kernel
theorem dL_isSo_228 : decode cL_isSo 228 = .ok (.iload 18, 2) := by decide +kernel
theorem dL_isSo_230 : decode cL_isSo 230 = .ok (.ifCond .ge 8, 3) := by decide +kernel
theorem dL_isSo_233 : decode cL_isSo 233 = .ok (.ldc 94, 2) := by decide +kernel
theorem dL_isSo_235 : decode cL_isSo 235 = .ok (.goto 5, 3) := by decide +kernel
theorem dL_isSo_238 : decode cL_isSo 238 = .ok (.iload 18, 2) := by decide +kernel
theorem dL_isSo_240 : decode cL_isSo 240 = .ok (.if_icmp .ne 30, 3) := by decide +kernel
theorem dL_isSo_243 : decode cL_isSo 243 = .ok (.iload 17, 2) := by decide +kernel
theorem dL_isSo_245 : decode cL_isSo 245 = .ok (.ifCond .ge 7, 3) := by decide +kernel
theorem dL_isSo_248 : decode cL_isSo 248 = .ok (.iconst 1, 1) := by decide +kernel
theorem dL_isSo_249 : decode cL_isSo 249 = .ok (.goto 4, 3) := by decide +kernel
theorem dL_isSo_252 : decode cL_isSo 252 = .ok (.iconst 0, 1) := by decide +kernel
theorem dL_isSo_253 : decode cL_isSo 253 = .ok (.iload 18, 2) := by decide +kernel
theorem dL_isSo_255 : decode cL_isSo 255 = .ok (.ifCond .ge 7, 3) := by decide +kernel
theorem dL_isSo_258 : decode cL_isSo 258 = .ok (.iconst 1, 1) := by decide +kernel
theorem dL_isSo_259 : decode cL_isSo 259 = .ok (.goto 4, 3) := by decide +kernel
theorem dL_isSo_262 : decode cL_isSo 262 = .ok (.iconst 0, 1) := by decide +kernel
theorem dL_isSo_263 : decode cL_isSo 263 = .ok (.if_icmp .ne 7, 3) := by decide +kernel
theorem dL_isSo_266 : decode cL_isSo 266 = .ok (.iconst 1, 1) := by decide +kernel
theorem dL_isSo_267 : decode cL_isSo 267 = .ok (.goto 4, 3) := by decide +kernel
theorem dL_isSo_270 : decode cL_isSo 270 = .ok (.iconst 0, 1) := by decide +kernel
theorem dL_isSo_271 : decode cL_isSo 271 = .ok (.istore 14, 2) := by decide +kernel
theorem dL_isSo_273 : decode cL_isSo 273 = .ok (.iinc 15 1, 3) := by decide +kernel
theorem dL_isSo_276 : decode cL_isSo 276 = .ok (.goto (-252), 3) := by decide +kernel
theorem dL_isSo_279 : decode cL_isSo 279 = .ok (.iconst 0, 1) := by decide +kernel
theorem dL_isSo_280 : decode cL_isSo 280 = .ok (.istore 15, 2) := by decide +kernel
theorem dL_isSo_282 : decode cL_isSo 282 = .ok (.iload 15, 2) := by decide +kernel
theorem dL_isSo_284 : decode cL_isSo 284 = .ok (.aload_n 1, 1) := by decide +kernel
theorem dL_isSo_285 : decode cL_isSo 285 = .ok (.iconst 1, 1) := by decide +kernel
theorem dL_isSo_286 : decode cL_isSo 286 = .ok (.iaload, 1) := by decide +kernel
theorem dL_isSo_287 : decode cL_isSo 287 = .ok (.if_icmp .ge 373, 3) := by decide +kernel
theorem dL_isSo_290 : decode cL_isSo 290 = .ok (.iload 14, 2) := by decide +kernel
theorem dL_isSo_292 : decode cL_isSo 292 = .ok (.ifCond .eq 368, 3) := by decide +kernel
theorem dL_isSo_295 : decode cL_isSo 295 = .ok (.aload 6, 2) := by decide +kernel
theorem dL_isSo_297 : decode cL_isSo 297 = .ok (.iconst 5, 1) := by decide +kernel
theorem dL_isSo_298 : decode cL_isSo 298 = .ok (.iload 15, 2) := by decide +kernel
theorem dL_isSo_300 : decode cL_isSo 300 = .ok (.imul, 1) := by decide +kernel
theorem dL_isSo_301 : decode cL_isSo 301 = .ok (.iconst 1, 1) := by decide +kernel
theorem dL_isSo_302 : decode cL_isSo 302 = .ok (.iadd, 1) := by decide +kernel
theorem dL_isSo_303 : decode cL_isSo 303 = .ok (.iaload, 1) := by decide +kernel
theorem dL_isSo_304 : decode cL_isSo 304 = .ok (.ifCond .lt 7, 3) := by decide +kernel
theorem dL_isSo_307 : decode cL_isSo 307 = .ok (.iconst 1, 1) := by decide +kernel
theorem dL_isSo_308 : decode cL_isSo 308 = .ok (.goto 4, 3) := by decide +kernel
theorem dL_isSo_311 : decode cL_isSo 311 = .ok (.iconst 0, 1) := by decide +kernel
theorem dL_isSo_312 : decode cL_isSo 312 = .ok (.istore 16, 2) := by decide +kernel
theorem dL_isSo_314 : decode cL_isSo 314 = .ok (.iload 12, 2) := by decide +kernel
theorem dL_isSo_316 : decode cL_isSo 316 = .ok (.iload 16, 2) := by decide +kernel
theorem dL_isSo_318 : decode cL_isSo 318 = .ok (.ifCond .eq 7, 3) := by decide +kernel
theorem dL_isSo_321 : decode cL_isSo 321 = .ok (.iconst 1, 1) := by decide +kernel
theorem dL_isSo_322 : decode cL_isSo 322 = .ok (.goto 4, 3) := by decide +kernel
theorem dL_isSo_325 : decode cL_isSo 325 = .ok (.iconst 0, 1) := by decide +kernel
theorem dL_isSo_326 : decode cL_isSo 326 = .ok (.iadd, 1) := by decide +kernel
theorem dL_isSo_327 : decode cL_isSo 327 = .ok (.istore 12, 2) := by decide +kernel
theorem dL_isSo_329 : decode cL_isSo 329 = .ok (.iload 13, 2) := by decide +kernel
theorem dL_isSo_331 : decode cL_isSo 331 = .ok (.aload 6, 2) := by decide +kernel
theorem dL_isSo_333 : decode cL_isSo 333 = .ok (.iconst 5, 1) := by decide +kernel
theorem dL_isSo_334 : decode cL_isSo 334 = .ok (.iload 15, 2) := by decide +kernel
theorem dL_isSo_336 : decode cL_isSo 336 = .ok (.imul, 1) := by decide +kernel
theorem dL_isSo_337 : decode cL_isSo 337 = .ok (.iconst 1, 1) := by decide +kernel
theorem dL_isSo_338 : decode cL_isSo 338 = .ok (.iadd, 1) := by decide +kernel
theorem dL_isSo_339 : decode cL_isSo 339 = .ok (.iaload, 1) := by decide +kernel
theorem dL_isSo_340 : decode cL_isSo 340 = .ok (.aload 6, 2) := by decide +kernel
theorem dL_isSo_342 : decode cL_isSo 342 = .ok (.iconst 5, 1) := by decide +kernel
theorem dL_isSo_343 : decode cL_isSo 343 = .ok (.iload 15, 2) := by decide +kernel
theorem dL_isSo_345 : decode cL_isSo 345 = .ok (.imul, 1) := by decide +kernel
theorem dL_isSo_346 : decode cL_isSo 346 = .ok (.iconst 3, 1) := by decide +kernel
theorem dL_isSo_347 : decode cL_isSo 347 = .ok (.iadd, 1) := by decide +kernel
theorem dL_isSo_348 : decode cL_isSo 348 = .ok (.iaload, 1) := by decide +kernel
theorem dL_isSo_349 : decode cL_isSo 349 = .ok (.if_icmp .eq 7, 3) := by decide +kernel
theorem dL_isSo_352 : decode cL_isSo 352 = .ok (.iconst 1, 1) := by decide +kernel
theorem dL_isSo_353 : decode cL_isSo 353 = .ok (.goto 4, 3) := by decide +kernel
theorem dL_isSo_356 : decode cL_isSo 356 = .ok (.iconst 0, 1) := by decide +kernel
theorem dL_isSo_357 : decode cL_isSo 357 = .ok (.iadd, 1) := by decide +kernel
theorem dL_isSo_358 : decode cL_isSo 358 = .ok (.istore 13, 2) := by decide +kernel
theorem dL_isSo_360 : decode cL_isSo 360 = .ok (.iload 11, 2) := by decide +kernel
theorem dL_isSo_362 : decode cL_isSo 362 = .ok (.iload 16, 2) := by decide +kernel
theorem dL_isSo_364 : decode cL_isSo 364 = .ok (.ifCond .eq 13, 3) := by decide +kernel
theorem dL_isSo_367 : decode cL_isSo 367 = .ok (.aload 6, 2) := by decide +kernel
theorem dL_isSo_369 : decode cL_isSo 369 = .ok (.iconst 5, 1) := by decide +kernel
theorem dL_isSo_370 : decode cL_isSo 370 = .ok (.iload 15, 2) := by decide +kernel
theorem dL_isSo_372 : decode cL_isSo 372 = .ok (.imul, 1) := by decide +kernel
theorem dL_isSo_373 : decode cL_isSo 373 = .ok (.iaload, 1) := by decide +kernel
theorem dL_isSo_374 : decode cL_isSo 374 = .ok (.goto 4, 3) := by decide +kernel
theorem dL_isSo_377 : decode cL_isSo 377 = .ok (.iconst 0, 1) := by decide +kernel
theorem dL_isSo_378 : decode cL_isSo 378 = .ok (.iadd, 1) := by decide +kernel
theorem dL_isSo_379 : decode cL_isSo 379 = .ok (.istore 11, 2) := by decide +kernel
theorem dL_isSo_381 : decode cL_isSo 381 = .ok (.aload_n 0, 1) := by decide +kernel
theorem dL_isSo_382 : decode cL_isSo 382 = .ok (.iload 15, 2) := by decide +kernel
theorem dL_isSo_384 : decode cL_isSo 384 = .ok (.iconst 0, 1) := by decide +kernel
theorem dL_isSo_385 : decode cL_isSo 385 = .ok (.invokevirtual 95, 3) := by decide +kernel
theorem dL_isSo_388 : decode cL_isSo 388 = .ok (.aload 6, 2) := by decide +kernel
theorem dL_isSo_390 : decode cL_isSo 390 = .ok (.iconst 5, 1) := by decide +kernel
theorem dL_isSo_391 : decode cL_isSo 391 = .ok (.iload 15, 2) := by decide +kernel
theorem dL_isSo_393 : decode cL_isSo 393 = .ok (.imul, 1) := by decide +kernel
theorem dL_isSo_394 : decode cL_isSo 394 = .ok (.iaload, 1) := by decide +kernel
theorem dL_isSo_395 : decode cL_isSo 395 = .ok (.if_icmp .ne 185, 3) := by decide +kernel
theorem dL_isSo_398 : decode cL_isSo 398 = .ok (.aload_n 0, 1) := by decide +kernel
theorem dL_isSo_399 : decode cL_isSo 399 = .ok (.iload 15, 2) := by decide +kernel
theorem dL_isSo_401 : decode cL_isSo 401 = .ok (.iconst 1, 1) := by decide +kernel
theorem dL_isSo_402 : decode cL_isSo 402 = .ok (.invokevirtual 95, 3) := by decide +kernel
theorem dL_isSo_405 : decode cL_isSo 405 = .ok (.iload 16, 2) := by decide +kernel
theorem dL_isSo_407 : decode cL_isSo 407 = .ok (.ifCond .eq 15, 3) := by decide +kernel
theorem dL_isSo_410 : decode cL_isSo 410 = .ok (.aload 6, 2) := by decide +kernel
theorem dL_isSo_412 : decode cL_isSo 412 = .ok (.iconst 5, 1) := by decide +kernel
theorem dL_isSo_413 : decode cL_isSo 413 = .ok (.iload 15, 2) := by decide +kernel
theorem dL_isSo_415 : decode cL_isSo 415 = .ok (.imul, 1) := by decide +kernel
theorem dL_isSo_416 : decode cL_isSo 416 = .ok (.iconst 1, 1) := by decide +kernel
theorem dL_isSo_417 : decode cL_isSo 417 = .ok (.iadd, 1) := by decide +kernel
theorem dL_isSo_418 : decode cL_isSo 418 = .ok (.iaload, 1) := by decide +kernel
theorem dL_isSo_419 : decode cL_isSo 419 = .ok (.goto 5, 3) := by decide +kernel
theorem dL_isSo_422 : decode cL_isSo 422 = .ok (.ldc 94, 2) := by decide +kernel
theorem dL_isSo_424 : decode cL_isSo 424 = .ok (.if_icmp .ne 156, 3) := by decide +kernel
theorem dL_isSo_427 : decode cL_isSo 427 = .ok (.aload_n 0, 1) := by decide +kernel
theorem dL_isSo_428 : decode cL_isSo 428 = .ok (.iload 15, 2) := by decide +kernel
theorem dL_isSo_430 : decode cL_isSo 430 = .ok (.iconst 2, 1) := by decide +kernel
theorem dL_isSo_431 : decode cL_isSo 431 = .ok (.invokevirtual 95, 3) := by decide +kernel
theorem dL_isSo_434 : decode cL_isSo 434 = .ok (.iload 16, 2) := by decide +kernel
theorem dL_isSo_436 : decode cL_isSo 436 = .ok (.ifCond .eq 15, 3) := by decide +kernel
theorem dL_isSo_439 : decode cL_isSo 439 = .ok (.aload 6, 2) := by decide +kernel
theorem dL_isSo_441 : decode cL_isSo 441 = .ok (.iconst 5, 1) := by decide +kernel
theorem dL_isSo_442 : decode cL_isSo 442 = .ok (.iload 15, 2) := by decide +kernel
theorem dL_isSo_444 : decode cL_isSo 444 = .ok (.imul, 1) := by decide +kernel
theorem dL_isSo_445 : decode cL_isSo 445 = .ok (.iconst 2, 1) := by decide +kernel
theorem dL_isSo_446 : decode cL_isSo 446 = .ok (.iadd, 1) := by decide +kernel
theorem dL_isSo_447 : decode cL_isSo 447 = .ok (.iaload, 1) := by decide +kernel
theorem dL_isSo_448 : decode cL_isSo 448 = .ok (.goto 5, 3) := by decide +kernel
theorem dL_isSo_451 : decode cL_isSo 451 = .ok (.ldc 94, 2) := by decide +kernel
theorem dL_isSo_453 : decode cL_isSo 453 = .ok (.if_icmp .ne 127, 3) := by decide +kernel
theorem dL_isSo_456 : decode cL_isSo 456 = .ok (.aload_n 0, 1) := by decide +kernel
theorem dL_isSo_457 : decode cL_isSo 457 = .ok (.iload 15, 2) := by decide +kernel
theorem dL_isSo_459 : decode cL_isSo 459 = .ok (.iconst 3, 1) := by decide +kernel
theorem dL_isSo_460 : decode cL_isSo 460 = .ok (.invokevirtual 95, 3) := by decide +kernel
theorem dL_isSo_463 : decode cL_isSo 463 = .ok (.iload 16, 2) := by decide +kernel
theorem dL_isSo_465 : decode cL_isSo 465 = .ok (.ifCond .eq 15, 3) := by decide +kernel
theorem dL_isSo_468 : decode cL_isSo 468 = .ok (.aload 6, 2) := by decide +kernel
theorem dL_isSo_470 : decode cL_isSo 470 = .ok (.iconst 5, 1) := by decide +kernel
theorem dL_isSo_471 : decode cL_isSo 471 = .ok (.iload 15, 2) := by decide +kernel
theorem dL_isSo_473 : decode cL_isSo 473 = .ok (.imul, 1) := by decide +kernel
theorem dL_isSo_474 : decode cL_isSo 474 = .ok (.iconst 3, 1) := by decide +kernel
theorem dL_isSo_475 : decode cL_isSo 475 = .ok (.iadd, 1) := by decide +kernel
theorem dL_isSo_476 : decode cL_isSo 476 = .ok (.iaload, 1) := by decide +kernel
theorem dL_isSo_477 : decode cL_isSo 477 = .ok (.goto 5, 3) := by decide +kernel
theorem dL_isSo_480 : decode cL_isSo 480 = .ok (.ldc 94, 2) := by decide +kernel
theorem dL_isSo_482 : decode cL_isSo 482 = .ok (.if_icmp .ne 98, 3) := by decide +kernel
theorem dL_isSo_485 : decode cL_isSo 485 = .ok (.aload_n 0, 1) := by decide +kernel
theorem dL_isSo_486 : decode cL_isSo 486 = .ok (.iload 15, 2) := by decide +kernel
theorem dL_isSo_488 : decode cL_isSo 488 = .ok (.iconst 4, 1) := by decide +kernel
theorem dL_isSo_489 : decode cL_isSo 489 = .ok (.invokevirtual 95, 3) := by decide +kernel
theorem dL_isSo_492 : decode cL_isSo 492 = .ok (.aload 6, 2) := by decide +kernel
theorem dL_isSo_494 : decode cL_isSo 494 = .ok (.iconst 5, 1) := by decide +kernel
theorem dL_isSo_495 : decode cL_isSo 495 = .ok (.iload 15, 2) := by decide +kernel
theorem dL_isSo_497 : decode cL_isSo 497 = .ok (.imul, 1) := by decide +kernel
theorem dL_isSo_498 : decode cL_isSo 498 = .ok (.iconst 4, 1) := by decide +kernel
theorem dL_isSo_499 : decode cL_isSo 499 = .ok (.iadd, 1) := by decide +kernel
theorem dL_isSo_500 : decode cL_isSo 500 = .ok (.iaload, 1) := by decide +kernel
theorem dL_isSo_501 : decode cL_isSo 501 = .ok (.if_icmp .ne 79, 3) := by decide +kernel
theorem dL_isSo_504 : decode cL_isSo 504 = .ok (.aload_n 0, 1) := by decide +kernel
theorem dL_isSo_505 : decode cL_isSo 505 = .ok (.iload 15, 2) := by decide +kernel
theorem dL_isSo_507 : decode cL_isSo 507 = .ok (.iconst 5, 1) := by decide +kernel
theorem dL_isSo_508 : decode cL_isSo 508 = .ok (.invokevirtual 95, 3) := by decide +kernel
theorem dL_isSo_511 : decode cL_isSo 511 = .ok (.aload 7, 2) := by decide +kernel
theorem dL_isSo_513 : decode cL_isSo 513 = .ok (.iconst 5, 1) := by decide +kernel
theorem dL_isSo_514 : decode cL_isSo 514 = .ok (.iload 15, 2) := by decide +kernel
theorem dL_isSo_516 : decode cL_isSo 516 = .ok (.imul, 1) := by decide +kernel
theorem dL_isSo_517 : decode cL_isSo 517 = .ok (.iaload, 1) := by decide +kernel
theorem dL_isSo_518 : decode cL_isSo 518 = .ok (.ifCond .ge 8, 3) := by decide +kernel
theorem dL_isSo_521 : decode cL_isSo 521 = .ok (.ldc 94, 2) := by decide +kernel
theorem dL_isSo_523 : decode cL_isSo 523 = .ok (.goto 10, 3) := by decide +kernel
theorem dL_isSo_526 : decode cL_isSo 526 = .ok (.aload 7, 2) := by decide +kernel
theorem dL_isSo_528 : decode cL_isSo 528 = .ok (.iconst 5, 1) := by decide +kernel
theorem dL_isSo_529 : decode cL_isSo 529 = .ok (.iload 15, 2) := by decide +kernel
theorem dL_isSo_531 : decode cL_isSo 531 = .ok (.imul, 1) := by decide +kernel
theorem dL_isSo_532 : decode cL_isSo 532 = .ok (.iaload, 1) := by decide +kernel
theorem dL_isSo_533 : decode cL_isSo 533 = .ok (.if_icmp .ne 47, 3) := by decide +kernel
theorem dL_isSo_536 : decode cL_isSo 536 = .ok (.aload_n 0, 1) := by decide +kernel
theorem dL_isSo_537 : decode cL_isSo 537 = .ok (.iload 15, 2) := by decide +kernel
theorem dL_isSo_539 : decode cL_isSo 539 = .ok (.bipush 6, 2) := by decide +kernel
theorem dL_isSo_541 : decode cL_isSo 541 = .ok (.invokevirtual 95, 3) := by decide +kernel
theorem dL_isSo_544 : decode cL_isSo 544 = .ok (.aload 7, 2) := by decide +kernel
theorem dL_isSo_546 : decode cL_isSo 546 = .ok (.iconst 5, 1) := by decide +kernel
theorem dL_isSo_547 : decode cL_isSo 547 = .ok (.iload 15, 2) := by decide +kernel
theorem dL_isSo_549 : decode cL_isSo 549 = .ok (.imul, 1) := by decide +kernel
theorem dL_isSo_550 : decode cL_isSo 550 = .ok (.iconst 1, 1) := by decide +kernel
theorem dL_isSo_551 : decode cL_isSo 551 = .ok (.iadd, 1) := by decide +kernel
theorem dL_isSo_552 : decode cL_isSo 552 = .ok (.iaload, 1) := by decide +kernel
theorem dL_isSo_553 : decode cL_isSo 553 = .ok (.if_icmp .ne 27, 3) := by decide +kernel
theorem dL_isSo_556 : decode cL_isSo 556 = .ok (.aload_n 0, 1) := by decide +kernel
theorem dL_isSo_557 : decode cL_isSo 557 = .ok (.iload 15, 2) := by decide +kernel
theorem dL_isSo_559 : decode cL_isSo 559 = .ok (.bipush 7, 2) := by decide +kernel
theorem dL_isSo_561 : decode cL_isSo 561 = .ok (.invokevirtual 95, 3) := by decide +kernel
theorem dL_isSo_564 : decode cL_isSo 564 = .ok (.aload 7, 2) := by decide +kernel
theorem dL_isSo_566 : decode cL_isSo 566 = .ok (.iconst 5, 1) := by decide +kernel
theorem dL_isSo_567 : decode cL_isSo 567 = .ok (.iload 15, 2) := by decide +kernel
theorem dL_isSo_569 : decode cL_isSo 569 = .ok (.imul, 1) := by decide +kernel
theorem dL_isSo_570 : decode cL_isSo 570 = .ok (.iconst 2, 1) := by decide +kernel
theorem dL_isSo_571 : decode cL_isSo 571 = .ok (.iadd, 1) := by decide +kernel
theorem dL_isSo_572 : decode cL_isSo 572 = .ok (.iaload, 1) := by decide +kernel
theorem dL_isSo_573 : decode cL_isSo 573 = .ok (.if_icmp .ne 7, 3) := by decide +kernel
theorem dL_isSo_576 : decode cL_isSo 576 = .ok (.iconst 1, 1) := by decide +kernel
theorem dL_isSo_577 : decode cL_isSo 577 = .ok (.goto 4, 3) := by decide +kernel
theorem dL_isSo_580 : decode cL_isSo 580 = .ok (.iconst 0, 1) := by decide +kernel
theorem dL_isSo_581 : decode cL_isSo 581 = .ok (.istore 14, 2) := by decide +kernel
theorem dL_isSo_583 : decode cL_isSo 583 = .ok (.iload 14, 2) := by decide +kernel
theorem dL_isSo_585 : decode cL_isSo 585 = .ok (.ifCond .eq 66, 3) := by decide +kernel
theorem dL_isSo_588 : decode cL_isSo 588 = .ok (.aload_n 0, 1) := by decide +kernel
theorem dL_isSo_589 : decode cL_isSo 589 = .ok (.iload 15, 2) := by decide +kernel
theorem dL_isSo_591 : decode cL_isSo 591 = .ok (.invokevirtual 98, 3) := by decide +kernel
theorem dL_isSo_594 : decode cL_isSo 594 = .ok (.iload 16, 2) := by decide +kernel
theorem dL_isSo_596 : decode cL_isSo 596 = .ok (.ifCond .eq 17, 3) := by decide +kernel
theorem dL_isSo_599 : decode cL_isSo 599 = .ok (.aload_n 1, 1) := by decide +kernel
theorem dL_isSo_600 : decode cL_isSo 600 = .ok (.aload_n 2, 1) := by decide +kernel
theorem dL_isSo_601 : decode cL_isSo 601 = .ok (.aload 4, 2) := by decide +kernel
theorem dL_isSo_603 : decode cL_isSo 603 = .ok (.aload 6, 2) := by decide +kernel
theorem dL_isSo_605 : decode cL_isSo 605 = .ok (.iload 15, 2) := by decide +kernel
theorem dL_isSo_607 : decode cL_isSo 607 = .ok (.invokestatic 42, 3) := by decide +kernel
theorem dL_isSo_610 : decode cL_isSo 610 = .ok (.goto 5, 3) := by decide +kernel
theorem dL_isSo_613 : decode cL_isSo 613 = .ok (.ldc 33, 2) := by decide +kernel
theorem dL_isSo_615 : decode cL_isSo 615 = .ok (.if_icmp .ne 36, 3) := by decide +kernel
theorem dL_isSo_618 : decode cL_isSo 618 = .ok (.aload_n 0, 1) := by decide +kernel
theorem dL_isSo_619 : decode cL_isSo 619 = .ok (.iload 15, 2) := by decide +kernel
theorem dL_isSo_621 : decode cL_isSo 621 = .ok (.invokevirtual 100, 3) := by decide +kernel
theorem dL_isSo_624 : decode cL_isSo 624 = .ok (.iload 16, 2) := by decide +kernel
theorem dL_isSo_626 : decode cL_isSo 626 = .ok (.ifCond .eq 16, 3) := by decide +kernel
theorem dL_isSo_629 : decode cL_isSo 629 = .ok (.aload_n 1, 1) := by decide +kernel
theorem dL_isSo_630 : decode cL_isSo 630 = .ok (.aload 5, 2) := by decide +kernel
theorem dL_isSo_632 : decode cL_isSo 632 = .ok (.aload 6, 2) := by decide +kernel
theorem dL_isSo_634 : decode cL_isSo 634 = .ok (.iload 15, 2) := by decide +kernel
theorem dL_isSo_636 : decode cL_isSo 636 = .ok (.invokestatic 46, 3) := by decide +kernel
theorem dL_isSo_639 : decode cL_isSo 639 = .ok (.goto 5, 3) := by decide +kernel
theorem dL_isSo_642 : decode cL_isSo 642 = .ok (.ldc 33, 2) := by decide +kernel
theorem dL_isSo_644 : decode cL_isSo 644 = .ok (.if_icmp .ne 7, 3) := by decide +kernel
theorem dL_isSo_647 : decode cL_isSo 647 = .ok (.iconst 1, 1) := by decide +kernel
theorem dL_isSo_648 : decode cL_isSo 648 = .ok (.goto 4, 3) := by decide +kernel
theorem dL_isSo_651 : decode cL_isSo 651 = .ok (.iconst 0, 1) := by decide +kernel
theorem dL_isSo_652 : decode cL_isSo 652 = .ok (.istore 14, 2) := by decide +kernel
theorem dL_isSo_654 : decode cL_isSo 654 = .ok (.iinc 15 1, 3) := by decide +kernel
theorem dL_isSo_657 : decode cL_isSo 657 = .ok (.goto (-375), 3) := by decide +kernel
theorem dL_isSo_660 : decode cL_isSo 660 = .ok (.iload 14, 2) := by decide +kernel
theorem dL_isSo_662 : decode cL_isSo 662 = .ok (.ifCond .eq 17, 3) := by decide +kernel
theorem dL_isSo_665 : decode cL_isSo 665 = .ok (.iload 8, 2) := by decide +kernel
theorem dL_isSo_667 : decode cL_isSo 667 = .ok (.iload 11, 2) := by decide +kernel
theorem dL_isSo_669 : decode cL_isSo 669 = .ok (.iload 10, 2) := by decide +kernel
theorem dL_isSo_671 : decode cL_isSo 671 = .ok (.iadd, 1) := by decide +kernel
theorem dL_isSo_672 : decode cL_isSo 672 = .ok (.if_icmp .ne 7, 3) := by decide +kernel
theorem dL_isSo_675 : decode cL_isSo 675 = .ok (.iconst 1, 1) := by decide +kernel
theorem dL_isSo_676 : decode cL_isSo 676 = .ok (.goto 4, 3) := by decide +kernel
theorem dL_isSo_679 : decode cL_isSo 679 = .ok (.iconst 0, 1) := by decide +kernel
theorem dL_isSo_680 : decode cL_isSo 680 = .ok (.istore 14, 2) := by decide +kernel
theorem dL_isSo_682 : decode cL_isSo 682 = .ok (.iload 14, 2) := by decide +kernel
theorem dL_isSo_684 : decode cL_isSo 684 = .ok (.ifCond .eq 171, 3) := by decide +kernel
theorem dL_isSo_687 : decode cL_isSo 687 = .ok (.aload_n 0, 1) := by decide +kernel
theorem dL_isSo_688 : decode cL_isSo 688 = .ok (.iconst 0, 1) := by decide +kernel
theorem dL_isSo_689 : decode cL_isSo 689 = .ok (.invokevirtual 102, 3) := by decide +kernel
theorem dL_isSo_692 : decode cL_isSo 692 = .ok (.aload_n 1, 1) := by decide +kernel
theorem dL_isSo_693 : decode cL_isSo 693 = .ok (.iconst 0, 1) := by decide +kernel
theorem dL_isSo_694 : decode cL_isSo 694 = .ok (.iaload, 1) := by decide +kernel
theorem dL_isSo_695 : decode cL_isSo 695 = .ok (.if_icmp .ne 160, 3) := by decide +kernel
theorem dL_isSo_698 : decode cL_isSo 698 = .ok (.aload_n 0, 1) := by decide +kernel
theorem dL_isSo_699 : decode cL_isSo 699 = .ok (.iconst 1, 1) := by decide +kernel
theorem dL_isSo_700 : decode cL_isSo 700 = .ok (.invokevirtual 102, 3) := by decide +kernel
theorem dL_isSo_703 : decode cL_isSo 703 = .ok (.aload_n 1, 1) := by decide +kernel
theorem dL_isSo_704 : decode cL_isSo 704 = .ok (.iconst 1, 1) := by decide +kernel
theorem dL_isSo_705 : decode cL_isSo 705 = .ok (.iaload, 1) := by decide +kernel
theorem dL_isSo_706 : decode cL_isSo 706 = .ok (.if_icmp .ne 149, 3) := by decide +kernel
theorem dL_isSo_709 : decode cL_isSo 709 = .ok (.aload_n 0, 1) := by decide +kernel
theorem dL_isSo_710 : decode cL_isSo 710 = .ok (.iconst 2, 1) := by decide +kernel
theorem dL_isSo_711 : decode cL_isSo 711 = .ok (.invokevirtual 102, 3) := by decide +kernel
theorem dL_isSo_714 : decode cL_isSo 714 = .ok (.iload 12, 2) := by decide +kernel
theorem dL_isSo_716 : decode cL_isSo 716 = .ok (.if_icmp .ne 139, 3) := by decide +kernel
theorem dL_isSo_719 : decode cL_isSo 719 = .ok (.aload_n 0, 1) := by decide +kernel
theorem dL_isSo_720 : decode cL_isSo 720 = .ok (.iconst 4, 1) := by decide +kernel
theorem dL_isSo_721 : decode cL_isSo 721 = .ok (.invokevirtual 102, 3) := by decide +kernel
theorem dL_isSo_724 : decode cL_isSo 724 = .ok (.aload_n 1, 1) := by decide +kernel
theorem dL_isSo_725 : decode cL_isSo 725 = .ok (.aload_n 2, 1) := by decide +kernel
theorem dL_isSo_726 : decode cL_isSo 726 = .ok (.aload 4, 2) := by decide +kernel
theorem dL_isSo_728 : decode cL_isSo 728 = .ok (.aload 6, 2) := by decide +kernel
theorem dL_isSo_730 : decode cL_isSo 730 = .ok (.invokestatic 34, 3) := by decide +kernel
theorem dL_isSo_733 : decode cL_isSo 733 = .ok (.if_icmp .ne 122, 3) := by decide +kernel
theorem dL_isSo_736 : decode cL_isSo 736 = .ok (.aload_n 0, 1) := by decide +kernel
theorem dL_isSo_737 : decode cL_isSo 737 = .ok (.iconst 5, 1) := by decide +kernel
theorem dL_isSo_738 : decode cL_isSo 738 = .ok (.invokevirtual 102, 3) := by decide +kernel
theorem dL_isSo_741 : decode cL_isSo 741 = .ok (.iload 8, 2) := by decide +kernel
theorem dL_isSo_743 : decode cL_isSo 743 = .ok (.if_icmp .ne 112, 3) := by decide +kernel
theorem dL_isSo_746 : decode cL_isSo 746 = .ok (.aload_n 0, 1) := by decide +kernel
theorem dL_isSo_747 : decode cL_isSo 747 = .ok (.bipush 6, 2) := by decide +kernel
theorem dL_isSo_749 : decode cL_isSo 749 = .ok (.invokevirtual 102, 3) := by decide +kernel
theorem dL_isSo_752 : decode cL_isSo 752 = .ok (.iload 9, 2) := by decide +kernel
theorem dL_isSo_754 : decode cL_isSo 754 = .ok (.if_icmp .ne 101, 3) := by decide +kernel
theorem dL_isSo_757 : decode cL_isSo 757 = .ok (.aload_n 0, 1) := by decide +kernel
theorem dL_isSo_758 : decode cL_isSo 758 = .ok (.bipush 7, 2) := by decide +kernel
theorem dL_isSo_760 : decode cL_isSo 760 = .ok (.invokevirtual 102, 3) := by decide +kernel
theorem dL_isSo_763 : decode cL_isSo 763 = .ok (.iload 13, 2) := by decide +kernel
theorem dL_isSo_765 : decode cL_isSo 765 = .ok (.if_icmp .ne 90, 3) := by decide +kernel
theorem dL_isSo_768 : decode cL_isSo 768 = .ok (.aload_n 0, 1) := by decide +kernel
theorem dL_isSo_769 : decode cL_isSo 769 = .ok (.bipush 8, 2) := by decide +kernel
theorem dL_isSo_771 : decode cL_isSo 771 = .ok (.invokevirtual 102, 3) := by decide +kernel
theorem dL_isSo_774 : decode cL_isSo 774 = .ok (.aload_n 1, 1) := by decide +kernel
theorem dL_isSo_775 : decode cL_isSo 775 = .ok (.iconst 2, 1) := by decide +kernel
theorem dL_isSo_776 : decode cL_isSo 776 = .ok (.iaload, 1) := by decide +kernel
theorem dL_isSo_777 : decode cL_isSo 777 = .ok (.if_icmp .ne 78, 3) := by decide +kernel
theorem dL_isSo_780 : decode cL_isSo 780 = .ok (.aload_n 0, 1) := by decide +kernel
theorem dL_isSo_781 : decode cL_isSo 781 = .ok (.bipush 9, 2) := by decide +kernel
theorem dL_isSo_783 : decode cL_isSo 783 = .ok (.invokevirtual 102, 3) := by decide +kernel
theorem dL_isSo_786 : decode cL_isSo 786 = .ok (.aload_n 1, 1) := by decide +kernel
theorem dL_isSo_787 : decode cL_isSo 787 = .ok (.iconst 3, 1) := by decide +kernel
theorem dL_isSo_788 : decode cL_isSo 788 = .ok (.iaload, 1) := by decide +kernel
theorem dL_isSo_789 : decode cL_isSo 789 = .ok (.if_icmp .ne 66, 3) := by decide +kernel
theorem dL_isSo_792 : decode cL_isSo 792 = .ok (.aload_n 0, 1) := by decide +kernel
theorem dL_isSo_793 : decode cL_isSo 793 = .ok (.bipush 10, 2) := by decide +kernel
theorem dL_isSo_795 : decode cL_isSo 795 = .ok (.invokevirtual 102, 3) := by decide +kernel
theorem dL_isSo_798 : decode cL_isSo 798 = .ok (.aload_n 1, 1) := by decide +kernel
theorem dL_isSo_799 : decode cL_isSo 799 = .ok (.iconst 4, 1) := by decide +kernel
theorem dL_isSo_800 : decode cL_isSo 800 = .ok (.iaload, 1) := by decide +kernel
theorem dL_isSo_801 : decode cL_isSo 801 = .ok (.if_icmp .ne 54, 3) := by decide +kernel
theorem dL_isSo_804 : decode cL_isSo 804 = .ok (.aload_n 0, 1) := by decide +kernel
theorem dL_isSo_805 : decode cL_isSo 805 = .ok (.bipush 11, 2) := by decide +kernel
theorem dL_isSo_807 : decode cL_isSo 807 = .ok (.invokevirtual 102, 3) := by decide +kernel
theorem dL_isSo_810 : decode cL_isSo 810 = .ok (.aload_n 1, 1) := by decide +kernel
theorem dL_isSo_811 : decode cL_isSo 811 = .ok (.iconst 5, 1) := by decide +kernel
theorem dL_isSo_812 : decode cL_isSo 812 = .ok (.iaload, 1) := by decide +kernel
theorem dL_isSo_813 : decode cL_isSo 813 = .ok (.if_icmp .ne 42, 3) := by decide +kernel
theorem dL_isSo_816 : decode cL_isSo 816 = .ok (.aload_n 0, 1) := by decide +kernel
theorem dL_isSo_817 : decode cL_isSo 817 = .ok (.aload_n 1, 1) := by decide +kernel
theorem dL_isSo_818 : decode cL_isSo 818 = .ok (.iconst 1, 1) := by decide +kernel
theorem dL_isSo_819 : decode cL_isSo 819 = .ok (.iaload, 1) := by decide +kernel
theorem dL_isSo_820 : decode cL_isSo 820 = .ok (.iconst 0, 1) := by decide +kernel
theorem dL_isSo_821 : decode cL_isSo 821 = .ok (.invokevirtual 95, 3) := by decide +kernel
theorem dL_isSo_824 : decode cL_isSo 824 = .ok (.ldc 32, 2) := by decide +kernel
theorem dL_isSo_826 : decode cL_isSo 826 = .ok (.if_icmp .ne 29, 3) := by decide +kernel
theorem dL_isSo_829 : decode cL_isSo 829 = .ok (.aload_n 0, 1) := by decide +kernel
theorem dL_isSo_830 : decode cL_isSo 830 = .ok (.aload_n 1, 1) := by decide +kernel
theorem dL_isSo_831 : decode cL_isSo 831 = .ok (.iconst 1, 1) := by decide +kernel
theorem dL_isSo_832 : decode cL_isSo 832 = .ok (.iaload, 1) := by decide +kernel
theorem dL_isSo_833 : decode cL_isSo 833 = .ok (.invokevirtual 98, 3) := by decide +kernel
theorem dL_isSo_836 : decode cL_isSo 836 = .ok (.ldc 32, 2) := by decide +kernel
theorem dL_isSo_838 : decode cL_isSo 838 = .ok (.if_icmp .ne 17, 3) := by decide +kernel
theorem dL_isSo_841 : decode cL_isSo 841 = .ok (.aload_n 0, 1) := by decide +kernel
theorem dL_isSo_842 : decode cL_isSo 842 = .ok (.iconst (-1), 1) := by decide +kernel
theorem dL_isSo_843 : decode cL_isSo 843 = .ok (.invokevirtual 100, 3) := by decide +kernel
theorem dL_isSo_846 : decode cL_isSo 846 = .ok (.ldc 32, 2) := by decide +kernel
theorem dL_isSo_848 : decode cL_isSo 848 = .ok (.if_icmp .ne 7, 3) := by decide +kernel
theorem dL_isSo_851 : decode cL_isSo 851 = .ok (.iconst 1, 1) := by decide +kernel
theorem dL_isSo_852 : decode cL_isSo 852 = .ok (.goto 4, 3) := by decide +kernel
theorem dL_isSo_855 : decode cL_isSo 855 = .ok (.iconst 0, 1) := by decide +kernel
theorem dL_isSo_856 : decode cL_isSo 856 = .ok (.ireturn, 1) := by decide +kernel
set_option maxRecDepth 20000 in
theorem ggL_law_X1_init : GoodIn wsL_law wsX1_init := goodIn_r _ [8, 9, 10, 11, 12, 13, 14, 15, 16, 17, 18, 3, 19, 20, 21, 22, 23, 24, 25, 26, 27, 28, 29, 30, 31, 32, 33, 34, 35, 36, 37, 38, 39, 40, 41, 42, 2, 43, 314, 315, 316, 317, 318, 319, 320, 321, 322, 323, 324, 325, 326, 327, 328, 307, 308, 309, 310, 311, 312, 313] (by decide +kernel) (by decide +kernel)
set_option maxRecDepth 20000 in
theorem gL_law_X1_init : GoodIn wsL_law (wsX1_init) := ggL_law_X1_init
set_option maxRecDepth 20000 in
set_option maxRecDepth 20000 in
theorem ggL_law_L_isSo_h : GoodIn wsL_law [.code yL_isSo cL_isSo 19 (some .boolean)] := goodIn_r _ [47] rfl (by decide +kernel)
set_option maxRecDepth 20000 in
theorem ggL_law_L_isSo_1 : GoodIn wsL_law wsL_isSo_r1 := goodIn_r _ [48, 49, 5, 50, 51, 46, 52, 53, 54, 55, 56, 57, 58, 59, 60, 61, 2, 62, 63, 19, 15, 64, 65, 66] (by decide +kernel) (by decide +kernel)
set_option maxRecDepth 20000 in
theorem ggL_law_L_isSo_2 : GoodIn wsL_law wsL_isSo_r2 := goodIn_r _ [67, 68, 20, 69, 70, 71, 72, 73, 74, 75, 76, 77, 78, 79, 80, 81, 82, 83, 84, 85, 86, 87, 88, 89] (by decide +kernel) (by decide +kernel)
set_option maxRecDepth 20000 in
theorem ggL_law_L_isSo_3 : GoodIn wsL_law wsL_isSo_r3 := goodIn_r _ [90, 91, 92, 93, 94, 95, 96, 97, 98, 99, 100, 101, 102, 103, 104, 105, 106, 107, 108, 109, 110, 111, 112, 113] (by decide +kernel) (by decide +kernel)
set_option maxRecDepth 20000 in
theorem ggL_law_L_isSo_4 : GoodIn wsL_law wsL_isSo_r4 := goodIn_r _ [114, 115, 116, 117, 118, 119, 120, 121, 122, 123, 124, 125, 126, 127, 128, 129, 130, 131, 132, 133, 134, 135, 136, 137] (by decide +kernel) (by decide +kernel)
set_option maxRecDepth 20000 in
theorem ggL_law_L_isSo_5 : GoodIn wsL_law wsL_isSo_r5 := goodIn_r _ [138, 139, 140, 141, 142, 143, 144, 145, 146, 147, 148, 149, 150, 151, 152, 153, 154, 155, 156, 157, 158, 159, 160, 161] (by decide +kernel) (by decide +kernel)
set_option maxRecDepth 20000 in
theorem ggL_law_L_isSo_6 : GoodIn wsL_law wsL_isSo_r6 := goodIn_r _ [162, 163, 164, 165, 166, 167, 168, 169, 170, 171, 172, 18, 173, 174, 175, 176, 177, 178, 179, 180, 181, 182, 183, 184] (by decide +kernel) (by decide +kernel)
set_option maxRecDepth 20000 in
theorem ggL_law_L_isSo_7 : GoodIn wsL_law wsL_isSo_r7 := goodIn_r _ [185, 186, 187, 188, 189, 190, 191, 192, 193, 194, 195, 196, 197, 198, 199, 200, 201, 202, 203, 204, 205, 206, 207, 208] (by decide +kernel) (by decide +kernel)
set_option maxRecDepth 20000 in
theorem ggL_law_L_isSo_8 : GoodIn wsL_law wsL_isSo_r8 := goodIn_r _ [209, 210] (by decide +kernel) (by decide +kernel)
set_option maxRecDepth 20000 in
theorem ggL_law_L_isSo_x1 : GoodIn wsL_law wsX10 := goodIn_r _ [307, 308, 309, 310, 311, 312, 313] (by decide +kernel) (by decide +kernel)
set_option maxRecDepth 20000 in
theorem ggL_law_L_isSo_x0 : GoodIn wsL_law wsX00 := goodIn_r _ [314, 315, 316, 317, 318, 319, 320, 321, 322, 323, 324, 325, 326, 327, 328] (by decide +kernel) (by decide +kernel)
theorem ggL_law_L_isSo : GoodIn wsL_law wsL_isSo := fun w h => (List.mem_cons.mp h).elim (fun e => ggL_law_L_isSo_h w (List.mem_cons.mpr (Or.inl e))) (fun h => goodIn_app (goodIn_app (goodIn_app ggL_law_L_isSo_1 (goodIn_app ggL_law_L_isSo_2 (goodIn_app ggL_law_L_isSo_3 (goodIn_app ggL_law_L_isSo_4 (goodIn_app ggL_law_L_isSo_5 (goodIn_app ggL_law_L_isSo_6 (goodIn_app ggL_law_L_isSo_7 (ggL_law_L_isSo_8)))))))) ggL_law_L_isSo_x1) ggL_law_L_isSo_x0 w h)
set_option maxRecDepth 20000 in
theorem gL_law_L_isSo : GoodIn wsL_law (va_wsS RL 106 yL_isSo wsL_isSo) := goodIn_app (goodIn_of _ (by decide +kernel)) ggL_law_L_isSo
set_option maxRecDepth 20000 in
theorem ggL_law_L_cell : GoodIn wsL_law wsL_cell := goodIn_r _ [213, 214] (by decide +kernel) (by decide +kernel)
set_option maxRecDepth 20000 in
theorem gL_law_L_cell : GoodIn wsL_law (va_wsS RL 110 yL_cell wsL_cell) := goodIn_app (goodIn_of _ (by decide +kernel)) ggL_law_L_cell
set_option maxRecDepth 20000 in
set_option maxRecDepth 20000 in
theorem ggL_law_L_acts_h : GoodIn wsL_law [.code yL_acts cL_acts 16 (some .boolean)] := goodIn_r _ [217] rfl (by decide +kernel)
set_option maxRecDepth 20000 in
theorem ggL_law_L_acts_1 : GoodIn wsL_law wsL_acts_r1 := goodIn_r _ [218, 49, 219, 5, 220, 221, 46, 222, 4, 223, 224, 225, 2, 226, 63, 15, 65, 70, 71, 72, 227, 228, 229, 230] (by decide +kernel) (by decide +kernel)
set_option maxRecDepth 20000 in
theorem ggL_law_L_acts_2 : GoodIn wsL_law wsL_acts_r2 := goodIn_r _ [231, 232, 233, 18, 17, 16, 234, 235, 236, 237, 238, 239, 240, 241, 242, 243, 244, 14, 245, 26, 27, 28, 29, 30] (by decide +kernel) (by decide +kernel)
set_option maxRecDepth 20000 in
theorem ggL_law_L_acts_3 : GoodIn wsL_law wsL_acts_r3 := goodIn_r _ [31, 32, 33, 34, 35, 36, 37, 38, 39, 40, 79, 80, 81, 82, 83, 84, 85, 86, 87, 88, 246, 247, 248, 249] (by decide +kernel) (by decide +kernel)
set_option maxRecDepth 20000 in
theorem ggL_law_L_acts_4 : GoodIn wsL_law wsL_acts_r4 := goodIn_r _ [173, 56, 57, 58, 250, 251, 252, 253, 69, 98, 139, 117, 254, 77, 103, 68, 255, 256, 257, 104, 105, 106, 258, 259] (by decide +kernel) (by decide +kernel)
set_option maxRecDepth 20000 in
theorem ggL_law_L_acts_5 : GoodIn wsL_law wsL_acts_r5 := goodIn_r _ [260, 261, 113, 114, 115, 116, 118, 119, 120, 121, 262, 263, 264, 265, 266, 267, 268, 269, 112, 126, 270, 271, 272, 273] (by decide +kernel) (by decide +kernel)
set_option maxRecDepth 20000 in
theorem ggL_law_L_acts_6 : GoodIn wsL_law wsL_acts_r6 := goodIn_r _ [66, 144, 145, 146, 140, 141, 142, 143, 19, 20, 73, 74, 75, 76, 64, 78, 89, 90, 91, 92, 93, 94, 95, 96] (by decide +kernel) (by decide +kernel)
set_option maxRecDepth 20000 in
theorem ggL_law_L_acts_7 : GoodIn wsL_law wsL_acts_r7 := goodIn_r _ [97, 99, 100, 101, 102, 154, 155, 156, 157, 158, 111, 159, 160, 161, 162, 67, 185, 186, 187, 188, 189, 190, 191, 196] (by decide +kernel) (by decide +kernel)
set_option maxRecDepth 20000 in
theorem ggL_law_L_acts_8 : GoodIn wsL_law wsL_acts_r8 := goodIn_r _ [197, 198, 199, 134, 127, 128, 129, 274, 275, 276, 277, 130, 131, 132, 133, 278, 279, 280, 281, 282, 283, 284, 285, 286] (by decide +kernel) (by decide +kernel)
set_option maxRecDepth 20000 in
theorem ggL_law_L_acts_9 : GoodIn wsL_law wsL_acts_r9 := goodIn_r _ [287, 288, 178, 179, 180, 181, 182, 183, 184, 289, 290, 291, 292, 293, 294, 295, 208, 209, 210, 50, 51, 52, 53, 54] (by decide +kernel) (by decide +kernel)
set_option maxRecDepth 20000 in
theorem ggL_law_L_acts_10 : GoodIn wsL_law wsL_acts_r10 := goodIn_r _ [55, 296, 297, 298, 147, 148, 149, 163, 164, 165, 166, 167, 168, 299, 300, 301, 302, 303, 304, 305, 306] (by decide +kernel) (by decide +kernel)
set_option maxRecDepth 20000 in
theorem ggL_law_L_acts_x1 : GoodIn wsL_law wsX10 := goodIn_r _ [307, 308, 309, 310, 311, 312, 313] (by decide +kernel) (by decide +kernel)
set_option maxRecDepth 20000 in
theorem ggL_law_L_acts_x0 : GoodIn wsL_law wsX00 := goodIn_r _ [314, 315, 316, 317, 318, 319, 320, 321, 322, 323, 324, 325, 326, 327, 328] (by decide +kernel) (by decide +kernel)
theorem ggL_law_L_acts : GoodIn wsL_law wsL_acts := fun w h => (List.mem_cons.mp h).elim (fun e => ggL_law_L_acts_h w (List.mem_cons.mpr (Or.inl e))) (fun h => goodIn_app (goodIn_app (goodIn_app ggL_law_L_acts_1 (goodIn_app ggL_law_L_acts_2 (goodIn_app ggL_law_L_acts_3 (goodIn_app ggL_law_L_acts_4 (goodIn_app ggL_law_L_acts_5 (goodIn_app ggL_law_L_acts_6 (goodIn_app ggL_law_L_acts_7 (goodIn_app ggL_law_L_acts_8 (goodIn_app ggL_law_L_acts_9 (ggL_law_L_acts_10)))))))))) ggL_law_L_acts_x1) ggL_law_L_acts_x0 w h)
set_option maxRecDepth 20000 in
theorem gL_law_L_acts : GoodIn wsL_law (va_wsS RL 112 yL_acts wsL_acts) := goodIn_app (goodIn_of _ (by decide +kernel)) ggL_law_L_acts
set_option maxRecDepth 20000 in
theorem ggL_law_L_low : GoodIn wsL_law wsL_low := goodIn_r _ [222, 4] (by decide +kernel) (by decide +kernel)
set_option maxRecDepth 20000 in
theorem gL_law_L_low : GoodIn wsL_law (va_wsS RL 54 yL_low wsL_low) := goodIn_app (goodIn_of _ (by decide +kernel)) ggL_law_L_low
set_option maxRecDepth 20000 in
theorem ggL_law_X1_count : GoodIn wsL_law wsX1_count := goodIn_r _ [172, 15, 158, 117, 18, 68, 66, 173, 63, 174, 175, 176, 2, 177, 118, 119, 120, 121, 69, 98, 113, 114, 115, 116, 178, 179, 180, 181, 19, 20, 182, 183, 83, 184, 73, 74, 75, 76, 64, 77, 78, 79, 80, 81, 82, 84, 85, 86, 87, 88, 89, 90, 91, 92, 93, 94, 70, 71, 72, 95, 96, 97, 99, 100, 101, 102, 103, 185, 186, 187, 188, 189, 190, 191, 192, 193, 194, 195, 196, 197, 198, 199, 112, 134, 127, 128, 129, 200, 201, 202, 203, 122, 123, 124, 125, 126, 204, 205, 206, 207, 130, 131, 132, 133, 307, 308, 309, 310, 311, 312, 313, 314, 315, 316, 317, 318, 319, 320, 321, 322, 323, 324, 325, 326, 327, 328] (by decide +kernel) (by decide +kernel)
set_option maxRecDepth 20000 in
theorem gL_law_X1_count : GoodIn wsL_law (wsV RL 102 RX1 yX1_count wsX1_count) := goodIn_app (goodIn_of _ (by decide +kernel)) ggL_law_X1_count
set_option maxRecDepth 20000 in
theorem ggL_law_X1_cell : GoodIn wsL_law wsX1_cell := goodIn_r _ [62, 63, 19, 15, 64, 65, 66, 67, 68, 20, 69, 70, 71, 2, 72, 73, 74, 75, 76, 77, 78, 79, 80, 81, 82, 83, 84, 85, 86, 87, 88, 89, 90, 91, 92, 93, 94, 95, 96, 97, 98, 99, 100, 101, 102, 103, 104, 105, 106, 307, 308, 309, 310, 311, 312, 313, 314, 315, 316, 317, 318, 319, 320, 321, 322, 323, 324, 325, 326, 327, 328] (by decide +kernel) (by decide +kernel)
set_option maxRecDepth 20000 in
theorem gL_law_X1_cell : GoodIn wsL_law (wsV RL 91 RX1 yX1_cell wsX1_cell) := goodIn_app (goodIn_of _ (by decide +kernel)) ggL_law_X1_cell
theorem dL_law_0 : decode cL_law 0 = .ok (.new 24, 3) := by decide +kernel
theorem dL_law_3 : decode cL_law 3 = .ok (.dup, 1) := by decide +kernel
theorem dL_law_4 : decode cL_law 4 = .ok (.invokespecial 105, 3) := by decide +kernel
theorem dL_law_7 : decode cL_law 7 = .ok (.astore_n 1, 1) := by decide +kernel
theorem dL_law_8 : decode cL_law 8 = .ok (.bipush 6, 2) := by decide +kernel
theorem dL_law_10 : decode cL_law 10 = .ok (.newarray .int, 2) := by decide +kernel
theorem dL_law_12 : decode cL_law 12 = .ok (.astore_n 2, 1) := by decide +kernel
theorem dL_law_13 : decode cL_law 13 = .ok (.bipush 24, 2) := by decide +kernel
theorem dL_law_15 : decode cL_law 15 = .ok (.newarray .int, 2) := by decide +kernel
theorem dL_law_17 : decode cL_law 17 = .ok (.astore_n 3, 1) := by decide +kernel
theorem dL_law_18 : decode cL_law 18 = .ok (.bipush 24, 2) := by decide +kernel
theorem dL_law_20 : decode cL_law 20 = .ok (.newarray .int, 2) := by decide +kernel
theorem dL_law_22 : decode cL_law 22 = .ok (.astore 4, 2) := by decide +kernel
theorem dL_law_24 : decode cL_law 24 = .ok (.bipush 24, 2) := by decide +kernel
theorem dL_law_26 : decode cL_law 26 = .ok (.newarray .int, 2) := by decide +kernel
theorem dL_law_28 : decode cL_law 28 = .ok (.astore 5, 2) := by decide +kernel
theorem dL_law_30 : decode cL_law 30 = .ok (.bipush 24, 2) := by decide +kernel
theorem dL_law_32 : decode cL_law 32 = .ok (.newarray .int, 2) := by decide +kernel
theorem dL_law_34 : decode cL_law 34 = .ok (.astore 6, 2) := by decide +kernel
theorem dL_law_36 : decode cL_law 36 = .ok (.bipush 40, 2) := by decide +kernel
theorem dL_law_38 : decode cL_law 38 = .ok (.newarray .int, 2) := by decide +kernel
theorem dL_law_40 : decode cL_law 40 = .ok (.astore 7, 2) := by decide +kernel
theorem dL_law_42 : decode cL_law 42 = .ok (.bipush 40, 2) := by decide +kernel
theorem dL_law_44 : decode cL_law 44 = .ok (.newarray .int, 2) := by decide +kernel
theorem dL_law_46 : decode cL_law 46 = .ok (.astore 8, 2) := by decide +kernel
theorem dL_law_48 : decode cL_law 48 = .ok (.aload_n 2, 1) := by decide +kernel
theorem dL_law_49 : decode cL_law 49 = .ok (.iconst 2, 1) := by decide +kernel
theorem dL_law_50 : decode cL_law 50 = .ok (.bipush 10, 2) := by decide +kernel
theorem dL_law_52 : decode cL_law 52 = .ok (.iastore, 1) := by decide +kernel
theorem dL_law_53 : decode cL_law 53 = .ok (.aload_n 1, 1) := by decide +kernel
theorem dL_law_54 : decode cL_law 54 = .ok (.aload_n 2, 1) := by decide +kernel
theorem dL_law_55 : decode cL_law 55 = .ok (.aload_n 3, 1) := by decide +kernel
theorem dL_law_56 : decode cL_law 56 = .ok (.aload 4, 2) := by decide +kernel
theorem dL_law_58 : decode cL_law 58 = .ok (.aload 5, 2) := by decide +kernel
theorem dL_law_60 : decode cL_law 60 = .ok (.aload 6, 2) := by decide +kernel
theorem dL_law_62 : decode cL_law 62 = .ok (.aload 7, 2) := by decide +kernel
theorem dL_law_64 : decode cL_law 64 = .ok (.aload 8, 2) := by decide +kernel
theorem dL_law_66 : decode cL_law 66 = .ok (.invokestatic 106, 3) := by decide +kernel
theorem dL_law_69 : decode cL_law 69 = .ok (.istore 9, 2) := by decide +kernel
theorem dL_law_71 : decode cL_law 71 = .ok (.iconst 0, 1) := by decide +kernel
theorem dL_law_72 : decode cL_law 72 = .ok (.istore 10, 2) := by decide +kernel
theorem dL_law_74 : decode cL_law 74 = .ok (.iload 10, 2) := by decide +kernel
theorem dL_law_76 : decode cL_law 76 = .ok (.bipush 8, 2) := by decide +kernel
theorem dL_law_78 : decode cL_law 78 = .ok (.if_icmp .ge 63, 3) := by decide +kernel
theorem dL_law_81 : decode cL_law 81 = .ok (.iload 9, 2) := by decide +kernel
theorem dL_law_83 : decode cL_law 83 = .ok (.ifCond .eq 58, 3) := by decide +kernel
theorem dL_law_86 : decode cL_law 86 = .ok (.aload_n 1, 1) := by decide +kernel
theorem dL_law_87 : decode cL_law 87 = .ok (.aload_n 2, 1) := by decide +kernel
theorem dL_law_88 : decode cL_law 88 = .ok (.aload_n 3, 1) := by decide +kernel
theorem dL_law_89 : decode cL_law 89 = .ok (.aload 4, 2) := by decide +kernel
theorem dL_law_91 : decode cL_law 91 = .ok (.aload 5, 2) := by decide +kernel
theorem dL_law_93 : decode cL_law 93 = .ok (.aload 6, 2) := by decide +kernel
theorem dL_law_95 : decode cL_law 95 = .ok (.aload 7, 2) := by decide +kernel
theorem dL_law_97 : decode cL_law 97 = .ok (.aload 8, 2) := by decide +kernel
theorem dL_law_99 : decode cL_law 99 = .ok (.aload_n 0, 1) := by decide +kernel
theorem dL_law_100 : decode cL_law 100 = .ok (.iconst 1, 1) := by decide +kernel
theorem dL_law_101 : decode cL_law 101 = .ok (.iload 10, 2) := by decide +kernel
theorem dL_law_103 : decode cL_law 103 = .ok (.iadd, 1) := by decide +kernel
theorem dL_law_104 : decode cL_law 104 = .ok (.invokestatic 110, 3) := by decide +kernel
theorem dL_law_107 : decode cL_law 107 = .ok (.ldc 8, 2) := by decide +kernel
theorem dL_law_109 : decode cL_law 109 = .ok (.iand, 1) := by decide +kernel
theorem dL_law_110 : decode cL_law 110 = .ok (.sipush 832, 3) := by decide +kernel
theorem dL_law_113 : decode cL_law 113 = .ok (.idiv, 1) := by decide +kernel
theorem dL_law_114 : decode cL_law 114 = .ok (.sipush 832, 3) := by decide +kernel
theorem dL_law_117 : decode cL_law 117 = .ok (.imul, 1) := by decide +kernel
theorem dL_law_118 : decode cL_law 118 = .ok (.iload 10, 2) := by decide +kernel
theorem dL_law_120 : decode cL_law 120 = .ok (.iconst 2, 1) := by decide +kernel
theorem dL_law_121 : decode cL_law 121 = .ok (.if_icmp .ge 7, 3) := by decide +kernel
theorem dL_law_124 : decode cL_law 124 = .ok (.iconst 0, 1) := by decide +kernel
theorem dL_law_125 : decode cL_law 125 = .ok (.goto 4, 3) := by decide +kernel
theorem dL_law_128 : decode cL_law 128 = .ok (.iconst 2, 1) := by decide +kernel
theorem dL_law_129 : decode cL_law 129 = .ok (.iadd, 1) := by decide +kernel
theorem dL_law_130 : decode cL_law 130 = .ok (.invokestatic 112, 3) := by decide +kernel
theorem dL_law_133 : decode cL_law 133 = .ok (.istore 9, 2) := by decide +kernel
theorem dL_law_135 : decode cL_law 135 = .ok (.iinc 10 1, 3) := by decide +kernel
theorem dL_law_138 : decode cL_law 138 = .ok (.goto (-64), 3) := by decide +kernel
theorem dL_law_141 : decode cL_law 141 = .ok (.bipush 8, 2) := by decide +kernel
theorem dL_law_143 : decode cL_law 143 = .ok (.aload_n 0, 1) := by decide +kernel
theorem dL_law_144 : decode cL_law 144 = .ok (.iconst 0, 1) := by decide +kernel
theorem dL_law_145 : decode cL_law 145 = .ok (.invokestatic 110, 3) := by decide +kernel
theorem dL_law_148 : decode cL_law 148 = .ok (.bipush 50, 2) := by decide +kernel
theorem dL_law_150 : decode cL_law 150 = .ok (.invokestatic 54, 3) := by decide +kernel
theorem dL_law_153 : decode cL_law 153 = .ok (.iadd, 1) := by decide +kernel
theorem dL_law_154 : decode cL_law 154 = .ok (.istore 10, 2) := by decide +kernel
theorem dL_law_156 : decode cL_law 156 = .ok (.iconst 0, 1) := by decide +kernel
theorem dL_law_157 : decode cL_law 157 = .ok (.istore 11, 2) := by decide +kernel
theorem dL_law_159 : decode cL_law 159 = .ok (.iload 11, 2) := by decide +kernel
theorem dL_law_161 : decode cL_law 161 = .ok (.iload 10, 2) := by decide +kernel
theorem dL_law_163 : decode cL_law 163 = .ok (.if_icmp .ge 75, 3) := by decide +kernel
theorem dL_law_166 : decode cL_law 166 = .ok (.iload 9, 2) := by decide +kernel
theorem dL_law_168 : decode cL_law 168 = .ok (.ifCond .eq 70, 3) := by decide +kernel
theorem dL_law_171 : decode cL_law 171 = .ok (.aload_n 1, 1) := by decide +kernel
theorem dL_law_172 : decode cL_law 172 = .ok (.aload_n 2, 1) := by decide +kernel
theorem dL_law_173 : decode cL_law 173 = .ok (.aload_n 3, 1) := by decide +kernel
theorem dL_law_174 : decode cL_law 174 = .ok (.aload 4, 2) := by decide +kernel
theorem dL_law_176 : decode cL_law 176 = .ok (.aload 5, 2) := by decide +kernel
theorem dL_law_178 : decode cL_law 178 = .ok (.aload 6, 2) := by decide +kernel
theorem dL_law_180 : decode cL_law 180 = .ok (.aload 7, 2) := by decide +kernel
theorem dL_law_182 : decode cL_law 182 = .ok (.aload 8, 2) := by decide +kernel
theorem dL_law_184 : decode cL_law 184 = .ok (.aload_n 0, 1) := by decide +kernel
theorem dL_law_185 : decode cL_law 185 = .ok (.bipush 9, 2) := by decide +kernel
theorem dL_law_187 : decode cL_law 187 = .ok (.iload 11, 2) := by decide +kernel
theorem dL_law_189 : decode cL_law 189 = .ok (.iadd, 1) := by decide +kernel
theorem dL_law_190 : decode cL_law 190 = .ok (.invokestatic 110, 3) := by decide +kernel
theorem dL_law_193 : decode cL_law 193 = .ok (.sipush 7919, 3) := by decide +kernel
theorem dL_law_196 : decode cL_law 196 = .ok (.iload 11, 2) := by decide +kernel
theorem dL_law_198 : decode cL_law 198 = .ok (.imul, 1) := by decide +kernel
theorem dL_law_199 : decode cL_law 199 = .ok (.ixor, 1) := by decide +kernel
theorem dL_law_200 : decode cL_law 200 = .ok (.invokestatic 112, 3) := by decide +kernel
theorem dL_law_203 : decode cL_law 203 = .ok (.ifCond .eq 26, 3) := by decide +kernel
theorem dL_law_206 : decode cL_law 206 = .ok (.aload_n 1, 1) := by decide +kernel
theorem dL_law_207 : decode cL_law 207 = .ok (.aload_n 2, 1) := by decide +kernel
theorem dL_law_208 : decode cL_law 208 = .ok (.aload_n 3, 1) := by decide +kernel
theorem dL_law_209 : decode cL_law 209 = .ok (.aload 4, 2) := by decide +kernel
theorem dL_law_211 : decode cL_law 211 = .ok (.aload 5, 2) := by decide +kernel
theorem dL_law_213 : decode cL_law 213 = .ok (.aload 6, 2) := by decide +kernel
theorem dL_law_215 : decode cL_law 215 = .ok (.aload 7, 2) := by decide +kernel
theorem dL_law_217 : decode cL_law 217 = .ok (.aload 8, 2) := by decide +kernel
theorem dL_law_219 : decode cL_law 219 = .ok (.invokestatic 106, 3) := by decide +kernel
theorem dL_law_222 : decode cL_law 222 = .ok (.ifCond .eq 7, 3) := by decide +kernel
theorem dL_law_225 : decode cL_law 225 = .ok (.iconst 1, 1) := by decide +kernel
theorem dL_law_226 : decode cL_law 226 = .ok (.goto 4, 3) := by decide +kernel
theorem dL_law_229 : decode cL_law 229 = .ok (.iconst 0, 1) := by decide +kernel
theorem dL_law_230 : decode cL_law 230 = .ok (.istore 9, 2) := by decide +kernel
theorem dL_law_232 : decode cL_law 232 = .ok (.iinc 11 1, 3) := by decide +kernel
theorem dL_law_235 : decode cL_law 235 = .ok (.goto (-76), 3) := by decide +kernel
theorem dL_law_238 : decode cL_law 238 = .ok (.iload 9, 2) := by decide +kernel
theorem dL_law_240 : decode cL_law 240 = .ok (.ifCond .eq 52, 3) := by decide +kernel
theorem dL_law_243 : decode cL_law 243 = .ok (.aload_n 1, 1) := by decide +kernel
theorem dL_law_244 : decode cL_law 244 = .ok (.bipush 12, 2) := by decide +kernel
theorem dL_law_246 : decode cL_law 246 = .ok (.invokevirtual 102, 3) := by decide +kernel
theorem dL_law_249 : decode cL_law 249 = .ok (.ldc 32, 2) := by decide +kernel
theorem dL_law_251 : decode cL_law 251 = .ok (.if_icmp .ne 41, 3) := by decide +kernel
theorem dL_law_254 : decode cL_law 254 = .ok (.aload_n 1, 1) := by decide +kernel
theorem dL_law_255 : decode cL_law 255 = .ok (.iconst (-1), 1) := by decide +kernel
theorem dL_law_256 : decode cL_law 256 = .ok (.invokevirtual 102, 3) := by decide +kernel
theorem dL_law_259 : decode cL_law 259 = .ok (.ldc 32, 2) := by decide +kernel
theorem dL_law_261 : decode cL_law 261 = .ok (.if_icmp .ne 31, 3) := by decide +kernel
theorem dL_law_264 : decode cL_law 264 = .ok (.aload_n 1, 1) := by decide +kernel
theorem dL_law_265 : decode cL_law 265 = .ok (.bipush 24, 2) := by decide +kernel
theorem dL_law_267 : decode cL_law 267 = .ok (.iconst 0, 1) := by decide +kernel
theorem dL_law_268 : decode cL_law 268 = .ok (.invokevirtual 91, 3) := by decide +kernel
theorem dL_law_271 : decode cL_law 271 = .ok (.ldc 32, 2) := by decide +kernel
theorem dL_law_273 : decode cL_law 273 = .ok (.if_icmp .ne 19, 3) := by decide +kernel
theorem dL_law_276 : decode cL_law 276 = .ok (.aload_n 1, 1) := by decide +kernel
theorem dL_law_277 : decode cL_law 277 = .ok (.iconst 0, 1) := by decide +kernel
theorem dL_law_278 : decode cL_law 278 = .ok (.bipush 8, 2) := by decide +kernel
theorem dL_law_280 : decode cL_law 280 = .ok (.invokevirtual 91, 3) := by decide +kernel
theorem dL_law_283 : decode cL_law 283 = .ok (.ldc 32, 2) := by decide +kernel
theorem dL_law_285 : decode cL_law 285 = .ok (.if_icmp .ne 7, 3) := by decide +kernel
theorem dL_law_288 : decode cL_law 288 = .ok (.iconst 1, 1) := by decide +kernel
theorem dL_law_289 : decode cL_law 289 = .ok (.goto 4, 3) := by decide +kernel
theorem dL_law_292 : decode cL_law 292 = .ok (.iconst 0, 1) := by decide +kernel
theorem dL_law_293 : decode cL_law 293 = .ok (.ireturn, 1) := by decide +kernel

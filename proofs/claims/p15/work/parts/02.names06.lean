theorem dX4_breaks_121 : decode cX4_breaks 121 = .ok (.goto (-119), 3) := by decide +kernel
theorem dX4_breaks_124 : decode cX4_breaks 124 = .ok (.return_, 1) := by decide +kernel
set_option maxRecDepth 20000 in
theorem ggX4_begins_X4_sorts : GoodIn wsX4_begins wsX4_sorts := goodIn_r _ [17, 2, 3, 1, 18, 19, 20, 16, 21, 22, 41, 42, 43, 44, 45, 46, 47, 48, 49, 50, 51, 52, 53, 54, 55, 56, 57, 58, 59, 60, 61, 62, 63, 64, 65, 66, 67, 68, 69, 70, 71, 72, 73, 74, 75, 76, 77, 78, 79] (by decide +kernel) (by decide +kernel)
set_option maxRecDepth 20000 in
theorem gX4_begins_X4_sorts : GoodIn wsX4_begins (wsV RX4 187 RX4 yX4_sorts wsX4_sorts) := goodIn_app (goodIn_of _ (by decide +kernel)) ggX4_begins_X4_sorts
set_option maxRecDepth 20000 in
theorem ggX4_begins_X4_clears : GoodIn wsX4_begins wsX4_clears := goodIn_r _ [26, 27, 28, 29, 30, 31, 32, 33, 41, 42, 43, 44, 45, 46, 47, 48, 49, 50, 51, 52, 53, 54, 55, 56, 57, 58, 59, 60, 61, 62, 63, 64, 65, 66, 67, 68, 69, 70, 71, 72, 73, 74, 75, 76, 77, 78, 79] (by decide +kernel) (by decide +kernel)
set_option maxRecDepth 20000 in
theorem gX4_begins_X4_clears : GoodIn wsX4_begins (wsV RX4 154 RX4 yX4_clears wsX4_clears) := goodIn_app (goodIn_of _ (by decide +kernel)) ggX4_begins_X4_clears
set_option maxRecDepth 20000 in
theorem ggX4_begins_X4_logs : GoodIn wsX4_begins wsX4_logs := goodIn_r _ [37, 38, 39, 40, 9, 41, 42, 43, 44, 45, 46, 47, 48, 49, 50, 51, 52, 53, 54, 55, 56, 57, 58, 59, 60, 61, 62, 63, 64, 65, 66, 67, 68, 69, 70, 71, 72, 73, 74, 75, 76, 77, 78, 79] (by decide +kernel) (by decide +kernel)
set_option maxRecDepth 20000 in
theorem gX4_begins_X4_logs : GoodIn wsX4_begins (wsV RX4 148 RX4 yX4_logs wsX4_logs) := goodIn_app (goodIn_of _ (by decide +kernel)) ggX4_begins_X4_logs
theorem dX4_begins_0 : decode cX4_begins 0 = .ok (.aload_n 0, 1) := by decide +kernel
theorem dX4_begins_1 : decode cX4_begins 1 = .ok (.iconst 0, 1) := by decide +kernel
theorem dX4_begins_2 : decode cX4_begins 2 = .ok (.invokevirtual 187, 3) := by decide +kernel
theorem dX4_begins_5 : decode cX4_begins 5 = .ok (.istore_n 1, 1) := by decide +kernel
theorem dX4_begins_6 : decode cX4_begins 6 = .ok (.iconst 0, 1) := by decide +kernel
theorem dX4_begins_7 : decode cX4_begins 7 = .ok (.istore_n 2, 1) := by decide +kernel
theorem dX4_begins_8 : decode cX4_begins 8 = .ok (.iload_n 2, 1) := by decide +kernel
theorem dX4_begins_9 : decode cX4_begins 9 = .ok (.iload_n 1, 1) := by decide +kernel
theorem dX4_begins_10 : decode cX4_begins 10 = .ok (.if_icmp .ge 198, 3) := by decide +kernel
theorem dX4_begins_13 : decode cX4_begins 13 = .ok (.aload_n 0, 1) := by decide +kernel
theorem dX4_begins_14 : decode cX4_begins 14 = .ok (.getfield 98, 3) := by decide +kernel
theorem dX4_begins_17 : decode cX4_begins 17 = .ok (.iload_n 2, 1) := by decide +kernel
theorem dX4_begins_18 : decode cX4_begins 18 = .ok (.iaload, 1) := by decide +kernel
theorem dX4_begins_19 : decode cX4_begins 19 = .ok (.istore_n 3, 1) := by decide +kernel
theorem dX4_begins_20 : decode cX4_begins 20 = .ok (.iconst 0, 1) := by decide +kernel
theorem dX4_begins_21 : decode cX4_begins 21 = .ok (.istore 4, 2) := by decide +kernel
theorem dX4_begins_23 : decode cX4_begins 23 = .ok (.iconst 0, 1) := by decide +kernel
theorem dX4_begins_24 : decode cX4_begins 24 = .ok (.istore 5, 2) := by decide +kernel
theorem dX4_begins_26 : decode cX4_begins 26 = .ok (.iload 5, 2) := by decide +kernel
theorem dX4_begins_28 : decode cX4_begins 28 = .ok (.aload_n 0, 1) := by decide +kernel
theorem dX4_begins_29 : decode cX4_begins 29 = .ok (.getfield 111, 3) := by decide +kernel
theorem dX4_begins_32 : decode cX4_begins 32 = .ok (.if_icmp .ge 46, 3) := by decide +kernel
theorem dX4_begins_35 : decode cX4_begins 35 = .ok (.iload 4, 2) := by decide +kernel
theorem dX4_begins_37 : decode cX4_begins 37 = .ok (.aload_n 0, 1) := by decide +kernel
theorem dX4_begins_38 : decode cX4_begins 38 = .ok (.getfield 37, 3) := by decide +kernel
theorem dX4_begins_41 : decode cX4_begins 41 = .ok (.iload 5, 2) := by decide +kernel
theorem dX4_begins_43 : decode cX4_begins 43 = .ok (.iaload, 1) := by decide +kernel
theorem dX4_begins_44 : decode cX4_begins 44 = .ok (.iconst 1, 1) := by decide +kernel
theorem dX4_begins_45 : decode cX4_begins 45 = .ok (.if_icmp .ne 23, 3) := by decide +kernel
theorem dX4_begins_48 : decode cX4_begins 48 = .ok (.aload_n 0, 1) := by decide +kernel
theorem dX4_begins_49 : decode cX4_begins 49 = .ok (.getfield 31, 3) := by decide +kernel
theorem dX4_begins_52 : decode cX4_begins 52 = .ok (.iload 5, 2) := by decide +kernel
theorem dX4_begins_54 : decode cX4_begins 54 = .ok (.iaload, 1) := by decide +kernel
theorem dX4_begins_55 : decode cX4_begins 55 = .ok (.aload_n 0, 1) := by decide +kernel
theorem dX4_begins_56 : decode cX4_begins 56 = .ok (.getfield 31, 3) := by decide +kernel
theorem dX4_begins_59 : decode cX4_begins 59 = .ok (.iload_n 3, 1) := by decide +kernel
theorem dX4_begins_60 : decode cX4_begins 60 = .ok (.iaload, 1) := by decide +kernel
theorem dX4_begins_61 : decode cX4_begins 61 = .ok (.if_icmp .ne 7, 3) := by decide +kernel
theorem dX4_begins_64 : decode cX4_begins 64 = .ok (.iconst 1, 1) := by decide +kernel
theorem dX4_begins_65 : decode cX4_begins 65 = .ok (.goto 4, 3) := by decide +kernel
theorem dX4_begins_68 : decode cX4_begins 68 = .ok (.iconst 0, 1) := by decide +kernel
theorem dX4_begins_69 : decode cX4_begins 69 = .ok (.iadd, 1) := by decide +kernel
theorem dX4_begins_70 : decode cX4_begins 70 = .ok (.istore 4, 2) := by decide +kernel
theorem dX4_begins_72 : decode cX4_begins 72 = .ok (.iinc 5 1, 3) := by decide +kernel
theorem dX4_begins_75 : decode cX4_begins 75 = .ok (.goto (-49), 3) := by decide +kernel
theorem dX4_begins_78 : decode cX4_begins 78 = .ok (.iload 4, 2) := by decide +kernel
theorem dX4_begins_80 : decode cX4_begins 80 = .ok (.aload_n 0, 1) := by decide +kernel
theorem dX4_begins_81 : decode cX4_begins 81 = .ok (.getfield 19, 3) := by decide +kernel
theorem dX4_begins_84 : decode cX4_begins 84 = .ok (.aload_n 0, 1) := by decide +kernel
theorem dX4_begins_85 : decode cX4_begins 85 = .ok (.getfield 31, 3) := by decide +kernel
theorem dX4_begins_88 : decode cX4_begins 88 = .ok (.iload_n 3, 1) := by decide +kernel
theorem dX4_begins_89 : decode cX4_begins 89 = .ok (.iaload, 1) := by decide +kernel
theorem dX4_begins_90 : decode cX4_begins 90 = .ok (.iaload, 1) := by decide +kernel
theorem dX4_begins_91 : decode cX4_begins 91 = .ok (.if_icmp .ge 111, 3) := by decide +kernel
theorem dX4_begins_94 : decode cX4_begins 94 = .ok (.aload_n 0, 1) := by decide +kernel
theorem dX4_begins_95 : decode cX4_begins 95 = .ok (.getfield 22, 3) := by decide +kernel
theorem dX4_begins_98 : decode cX4_begins 98 = .ok (.aload_n 0, 1) := by decide +kernel
theorem dX4_begins_99 : decode cX4_begins 99 = .ok (.getfield 28, 3) := by decide +kernel
theorem dX4_begins_102 : decode cX4_begins 102 = .ok (.iload_n 3, 1) := by decide +kernel
theorem dX4_begins_103 : decode cX4_begins 103 = .ok (.iaload, 1) := by decide +kernel
theorem dX4_begins_104 : decode cX4_begins 104 = .ok (.iaload, 1) := by decide +kernel
theorem dX4_begins_105 : decode cX4_begins 105 = .ok (.ifCond .ne 6, 3) := by decide +kernel
theorem dX4_begins_108 : decode cX4_begins 108 = .ok (.goto 94, 3) := by decide +kernel
theorem dX4_begins_111 : decode cX4_begins 111 = .ok (.aload_n 0, 1) := by decide +kernel
theorem dX4_begins_112 : decode cX4_begins 112 = .ok (.iload_n 3, 1) := by decide +kernel
theorem dX4_begins_113 : decode cX4_begins 113 = .ok (.invokevirtual 154, 3) := by decide +kernel
theorem dX4_begins_116 : decode cX4_begins 116 = .ok (.aload_n 0, 1) := by decide +kernel
theorem dX4_begins_117 : decode cX4_begins 117 = .ok (.getfield 37, 3) := by decide +kernel
theorem dX4_begins_120 : decode cX4_begins 120 = .ok (.iload_n 3, 1) := by decide +kernel
theorem dX4_begins_121 : decode cX4_begins 121 = .ok (.iconst 1, 1) := by decide +kernel
theorem dX4_begins_122 : decode cX4_begins 122 = .ok (.iastore, 1) := by decide +kernel
theorem dX4_begins_123 : decode cX4_begins 123 = .ok (.aload_n 0, 1) := by decide +kernel
theorem dX4_begins_124 : decode cX4_begins 124 = .ok (.getfield 65, 3) := by decide +kernel
theorem dX4_begins_127 : decode cX4_begins 127 = .ok (.iload_n 3, 1) := by decide +kernel
theorem dX4_begins_128 : decode cX4_begins 128 = .ok (.aload_n 0, 1) := by decide +kernel
theorem dX4_begins_129 : decode cX4_begins 129 = .ok (.getfield 130, 3) := by decide +kernel
theorem dX4_begins_132 : decode cX4_begins 132 = .ok (.iastore, 1) := by decide +kernel
theorem dX4_begins_133 : decode cX4_begins 133 = .ok (.aload_n 0, 1) := by decide +kernel
theorem dX4_begins_134 : decode cX4_begins 134 = .ok (.getfield 40, 3) := by decide +kernel
theorem dX4_begins_137 : decode cX4_begins 137 = .ok (.iload_n 3, 1) := by decide +kernel
theorem dX4_begins_138 : decode cX4_begins 138 = .ok (.aload_n 0, 1) := by decide +kernel
theorem dX4_begins_139 : decode cX4_begins 139 = .ok (.getfield 22, 3) := by decide +kernel
theorem dX4_begins_142 : decode cX4_begins 142 = .ok (.aload_n 0, 1) := by decide +kernel
theorem dX4_begins_143 : decode cX4_begins 143 = .ok (.getfield 28, 3) := by decide +kernel
theorem dX4_begins_146 : decode cX4_begins 146 = .ok (.iload_n 3, 1) := by decide +kernel
theorem dX4_begins_147 : decode cX4_begins 147 = .ok (.iaload, 1) := by decide +kernel
theorem dX4_begins_148 : decode cX4_begins 148 = .ok (.iaload, 1) := by decide +kernel
theorem dX4_begins_149 : decode cX4_begins 149 = .ok (.iastore, 1) := by decide +kernel
theorem dX4_begins_150 : decode cX4_begins 150 = .ok (.iconst 0, 1) := by decide +kernel
theorem dX4_begins_151 : decode cX4_begins 151 = .ok (.istore 5, 2) := by decide +kernel
theorem dX4_begins_153 : decode cX4_begins 153 = .ok (.iload 5, 2) := by decide +kernel
theorem dX4_begins_155 : decode cX4_begins 155 = .ok (.bipush 12, 2) := by decide +kernel
theorem dX4_begins_157 : decode cX4_begins 157 = .ok (.if_icmp .ge 38, 3) := by decide +kernel
theorem dX4_begins_160 : decode cX4_begins 160 = .ok (.aload_n 0, 1) := by decide +kernel
theorem dX4_begins_161 : decode cX4_begins 161 = .ok (.getfield 43, 3) := by decide +kernel
theorem dX4_begins_164 : decode cX4_begins 164 = .ok (.bipush 12, 2) := by decide +kernel
theorem dX4_begins_166 : decode cX4_begins 166 = .ok (.iload_n 3, 1) := by decide +kernel
theorem dX4_begins_167 : decode cX4_begins 167 = .ok (.imul, 1) := by decide +kernel
theorem dX4_begins_168 : decode cX4_begins 168 = .ok (.iload 5, 2) := by decide +kernel
theorem dX4_begins_170 : decode cX4_begins 170 = .ok (.iadd, 1) := by decide +kernel
theorem dX4_begins_171 : decode cX4_begins 171 = .ok (.aload_n 0, 1) := by decide +kernel
theorem dX4_begins_172 : decode cX4_begins 172 = .ok (.getfield 25, 3) := by decide +kernel
theorem dX4_begins_175 : decode cX4_begins 175 = .ok (.bipush 12, 2) := by decide +kernel
theorem dX4_begins_177 : decode cX4_begins 177 = .ok (.aload_n 0, 1) := by decide +kernel
theorem dX4_begins_178 : decode cX4_begins 178 = .ok (.getfield 28, 3) := by decide +kernel
theorem dX4_begins_181 : decode cX4_begins 181 = .ok (.iload_n 3, 1) := by decide +kernel
theorem dX4_begins_182 : decode cX4_begins 182 = .ok (.iaload, 1) := by decide +kernel
theorem dX4_begins_183 : decode cX4_begins 183 = .ok (.imul, 1) := by decide +kernel
theorem dX4_begins_184 : decode cX4_begins 184 = .ok (.iload 5, 2) := by decide +kernel
theorem dX4_begins_186 : decode cX4_begins 186 = .ok (.iadd, 1) := by decide +kernel
theorem dX4_begins_187 : decode cX4_begins 187 = .ok (.iaload, 1) := by decide +kernel
theorem dX4_begins_188 : decode cX4_begins 188 = .ok (.iastore, 1) := by decide +kernel
theorem dX4_begins_189 : decode cX4_begins 189 = .ok (.iinc 5 1, 3) := by decide +kernel
theorem dX4_begins_192 : decode cX4_begins 192 = .ok (.goto (-39), 3) := by decide +kernel
theorem dX4_begins_195 : decode cX4_begins 195 = .ok (.aload_n 0, 1) := by decide +kernel
theorem dX4_begins_196 : decode cX4_begins 196 = .ok (.iconst 0, 1) := by decide +kernel
theorem dX4_begins_197 : decode cX4_begins 197 = .ok (.iload_n 3, 1) := by decide +kernel
theorem dX4_begins_198 : decode cX4_begins 198 = .ok (.iconst (-1), 1) := by decide +kernel
theorem dX4_begins_199 : decode cX4_begins 199 = .ok (.invokevirtual 148, 3) := by decide +kernel
theorem dX4_begins_202 : decode cX4_begins 202 = .ok (.iinc 2 1, 3) := by decide +kernel
theorem dX4_begins_205 : decode cX4_begins 205 = .ok (.goto (-197), 3) := by decide +kernel
theorem dX4_begins_208 : decode cX4_begins 208 = .ok (.return_, 1) := by decide +kernel
theorem dX4_keeps_0 : decode cX4_keeps 0 = .ok (.aload_n 0, 1) := by decide +kernel
theorem dX4_keeps_1 : decode cX4_keeps 1 = .ok (.aload_n 0, 1) := by decide +kernel
theorem dX4_keeps_2 : decode cX4_keeps 2 = .ok (.getfield 127, 3) := by decide +kernel
theorem dX4_keeps_5 : decode cX4_keeps 5 = .ok (.putfield 190, 3) := by decide +kernel
theorem dX4_keeps_8 : decode cX4_keeps 8 = .ok (.iconst 0, 1) := by decide +kernel
theorem dX4_keeps_9 : decode cX4_keeps 9 = .ok (.istore_n 1, 1) := by decide +kernel
theorem dX4_keeps_10 : decode cX4_keeps 10 = .ok (.iload_n 1, 1) := by decide +kernel
theorem dX4_keeps_11 : decode cX4_keeps 11 = .ok (.aload_n 0, 1) := by decide +kernel
theorem dX4_keeps_12 : decode cX4_keeps 12 = .ok (.getfield 111, 3) := by decide +kernel
theorem dX4_keeps_15 : decode cX4_keeps 15 = .ok (.if_icmp .ge 26, 3) := by decide +kernel
theorem dX4_keeps_18 : decode cX4_keeps 18 = .ok (.aload_n 0, 1) := by decide +kernel
theorem dX4_keeps_19 : decode cX4_keeps 19 = .ok (.getfield 37, 3) := by decide +kernel
theorem dX4_keeps_22 : decode cX4_keeps 22 = .ok (.iload_n 1, 1) := by decide +kernel
theorem dX4_keeps_23 : decode cX4_keeps 23 = .ok (.iaload, 1) := by decide +kernel
theorem dX4_keeps_24 : decode cX4_keeps 24 = .ok (.iconst 2, 1) := by decide +kernel
theorem dX4_keeps_25 : decode cX4_keeps 25 = .ok (.if_icmp .ne 10, 3) := by decide +kernel
theorem dX4_keeps_28 : decode cX4_keeps 28 = .ok (.aload_n 0, 1) := by decide +kernel
theorem dX4_keeps_29 : decode cX4_keeps 29 = .ok (.getfield 37, 3) := by decide +kernel
theorem dX4_keeps_32 : decode cX4_keeps 32 = .ok (.iload_n 1, 1) := by decide +kernel
theorem dX4_keeps_33 : decode cX4_keeps 33 = .ok (.iconst 3, 1) := by decide +kernel
theorem dX4_keeps_34 : decode cX4_keeps 34 = .ok (.iastore, 1) := by decide +kernel
theorem dX4_keeps_35 : decode cX4_keeps 35 = .ok (.iinc 1 1, 3) := by decide +kernel
theorem dX4_keeps_38 : decode cX4_keeps 38 = .ok (.goto (-28), 3) := by decide +kernel
theorem dX4_keeps_41 : decode cX4_keeps 41 = .ok (.return_, 1) := by decide +kernel
set_option maxRecDepth 20000 in
theorem ggX4_go_X4_in : GoodIn wsX4_go wsX4_in := goodIn_r _ [6] (by decide +kernel) (by decide +kernel)
set_option maxRecDepth 20000 in
theorem gX4_go_X4_in : GoodIn wsX4_go (va_wsS RX4 107 yX4_in wsX4_in) := goodIn_app (goodIn_of _ (by decide +kernel)) ggX4_go_X4_in
set_option maxRecDepth 20000 in
theorem ggX4_go_X4_sorts : GoodIn wsX4_go wsX4_sorts := goodIn_r _ [10, 11, 12, 2, 13, 14, 15, 5, 16, 17, 124, 125, 126, 127, 128, 129, 130, 131, 132, 133, 134, 135, 136, 137, 138, 139, 140, 141, 142, 143, 144, 145, 146, 147, 148, 149, 150, 151, 152, 153, 154, 155, 156, 157, 158, 159, 160, 161, 162] (by decide +kernel) (by decide +kernel)
set_option maxRecDepth 20000 in
theorem gX4_go_X4_sorts : GoodIn wsX4_go (wsV RX4 187 RX4 yX4_sorts wsX4_sorts) := goodIn_app (goodIn_of _ (by decide +kernel)) ggX4_go_X4_sorts
set_option maxRecDepth 20000 in
theorem ggX4_go_X4_does : GoodIn wsX4_go wsX4_does := goodIn_r _ [21, 22, 23, 24, 25, 26, 27, 28, 29, 30, 31, 12, 32, 33, 34, 35, 36, 5, 37, 38, 39, 40, 41, 42, 43, 44, 45, 46, 47, 11, 48, 49, 50, 51, 52, 53, 54, 55, 56, 57, 58, 59, 60, 61, 62, 63, 64, 65, 66, 67, 68, 1, 3, 4, 6, 69, 70, 71, 72, 73, 74, 75, 76, 77, 78, 79, 80, 17, 81, 82, 83, 84, 85, 86, 87, 88, 89, 90, 91, 92, 93, 94, 95, 124, 125, 126, 127, 128, 129, 130, 131, 132, 133, 134, 135, 136, 137, 138, 139, 140, 141, 142, 143, 144, 145, 146, 147, 148, 149, 150, 151, 152, 153, 154, 155, 156, 157, 158, 159, 160, 161, 162] (by decide +kernel) (by decide +kernel)
set_option maxRecDepth 20000 in
theorem gX4_go_X4_does : GoodIn wsX4_go (wsV RX4 193 RX4 yX4_does wsX4_does) := goodIn_app (goodIn_of _ (by decide +kernel)) ggX4_go_X4_does
set_option maxRecDepth 20000 in
theorem ggX4_go_X4_breaks : GoodIn wsX4_go wsX4_breaks := goodIn_r _ [99, 11, 12, 22, 95, 100, 101, 102, 103, 104, 5, 105, 106, 107, 108, 109, 110, 111, 34, 35, 36, 37, 38, 32, 48, 49, 50, 51, 24, 62, 63, 64, 65, 66, 67, 68, 1, 69, 70, 71, 72, 26, 27, 29, 23, 124, 125, 126, 127, 128, 129, 130, 131, 132, 133, 134, 135, 136, 137, 138, 139, 140, 141, 142, 143, 144, 145, 146, 147, 148, 149, 150, 151, 152, 153, 154, 155, 156, 157, 158, 159, 160, 161, 162] (by decide +kernel) (by decide +kernel)
set_option maxRecDepth 20000 in
theorem gX4_go_X4_breaks : GoodIn wsX4_go (wsV RX4 196 RX4 yX4_breaks wsX4_breaks) := goodIn_app (goodIn_of _ (by decide +kernel)) ggX4_go_X4_breaks
set_option maxRecDepth 20000 in
theorem ggX4_go_X4_begins : GoodIn wsX4_go wsX4_begins := goodIn_r _ [115, 2, 11, 12, 80, 116, 117, 93, 95, 1, 33, 38, 118, 7, 8, 9, 5, 10, 13, 14, 15, 16, 17, 69, 70, 71, 72, 24, 26, 27, 29, 23, 32, 22, 62, 63, 64, 65, 66, 67, 68, 124, 125, 126, 127, 128, 129, 130, 131, 132, 133, 134, 135, 136, 137, 138, 139, 140, 141, 142, 143, 144, 145, 146, 147, 148, 149, 150, 151, 152, 153, 154, 155, 156, 157, 158, 159, 160, 161, 162] (by decide +kernel) (by decide +kernel)
set_option maxRecDepth 20000 in
theorem gX4_go_X4_begins : GoodIn wsX4_go (wsV RX4 199 RX4 yX4_begins wsX4_begins) := goodIn_app (goodIn_of _ (by decide +kernel)) ggX4_go_X4_begins
set_option maxRecDepth 20000 in
theorem ggX4_go_X4_keeps : GoodIn wsX4_go wsX4_keeps := goodIn_r _ [122, 66, 123, 11, 12, 124, 125, 126, 127, 128, 129, 130, 131, 132, 133, 134, 135, 136, 137, 138, 139, 140, 141, 142, 143, 144, 145, 146, 147, 148, 149, 150, 151, 152, 153, 154, 155, 156, 157, 158, 159, 160, 161, 162] (by decide +kernel) (by decide +kernel)
set_option maxRecDepth 20000 in
theorem gX4_go_X4_keeps : GoodIn wsX4_go (wsV RX4 202 RX4 yX4_keeps wsX4_keeps) := goodIn_app (goodIn_of _ (by decide +kernel)) ggX4_go_X4_keeps
theorem dX4_go_0 : decode cX4_go 0 = .ok (.iload_n 1, 1) := by decide +kernel
theorem dX4_go_1 : decode cX4_go 1 = .ok (.iconst 0, 1) := by decide +kernel
theorem dX4_go_2 : decode cX4_go 2 = .ok (.sipush 200, 3) := by decide +kernel
theorem dX4_go_5 : decode cX4_go 5 = .ok (.invokestatic 107, 3) := by decide +kernel
theorem dX4_go_8 : decode cX4_go 8 = .ok (.ifCond .ne 5, 3) := by decide +kernel
theorem dX4_go_11 : decode cX4_go 11 = .ok (.iconst (-1), 1) := by decide +kernel
theorem dX4_go_12 : decode cX4_go 12 = .ok (.ireturn, 1) := by decide +kernel
theorem dX4_go_13 : decode cX4_go 13 = .ok (.iconst 0, 1) := by decide +kernel
theorem dX4_go_14 : decode cX4_go 14 = .ok (.istore_n 2, 1) := by decide +kernel
theorem dX4_go_15 : decode cX4_go 15 = .ok (.iload_n 2, 1) := by decide +kernel
theorem dX4_go_16 : decode cX4_go 16 = .ok (.iload_n 1, 1) := by decide +kernel
theorem dX4_go_17 : decode cX4_go 17 = .ok (.if_icmp .ge 83, 3) := by decide +kernel
theorem dX4_go_20 : decode cX4_go 20 = .ok (.aload_n 0, 1) := by decide +kernel
theorem dX4_go_21 : decode cX4_go 21 = .ok (.getfield 130, 3) := by decide +kernel
theorem dX4_go_24 : decode cX4_go 24 = .ok (.sipush 5000, 3) := by decide +kernel
theorem dX4_go_27 : decode cX4_go 27 = .ok (.if_icmp .ge 73, 3) := by decide +kernel
theorem dX4_go_30 : decode cX4_go 30 = .ok (.aload_n 0, 1) := by decide +kernel
theorem dX4_go_31 : decode cX4_go 31 = .ok (.iconst 1, 1) := by decide +kernel
theorem dX4_go_32 : decode cX4_go 32 = .ok (.invokevirtual 187, 3) := by decide +kernel
theorem dX4_go_35 : decode cX4_go 35 = .ok (.istore_n 3, 1) := by decide +kernel
theorem dX4_go_36 : decode cX4_go 36 = .ok (.iconst 0, 1) := by decide +kernel
theorem dX4_go_37 : decode cX4_go 37 = .ok (.istore 4, 2) := by decide +kernel
theorem dX4_go_39 : decode cX4_go 39 = .ok (.iload 4, 2) := by decide +kernel
theorem dX4_go_41 : decode cX4_go 41 = .ok (.iload_n 3, 1) := by decide +kernel
theorem dX4_go_42 : decode cX4_go 42 = .ok (.if_icmp .ge 20, 3) := by decide +kernel
theorem dX4_go_45 : decode cX4_go 45 = .ok (.aload_n 0, 1) := by decide +kernel
theorem dX4_go_46 : decode cX4_go 46 = .ok (.aload_n 0, 1) := by decide +kernel
theorem dX4_go_47 : decode cX4_go 47 = .ok (.getfield 98, 3) := by decide +kernel
theorem dX4_go_50 : decode cX4_go 50 = .ok (.iload 4, 2) := by decide +kernel
theorem dX4_go_52 : decode cX4_go 52 = .ok (.iaload, 1) := by decide +kernel
theorem dX4_go_53 : decode cX4_go 53 = .ok (.invokevirtual 193, 3) := by decide +kernel
theorem dX4_go_56 : decode cX4_go 56 = .ok (.iinc 4 1, 3) := by decide +kernel
theorem dX4_go_59 : decode cX4_go 59 = .ok (.goto (-20), 3) := by decide +kernel
theorem dX4_go_62 : decode cX4_go 62 = .ok (.aload_n 0, 1) := by decide +kernel
theorem dX4_go_63 : decode cX4_go 63 = .ok (.invokevirtual 196, 3) := by decide +kernel
theorem dX4_go_66 : decode cX4_go 66 = .ok (.aload_n 0, 1) := by decide +kernel
theorem dX4_go_67 : decode cX4_go 67 = .ok (.invokevirtual 199, 3) := by decide +kernel
theorem dX4_go_70 : decode cX4_go 70 = .ok (.aload_n 0, 1) := by decide +kernel
theorem dX4_go_71 : decode cX4_go 71 = .ok (.getfield 130, 3) := by decide +kernel
theorem dX4_go_74 : decode cX4_go 74 = .ok (.iconst 4, 1) := by decide +kernel
theorem dX4_go_75 : decode cX4_go 75 = .ok (.irem, 1) := by decide +kernel
theorem dX4_go_76 : decode cX4_go 76 = .ok (.iconst 3, 1) := by decide +kernel
theorem dX4_go_77 : decode cX4_go 77 = .ok (.if_icmp .ne 7, 3) := by decide +kernel
theorem dX4_go_80 : decode cX4_go 80 = .ok (.aload_n 0, 1) := by decide +kernel
theorem dX4_go_81 : decode cX4_go 81 = .ok (.invokevirtual 202, 3) := by decide +kernel
theorem dX4_go_84 : decode cX4_go 84 = .ok (.aload_n 0, 1) := by decide +kernel
theorem dX4_go_85 : decode cX4_go 85 = .ok (.dup, 1) := by decide +kernel
theorem dX4_go_86 : decode cX4_go 86 = .ok (.getfield 130, 3) := by decide +kernel
theorem dX4_go_89 : decode cX4_go 89 = .ok (.iconst 1, 1) := by decide +kernel
theorem dX4_go_90 : decode cX4_go 90 = .ok (.iadd, 1) := by decide +kernel
theorem dX4_go_91 : decode cX4_go 91 = .ok (.putfield 130, 3) := by decide +kernel
theorem dX4_go_94 : decode cX4_go 94 = .ok (.iinc 2 1, 3) := by decide +kernel
theorem dX4_go_97 : decode cX4_go 97 = .ok (.goto (-82), 3) := by decide +kernel
theorem dX4_go_100 : decode cX4_go 100 = .ok (.aload_n 0, 1) := by decide +kernel
theorem dX4_go_101 : decode cX4_go 101 = .ok (.getfield 130, 3) := by decide +kernel
theorem dX4_go_104 : decode cX4_go 104 = .ok (.ireturn, 1) := by decide +kernel
set_option maxRecDepth 20000 in
theorem ggX4_fall_X4_clears : GoodIn wsX4_fall wsX4_clears := goodIn_r _ [20, 21, 22, 23, 24, 25, 26, 27, 37, 38, 39, 40, 41, 42, 43, 44, 45, 46, 47, 48, 49, 50, 51, 52, 53, 54, 55, 56, 57, 58, 59, 60, 61, 62, 63, 64, 65, 66, 67, 68, 69, 70, 71, 72, 73, 74, 75] (by decide +kernel) (by decide +kernel)
set_option maxRecDepth 20000 in
theorem gX4_fall_X4_clears : GoodIn wsX4_fall (wsV RX4 154 RX4 yX4_clears wsX4_clears) := goodIn_app (goodIn_of _ (by decide +kernel)) ggX4_fall_X4_clears
set_option maxRecDepth 20000 in
theorem ggX4_fall_X4_gets : GoodIn wsX4_fall wsX4_gets := goodIn_r _ [31, 21, 12, 32, 13, 22, 37, 38, 39, 40, 41, 42, 43, 44, 45, 46, 47, 48, 49, 50, 51, 52, 53, 54, 55, 56, 57, 58, 59, 60, 61, 62, 63, 64, 65, 66, 67, 68, 69, 70, 71, 72, 73, 74, 75] (by decide +kernel) (by decide +kernel)
set_option maxRecDepth 20000 in
theorem gX4_fall_X4_gets : GoodIn wsX4_fall (wsV RX4 171 RX4 yX4_gets wsX4_gets) := goodIn_app (goodIn_of _ (by decide +kernel)) ggX4_fall_X4_gets
set_option maxRecDepth 20000 in
theorem ggX4_fall_X4_keeps : GoodIn wsX4_fall wsX4_keeps := goodIn_r _ [36, 1, 2, 3, 5, 37, 38, 39, 40, 41, 42, 43, 44, 45, 46, 47, 48, 49, 50, 51, 52, 53, 54, 55, 56, 57, 58, 59, 60, 61, 62, 63, 64, 65, 66, 67, 68, 69, 70, 71, 72, 73, 74, 75] (by decide +kernel) (by decide +kernel)
set_option maxRecDepth 20000 in
theorem gX4_fall_X4_keeps : GoodIn wsX4_fall (wsV RX4 202 RX4 yX4_keeps wsX4_keeps) := goodIn_app (goodIn_of _ (by decide +kernel)) ggX4_fall_X4_keeps
theorem dX4_fall_0 : decode cX4_fall 0 = .ok (.iload_n 1, 1) := by decide +kernel
theorem dX4_fall_1 : decode cX4_fall 1 = .ok (.ifCond .lt 16, 3) := by decide +kernel
theorem dX4_fall_4 : decode cX4_fall 4 = .ok (.iload_n 1, 1) := by decide +kernel
theorem dX4_fall_5 : decode cX4_fall 5 = .ok (.aload_n 0, 1) := by decide +kernel
theorem dX4_fall_6 : decode cX4_fall 6 = .ok (.getfield 127, 3) := by decide +kernel
theorem dX4_fall_9 : decode cX4_fall 9 = .ok (.aload_n 0, 1) := by decide +kernel
theorem dX4_fall_10 : decode cX4_fall 10 = .ok (.getfield 190, 3) := by decide +kernel
theorem dX4_fall_13 : decode cX4_fall 13 = .ok (.isub, 1) := by decide +kernel
theorem dX4_fall_14 : decode cX4_fall 14 = .ok (.if_icmp .le 5, 3) := by decide +kernel
theorem dX4_fall_17 : decode cX4_fall 17 = .ok (.iconst (-1), 1) := by decide +kernel
theorem dX4_fall_18 : decode cX4_fall 18 = .ok (.ireturn, 1) := by decide +kernel
theorem dX4_fall_19 : decode cX4_fall 19 = .ok (.aload_n 0, 1) := by decide +kernel
theorem dX4_fall_20 : decode cX4_fall 20 = .ok (.getfield 190, 3) := by decide +kernel
theorem dX4_fall_23 : decode cX4_fall 23 = .ok (.iload_n 1, 1) := by decide +kernel
theorem dX4_fall_24 : decode cX4_fall 24 = .ok (.iadd, 1) := by decide +kernel
theorem dX4_fall_25 : decode cX4_fall 25 = .ok (.istore_n 2, 1) := by decide +kernel
theorem dX4_fall_26 : decode cX4_fall 26 = .ok (.iconst 0, 1) := by decide +kernel
theorem dX4_fall_27 : decode cX4_fall 27 = .ok (.istore_n 3, 1) := by decide +kernel
theorem dX4_fall_28 : decode cX4_fall 28 = .ok (.iconst 0, 1) := by decide +kernel
theorem dX4_fall_29 : decode cX4_fall 29 = .ok (.istore 4, 2) := by decide +kernel
theorem dX4_fall_31 : decode cX4_fall 31 = .ok (.iload 4, 2) := by decide +kernel
theorem dX4_fall_33 : decode cX4_fall 33 = .ok (.aload_n 0, 1) := by decide +kernel
theorem dX4_fall_34 : decode cX4_fall 34 = .ok (.getfield 111, 3) := by decide +kernel
theorem dX4_fall_37 : decode cX4_fall 37 = .ok (.if_icmp .ge 53, 3) := by decide +kernel
theorem dX4_fall_40 : decode cX4_fall 40 = .ok (.aload_n 0, 1) := by decide +kernel
theorem dX4_fall_41 : decode cX4_fall 41 = .ok (.getfield 71, 3) := by decide +kernel
theorem dX4_fall_44 : decode cX4_fall 44 = .ok (.iload 4, 2) := by decide +kernel
theorem dX4_fall_46 : decode cX4_fall 46 = .ok (.iconst 0, 1) := by decide +kernel
theorem dX4_fall_47 : decode cX4_fall 47 = .ok (.bastore, 1) := by decide +kernel
theorem dX4_fall_48 : decode cX4_fall 48 = .ok (.aload_n 0, 1) := by decide +kernel
theorem dX4_fall_49 : decode cX4_fall 49 = .ok (.getfield 37, 3) := by decide +kernel
theorem dX4_fall_52 : decode cX4_fall 52 = .ok (.iload 4, 2) := by decide +kernel
theorem dX4_fall_54 : decode cX4_fall 54 = .ok (.iaload, 1) := by decide +kernel
theorem dX4_fall_55 : decode cX4_fall 55 = .ok (.iconst 1, 1) := by decide +kernel
theorem dX4_fall_56 : decode cX4_fall 56 = .ok (.if_icmp .eq 6, 3) := by decide +kernel
theorem dX4_fall_59 : decode cX4_fall 59 = .ok (.goto 25, 3) := by decide +kernel
theorem dX4_fall_62 : decode cX4_fall 62 = .ok (.aload_n 0, 1) := by decide +kernel
theorem dX4_fall_63 : decode cX4_fall 63 = .ok (.iload 4, 2) := by decide +kernel
theorem dX4_fall_65 : decode cX4_fall 65 = .ok (.invokevirtual 154, 3) := by decide +kernel
theorem dX4_fall_68 : decode cX4_fall 68 = .ok (.aload_n 0, 1) := by decide +kernel
theorem dX4_fall_69 : decode cX4_fall 69 = .ok (.getfield 37, 3) := by decide +kernel
theorem dX4_fall_72 : decode cX4_fall 72 = .ok (.iload 4, 2) := by decide +kernel
theorem dX4_fall_74 : decode cX4_fall 74 = .ok (.iconst 0, 1) := by decide +kernel
theorem dX4_fall_75 : decode cX4_fall 75 = .ok (.iastore, 1) := by decide +kernel
theorem dX4_fall_76 : decode cX4_fall 76 = .ok (.aload_n 0, 1) := by decide +kernel
theorem dX4_fall_77 : decode cX4_fall 77 = .ok (.getfield 71, 3) := by decide +kernel
theorem dX4_fall_80 : decode cX4_fall 80 = .ok (.iload 4, 2) := by decide +kernel
theorem dX4_fall_82 : decode cX4_fall 82 = .ok (.iconst 1, 1) := by decide +kernel
theorem dX4_fall_83 : decode cX4_fall 83 = .ok (.bastore, 1) := by decide +kernel
theorem dX4_fall_84 : decode cX4_fall 84 = .ok (.iinc 4 1, 3) := by decide +kernel
theorem dX4_fall_87 : decode cX4_fall 87 = .ok (.goto (-56), 3) := by decide +kernel
theorem dX4_fall_90 : decode cX4_fall 90 = .ok (.iload_n 2, 1) := by decide +kernel
theorem dX4_fall_91 : decode cX4_fall 91 = .ok (.istore 4, 2) := by decide +kernel
theorem dX4_fall_93 : decode cX4_fall 93 = .ok (.iload 4, 2) := by decide +kernel
theorem dX4_fall_95 : decode cX4_fall 95 = .ok (.aload_n 0, 1) := by decide +kernel
theorem dX4_fall_96 : decode cX4_fall 96 = .ok (.getfield 127, 3) := by decide +kernel
theorem dX4_fall_99 : decode cX4_fall 99 = .ok (.if_icmp .ge 184, 3) := by decide +kernel
theorem dX4_fall_102 : decode cX4_fall 102 = .ok (.aload_n 0, 1) := by decide +kernel
theorem dX4_fall_103 : decode cX4_fall 103 = .ok (.getfield 95, 3) := by decide +kernel
theorem dX4_fall_106 : decode cX4_fall 106 = .ok (.iconst 4, 1) := by decide +kernel
theorem dX4_fall_107 : decode cX4_fall 107 = .ok (.iload 4, 2) := by decide +kernel
theorem dX4_fall_109 : decode cX4_fall 109 = .ok (.imul, 1) := by decide +kernel
theorem dX4_fall_110 : decode cX4_fall 110 = .ok (.iconst 1, 1) := by decide +kernel
theorem dX4_fall_111 : decode cX4_fall 111 = .ok (.iadd, 1) := by decide +kernel
theorem dX4_fall_112 : decode cX4_fall 112 = .ok (.iaload, 1) := by decide +kernel
theorem dX4_fall_113 : decode cX4_fall 113 = .ok (.istore 5, 2) := by decide +kernel
theorem dX4_fall_115 : decode cX4_fall 115 = .ok (.aload_n 0, 1) := by decide +kernel
theorem dX4_fall_116 : decode cX4_fall 116 = .ok (.getfield 95, 3) := by decide +kernel
theorem dX4_fall_119 : decode cX4_fall 119 = .ok (.iconst 4, 1) := by decide +kernel
theorem dX4_fall_120 : decode cX4_fall 120 = .ok (.iload 4, 2) := by decide +kernel
theorem dX4_fall_122 : decode cX4_fall 122 = .ok (.imul, 1) := by decide +kernel
theorem dX4_fall_123 : decode cX4_fall 123 = .ok (.iaload, 1) := by decide +kernel
theorem dX4_fall_124 : decode cX4_fall 124 = .ok (.iconst 2, 1) := by decide +kernel
theorem dX4_fall_125 : decode cX4_fall 125 = .ok (.if_icmp .ne 24, 3) := by decide +kernel
theorem dX4_fall_128 : decode cX4_fall 128 = .ok (.iinc 3 1, 3) := by decide +kernel
theorem dX4_fall_131 : decode cX4_fall 131 = .ok (.aload_n 0, 1) := by decide +kernel
theorem dX4_fall_132 : decode cX4_fall 132 = .ok (.dup, 1) := by decide +kernel
theorem dX4_fall_133 : decode cX4_fall 133 = .ok (.getfield 168, 3) := by decide +kernel
theorem dX4_fall_136 : decode cX4_fall 136 = .ok (.iconst 1, 1) := by decide +kernel
theorem dX4_fall_137 : decode cX4_fall 137 = .ok (.isub, 1) := by decide +kernel
theorem dX4_fall_138 : decode cX4_fall 138 = .ok (.putfield 168, 3) := by decide +kernel
theorem dX4_fall_141 : decode cX4_fall 141 = .ok (.aload_n 0, 1) := by decide +kernel
theorem dX4_fall_142 : decode cX4_fall 142 = .ok (.getfield 71, 3) := by decide +kernel
theorem dX4_fall_145 : decode cX4_fall 145 = .ok (.iload 5, 2) := by decide +kernel
theorem dX4_fall_147 : decode cX4_fall 147 = .ok (.iconst 1, 1) := by decide +kernel
theorem dX4_fall_148 : decode cX4_fall 148 = .ok (.bastore, 1) := by decide +kernel
theorem dX4_fall_149 : decode cX4_fall 149 = .ok (.aload_n 0, 1) := by decide +kernel
theorem dX4_fall_150 : decode cX4_fall 150 = .ok (.getfield 95, 3) := by decide +kernel
theorem dX4_fall_153 : decode cX4_fall 153 = .ok (.iconst 4, 1) := by decide +kernel
theorem dX4_fall_154 : decode cX4_fall 154 = .ok (.iload 4, 2) := by decide +kernel
theorem dX4_fall_156 : decode cX4_fall 156 = .ok (.imul, 1) := by decide +kernel
theorem dX4_fall_157 : decode cX4_fall 157 = .ok (.iaload, 1) := by decide +kernel
theorem dX4_fall_158 : decode cX4_fall 158 = .ok (.iconst 2, 1) := by decide +kernel
theorem dX4_fall_159 : decode cX4_fall 159 = .ok (.if_icmp .eq 19, 3) := by decide +kernel
theorem dX4_fall_162 : decode cX4_fall 162 = .ok (.aload_n 0, 1) := by decide +kernel
theorem dX4_fall_163 : decode cX4_fall 163 = .ok (.getfield 95, 3) := by decide +kernel
theorem dX4_fall_166 : decode cX4_fall 166 = .ok (.iconst 4, 1) := by decide +kernel
theorem dX4_fall_167 : decode cX4_fall 167 = .ok (.iload 4, 2) := by decide +kernel
theorem dX4_fall_169 : decode cX4_fall 169 = .ok (.imul, 1) := by decide +kernel
theorem dX4_fall_170 : decode cX4_fall 170 = .ok (.iaload, 1) := by decide +kernel
theorem dX4_fall_171 : decode cX4_fall 171 = .ok (.iconst 3, 1) := by decide +kernel
theorem dX4_fall_172 : decode cX4_fall 172 = .ok (.if_icmp .eq 6, 3) := by decide +kernel
theorem dX4_fall_175 : decode cX4_fall 175 = .ok (.goto 102, 3) := by decide +kernel
theorem dX4_fall_178 : decode cX4_fall 178 = .ok (.aload_n 0, 1) := by decide +kernel
theorem dX4_fall_179 : decode cX4_fall 179 = .ok (.getfield 95, 3) := by decide +kernel
theorem dX4_fall_182 : decode cX4_fall 182 = .ok (.iconst 4, 1) := by decide +kernel
theorem dX4_fall_183 : decode cX4_fall 183 = .ok (.iload 4, 2) := by decide +kernel
theorem dX4_fall_185 : decode cX4_fall 185 = .ok (.imul, 1) := by decide +kernel
theorem dX4_fall_186 : decode cX4_fall 186 = .ok (.iaload, 1) := by decide +kernel
theorem dX4_fall_187 : decode cX4_fall 187 = .ok (.iconst 2, 1) := by decide +kernel
theorem dX4_fall_188 : decode cX4_fall 188 = .ok (.if_icmp .ne 7, 3) := by decide +kernel
theorem dX4_fall_191 : decode cX4_fall 191 = .ok (.iconst 1, 1) := by decide +kernel
theorem dX4_fall_192 : decode cX4_fall 192 = .ok (.goto 4, 3) := by decide +kernel
theorem dX4_fall_195 : decode cX4_fall 195 = .ok (.iconst 0, 1) := by decide +kernel
theorem dX4_fall_196 : decode cX4_fall 196 = .ok (.istore 6, 2) := by decide +kernel
theorem dX4_fall_198 : decode cX4_fall 198 = .ok (.aload_n 0, 1) := by decide +kernel
theorem dX4_fall_199 : decode cX4_fall 199 = .ok (.iload 5, 2) := by decide +kernel
theorem dX4_fall_201 : decode cX4_fall 201 = .ok (.invokevirtual 154, 3) := by decide +kernel
theorem dX4_fall_204 : decode cX4_fall 204 = .ok (.aload_n 0, 1) := by decide +kernel
theorem dX4_fall_205 : decode cX4_fall 205 = .ok (.getfield 37, 3) := by decide +kernel
theorem dX4_fall_208 : decode cX4_fall 208 = .ok (.iload 5, 2) := by decide +kernel
theorem dX4_fall_210 : decode cX4_fall 210 = .ok (.iconst 0, 1) := by decide +kernel
theorem dX4_fall_211 : decode cX4_fall 211 = .ok (.iastore, 1) := by decide +kernel
theorem dX4_fall_212 : decode cX4_fall 212 = .ok (.aload_n 0, 1) := by decide +kernel
theorem dX4_fall_213 : decode cX4_fall 213 = .ok (.getfield 56, 3) := by decide +kernel
theorem dX4_fall_216 : decode cX4_fall 216 = .ok (.iload 5, 2) := by decide +kernel
theorem dX4_fall_218 : decode cX4_fall 218 = .ok (.iconst (-1), 1) := by decide +kernel
theorem dX4_fall_219 : decode cX4_fall 219 = .ok (.iastore, 1) := by decide +kernel
theorem dX4_fall_220 : decode cX4_fall 220 = .ok (.iconst 0, 1) := by decide +kernel
theorem dX4_fall_221 : decode cX4_fall 221 = .ok (.istore 7, 2) := by decide +kernel
theorem dX4_fall_223 : decode cX4_fall 223 = .ok (.iload 7, 2) := by decide +kernel
theorem dX4_fall_225 : decode cX4_fall 225 = .ok (.aload_n 0, 1) := by decide +kernel
theorem dX4_fall_226 : decode cX4_fall 226 = .ok (.getfield 111, 3) := by decide +kernel
theorem dX4_fall_229 : decode cX4_fall 229 = .ok (.if_icmp .ge 48, 3) := by decide +kernel
theorem dX4_fall_232 : decode cX4_fall 232 = .ok (.iload 6, 2) := by decide +kernel
theorem dX4_fall_234 : decode cX4_fall 234 = .ok (.ifCond .eq 43, 3) := by decide +kernel
theorem dX4_fall_237 : decode cX4_fall 237 = .ok (.aload_n 0, 1) := by decide +kernel
theorem dX4_fall_238 : decode cX4_fall 238 = .ok (.getfield 68, 3) := by decide +kernel
theorem dX4_fall_241 : decode cX4_fall 241 = .ok (.iload 7, 2) := by decide +kernel
theorem dX4_fall_243 : decode cX4_fall 243 = .ok (.aload_n 0, 1) := by decide +kernel
theorem dX4_fall_244 : decode cX4_fall 244 = .ok (.getfield 68, 3) := by decide +kernel
theorem dX4_fall_247 : decode cX4_fall 247 = .ok (.iload 7, 2) := by decide +kernel
theorem dX4_fall_249 : decode cX4_fall 249 = .ok (.baload, 1) := by decide +kernel
theorem dX4_fall_250 : decode cX4_fall 250 = .ok (.ifCond .ne 15, 3) := by decide +kernel
theorem dX4_fall_253 : decode cX4_fall 253 = .ok (.aload_n 0, 1) := by decide +kernel
theorem dX4_fall_254 : decode cX4_fall 254 = .ok (.getfield 62, 3) := by decide +kernel
theorem dX4_fall_257 : decode cX4_fall 257 = .ok (.iload 7, 2) := by decide +kernel
theorem dX4_fall_259 : decode cX4_fall 259 = .ok (.iaload, 1) := by decide +kernel
theorem dX4_fall_260 : decode cX4_fall 260 = .ok (.iload 5, 2) := by decide +kernel
theorem dX4_fall_262 : decode cX4_fall 262 = .ok (.if_icmp .ne 7, 3) := by decide +kernel
theorem dX4_fall_265 : decode cX4_fall 265 = .ok (.iconst 1, 1) := by decide +kernel
theorem dX4_fall_266 : decode cX4_fall 266 = .ok (.goto 4, 3) := by decide +kernel
theorem dX4_fall_269 : decode cX4_fall 269 = .ok (.iconst 0, 1) := by decide +kernel
theorem dX4_fall_270 : decode cX4_fall 270 = .ok (.bastore, 1) := by decide +kernel
theorem dX4_fall_271 : decode cX4_fall 271 = .ok (.iinc 7 1, 3) := by decide +kernel
theorem dX4_fall_274 : decode cX4_fall 274 = .ok (.goto (-51), 3) := by decide +kernel
theorem dX4_fall_277 : decode cX4_fall 277 = .ok (.iinc 4 1, 3) := by decide +kernel
theorem dX4_fall_280 : decode cX4_fall 280 = .ok (.goto (-187), 3) := by decide +kernel
theorem dX4_fall_283 : decode cX4_fall 283 = .ok (.aload_n 0, 1) := by decide +kernel
theorem dX4_fall_284 : decode cX4_fall 284 = .ok (.iload_n 2, 1) := by decide +kernel
theorem dX4_fall_285 : decode cX4_fall 285 = .ok (.putfield 127, 3) := by decide +kernel
theorem dX4_fall_288 : decode cX4_fall 288 = .ok (.iconst 0, 1) := by decide +kernel
theorem dX4_fall_289 : decode cX4_fall 289 = .ok (.istore 4, 2) := by decide +kernel
theorem dX4_fall_291 : decode cX4_fall 291 = .ok (.iload 4, 2) := by decide +kernel
theorem dX4_fall_293 : decode cX4_fall 293 = .ok (.aload_n 0, 1) := by decide +kernel
theorem dX4_fall_294 : decode cX4_fall 294 = .ok (.getfield 111, 3) := by decide +kernel
theorem dX4_fall_297 : decode cX4_fall 297 = .ok (.if_icmp .ge 79, 3) := by decide +kernel
theorem dX4_fall_300 : decode cX4_fall 300 = .ok (.aload_n 0, 1) := by decide +kernel
theorem dX4_fall_301 : decode cX4_fall 301 = .ok (.getfield 59, 3) := by decide +kernel
theorem dX4_fall_304 : decode cX4_fall 304 = .ok (.iload 4, 2) := by decide +kernel
theorem dX4_fall_306 : decode cX4_fall 306 = .ok (.dup2, 1) := by decide +kernel
theorem dX4_fall_307 : decode cX4_fall 307 = .ok (.iaload, 1) := by decide +kernel
theorem dX4_fall_308 : decode cX4_fall 308 = .ok (.aload_n 0, 1) := by decide +kernel
theorem dX4_fall_309 : decode cX4_fall 309 = .ok (.getfield 71, 3) := by decide +kernel
theorem dX4_fall_312 : decode cX4_fall 312 = .ok (.iload 4, 2) := by decide +kernel
theorem dX4_fall_314 : decode cX4_fall 314 = .ok (.baload, 1) := by decide +kernel
theorem dX4_fall_315 : decode cX4_fall 315 = .ok (.ifCond .eq 17, 3) := by decide +kernel
theorem dX4_fall_318 : decode cX4_fall 318 = .ok (.aload_n 0, 1) := by decide +kernel
theorem dX4_fall_319 : decode cX4_fall 319 = .ok (.getfield 68, 3) := by decide +kernel
theorem dX4_fall_322 : decode cX4_fall 322 = .ok (.iload 4, 2) := by decide +kernel
theorem dX4_fall_324 : decode cX4_fall 324 = .ok (.baload, 1) := by decide +kernel
theorem dX4_fall_325 : decode cX4_fall 325 = .ok (.ifCond .ne 7, 3) := by decide +kernel
theorem dX4_fall_328 : decode cX4_fall 328 = .ok (.iconst 1, 1) := by decide +kernel
theorem dX4_fall_329 : decode cX4_fall 329 = .ok (.goto 4, 3) := by decide +kernel
theorem dX4_fall_332 : decode cX4_fall 332 = .ok (.iconst 0, 1) := by decide +kernel
theorem dX4_fall_333 : decode cX4_fall 333 = .ok (.iadd, 1) := by decide +kernel
theorem dX4_fall_334 : decode cX4_fall 334 = .ok (.iastore, 1) := by decide +kernel
theorem dX4_fall_335 : decode cX4_fall 335 = .ok (.aload_n 0, 1) := by decide +kernel
theorem dX4_fall_336 : decode cX4_fall 336 = .ok (.getfield 68, 3) := by decide +kernel
theorem dX4_fall_339 : decode cX4_fall 339 = .ok (.iload 4, 2) := by decide +kernel
theorem dX4_fall_341 : decode cX4_fall 341 = .ok (.baload, 1) := by decide +kernel
theorem dX4_fall_342 : decode cX4_fall 342 = .ok (.ifCond .ne 6, 3) := by decide +kernel
theorem dX4_fall_345 : decode cX4_fall 345 = .ok (.goto 25, 3) := by decide +kernel
theorem dX4_fall_348 : decode cX4_fall 348 = .ok (.aload_n 0, 1) := by decide +kernel
theorem dX4_fall_349 : decode cX4_fall 349 = .ok (.iload 4, 2) := by decide +kernel
theorem dX4_fall_351 : decode cX4_fall 351 = .ok (.invokevirtual 154, 3) := by decide +kernel
theorem dX4_fall_354 : decode cX4_fall 354 = .ok (.aload_n 0, 1) := by decide +kernel
theorem dX4_fall_355 : decode cX4_fall 355 = .ok (.getfield 37, 3) := by decide +kernel
theorem dX4_fall_358 : decode cX4_fall 358 = .ok (.iload 4, 2) := by decide +kernel
theorem dX4_fall_360 : decode cX4_fall 360 = .ok (.iconst 4, 1) := by decide +kernel
theorem dX4_fall_361 : decode cX4_fall 361 = .ok (.iastore, 1) := by decide +kernel
theorem dX4_fall_362 : decode cX4_fall 362 = .ok (.aload_n 0, 1) := by decide +kernel
theorem dX4_fall_363 : decode cX4_fall 363 = .ok (.getfield 56, 3) := by decide +kernel
theorem dX4_fall_366 : decode cX4_fall 366 = .ok (.iload 4, 2) := by decide +kernel
theorem dX4_fall_368 : decode cX4_fall 368 = .ok (.iconst (-1), 1) := by decide +kernel
theorem dX4_fall_369 : decode cX4_fall 369 = .ok (.iastore, 1) := by decide +kernel
theorem dX4_fall_370 : decode cX4_fall 370 = .ok (.iinc 4 1, 3) := by decide +kernel
theorem dX4_fall_373 : decode cX4_fall 373 = .ok (.goto (-82), 3) := by decide +kernel
theorem dX4_fall_376 : decode cX4_fall 376 = .ok (.iconst 0, 1) := by decide +kernel
theorem dX4_fall_377 : decode cX4_fall 377 = .ok (.istore 4, 2) := by decide +kernel
theorem dX4_fall_379 : decode cX4_fall 379 = .ok (.iload 4, 2) := by decide +kernel
theorem dX4_fall_381 : decode cX4_fall 381 = .ok (.bipush 24, 2) := by decide +kernel
theorem dX4_fall_383 : decode cX4_fall 383 = .ok (.if_icmp .ge 17, 3) := by decide +kernel
theorem dX4_fall_386 : decode cX4_fall 386 = .ok (.aload_n 0, 1) := by decide +kernel
theorem dX4_fall_387 : decode cX4_fall 387 = .ok (.getfield 9, 3) := by decide +kernel
theorem dX4_fall_390 : decode cX4_fall 390 = .ok (.iload 4, 2) := by decide +kernel
theorem dX4_fall_392 : decode cX4_fall 392 = .ok (.iconst 0, 1) := by decide +kernel
theorem dX4_fall_393 : decode cX4_fall 393 = .ok (.iastore, 1) := by decide +kernel
theorem dX4_fall_394 : decode cX4_fall 394 = .ok (.iinc 4 1, 3) := by decide +kernel
theorem dX4_fall_397 : decode cX4_fall 397 = .ok (.goto (-18), 3) := by decide +kernel
theorem dX4_fall_400 : decode cX4_fall 400 = .ok (.iconst 0, 1) := by decide +kernel
theorem dX4_fall_401 : decode cX4_fall 401 = .ok (.istore 4, 2) := by decide +kernel
theorem dX4_fall_403 : decode cX4_fall 403 = .ok (.iload 4, 2) := by decide +kernel
theorem dX4_fall_405 : decode cX4_fall 405 = .ok (.bipush 8, 2) := by decide +kernel
theorem dX4_fall_407 : decode cX4_fall 407 = .ok (.if_icmp .ge 17, 3) := by decide +kernel
theorem dX4_fall_410 : decode cX4_fall 410 = .ok (.aload_n 0, 1) := by decide +kernel
theorem dX4_fall_411 : decode cX4_fall 411 = .ok (.getfield 13, 3) := by decide +kernel
theorem dX4_fall_414 : decode cX4_fall 414 = .ok (.iload 4, 2) := by decide +kernel
theorem dX4_fall_416 : decode cX4_fall 416 = .ok (.iconst 0, 1) := by decide +kernel
theorem dX4_fall_417 : decode cX4_fall 417 = .ok (.iastore, 1) := by decide +kernel
theorem dX4_fall_418 : decode cX4_fall 418 = .ok (.iinc 4 1, 3) := by decide +kernel
theorem dX4_fall_421 : decode cX4_fall 421 = .ok (.goto (-18), 3) := by decide +kernel
theorem dX4_fall_424 : decode cX4_fall 424 = .ok (.iconst 0, 1) := by decide +kernel
theorem dX4_fall_425 : decode cX4_fall 425 = .ok (.istore 4, 2) := by decide +kernel
theorem dX4_fall_427 : decode cX4_fall 427 = .ok (.iload 4, 2) := by decide +kernel
theorem dX4_fall_429 : decode cX4_fall 429 = .ok (.aload_n 0, 1) := by decide +kernel
theorem dX4_fall_430 : decode cX4_fall 430 = .ok (.getfield 168, 3) := by decide +kernel
theorem dX4_fall_433 : decode cX4_fall 433 = .ok (.if_icmp .ge 20, 3) := by decide +kernel
theorem dX4_fall_436 : decode cX4_fall 436 = .ok (.aload_n 0, 1) := by decide +kernel
theorem dX4_fall_437 : decode cX4_fall 437 = .ok (.aload_n 0, 1) := by decide +kernel
theorem dX4_fall_438 : decode cX4_fall 438 = .ok (.getfield 92, 3) := by decide +kernel
theorem dX4_fall_441 : decode cX4_fall 441 = .ok (.iload 4, 2) := by decide +kernel
theorem dX4_fall_443 : decode cX4_fall 443 = .ok (.iaload, 1) := by decide +kernel
theorem dX4_fall_444 : decode cX4_fall 444 = .ok (.invokevirtual 171, 3) := by decide +kernel
theorem dX4_fall_447 : decode cX4_fall 447 = .ok (.iinc 4 1, 3) := by decide +kernel
theorem dX4_fall_450 : decode cX4_fall 450 = .ok (.goto (-23), 3) := by decide +kernel
theorem dX4_fall_453 : decode cX4_fall 453 = .ok (.aload_n 0, 1) := by decide +kernel
theorem dX4_fall_454 : decode cX4_fall 454 = .ok (.invokevirtual 202, 3) := by decide +kernel
theorem dX4_fall_457 : decode cX4_fall 457 = .ok (.aload_n 0, 1) := by decide +kernel
theorem dX4_fall_458 : decode cX4_fall 458 = .ok (.dup, 1) := by decide +kernel
theorem dX4_fall_459 : decode cX4_fall 459 = .ok (.getfield 205, 3) := by decide +kernel
theorem dX4_fall_462 : decode cX4_fall 462 = .ok (.iconst 1, 1) := by decide +kernel
theorem dX4_fall_463 : decode cX4_fall 463 = .ok (.iadd, 1) := by decide +kernel
theorem dX4_fall_464 : decode cX4_fall 464 = .ok (.putfield 205, 3) := by decide +kernel
theorem dX4_fall_467 : decode cX4_fall 467 = .ok (.iload_n 3, 1) := by decide +kernel
theorem dX4_fall_468 : decode cX4_fall 468 = .ok (.ireturn, 1) := by decide +kernel
set_option maxRecDepth 20000 in
theorem ggX4_told_X4_isAct : GoodIn wsX4_told wsX4_isAct := goodIn_r _ [15, 16, 17, 18, 14, 19, 20, 21, 22, 23, 24, 25, 26, 27, 28, 29, 30, 31, 32, 33, 34, 35, 36, 37, 38, 39, 40, 41, 42, 43, 44, 45, 46, 47, 48, 49, 50, 51, 52, 53, 54, 55, 56, 57, 58] (by decide +kernel) (by decide +kernel)
set_option maxRecDepth 20000 in
theorem gX4_told_X4_isAct : GoodIn wsX4_told (wsV RX4 208 RX4 yX4_isAct wsX4_isAct) := goodIn_app (goodIn_of _ (by decide +kernel)) ggX4_told_X4_isAct
theorem dX4_told_0 : decode cX4_told 0 = .ok (.aload_n 0, 1) := by decide +kernel
theorem dX4_told_1 : decode cX4_told 1 = .ok (.iload_n 1, 1) := by decide +kernel
theorem dX4_told_2 : decode cX4_told 2 = .ok (.invokevirtual 208, 3) := by decide +kernel
theorem dX4_told_5 : decode cX4_told 5 = .ok (.ifCond .ne 5, 3) := by decide +kernel
theorem dX4_told_8 : decode cX4_told 8 = .ok (.iconst (-1), 1) := by decide +kernel
theorem dX4_told_9 : decode cX4_told 9 = .ok (.ireturn, 1) := by decide +kernel
theorem dX4_told_10 : decode cX4_told 10 = .ok (.aload_n 0, 1) := by decide +kernel
theorem dX4_told_11 : decode cX4_told 11 = .ok (.getfield 37, 3) := by decide +kernel
theorem dX4_told_14 : decode cX4_told 14 = .ok (.iload_n 1, 1) := by decide +kernel
theorem dX4_told_15 : decode cX4_told 15 = .ok (.iaload, 1) := by decide +kernel
theorem dX4_told_16 : decode cX4_told 16 = .ok (.iconst 1, 1) := by decide +kernel
theorem dX4_told_17 : decode cX4_told 17 = .ok (.if_icmp .ne 7, 3) := by decide +kernel
theorem dX4_told_20 : decode cX4_told 20 = .ok (.iconst 1, 1) := by decide +kernel
theorem dX4_told_21 : decode cX4_told 21 = .ok (.goto 4, 3) := by decide +kernel
theorem dX4_told_24 : decode cX4_told 24 = .ok (.iconst 0, 1) := by decide +kernel
theorem dX4_told_25 : decode cX4_told 25 = .ok (.istore_n 3, 1) := by decide +kernel
theorem dX4_told_26 : decode cX4_told 26 = .ok (.iload_n 2, 1) := by decide +kernel
theorem dX4_told_27 : decode cX4_told 27 = .ok (.tableswitch 143 0 9 #[53, 60, 67, 74, 81, 96, 115, 122, 129, 136], 53) := by decide +kernel
theorem dX4_told_80 : decode cX4_told 80 = .ok (.aload_n 0, 1) := by decide +kernel
theorem dX4_told_81 : decode cX4_told 81 = .ok (.getfield 37, 3) := by decide +kernel
theorem dX4_told_84 : decode cX4_told 84 = .ok (.iload_n 1, 1) := by decide +kernel
theorem dX4_told_85 : decode cX4_told 85 = .ok (.iaload, 1) := by decide +kernel
theorem dX4_told_86 : decode cX4_told 86 = .ok (.ireturn, 1) := by decide +kernel
theorem dX4_told_87 : decode cX4_told 87 = .ok (.aload_n 0, 1) := by decide +kernel
theorem dX4_told_88 : decode cX4_told 88 = .ok (.getfield 28, 3) := by decide +kernel
theorem dX4_told_91 : decode cX4_told 91 = .ok (.iload_n 1, 1) := by decide +kernel
theorem dX4_told_92 : decode cX4_told 92 = .ok (.iaload, 1) := by decide +kernel
theorem dX4_told_93 : decode cX4_told 93 = .ok (.ireturn, 1) := by decide +kernel
theorem dX4_told_94 : decode cX4_told 94 = .ok (.aload_n 0, 1) := by decide +kernel
theorem dX4_told_95 : decode cX4_told 95 = .ok (.getfield 31, 3) := by decide +kernel
theorem dX4_told_98 : decode cX4_told 98 = .ok (.iload_n 1, 1) := by decide +kernel
theorem dX4_told_99 : decode cX4_told 99 = .ok (.iaload, 1) := by decide +kernel
theorem dX4_told_100 : decode cX4_told 100 = .ok (.ireturn, 1) := by decide +kernel
theorem dX4_told_101 : decode cX4_told 101 = .ok (.aload_n 0, 1) := by decide +kernel
theorem dX4_told_102 : decode cX4_told 102 = .ok (.getfield 34, 3) := by decide +kernel
theorem dX4_told_105 : decode cX4_told 105 = .ok (.iload_n 1, 1) := by decide +kernel
theorem dX4_told_106 : decode cX4_told 106 = .ok (.iaload, 1) := by decide +kernel
theorem dX4_told_107 : decode cX4_told 107 = .ok (.ireturn, 1) := by decide +kernel
theorem dX4_told_108 : decode cX4_told 108 = .ok (.iload_n 3, 1) := by decide +kernel
theorem dX4_told_109 : decode cX4_told 109 = .ok (.ifCond .eq 12, 3) := by decide +kernel
theorem dX4_told_112 : decode cX4_told 112 = .ok (.aload_n 0, 1) := by decide +kernel
theorem dX4_told_113 : decode cX4_told 113 = .ok (.getfield 46, 3) := by decide +kernel
theorem dX4_told_116 : decode cX4_told 116 = .ok (.iload_n 1, 1) := by decide +kernel
theorem dX4_told_117 : decode cX4_told 117 = .ok (.iaload, 1) := by decide +kernel
theorem dX4_told_118 : decode cX4_told 118 = .ok (.goto 4, 3) := by decide +kernel
theorem dX4_told_121 : decode cX4_told 121 = .ok (.iconst (-1), 1) := by decide +kernel
theorem dX4_told_122 : decode cX4_told 122 = .ok (.ireturn, 1) := by decide +kernel
theorem dX4_told_123 : decode cX4_told 123 = .ok (.iload_n 3, 1) := by decide +kernel
theorem dX4_told_124 : decode cX4_told 124 = .ok (.ifCond .eq 16, 3) := by decide +kernel
theorem dX4_told_127 : decode cX4_told 127 = .ok (.aload_n 0, 1) := by decide +kernel
theorem dX4_told_128 : decode cX4_told 128 = .ok (.getfield 52, 3) := by decide +kernel
theorem dX4_told_131 : decode cX4_told 131 = .ok (.iload_n 1, 1) := by decide +kernel
theorem dX4_told_132 : decode cX4_told 132 = .ok (.baload, 1) := by decide +kernel
theorem dX4_told_133 : decode cX4_told 133 = .ok (.ifCond .eq 7, 3) := by decide +kernel
theorem dX4_told_136 : decode cX4_told 136 = .ok (.iconst 1, 1) := by decide +kernel
theorem dX4_told_137 : decode cX4_told 137 = .ok (.goto 4, 3) := by decide +kernel
theorem dX4_told_140 : decode cX4_told 140 = .ok (.iconst 0, 1) := by decide +kernel
theorem dX4_told_141 : decode cX4_told 141 = .ok (.ireturn, 1) := by decide +kernel
theorem dX4_told_142 : decode cX4_told 142 = .ok (.aload_n 0, 1) := by decide +kernel
theorem dX4_told_143 : decode cX4_told 143 = .ok (.getfield 56, 3) := by decide +kernel
theorem dX4_told_146 : decode cX4_told 146 = .ok (.iload_n 1, 1) := by decide +kernel
theorem dX4_told_147 : decode cX4_told 147 = .ok (.iaload, 1) := by decide +kernel
theorem dX4_told_148 : decode cX4_told 148 = .ok (.ireturn, 1) := by decide +kernel
theorem dX4_told_149 : decode cX4_told 149 = .ok (.aload_n 0, 1) := by decide +kernel
theorem dX4_told_150 : decode cX4_told 150 = .ok (.getfield 59, 3) := by decide +kernel
theorem dX4_told_153 : decode cX4_told 153 = .ok (.iload_n 1, 1) := by decide +kernel
theorem dX4_told_154 : decode cX4_told 154 = .ok (.iaload, 1) := by decide +kernel
theorem dX4_told_155 : decode cX4_told 155 = .ok (.ireturn, 1) := by decide +kernel
theorem dX4_told_156 : decode cX4_told 156 = .ok (.aload_n 0, 1) := by decide +kernel
theorem dX4_told_157 : decode cX4_told 157 = .ok (.getfield 62, 3) := by decide +kernel
theorem dX4_told_160 : decode cX4_told 160 = .ok (.iload_n 1, 1) := by decide +kernel
theorem dX4_told_161 : decode cX4_told 161 = .ok (.iaload, 1) := by decide +kernel
theorem dX4_told_162 : decode cX4_told 162 = .ok (.ireturn, 1) := by decide +kernel
theorem dX4_told_163 : decode cX4_told 163 = .ok (.aload_n 0, 1) := by decide +kernel
theorem dX4_told_164 : decode cX4_told 164 = .ok (.getfield 65, 3) := by decide +kernel
theorem dX4_told_167 : decode cX4_told 167 = .ok (.iload_n 1, 1) := by decide +kernel
theorem dX4_told_168 : decode cX4_told 168 = .ok (.iaload, 1) := by decide +kernel
theorem dX4_told_169 : decode cX4_told 169 = .ok (.ireturn, 1) := by decide +kernel
theorem dX4_told_170 : decode cX4_told 170 = .ok (.iconst (-1), 1) := by decide +kernel
theorem dX4_told_171 : decode cX4_told 171 = .ok (.ireturn, 1) := by decide +kernel
set_option maxRecDepth 20000 in
theorem ggX4_register_X4_isAct : GoodIn wsX4_register wsX4_isAct := goodIn_r _ [8, 9, 10, 11, 7, 12, 13, 14, 15, 16, 17, 18, 19, 20, 21, 22, 23, 24, 25, 26, 27, 28, 29, 30, 31, 32, 33, 34, 35, 36, 37, 38, 39, 40, 41, 42, 43, 44, 45, 46, 47, 48, 49, 50, 51] (by decide +kernel) (by decide +kernel)
set_option maxRecDepth 20000 in
theorem gX4_register_X4_isAct : GoodIn wsX4_register (wsV RX4 208 RX4 yX4_isAct wsX4_isAct) := goodIn_app (goodIn_of _ (by decide +kernel)) ggX4_register_X4_isAct
theorem dX4_register_0 : decode cX4_register 0 = .ok (.aload_n 0, 1) := by decide +kernel
theorem dX4_register_1 : decode cX4_register 1 = .ok (.iload_n 1, 1) := by decide +kernel
theorem dX4_register_2 : decode cX4_register 2 = .ok (.invokevirtual 208, 3) := by decide +kernel
theorem dX4_register_5 : decode cX4_register 5 = .ok (.ifCond .eq 22, 3) := by decide +kernel
theorem dX4_register_8 : decode cX4_register 8 = .ok (.aload_n 0, 1) := by decide +kernel
theorem dX4_register_9 : decode cX4_register 9 = .ok (.getfield 37, 3) := by decide +kernel
theorem dX4_register_12 : decode cX4_register 12 = .ok (.iload_n 1, 1) := by decide +kernel
theorem dX4_register_13 : decode cX4_register 13 = .ok (.iaload, 1) := by decide +kernel
theorem dX4_register_14 : decode cX4_register 14 = .ok (.iconst 1, 1) := by decide +kernel
theorem dX4_register_15 : decode cX4_register 15 = .ok (.if_icmp .ne 12, 3) := by decide +kernel
theorem dX4_register_18 : decode cX4_register 18 = .ok (.aload_n 0, 1) := by decide +kernel
theorem dX4_register_19 : decode cX4_register 19 = .ok (.getfield 49, 3) := by decide +kernel
theorem dX4_register_22 : decode cX4_register 22 = .ok (.iload_n 1, 1) := by decide +kernel
theorem dX4_register_23 : decode cX4_register 23 = .ok (.iaload, 1) := by decide +kernel
theorem dX4_register_24 : decode cX4_register 24 = .ok (.goto 5, 3) := by decide +kernel
theorem dX4_register_27 : decode cX4_register 27 = .ok (.ldc 211, 2) := by decide +kernel
theorem dX4_register_29 : decode cX4_register 29 = .ok (.ireturn, 1) := by decide +kernel
set_option maxRecDepth 20000 in
theorem ggX4_holds_X4_isAct : GoodIn wsX4_holds wsX4_isAct := goodIn_r _ [7, 8, 9, 10, 6, 11, 12, 13, 14, 15, 16, 17, 18, 19, 20, 21, 22, 23, 24, 25, 26, 27, 28, 29, 30, 31, 32, 33, 34, 35, 36, 37, 38, 39, 40, 41, 42, 43, 44, 45, 46, 47, 48, 49, 50] (by decide +kernel) (by decide +kernel)
set_option maxRecDepth 20000 in
theorem gX4_holds_X4_isAct : GoodIn wsX4_holds (wsV RX4 208 RX4 yX4_isAct wsX4_isAct) := goodIn_app (goodIn_of _ (by decide +kernel)) ggX4_holds_X4_isAct
set_option maxRecDepth 20000 in
theorem ggX4_holds_X4_in : GoodIn wsX4_holds wsX4_in := goodIn_r _ [11] (by decide +kernel) (by decide +kernel)
set_option maxRecDepth 20000 in
theorem gX4_holds_X4_in : GoodIn wsX4_holds (va_wsS RX4 107 yX4_in wsX4_in) := goodIn_app (goodIn_of _ (by decide +kernel)) ggX4_holds_X4_in
theorem dX4_holds_0 : decode cX4_holds 0 = .ok (.aload_n 0, 1) := by decide +kernel
theorem dX4_holds_1 : decode cX4_holds 1 = .ok (.iload_n 1, 1) := by decide +kernel
theorem dX4_holds_2 : decode cX4_holds 2 = .ok (.invokevirtual 208, 3) := by decide +kernel
theorem dX4_holds_5 : decode cX4_holds 5 = .ok (.ifCond .eq 13, 3) := by decide +kernel
theorem dX4_holds_8 : decode cX4_holds 8 = .ok (.iload_n 2, 1) := by decide +kernel
theorem dX4_holds_9 : decode cX4_holds 9 = .ok (.iconst 0, 1) := by decide +kernel
theorem dX4_holds_10 : decode cX4_holds 10 = .ok (.bipush 23, 2) := by decide +kernel
theorem dX4_holds_12 : decode cX4_holds 12 = .ok (.invokestatic 107, 3) := by decide +kernel
theorem dX4_holds_15 : decode cX4_holds 15 = .ok (.ifCond .ne 5, 3) := by decide +kernel
theorem dX4_holds_18 : decode cX4_holds 18 = .ok (.iconst (-1), 1) := by decide +kernel
theorem dX4_holds_19 : decode cX4_holds 19 = .ok (.ireturn, 1) := by decide +kernel
theorem dX4_holds_20 : decode cX4_holds 20 = .ok (.aload_n 0, 1) := by decide +kernel
theorem dX4_holds_21 : decode cX4_holds 21 = .ok (.getfield 37, 3) := by decide +kernel
theorem dX4_holds_24 : decode cX4_holds 24 = .ok (.iload_n 1, 1) := by decide +kernel
theorem dX4_holds_25 : decode cX4_holds 25 = .ok (.iaload, 1) := by decide +kernel
theorem dX4_holds_26 : decode cX4_holds 26 = .ok (.iconst 1, 1) := by decide +kernel
theorem dX4_holds_27 : decode cX4_holds 27 = .ok (.if_icmp .ne 17, 3) := by decide +kernel
theorem dX4_holds_30 : decode cX4_holds 30 = .ok (.aload_n 0, 1) := by decide +kernel
theorem dX4_holds_31 : decode cX4_holds 31 = .ok (.getfield 74, 3) := by decide +kernel
theorem dX4_holds_34 : decode cX4_holds 34 = .ok (.bipush 24, 2) := by decide +kernel
theorem dX4_holds_36 : decode cX4_holds 36 = .ok (.iload_n 1, 1) := by decide +kernel
theorem dX4_holds_37 : decode cX4_holds 37 = .ok (.imul, 1) := by decide +kernel
theorem dX4_holds_38 : decode cX4_holds 38 = .ok (.iload_n 2, 1) := by decide +kernel
theorem dX4_holds_39 : decode cX4_holds 39 = .ok (.iadd, 1) := by decide +kernel
theorem dX4_holds_40 : decode cX4_holds 40 = .ok (.iaload, 1) := by decide +kernel
theorem dX4_holds_41 : decode cX4_holds 41 = .ok (.goto 4, 3) := by decide +kernel
theorem dX4_holds_44 : decode cX4_holds 44 = .ok (.iconst 0, 1) := by decide +kernel
theorem dX4_holds_45 : decode cX4_holds 45 = .ok (.ireturn, 1) := by decide +kernel
set_option maxRecDepth 20000 in
theorem ggX4_value_X4_in : GoodIn wsX4_value wsX4_in := goodIn_r _ [12] (by decide +kernel) (by decide +kernel)
set_option maxRecDepth 20000 in
theorem gX4_value_X4_in : GoodIn wsX4_value (va_wsS RX4 107 yX4_in wsX4_in) := goodIn_app (goodIn_of _ (by decide +kernel)) ggX4_value_X4_in
theorem dX4_value_0 : decode cX4_value 0 = .ok (.iload_n 1, 1) := by decide +kernel
theorem dX4_value_1 : decode cX4_value 1 = .ok (.iconst 0, 1) := by decide +kernel
theorem dX4_value_2 : decode cX4_value 2 = .ok (.bipush 31, 2) := by decide +kernel
theorem dX4_value_4 : decode cX4_value 4 = .ok (.invokestatic 107, 3) := by decide +kernel
theorem dX4_value_7 : decode cX4_value 7 = .ok (.ifCond .eq 15, 3) := by decide +kernel
theorem dX4_value_10 : decode cX4_value 10 = .ok (.iload_n 2, 1) := by decide +kernel
theorem dX4_value_11 : decode cX4_value 11 = .ok (.iconst 0, 1) := by decide +kernel
theorem dX4_value_12 : decode cX4_value 12 = .ok (.aload_n 0, 1) := by decide +kernel
theorem dX4_value_13 : decode cX4_value 13 = .ok (.getfield 130, 3) := by decide +kernel
theorem dX4_value_16 : decode cX4_value 16 = .ok (.invokestatic 107, 3) := by decide +kernel
theorem dX4_value_19 : decode cX4_value 19 = .ok (.ifCond .ne 6, 3) := by decide +kernel
theorem dX4_value_22 : decode cX4_value 22 = .ok (.ldc 211, 2) := by decide +kernel
theorem dX4_value_24 : decode cX4_value 24 = .ok (.ireturn, 1) := by decide +kernel
theorem dX4_value_25 : decode cX4_value 25 = .ok (.iconst 0, 1) := by decide +kernel
theorem dX4_value_26 : decode cX4_value 26 = .ok (.istore_n 3, 1) := by decide +kernel
theorem dX4_value_27 : decode cX4_value 27 = .ok (.iconst 0, 1) := by decide +kernel
theorem dX4_value_28 : decode cX4_value 28 = .ok (.istore 4, 2) := by decide +kernel
theorem dX4_value_30 : decode cX4_value 30 = .ok (.iload 4, 2) := by decide +kernel
theorem dX4_value_32 : decode cX4_value 32 = .ok (.aload_n 0, 1) := by decide +kernel
theorem dX4_value_33 : decode cX4_value 33 = .ok (.getfield 168, 3) := by decide +kernel
theorem dX4_value_36 : decode cX4_value 36 = .ok (.if_icmp .ge 88, 3) := by decide +kernel
theorem dX4_value_39 : decode cX4_value 39 = .ok (.aload_n 0, 1) := by decide +kernel
theorem dX4_value_40 : decode cX4_value 40 = .ok (.getfield 92, 3) := by decide +kernel
theorem dX4_value_43 : decode cX4_value 43 = .ok (.iload 4, 2) := by decide +kernel
theorem dX4_value_45 : decode cX4_value 45 = .ok (.iaload, 1) := by decide +kernel
theorem dX4_value_46 : decode cX4_value 46 = .ok (.istore 5, 2) := by decide +kernel
theorem dX4_value_48 : decode cX4_value 48 = .ok (.aload_n 0, 1) := by decide +kernel
theorem dX4_value_49 : decode cX4_value 49 = .ok (.getfield 56, 3) := by decide +kernel
theorem dX4_value_52 : decode cX4_value 52 = .ok (.iload 5, 2) := by decide +kernel
theorem dX4_value_54 : decode cX4_value 54 = .ok (.iaload, 1) := by decide +kernel
theorem dX4_value_55 : decode cX4_value 55 = .ok (.iload_n 2, 1) := by decide +kernel
theorem dX4_value_56 : decode cX4_value 56 = .ok (.if_icmp .le 6, 3) := by decide +kernel
theorem dX4_value_59 : decode cX4_value 59 = .ok (.goto 59, 3) := by decide +kernel
theorem dX4_value_62 : decode cX4_value 62 = .ok (.iload_n 1, 1) := by decide +kernel
theorem dX4_value_63 : decode cX4_value 63 = .ok (.bipush 24, 2) := by decide +kernel
theorem dX4_value_65 : decode cX4_value 65 = .ok (.if_icmp .lt 24, 3) := by decide +kernel
theorem dX4_value_68 : decode cX4_value 68 = .ok (.iload_n 3, 1) := by decide +kernel
theorem dX4_value_69 : decode cX4_value 69 = .ok (.aload_n 0, 1) := by decide +kernel
theorem dX4_value_70 : decode cX4_value 70 = .ok (.getfield 80, 3) := by decide +kernel
theorem dX4_value_73 : decode cX4_value 73 = .ok (.bipush 8, 2) := by decide +kernel
theorem dX4_value_75 : decode cX4_value 75 = .ok (.iload 5, 2) := by decide +kernel
theorem dX4_value_77 : decode cX4_value 77 = .ok (.imul, 1) := by decide +kernel
theorem dX4_value_78 : decode cX4_value 78 = .ok (.iload_n 1, 1) := by decide +kernel
theorem dX4_value_79 : decode cX4_value 79 = .ok (.iadd, 1) := by decide +kernel
theorem dX4_value_80 : decode cX4_value 80 = .ok (.bipush 24, 2) := by decide +kernel
theorem dX4_value_82 : decode cX4_value 82 = .ok (.isub, 1) := by decide +kernel
theorem dX4_value_83 : decode cX4_value 83 = .ok (.iaload, 1) := by decide +kernel
theorem dX4_value_84 : decode cX4_value 84 = .ok (.iadd, 1) := by decide +kernel
theorem dX4_value_85 : decode cX4_value 85 = .ok (.istore_n 3, 1) := by decide +kernel
theorem dX4_value_86 : decode cX4_value 86 = .ok (.goto 32, 3) := by decide +kernel
theorem dX4_value_89 : decode cX4_value 89 = .ok (.aload_n 0, 1) := by decide +kernel
theorem dX4_value_90 : decode cX4_value 90 = .ok (.getfield 74, 3) := by decide +kernel
theorem dX4_value_93 : decode cX4_value 93 = .ok (.bipush 24, 2) := by decide +kernel
theorem dX4_value_95 : decode cX4_value 95 = .ok (.iload 5, 2) := by decide +kernel
theorem dX4_value_97 : decode cX4_value 97 = .ok (.imul, 1) := by decide +kernel
theorem dX4_value_98 : decode cX4_value 98 = .ok (.iload_n 1, 1) := by decide +kernel
theorem dX4_value_99 : decode cX4_value 99 = .ok (.iadd, 1) := by decide +kernel
theorem dX4_value_100 : decode cX4_value 100 = .ok (.iaload, 1) := by decide +kernel
theorem dX4_value_101 : decode cX4_value 101 = .ok (.iconst 3, 1) := by decide +kernel
theorem dX4_value_102 : decode cX4_value 102 = .ok (.if_icmp .ne 16, 3) := by decide +kernel
theorem dX4_value_105 : decode cX4_value 105 = .ok (.aload_n 0, 1) := by decide +kernel
theorem dX4_value_106 : decode cX4_value 106 = .ok (.getfield 77, 3) := by decide +kernel
theorem dX4_value_109 : decode cX4_value 109 = .ok (.bipush 24, 2) := by decide +kernel
theorem dX4_value_111 : decode cX4_value 111 = .ok (.iload 5, 2) := by decide +kernel
theorem dX4_value_113 : decode cX4_value 113 = .ok (.imul, 1) := by decide +kernel
theorem dX4_value_114 : decode cX4_value 114 = .ok (.iload_n 1, 1) := by decide +kernel
theorem dX4_value_115 : decode cX4_value 115 = .ok (.iadd, 1) := by decide +kernel
theorem dX4_value_116 : decode cX4_value 116 = .ok (.iaload, 1) := by decide +kernel
theorem dX4_value_117 : decode cX4_value 117 = .ok (.istore_n 3, 1) := by decide +kernel
theorem dX4_value_118 : decode cX4_value 118 = .ok (.iinc 4 1, 3) := by decide +kernel
theorem dX4_value_121 : decode cX4_value 121 = .ok (.goto (-91), 3) := by decide +kernel
theorem dX4_value_124 : decode cX4_value 124 = .ok (.iload_n 3, 1) := by decide +kernel
theorem dX4_value_125 : decode cX4_value 125 = .ok (.ireturn, 1) := by decide +kernel
set_option maxRecDepth 20000 in
theorem ggX4_done_X4_in : GoodIn wsX4_done wsX4_in := goodIn_r _ [6] (by decide +kernel) (by decide +kernel)
set_option maxRecDepth 20000 in
theorem gX4_done_X4_in : GoodIn wsX4_done (va_wsS RX4 107 yX4_in wsX4_in) := goodIn_app (goodIn_of _ (by decide +kernel)) ggX4_done_X4_in
theorem dX4_done_0 : decode cX4_done 0 = .ok (.iload_n 1, 1) := by decide +kernel
theorem dX4_done_1 : decode cX4_done 1 = .ok (.iconst 0, 1) := by decide +kernel
theorem dX4_done_2 : decode cX4_done 2 = .ok (.aload_n 0, 1) := by decide +kernel
theorem dX4_done_3 : decode cX4_done 3 = .ok (.getfield 168, 3) := by decide +kernel
theorem dX4_done_6 : decode cX4_done 6 = .ok (.iconst 1, 1) := by decide +kernel
theorem dX4_done_7 : decode cX4_done 7 = .ok (.isub, 1) := by decide +kernel
theorem dX4_done_8 : decode cX4_done 8 = .ok (.invokestatic 107, 3) := by decide +kernel
theorem dX4_done_11 : decode cX4_done 11 = .ok (.ifCond .eq 12, 3) := by decide +kernel
theorem dX4_done_14 : decode cX4_done 14 = .ok (.aload_n 0, 1) := by decide +kernel
theorem dX4_done_15 : decode cX4_done 15 = .ok (.getfield 92, 3) := by decide +kernel
theorem dX4_done_18 : decode cX4_done 18 = .ok (.iload_n 1, 1) := by decide +kernel
theorem dX4_done_19 : decode cX4_done 19 = .ok (.iaload, 1) := by decide +kernel
theorem dX4_done_20 : decode cX4_done 20 = .ok (.goto 4, 3) := by decide +kernel
theorem dX4_done_23 : decode cX4_done 23 = .ok (.iconst (-1), 1) := by decide +kernel
theorem dX4_done_24 : decode cX4_done 24 = .ok (.ireturn, 1) := by decide +kernel
set_option maxRecDepth 20000 in
theorem ggX4_log_X4_in : GoodIn wsX4_log wsX4_in := goodIn_r _ [6] (by decide +kernel) (by decide +kernel)
set_option maxRecDepth 20000 in
theorem gX4_log_X4_in : GoodIn wsX4_log (va_wsS RX4 107 yX4_in wsX4_in) := goodIn_app (goodIn_of _ (by decide +kernel)) ggX4_log_X4_in
theorem dX4_log_0 : decode cX4_log 0 = .ok (.iload_n 1, 1) := by decide +kernel
theorem dX4_log_1 : decode cX4_log 1 = .ok (.iconst 0, 1) := by decide +kernel
theorem dX4_log_2 : decode cX4_log 2 = .ok (.aload_n 0, 1) := by decide +kernel
theorem dX4_log_3 : decode cX4_log 3 = .ok (.getfield 127, 3) := by decide +kernel
theorem dX4_log_6 : decode cX4_log 6 = .ok (.iconst 1, 1) := by decide +kernel
theorem dX4_log_7 : decode cX4_log 7 = .ok (.isub, 1) := by decide +kernel
theorem dX4_log_8 : decode cX4_log 8 = .ok (.invokestatic 107, 3) := by decide +kernel
theorem dX4_log_11 : decode cX4_log 11 = .ok (.ifCond .eq 25, 3) := by decide +kernel
theorem dX4_log_14 : decode cX4_log 14 = .ok (.iload_n 2, 1) := by decide +kernel
theorem dX4_log_15 : decode cX4_log 15 = .ok (.iconst 0, 1) := by decide +kernel
theorem dX4_log_16 : decode cX4_log 16 = .ok (.iconst 3, 1) := by decide +kernel
theorem dX4_log_17 : decode cX4_log 17 = .ok (.invokestatic 107, 3) := by decide +kernel
theorem dX4_log_20 : decode cX4_log 20 = .ok (.ifCond .eq 16, 3) := by decide +kernel
theorem dX4_log_23 : decode cX4_log 23 = .ok (.aload_n 0, 1) := by decide +kernel
theorem dX4_log_24 : decode cX4_log 24 = .ok (.getfield 95, 3) := by decide +kernel
theorem dX4_log_27 : decode cX4_log 27 = .ok (.iconst 4, 1) := by decide +kernel
theorem dX4_log_28 : decode cX4_log 28 = .ok (.iload_n 1, 1) := by decide +kernel
theorem dX4_log_29 : decode cX4_log 29 = .ok (.imul, 1) := by decide +kernel
theorem dX4_log_30 : decode cX4_log 30 = .ok (.iload_n 2, 1) := by decide +kernel
theorem dX4_log_31 : decode cX4_log 31 = .ok (.iadd, 1) := by decide +kernel
theorem dX4_log_32 : decode cX4_log 32 = .ok (.iaload, 1) := by decide +kernel
theorem dX4_log_33 : decode cX4_log 33 = .ok (.goto 4, 3) := by decide +kernel
theorem dX4_log_36 : decode cX4_log 36 = .ok (.iconst (-1), 1) := by decide +kernel
theorem dX4_log_37 : decode cX4_log 37 = .ok (.ireturn, 1) := by decide +kernel
theorem dX4_countOf_0 : decode cX4_countOf 0 = .ok (.iconst 0, 1) := by decide +kernel
theorem dX4_countOf_1 : decode cX4_countOf 1 = .ok (.istore_n 2, 1) := by decide +kernel
theorem dX4_countOf_2 : decode cX4_countOf 2 = .ok (.iconst 0, 1) := by decide +kernel
theorem dX4_countOf_3 : decode cX4_countOf 3 = .ok (.istore_n 3, 1) := by decide +kernel
theorem dX4_countOf_4 : decode cX4_countOf 4 = .ok (.iload_n 3, 1) := by decide +kernel
theorem dX4_countOf_5 : decode cX4_countOf 5 = .ok (.aload_n 0, 1) := by decide +kernel
theorem dX4_countOf_6 : decode cX4_countOf 6 = .ok (.getfield 111, 3) := by decide +kernel
theorem dX4_countOf_9 : decode cX4_countOf 9 = .ok (.if_icmp .ge 27, 3) := by decide +kernel
theorem dX4_countOf_12 : decode cX4_countOf 12 = .ok (.iload_n 2, 1) := by decide +kernel
theorem dX4_countOf_13 : decode cX4_countOf 13 = .ok (.aload_n 0, 1) := by decide +kernel
theorem dX4_countOf_14 : decode cX4_countOf 14 = .ok (.getfield 37, 3) := by decide +kernel
theorem dX4_countOf_17 : decode cX4_countOf 17 = .ok (.iload_n 3, 1) := by decide +kernel
theorem dX4_countOf_18 : decode cX4_countOf 18 = .ok (.iaload, 1) := by decide +kernel
theorem dX4_countOf_19 : decode cX4_countOf 19 = .ok (.iload_n 1, 1) := by decide +kernel
theorem dX4_countOf_20 : decode cX4_countOf 20 = .ok (.if_icmp .ne 7, 3) := by decide +kernel
theorem dX4_countOf_23 : decode cX4_countOf 23 = .ok (.iconst 1, 1) := by decide +kernel
theorem dX4_countOf_24 : decode cX4_countOf 24 = .ok (.goto 4, 3) := by decide +kernel
theorem dX4_countOf_27 : decode cX4_countOf 27 = .ok (.iconst 0, 1) := by decide +kernel
theorem dX4_countOf_28 : decode cX4_countOf 28 = .ok (.iadd, 1) := by decide +kernel
theorem dX4_countOf_29 : decode cX4_countOf 29 = .ok (.istore_n 2, 1) := by decide +kernel
theorem dX4_countOf_30 : decode cX4_countOf 30 = .ok (.iinc 3 1, 3) := by decide +kernel
theorem dX4_countOf_33 : decode cX4_countOf 33 = .ok (.goto (-29), 3) := by decide +kernel
theorem dX4_countOf_36 : decode cX4_countOf 36 = .ok (.iload_n 2, 1) := by decide +kernel
theorem dX4_countOf_37 : decode cX4_countOf 37 = .ok (.ireturn, 1) := by decide +kernel
set_option maxRecDepth 20000 in
theorem ggX4_count_X4_countOf : GoodIn wsX4_count wsX4_countOf := goodIn_r _ [11, 2, 12, 13, 14, 15, 16, 17, 18, 19, 20, 21, 22, 23, 24, 25, 26, 27, 28, 29, 30, 31, 32, 33, 34, 35, 36, 37, 38, 39, 40, 41, 42, 43, 44, 45, 46, 47, 48, 49, 50, 51] (by decide +kernel) (by decide +kernel)
set_option maxRecDepth 20000 in
theorem gX4_count_X4_countOf : GoodIn wsX4_count (wsV RX4 212 RX4 yX4_countOf wsX4_countOf) := goodIn_app (goodIn_of _ (by decide +kernel)) ggX4_count_X4_countOf
theorem dX4_count_0 : decode cX4_count 0 = .ok (.iload_n 1, 1) := by decide +kernel
theorem dX4_count_1 : decode cX4_count 1 = .ok (.tableswitch 105 0 8 #[51, 56, 61, 66, 71, 77, 83, 95, 100], 51) := by decide +kernel
theorem dX4_count_52 : decode cX4_count 52 = .ok (.aload_n 0, 1) := by decide +kernel
theorem dX4_count_53 : decode cX4_count 53 = .ok (.getfield 130, 3) := by decide +kernel
theorem dX4_count_56 : decode cX4_count 56 = .ok (.ireturn, 1) := by decide +kernel
theorem dX4_count_57 : decode cX4_count 57 = .ok (.aload_n 0, 1) := by decide +kernel
theorem dX4_count_58 : decode cX4_count 58 = .ok (.getfield 111, 3) := by decide +kernel
theorem dX4_count_61 : decode cX4_count 61 = .ok (.ireturn, 1) := by decide +kernel
theorem dX4_count_62 : decode cX4_count 62 = .ok (.aload_n 0, 1) := by decide +kernel
theorem dX4_count_63 : decode cX4_count 63 = .ok (.getfield 127, 3) := by decide +kernel
theorem dX4_count_66 : decode cX4_count 66 = .ok (.ireturn, 1) := by decide +kernel
theorem dX4_count_67 : decode cX4_count 67 = .ok (.aload_n 0, 1) := by decide +kernel
theorem dX4_count_68 : decode cX4_count 68 = .ok (.getfield 190, 3) := by decide +kernel
theorem dX4_count_71 : decode cX4_count 71 = .ok (.ireturn, 1) := by decide +kernel
theorem dX4_count_72 : decode cX4_count 72 = .ok (.aload_n 0, 1) := by decide +kernel
theorem dX4_count_73 : decode cX4_count 73 = .ok (.iconst 0, 1) := by decide +kernel
theorem dX4_count_74 : decode cX4_count 74 = .ok (.invokevirtual 212, 3) := by decide +kernel
theorem dX4_count_77 : decode cX4_count 77 = .ok (.ireturn, 1) := by decide +kernel
theorem dX4_count_78 : decode cX4_count 78 = .ok (.aload_n 0, 1) := by decide +kernel
theorem dX4_count_79 : decode cX4_count 79 = .ok (.iconst 1, 1) := by decide +kernel
theorem dX4_count_80 : decode cX4_count 80 = .ok (.invokevirtual 212, 3) := by decide +kernel
theorem dX4_count_83 : decode cX4_count 83 = .ok (.ireturn, 1) := by decide +kernel
theorem dX4_count_84 : decode cX4_count 84 = .ok (.aload_n 0, 1) := by decide +kernel
theorem dX4_count_85 : decode cX4_count 85 = .ok (.iconst 2, 1) := by decide +kernel
theorem dX4_count_86 : decode cX4_count 86 = .ok (.invokevirtual 212, 3) := by decide +kernel
theorem dX4_count_89 : decode cX4_count 89 = .ok (.aload_n 0, 1) := by decide +kernel
theorem dX4_count_90 : decode cX4_count 90 = .ok (.iconst 3, 1) := by decide +kernel
theorem dX4_count_91 : decode cX4_count 91 = .ok (.invokevirtual 212, 3) := by decide +kernel
theorem dX4_count_94 : decode cX4_count 94 = .ok (.iadd, 1) := by decide +kernel
theorem dX4_count_95 : decode cX4_count 95 = .ok (.ireturn, 1) := by decide +kernel
theorem dX4_count_96 : decode cX4_count 96 = .ok (.aload_n 0, 1) := by decide +kernel
theorem dX4_count_97 : decode cX4_count 97 = .ok (.getfield 184, 3) := by decide +kernel
theorem dX4_count_100 : decode cX4_count 100 = .ok (.ireturn, 1) := by decide +kernel
theorem dX4_count_101 : decode cX4_count 101 = .ok (.aload_n 0, 1) := by decide +kernel
theorem dX4_count_102 : decode cX4_count 102 = .ok (.getfield 205, 3) := by decide +kernel
theorem dX4_count_105 : decode cX4_count 105 = .ok (.ireturn, 1) := by decide +kernel
theorem dX4_count_106 : decode cX4_count 106 = .ok (.iconst (-1), 1) := by decide +kernel
theorem dX4_count_107 : decode cX4_count 107 = .ok (.ireturn, 1) := by decide +kernel
theorem dJ9_min_7cf53_0 : decode cJ9_min_7cf53 0 = .ok (.iload_n 0, 1) := by decide +kernel
theorem dJ9_min_7cf53_1 : decode cJ9_min_7cf53 1 = .ok (.iload_n 1, 1) := by decide +kernel
theorem dJ9_min_7cf53_2 : decode cJ9_min_7cf53 2 = .ok (.if_icmp .gt 7, 3) := by decide +kernel
theorem dJ9_min_7cf53_5 : decode cJ9_min_7cf53 5 = .ok (.iload_n 0, 1) := by decide +kernel
theorem dJ9_min_7cf53_6 : decode cJ9_min_7cf53 6 = .ok (.goto 4, 3) := by decide +kernel
theorem dJ9_min_7cf53_9 : decode cJ9_min_7cf53 9 = .ok (.iload_n 1, 1) := by decide +kernel
theorem dJ9_min_7cf53_10 : decode cJ9_min_7cf53 10 = .ok (.ireturn, 1) := by decide +kernel
theorem dJ7_fill_d0a16_0 : decode cJ7_fill_d0a16 0 = .ok (.iconst 0, 1) := by decide +kernel
theorem dJ7_fill_d0a16_1 : decode cJ7_fill_d0a16 1 = .ok (.istore_n 3, 1) := by decide +kernel
theorem dJ7_fill_d0a16_2 : decode cJ7_fill_d0a16 2 = .ok (.aload_n 0, 1) := by decide +kernel
theorem dJ7_fill_d0a16_3 : decode cJ7_fill_d0a16 3 = .ok (.arraylength, 1) := by decide +kernel
theorem dJ7_fill_d0a16_4 : decode cJ7_fill_d0a16 4 = .ok (.istore 4, 2) := by decide +kernel
theorem dJ7_fill_d0a16_6 : decode cJ7_fill_d0a16 6 = .ok (.iload_n 3, 1) := by decide +kernel
theorem dJ7_fill_d0a16_7 : decode cJ7_fill_d0a16 7 = .ok (.iload 4, 2) := by decide +kernel
theorem dJ7_fill_d0a16_9 : decode cJ7_fill_d0a16 9 = .ok (.if_icmp .ge 13, 3) := by decide +kernel
theorem dJ7_fill_d0a16_12 : decode cJ7_fill_d0a16 12 = .ok (.aload_n 0, 1) := by decide +kernel
theorem dJ7_fill_d0a16_13 : decode cJ7_fill_d0a16 13 = .ok (.iload_n 3, 1) := by decide +kernel
theorem dJ7_fill_d0a16_14 : decode cJ7_fill_d0a16 14 = .ok (.lload_n 1, 1) := by decide +kernel
theorem dJ7_fill_d0a16_15 : decode cJ7_fill_d0a16 15 = .ok (.lastore, 1) := by decide +kernel
theorem dJ7_fill_d0a16_16 : decode cJ7_fill_d0a16 16 = .ok (.iinc 3 1, 3) := by decide +kernel
theorem dJ7_fill_d0a16_19 : decode cJ7_fill_d0a16 19 = .ok (.goto (-13), 3) := by decide +kernel
theorem dJ7_fill_d0a16_22 : decode cJ7_fill_d0a16 22 = .ok (.return_, 1) := by decide +kernel
theorem dJ7_fill_53178_0 : decode cJ7_fill_53178 0 = .ok (.iconst 0, 1) := by decide +kernel
theorem dJ7_fill_53178_1 : decode cJ7_fill_53178 1 = .ok (.istore_n 2, 1) := by decide +kernel
theorem dJ7_fill_53178_2 : decode cJ7_fill_53178 2 = .ok (.aload_n 0, 1) := by decide +kernel
theorem dJ7_fill_53178_3 : decode cJ7_fill_53178 3 = .ok (.arraylength, 1) := by decide +kernel
theorem dJ7_fill_53178_4 : decode cJ7_fill_53178 4 = .ok (.istore_n 3, 1) := by decide +kernel
theorem dJ7_fill_53178_5 : decode cJ7_fill_53178 5 = .ok (.iload_n 2, 1) := by decide +kernel
theorem dJ7_fill_53178_6 : decode cJ7_fill_53178 6 = .ok (.iload_n 3, 1) := by decide +kernel
theorem dJ7_fill_53178_7 : decode cJ7_fill_53178 7 = .ok (.if_icmp .ge 13, 3) := by decide +kernel
theorem dJ7_fill_53178_10 : decode cJ7_fill_53178 10 = .ok (.aload_n 0, 1) := by decide +kernel
theorem dJ7_fill_53178_11 : decode cJ7_fill_53178 11 = .ok (.iload_n 2, 1) := by decide +kernel
theorem dJ7_fill_53178_12 : decode cJ7_fill_53178 12 = .ok (.iload_n 1, 1) := by decide +kernel
theorem dJ7_fill_53178_13 : decode cJ7_fill_53178 13 = .ok (.iastore, 1) := by decide +kernel
theorem dJ7_fill_53178_14 : decode cJ7_fill_53178 14 = .ok (.iinc 2 1, 3) := by decide +kernel
theorem dJ7_fill_53178_17 : decode cJ7_fill_53178 17 = .ok (.goto (-12), 3) := by decide +kernel
theorem dJ7_fill_53178_20 : decode cJ7_fill_53178 20 = .ok (.return_, 1) := by decide +kernel
theorem dJ7_copyOf_59c91_0 : decode cJ7_copyOf_59c91 0 = .ok (.iload_n 1, 1) := by decide +kernel
theorem dJ7_copyOf_59c91_1 : decode cJ7_copyOf_59c91 1 = .ok (.aload_n 0, 1) := by decide +kernel
theorem dJ7_copyOf_59c91_2 : decode cJ7_copyOf_59c91 2 = .ok (.arraylength, 1) := by decide +kernel
theorem dJ7_copyOf_59c91_3 : decode cJ7_copyOf_59c91 3 = .ok (.if_icmp .ne 11, 3) := by decide +kernel
theorem dJ7_copyOf_59c91_6 : decode cJ7_copyOf_59c91 6 = .ok (.aload_n 0, 1) := by decide +kernel
theorem dJ7_copyOf_59c91_7 : decode cJ7_copyOf_59c91 7 = .ok (.invokevirtual 316, 3) := by decide +kernel
theorem dJ7_copyOf_59c91_10 : decode cJ7_copyOf_59c91 10 = .ok (.checkcast 317, 3) := by decide +kernel
theorem dJ7_copyOf_59c91_13 : decode cJ7_copyOf_59c91 13 = .ok (.areturn, 1) := by decide +kernel
theorem dJ7_copyOf_59c91_14 : decode cJ7_copyOf_59c91 14 = .ok (.iload_n 1, 1) := by decide +kernel
theorem dJ7_copyOf_59c91_15 : decode cJ7_copyOf_59c91 15 = .ok (.newarray .int, 2) := by decide +kernel
theorem dJ7_copyOf_59c91_17 : decode cJ7_copyOf_59c91 17 = .ok (.astore_n 2, 1) := by decide +kernel
theorem dJ7_copyOf_59c91_18 : decode cJ7_copyOf_59c91 18 = .ok (.aload_n 0, 1) := by decide +kernel
theorem dJ7_copyOf_59c91_19 : decode cJ7_copyOf_59c91 19 = .ok (.iconst 0, 1) := by decide +kernel
theorem dJ7_copyOf_59c91_20 : decode cJ7_copyOf_59c91 20 = .ok (.aload_n 2, 1) := by decide +kernel
theorem dJ7_copyOf_59c91_21 : decode cJ7_copyOf_59c91 21 = .ok (.iconst 0, 1) := by decide +kernel
theorem dJ7_copyOf_59c91_22 : decode cJ7_copyOf_59c91 22 = .ok (.aload_n 0, 1) := by decide +kernel
theorem dJ7_copyOf_59c91_23 : decode cJ7_copyOf_59c91 23 = .ok (.arraylength, 1) := by decide +kernel
theorem dJ7_copyOf_59c91_24 : decode cJ7_copyOf_59c91 24 = .ok (.iload_n 1, 1) := by decide +kernel
theorem dJ7_copyOf_59c91_25 : decode cJ7_copyOf_59c91 25 = .ok (.invokestatic 304, 3) := by decide +kernel
theorem dJ7_copyOf_59c91_28 : decode cJ7_copyOf_59c91 28 = .ok (.invokestatic 150, 3) := by decide +kernel
theorem dJ7_copyOf_59c91_31 : decode cJ7_copyOf_59c91 31 = .ok (.aload_n 2, 1) := by decide +kernel
theorem dJ7_copyOf_59c91_32 : decode cJ7_copyOf_59c91 32 = .ok (.areturn, 1) := by decide +kernel
set_option maxRecDepth 20000 in
theorem ggL_law_X3_init : GoodIn wsL_law wsX3_init := goodIn_r _ [8, 9, 10, 11, 12, 13, 14, 15, 16, 17, 18, 19, 20, 21, 22, 23, 24, 25, 26, 27, 28, 29, 30, 31, 32, 33, 34, 35, 36, 37, 38, 39, 40, 41, 42, 43, 44, 45, 580, 581, 582, 583, 584, 585, 586, 587, 588, 589, 590, 591, 592, 593, 594, 595, 596, 597, 637, 638, 639, 640, 641, 642] (by decide +kernel) (by decide +kernel)

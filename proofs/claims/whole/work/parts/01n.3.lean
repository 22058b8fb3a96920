theorem dX9_thinks_5 : decode cX9_thinks 5 = .ok (.getfield 16, 3) := by decide +kernel
theorem dX9_thinks_8 : decode cX9_thinks 8 = .ok (.invokestatic 50, 3) := by decide +kernel
theorem dX9_thinks_11 : decode cX9_thinks 11 = .ok (.return_, 1) := by decide +kernel
set_option maxRecDepth 20000 in
theorem ggX9_putsBack_X9_copyAll : GoodIn wsX9_putsBack wsX9_copyAll := goodIn_r _ [6] (by decide +kernel) (by decide +kernel)
set_option maxRecDepth 20000 in
theorem gX9_putsBack_X9_copyAll : GoodIn wsX9_putsBack (va_wsS RX9 50 yX9_copyAll wsX9_copyAll) := goodIn_app (goodIn_of _ (by decide +kernel)) ggX9_putsBack_X9_copyAll
theorem dX9_putsBack_0 : decode cX9_putsBack 0 = .ok (.aload_n 0, 1) := by decide +kernel
theorem dX9_putsBack_1 : decode cX9_putsBack 1 = .ok (.getfield 16, 3) := by decide +kernel
theorem dX9_putsBack_4 : decode cX9_putsBack 4 = .ok (.aload_n 0, 1) := by decide +kernel
theorem dX9_putsBack_5 : decode cX9_putsBack 5 = .ok (.getfield 9, 3) := by decide +kernel
theorem dX9_putsBack_8 : decode cX9_putsBack 8 = .ok (.invokestatic 50, 3) := by decide +kernel
theorem dX9_putsBack_11 : decode cX9_putsBack 11 = .ok (.return_, 1) := by decide +kernel
set_option maxRecDepth 20000 in
theorem ggX9_isStep_X9_in : GoodIn wsX9_isStep wsX9_in := goodIn_r _ [5] (by decide +kernel) (by decide +kernel)
set_option maxRecDepth 20000 in
theorem gX9_isStep_X9_in : GoodIn wsX9_isStep (va_wsS RX9 54 yX9_in wsX9_in) := goodIn_app (goodIn_of _ (by decide +kernel)) ggX9_isStep_X9_in
theorem dX9_isStep_0 : decode cX9_isStep 0 = .ok (.iload_n 1, 1) := by decide +kernel
theorem dX9_isStep_1 : decode cX9_isStep 1 = .ok (.iconst 0, 1) := by decide +kernel
theorem dX9_isStep_2 : decode cX9_isStep 2 = .ok (.aload_n 0, 1) := by decide +kernel
theorem dX9_isStep_3 : decode cX9_isStep 3 = .ok (.getfield 9, 3) := by decide +kernel
theorem dX9_isStep_6 : decode cX9_isStep 6 = .ok (.iconst 2, 1) := by decide +kernel
theorem dX9_isStep_7 : decode cX9_isStep 7 = .ok (.iaload, 1) := by decide +kernel
theorem dX9_isStep_8 : decode cX9_isStep 8 = .ok (.iconst 1, 1) := by decide +kernel
theorem dX9_isStep_9 : decode cX9_isStep 9 = .ok (.isub, 1) := by decide +kernel
theorem dX9_isStep_10 : decode cX9_isStep 10 = .ok (.invokestatic 54, 3) := by decide +kernel
theorem dX9_isStep_13 : decode cX9_isStep 13 = .ok (.ireturn, 1) := by decide +kernel
set_option maxRecDepth 20000 in
theorem ggX9_isPerson_X9_in : GoodIn wsX9_isPerson wsX9_in := goodIn_r _ [5] (by decide +kernel) (by decide +kernel)
set_option maxRecDepth 20000 in
theorem gX9_isPerson_X9_in : GoodIn wsX9_isPerson (va_wsS RX9 54 yX9_in wsX9_in) := goodIn_app (goodIn_of _ (by decide +kernel)) ggX9_isPerson_X9_in
theorem dX9_isPerson_0 : decode cX9_isPerson 0 = .ok (.iload_n 1, 1) := by decide +kernel
theorem dX9_isPerson_1 : decode cX9_isPerson 1 = .ok (.iconst 0, 1) := by decide +kernel
theorem dX9_isPerson_2 : decode cX9_isPerson 2 = .ok (.aload_n 0, 1) := by decide +kernel
theorem dX9_isPerson_3 : decode cX9_isPerson 3 = .ok (.getfield 9, 3) := by decide +kernel
theorem dX9_isPerson_6 : decode cX9_isPerson 6 = .ok (.iconst 3, 1) := by decide +kernel
theorem dX9_isPerson_7 : decode cX9_isPerson 7 = .ok (.iaload, 1) := by decide +kernel
theorem dX9_isPerson_8 : decode cX9_isPerson 8 = .ok (.iconst 1, 1) := by decide +kernel
theorem dX9_isPerson_9 : decode cX9_isPerson 9 = .ok (.isub, 1) := by decide +kernel
theorem dX9_isPerson_10 : decode cX9_isPerson 10 = .ok (.invokestatic 54, 3) := by decide +kernel
theorem dX9_isPerson_13 : decode cX9_isPerson 13 = .ok (.ireturn, 1) := by decide +kernel
set_option maxRecDepth 20000 in
theorem ggX9_isWord_X9_in : GoodIn wsX9_isWord wsX9_in := goodIn_r _ [4] (by decide +kernel) (by decide +kernel)
set_option maxRecDepth 20000 in
theorem gX9_isWord_X9_in : GoodIn wsX9_isWord (va_wsS RX9 54 yX9_in wsX9_in) := goodIn_app (goodIn_of _ (by decide +kernel)) ggX9_isWord_X9_in
theorem dX9_isWord_0 : decode cX9_isWord 0 = .ok (.iload_n 0, 1) := by decide +kernel
theorem dX9_isWord_1 : decode cX9_isWord 1 = .ok (.iconst 0, 1) := by decide +kernel
theorem dX9_isWord_2 : decode cX9_isWord 2 = .ok (.bipush 99, 2) := by decide +kernel
theorem dX9_isWord_4 : decode cX9_isWord 4 = .ok (.invokestatic 54, 3) := by decide +kernel
theorem dX9_isWord_7 : decode cX9_isWord 7 = .ok (.ireturn, 1) := by decide +kernel
theorem dX9_becomes_0 : decode cX9_becomes 0 = .ok (.aload_n 0, 1) := by decide +kernel
theorem dX9_becomes_1 : decode cX9_becomes 1 = .ok (.getfield 9, 3) := by decide +kernel
theorem dX9_becomes_4 : decode cX9_becomes 4 = .ok (.iload_n 1, 1) := by decide +kernel
theorem dX9_becomes_5 : decode cX9_becomes 5 = .ok (.iaload, 1) := by decide +kernel
theorem dX9_becomes_6 : decode cX9_becomes 6 = .ok (.istore_n 3, 1) := by decide +kernel
theorem dX9_becomes_7 : decode cX9_becomes 7 = .ok (.aload_n 0, 1) := by decide +kernel
theorem dX9_becomes_8 : decode cX9_becomes 8 = .ok (.getfield 9, 3) := by decide +kernel
theorem dX9_becomes_11 : decode cX9_becomes 11 = .ok (.iload_n 1, 1) := by decide +kernel
theorem dX9_becomes_12 : decode cX9_becomes 12 = .ok (.iload_n 2, 1) := by decide +kernel
theorem dX9_becomes_13 : decode cX9_becomes 13 = .ok (.iastore, 1) := by decide +kernel
theorem dX9_becomes_14 : decode cX9_becomes 14 = .ok (.iload_n 3, 1) := by decide +kernel
theorem dX9_becomes_15 : decode cX9_becomes 15 = .ok (.ireturn, 1) := by decide +kernel
theorem dX9_of_0 : decode cX9_of 0 = .ok (.aload_n 0, 1) := by decide +kernel
theorem dX9_of_1 : decode cX9_of 1 = .ok (.getfield 9, 3) := by decide +kernel
theorem dX9_of_4 : decode cX9_of 4 = .ok (.bipush 6, 2) := by decide +kernel
theorem dX9_of_6 : decode cX9_of 6 = .ok (.iconst 3, 1) := by decide +kernel
theorem dX9_of_7 : decode cX9_of 7 = .ok (.iload_n 1, 1) := by decide +kernel
theorem dX9_of_8 : decode cX9_of 8 = .ok (.imul, 1) := by decide +kernel
theorem dX9_of_9 : decode cX9_of 9 = .ok (.iadd, 1) := by decide +kernel
theorem dX9_of_10 : decode cX9_of 10 = .ok (.iload_n 2, 1) := by decide +kernel
theorem dX9_of_11 : decode cX9_of 11 = .ok (.iadd, 1) := by decide +kernel
theorem dX9_of_12 : decode cX9_of 12 = .ok (.iaload, 1) := by decide +kernel
theorem dX9_of_13 : decode cX9_of 13 = .ok (.ireturn, 1) := by decide +kernel
theorem dX9_about_0 : decode cX9_about 0 = .ok (.aload_n 0, 1) := by decide +kernel
theorem dX9_about_1 : decode cX9_about 1 = .ok (.getfield 9, 3) := by decide +kernel
theorem dX9_about_4 : decode cX9_about 4 = .ok (.bipush 66, 2) := by decide +kernel
theorem dX9_about_6 : decode cX9_about 6 = .ok (.iconst 4, 1) := by decide +kernel
theorem dX9_about_7 : decode cX9_about 7 = .ok (.iload_n 1, 1) := by decide +kernel
theorem dX9_about_8 : decode cX9_about 8 = .ok (.imul, 1) := by decide +kernel
theorem dX9_about_9 : decode cX9_about 9 = .ok (.iadd, 1) := by decide +kernel
theorem dX9_about_10 : decode cX9_about 10 = .ok (.iload_n 2, 1) := by decide +kernel
theorem dX9_about_11 : decode cX9_about 11 = .ok (.iadd, 1) := by decide +kernel
theorem dX9_about_12 : decode cX9_about 12 = .ok (.iaload, 1) := by decide +kernel
theorem dX9_about_13 : decode cX9_about 13 = .ok (.ireturn, 1) := by decide +kernel
theorem dX9_lets_0 : decode cX9_lets 0 = .ok (.aload_n 0, 1) := by decide +kernel
theorem dX9_lets_1 : decode cX9_lets 1 = .ok (.getfield 9, 3) := by decide +kernel
theorem dX9_lets_4 : decode cX9_lets 4 = .ok (.bipush 66, 2) := by decide +kernel
theorem dX9_lets_6 : decode cX9_lets 6 = .ok (.iconst 4, 1) := by decide +kernel
theorem dX9_lets_7 : decode cX9_lets 7 = .ok (.iload_n 1, 1) := by decide +kernel
theorem dX9_lets_8 : decode cX9_lets 8 = .ok (.imul, 1) := by decide +kernel
theorem dX9_lets_9 : decode cX9_lets 9 = .ok (.iadd, 1) := by decide +kernel
theorem dX9_lets_10 : decode cX9_lets 10 = .ok (.iload_n 2, 1) := by decide +kernel
theorem dX9_lets_11 : decode cX9_lets 11 = .ok (.iadd, 1) := by decide +kernel
theorem dX9_lets_12 : decode cX9_lets 12 = .ok (.iload_n 3, 1) := by decide +kernel
theorem dX9_lets_13 : decode cX9_lets 13 = .ok (.iastore, 1) := by decide +kernel
theorem dX9_lets_14 : decode cX9_lets 14 = .ok (.return_, 1) := by decide +kernel
set_option maxRecDepth 20000 in
theorem ggX9_doesNod_X9_of : GoodIn wsX9_doesNod wsX9_of := goodIn_r _ [6, 1, 7, 8, 9, 10, 11, 12, 13, 14, 15, 16, 17, 18, 19, 20, 21, 22, 23, 24, 25, 26, 27] (by decide +kernel) (by decide +kernel)
set_option maxRecDepth 20000 in
theorem gX9_doesNod_X9_of : GoodIn wsX9_doesNod (wsV RX9 58 RX9 yX9_of wsX9_of) := goodIn_app (goodIn_of _ (by decide +kernel)) ggX9_doesNod_X9_of
theorem dX9_doesNod_0 : decode cX9_doesNod 0 = .ok (.aload_n 0, 1) := by decide +kernel
theorem dX9_doesNod_1 : decode cX9_doesNod 1 = .ok (.iload_n 1, 1) := by decide +kernel
theorem dX9_doesNod_2 : decode cX9_doesNod 2 = .ok (.iconst 1, 1) := by decide +kernel
theorem dX9_doesNod_3 : decode cX9_doesNod 3 = .ok (.invokevirtual 58, 3) := by decide +kernel
theorem dX9_doesNod_6 : decode cX9_doesNod 6 = .ok (.istore_n 3, 1) := by decide +kernel
theorem dX9_doesNod_7 : decode cX9_doesNod 7 = .ok (.iload_n 2, 1) := by decide +kernel
theorem dX9_doesNod_8 : decode cX9_doesNod 8 = .ok (.iconst 5, 1) := by decide +kernel
theorem dX9_doesNod_9 : decode cX9_doesNod 9 = .ok (.iload_n 3, 1) := by decide +kernel
theorem dX9_doesNod_10 : decode cX9_doesNod 10 = .ok (.imul, 1) := by decide +kernel
theorem dX9_doesNod_11 : decode cX9_doesNod 11 = .ok (.if_icmp .lt 7, 3) := by decide +kernel
theorem dX9_doesNod_14 : decode cX9_doesNod 14 = .ok (.iconst 1, 1) := by decide +kernel
theorem dX9_doesNod_15 : decode cX9_doesNod 15 = .ok (.goto 4, 3) := by decide +kernel
theorem dX9_doesNod_18 : decode cX9_doesNod 18 = .ok (.iconst 0, 1) := by decide +kernel
theorem dX9_doesNod_19 : decode cX9_doesNod 19 = .ok (.istore 4, 2) := by decide +kernel
theorem dX9_doesNod_21 : decode cX9_doesNod 21 = .ok (.iload 4, 2) := by decide +kernel
theorem dX9_doesNod_23 : decode cX9_doesNod 23 = .ok (.ifCond .eq 16, 3) := by decide +kernel
theorem dX9_doesNod_26 : decode cX9_doesNod 26 = .ok (.iload_n 2, 1) := by decide +kernel
theorem dX9_doesNod_27 : decode cX9_doesNod 27 = .ok (.iconst 3, 1) := by decide +kernel
theorem dX9_doesNod_28 : decode cX9_doesNod 28 = .ok (.irem, 1) := by decide +kernel
theorem dX9_doesNod_29 : decode cX9_doesNod 29 = .ok (.iload_n 3, 1) := by decide +kernel
theorem dX9_doesNod_30 : decode cX9_doesNod 30 = .ok (.iconst 3, 1) := by decide +kernel
theorem dX9_doesNod_31 : decode cX9_doesNod 31 = .ok (.irem, 1) := by decide +kernel
theorem dX9_doesNod_32 : decode cX9_doesNod 32 = .ok (.if_icmp .ne 7, 3) := by decide +kernel
theorem dX9_doesNod_35 : decode cX9_doesNod 35 = .ok (.iconst 1, 1) := by decide +kernel
theorem dX9_doesNod_36 : decode cX9_doesNod 36 = .ok (.goto 4, 3) := by decide +kernel
theorem dX9_doesNod_39 : decode cX9_doesNod 39 = .ok (.iconst 0, 1) := by decide +kernel
theorem dX9_doesNod_40 : decode cX9_doesNod 40 = .ok (.istore 5, 2) := by decide +kernel
theorem dX9_doesNod_42 : decode cX9_doesNod 42 = .ok (.iload 4, 2) := by decide +kernel
theorem dX9_doesNod_44 : decode cX9_doesNod 44 = .ok (.ifCond .ne 11, 3) := by decide +kernel
theorem dX9_doesNod_47 : decode cX9_doesNod 47 = .ok (.iload_n 2, 1) := by decide +kernel
theorem dX9_doesNod_48 : decode cX9_doesNod 48 = .ok (.bipush 10, 2) := by decide +kernel
theorem dX9_doesNod_50 : decode cX9_doesNod 50 = .ok (.irem, 1) := by decide +kernel
theorem dX9_doesNod_51 : decode cX9_doesNod 51 = .ok (.iload_n 3, 1) := by decide +kernel
theorem dX9_doesNod_52 : decode cX9_doesNod 52 = .ok (.if_icmp .ne 7, 3) := by decide +kernel
theorem dX9_doesNod_55 : decode cX9_doesNod 55 = .ok (.iconst 1, 1) := by decide +kernel
theorem dX9_doesNod_56 : decode cX9_doesNod 56 = .ok (.goto 4, 3) := by decide +kernel
theorem dX9_doesNod_59 : decode cX9_doesNod 59 = .ok (.iconst 0, 1) := by decide +kernel
theorem dX9_doesNod_60 : decode cX9_doesNod 60 = .ok (.istore 6, 2) := by decide +kernel
theorem dX9_doesNod_62 : decode cX9_doesNod 62 = .ok (.aload_n 0, 1) := by decide +kernel
theorem dX9_doesNod_63 : decode cX9_doesNod 63 = .ok (.iload_n 1, 1) := by decide +kernel
theorem dX9_doesNod_64 : decode cX9_doesNod 64 = .ok (.iconst 0, 1) := by decide +kernel
theorem dX9_doesNod_65 : decode cX9_doesNod 65 = .ok (.invokevirtual 58, 3) := by decide +kernel
theorem dX9_doesNod_68 : decode cX9_doesNod 68 = .ok (.tableswitch 126 1 6 #[40, 43, 46, 60, 85, 104], 40) := by decide +kernel
theorem dX9_doesNod_108 : decode cX9_doesNod 108 = .ok (.iload 5, 2) := by decide +kernel
theorem dX9_doesNod_110 : decode cX9_doesNod 110 = .ok (.ireturn, 1) := by decide +kernel
theorem dX9_doesNod_111 : decode cX9_doesNod 111 = .ok (.iload 6, 2) := by decide +kernel
theorem dX9_doesNod_113 : decode cX9_doesNod 113 = .ok (.ireturn, 1) := by decide +kernel
theorem dX9_doesNod_114 : decode cX9_doesNod 114 = .ok (.iload_n 2, 1) := by decide +kernel
theorem dX9_doesNod_115 : decode cX9_doesNod 115 = .ok (.bipush 7, 2) := by decide +kernel
theorem dX9_doesNod_117 : decode cX9_doesNod 117 = .ok (.iload_n 3, 1) := by decide +kernel
theorem dX9_doesNod_118 : decode cX9_doesNod 118 = .ok (.imul, 1) := by decide +kernel
theorem dX9_doesNod_119 : decode cX9_doesNod 119 = .ok (.if_icmp .ne 7, 3) := by decide +kernel
theorem dX9_doesNod_122 : decode cX9_doesNod 122 = .ok (.iconst 1, 1) := by decide +kernel
theorem dX9_doesNod_123 : decode cX9_doesNod 123 = .ok (.goto 4, 3) := by decide +kernel
theorem dX9_doesNod_126 : decode cX9_doesNod 126 = .ok (.iconst 0, 1) := by decide +kernel
theorem dX9_doesNod_127 : decode cX9_doesNod 127 = .ok (.ireturn, 1) := by decide +kernel
theorem dX9_doesNod_128 : decode cX9_doesNod 128 = .ok (.iload 5, 2) := by decide +kernel
theorem dX9_doesNod_130 : decode cX9_doesNod 130 = .ok (.ifCond .eq 21, 3) := by decide +kernel
theorem dX9_doesNod_133 : decode cX9_doesNod 133 = .ok (.aload_n 0, 1) := by decide +kernel
theorem dX9_doesNod_134 : decode cX9_doesNod 134 = .ok (.getfield 9, 3) := by decide +kernel
theorem dX9_doesNod_137 : decode cX9_doesNod 137 = .ok (.iconst 0, 1) := by decide +kernel
theorem dX9_doesNod_138 : decode cX9_doesNod 138 = .ok (.iaload, 1) := by decide +kernel
theorem dX9_doesNod_139 : decode cX9_doesNod 139 = .ok (.bipush 24, 2) := by decide +kernel
theorem dX9_doesNod_141 : decode cX9_doesNod 141 = .ok (.irem, 1) := by decide +kernel
theorem dX9_doesNod_142 : decode cX9_doesNod 142 = .ok (.bipush 12, 2) := by decide +kernel
theorem dX9_doesNod_144 : decode cX9_doesNod 144 = .ok (.if_icmp .lt 7, 3) := by decide +kernel
theorem dX9_doesNod_147 : decode cX9_doesNod 147 = .ok (.iconst 1, 1) := by decide +kernel
theorem dX9_doesNod_148 : decode cX9_doesNod 148 = .ok (.goto 4, 3) := by decide +kernel
theorem dX9_doesNod_151 : decode cX9_doesNod 151 = .ok (.iconst 0, 1) := by decide +kernel
theorem dX9_doesNod_152 : decode cX9_doesNod 152 = .ok (.ireturn, 1) := by decide +kernel
theorem dX9_doesNod_153 : decode cX9_doesNod 153 = .ok (.iload 6, 2) := by decide +kernel
theorem dX9_doesNod_155 : decode cX9_doesNod 155 = .ok (.ifCond .eq 15, 3) := by decide +kernel
theorem dX9_doesNod_158 : decode cX9_doesNod 158 = .ok (.iload_n 2, 1) := by decide +kernel
theorem dX9_doesNod_159 : decode cX9_doesNod 159 = .ok (.bipush 90, 2) := by decide +kernel
theorem dX9_doesNod_161 : decode cX9_doesNod 161 = .ok (.iload_n 1, 1) := by decide +kernel
theorem dX9_doesNod_162 : decode cX9_doesNod 162 = .ok (.isub, 1) := by decide +kernel
theorem dX9_doesNod_163 : decode cX9_doesNod 163 = .ok (.if_icmp .ge 7, 3) := by decide +kernel
theorem dX9_doesNod_166 : decode cX9_doesNod 166 = .ok (.iconst 1, 1) := by decide +kernel
theorem dX9_doesNod_167 : decode cX9_doesNod 167 = .ok (.goto 4, 3) := by decide +kernel
theorem dX9_doesNod_170 : decode cX9_doesNod 170 = .ok (.iconst 0, 1) := by decide +kernel
theorem dX9_doesNod_171 : decode cX9_doesNod 171 = .ok (.ireturn, 1) := by decide +kernel
theorem dX9_doesNod_172 : decode cX9_doesNod 172 = .ok (.iload 4, 2) := by decide +kernel
theorem dX9_doesNod_174 : decode cX9_doesNod 174 = .ok (.ifCond .eq 18, 3) := by decide +kernel
theorem dX9_doesNod_177 : decode cX9_doesNod 177 = .ok (.aload_n 0, 1) := by decide +kernel
theorem dX9_doesNod_178 : decode cX9_doesNod 178 = .ok (.iload_n 1, 1) := by decide +kernel
theorem dX9_doesNod_179 : decode cX9_doesNod 179 = .ok (.iconst 2, 1) := by decide +kernel
theorem dX9_doesNod_180 : decode cX9_doesNod 180 = .ok (.invokevirtual 58, 3) := by decide +kernel
theorem dX9_doesNod_183 : decode cX9_doesNod 183 = .ok (.iconst 2, 1) := by decide +kernel
theorem dX9_doesNod_184 : decode cX9_doesNod 184 = .ok (.irem, 1) := by decide +kernel
theorem dX9_doesNod_185 : decode cX9_doesNod 185 = .ok (.ifCond .ne 7, 3) := by decide +kernel
theorem dX9_doesNod_188 : decode cX9_doesNod 188 = .ok (.iconst 1, 1) := by decide +kernel
theorem dX9_doesNod_189 : decode cX9_doesNod 189 = .ok (.goto 4, 3) := by decide +kernel
theorem dX9_doesNod_192 : decode cX9_doesNod 192 = .ok (.iconst 0, 1) := by decide +kernel
theorem dX9_doesNod_193 : decode cX9_doesNod 193 = .ok (.ireturn, 1) := by decide +kernel
theorem dX9_doesNod_194 : decode cX9_doesNod 194 = .ok (.iload 4, 2) := by decide +kernel
theorem dX9_doesNod_196 : decode cX9_doesNod 196 = .ok (.ireturn, 1) := by decide +kernel
set_option maxRecDepth 20000 in
theorem ggX9_isContent_X9_doesNod : GoodIn wsX9_isContent wsX9_doesNod := goodIn_r _ [5, 6, 7, 8, 9, 4, 10, 27, 28, 29, 30, 31, 32, 33, 34, 35, 36, 37, 38, 39, 40, 41, 42, 43, 44, 45, 46, 47] (by decide +kernel) (by decide +kernel)
set_option maxRecDepth 20000 in
theorem gX9_isContent_X9_doesNod : GoodIn wsX9_isContent (wsV RX9 62 RX9 yX9_doesNod wsX9_doesNod) := goodIn_app (goodIn_of _ (by decide +kernel)) ggX9_isContent_X9_doesNod
set_option maxRecDepth 20000 in
theorem ggX9_isContent_X9_of : GoodIn wsX9_isContent wsX9_of := goodIn_r _ [10, 6, 27, 28, 29, 30, 31, 32, 33, 34, 35, 36, 37, 38, 39, 40, 41, 42, 43, 44, 45, 46, 47] (by decide +kernel) (by decide +kernel)
set_option maxRecDepth 20000 in
theorem gX9_isContent_X9_of : GoodIn wsX9_isContent (wsV RX9 58 RX9 yX9_of wsX9_of) := goodIn_app (goodIn_of _ (by decide +kernel)) ggX9_isContent_X9_of
set_option maxRecDepth 20000 in
theorem ggX9_isContent_X9_gives : GoodIn wsX9_isContent wsX9_gives := goodIn_r _ [14, 15, 6, 16, 17, 18, 4, 19, 20, 21, 22, 23, 24, 25, 26, 27, 28, 29, 30, 31, 32, 33, 34, 35, 36, 37, 38, 39, 40, 41, 42, 43, 44, 45, 46, 47] (by decide +kernel) (by decide +kernel)
set_option maxRecDepth 20000 in
theorem gX9_isContent_X9_gives : GoodIn wsX9_isContent (wsV RX9 66 RX9 yX9_gives wsX9_gives) := goodIn_app (goodIn_of _ (by decide +kernel)) ggX9_isContent_X9_gives
theorem dX9_isContent_0 : decode cX9_isContent 0 = .ok (.aload_n 0, 1) := by decide +kernel
theorem dX9_isContent_1 : decode cX9_isContent 1 = .ok (.iload_n 1, 1) := by decide +kernel
theorem dX9_isContent_2 : decode cX9_isContent 2 = .ok (.iload_n 2, 1) := by decide +kernel
theorem dX9_isContent_3 : decode cX9_isContent 3 = .ok (.invokevirtual 62, 3) := by decide +kernel
theorem dX9_isContent_6 : decode cX9_isContent 6 = .ok (.ifCond .eq 24, 3) := by decide +kernel
theorem dX9_isContent_9 : decode cX9_isContent 9 = .ok (.aload_n 0, 1) := by decide +kernel
theorem dX9_isContent_10 : decode cX9_isContent 10 = .ok (.iconst 0, 1) := by decide +kernel
theorem dX9_isContent_11 : decode cX9_isContent 11 = .ok (.iload_n 2, 1) := by decide +kernel
theorem dX9_isContent_12 : decode cX9_isContent 12 = .ok (.iload_n 1, 1) := by decide +kernel
theorem dX9_isContent_13 : decode cX9_isContent 13 = .ok (.aload_n 0, 1) := by decide +kernel
theorem dX9_isContent_14 : decode cX9_isContent 14 = .ok (.iload_n 1, 1) := by decide +kernel
theorem dX9_isContent_15 : decode cX9_isContent 15 = .ok (.iconst 1, 1) := by decide +kernel
theorem dX9_isContent_16 : decode cX9_isContent 16 = .ok (.invokevirtual 58, 3) := by decide +kernel
theorem dX9_isContent_19 : decode cX9_isContent 19 = .ok (.invokevirtual 66, 3) := by decide +kernel
theorem dX9_isContent_22 : decode cX9_isContent 22 = .ok (.iconst 1, 1) := by decide +kernel
theorem dX9_isContent_23 : decode cX9_isContent 23 = .ok (.if_icmp .ne 7, 3) := by decide +kernel
theorem dX9_isContent_26 : decode cX9_isContent 26 = .ok (.iconst 1, 1) := by decide +kernel
theorem dX9_isContent_27 : decode cX9_isContent 27 = .ok (.goto 4, 3) := by decide +kernel
theorem dX9_isContent_30 : decode cX9_isContent 30 = .ok (.iconst 0, 1) := by decide +kernel
theorem dX9_isContent_31 : decode cX9_isContent 31 = .ok (.ireturn, 1) := by decide +kernel
set_option maxRecDepth 20000 in
theorem ggX9_wantsOf_X9_of : GoodIn wsX9_wantsOf wsX9_of := goodIn_r _ [5, 6, 7, 8, 9, 10, 11, 12, 13, 14, 15, 16, 17, 18, 19, 20, 21, 22, 23, 24, 25, 26, 27] (by decide +kernel) (by decide +kernel)
set_option maxRecDepth 20000 in
theorem gX9_wantsOf_X9_of : GoodIn wsX9_wantsOf (wsV RX9 58 RX9 yX9_of wsX9_of) := goodIn_app (goodIn_of _ (by decide +kernel)) ggX9_wantsOf_X9_of
theorem dX9_wantsOf_0 : decode cX9_wantsOf 0 = .ok (.bipush 10, 2) := by decide +kernel
theorem dX9_wantsOf_2 : decode cX9_wantsOf 2 = .ok (.aload_n 0, 1) := by decide +kernel
theorem dX9_wantsOf_3 : decode cX9_wantsOf 3 = .ok (.iload_n 1, 1) := by decide +kernel
theorem dX9_wantsOf_4 : decode cX9_wantsOf 4 = .ok (.iconst 2, 1) := by decide +kernel
theorem dX9_wantsOf_5 : decode cX9_wantsOf 5 = .ok (.invokevirtual 58, 3) := by decide +kernel
theorem dX9_wantsOf_8 : decode cX9_wantsOf 8 = .ok (.bipush 10, 2) := by decide +kernel
theorem dX9_wantsOf_10 : decode cX9_wantsOf 10 = .ok (.irem, 1) := by decide +kernel
theorem dX9_wantsOf_11 : decode cX9_wantsOf 11 = .ok (.iadd, 1) := by decide +kernel
theorem dX9_wantsOf_12 : decode cX9_wantsOf 12 = .ok (.istore_n 2, 1) := by decide +kernel
theorem dX9_wantsOf_13 : decode cX9_wantsOf 13 = .ok (.iload_n 2, 1) := by decide +kernel
theorem dX9_wantsOf_14 : decode cX9_wantsOf 14 = .ok (.aload_n 0, 1) := by decide +kernel
theorem dX9_wantsOf_15 : decode cX9_wantsOf 15 = .ok (.iload_n 1, 1) := by decide +kernel
theorem dX9_wantsOf_16 : decode cX9_wantsOf 16 = .ok (.iconst 1, 1) := by decide +kernel
theorem dX9_wantsOf_17 : decode cX9_wantsOf 17 = .ok (.invokevirtual 58, 3) := by decide +kernel
theorem dX9_wantsOf_20 : decode cX9_wantsOf 20 = .ok (.iadd, 1) := by decide +kernel
theorem dX9_wantsOf_21 : decode cX9_wantsOf 21 = .ok (.istore_n 3, 1) := by decide +kernel
theorem dX9_wantsOf_22 : decode cX9_wantsOf 22 = .ok (.aload_n 0, 1) := by decide +kernel
theorem dX9_wantsOf_23 : decode cX9_wantsOf 23 = .ok (.iload_n 1, 1) := by decide +kernel
theorem dX9_wantsOf_24 : decode cX9_wantsOf 24 = .ok (.iconst 0, 1) := by decide +kernel
theorem dX9_wantsOf_25 : decode cX9_wantsOf 25 = .ok (.invokevirtual 58, 3) := by decide +kernel
theorem dX9_wantsOf_28 : decode cX9_wantsOf 28 = .ok (.tableswitch 62 1 6 #[40, 42, 46, 50, 54, 60], 40) := by decide +kernel
theorem dX9_wantsOf_68 : decode cX9_wantsOf 68 = .ok (.iload_n 3, 1) := by decide +kernel
theorem dX9_wantsOf_69 : decode cX9_wantsOf 69 = .ok (.ireturn, 1) := by decide +kernel
theorem dX9_wantsOf_70 : decode cX9_wantsOf 70 = .ok (.iload_n 2, 1) := by decide +kernel
theorem dX9_wantsOf_71 : decode cX9_wantsOf 71 = .ok (.iconst 2, 1) := by decide +kernel
theorem dX9_wantsOf_72 : decode cX9_wantsOf 72 = .ok (.idiv, 1) := by decide +kernel
theorem dX9_wantsOf_73 : decode cX9_wantsOf 73 = .ok (.ireturn, 1) := by decide +kernel
theorem dX9_wantsOf_74 : decode cX9_wantsOf 74 = .ok (.iconst 2, 1) := by decide +kernel
theorem dX9_wantsOf_75 : decode cX9_wantsOf 75 = .ok (.iload_n 2, 1) := by decide +kernel
theorem dX9_wantsOf_76 : decode cX9_wantsOf 76 = .ok (.imul, 1) := by decide +kernel
theorem dX9_wantsOf_77 : decode cX9_wantsOf 77 = .ok (.ireturn, 1) := by decide +kernel
theorem dX9_wantsOf_78 : decode cX9_wantsOf 78 = .ok (.iload_n 3, 1) := by decide +kernel
theorem dX9_wantsOf_79 : decode cX9_wantsOf 79 = .ok (.iload_n 1, 1) := by decide +kernel
theorem dX9_wantsOf_80 : decode cX9_wantsOf 80 = .ok (.iadd, 1) := by decide +kernel
theorem dX9_wantsOf_81 : decode cX9_wantsOf 81 = .ok (.ireturn, 1) := by decide +kernel
theorem dX9_wantsOf_82 : decode cX9_wantsOf 82 = .ok (.iload_n 2, 1) := by decide +kernel
theorem dX9_wantsOf_83 : decode cX9_wantsOf 83 = .ok (.iconst 2, 1) := by decide +kernel
theorem dX9_wantsOf_84 : decode cX9_wantsOf 84 = .ok (.idiv, 1) := by decide +kernel
theorem dX9_wantsOf_85 : decode cX9_wantsOf 85 = .ok (.iconst 1, 1) := by decide +kernel
theorem dX9_wantsOf_86 : decode cX9_wantsOf 86 = .ok (.isub, 1) := by decide +kernel
theorem dX9_wantsOf_87 : decode cX9_wantsOf 87 = .ok (.ireturn, 1) := by decide +kernel
theorem dX9_wantsOf_88 : decode cX9_wantsOf 88 = .ok (.iconst 0, 1) := by decide +kernel
theorem dX9_wantsOf_89 : decode cX9_wantsOf 89 = .ok (.ireturn, 1) := by decide +kernel
theorem dX9_wantsOf_90 : decode cX9_wantsOf 90 = .ok (.iload_n 2, 1) := by decide +kernel
theorem dX9_wantsOf_91 : decode cX9_wantsOf 91 = .ok (.ireturn, 1) := by decide +kernel
set_option maxRecDepth 20000 in
theorem ggX9_bribeOf_X9_wantsOf : GoodIn wsX9_bribeOf wsX9_wantsOf := goodIn_r _ [5, 6, 7, 8, 4, 9, 10, 27, 28, 29, 30, 31, 32, 33, 34, 35, 36, 37, 38, 39, 40, 41, 42, 43, 44, 45, 46, 47] (by decide +kernel) (by decide +kernel)
set_option maxRecDepth 20000 in
theorem gX9_bribeOf_X9_wantsOf : GoodIn wsX9_bribeOf (wsV RX9 70 RX9 yX9_wantsOf wsX9_wantsOf) := goodIn_app (goodIn_of _ (by decide +kernel)) ggX9_bribeOf_X9_wantsOf
set_option maxRecDepth 20000 in
theorem ggX9_bribeOf_X9_of : GoodIn wsX9_bribeOf wsX9_of := goodIn_r _ [9, 10, 27, 28, 29, 30, 31, 32, 33, 34, 35, 36, 37, 38, 39, 40, 41, 42, 43, 44, 45, 46, 47] (by decide +kernel) (by decide +kernel)
set_option maxRecDepth 20000 in
theorem gX9_bribeOf_X9_of : GoodIn wsX9_bribeOf (wsV RX9 58 RX9 yX9_of wsX9_of) := goodIn_app (goodIn_of _ (by decide +kernel)) ggX9_bribeOf_X9_of
set_option maxRecDepth 20000 in
theorem ggX9_bribeOf_X9_gives : GoodIn wsX9_bribeOf wsX9_gives := goodIn_r _ [14, 15, 10, 16, 17, 18, 4, 19, 20, 21, 22, 23, 24, 25, 26, 27, 28, 29, 30, 31, 32, 33, 34, 35, 36, 37, 38, 39, 40, 41, 42, 43, 44, 45, 46, 47] (by decide +kernel) (by decide +kernel)
set_option maxRecDepth 20000 in
theorem gX9_bribeOf_X9_gives : GoodIn wsX9_bribeOf (wsV RX9 66 RX9 yX9_gives wsX9_gives) := goodIn_app (goodIn_of _ (by decide +kernel)) ggX9_bribeOf_X9_gives
theorem dX9_bribeOf_0 : decode cX9_bribeOf 0 = .ok (.aload_n 0, 1) := by decide +kernel
theorem dX9_bribeOf_1 : decode cX9_bribeOf 1 = .ok (.iconst 1, 1) := by decide +kernel
theorem dX9_bribeOf_2 : decode cX9_bribeOf 2 = .ok (.aload_n 0, 1) := by decide +kernel
theorem dX9_bribeOf_3 : decode cX9_bribeOf 3 = .ok (.iload_n 1, 1) := by decide +kernel
theorem dX9_bribeOf_4 : decode cX9_bribeOf 4 = .ok (.invokevirtual 70, 3) := by decide +kernel
theorem dX9_bribeOf_7 : decode cX9_bribeOf 7 = .ok (.iload_n 1, 1) := by decide +kernel
theorem dX9_bribeOf_8 : decode cX9_bribeOf 8 = .ok (.aload_n 0, 1) := by decide +kernel
theorem dX9_bribeOf_9 : decode cX9_bribeOf 9 = .ok (.iload_n 1, 1) := by decide +kernel
theorem dX9_bribeOf_10 : decode cX9_bribeOf 10 = .ok (.iconst 0, 1) := by decide +kernel
theorem dX9_bribeOf_11 : decode cX9_bribeOf 11 = .ok (.invokevirtual 58, 3) := by decide +kernel
theorem dX9_bribeOf_14 : decode cX9_bribeOf 14 = .ok (.invokevirtual 66, 3) := by decide +kernel
theorem dX9_bribeOf_17 : decode cX9_bribeOf 17 = .ok (.ireturn, 1) := by decide +kernel
set_option maxRecDepth 20000 in
theorem ggX9_isKm_X9_in : GoodIn wsX9_isKm wsX9_in := goodIn_r _ [4] (by decide +kernel) (by decide +kernel)
set_option maxRecDepth 20000 in
theorem gX9_isKm_X9_in : GoodIn wsX9_isKm (va_wsS RX9 54 yX9_in wsX9_in) := goodIn_app (goodIn_of _ (by decide +kernel)) ggX9_isKm_X9_in
theorem dX9_isKm_0 : decode cX9_isKm 0 = .ok (.iload_n 0, 1) := by decide +kernel
theorem dX9_isKm_1 : decode cX9_isKm 1 = .ok (.iconst 0, 1) := by decide +kernel
theorem dX9_isKm_2 : decode cX9_isKm 2 = .ok (.bipush 69, 2) := by decide +kernel
theorem dX9_isKm_4 : decode cX9_isKm 4 = .ok (.invokestatic 54, 3) := by decide +kernel
theorem dX9_isKm_7 : decode cX9_isKm 7 = .ok (.ireturn, 1) := by decide +kernel
set_option maxRecDepth 20000 in
theorem ggX9_step_X9_isKm : GoodIn wsX9_step wsX9_isKm := goodIn_r _ [7, 8, 9, 6, 10] (by decide +kernel) (by decide +kernel)
set_option maxRecDepth 20000 in
theorem gX9_step_X9_isKm : GoodIn wsX9_step (va_wsS RX9 74 yX9_isKm wsX9_isKm) := goodIn_app (goodIn_of _ (by decide +kernel)) ggX9_step_X9_isKm
set_option maxRecDepth 20000 in
theorem ggX9_step_X9_error : GoodIn wsX9_step wsX9_error := goodIn_r _ [14, 15, 16, 17, 18, 19, 20, 21, 22, 23, 24, 25, 26, 27, 28, 29, 30, 31, 32, 33, 34, 35, 36, 37] (by decide +kernel) (by decide +kernel)
set_option maxRecDepth 20000 in
theorem gX9_step_X9_error : GoodIn wsX9_step (wsV RX9 79 RX9 yX9_error wsX9_error) := goodIn_app (goodIn_of _ (by decide +kernel)) ggX9_step_X9_error
theorem dX9_step_0 : decode cX9_step 0 = .ok (.iload_n 1, 1) := by decide +kernel
theorem dX9_step_1 : decode cX9_step 1 = .ok (.invokestatic 74, 3) := by decide +kernel
theorem dX9_step_4 : decode cX9_step 4 = .ok (.ifCond .ne 10, 3) := by decide +kernel
theorem dX9_step_7 : decode cX9_step 7 = .ok (.aload_n 0, 1) := by decide +kernel
theorem dX9_step_8 : decode cX9_step 8 = .ok (.ldc 78, 2) := by decide +kernel
theorem dX9_step_10 : decode cX9_step 10 = .ok (.invokevirtual 79, 3) := by decide +kernel
theorem dX9_step_13 : decode cX9_step 13 = .ok (.ireturn, 1) := by decide +kernel
theorem dX9_step_14 : decode cX9_step 14 = .ok (.aload_n 0, 1) := by decide +kernel
theorem dX9_step_15 : decode cX9_step 15 = .ok (.getfield 9, 3) := by decide +kernel
theorem dX9_step_18 : decode cX9_step 18 = .ok (.iconst 2, 1) := by decide +kernel
theorem dX9_step_19 : decode cX9_step 19 = .ok (.iaload, 1) := by decide +kernel
theorem dX9_step_20 : decode cX9_step 20 = .ok (.istore_n 2, 1) := by decide +kernel
theorem dX9_step_21 : decode cX9_step 21 = .ok (.iload_n 2, 1) := by decide +kernel
theorem dX9_step_22 : decode cX9_step 22 = .ok (.bipush 20, 2) := by decide +kernel
theorem dX9_step_24 : decode cX9_step 24 = .ok (.if_icmp .ne 10, 3) := by decide +kernel
theorem dX9_step_27 : decode cX9_step 27 = .ok (.aload_n 0, 1) := by decide +kernel
theorem dX9_step_28 : decode cX9_step 28 = .ok (.ldc 82, 2) := by decide +kernel
theorem dX9_step_30 : decode cX9_step 30 = .ok (.invokevirtual 79, 3) := by decide +kernel
theorem dX9_step_33 : decode cX9_step 33 = .ok (.ireturn, 1) := by decide +kernel
theorem dX9_step_34 : decode cX9_step 34 = .ok (.aload_n 0, 1) := by decide +kernel
theorem dX9_step_35 : decode cX9_step 35 = .ok (.getfield 9, 3) := by decide +kernel
theorem dX9_step_38 : decode cX9_step 38 = .ok (.iconst 2, 1) := by decide +kernel
theorem dX9_step_39 : decode cX9_step 39 = .ok (.dup2, 1) := by decide +kernel
theorem dX9_step_40 : decode cX9_step 40 = .ok (.iaload, 1) := by decide +kernel
theorem dX9_step_41 : decode cX9_step 41 = .ok (.iconst 1, 1) := by decide +kernel
theorem dX9_step_42 : decode cX9_step 42 = .ok (.iadd, 1) := by decide +kernel
theorem dX9_step_43 : decode cX9_step 43 = .ok (.iastore, 1) := by decide +kernel
theorem dX9_step_44 : decode cX9_step 44 = .ok (.aload_n 0, 1) := by decide +kernel
theorem dX9_step_45 : decode cX9_step 45 = .ok (.getfield 9, 3) := by decide +kernel
theorem dX9_step_48 : decode cX9_step 48 = .ok (.bipush 6, 2) := by decide +kernel
theorem dX9_step_50 : decode cX9_step 50 = .ok (.iconst 3, 1) := by decide +kernel
theorem dX9_step_51 : decode cX9_step 51 = .ok (.iload_n 2, 1) := by decide +kernel
theorem dX9_step_52 : decode cX9_step 52 = .ok (.imul, 1) := by decide +kernel
theorem dX9_step_53 : decode cX9_step 53 = .ok (.iadd, 1) := by decide +kernel
theorem dX9_step_54 : decode cX9_step 54 = .ok (.iload_n 1, 1) := by decide +kernel
theorem dX9_step_55 : decode cX9_step 55 = .ok (.bipush 10, 2) := by decide +kernel
theorem dX9_step_57 : decode cX9_step 57 = .ok (.idiv, 1) := by decide +kernel
theorem dX9_step_58 : decode cX9_step 58 = .ok (.iastore, 1) := by decide +kernel
theorem dX9_step_59 : decode cX9_step 59 = .ok (.aload_n 0, 1) := by decide +kernel
theorem dX9_step_60 : decode cX9_step 60 = .ok (.getfield 9, 3) := by decide +kernel
theorem dX9_step_63 : decode cX9_step 63 = .ok (.bipush 6, 2) := by decide +kernel
theorem dX9_step_65 : decode cX9_step 65 = .ok (.iconst 3, 1) := by decide +kernel
theorem dX9_step_66 : decode cX9_step 66 = .ok (.iload_n 2, 1) := by decide +kernel
theorem dX9_step_67 : decode cX9_step 67 = .ok (.imul, 1) := by decide +kernel
theorem dX9_step_68 : decode cX9_step 68 = .ok (.iadd, 1) := by decide +kernel
theorem dX9_step_69 : decode cX9_step 69 = .ok (.iconst 1, 1) := by decide +kernel
theorem dX9_step_70 : decode cX9_step 70 = .ok (.iadd, 1) := by decide +kernel
theorem dX9_step_71 : decode cX9_step 71 = .ok (.iload_n 1, 1) := by decide +kernel
theorem dX9_step_72 : decode cX9_step 72 = .ok (.bipush 10, 2) := by decide +kernel
theorem dX9_step_74 : decode cX9_step 74 = .ok (.irem, 1) := by decide +kernel
theorem dX9_step_75 : decode cX9_step 75 = .ok (.iastore, 1) := by decide +kernel
theorem dX9_step_76 : decode cX9_step 76 = .ok (.aload_n 0, 1) := by decide +kernel
theorem dX9_step_77 : decode cX9_step 77 = .ok (.getfield 9, 3) := by decide +kernel
theorem dX9_step_80 : decode cX9_step 80 = .ok (.bipush 6, 2) := by decide +kernel
theorem dX9_step_82 : decode cX9_step 82 = .ok (.iconst 3, 1) := by decide +kernel
theorem dX9_step_83 : decode cX9_step 83 = .ok (.iload_n 2, 1) := by decide +kernel
theorem dX9_step_84 : decode cX9_step 84 = .ok (.imul, 1) := by decide +kernel
theorem dX9_step_85 : decode cX9_step 85 = .ok (.iadd, 1) := by decide +kernel
theorem dX9_step_86 : decode cX9_step 86 = .ok (.iconst 2, 1) := by decide +kernel
theorem dX9_step_87 : decode cX9_step 87 = .ok (.iadd, 1) := by decide +kernel
theorem dX9_step_88 : decode cX9_step 88 = .ok (.iconst 0, 1) := by decide +kernel
theorem dX9_step_89 : decode cX9_step 89 = .ok (.iastore, 1) := by decide +kernel
theorem dX9_step_90 : decode cX9_step 90 = .ok (.iload_n 2, 1) := by decide +kernel
theorem dX9_step_91 : decode cX9_step 91 = .ok (.ireturn, 1) := by decide +kernel
set_option maxRecDepth 20000 in
theorem ggX9_stepIs_X9_isStep : GoodIn wsX9_stepIs wsX9_isStep := goodIn_r _ [6, 7, 8, 9, 5, 10, 45, 46, 47, 48, 49, 50, 51, 52, 53, 54, 55, 56, 57, 58, 59, 60, 61, 62, 63, 64, 65] (by decide +kernel) (by decide +kernel)
set_option maxRecDepth 20000 in
theorem gX9_stepIs_X9_isStep : GoodIn wsX9_stepIs (wsV RX9 83 RX9 yX9_isStep wsX9_isStep) := goodIn_app (goodIn_of _ (by decide +kernel)) ggX9_stepIs_X9_isStep
set_option maxRecDepth 20000 in
theorem ggX9_stepIs_X9_in : GoodIn wsX9_stepIs wsX9_in := goodIn_r _ [10] (by decide +kernel) (by decide +kernel)
set_option maxRecDepth 20000 in
theorem gX9_stepIs_X9_in : GoodIn wsX9_stepIs (va_wsS RX9 54 yX9_in wsX9_in) := goodIn_app (goodIn_of _ (by decide +kernel)) ggX9_stepIs_X9_in
set_option maxRecDepth 20000 in
theorem ggX9_stepIs_X9_error : GoodIn wsX9_stepIs wsX9_error := goodIn_r _ [14, 15, 16, 45, 46, 47, 48, 49, 50, 51, 52, 53, 54, 55, 56, 57, 58, 59, 60, 61, 62, 63, 64, 65] (by decide +kernel) (by decide +kernel)
set_option maxRecDepth 20000 in
theorem gX9_stepIs_X9_error : GoodIn wsX9_stepIs (wsV RX9 79 RX9 yX9_error wsX9_error) := goodIn_app (goodIn_of _ (by decide +kernel)) ggX9_stepIs_X9_error
set_option maxRecDepth 20000 in
theorem ggX9_stepIs_X9_of : GoodIn wsX9_stepIs wsX9_of := goodIn_r _ [20, 7, 45, 46, 47, 48, 49, 50, 51, 52, 53, 54, 55, 56, 57, 58, 59, 60, 61, 62, 63, 64, 65] (by decide +kernel) (by decide +kernel)
set_option maxRecDepth 20000 in
theorem gX9_stepIs_X9_of : GoodIn wsX9_stepIs (wsV RX9 58 RX9 yX9_of wsX9_of) := goodIn_app (goodIn_of _ (by decide +kernel)) ggX9_stepIs_X9_of
set_option maxRecDepth 20000 in
theorem ggX9_stepIs_X9_bribeOf : GoodIn wsX9_stepIs wsX9_bribeOf := goodIn_r _ [24, 25, 26, 27, 5, 28, 17, 18, 19, 20, 7, 29, 30, 31, 32, 33, 34, 35, 36, 37, 38, 39, 40, 41, 42, 43, 44, 45, 46, 47, 48, 49, 50, 51, 52, 53, 54, 55, 56, 57, 58, 59, 60, 61, 62, 63, 64, 65] (by decide +kernel) (by decide +kernel)
set_option maxRecDepth 20000 in
theorem gX9_stepIs_X9_bribeOf : GoodIn wsX9_stepIs (wsV RX9 86 RX9 yX9_bribeOf wsX9_bribeOf) := goodIn_app (goodIn_of _ (by decide +kernel)) ggX9_stepIs_X9_bribeOf
theorem dX9_stepIs_0 : decode cX9_stepIs 0 = .ok (.aload_n 0, 1) := by decide +kernel
theorem dX9_stepIs_1 : decode cX9_stepIs 1 = .ok (.iload_n 1, 1) := by decide +kernel
theorem dX9_stepIs_2 : decode cX9_stepIs 2 = .ok (.invokevirtual 83, 3) := by decide +kernel
theorem dX9_stepIs_5 : decode cX9_stepIs 5 = .ok (.ifCond .eq 12, 3) := by decide +kernel
theorem dX9_stepIs_8 : decode cX9_stepIs 8 = .ok (.iload_n 2, 1) := by decide +kernel
theorem dX9_stepIs_9 : decode cX9_stepIs 9 = .ok (.iconst 0, 1) := by decide +kernel
theorem dX9_stepIs_10 : decode cX9_stepIs 10 = .ok (.iconst 3, 1) := by decide +kernel
theorem dX9_stepIs_11 : decode cX9_stepIs 11 = .ok (.invokestatic 54, 3) := by decide +kernel
theorem dX9_stepIs_14 : decode cX9_stepIs 14 = .ok (.ifCond .ne 10, 3) := by decide +kernel
theorem dX9_stepIs_17 : decode cX9_stepIs 17 = .ok (.aload_n 0, 1) := by decide +kernel
theorem dX9_stepIs_18 : decode cX9_stepIs 18 = .ok (.ldc 78, 2) := by decide +kernel
theorem dX9_stepIs_20 : decode cX9_stepIs 20 = .ok (.invokevirtual 79, 3) := by decide +kernel
theorem dX9_stepIs_23 : decode cX9_stepIs 23 = .ok (.ireturn, 1) := by decide +kernel
theorem dX9_stepIs_24 : decode cX9_stepIs 24 = .ok (.iload_n 2, 1) := by decide +kernel
theorem dX9_stepIs_25 : decode cX9_stepIs 25 = .ok (.iconst 3, 1) := by decide +kernel
theorem dX9_stepIs_26 : decode cX9_stepIs 26 = .ok (.if_icmp .ge 12, 3) := by decide +kernel
theorem dX9_stepIs_29 : decode cX9_stepIs 29 = .ok (.aload_n 0, 1) := by decide +kernel
theorem dX9_stepIs_30 : decode cX9_stepIs 30 = .ok (.iload_n 1, 1) := by decide +kernel
theorem dX9_stepIs_31 : decode cX9_stepIs 31 = .ok (.iload_n 2, 1) := by decide +kernel
theorem dX9_stepIs_32 : decode cX9_stepIs 32 = .ok (.invokevirtual 58, 3) := by decide +kernel
theorem dX9_stepIs_35 : decode cX9_stepIs 35 = .ok (.goto 8, 3) := by decide +kernel
theorem dX9_stepIs_38 : decode cX9_stepIs 38 = .ok (.aload_n 0, 1) := by decide +kernel
theorem dX9_stepIs_39 : decode cX9_stepIs 39 = .ok (.iload_n 1, 1) := by decide +kernel
theorem dX9_stepIs_40 : decode cX9_stepIs 40 = .ok (.invokevirtual 86, 3) := by decide +kernel
theorem dX9_stepIs_43 : decode cX9_stepIs 43 = .ok (.ireturn, 1) := by decide +kernel
set_option maxRecDepth 20000 in
theorem ggX9_become_X9_isStep : GoodIn wsX9_become wsX9_isStep := goodIn_r _ [7, 2, 8, 9, 6, 10, 24, 25, 26, 27, 28, 29, 30, 31, 32, 33, 34, 35, 36, 37, 38, 39, 40, 41, 42, 43, 44] (by decide +kernel) (by decide +kernel)
set_option maxRecDepth 20000 in
theorem gX9_become_X9_isStep : GoodIn wsX9_become (wsV RX9 83 RX9 yX9_isStep wsX9_isStep) := goodIn_app (goodIn_of _ (by decide +kernel)) ggX9_become_X9_isStep
set_option maxRecDepth 20000 in
theorem ggX9_become_X9_isKm : GoodIn wsX9_become wsX9_isKm := goodIn_r _ [13, 8, 9, 6, 10] (by decide +kernel) (by decide +kernel)
set_option maxRecDepth 20000 in
theorem gX9_become_X9_isKm : GoodIn wsX9_become (va_wsS RX9 74 yX9_isKm wsX9_isKm) := goodIn_app (goodIn_of _ (by decide +kernel)) ggX9_become_X9_isKm
set_option maxRecDepth 20000 in
theorem ggX9_become_X9_error : GoodIn wsX9_become wsX9_error := goodIn_r _ [17, 18, 19, 24, 25, 26, 27, 28, 29, 30, 31, 32, 33, 34, 35, 36, 37, 38, 39, 40, 41, 42, 43, 44] (by decide +kernel) (by decide +kernel)
set_option maxRecDepth 20000 in
theorem gX9_become_X9_error : GoodIn wsX9_become (wsV RX9 79 RX9 yX9_error wsX9_error) := goodIn_app (goodIn_of _ (by decide +kernel)) ggX9_become_X9_error
set_option maxRecDepth 20000 in
theorem ggX9_become_X9_becomes : GoodIn wsX9_become wsX9_becomes := goodIn_r _ [23, 2, 24, 25, 26, 27, 28, 29, 30, 31, 32, 33, 34, 35, 36, 37, 38, 39, 40, 41, 42, 43, 44] (by decide +kernel) (by decide +kernel)
set_option maxRecDepth 20000 in
theorem gX9_become_X9_becomes : GoodIn wsX9_become (wsV RX9 89 RX9 yX9_becomes wsX9_becomes) := goodIn_app (goodIn_of _ (by decide +kernel)) ggX9_become_X9_becomes
theorem dX9_become_0 : decode cX9_become 0 = .ok (.aload_n 0, 1) := by decide +kernel
theorem dX9_become_1 : decode cX9_become 1 = .ok (.iload_n 1, 1) := by decide +kernel
theorem dX9_become_2 : decode cX9_become 2 = .ok (.invokevirtual 83, 3) := by decide +kernel
theorem dX9_become_5 : decode cX9_become 5 = .ok (.ifCond .eq 10, 3) := by decide +kernel
theorem dX9_become_8 : decode cX9_become 8 = .ok (.iload_n 2, 1) := by decide +kernel
theorem dX9_become_9 : decode cX9_become 9 = .ok (.invokestatic 74, 3) := by decide +kernel
theorem dX9_become_12 : decode cX9_become 12 = .ok (.ifCond .ne 10, 3) := by decide +kernel
theorem dX9_become_15 : decode cX9_become 15 = .ok (.aload_n 0, 1) := by decide +kernel
theorem dX9_become_16 : decode cX9_become 16 = .ok (.ldc 78, 2) := by decide +kernel
theorem dX9_become_18 : decode cX9_become 18 = .ok (.invokevirtual 79, 3) := by decide +kernel
theorem dX9_become_21 : decode cX9_become 21 = .ok (.ireturn, 1) := by decide +kernel
theorem dX9_become_22 : decode cX9_become 22 = .ok (.aload_n 0, 1) := by decide +kernel
theorem dX9_become_23 : decode cX9_become 23 = .ok (.getfield 9, 3) := by decide +kernel
theorem dX9_become_26 : decode cX9_become 26 = .ok (.bipush 6, 2) := by decide +kernel
theorem dX9_become_28 : decode cX9_become 28 = .ok (.iconst 3, 1) := by decide +kernel
theorem dX9_become_29 : decode cX9_become 29 = .ok (.iload_n 1, 1) := by decide +kernel
theorem dX9_become_30 : decode cX9_become 30 = .ok (.imul, 1) := by decide +kernel
theorem dX9_become_31 : decode cX9_become 31 = .ok (.iadd, 1) := by decide +kernel
theorem dX9_become_32 : decode cX9_become 32 = .ok (.iconst 1, 1) := by decide +kernel
theorem dX9_become_33 : decode cX9_become 33 = .ok (.iadd, 1) := by decide +kernel
theorem dX9_become_34 : decode cX9_become 34 = .ok (.iload_n 2, 1) := by decide +kernel
theorem dX9_become_35 : decode cX9_become 35 = .ok (.bipush 10, 2) := by decide +kernel
theorem dX9_become_37 : decode cX9_become 37 = .ok (.irem, 1) := by decide +kernel
theorem dX9_become_38 : decode cX9_become 38 = .ok (.iastore, 1) := by decide +kernel
theorem dX9_become_39 : decode cX9_become 39 = .ok (.aload_n 0, 1) := by decide +kernel
theorem dX9_become_40 : decode cX9_become 40 = .ok (.bipush 6, 2) := by decide +kernel
theorem dX9_become_42 : decode cX9_become 42 = .ok (.iconst 3, 1) := by decide +kernel
theorem dX9_become_43 : decode cX9_become 43 = .ok (.iload_n 1, 1) := by decide +kernel
theorem dX9_become_44 : decode cX9_become 44 = .ok (.imul, 1) := by decide +kernel
theorem dX9_become_45 : decode cX9_become 45 = .ok (.iadd, 1) := by decide +kernel
theorem dX9_become_46 : decode cX9_become 46 = .ok (.iload_n 2, 1) := by decide +kernel
theorem dX9_become_47 : decode cX9_become 47 = .ok (.bipush 10, 2) := by decide +kernel
theorem dX9_become_49 : decode cX9_become 49 = .ok (.idiv, 1) := by decide +kernel
theorem dX9_become_50 : decode cX9_become 50 = .ok (.invokevirtual 89, 3) := by decide +kernel
theorem dX9_become_53 : decode cX9_become 53 = .ok (.ireturn, 1) := by decide +kernel
set_option maxRecDepth 20000 in
theorem ggX9_as_X9_isStep : GoodIn wsX9_as wsX9_isStep := goodIn_r _ [7, 8, 9, 10, 6, 11, 22, 23, 24, 25, 26, 27, 28, 29, 30, 31, 32, 33, 34, 35, 36, 37, 38, 39, 40, 41, 42] (by decide +kernel) (by decide +kernel)
set_option maxRecDepth 20000 in
theorem gX9_as_X9_isStep : GoodIn wsX9_as (wsV RX9 83 RX9 yX9_isStep wsX9_isStep) := goodIn_app (goodIn_of _ (by decide +kernel)) ggX9_as_X9_isStep
set_option maxRecDepth 20000 in
theorem ggX9_as_X9_in : GoodIn wsX9_as wsX9_in := goodIn_r _ [11] (by decide +kernel) (by decide +kernel)
set_option maxRecDepth 20000 in
theorem gX9_as_X9_in : GoodIn wsX9_as (va_wsS RX9 54 yX9_in wsX9_in) := goodIn_app (goodIn_of _ (by decide +kernel)) ggX9_as_X9_in
set_option maxRecDepth 20000 in
theorem ggX9_as_X9_error : GoodIn wsX9_as wsX9_error := goodIn_r _ [15, 16, 17, 22, 23, 24, 25, 26, 27, 28, 29, 30, 31, 32, 33, 34, 35, 36, 37, 38, 39, 40, 41, 42] (by decide +kernel) (by decide +kernel)
set_option maxRecDepth 20000 in
theorem gX9_as_X9_error : GoodIn wsX9_as (wsV RX9 79 RX9 yX9_error wsX9_error) := goodIn_app (goodIn_of _ (by decide +kernel)) ggX9_as_X9_error
set_option maxRecDepth 20000 in
theorem ggX9_as_X9_of : GoodIn wsX9_as wsX9_of := goodIn_r _ [21, 8, 22, 23, 24, 25, 26, 27, 28, 29, 30, 31, 32, 33, 34, 35, 36, 37, 38, 39, 40, 41, 42] (by decide +kernel) (by decide +kernel)
set_option maxRecDepth 20000 in
theorem gX9_as_X9_of : GoodIn wsX9_as (wsV RX9 58 RX9 yX9_of wsX9_of) := goodIn_app (goodIn_of _ (by decide +kernel)) ggX9_as_X9_of
theorem dX9_as_0 : decode cX9_as 0 = .ok (.aload_n 0, 1) := by decide +kernel
theorem dX9_as_1 : decode cX9_as 1 = .ok (.iload_n 1, 1) := by decide +kernel
theorem dX9_as_2 : decode cX9_as 2 = .ok (.invokevirtual 83, 3) := by decide +kernel
theorem dX9_as_5 : decode cX9_as 5 = .ok (.ifCond .eq 13, 3) := by decide +kernel
theorem dX9_as_8 : decode cX9_as 8 = .ok (.iload_n 2, 1) := by decide +kernel
theorem dX9_as_9 : decode cX9_as 9 = .ok (.iconst 0, 1) := by decide +kernel
theorem dX9_as_10 : decode cX9_as 10 = .ok (.bipush 6, 2) := by decide +kernel
theorem dX9_as_12 : decode cX9_as 12 = .ok (.invokestatic 54, 3) := by decide +kernel
theorem dX9_as_15 : decode cX9_as 15 = .ok (.ifCond .ne 10, 3) := by decide +kernel
theorem dX9_as_18 : decode cX9_as 18 = .ok (.aload_n 0, 1) := by decide +kernel
theorem dX9_as_19 : decode cX9_as 19 = .ok (.ldc 78, 2) := by decide +kernel
theorem dX9_as_21 : decode cX9_as 21 = .ok (.invokevirtual 79, 3) := by decide +kernel
theorem dX9_as_24 : decode cX9_as 24 = .ok (.ireturn, 1) := by decide +kernel
theorem dX9_as_25 : decode cX9_as 25 = .ok (.aload_n 0, 1) := by decide +kernel
theorem dX9_as_26 : decode cX9_as 26 = .ok (.iload_n 1, 1) := by decide +kernel
theorem dX9_as_27 : decode cX9_as 27 = .ok (.iconst 0, 1) := by decide +kernel
theorem dX9_as_28 : decode cX9_as 28 = .ok (.invokevirtual 58, 3) := by decide +kernel
theorem dX9_as_31 : decode cX9_as 31 = .ok (.istore_n 3, 1) := by decide +kernel
theorem dX9_as_32 : decode cX9_as 32 = .ok (.iload_n 2, 1) := by decide +kernel
theorem dX9_as_33 : decode cX9_as 33 = .ok (.ifCond .eq 28, 3) := by decide +kernel
theorem dX9_as_36 : decode cX9_as 36 = .ok (.iload_n 2, 1) := by decide +kernel
theorem dX9_as_37 : decode cX9_as 37 = .ok (.iload_n 3, 1) := by decide +kernel
theorem dX9_as_38 : decode cX9_as 38 = .ok (.if_icmp .eq 23, 3) := by decide +kernel
theorem dX9_as_41 : decode cX9_as 41 = .ok (.iload_n 2, 1) := by decide +kernel
theorem dX9_as_42 : decode cX9_as 42 = .ok (.iconst 1, 1) := by decide +kernel
theorem dX9_as_43 : decode cX9_as 43 = .ok (.if_icmp .ne 8, 3) := by decide +kernel
theorem dX9_as_46 : decode cX9_as 46 = .ok (.iload_n 3, 1) := by decide +kernel
theorem dX9_as_47 : decode cX9_as 47 = .ok (.iconst 4, 1) := by decide +kernel
theorem dX9_as_48 : decode cX9_as 48 = .ok (.if_icmp .eq 13, 3) := by decide +kernel
theorem dX9_as_51 : decode cX9_as 51 = .ok (.iload_n 2, 1) := by decide +kernel
theorem dX9_as_52 : decode cX9_as 52 = .ok (.iconst 2, 1) := by decide +kernel
theorem dX9_as_53 : decode cX9_as 53 = .ok (.if_icmp .ne 12, 3) := by decide +kernel
theorem dX9_as_56 : decode cX9_as 56 = .ok (.iload_n 3, 1) := by decide +kernel
theorem dX9_as_57 : decode cX9_as 57 = .ok (.iconst 5, 1) := by decide +kernel
theorem dX9_as_58 : decode cX9_as 58 = .ok (.if_icmp .ne 7, 3) := by decide +kernel
theorem dX9_as_61 : decode cX9_as 61 = .ok (.iconst 1, 1) := by decide +kernel
theorem dX9_as_62 : decode cX9_as 62 = .ok (.goto 4, 3) := by decide +kernel
theorem dX9_as_65 : decode cX9_as 65 = .ok (.iconst 0, 1) := by decide +kernel
theorem dX9_as_66 : decode cX9_as 66 = .ok (.istore 4, 2) := by decide +kernel
theorem dX9_as_68 : decode cX9_as 68 = .ok (.iload 4, 2) := by decide +kernel
theorem dX9_as_70 : decode cX9_as 70 = .ok (.ifCond .eq 12, 3) := by decide +kernel
theorem dX9_as_73 : decode cX9_as 73 = .ok (.aload_n 0, 1) := by decide +kernel
theorem dX9_as_74 : decode cX9_as 74 = .ok (.iload_n 1, 1) := by decide +kernel
theorem dX9_as_75 : decode cX9_as 75 = .ok (.iconst 1, 1) := by decide +kernel
theorem dX9_as_76 : decode cX9_as 76 = .ok (.invokevirtual 58, 3) := by decide +kernel
theorem dX9_as_79 : decode cX9_as 79 = .ok (.goto 9, 3) := by decide +kernel
theorem dX9_as_82 : decode cX9_as 82 = .ok (.aload_n 0, 1) := by decide +kernel
theorem dX9_as_83 : decode cX9_as 83 = .ok (.ldc 92, 2) := by decide +kernel
theorem dX9_as_85 : decode cX9_as 85 = .ok (.invokevirtual 79, 3) := by decide +kernel
theorem dX9_as_88 : decode cX9_as 88 = .ok (.ireturn, 1) := by decide +kernel
set_option maxRecDepth 20000 in
theorem ggX9_person_X9_in : GoodIn wsX9_person wsX9_in := goodIn_r _ [7] (by decide +kernel) (by decide +kernel)
set_option maxRecDepth 20000 in
theorem gX9_person_X9_in : GoodIn wsX9_person (va_wsS RX9 54 yX9_in wsX9_in) := goodIn_app (goodIn_of _ (by decide +kernel)) ggX9_person_X9_in
set_option maxRecDepth 20000 in
theorem ggX9_person_X9_error : GoodIn wsX9_person wsX9_error := goodIn_r _ [11, 12, 13, 18, 19, 20, 21, 22, 23, 24, 25, 26, 27, 28, 29, 30, 31, 32, 33, 34, 35, 36, 37, 38] (by decide +kernel) (by decide +kernel)
set_option maxRecDepth 20000 in
theorem gX9_person_X9_error : GoodIn wsX9_person (wsV RX9 79 RX9 yX9_error wsX9_error) := goodIn_app (goodIn_of _ (by decide +kernel)) ggX9_person_X9_error
set_option maxRecDepth 20000 in
theorem ggX9_person_X9_lets : GoodIn wsX9_person wsX9_lets := goodIn_r _ [17, 2, 18, 19, 20, 21, 22, 23, 24, 25, 26, 27, 28, 29, 30, 31, 32, 33, 34, 35, 36, 37, 38] (by decide +kernel) (by decide +kernel)
set_option maxRecDepth 20000 in
theorem gX9_person_X9_lets : GoodIn wsX9_person (wsV RX9 93 RX9 yX9_lets wsX9_lets) := goodIn_app (goodIn_of _ (by decide +kernel)) ggX9_person_X9_lets
theorem dX9_person_0 : decode cX9_person 0 = .ok (.iload_n 1, 1) := by decide +kernel
theorem dX9_person_1 : decode cX9_person 1 = .ok (.iconst 0, 1) := by decide +kernel
theorem dX9_person_2 : decode cX9_person 2 = .ok (.sipush 999, 3) := by decide +kernel
theorem dX9_person_5 : decode cX9_person 5 = .ok (.invokestatic 54, 3) := by decide +kernel
theorem dX9_person_8 : decode cX9_person 8 = .ok (.ifCond .ne 10, 3) := by decide +kernel
theorem dX9_person_11 : decode cX9_person 11 = .ok (.aload_n 0, 1) := by decide +kernel
theorem dX9_person_12 : decode cX9_person 12 = .ok (.ldc 78, 2) := by decide +kernel
theorem dX9_person_14 : decode cX9_person 14 = .ok (.invokevirtual 79, 3) := by decide +kernel
theorem dX9_person_17 : decode cX9_person 17 = .ok (.ireturn, 1) := by decide +kernel
theorem dX9_person_18 : decode cX9_person 18 = .ok (.aload_n 0, 1) := by decide +kernel
theorem dX9_person_19 : decode cX9_person 19 = .ok (.getfield 9, 3) := by decide +kernel
theorem dX9_person_22 : decode cX9_person 22 = .ok (.iconst 3, 1) := by decide +kernel
theorem dX9_person_23 : decode cX9_person 23 = .ok (.iaload, 1) := by decide +kernel
theorem dX9_person_24 : decode cX9_person 24 = .ok (.istore_n 2, 1) := by decide +kernel
theorem dX9_person_25 : decode cX9_person 25 = .ok (.iload_n 2, 1) := by decide +kernel
theorem dX9_person_26 : decode cX9_person 26 = .ok (.iconst 5, 1) := by decide +kernel
theorem dX9_person_27 : decode cX9_person 27 = .ok (.if_icmp .ne 10, 3) := by decide +kernel
theorem dX9_person_30 : decode cX9_person 30 = .ok (.aload_n 0, 1) := by decide +kernel
theorem dX9_person_31 : decode cX9_person 31 = .ok (.ldc 82, 2) := by decide +kernel
theorem dX9_person_33 : decode cX9_person 33 = .ok (.invokevirtual 79, 3) := by decide +kernel
theorem dX9_person_36 : decode cX9_person 36 = .ok (.ireturn, 1) := by decide +kernel
theorem dX9_person_37 : decode cX9_person 37 = .ok (.aload_n 0, 1) := by decide +kernel
theorem dX9_person_38 : decode cX9_person 38 = .ok (.getfield 9, 3) := by decide +kernel
theorem dX9_person_41 : decode cX9_person 41 = .ok (.iconst 3, 1) := by decide +kernel
theorem dX9_person_42 : decode cX9_person 42 = .ok (.dup2, 1) := by decide +kernel
theorem dX9_person_43 : decode cX9_person 43 = .ok (.iaload, 1) := by decide +kernel
theorem dX9_person_44 : decode cX9_person 44 = .ok (.iconst 1, 1) := by decide +kernel
theorem dX9_person_45 : decode cX9_person 45 = .ok (.iadd, 1) := by decide +kernel
theorem dX9_person_46 : decode cX9_person 46 = .ok (.iastore, 1) := by decide +kernel
theorem dX9_person_47 : decode cX9_person 47 = .ok (.aload_n 0, 1) := by decide +kernel
theorem dX9_person_48 : decode cX9_person 48 = .ok (.iload_n 2, 1) := by decide +kernel
theorem dX9_person_49 : decode cX9_person 49 = .ok (.iconst 0, 1) := by decide +kernel
theorem dX9_person_50 : decode cX9_person 50 = .ok (.iconst 0, 1) := by decide +kernel
theorem dX9_person_51 : decode cX9_person 51 = .ok (.invokevirtual 93, 3) := by decide +kernel
theorem dX9_person_54 : decode cX9_person 54 = .ok (.aload_n 0, 1) := by decide +kernel
theorem dX9_person_55 : decode cX9_person 55 = .ok (.iload_n 2, 1) := by decide +kernel
theorem dX9_person_56 : decode cX9_person 56 = .ok (.iconst 1, 1) := by decide +kernel
theorem dX9_person_57 : decode cX9_person 57 = .ok (.iload_n 1, 1) := by decide +kernel
theorem dX9_person_58 : decode cX9_person 58 = .ok (.invokevirtual 93, 3) := by decide +kernel
theorem dX9_person_61 : decode cX9_person 61 = .ok (.aload_n 0, 1) := by decide +kernel
theorem dX9_person_62 : decode cX9_person 62 = .ok (.iload_n 2, 1) := by decide +kernel
theorem dX9_person_63 : decode cX9_person 63 = .ok (.iconst 2, 1) := by decide +kernel
theorem dX9_person_64 : decode cX9_person 64 = .ok (.iconst 0, 1) := by decide +kernel
theorem dX9_person_65 : decode cX9_person 65 = .ok (.invokevirtual 93, 3) := by decide +kernel
theorem dX9_person_68 : decode cX9_person 68 = .ok (.aload_n 0, 1) := by decide +kernel
theorem dX9_person_69 : decode cX9_person 69 = .ok (.iload_n 2, 1) := by decide +kernel
theorem dX9_person_70 : decode cX9_person 70 = .ok (.iconst 3, 1) := by decide +kernel
theorem dX9_person_71 : decode cX9_person 71 = .ok (.iconst 0, 1) := by decide +kernel
theorem dX9_person_72 : decode cX9_person 72 = .ok (.invokevirtual 93, 3) := by decide +kernel
theorem dX9_person_75 : decode cX9_person 75 = .ok (.iload_n 2, 1) := by decide +kernel
theorem dX9_person_76 : decode cX9_person 76 = .ok (.ireturn, 1) := by decide +kernel
set_option maxRecDepth 20000 in
theorem ggX9_isUp_X9_about : GoodIn wsX9_isUp wsX9_about := goodIn_r _ [6, 1, 7, 8, 9, 10, 11, 12, 13, 14, 15, 16, 17, 18, 19, 20, 21, 22, 23, 24, 25, 26, 27] (by decide +kernel) (by decide +kernel)
set_option maxRecDepth 20000 in
theorem gX9_isUp_X9_about : GoodIn wsX9_isUp (wsV RX9 97 RX9 yX9_about wsX9_about) := goodIn_app (goodIn_of _ (by decide +kernel)) ggX9_isUp_X9_about
theorem dX9_isUp_0 : decode cX9_isUp 0 = .ok (.aload_n 0, 1) := by decide +kernel
theorem dX9_isUp_1 : decode cX9_isUp 1 = .ok (.iload_n 1, 1) := by decide +kernel
theorem dX9_isUp_2 : decode cX9_isUp 2 = .ok (.iconst 0, 1) := by decide +kernel
theorem dX9_isUp_3 : decode cX9_isUp 3 = .ok (.invokevirtual 97, 3) := by decide +kernel
theorem dX9_isUp_6 : decode cX9_isUp 6 = .ok (.aload_n 0, 1) := by decide +kernel
theorem dX9_isUp_7 : decode cX9_isUp 7 = .ok (.getfield 9, 3) := by decide +kernel
theorem dX9_isUp_10 : decode cX9_isUp 10 = .ok (.iconst 2, 1) := by decide +kernel
theorem dX9_isUp_11 : decode cX9_isUp 11 = .ok (.iaload, 1) := by decide +kernel
theorem dX9_isUp_12 : decode cX9_isUp 12 = .ok (.if_icmp .lt 7, 3) := by decide +kernel
theorem dX9_isUp_15 : decode cX9_isUp 15 = .ok (.iconst 1, 1) := by decide +kernel
theorem dX9_isUp_16 : decode cX9_isUp 16 = .ok (.goto 4, 3) := by decide +kernel
theorem dX9_isUp_19 : decode cX9_isUp 19 = .ok (.iconst 0, 1) := by decide +kernel
theorem dX9_isUp_20 : decode cX9_isUp 20 = .ok (.ireturn, 1) := by decide +kernel
set_option maxRecDepth 20000 in
theorem ggX9_personIs_X9_isPerson : GoodIn wsX9_personIs wsX9_isPerson := goodIn_r _ [6, 7, 8, 9, 5, 10, 25, 26, 27, 28, 29, 30, 31, 32, 33, 34, 35, 36, 37, 38, 39, 40, 41, 42, 43, 44, 45] (by decide +kernel) (by decide +kernel)
set_option maxRecDepth 20000 in
theorem gX9_personIs_X9_isPerson : GoodIn wsX9_personIs (wsV RX9 100 RX9 yX9_isPerson wsX9_isPerson) := goodIn_app (goodIn_of _ (by decide +kernel)) ggX9_personIs_X9_isPerson
set_option maxRecDepth 20000 in
theorem ggX9_personIs_X9_in : GoodIn wsX9_personIs wsX9_in := goodIn_r _ [10] (by decide +kernel) (by decide +kernel)
set_option maxRecDepth 20000 in
theorem gX9_personIs_X9_in : GoodIn wsX9_personIs (va_wsS RX9 54 yX9_in wsX9_in) := goodIn_app (goodIn_of _ (by decide +kernel)) ggX9_personIs_X9_in
set_option maxRecDepth 20000 in
theorem ggX9_personIs_X9_error : GoodIn wsX9_personIs wsX9_error := goodIn_r _ [14, 15, 16, 25, 26, 27, 28, 29, 30, 31, 32, 33, 34, 35, 36, 37, 38, 39, 40, 41, 42, 43, 44, 45] (by decide +kernel) (by decide +kernel)
set_option maxRecDepth 20000 in
theorem gX9_personIs_X9_error : GoodIn wsX9_personIs (wsV RX9 79 RX9 yX9_error wsX9_error) := goodIn_app (goodIn_of _ (by decide +kernel)) ggX9_personIs_X9_error
set_option maxRecDepth 20000 in
theorem ggX9_personIs_X9_about : GoodIn wsX9_personIs wsX9_about := goodIn_r _ [20, 7, 25, 26, 27, 28, 29, 30, 31, 32, 33, 34, 35, 36, 37, 38, 39, 40, 41, 42, 43, 44, 45] (by decide +kernel) (by decide +kernel)
set_option maxRecDepth 20000 in
theorem gX9_personIs_X9_about : GoodIn wsX9_personIs (wsV RX9 97 RX9 yX9_about wsX9_about) := goodIn_app (goodIn_of _ (by decide +kernel)) ggX9_personIs_X9_about
set_option maxRecDepth 20000 in
theorem ggX9_personIs_X9_isUp : GoodIn wsX9_personIs wsX9_isUp := goodIn_r _ [24, 7, 17, 18, 19, 5, 20, 25, 26, 27, 28, 29, 30, 31, 32, 33, 34, 35, 36, 37, 38, 39, 40, 41, 42, 43, 44, 45] (by decide +kernel) (by decide +kernel)
set_option maxRecDepth 20000 in
theorem gX9_personIs_X9_isUp : GoodIn wsX9_personIs (wsV RX9 103 RX9 yX9_isUp wsX9_isUp) := goodIn_app (goodIn_of _ (by decide +kernel)) ggX9_personIs_X9_isUp
theorem dX9_personIs_0 : decode cX9_personIs 0 = .ok (.aload_n 0, 1) := by decide +kernel
theorem dX9_personIs_1 : decode cX9_personIs 1 = .ok (.iload_n 1, 1) := by decide +kernel
theorem dX9_personIs_2 : decode cX9_personIs 2 = .ok (.invokevirtual 100, 3) := by decide +kernel
theorem dX9_personIs_5 : decode cX9_personIs 5 = .ok (.ifCond .eq 12, 3) := by decide +kernel
theorem dX9_personIs_8 : decode cX9_personIs 8 = .ok (.iload_n 2, 1) := by decide +kernel
theorem dX9_personIs_9 : decode cX9_personIs 9 = .ok (.iconst 0, 1) := by decide +kernel
theorem dX9_personIs_10 : decode cX9_personIs 10 = .ok (.iconst 4, 1) := by decide +kernel
theorem dX9_personIs_11 : decode cX9_personIs 11 = .ok (.invokestatic 54, 3) := by decide +kernel
theorem dX9_personIs_14 : decode cX9_personIs 14 = .ok (.ifCond .ne 10, 3) := by decide +kernel
theorem dX9_personIs_17 : decode cX9_personIs 17 = .ok (.aload_n 0, 1) := by decide +kernel
theorem dX9_personIs_18 : decode cX9_personIs 18 = .ok (.ldc 78, 2) := by decide +kernel
theorem dX9_personIs_20 : decode cX9_personIs 20 = .ok (.invokevirtual 79, 3) := by decide +kernel
theorem dX9_personIs_23 : decode cX9_personIs 23 = .ok (.ireturn, 1) := by decide +kernel
theorem dX9_personIs_24 : decode cX9_personIs 24 = .ok (.iload_n 2, 1) := by decide +kernel
theorem dX9_personIs_25 : decode cX9_personIs 25 = .ok (.iconst 4, 1) := by decide +kernel
theorem dX9_personIs_26 : decode cX9_personIs 26 = .ok (.if_icmp .ge 12, 3) := by decide +kernel
theorem dX9_personIs_29 : decode cX9_personIs 29 = .ok (.aload_n 0, 1) := by decide +kernel
theorem dX9_personIs_30 : decode cX9_personIs 30 = .ok (.iload_n 1, 1) := by decide +kernel
theorem dX9_personIs_31 : decode cX9_personIs 31 = .ok (.iload_n 2, 1) := by decide +kernel
theorem dX9_personIs_32 : decode cX9_personIs 32 = .ok (.invokevirtual 97, 3) := by decide +kernel
theorem dX9_personIs_35 : decode cX9_personIs 35 = .ok (.goto 16, 3) := by decide +kernel
theorem dX9_personIs_38 : decode cX9_personIs 38 = .ok (.aload_n 0, 1) := by decide +kernel
theorem dX9_personIs_39 : decode cX9_personIs 39 = .ok (.iload_n 1, 1) := by decide +kernel
theorem dX9_personIs_40 : decode cX9_personIs 40 = .ok (.invokevirtual 103, 3) := by decide +kernel
theorem dX9_personIs_43 : decode cX9_personIs 43 = .ok (.ifCond .eq 7, 3) := by decide +kernel
theorem dX9_personIs_46 : decode cX9_personIs 46 = .ok (.iconst 1, 1) := by decide +kernel
theorem dX9_personIs_47 : decode cX9_personIs 47 = .ok (.goto 4, 3) := by decide +kernel
theorem dX9_personIs_50 : decode cX9_personIs 50 = .ok (.iconst 0, 1) := by decide +kernel
theorem dX9_personIs_51 : decode cX9_personIs 51 = .ok (.ireturn, 1) := by decide +kernel
set_option maxRecDepth 20000 in
theorem ggX9_rests_X9_isPerson : GoodIn wsX9_rests wsX9_isPerson := goodIn_r _ [6, 7, 8, 9, 5, 10, 21, 22, 23, 24, 25, 26, 27, 28, 29, 30, 31, 32, 33, 34, 35, 36, 37, 38, 39, 40, 41] (by decide +kernel) (by decide +kernel)
set_option maxRecDepth 20000 in
theorem gX9_rests_X9_isPerson : GoodIn wsX9_rests (wsV RX9 100 RX9 yX9_isPerson wsX9_isPerson) := goodIn_app (goodIn_of _ (by decide +kernel)) ggX9_rests_X9_isPerson
set_option maxRecDepth 20000 in
theorem ggX9_rests_X9_in : GoodIn wsX9_rests wsX9_in := goodIn_r _ [10] (by decide +kernel) (by decide +kernel)
set_option maxRecDepth 20000 in
theorem gX9_rests_X9_in : GoodIn wsX9_rests (va_wsS RX9 54 yX9_in wsX9_in) := goodIn_app (goodIn_of _ (by decide +kernel)) ggX9_rests_X9_in
set_option maxRecDepth 20000 in
theorem ggX9_rests_X9_becomes : GoodIn wsX9_rests wsX9_becomes := goodIn_r _ [14, 7, 21, 22, 23, 24, 25, 26, 27, 28, 29, 30, 31, 32, 33, 34, 35, 36, 37, 38, 39, 40, 41] (by decide +kernel) (by decide +kernel)
set_option maxRecDepth 20000 in
theorem gX9_rests_X9_becomes : GoodIn wsX9_rests (wsV RX9 89 RX9 yX9_becomes wsX9_becomes) := goodIn_app (goodIn_of _ (by decide +kernel)) ggX9_rests_X9_becomes
set_option maxRecDepth 20000 in
theorem ggX9_rests_X9_error : GoodIn wsX9_rests wsX9_error := goodIn_r _ [18, 19, 20, 21, 22, 23, 24, 25, 26, 27, 28, 29, 30, 31, 32, 33, 34, 35, 36, 37, 38, 39, 40, 41] (by decide +kernel) (by decide +kernel)
set_option maxRecDepth 20000 in
theorem gX9_rests_X9_error : GoodIn wsX9_rests (wsV RX9 79 RX9 yX9_error wsX9_error) := goodIn_app (goodIn_of _ (by decide +kernel)) ggX9_rests_X9_error
theorem dX9_rests_0 : decode cX9_rests 0 = .ok (.aload_n 0, 1) := by decide +kernel
theorem dX9_rests_1 : decode cX9_rests 1 = .ok (.iload_n 1, 1) := by decide +kernel
theorem dX9_rests_2 : decode cX9_rests 2 = .ok (.invokevirtual 100, 3) := by decide +kernel
theorem dX9_rests_5 : decode cX9_rests 5 = .ok (.ifCond .eq 30, 3) := by decide +kernel
theorem dX9_rests_8 : decode cX9_rests 8 = .ok (.iload_n 2, 1) := by decide +kernel
theorem dX9_rests_9 : decode cX9_rests 9 = .ok (.iconst 0, 1) := by decide +kernel
theorem dX9_rests_10 : decode cX9_rests 10 = .ok (.sipush 999, 3) := by decide +kernel
theorem dX9_rests_13 : decode cX9_rests 13 = .ok (.invokestatic 54, 3) := by decide +kernel
theorem dX9_rests_16 : decode cX9_rests 16 = .ok (.ifCond .eq 19, 3) := by decide +kernel
theorem dX9_rests_19 : decode cX9_rests 19 = .ok (.aload_n 0, 1) := by decide +kernel
theorem dX9_rests_20 : decode cX9_rests 20 = .ok (.bipush 66, 2) := by decide +kernel
theorem dX9_rests_22 : decode cX9_rests 22 = .ok (.iconst 4, 1) := by decide +kernel
theorem dX9_rests_23 : decode cX9_rests 23 = .ok (.iload_n 1, 1) := by decide +kernel
theorem dX9_rests_24 : decode cX9_rests 24 = .ok (.imul, 1) := by decide +kernel
theorem dX9_rests_25 : decode cX9_rests 25 = .ok (.iadd, 1) := by decide +kernel
theorem dX9_rests_26 : decode cX9_rests 26 = .ok (.iconst 1, 1) := by decide +kernel
theorem dX9_rests_27 : decode cX9_rests 27 = .ok (.iadd, 1) := by decide +kernel
theorem dX9_rests_28 : decode cX9_rests 28 = .ok (.iload_n 2, 1) := by decide +kernel
theorem dX9_rests_29 : decode cX9_rests 29 = .ok (.invokevirtual 89, 3) := by decide +kernel
theorem dX9_rests_32 : decode cX9_rests 32 = .ok (.goto 9, 3) := by decide +kernel
theorem dX9_rests_35 : decode cX9_rests 35 = .ok (.aload_n 0, 1) := by decide +kernel
theorem dX9_rests_36 : decode cX9_rests 36 = .ok (.ldc 78, 2) := by decide +kernel
theorem dX9_rests_38 : decode cX9_rests 38 = .ok (.invokevirtual 79, 3) := by decide +kernel
theorem dX9_rests_41 : decode cX9_rests 41 = .ok (.ireturn, 1) := by decide +kernel
set_option maxRecDepth 20000 in
theorem ggX9_carry_X9_isPerson : GoodIn wsX9_carry wsX9_isPerson := goodIn_r _ [7, 1, 8, 9, 6, 10, 21, 22, 23, 24, 25, 26, 27, 28, 29, 30, 31, 32, 33, 34, 35, 36, 37, 38, 39, 40, 41] (by decide +kernel) (by decide +kernel)
set_option maxRecDepth 20000 in
theorem gX9_carry_X9_isPerson : GoodIn wsX9_carry (wsV RX9 100 RX9 yX9_isPerson wsX9_isPerson) := goodIn_app (goodIn_of _ (by decide +kernel)) ggX9_carry_X9_isPerson
set_option maxRecDepth 20000 in
theorem ggX9_carry_X9_in : GoodIn wsX9_carry wsX9_in := goodIn_r _ [10] (by decide +kernel) (by decide +kernel)
set_option maxRecDepth 20000 in
theorem gX9_carry_X9_in : GoodIn wsX9_carry (va_wsS RX9 54 yX9_in wsX9_in) := goodIn_app (goodIn_of _ (by decide +kernel)) ggX9_carry_X9_in
set_option maxRecDepth 20000 in
theorem ggX9_carry_X9_becomes : GoodIn wsX9_carry wsX9_becomes := goodIn_r _ [14, 1, 21, 22, 23, 24, 25, 26, 27, 28, 29, 30, 31, 32, 33, 34, 35, 36, 37, 38, 39, 40, 41] (by decide +kernel) (by decide +kernel)
set_option maxRecDepth 20000 in
theorem gX9_carry_X9_becomes : GoodIn wsX9_carry (wsV RX9 89 RX9 yX9_becomes wsX9_becomes) := goodIn_app (goodIn_of _ (by decide +kernel)) ggX9_carry_X9_becomes
set_option maxRecDepth 20000 in
theorem ggX9_carry_X9_error : GoodIn wsX9_carry wsX9_error := goodIn_r _ [18, 19, 20, 21, 22, 23, 24, 25, 26, 27, 28, 29, 30, 31, 32, 33, 34, 35, 36, 37, 38, 39, 40, 41] (by decide +kernel) (by decide +kernel)
set_option maxRecDepth 20000 in
theorem gX9_carry_X9_error : GoodIn wsX9_carry (wsV RX9 79 RX9 yX9_error wsX9_error) := goodIn_app (goodIn_of _ (by decide +kernel)) ggX9_carry_X9_error
theorem dX9_carry_0 : decode cX9_carry 0 = .ok (.aload_n 0, 1) := by decide +kernel
theorem dX9_carry_1 : decode cX9_carry 1 = .ok (.iload_n 1, 1) := by decide +kernel
theorem dX9_carry_2 : decode cX9_carry 2 = .ok (.invokevirtual 100, 3) := by decide +kernel
theorem dX9_carry_5 : decode cX9_carry 5 = .ok (.ifCond .eq 33, 3) := by decide +kernel
theorem dX9_carry_8 : decode cX9_carry 8 = .ok (.iload_n 2, 1) := by decide +kernel
theorem dX9_carry_9 : decode cX9_carry 9 = .ok (.iconst 0, 1) := by decide +kernel
theorem dX9_carry_10 : decode cX9_carry 10 = .ok (.aload_n 0, 1) := by decide +kernel
theorem dX9_carry_11 : decode cX9_carry 11 = .ok (.getfield 9, 3) := by decide +kernel
theorem dX9_carry_14 : decode cX9_carry 14 = .ok (.iconst 2, 1) := by decide +kernel
theorem dX9_carry_15 : decode cX9_carry 15 = .ok (.iaload, 1) := by decide +kernel
theorem dX9_carry_16 : decode cX9_carry 16 = .ok (.invokestatic 54, 3) := by decide +kernel
theorem dX9_carry_19 : decode cX9_carry 19 = .ok (.ifCond .eq 19, 3) := by decide +kernel
theorem dX9_carry_22 : decode cX9_carry 22 = .ok (.aload_n 0, 1) := by decide +kernel
theorem dX9_carry_23 : decode cX9_carry 23 = .ok (.bipush 66, 2) := by decide +kernel
theorem dX9_carry_25 : decode cX9_carry 25 = .ok (.iconst 4, 1) := by decide +kernel
theorem dX9_carry_26 : decode cX9_carry 26 = .ok (.iload_n 1, 1) := by decide +kernel
theorem dX9_carry_27 : decode cX9_carry 27 = .ok (.imul, 1) := by decide +kernel
theorem dX9_carry_28 : decode cX9_carry 28 = .ok (.iadd, 1) := by decide +kernel
theorem dX9_carry_29 : decode cX9_carry 29 = .ok (.iconst 0, 1) := by decide +kernel
theorem dX9_carry_30 : decode cX9_carry 30 = .ok (.iadd, 1) := by decide +kernel
theorem dX9_carry_31 : decode cX9_carry 31 = .ok (.iload_n 2, 1) := by decide +kernel
theorem dX9_carry_32 : decode cX9_carry 32 = .ok (.invokevirtual 89, 3) := by decide +kernel
theorem dX9_carry_35 : decode cX9_carry 35 = .ok (.goto 9, 3) := by decide +kernel
theorem dX9_carry_38 : decode cX9_carry 38 = .ok (.aload_n 0, 1) := by decide +kernel
theorem dX9_carry_39 : decode cX9_carry 39 = .ok (.ldc 78, 2) := by decide +kernel
theorem dX9_carry_41 : decode cX9_carry 41 = .ok (.invokevirtual 79, 3) := by decide +kernel
theorem dX9_carry_44 : decode cX9_carry 44 = .ok (.ireturn, 1) := by decide +kernel
set_option maxRecDepth 20000 in
theorem ggX9_content_X9_isStep : GoodIn wsX9_content wsX9_isStep := goodIn_r _ [6, 7, 8, 9, 5, 10, 48, 49, 50, 51, 52, 53, 54, 55, 56, 57, 58, 59, 60, 61, 62, 63, 64, 65, 66, 67, 68] (by decide +kernel) (by decide +kernel)
set_option maxRecDepth 20000 in
theorem gX9_content_X9_isStep : GoodIn wsX9_content (wsV RX9 83 RX9 yX9_isStep wsX9_isStep) := goodIn_app (goodIn_of _ (by decide +kernel)) ggX9_content_X9_isStep
set_option maxRecDepth 20000 in
theorem ggX9_content_X9_isWord : GoodIn wsX9_content wsX9_isWord := goodIn_r _ [13, 8, 9, 5, 10] (by decide +kernel) (by decide +kernel)
set_option maxRecDepth 20000 in
theorem gX9_content_X9_isWord : GoodIn wsX9_content (va_wsS RX9 106 yX9_isWord wsX9_isWord) := goodIn_app (goodIn_of _ (by decide +kernel)) ggX9_content_X9_isWord
set_option maxRecDepth 20000 in
theorem ggX9_content_X9_error : GoodIn wsX9_content wsX9_error := goodIn_r _ [17, 18, 19, 48, 49, 50, 51, 52, 53, 54, 55, 56, 57, 58, 59, 60, 61, 62, 63, 64, 65, 66, 67, 68] (by decide +kernel) (by decide +kernel)
set_option maxRecDepth 20000 in
theorem gX9_content_X9_error : GoodIn wsX9_content (wsV RX9 79 RX9 yX9_error wsX9_error) := goodIn_app (goodIn_of _ (by decide +kernel)) ggX9_content_X9_error
set_option maxRecDepth 20000 in
theorem ggX9_content_X9_isContent : GoodIn wsX9_content wsX9_isContent := goodIn_r _ [23, 24, 25, 26, 5, 27, 7, 28, 29, 30, 31, 32, 33, 34, 35, 36, 37, 38, 39, 40, 41, 42, 43, 44, 45, 46, 47, 48, 49, 50, 51, 52, 53, 54, 55, 56, 57, 58, 59, 60, 61, 62, 63, 64, 65, 66, 67, 68] (by decide +kernel) (by decide +kernel)
set_option maxRecDepth 20000 in
theorem gX9_content_X9_isContent : GoodIn wsX9_content (wsV RX9 109 RX9 yX9_isContent wsX9_isContent) := goodIn_app (goodIn_of _ (by decide +kernel)) ggX9_content_X9_isContent
theorem dX9_content_0 : decode cX9_content 0 = .ok (.aload_n 0, 1) := by decide +kernel
theorem dX9_content_1 : decode cX9_content 1 = .ok (.iload_n 1, 1) := by decide +kernel
theorem dX9_content_2 : decode cX9_content 2 = .ok (.invokevirtual 83, 3) := by decide +kernel
theorem dX9_content_5 : decode cX9_content 5 = .ok (.ifCond .eq 10, 3) := by decide +kernel
theorem dX9_content_8 : decode cX9_content 8 = .ok (.iload_n 2, 1) := by decide +kernel
theorem dX9_content_9 : decode cX9_content 9 = .ok (.invokestatic 106, 3) := by decide +kernel
theorem dX9_content_12 : decode cX9_content 12 = .ok (.ifCond .ne 10, 3) := by decide +kernel
theorem dX9_content_15 : decode cX9_content 15 = .ok (.aload_n 0, 1) := by decide +kernel
theorem dX9_content_16 : decode cX9_content 16 = .ok (.ldc 78, 2) := by decide +kernel
theorem dX9_content_18 : decode cX9_content 18 = .ok (.invokevirtual 79, 3) := by decide +kernel
theorem dX9_content_21 : decode cX9_content 21 = .ok (.ireturn, 1) := by decide +kernel
theorem dX9_content_22 : decode cX9_content 22 = .ok (.aload_n 0, 1) := by decide +kernel
theorem dX9_content_23 : decode cX9_content 23 = .ok (.iload_n 1, 1) := by decide +kernel
theorem dX9_content_24 : decode cX9_content 24 = .ok (.iload_n 2, 1) := by decide +kernel
theorem dX9_content_25 : decode cX9_content 25 = .ok (.invokevirtual 109, 3) := by decide +kernel
theorem dX9_content_28 : decode cX9_content 28 = .ok (.ifCond .eq 7, 3) := by decide +kernel
theorem dX9_content_31 : decode cX9_content 31 = .ok (.iconst 1, 1) := by decide +kernel
theorem dX9_content_32 : decode cX9_content 32 = .ok (.goto 4, 3) := by decide +kernel
theorem dX9_content_35 : decode cX9_content 35 = .ok (.iconst 0, 1) := by decide +kernel
theorem dX9_content_36 : decode cX9_content 36 = .ok (.ireturn, 1) := by decide +kernel
set_option maxRecDepth 20000 in
theorem ggX9_canGo_X9_isUp : GoodIn wsX9_canGo wsX9_isUp := goodIn_r _ [5, 6, 7, 8, 9, 4, 10, 11, 12, 13, 14, 15, 16, 17, 18, 19, 20, 21, 22, 23, 24, 25, 26, 27, 28, 29, 30, 31] (by decide +kernel) (by decide +kernel)
set_option maxRecDepth 20000 in
theorem gX9_canGo_X9_isUp : GoodIn wsX9_canGo (wsV RX9 103 RX9 yX9_isUp wsX9_isUp) := goodIn_app (goodIn_of _ (by decide +kernel)) ggX9_canGo_X9_isUp
set_option maxRecDepth 20000 in
theorem ggX9_canGo_X9_about : GoodIn wsX9_canGo wsX9_about := goodIn_r _ [10, 6, 11, 12, 13, 14, 15, 16, 17, 18, 19, 20, 21, 22, 23, 24, 25, 26, 27, 28, 29, 30, 31] (by decide +kernel) (by decide +kernel)
set_option maxRecDepth 20000 in
theorem gX9_canGo_X9_about : GoodIn wsX9_canGo (wsV RX9 97 RX9 yX9_about wsX9_about) := goodIn_app (goodIn_of _ (by decide +kernel)) ggX9_canGo_X9_about
theorem dX9_canGo_0 : decode cX9_canGo 0 = .ok (.aload_n 0, 1) := by decide +kernel
theorem dX9_canGo_1 : decode cX9_canGo 1 = .ok (.iload_n 1, 1) := by decide +kernel
theorem dX9_canGo_2 : decode cX9_canGo 2 = .ok (.invokevirtual 103, 3) := by decide +kernel
theorem dX9_canGo_5 : decode cX9_canGo 5 = .ok (.ifCond .ne 16, 3) := by decide +kernel
theorem dX9_canGo_8 : decode cX9_canGo 8 = .ok (.aload_n 0, 1) := by decide +kernel
theorem dX9_canGo_9 : decode cX9_canGo 9 = .ok (.iload_n 1, 1) := by decide +kernel
theorem dX9_canGo_10 : decode cX9_canGo 10 = .ok (.iconst 1, 1) := by decide +kernel
theorem dX9_canGo_11 : decode cX9_canGo 11 = .ok (.invokevirtual 97, 3) := by decide +kernel
theorem dX9_canGo_14 : decode cX9_canGo 14 = .ok (.ifCond .le 7, 3) := by decide +kernel
theorem dX9_canGo_17 : decode cX9_canGo 17 = .ok (.iconst 1, 1) := by decide +kernel
theorem dX9_canGo_18 : decode cX9_canGo 18 = .ok (.goto 4, 3) := by decide +kernel
theorem dX9_canGo_21 : decode cX9_canGo 21 = .ok (.iconst 0, 1) := by decide +kernel
theorem dX9_canGo_22 : decode cX9_canGo 22 = .ok (.ireturn, 1) := by decide +kernel
set_option maxRecDepth 20000 in
theorem ggX9_says_X9_about : GoodIn wsX9_says wsX9_about := goodIn_r _ [6, 1, 39, 40, 41, 42, 43, 44, 45, 46, 47, 48, 49, 50, 51, 52, 53, 54, 55, 56, 57, 58, 59] (by decide +kernel) (by decide +kernel)
set_option maxRecDepth 20000 in
theorem gX9_says_X9_about : GoodIn wsX9_says (wsV RX9 97 RX9 yX9_about wsX9_about) := goodIn_app (goodIn_of _ (by decide +kernel)) ggX9_says_X9_about
set_option maxRecDepth 20000 in
theorem ggX9_says_X9_isContent : GoodIn wsX9_says wsX9_isContent := goodIn_r _ [10, 11, 12, 13, 5, 14, 1, 15, 16, 17, 18, 19, 20, 21, 22, 23, 24, 25, 26, 27, 28, 29, 30, 31, 32, 33, 34, 39, 40, 41, 42, 43, 44, 45, 46, 47, 48, 49, 50, 51, 52, 53, 54, 55, 56, 57, 58, 59] (by decide +kernel) (by decide +kernel)
set_option maxRecDepth 20000 in
theorem gX9_says_X9_isContent : GoodIn wsX9_says (wsV RX9 109 RX9 yX9_isContent wsX9_isContent) := goodIn_app (goodIn_of _ (by decide +kernel)) ggX9_says_X9_isContent
set_option maxRecDepth 20000 in
theorem ggX9_says_X9_of : GoodIn wsX9_says wsX9_of := goodIn_r _ [18, 1, 39, 40, 41, 42, 43, 44, 45, 46, 47, 48, 49, 50, 51, 52, 53, 54, 55, 56, 57, 58, 59] (by decide +kernel) (by decide +kernel)
set_option maxRecDepth 20000 in
theorem gX9_says_X9_of : GoodIn wsX9_says (wsV RX9 58 RX9 yX9_of wsX9_of) := goodIn_app (goodIn_of _ (by decide +kernel)) ggX9_says_X9_of
set_option maxRecDepth 20000 in
theorem ggX9_says_X9_held : GoodIn wsX9_says wsX9_held := goodIn_r _ [34] (by decide +kernel) (by decide +kernel)
set_option maxRecDepth 20000 in
theorem gX9_says_X9_held : GoodIn wsX9_says (va_wsS RX9 112 yX9_held wsX9_held) := goodIn_app (goodIn_of _ (by decide +kernel)) ggX9_says_X9_held
set_option maxRecDepth 20000 in
theorem ggX9_says_X9_lets : GoodIn wsX9_says wsX9_lets := goodIn_r _ [38, 1, 39, 40, 41, 42, 43, 44, 45, 46, 47, 48, 49, 50, 51, 52, 53, 54, 55, 56, 57, 58, 59] (by decide +kernel) (by decide +kernel)
set_option maxRecDepth 20000 in
theorem gX9_says_X9_lets : GoodIn wsX9_says (wsV RX9 93 RX9 yX9_lets wsX9_lets) := goodIn_app (goodIn_of _ (by decide +kernel)) ggX9_says_X9_lets
theorem dX9_says_0 : decode cX9_says 0 = .ok (.aload_n 0, 1) := by decide +kernel
theorem dX9_says_1 : decode cX9_says 1 = .ok (.iload_n 1, 1) := by decide +kernel
theorem dX9_says_2 : decode cX9_says 2 = .ok (.iconst 0, 1) := by decide +kernel
theorem dX9_says_3 : decode cX9_says 3 = .ok (.invokevirtual 97, 3) := by decide +kernel
theorem dX9_says_6 : decode cX9_says 6 = .ok (.istore_n 3, 1) := by decide +kernel
theorem dX9_says_7 : decode cX9_says 7 = .ok (.aload_n 0, 1) := by decide +kernel
theorem dX9_says_8 : decode cX9_says 8 = .ok (.iload_n 3, 1) := by decide +kernel
theorem dX9_says_9 : decode cX9_says 9 = .ok (.iload_n 2, 1) := by decide +kernel
theorem dX9_says_10 : decode cX9_says 10 = .ok (.invokevirtual 109, 3) := by decide +kernel
theorem dX9_says_13 : decode cX9_says 13 = .ok (.ifCond .ne 7, 3) := by decide +kernel
theorem dX9_says_16 : decode cX9_says 16 = .ok (.iconst 1, 1) := by decide +kernel
theorem dX9_says_17 : decode cX9_says 17 = .ok (.goto 4, 3) := by decide +kernel
theorem dX9_says_20 : decode cX9_says 20 = .ok (.iconst 0, 1) := by decide +kernel
theorem dX9_says_21 : decode cX9_says 21 = .ok (.istore 4, 2) := by decide +kernel
theorem dX9_says_23 : decode cX9_says 23 = .ok (.aload_n 0, 1) := by decide +kernel
theorem dX9_says_24 : decode cX9_says 24 = .ok (.getfield 9, 3) := by decide +kernel
theorem dX9_says_27 : decode cX9_says 27 = .ok (.bipush 6, 2) := by decide +kernel
theorem dX9_says_29 : decode cX9_says 29 = .ok (.iconst 3, 1) := by decide +kernel
theorem dX9_says_30 : decode cX9_says 30 = .ok (.iload_n 3, 1) := by decide +kernel
theorem dX9_says_31 : decode cX9_says 31 = .ok (.imul, 1) := by decide +kernel
theorem dX9_says_32 : decode cX9_says 32 = .ok (.iadd, 1) := by decide +kernel
theorem dX9_says_33 : decode cX9_says 33 = .ok (.iconst 2, 1) := by decide +kernel
theorem dX9_says_34 : decode cX9_says 34 = .ok (.iadd, 1) := by decide +kernel
theorem dX9_says_35 : decode cX9_says 35 = .ok (.aload_n 0, 1) := by decide +kernel
theorem dX9_says_36 : decode cX9_says 36 = .ok (.iload_n 3, 1) := by decide +kernel
theorem dX9_says_37 : decode cX9_says 37 = .ok (.iconst 2, 1) := by decide +kernel
theorem dX9_says_38 : decode cX9_says 38 = .ok (.invokevirtual 58, 3) := by decide +kernel
theorem dX9_says_41 : decode cX9_says 41 = .ok (.iconst 1, 1) := by decide +kernel
theorem dX9_says_42 : decode cX9_says 42 = .ok (.iadd, 1) := by decide +kernel
theorem dX9_says_43 : decode cX9_says 43 = .ok (.iconst 0, 1) := by decide +kernel
theorem dX9_says_44 : decode cX9_says 44 = .ok (.sipush 9999, 3) := by decide +kernel
theorem dX9_says_47 : decode cX9_says 47 = .ok (.invokestatic 112, 3) := by decide +kernel
theorem dX9_says_50 : decode cX9_says 50 = .ok (.iastore, 1) := by decide +kernel
theorem dX9_says_51 : decode cX9_says 51 = .ok (.aload_n 0, 1) := by decide +kernel
theorem dX9_says_52 : decode cX9_says 52 = .ok (.iload_n 1, 1) := by decide +kernel
theorem dX9_says_53 : decode cX9_says 53 = .ok (.iconst 1, 1) := by decide +kernel
theorem dX9_says_54 : decode cX9_says 54 = .ok (.aload_n 0, 1) := by decide +kernel
theorem dX9_says_55 : decode cX9_says 55 = .ok (.iload_n 1, 1) := by decide +kernel
theorem dX9_says_56 : decode cX9_says 56 = .ok (.iconst 1, 1) := by decide +kernel
theorem dX9_says_57 : decode cX9_says 57 = .ok (.invokevirtual 97, 3) := by decide +kernel
theorem dX9_says_60 : decode cX9_says 60 = .ok (.iconst 1, 1) := by decide +kernel
theorem dX9_says_61 : decode cX9_says 61 = .ok (.isub, 1) := by decide +kernel
theorem dX9_says_62 : decode cX9_says 62 = .ok (.invokevirtual 93, 3) := by decide +kernel
theorem dX9_says_65 : decode cX9_says 65 = .ok (.aload_n 0, 1) := by decide +kernel
theorem dX9_says_66 : decode cX9_says 66 = .ok (.iload_n 1, 1) := by decide +kernel
theorem dX9_says_67 : decode cX9_says 67 = .ok (.iconst 0, 1) := by decide +kernel
theorem dX9_says_68 : decode cX9_says 68 = .ok (.iload 4, 2) := by decide +kernel
theorem dX9_says_70 : decode cX9_says 70 = .ok (.ifCond .eq 15, 3) := by decide +kernel
theorem dX9_says_73 : decode cX9_says 73 = .ok (.iload_n 3, 1) := by decide +kernel
theorem dX9_says_74 : decode cX9_says 74 = .ok (.iconst 2, 1) := by decide +kernel
theorem dX9_says_75 : decode cX9_says 75 = .ok (.isub, 1) := by decide +kernel
theorem dX9_says_76 : decode cX9_says 76 = .ok (.iconst 0, 1) := by decide +kernel
theorem dX9_says_77 : decode cX9_says 77 = .ok (.bipush 20, 2) := by decide +kernel
theorem dX9_says_79 : decode cX9_says 79 = .ok (.invokestatic 112, 3) := by decide +kernel
theorem dX9_says_82 : decode cX9_says 82 = .ok (.goto 6, 3) := by decide +kernel
theorem dX9_says_85 : decode cX9_says 85 = .ok (.iload_n 3, 1) := by decide +kernel
theorem dX9_says_86 : decode cX9_says 86 = .ok (.iconst 1, 1) := by decide +kernel
theorem dX9_says_87 : decode cX9_says 87 = .ok (.iadd, 1) := by decide +kernel
theorem dX9_says_88 : decode cX9_says 88 = .ok (.invokevirtual 93, 3) := by decide +kernel
theorem dX9_says_91 : decode cX9_says 91 = .ok (.aload_n 0, 1) := by decide +kernel
theorem dX9_says_92 : decode cX9_says 92 = .ok (.iload_n 1, 1) := by decide +kernel
theorem dX9_says_93 : decode cX9_says 93 = .ok (.iconst 3, 1) := by decide +kernel
theorem dX9_says_94 : decode cX9_says 94 = .ok (.aload_n 0, 1) := by decide +kernel
theorem dX9_says_95 : decode cX9_says 95 = .ok (.iload_n 1, 1) := by decide +kernel
theorem dX9_says_96 : decode cX9_says 96 = .ok (.iconst 3, 1) := by decide +kernel
theorem dX9_says_97 : decode cX9_says 97 = .ok (.invokevirtual 97, 3) := by decide +kernel
theorem dX9_says_100 : decode cX9_says 100 = .ok (.iload 4, 2) := by decide +kernel
theorem dX9_says_102 : decode cX9_says 102 = .ok (.ifCond .eq 7, 3) := by decide +kernel
theorem dX9_says_105 : decode cX9_says 105 = .ok (.iconst 1, 1) := by decide +kernel
theorem dX9_says_106 : decode cX9_says 106 = .ok (.goto 4, 3) := by decide +kernel
theorem dX9_says_109 : decode cX9_says 109 = .ok (.iconst 0, 1) := by decide +kernel
theorem dX9_says_110 : decode cX9_says 110 = .ok (.iadd, 1) := by decide +kernel
theorem dX9_says_111 : decode cX9_says 111 = .ok (.iconst 0, 1) := by decide +kernel
theorem dX9_says_112 : decode cX9_says 112 = .ok (.sipush 9999, 3) := by decide +kernel
theorem dX9_says_115 : decode cX9_says 115 = .ok (.invokestatic 112, 3) := by decide +kernel
theorem dX9_says_118 : decode cX9_says 118 = .ok (.invokevirtual 93, 3) := by decide +kernel
theorem dX9_says_121 : decode cX9_says 121 = .ok (.iload 4, 2) := by decide +kernel
theorem dX9_says_123 : decode cX9_says 123 = .ok (.ireturn, 1) := by decide +kernel
set_option maxRecDepth 20000 in
theorem ggX9_say_X9_isPerson : GoodIn wsX9_say wsX9_isPerson := goodIn_r _ [7, 8, 9, 10, 6, 11, 69, 70, 71, 72, 73, 74, 75, 76, 77, 78, 79, 80, 81, 82, 83, 84, 85, 86, 87, 88, 89] (by decide +kernel) (by decide +kernel)
set_option maxRecDepth 20000 in
theorem gX9_say_X9_isPerson : GoodIn wsX9_say (wsV RX9 100 RX9 yX9_isPerson wsX9_isPerson) := goodIn_app (goodIn_of _ (by decide +kernel)) ggX9_say_X9_isPerson
set_option maxRecDepth 20000 in
theorem ggX9_say_X9_isWord : GoodIn wsX9_say wsX9_isWord := goodIn_r _ [14, 9, 10, 6, 11] (by decide +kernel) (by decide +kernel)
set_option maxRecDepth 20000 in
theorem gX9_say_X9_isWord : GoodIn wsX9_say (va_wsS RX9 106 yX9_isWord wsX9_isWord) := goodIn_app (goodIn_of _ (by decide +kernel)) ggX9_say_X9_isWord
set_option maxRecDepth 20000 in
theorem ggX9_say_X9_error : GoodIn wsX9_say wsX9_error := goodIn_r _ [18, 19, 20, 69, 70, 71, 72, 73, 74, 75, 76, 77, 78, 79, 80, 81, 82, 83, 84, 85, 86, 87, 88, 89] (by decide +kernel) (by decide +kernel)
set_option maxRecDepth 20000 in
theorem gX9_say_X9_error : GoodIn wsX9_say (wsV RX9 79 RX9 yX9_error wsX9_error) := goodIn_app (goodIn_of _ (by decide +kernel)) ggX9_say_X9_error
set_option maxRecDepth 20000 in
theorem ggX9_say_X9_canGo : GoodIn wsX9_say wsX9_canGo := goodIn_r _ [24, 25, 26, 27, 6, 28, 8, 29, 30, 31, 32, 69, 70, 71, 72, 73, 74, 75, 76, 77, 78, 79, 80, 81, 82, 83, 84, 85, 86, 87, 88, 89] (by decide +kernel) (by decide +kernel)
set_option maxRecDepth 20000 in
theorem gX9_say_X9_canGo : GoodIn wsX9_say (wsV RX9 116 RX9 yX9_canGo wsX9_canGo) := goodIn_app (goodIn_of _ (by decide +kernel)) ggX9_say_X9_canGo
set_option maxRecDepth 20000 in
theorem ggX9_say_X9_says : GoodIn wsX9_say wsX9_says := goodIn_r _ [36, 8, 29, 30, 31, 6, 32, 37, 38, 39, 40, 41, 42, 43, 44, 45, 46, 47, 48, 49, 50, 51, 52, 53, 54, 55, 56, 57, 58, 59, 60, 61, 62, 63, 64, 65, 66, 67, 68, 69, 70, 71, 72, 73, 74, 75, 76, 77, 78, 79, 80, 81, 82, 83, 84, 85, 86, 87, 88, 89] (by decide +kernel) (by decide +kernel)
set_option maxRecDepth 20000 in
theorem gX9_say_X9_says : GoodIn wsX9_say (wsV RX9 120 RX9 yX9_says wsX9_says) := goodIn_app (goodIn_of _ (by decide +kernel)) ggX9_say_X9_says
set_option maxRecDepth 20000 in
theorem ggX9_say_X9_about : GoodIn wsX9_say wsX9_about := goodIn_r _ [32, 8, 69, 70, 71, 72, 73, 74, 75, 76, 77, 78, 79, 80, 81, 82, 83, 84, 85, 86, 87, 88, 89] (by decide +kernel) (by decide +kernel)
set_option maxRecDepth 20000 in
theorem gX9_say_X9_about : GoodIn wsX9_say (wsV RX9 97 RX9 yX9_about wsX9_about) := goodIn_app (goodIn_of _ (by decide +kernel)) ggX9_say_X9_about
theorem dX9_say_0 : decode cX9_say 0 = .ok (.aload_n 0, 1) := by decide +kernel
theorem dX9_say_1 : decode cX9_say 1 = .ok (.iload_n 1, 1) := by decide +kernel
theorem dX9_say_2 : decode cX9_say 2 = .ok (.invokevirtual 100, 3) := by decide +kernel
theorem dX9_say_5 : decode cX9_say 5 = .ok (.ifCond .eq 10, 3) := by decide +kernel
theorem dX9_say_8 : decode cX9_say 8 = .ok (.iload_n 2, 1) := by decide +kernel
theorem dX9_say_9 : decode cX9_say 9 = .ok (.invokestatic 106, 3) := by decide +kernel
theorem dX9_say_12 : decode cX9_say 12 = .ok (.ifCond .ne 10, 3) := by decide +kernel
theorem dX9_say_15 : decode cX9_say 15 = .ok (.aload_n 0, 1) := by decide +kernel
theorem dX9_say_16 : decode cX9_say 16 = .ok (.ldc 78, 2) := by decide +kernel
theorem dX9_say_18 : decode cX9_say 18 = .ok (.invokevirtual 79, 3) := by decide +kernel
theorem dX9_say_21 : decode cX9_say 21 = .ok (.ireturn, 1) := by decide +kernel
theorem dX9_say_22 : decode cX9_say 22 = .ok (.aload_n 0, 1) := by decide +kernel
theorem dX9_say_23 : decode cX9_say 23 = .ok (.iload_n 1, 1) := by decide +kernel
theorem dX9_say_24 : decode cX9_say 24 = .ok (.invokevirtual 116, 3) := by decide +kernel
theorem dX9_say_27 : decode cX9_say 27 = .ok (.ifCond .ne 10, 3) := by decide +kernel
theorem dX9_say_30 : decode cX9_say 30 = .ok (.aload_n 0, 1) := by decide +kernel
theorem dX9_say_31 : decode cX9_say 31 = .ok (.ldc 119, 2) := by decide +kernel
theorem dX9_say_33 : decode cX9_say 33 = .ok (.invokevirtual 79, 3) := by decide +kernel
theorem dX9_say_36 : decode cX9_say 36 = .ok (.ireturn, 1) := by decide +kernel
theorem dX9_say_37 : decode cX9_say 37 = .ok (.aload_n 0, 1) := by decide +kernel
theorem dX9_say_38 : decode cX9_say 38 = .ok (.iload_n 1, 1) := by decide +kernel
theorem dX9_say_39 : decode cX9_say 39 = .ok (.iload_n 2, 1) := by decide +kernel
theorem dX9_say_40 : decode cX9_say 40 = .ok (.invokevirtual 120, 3) := by decide +kernel
theorem dX9_say_43 : decode cX9_say 43 = .ok (.istore_n 3, 1) := by decide +kernel
theorem dX9_say_44 : decode cX9_say 44 = .ok (.aload_n 0, 1) := by decide +kernel
theorem dX9_say_45 : decode cX9_say 45 = .ok (.iload_n 1, 1) := by decide +kernel
theorem dX9_say_46 : decode cX9_say 46 = .ok (.iconst 0, 1) := by decide +kernel
theorem dX9_say_47 : decode cX9_say 47 = .ok (.invokevirtual 97, 3) := by decide +kernel
theorem dX9_say_50 : decode cX9_say 50 = .ok (.ireturn, 1) := by decide +kernel
set_option maxRecDepth 20000 in
theorem ggX9_bribe_X9_isPerson : GoodIn wsX9_bribe wsX9_isPerson := goodIn_r _ [8, 9, 10, 11, 7, 12, 63, 64, 65, 66, 67, 68, 69, 70, 71, 72, 73, 74, 75, 76, 77, 78, 79, 80, 81, 82, 83] (by decide +kernel) (by decide +kernel)
set_option maxRecDepth 20000 in
theorem gX9_bribe_X9_isPerson : GoodIn wsX9_bribe (wsV RX9 100 RX9 yX9_isPerson wsX9_isPerson) := goodIn_app (goodIn_of _ (by decide +kernel)) ggX9_bribe_X9_isPerson
set_option maxRecDepth 20000 in
theorem ggX9_bribe_X9_error : GoodIn wsX9_bribe wsX9_error := goodIn_r _ [16, 17, 18, 63, 64, 65, 66, 67, 68, 69, 70, 71, 72, 73, 74, 75, 76, 77, 78, 79, 80, 81, 82, 83] (by decide +kernel) (by decide +kernel)
set_option maxRecDepth 20000 in
theorem gX9_bribe_X9_error : GoodIn wsX9_bribe (wsV RX9 79 RX9 yX9_error wsX9_error) := goodIn_app (goodIn_of _ (by decide +kernel)) ggX9_bribe_X9_error
set_option maxRecDepth 20000 in
theorem ggX9_bribe_X9_canGo : GoodIn wsX9_bribe wsX9_canGo := goodIn_r _ [22, 23, 24, 25, 7, 26, 9, 27, 28, 29, 30, 63, 64, 65, 66, 67, 68, 69, 70, 71, 72, 73, 74, 75, 76, 77, 78, 79, 80, 81, 82, 83] (by decide +kernel) (by decide +kernel)
set_option maxRecDepth 20000 in
theorem gX9_bribe_X9_canGo : GoodIn wsX9_bribe (wsV RX9 116 RX9 yX9_canGo wsX9_canGo) := goodIn_app (goodIn_of _ (by decide +kernel)) ggX9_bribe_X9_canGo
set_option maxRecDepth 20000 in
theorem ggX9_bribe_X9_about : GoodIn wsX9_bribe wsX9_about := goodIn_r _ [30, 9, 63, 64, 65, 66, 67, 68, 69, 70, 71, 72, 73, 74, 75, 76, 77, 78, 79, 80, 81, 82, 83] (by decide +kernel) (by decide +kernel)
set_option maxRecDepth 20000 in
theorem gX9_bribe_X9_about : GoodIn wsX9_bribe (wsV RX9 97 RX9 yX9_about wsX9_about) := goodIn_app (goodIn_of _ (by decide +kernel)) ggX9_bribe_X9_about
set_option maxRecDepth 20000 in
theorem ggX9_bribe_X9_bribeOf : GoodIn wsX9_bribe wsX9_bribeOf := goodIn_r _ [34, 35, 36, 37, 7, 38, 39, 40, 41, 42, 9, 43, 44, 45, 46, 47, 48, 49, 50, 51, 52, 53, 54, 55, 56, 57, 58, 63, 64, 65, 66, 67, 68, 69, 70, 71, 72, 73, 74, 75, 76, 77, 78, 79, 80, 81, 82, 83] (by decide +kernel) (by decide +kernel)
set_option maxRecDepth 20000 in
theorem gX9_bribe_X9_bribeOf : GoodIn wsX9_bribe (wsV RX9 86 RX9 yX9_bribeOf wsX9_bribeOf) := goodIn_app (goodIn_of _ (by decide +kernel)) ggX9_bribe_X9_bribeOf
set_option maxRecDepth 20000 in
theorem ggX9_bribe_X9_held : GoodIn wsX9_bribe wsX9_held := goodIn_r _ [58] (by decide +kernel) (by decide +kernel)
set_option maxRecDepth 20000 in
theorem gX9_bribe_X9_held : GoodIn wsX9_bribe (va_wsS RX9 112 yX9_held wsX9_held) := goodIn_app (goodIn_of _ (by decide +kernel)) ggX9_bribe_X9_held
set_option maxRecDepth 20000 in
theorem ggX9_bribe_X9_lets : GoodIn wsX9_bribe wsX9_lets := goodIn_r _ [62, 9, 63, 64, 65, 66, 67, 68, 69, 70, 71, 72, 73, 74, 75, 76, 77, 78, 79, 80, 81, 82, 83] (by decide +kernel) (by decide +kernel)
set_option maxRecDepth 20000 in
theorem gX9_bribe_X9_lets : GoodIn wsX9_bribe (wsV RX9 93 RX9 yX9_lets wsX9_lets) := goodIn_app (goodIn_of _ (by decide +kernel)) ggX9_bribe_X9_lets
theorem dX9_bribe_0 : decode cX9_bribe 0 = .ok (.aload_n 0, 1) := by decide +kernel
theorem dX9_bribe_1 : decode cX9_bribe 1 = .ok (.iload_n 1, 1) := by decide +kernel
theorem dX9_bribe_2 : decode cX9_bribe 2 = .ok (.invokevirtual 100, 3) := by decide +kernel
theorem dX9_bribe_5 : decode cX9_bribe 5 = .ok (.ifCond .ne 10, 3) := by decide +kernel
theorem dX9_bribe_8 : decode cX9_bribe 8 = .ok (.aload_n 0, 1) := by decide +kernel
theorem dX9_bribe_9 : decode cX9_bribe 9 = .ok (.ldc 78, 2) := by decide +kernel
theorem dX9_bribe_11 : decode cX9_bribe 11 = .ok (.invokevirtual 79, 3) := by decide +kernel
theorem dX9_bribe_14 : decode cX9_bribe 14 = .ok (.ireturn, 1) := by decide +kernel
theorem dX9_bribe_15 : decode cX9_bribe 15 = .ok (.aload_n 0, 1) := by decide +kernel
theorem dX9_bribe_16 : decode cX9_bribe 16 = .ok (.iload_n 1, 1) := by decide +kernel
theorem dX9_bribe_17 : decode cX9_bribe 17 = .ok (.invokevirtual 116, 3) := by decide +kernel
theorem dX9_bribe_20 : decode cX9_bribe 20 = .ok (.ifCond .ne 10, 3) := by decide +kernel
theorem dX9_bribe_23 : decode cX9_bribe 23 = .ok (.aload_n 0, 1) := by decide +kernel
theorem dX9_bribe_24 : decode cX9_bribe 24 = .ok (.ldc 119, 2) := by decide +kernel
theorem dX9_bribe_26 : decode cX9_bribe 26 = .ok (.invokevirtual 79, 3) := by decide +kernel
theorem dX9_bribe_29 : decode cX9_bribe 29 = .ok (.ireturn, 1) := by decide +kernel
theorem dX9_bribe_30 : decode cX9_bribe 30 = .ok (.aload_n 0, 1) := by decide +kernel
theorem dX9_bribe_31 : decode cX9_bribe 31 = .ok (.iload_n 1, 1) := by decide +kernel
theorem dX9_bribe_32 : decode cX9_bribe 32 = .ok (.iconst 0, 1) := by decide +kernel
theorem dX9_bribe_33 : decode cX9_bribe 33 = .ok (.invokevirtual 97, 3) := by decide +kernel
theorem dX9_bribe_36 : decode cX9_bribe 36 = .ok (.istore_n 2, 1) := by decide +kernel
theorem dX9_bribe_37 : decode cX9_bribe 37 = .ok (.aload_n 0, 1) := by decide +kernel
theorem dX9_bribe_38 : decode cX9_bribe 38 = .ok (.iload_n 2, 1) := by decide +kernel
theorem dX9_bribe_39 : decode cX9_bribe 39 = .ok (.invokevirtual 86, 3) := by decide +kernel
theorem dX9_bribe_42 : decode cX9_bribe 42 = .ok (.istore_n 3, 1) := by decide +kernel
theorem dX9_bribe_43 : decode cX9_bribe 43 = .ok (.aload_n 0, 1) := by decide +kernel
theorem dX9_bribe_44 : decode cX9_bribe 44 = .ok (.iload_n 1, 1) := by decide +kernel
theorem dX9_bribe_45 : decode cX9_bribe 45 = .ok (.iconst 2, 1) := by decide +kernel
theorem dX9_bribe_46 : decode cX9_bribe 46 = .ok (.aload_n 0, 1) := by decide +kernel
theorem dX9_bribe_47 : decode cX9_bribe 47 = .ok (.iload_n 1, 1) := by decide +kernel
theorem dX9_bribe_48 : decode cX9_bribe 48 = .ok (.iconst 2, 1) := by decide +kernel
theorem dX9_bribe_49 : decode cX9_bribe 49 = .ok (.invokevirtual 97, 3) := by decide +kernel
theorem dX9_bribe_52 : decode cX9_bribe 52 = .ok (.iload_n 3, 1) := by decide +kernel
theorem dX9_bribe_53 : decode cX9_bribe 53 = .ok (.iadd, 1) := by decide +kernel
theorem dX9_bribe_54 : decode cX9_bribe 54 = .ok (.iconst 0, 1) := by decide +kernel
theorem dX9_bribe_55 : decode cX9_bribe 55 = .ok (.ldc 123, 2) := by decide +kernel
theorem dX9_bribe_57 : decode cX9_bribe 57 = .ok (.invokestatic 112, 3) := by decide +kernel
theorem dX9_bribe_60 : decode cX9_bribe 60 = .ok (.invokevirtual 93, 3) := by decide +kernel
theorem dX9_bribe_63 : decode cX9_bribe 63 = .ok (.aload_n 0, 1) := by decide +kernel
theorem dX9_bribe_64 : decode cX9_bribe 64 = .ok (.iload_n 1, 1) := by decide +kernel
theorem dX9_bribe_65 : decode cX9_bribe 65 = .ok (.iconst 1, 1) := by decide +kernel
theorem dX9_bribe_66 : decode cX9_bribe 66 = .ok (.aload_n 0, 1) := by decide +kernel
theorem dX9_bribe_67 : decode cX9_bribe 67 = .ok (.iload_n 1, 1) := by decide +kernel
theorem dX9_bribe_68 : decode cX9_bribe 68 = .ok (.iconst 1, 1) := by decide +kernel
theorem dX9_bribe_69 : decode cX9_bribe 69 = .ok (.invokevirtual 97, 3) := by decide +kernel
theorem dX9_bribe_72 : decode cX9_bribe 72 = .ok (.iconst 1, 1) := by decide +kernel
theorem dX9_bribe_73 : decode cX9_bribe 73 = .ok (.isub, 1) := by decide +kernel
theorem dX9_bribe_74 : decode cX9_bribe 74 = .ok (.invokevirtual 93, 3) := by decide +kernel
theorem dX9_bribe_77 : decode cX9_bribe 77 = .ok (.aload_n 0, 1) := by decide +kernel
theorem dX9_bribe_78 : decode cX9_bribe 78 = .ok (.iload_n 1, 1) := by decide +kernel
theorem dX9_bribe_79 : decode cX9_bribe 79 = .ok (.iconst 0, 1) := by decide +kernel
theorem dX9_bribe_80 : decode cX9_bribe 80 = .ok (.iload_n 2, 1) := by decide +kernel
theorem dX9_bribe_81 : decode cX9_bribe 81 = .ok (.iconst 1, 1) := by decide +kernel
theorem dX9_bribe_82 : decode cX9_bribe 82 = .ok (.iadd, 1) := by decide +kernel
theorem dX9_bribe_83 : decode cX9_bribe 83 = .ok (.invokevirtual 93, 3) := by decide +kernel
theorem dX9_bribe_86 : decode cX9_bribe 86 = .ok (.iload_n 3, 1) := by decide +kernel
theorem dX9_bribe_87 : decode cX9_bribe 87 = .ok (.ireturn, 1) := by decide +kernel
set_option maxRecDepth 20000 in
theorem ggX9_feed_X9_in : GoodIn wsX9_feed wsX9_in := goodIn_r _ [8] (by decide +kernel) (by decide +kernel)
set_option maxRecDepth 20000 in
theorem gX9_feed_X9_in : GoodIn wsX9_feed (va_wsS RX9 54 yX9_in wsX9_in) := goodIn_app (goodIn_of _ (by decide +kernel)) ggX9_feed_X9_in
set_option maxRecDepth 20000 in
theorem ggX9_feed_X9_error : GoodIn wsX9_feed wsX9_error := goodIn_r _ [12, 13, 14, 15, 16, 17, 18, 19, 20, 21, 22, 23, 24, 25, 26, 27, 28, 29, 30, 31, 32, 33, 34, 35] (by decide +kernel) (by decide +kernel)
set_option maxRecDepth 20000 in
theorem gX9_feed_X9_error : GoodIn wsX9_feed (wsV RX9 79 RX9 yX9_error wsX9_error) := goodIn_app (goodIn_of _ (by decide +kernel)) ggX9_feed_X9_error
theorem dX9_feed_0 : decode cX9_feed 0 = .ok (.iload_n 3, 1) := by decide +kernel
theorem dX9_feed_1 : decode cX9_feed 1 = .ok (.iconst 1, 1) := by decide +kernel
theorem dX9_feed_2 : decode cX9_feed 2 = .ok (.bipush 8, 2) := by decide +kernel
theorem dX9_feed_4 : decode cX9_feed 4 = .ok (.invokestatic 54, 3) := by decide +kernel
theorem dX9_feed_7 : decode cX9_feed 7 = .ok (.ifCond .ne 10, 3) := by decide +kernel
theorem dX9_feed_10 : decode cX9_feed 10 = .ok (.aload_n 0, 1) := by decide +kernel
theorem dX9_feed_11 : decode cX9_feed 11 = .ok (.ldc 78, 2) := by decide +kernel
theorem dX9_feed_13 : decode cX9_feed 13 = .ok (.invokevirtual 79, 3) := by decide +kernel
theorem dX9_feed_16 : decode cX9_feed 16 = .ok (.ireturn, 1) := by decide +kernel
theorem dX9_feed_17 : decode cX9_feed 17 = .ok (.aload_n 0, 1) := by decide +kernel
theorem dX9_feed_18 : decode cX9_feed 18 = .ok (.getfield 9, 3) := by decide +kernel
theorem dX9_feed_21 : decode cX9_feed 21 = .ok (.iconst 4, 1) := by decide +kernel
theorem dX9_feed_22 : decode cX9_feed 22 = .ok (.iaload, 1) := by decide +kernel
theorem dX9_feed_23 : decode cX9_feed 23 = .ok (.iload_n 3, 1) := by decide +kernel
theorem dX9_feed_24 : decode cX9_feed 24 = .ok (.iadd, 1) := by decide +kernel
theorem dX9_feed_25 : decode cX9_feed 25 = .ok (.bipush 60, 2) := by decide +kernel
theorem dX9_feed_27 : decode cX9_feed 27 = .ok (.if_icmp .le 10, 3) := by decide +kernel
theorem dX9_feed_30 : decode cX9_feed 30 = .ok (.aload_n 0, 1) := by decide +kernel
theorem dX9_feed_31 : decode cX9_feed 31 = .ok (.ldc 82, 2) := by decide +kernel
theorem dX9_feed_33 : decode cX9_feed 33 = .ok (.invokevirtual 79, 3) := by decide +kernel
theorem dX9_feed_36 : decode cX9_feed 36 = .ok (.ireturn, 1) := by decide +kernel
theorem dX9_feed_37 : decode cX9_feed 37 = .ok (.iconst 0, 1) := by decide +kernel
theorem dX9_feed_38 : decode cX9_feed 38 = .ok (.istore 4, 2) := by decide +kernel
theorem dX9_feed_40 : decode cX9_feed 40 = .ok (.iload 4, 2) := by decide +kernel
theorem dX9_feed_42 : decode cX9_feed 42 = .ok (.iload_n 3, 1) := by decide +kernel
theorem dX9_feed_43 : decode cX9_feed 43 = .ok (.if_icmp .ge 45, 3) := by decide +kernel
theorem dX9_feed_46 : decode cX9_feed 46 = .ok (.aload_n 0, 1) := by decide +kernel
theorem dX9_feed_47 : decode cX9_feed 47 = .ok (.getfield 9, 3) := by decide +kernel
theorem dX9_feed_50 : decode cX9_feed 50 = .ok (.bipush 86, 2) := by decide +kernel
theorem dX9_feed_52 : decode cX9_feed 52 = .ok (.aload_n 0, 1) := by decide +kernel
theorem dX9_feed_53 : decode cX9_feed 53 = .ok (.getfield 9, 3) := by decide +kernel
theorem dX9_feed_56 : decode cX9_feed 56 = .ok (.iconst 4, 1) := by decide +kernel
theorem dX9_feed_57 : decode cX9_feed 57 = .ok (.iaload, 1) := by decide +kernel
theorem dX9_feed_58 : decode cX9_feed 58 = .ok (.iadd, 1) := by decide +kernel
theorem dX9_feed_59 : decode cX9_feed 59 = .ok (.lload_n 1, 1) := by decide +kernel
theorem dX9_feed_60 : decode cX9_feed 60 = .ok (.bipush 8, 2) := by decide +kernel
theorem dX9_feed_62 : decode cX9_feed 62 = .ok (.iload 4, 2) := by decide +kernel
theorem dX9_feed_64 : decode cX9_feed 64 = .ok (.imul, 1) := by decide +kernel
theorem dX9_feed_65 : decode cX9_feed 65 = .ok (.lshr, 1) := by decide +kernel
theorem dX9_feed_66 : decode cX9_feed 66 = .ok (.ldc2_w 124, 3) := by decide +kernel
theorem dX9_feed_69 : decode cX9_feed 69 = .ok (.land, 1) := by decide +kernel
theorem dX9_feed_70 : decode cX9_feed 70 = .ok (.l2i, 1) := by decide +kernel
theorem dX9_feed_71 : decode cX9_feed 71 = .ok (.iastore, 1) := by decide +kernel
theorem dX9_feed_72 : decode cX9_feed 72 = .ok (.aload_n 0, 1) := by decide +kernel
theorem dX9_feed_73 : decode cX9_feed 73 = .ok (.getfield 9, 3) := by decide +kernel
theorem dX9_feed_76 : decode cX9_feed 76 = .ok (.iconst 4, 1) := by decide +kernel
theorem dX9_feed_77 : decode cX9_feed 77 = .ok (.dup2, 1) := by decide +kernel
theorem dX9_feed_78 : decode cX9_feed 78 = .ok (.iaload, 1) := by decide +kernel
theorem dX9_feed_79 : decode cX9_feed 79 = .ok (.iconst 1, 1) := by decide +kernel
theorem dX9_feed_80 : decode cX9_feed 80 = .ok (.iadd, 1) := by decide +kernel
theorem dX9_feed_81 : decode cX9_feed 81 = .ok (.iastore, 1) := by decide +kernel
theorem dX9_feed_82 : decode cX9_feed 82 = .ok (.iinc 4 1, 3) := by decide +kernel
theorem dX9_feed_85 : decode cX9_feed 85 = .ok (.goto (-45), 3) := by decide +kernel
theorem dX9_feed_88 : decode cX9_feed 88 = .ok (.aload_n 0, 1) := by decide +kernel
theorem dX9_feed_89 : decode cX9_feed 89 = .ok (.getfield 9, 3) := by decide +kernel
theorem dX9_feed_92 : decode cX9_feed 92 = .ok (.iconst 4, 1) := by decide +kernel
theorem dX9_feed_93 : decode cX9_feed 93 = .ok (.iaload, 1) := by decide +kernel
theorem dX9_feed_94 : decode cX9_feed 94 = .ok (.ireturn, 1) := by decide +kernel
theorem dX9_look_0 : decode cX9_look 0 = .ok (.aload_n 0, 1) := by decide +kernel
theorem dX9_look_1 : decode cX9_look 1 = .ok (.getfield 126, 3) := by decide +kernel
theorem dX9_look_4 : decode cX9_look 4 = .ok (.aload_n 0, 1) := by decide +kernel
theorem dX9_look_5 : decode cX9_look 5 = .ok (.getfield 9, 3) := by decide +kernel
theorem dX9_look_8 : decode cX9_look 8 = .ok (.iconst 4, 1) := by decide +kernel
theorem dX9_look_9 : decode cX9_look 9 = .ok (.iaload, 1) := by decide +kernel
theorem dX9_look_10 : decode cX9_look 10 = .ok (.if_icmp .ge 18, 3) := by decide +kernel
theorem dX9_look_13 : decode cX9_look 13 = .ok (.aload_n 0, 1) := by decide +kernel
theorem dX9_look_14 : decode cX9_look 14 = .ok (.getfield 9, 3) := by decide +kernel
theorem dX9_look_17 : decode cX9_look 17 = .ok (.bipush 86, 2) := by decide +kernel
theorem dX9_look_19 : decode cX9_look 19 = .ok (.aload_n 0, 1) := by decide +kernel
theorem dX9_look_20 : decode cX9_look 20 = .ok (.getfield 126, 3) := by decide +kernel
theorem dX9_look_23 : decode cX9_look 23 = .ok (.iadd, 1) := by decide +kernel
theorem dX9_look_24 : decode cX9_look 24 = .ok (.iaload, 1) := by decide +kernel
theorem dX9_look_25 : decode cX9_look 25 = .ok (.goto 4, 3) := by decide +kernel
theorem dX9_look_28 : decode cX9_look 28 = .ok (.iconst (-1), 1) := by decide +kernel
theorem dX9_look_29 : decode cX9_look 29 = .ok (.ireturn, 1) := by decide +kernel
theorem dX9_lays_0 : decode cX9_lays 0 = .ok (.aload_n 0, 1) := by decide +kernel
theorem dX9_lays_1 : decode cX9_lays 1 = .ok (.getfield 130, 3) := by decide +kernel
theorem dX9_lays_4 : decode cX9_lays 4 = .ok (.aload_n 0, 1) := by decide +kernel
theorem dX9_lays_5 : decode cX9_lays 5 = .ok (.getfield 31, 3) := by decide +kernel
theorem dX9_lays_8 : decode cX9_lays 8 = .ok (.arraylength, 1) := by decide +kernel
theorem dX9_lays_9 : decode cX9_lays 9 = .ok (.if_icmp .ge 33, 3) := by decide +kernel
theorem dX9_lays_12 : decode cX9_lays 12 = .ok (.aload_n 0, 1) := by decide +kernel
theorem dX9_lays_13 : decode cX9_lays 13 = .ok (.getfield 31, 3) := by decide +kernel
theorem dX9_lays_16 : decode cX9_lays 16 = .ok (.aload_n 0, 1) := by decide +kernel
theorem dX9_lays_17 : decode cX9_lays 17 = .ok (.getfield 130, 3) := by decide +kernel
theorem dX9_lays_20 : decode cX9_lays 20 = .ok (.iload_n 1, 1) := by decide +kernel
theorem dX9_lays_21 : decode cX9_lays 21 = .ok (.iastore, 1) := by decide +kernel
theorem dX9_lays_22 : decode cX9_lays 22 = .ok (.aload_n 0, 1) := by decide +kernel
theorem dX9_lays_23 : decode cX9_lays 23 = .ok (.getfield 34, 3) := by decide +kernel
theorem dX9_lays_26 : decode cX9_lays 26 = .ok (.aload_n 0, 1) := by decide +kernel
theorem dX9_lays_27 : decode cX9_lays 27 = .ok (.getfield 130, 3) := by decide +kernel
theorem dX9_lays_30 : decode cX9_lays 30 = .ok (.iload_n 2, 1) := by decide +kernel
theorem dX9_lays_31 : decode cX9_lays 31 = .ok (.iastore, 1) := by decide +kernel
theorem dX9_lays_32 : decode cX9_lays 32 = .ok (.aload_n 0, 1) := by decide +kernel
theorem dX9_lays_33 : decode cX9_lays 33 = .ok (.dup, 1) := by decide +kernel
theorem dX9_lays_34 : decode cX9_lays 34 = .ok (.getfield 130, 3) := by decide +kernel
theorem dX9_lays_37 : decode cX9_lays 37 = .ok (.iconst 1, 1) := by decide +kernel
theorem dX9_lays_38 : decode cX9_lays 38 = .ok (.iadd, 1) := by decide +kernel
theorem dX9_lays_39 : decode cX9_lays 39 = .ok (.putfield 130, 3) := by decide +kernel
theorem dX9_lays_42 : decode cX9_lays 42 = .ok (.return_, 1) := by decide +kernel
theorem dX9_nameOf_0 : decode cX9_nameOf 0 = .ok (.iload_n 1, 1) := by decide +kernel
theorem dX9_nameOf_1 : decode cX9_nameOf 1 = .ok (.lookupswitch 100 #[(98, 76), (107, 76), (109, 51), (115, 74), (119, 51)], 51) := by decide +kernel
theorem dX9_nameOf_52 : decode cX9_nameOf 52 = .ok (.aload_n 0, 1) := by decide +kernel
theorem dX9_nameOf_53 : decode cX9_nameOf 53 = .ok (.getfield 133, 3) := by decide +kernel
theorem dX9_nameOf_56 : decode cX9_nameOf 56 = .ok (.ifCond .eq 7, 3) := by decide +kernel
theorem dX9_nameOf_59 : decode cX9_nameOf 59 = .ok (.iconst (-1), 1) := by decide +kernel
theorem dX9_nameOf_60 : decode cX9_nameOf 60 = .ok (.goto 14, 3) := by decide +kernel
theorem dX9_nameOf_63 : decode cX9_nameOf 63 = .ok (.iload_n 1, 1) := by decide +kernel
theorem dX9_nameOf_64 : decode cX9_nameOf 64 = .ok (.bipush 119, 2) := by decide +kernel
theorem dX9_nameOf_66 : decode cX9_nameOf 66 = .ok (.if_icmp .ne 7, 3) := by decide +kernel
theorem dX9_nameOf_69 : decode cX9_nameOf 69 = .ok (.iconst 0, 1) := by decide +kernel
theorem dX9_nameOf_70 : decode cX9_nameOf 70 = .ok (.goto 4, 3) := by decide +kernel
theorem dX9_nameOf_73 : decode cX9_nameOf 73 = .ok (.iconst 2, 1) := by decide +kernel
theorem dX9_nameOf_74 : decode cX9_nameOf 74 = .ok (.ireturn, 1) := by decide +kernel
theorem dX9_nameOf_75 : decode cX9_nameOf 75 = .ok (.iconst 1, 1) := by decide +kernel
theorem dX9_nameOf_76 : decode cX9_nameOf 76 = .ok (.ireturn, 1) := by decide +kernel
theorem dX9_nameOf_77 : decode cX9_nameOf 77 = .ok (.aload_n 0, 1) := by decide +kernel
theorem dX9_nameOf_78 : decode cX9_nameOf 78 = .ok (.getfield 133, 3) := by decide +kernel
theorem dX9_nameOf_81 : decode cX9_nameOf 81 = .ok (.iconst 1, 1) := by decide +kernel
theorem dX9_nameOf_82 : decode cX9_nameOf 82 = .ok (.if_icmp .eq 7, 3) := by decide +kernel
theorem dX9_nameOf_85 : decode cX9_nameOf 85 = .ok (.iconst (-1), 1) := by decide +kernel
theorem dX9_nameOf_86 : decode cX9_nameOf 86 = .ok (.goto 14, 3) := by decide +kernel
theorem dX9_nameOf_89 : decode cX9_nameOf 89 = .ok (.iload_n 1, 1) := by decide +kernel
theorem dX9_nameOf_90 : decode cX9_nameOf 90 = .ok (.bipush 98, 2) := by decide +kernel
theorem dX9_nameOf_92 : decode cX9_nameOf 92 = .ok (.if_icmp .ne 7, 3) := by decide +kernel
theorem dX9_nameOf_95 : decode cX9_nameOf 95 = .ok (.iconst 0, 1) := by decide +kernel
theorem dX9_nameOf_96 : decode cX9_nameOf 96 = .ok (.goto 4, 3) := by decide +kernel
theorem dX9_nameOf_99 : decode cX9_nameOf 99 = .ok (.iconst 2, 1) := by decide +kernel
theorem dX9_nameOf_100 : decode cX9_nameOf 100 = .ok (.ireturn, 1) := by decide +kernel
theorem dX9_nameOf_101 : decode cX9_nameOf 101 = .ok (.iconst (-1), 1) := by decide +kernel
theorem dX9_nameOf_102 : decode cX9_nameOf 102 = .ok (.ireturn, 1) := by decide +kernel
set_option maxRecDepth 20000 in
theorem ggX9_number_X9_look : GoodIn wsX9_number wsX9_look := goodIn_r _ [7, 1, 8, 19, 20, 21, 22, 23, 24, 25, 26, 27, 28, 29, 30, 31, 32, 33, 34, 35, 36, 37, 38, 39] (by decide +kernel) (by decide +kernel)
set_option maxRecDepth 20000 in
theorem gX9_number_X9_look : GoodIn wsX9_number (wsV RX9 136 RX9 yX9_look wsX9_look) := goodIn_app (goodIn_of _ (by decide +kernel)) ggX9_number_X9_look
set_option maxRecDepth 20000 in
theorem ggX9_number_X9_in : GoodIn wsX9_number wsX9_in := goodIn_r _ [11] (by decide +kernel) (by decide +kernel)
set_option maxRecDepth 20000 in
theorem gX9_number_X9_in : GoodIn wsX9_number (va_wsS RX9 54 yX9_in wsX9_in) := goodIn_app (goodIn_of _ (by decide +kernel)) ggX9_number_X9_in
set_option maxRecDepth 20000 in
theorem ggX9_number_X9_lays : GoodIn wsX9_number wsX9_lays := goodIn_r _ [15, 16, 17, 18, 19, 20, 21, 22, 23, 24, 25, 26, 27, 28, 29, 30, 31, 32, 33, 34, 35, 36, 37, 38, 39] (by decide +kernel) (by decide +kernel)
set_option maxRecDepth 20000 in
theorem gX9_number_X9_lays : GoodIn wsX9_number (wsV RX9 144 RX9 yX9_lays wsX9_lays) := goodIn_app (goodIn_of _ (by decide +kernel)) ggX9_number_X9_lays
theorem dX9_number_0 : decode cX9_number 0 = .ok (.iconst 0, 1) := by decide +kernel
theorem dX9_number_1 : decode cX9_number 1 = .ok (.istore_n 1, 1) := by decide +kernel
theorem dX9_number_2 : decode cX9_number 2 = .ok (.iconst 0, 1) := by decide +kernel
theorem dX9_number_3 : decode cX9_number 3 = .ok (.istore_n 2, 1) := by decide +kernel
theorem dX9_number_4 : decode cX9_number 4 = .ok (.iload_n 2, 1) := by decide +kernel
theorem dX9_number_5 : decode cX9_number 5 = .ok (.iconst 4, 1) := by decide +kernel
theorem dX9_number_6 : decode cX9_number 6 = .ok (.if_icmp .ge 46, 3) := by decide +kernel
theorem dX9_number_9 : decode cX9_number 9 = .ok (.aload_n 0, 1) := by decide +kernel
theorem dX9_number_10 : decode cX9_number 10 = .ok (.invokevirtual 136, 3) := by decide +kernel
theorem dX9_number_13 : decode cX9_number 13 = .ok (.bipush 48, 2) := by decide +kernel
theorem dX9_number_15 : decode cX9_number 15 = .ok (.bipush 57, 2) := by decide +kernel
theorem dX9_number_17 : decode cX9_number 17 = .ok (.invokestatic 54, 3) := by decide +kernel
theorem dX9_number_20 : decode cX9_number 20 = .ok (.ifCond .eq 32, 3) := by decide +kernel
theorem dX9_number_23 : decode cX9_number 23 = .ok (.bipush 10, 2) := by decide +kernel
theorem dX9_number_25 : decode cX9_number 25 = .ok (.iload_n 1, 1) := by decide +kernel
theorem dX9_number_26 : decode cX9_number 26 = .ok (.imul, 1) := by decide +kernel
theorem dX9_number_27 : decode cX9_number 27 = .ok (.aload_n 0, 1) := by decide +kernel
theorem dX9_number_28 : decode cX9_number 28 = .ok (.invokevirtual 136, 3) := by decide +kernel
theorem dX9_number_31 : decode cX9_number 31 = .ok (.iadd, 1) := by decide +kernel
theorem dX9_number_32 : decode cX9_number 32 = .ok (.bipush 48, 2) := by decide +kernel
theorem dX9_number_34 : decode cX9_number 34 = .ok (.isub, 1) := by decide +kernel
theorem dX9_number_35 : decode cX9_number 35 = .ok (.istore_n 1, 1) := by decide +kernel
theorem dX9_number_36 : decode cX9_number 36 = .ok (.aload_n 0, 1) := by decide +kernel
theorem dX9_number_37 : decode cX9_number 37 = .ok (.dup, 1) := by decide +kernel
theorem dX9_number_38 : decode cX9_number 38 = .ok (.getfield 126, 3) := by decide +kernel
theorem dX9_number_41 : decode cX9_number 41 = .ok (.iconst 1, 1) := by decide +kernel
theorem dX9_number_42 : decode cX9_number 42 = .ok (.iadd, 1) := by decide +kernel
theorem dX9_number_43 : decode cX9_number 43 = .ok (.putfield 126, 3) := by decide +kernel
theorem dX9_number_46 : decode cX9_number 46 = .ok (.iinc 2 1, 3) := by decide +kernel
theorem dX9_number_49 : decode cX9_number 49 = .ok (.goto (-45), 3) := by decide +kernel
theorem dX9_number_52 : decode cX9_number 52 = .ok (.aload_n 0, 1) := by decide +kernel
theorem dX9_number_53 : decode cX9_number 53 = .ok (.iload_n 2, 1) := by decide +kernel
theorem dX9_number_54 : decode cX9_number 54 = .ok (.ifCond .ne 7, 3) := by decide +kernel
theorem dX9_number_57 : decode cX9_number 57 = .ok (.iconst 1, 1) := by decide +kernel
theorem dX9_number_58 : decode cX9_number 58 = .ok (.goto 4, 3) := by decide +kernel
theorem dX9_number_61 : decode cX9_number 61 = .ok (.iconst 0, 1) := by decide +kernel
theorem dX9_number_62 : decode cX9_number 62 = .ok (.putfield 140, 3) := by decide +kernel
theorem dX9_number_65 : decode cX9_number 65 = .ok (.aload_n 0, 1) := by decide +kernel
theorem dX9_number_66 : decode cX9_number 66 = .ok (.iconst 1, 1) := by decide +kernel
theorem dX9_number_67 : decode cX9_number 67 = .ok (.iload_n 1, 1) := by decide +kernel
theorem dX9_number_68 : decode cX9_number 68 = .ok (.invokevirtual 144, 3) := by decide +kernel
theorem dX9_number_71 : decode cX9_number 71 = .ok (.return_, 1) := by decide +kernel
set_option maxRecDepth 20000 in
theorem ggX9_opens_X9_one : GoodIn wsX9_opens wsX9_one := goodIn_r _ [35, 3, 18, 19, 20, 7, 21, 22, 36, 37, 38, 39, 40, 8, 9, 10, 11, 12, 13, 14, 41, 42, 43, 44, 45, 46, 47, 2, 48, 49, 50, 23, 24, 25, 26, 27, 28, 29, 30, 31, 32, 33, 34, 0, 1, 4, 5, 6, 15, 16, 17, 51, 52, 53, 54, 55, 56, 57, 58, 59, 60, 61, 62, 63, 64, 65, 66, 67, 68, 69, 70, 71, 72, 73, 74, 75, 76] (by decide +kernel) (by decide +kernel)
set_option maxRecDepth 20000 in
theorem gX9_opens_X9_one : GoodIn wsX9_opens (wsV RX9 151 RX9 yX9_one wsX9_one) := goodIn_app (goodIn_of _ (by decide +kernel)) ggX9_opens_X9_one
set_option maxRecDepth 20000 in
theorem ggX9_opens_X9_lays : GoodIn wsX9_opens wsX9_lays := goodIn_r _ [11, 12, 13, 14, 56, 57, 58, 59, 60, 61, 62, 63, 64, 65, 66, 67, 68, 69, 70, 71, 72, 73, 74, 75, 76] (by decide +kernel) (by decide +kernel)
set_option maxRecDepth 20000 in
theorem gX9_opens_X9_lays : GoodIn wsX9_opens (wsV RX9 144 RX9 yX9_lays wsX9_lays) := goodIn_app (goodIn_of _ (by decide +kernel)) ggX9_opens_X9_lays
set_option maxRecDepth 20000 in
theorem ggX9_opens_X9_any : GoodIn wsX9_opens wsX9_any := goodIn_r _ [27, 2, 3, 28, 29, 30, 7, 18, 19, 20, 21, 22, 8, 9, 10, 11, 12, 13, 14, 23, 24, 25, 26, 31, 32, 33, 34, 35, 36, 37, 38, 39, 40, 41, 42, 43, 44, 45, 46, 47, 48, 49, 50, 0, 1, 4, 5, 6, 15, 16, 17, 51, 52, 53, 54, 55, 56, 57, 58, 59, 60, 61, 62, 63, 64, 65, 66, 67, 68, 69, 70, 71, 72, 73, 74, 75, 76] (by decide +kernel) (by decide +kernel)
set_option maxRecDepth 20000 in
theorem gX9_opens_X9_any : GoodIn wsX9_opens (wsV RX9 154 RX9 yX9_any wsX9_any) := goodIn_app (goodIn_of _ (by decide +kernel)) ggX9_opens_X9_any
set_option maxRecDepth 20000 in
theorem ggX9_opens_X9_look : GoodIn wsX9_opens wsX9_look := goodIn_r _ [21, 3, 22, 56, 57, 58, 59, 60, 61, 62, 63, 64, 65, 66, 67, 68, 69, 70, 71, 72, 73, 74, 75, 76] (by decide +kernel) (by decide +kernel)
set_option maxRecDepth 20000 in
theorem gX9_opens_X9_look : GoodIn wsX9_opens (wsV RX9 136 RX9 yX9_look wsX9_look) := goodIn_app (goodIn_of _ (by decide +kernel)) ggX9_opens_X9_look
theorem dX9_opens_0 : decode cX9_opens 0 = .ok (.aload_n 0, 1) := by decide +kernel
theorem dX9_opens_1 : decode cX9_opens 1 = .ok (.getfield 148, 3) := by decide +kernel
theorem dX9_opens_4 : decode cX9_opens 4 = .ok (.iconst 5, 1) := by decide +kernel
theorem dX9_opens_5 : decode cX9_opens 5 = .ok (.if_icmp .ne 9, 3) := by decide +kernel
theorem dX9_opens_8 : decode cX9_opens 8 = .ok (.aload_n 0, 1) := by decide +kernel
theorem dX9_opens_9 : decode cX9_opens 9 = .ok (.iconst 1, 1) := by decide +kernel
theorem dX9_opens_10 : decode cX9_opens 10 = .ok (.putfield 140, 3) := by decide +kernel
theorem dX9_opens_13 : decode cX9_opens 13 = .ok (.return_, 1) := by decide +kernel
theorem dX9_opens_14 : decode cX9_opens 14 = .ok (.aload_n 0, 1) := by decide +kernel
theorem dX9_opens_15 : decode cX9_opens 15 = .ok (.dup, 1) := by decide +kernel
theorem dX9_opens_16 : decode cX9_opens 16 = .ok (.getfield 148, 3) := by decide +kernel
theorem dX9_opens_19 : decode cX9_opens 19 = .ok (.iconst 1, 1) := by decide +kernel
theorem dX9_opens_20 : decode cX9_opens 20 = .ok (.iadd, 1) := by decide +kernel
theorem dX9_opens_21 : decode cX9_opens 21 = .ok (.putfield 148, 3) := by decide +kernel
theorem dX9_opens_24 : decode cX9_opens 24 = .ok (.aload_n 0, 1) := by decide +kernel
theorem dX9_opens_25 : decode cX9_opens 25 = .ok (.dup, 1) := by decide +kernel
theorem dX9_opens_26 : decode cX9_opens 26 = .ok (.getfield 126, 3) := by decide +kernel
theorem dX9_opens_29 : decode cX9_opens 29 = .ok (.iconst 1, 1) := by decide +kernel
theorem dX9_opens_30 : decode cX9_opens 30 = .ok (.iadd, 1) := by decide +kernel
theorem dX9_opens_31 : decode cX9_opens 31 = .ok (.putfield 126, 3) := by decide +kernel
theorem dX9_opens_34 : decode cX9_opens 34 = .ok (.iload_n 1, 1) := by decide +kernel
theorem dX9_opens_35 : decode cX9_opens 35 = .ok (.bipush 33, 2) := by decide +kernel
theorem dX9_opens_37 : decode cX9_opens 37 = .ok (.if_icmp .ne 16, 3) := by decide +kernel
theorem dX9_opens_40 : decode cX9_opens 40 = .ok (.aload_n 0, 1) := by decide +kernel
theorem dX9_opens_41 : decode cX9_opens 41 = .ok (.invokevirtual 151, 3) := by decide +kernel
theorem dX9_opens_44 : decode cX9_opens 44 = .ok (.aload_n 0, 1) := by decide +kernel
theorem dX9_opens_45 : decode cX9_opens 45 = .ok (.iconst 3, 1) := by decide +kernel
theorem dX9_opens_46 : decode cX9_opens 46 = .ok (.iconst 0, 1) := by decide +kernel
theorem dX9_opens_47 : decode cX9_opens 47 = .ok (.invokevirtual 144, 3) := by decide +kernel
theorem dX9_opens_50 : decode cX9_opens 50 = .ok (.goto 53, 3) := by decide +kernel
theorem dX9_opens_53 : decode cX9_opens 53 = .ok (.aload_n 0, 1) := by decide +kernel
theorem dX9_opens_54 : decode cX9_opens 54 = .ok (.invokevirtual 154, 3) := by decide +kernel
theorem dX9_opens_57 : decode cX9_opens 57 = .ok (.aload_n 0, 1) := by decide +kernel
theorem dX9_opens_58 : decode cX9_opens 58 = .ok (.aload_n 0, 1) := by decide +kernel
theorem dX9_opens_59 : decode cX9_opens 59 = .ok (.getfield 140, 3) := by decide +kernel
theorem dX9_opens_62 : decode cX9_opens 62 = .ok (.ifCond .ne 12, 3) := by decide +kernel
theorem dX9_opens_65 : decode cX9_opens 65 = .ok (.aload_n 0, 1) := by decide +kernel
theorem dX9_opens_66 : decode cX9_opens 66 = .ok (.invokevirtual 136, 3) := by decide +kernel
theorem dX9_opens_69 : decode cX9_opens 69 = .ok (.bipush 41, 2) := by decide +kernel
theorem dX9_opens_71 : decode cX9_opens 71 = .ok (.if_icmp .eq 7, 3) := by decide +kernel
theorem dX9_opens_74 : decode cX9_opens 74 = .ok (.iconst 1, 1) := by decide +kernel
theorem dX9_opens_75 : decode cX9_opens 75 = .ok (.goto 4, 3) := by decide +kernel
theorem dX9_opens_78 : decode cX9_opens 78 = .ok (.iconst 0, 1) := by decide +kernel
theorem dX9_opens_79 : decode cX9_opens 79 = .ok (.putfield 140, 3) := by decide +kernel
theorem dX9_opens_82 : decode cX9_opens 82 = .ok (.aload_n 0, 1) := by decide +kernel
theorem dX9_opens_83 : decode cX9_opens 83 = .ok (.dup, 1) := by decide +kernel
theorem dX9_opens_84 : decode cX9_opens 84 = .ok (.getfield 126, 3) := by decide +kernel
theorem dX9_opens_87 : decode cX9_opens 87 = .ok (.aload_n 0, 1) := by decide +kernel
theorem dX9_opens_88 : decode cX9_opens 88 = .ok (.getfield 140, 3) := by decide +kernel
theorem dX9_opens_91 : decode cX9_opens 91 = .ok (.ifCond .eq 7, 3) := by decide +kernel
theorem dX9_opens_94 : decode cX9_opens 94 = .ok (.iconst 0, 1) := by decide +kernel
theorem dX9_opens_95 : decode cX9_opens 95 = .ok (.goto 4, 3) := by decide +kernel
theorem dX9_opens_98 : decode cX9_opens 98 = .ok (.iconst 1, 1) := by decide +kernel
theorem dX9_opens_99 : decode cX9_opens 99 = .ok (.iadd, 1) := by decide +kernel
theorem dX9_opens_100 : decode cX9_opens 100 = .ok (.putfield 126, 3) := by decide +kernel
theorem dX9_opens_103 : decode cX9_opens 103 = .ok (.aload_n 0, 1) := by decide +kernel
theorem dX9_opens_104 : decode cX9_opens 104 = .ok (.dup, 1) := by decide +kernel
theorem dX9_opens_105 : decode cX9_opens 105 = .ok (.getfield 148, 3) := by decide +kernel
theorem dX9_opens_108 : decode cX9_opens 108 = .ok (.iconst 1, 1) := by decide +kernel
theorem dX9_opens_109 : decode cX9_opens 109 = .ok (.isub, 1) := by decide +kernel
theorem dX9_opens_110 : decode cX9_opens 110 = .ok (.putfield 148, 3) := by decide +kernel
theorem dX9_opens_113 : decode cX9_opens 113 = .ok (.return_, 1) := by decide +kernel
set_option maxRecDepth 20000 in
theorem ggX9_one_X9_look : GoodIn wsX9_one wsX9_look := goodIn_r _ [6, 1, 7, 56, 57, 58, 59, 60, 61, 62, 63, 64, 65, 66, 67, 68, 69, 70, 71, 72, 73, 74, 75, 76] (by decide +kernel) (by decide +kernel)
set_option maxRecDepth 20000 in
theorem gX9_one_X9_look : GoodIn wsX9_one (wsV RX9 136 RX9 yX9_look wsX9_look) := goodIn_app (goodIn_of _ (by decide +kernel)) ggX9_one_X9_look
set_option maxRecDepth 20000 in
theorem ggX9_one_X9_nameOf : GoodIn wsX9_one wsX9_nameOf := goodIn_r _ [11, 12, 56, 57, 58, 59, 60, 61, 62, 63, 64, 65, 66, 67, 68, 69, 70, 71, 72, 73, 74, 75, 76] (by decide +kernel) (by decide +kernel)
set_option maxRecDepth 20000 in
theorem gX9_one_X9_nameOf : GoodIn wsX9_one (wsV RX9 157 RX9 yX9_nameOf wsX9_nameOf) := goodIn_app (goodIn_of _ (by decide +kernel)) ggX9_one_X9_nameOf
set_option maxRecDepth 20000 in
theorem ggX9_one_X9_lays : GoodIn wsX9_one wsX9_lays := goodIn_r _ [16, 17, 18, 19, 56, 57, 58, 59, 60, 61, 62, 63, 64, 65, 66, 67, 68, 69, 70, 71, 72, 73, 74, 75, 76] (by decide +kernel) (by decide +kernel)
set_option maxRecDepth 20000 in
theorem gX9_one_X9_lays : GoodIn wsX9_one (wsV RX9 144 RX9 yX9_lays wsX9_lays) := goodIn_app (goodIn_of _ (by decide +kernel)) ggX9_one_X9_lays
set_option maxRecDepth 20000 in
theorem ggX9_one_X9_opens : GoodIn wsX9_one wsX9_opens := goodIn_r _ [43, 44, 27, 1, 45, 46, 47, 5, 13, 14, 15, 16, 17, 18, 19, 48, 49, 50, 2, 3, 4, 6, 7, 31, 32, 33, 34, 35, 36, 37, 38, 39, 40, 41, 42, 0, 8, 9, 10, 11, 12, 20, 21, 22, 23, 24, 25, 26, 28, 29, 30, 51, 52, 53, 54, 55, 56, 57, 58, 59, 60, 61, 62, 63, 64, 65, 66, 67, 68, 69, 70, 71, 72, 73, 74, 75, 76] (by decide +kernel) (by decide +kernel)
set_option maxRecDepth 20000 in
theorem gX9_one_X9_opens : GoodIn wsX9_one (wsV RX9 160 RX9 yX9_opens wsX9_opens) := goodIn_app (goodIn_of _ (by decide +kernel)) ggX9_one_X9_opens
set_option maxRecDepth 20000 in
theorem ggX9_one_X9_number : GoodIn wsX9_one wsX9_number := goodIn_r _ [26, 1, 27, 2, 3, 4, 5, 6, 7, 28, 29, 30, 13, 14, 15, 16, 17, 18, 19, 56, 57, 58, 59, 60, 61, 62, 63, 64, 65, 66, 67, 68, 69, 70, 71, 72, 73, 74, 75, 76] (by decide +kernel) (by decide +kernel)
set_option maxRecDepth 20000 in
theorem gX9_one_X9_number : GoodIn wsX9_one (wsV RX9 164 RX9 yX9_number wsX9_number) := goodIn_app (goodIn_of _ (by decide +kernel)) ggX9_one_X9_number
theorem dX9_one_0 : decode cX9_one 0 = .ok (.aload_n 0, 1) := by decide +kernel
theorem dX9_one_1 : decode cX9_one 1 = .ok (.invokevirtual 136, 3) := by decide +kernel
theorem dX9_one_4 : decode cX9_one 4 = .ok (.istore_n 1, 1) := by decide +kernel
theorem dX9_one_5 : decode cX9_one 5 = .ok (.aload_n 0, 1) := by decide +kernel
theorem dX9_one_6 : decode cX9_one 6 = .ok (.iload_n 1, 1) := by decide +kernel
theorem dX9_one_7 : decode cX9_one 7 = .ok (.invokevirtual 157, 3) := by decide +kernel
theorem dX9_one_10 : decode cX9_one 10 = .ok (.istore_n 2, 1) := by decide +kernel
theorem dX9_one_11 : decode cX9_one 11 = .ok (.iload_n 2, 1) := by decide +kernel
theorem dX9_one_12 : decode cX9_one 12 = .ok (.ifCond .lt 22, 3) := by decide +kernel
theorem dX9_one_15 : decode cX9_one 15 = .ok (.aload_n 0, 1) := by decide +kernel
theorem dX9_one_16 : decode cX9_one 16 = .ok (.dup, 1) := by decide +kernel
theorem dX9_one_17 : decode cX9_one 17 = .ok (.getfield 126, 3) := by decide +kernel
theorem dX9_one_20 : decode cX9_one 20 = .ok (.iconst 1, 1) := by decide +kernel
theorem dX9_one_21 : decode cX9_one 21 = .ok (.iadd, 1) := by decide +kernel
theorem dX9_one_22 : decode cX9_one 22 = .ok (.putfield 126, 3) := by decide +kernel
theorem dX9_one_25 : decode cX9_one 25 = .ok (.aload_n 0, 1) := by decide +kernel
theorem dX9_one_26 : decode cX9_one 26 = .ok (.iconst 2, 1) := by decide +kernel
theorem dX9_one_27 : decode cX9_one 27 = .ok (.iload_n 2, 1) := by decide +kernel
theorem dX9_one_28 : decode cX9_one 28 = .ok (.invokevirtual 144, 3) := by decide +kernel
theorem dX9_one_31 : decode cX9_one 31 = .ok (.goto 27, 3) := by decide +kernel
theorem dX9_one_34 : decode cX9_one 34 = .ok (.iload_n 1, 1) := by decide +kernel
theorem dX9_one_35 : decode cX9_one 35 = .ok (.bipush 33, 2) := by decide +kernel
theorem dX9_one_37 : decode cX9_one 37 = .ok (.if_icmp .eq 9, 3) := by decide +kernel
theorem dX9_one_40 : decode cX9_one 40 = .ok (.iload_n 1, 1) := by decide +kernel
theorem dX9_one_41 : decode cX9_one 41 = .ok (.bipush 40, 2) := by decide +kernel
theorem dX9_one_43 : decode cX9_one 43 = .ok (.if_icmp .ne 11, 3) := by decide +kernel
theorem dX9_one_46 : decode cX9_one 46 = .ok (.aload_n 0, 1) := by decide +kernel
theorem dX9_one_47 : decode cX9_one 47 = .ok (.iload_n 1, 1) := by decide +kernel
theorem dX9_one_48 : decode cX9_one 48 = .ok (.invokevirtual 160, 3) := by decide +kernel
theorem dX9_one_51 : decode cX9_one 51 = .ok (.goto 7, 3) := by decide +kernel
theorem dX9_one_54 : decode cX9_one 54 = .ok (.aload_n 0, 1) := by decide +kernel
theorem dX9_one_55 : decode cX9_one 55 = .ok (.invokevirtual 164, 3) := by decide +kernel
theorem dX9_one_58 : decode cX9_one 58 = .ok (.return_, 1) := by decide +kernel
set_option maxRecDepth 20000 in
theorem ggX9_times_X9_one : GoodIn wsX9_times wsX9_one := goodIn_r _ [31, 2, 7, 8, 9, 6, 10, 11, 32, 33, 34, 35, 36, 12, 13, 14, 15, 16, 17, 18, 37, 38, 39, 40, 41, 42, 43, 1, 44, 45, 46, 19, 20, 21, 22, 23, 24, 25, 26, 27, 28, 29, 30, 47, 48, 3, 4, 5, 49, 50, 51, 52, 53, 54, 55, 0, 56, 57, 58, 59, 60, 61, 62, 63, 64, 65, 66, 67, 68, 69, 70, 71, 72, 73, 74, 75, 76] (by decide +kernel) (by decide +kernel)
set_option maxRecDepth 20000 in
theorem gX9_times_X9_one : GoodIn wsX9_times (wsV RX9 151 RX9 yX9_one wsX9_one) := goodIn_app (goodIn_of _ (by decide +kernel)) ggX9_times_X9_one
set_option maxRecDepth 20000 in
theorem ggX9_times_X9_look : GoodIn wsX9_times wsX9_look := goodIn_r _ [10, 2, 11, 56, 57, 58, 59, 60, 61, 62, 63, 64, 65, 66, 67, 68, 69, 70, 71, 72, 73, 74, 75, 76] (by decide +kernel) (by decide +kernel)
set_option maxRecDepth 20000 in
theorem gX9_times_X9_look : GoodIn wsX9_times (wsV RX9 136 RX9 yX9_look wsX9_look) := goodIn_app (goodIn_of _ (by decide +kernel)) ggX9_times_X9_look
set_option maxRecDepth 20000 in
theorem ggX9_times_X9_lays : GoodIn wsX9_times wsX9_lays := goodIn_r _ [15, 16, 17, 18, 56, 57, 58, 59, 60, 61, 62, 63, 64, 65, 66, 67, 68, 69, 70, 71, 72, 73, 74, 75, 76] (by decide +kernel) (by decide +kernel)
set_option maxRecDepth 20000 in
theorem gX9_times_X9_lays : GoodIn wsX9_times (wsV RX9 144 RX9 yX9_lays wsX9_lays) := goodIn_app (goodIn_of _ (by decide +kernel)) ggX9_times_X9_lays
theorem dX9_times_0 : decode cX9_times 0 = .ok (.aload_n 0, 1) := by decide +kernel
theorem dX9_times_1 : decode cX9_times 1 = .ok (.invokevirtual 151, 3) := by decide +kernel
theorem dX9_times_4 : decode cX9_times 4 = .ok (.aload_n 0, 1) := by decide +kernel
theorem dX9_times_5 : decode cX9_times 5 = .ok (.getfield 140, 3) := by decide +kernel
theorem dX9_times_8 : decode cX9_times 8 = .ok (.ifCond .ne 58, 3) := by decide +kernel
theorem dX9_times_11 : decode cX9_times 11 = .ok (.aload_n 0, 1) := by decide +kernel
theorem dX9_times_12 : decode cX9_times 12 = .ok (.invokevirtual 136, 3) := by decide +kernel
theorem dX9_times_15 : decode cX9_times 15 = .ok (.bipush 42, 2) := by decide +kernel
theorem dX9_times_17 : decode cX9_times 17 = .ok (.if_icmp .eq 21, 3) := by decide +kernel
theorem dX9_times_20 : decode cX9_times 20 = .ok (.aload_n 0, 1) := by decide +kernel
theorem dX9_times_21 : decode cX9_times 21 = .ok (.invokevirtual 136, 3) := by decide +kernel
theorem dX9_times_24 : decode cX9_times 24 = .ok (.bipush 47, 2) := by decide +kernel
theorem dX9_times_26 : decode cX9_times 26 = .ok (.if_icmp .eq 12, 3) := by decide +kernel
theorem dX9_times_29 : decode cX9_times 29 = .ok (.aload_n 0, 1) := by decide +kernel
theorem dX9_times_30 : decode cX9_times 30 = .ok (.invokevirtual 136, 3) := by decide +kernel
theorem dX9_times_33 : decode cX9_times 33 = .ok (.bipush 37, 2) := by decide +kernel
theorem dX9_times_35 : decode cX9_times 35 = .ok (.if_icmp .ne 31, 3) := by decide +kernel
theorem dX9_times_38 : decode cX9_times 38 = .ok (.aload_n 0, 1) := by decide +kernel
theorem dX9_times_39 : decode cX9_times 39 = .ok (.invokevirtual 136, 3) := by decide +kernel
theorem dX9_times_42 : decode cX9_times 42 = .ok (.istore_n 1, 1) := by decide +kernel
theorem dX9_times_43 : decode cX9_times 43 = .ok (.aload_n 0, 1) := by decide +kernel
theorem dX9_times_44 : decode cX9_times 44 = .ok (.dup, 1) := by decide +kernel
theorem dX9_times_45 : decode cX9_times 45 = .ok (.getfield 126, 3) := by decide +kernel
theorem dX9_times_48 : decode cX9_times 48 = .ok (.iconst 1, 1) := by decide +kernel
theorem dX9_times_49 : decode cX9_times 49 = .ok (.iadd, 1) := by decide +kernel
theorem dX9_times_50 : decode cX9_times 50 = .ok (.putfield 126, 3) := by decide +kernel
theorem dX9_times_53 : decode cX9_times 53 = .ok (.aload_n 0, 1) := by decide +kernel
theorem dX9_times_54 : decode cX9_times 54 = .ok (.invokevirtual 151, 3) := by decide +kernel
theorem dX9_times_57 : decode cX9_times 57 = .ok (.aload_n 0, 1) := by decide +kernel
theorem dX9_times_58 : decode cX9_times 58 = .ok (.iload_n 1, 1) := by decide +kernel
theorem dX9_times_59 : decode cX9_times 59 = .ok (.iconst 0, 1) := by decide +kernel
theorem dX9_times_60 : decode cX9_times 60 = .ok (.invokevirtual 144, 3) := by decide +kernel
theorem dX9_times_63 : decode cX9_times 63 = .ok (.goto (-59), 3) := by decide +kernel
theorem dX9_times_66 : decode cX9_times 66 = .ok (.return_, 1) := by decide +kernel
set_option maxRecDepth 20000 in
theorem ggX9_sum_X9_times : GoodIn wsX9_sum wsX9_times := goodIn_r _ [55, 1, 2, 49, 50, 51, 6, 7, 8, 9, 10, 11, 12, 13, 14, 15, 16, 17, 18, 19, 20, 21, 22, 23, 24, 25, 26, 27, 28, 29, 30, 31, 32, 33, 34, 35, 36, 37, 38, 39, 40, 41, 42, 43, 44, 45, 46, 47, 48, 52, 53, 54, 0, 3, 4, 5, 56, 57, 58, 59, 60, 61, 62, 63, 64, 65, 66, 67, 68, 69, 70, 71, 72, 73, 74, 75, 76] (by decide +kernel) (by decide +kernel)
set_option maxRecDepth 20000 in
theorem gX9_sum_X9_times : GoodIn wsX9_sum (wsV RX9 167 RX9 yX9_times wsX9_times) := goodIn_app (goodIn_of _ (by decide +kernel)) ggX9_sum_X9_times
set_option maxRecDepth 20000 in
theorem ggX9_sum_X9_look : GoodIn wsX9_sum wsX9_look := goodIn_r _ [10, 2, 11, 56, 57, 58, 59, 60, 61, 62, 63, 64, 65, 66, 67, 68, 69, 70, 71, 72, 73, 74, 75, 76] (by decide +kernel) (by decide +kernel)
set_option maxRecDepth 20000 in
theorem gX9_sum_X9_look : GoodIn wsX9_sum (wsV RX9 136 RX9 yX9_look wsX9_look) := goodIn_app (goodIn_of _ (by decide +kernel)) ggX9_sum_X9_look
set_option maxRecDepth 20000 in
theorem ggX9_sum_X9_lays : GoodIn wsX9_sum wsX9_lays := goodIn_r _ [15, 16, 17, 18, 56, 57, 58, 59, 60, 61, 62, 63, 64, 65, 66, 67, 68, 69, 70, 71, 72, 73, 74, 75, 76] (by decide +kernel) (by decide +kernel)
set_option maxRecDepth 20000 in
theorem gX9_sum_X9_lays : GoodIn wsX9_sum (wsV RX9 144 RX9 yX9_lays wsX9_lays) := goodIn_app (goodIn_of _ (by decide +kernel)) ggX9_sum_X9_lays
theorem dX9_sum_0 : decode cX9_sum 0 = .ok (.aload_n 0, 1) := by decide +kernel
theorem dX9_sum_1 : decode cX9_sum 1 = .ok (.invokevirtual 167, 3) := by decide +kernel
theorem dX9_sum_4 : decode cX9_sum 4 = .ok (.aload_n 0, 1) := by decide +kernel
theorem dX9_sum_5 : decode cX9_sum 5 = .ok (.getfield 140, 3) := by decide +kernel
theorem dX9_sum_8 : decode cX9_sum 8 = .ok (.ifCond .ne 49, 3) := by decide +kernel
theorem dX9_sum_11 : decode cX9_sum 11 = .ok (.aload_n 0, 1) := by decide +kernel
theorem dX9_sum_12 : decode cX9_sum 12 = .ok (.invokevirtual 136, 3) := by decide +kernel
theorem dX9_sum_15 : decode cX9_sum 15 = .ok (.bipush 43, 2) := by decide +kernel
theorem dX9_sum_17 : decode cX9_sum 17 = .ok (.if_icmp .eq 12, 3) := by decide +kernel
theorem dX9_sum_20 : decode cX9_sum 20 = .ok (.aload_n 0, 1) := by decide +kernel
theorem dX9_sum_21 : decode cX9_sum 21 = .ok (.invokevirtual 136, 3) := by decide +kernel
theorem dX9_sum_24 : decode cX9_sum 24 = .ok (.bipush 45, 2) := by decide +kernel
theorem dX9_sum_26 : decode cX9_sum 26 = .ok (.if_icmp .ne 31, 3) := by decide +kernel
theorem dX9_sum_29 : decode cX9_sum 29 = .ok (.aload_n 0, 1) := by decide +kernel
theorem dX9_sum_30 : decode cX9_sum 30 = .ok (.invokevirtual 136, 3) := by decide +kernel
theorem dX9_sum_33 : decode cX9_sum 33 = .ok (.istore_n 1, 1) := by decide +kernel
theorem dX9_sum_34 : decode cX9_sum 34 = .ok (.aload_n 0, 1) := by decide +kernel
theorem dX9_sum_35 : decode cX9_sum 35 = .ok (.dup, 1) := by decide +kernel
theorem dX9_sum_36 : decode cX9_sum 36 = .ok (.getfield 126, 3) := by decide +kernel
theorem dX9_sum_39 : decode cX9_sum 39 = .ok (.iconst 1, 1) := by decide +kernel
theorem dX9_sum_40 : decode cX9_sum 40 = .ok (.iadd, 1) := by decide +kernel
theorem dX9_sum_41 : decode cX9_sum 41 = .ok (.putfield 126, 3) := by decide +kernel
theorem dX9_sum_44 : decode cX9_sum 44 = .ok (.aload_n 0, 1) := by decide +kernel
theorem dX9_sum_45 : decode cX9_sum 45 = .ok (.invokevirtual 167, 3) := by decide +kernel
theorem dX9_sum_48 : decode cX9_sum 48 = .ok (.aload_n 0, 1) := by decide +kernel
theorem dX9_sum_49 : decode cX9_sum 49 = .ok (.iload_n 1, 1) := by decide +kernel
theorem dX9_sum_50 : decode cX9_sum 50 = .ok (.iconst 0, 1) := by decide +kernel
theorem dX9_sum_51 : decode cX9_sum 51 = .ok (.invokevirtual 144, 3) := by decide +kernel
theorem dX9_sum_54 : decode cX9_sum 54 = .ok (.goto (-50), 3) := by decide +kernel
theorem dX9_sum_57 : decode cX9_sum 57 = .ok (.return_, 1) := by decide +kernel
set_option maxRecDepth 20000 in
theorem ggX9_compares_X9_sum : GoodIn wsX9_compares wsX9_sum := goodIn_r _ [51, 1, 2, 52, 53, 54, 6, 7, 8, 9, 10, 11, 12, 13, 14, 15, 16, 17, 18, 19, 20, 21, 22, 23, 24, 25, 26, 0, 3, 4, 5, 27, 28, 29, 30, 31, 32, 33, 34, 35, 36, 37, 38, 39, 40, 41, 42, 43, 44, 45, 46, 47, 48, 49, 50, 55, 56, 57, 58, 59, 60, 61, 62, 63, 64, 65, 66, 67, 68, 69, 70, 71, 72, 73, 74, 75, 76] (by decide +kernel) (by decide +kernel)
set_option maxRecDepth 20000 in
theorem gX9_compares_X9_sum : GoodIn wsX9_compares (wsV RX9 170 RX9 yX9_sum wsX9_sum) := goodIn_app (goodIn_of _ (by decide +kernel)) ggX9_compares_X9_sum
set_option maxRecDepth 20000 in
theorem ggX9_compares_X9_look : GoodIn wsX9_compares wsX9_look := goodIn_r _ [10, 2, 11, 56, 57, 58, 59, 60, 61, 62, 63, 64, 65, 66, 67, 68, 69, 70, 71, 72, 73, 74, 75, 76] (by decide +kernel) (by decide +kernel)
set_option maxRecDepth 20000 in
theorem gX9_compares_X9_look : GoodIn wsX9_compares (wsV RX9 136 RX9 yX9_look wsX9_look) := goodIn_app (goodIn_of _ (by decide +kernel)) ggX9_compares_X9_look
set_option maxRecDepth 20000 in
theorem ggX9_compares_X9_lays : GoodIn wsX9_compares wsX9_lays := goodIn_r _ [15, 16, 17, 18, 56, 57, 58, 59, 60, 61, 62, 63, 64, 65, 66, 67, 68, 69, 70, 71, 72, 73, 74, 75, 76] (by decide +kernel) (by decide +kernel)
set_option maxRecDepth 20000 in
theorem gX9_compares_X9_lays : GoodIn wsX9_compares (wsV RX9 144 RX9 yX9_lays wsX9_lays) := goodIn_app (goodIn_of _ (by decide +kernel)) ggX9_compares_X9_lays
theorem dX9_compares_0 : decode cX9_compares 0 = .ok (.aload_n 0, 1) := by decide +kernel
theorem dX9_compares_1 : decode cX9_compares 1 = .ok (.invokevirtual 170, 3) := by decide +kernel
theorem dX9_compares_4 : decode cX9_compares 4 = .ok (.aload_n 0, 1) := by decide +kernel
theorem dX9_compares_5 : decode cX9_compares 5 = .ok (.invokevirtual 136, 3) := by decide +kernel
theorem dX9_compares_8 : decode cX9_compares 8 = .ok (.istore_n 1, 1) := by decide +kernel
theorem dX9_compares_9 : decode cX9_compares 9 = .ok (.aload_n 0, 1) := by decide +kernel
theorem dX9_compares_10 : decode cX9_compares 10 = .ok (.getfield 140, 3) := by decide +kernel
theorem dX9_compares_13 : decode cX9_compares 13 = .ok (.ifCond .ne 41, 3) := by decide +kernel
theorem dX9_compares_16 : decode cX9_compares 16 = .ok (.iload_n 1, 1) := by decide +kernel
theorem dX9_compares_17 : decode cX9_compares 17 = .ok (.bipush 60, 2) := by decide +kernel
theorem dX9_compares_19 : decode cX9_compares 19 = .ok (.if_icmp .eq 15, 3) := by decide +kernel
theorem dX9_compares_22 : decode cX9_compares 22 = .ok (.iload_n 1, 1) := by decide +kernel
theorem dX9_compares_23 : decode cX9_compares 23 = .ok (.bipush 61, 2) := by decide +kernel
theorem dX9_compares_25 : decode cX9_compares 25 = .ok (.if_icmp .eq 9, 3) := by decide +kernel
theorem dX9_compares_28 : decode cX9_compares 28 = .ok (.iload_n 1, 1) := by decide +kernel
theorem dX9_compares_29 : decode cX9_compares 29 = .ok (.bipush 62, 2) := by decide +kernel
theorem dX9_compares_31 : decode cX9_compares 31 = .ok (.if_icmp .ne 23, 3) := by decide +kernel
theorem dX9_compares_34 : decode cX9_compares 34 = .ok (.aload_n 0, 1) := by decide +kernel
theorem dX9_compares_35 : decode cX9_compares 35 = .ok (.dup, 1) := by decide +kernel
theorem dX9_compares_36 : decode cX9_compares 36 = .ok (.getfield 126, 3) := by decide +kernel
theorem dX9_compares_39 : decode cX9_compares 39 = .ok (.iconst 1, 1) := by decide +kernel
theorem dX9_compares_40 : decode cX9_compares 40 = .ok (.iadd, 1) := by decide +kernel
theorem dX9_compares_41 : decode cX9_compares 41 = .ok (.putfield 126, 3) := by decide +kernel
theorem dX9_compares_44 : decode cX9_compares 44 = .ok (.aload_n 0, 1) := by decide +kernel
theorem dX9_compares_45 : decode cX9_compares 45 = .ok (.invokevirtual 170, 3) := by decide +kernel
theorem dX9_compares_48 : decode cX9_compares 48 = .ok (.aload_n 0, 1) := by decide +kernel
theorem dX9_compares_49 : decode cX9_compares 49 = .ok (.iload_n 1, 1) := by decide +kernel

theorem dX9_compares_50 : decode cX9_compares 50 = .ok (.iconst 0, 1) := by decide +kernel
theorem dX9_compares_51 : decode cX9_compares 51 = .ok (.invokevirtual 144, 3) := by decide +kernel
theorem dX9_compares_54 : decode cX9_compares 54 = .ok (.return_, 1) := by decide +kernel
set_option maxRecDepth 20000 in
theorem ggX9_all_X9_compares : GoodIn wsX9_all wsX9_compares := goodIn_r _ [23, 1, 2, 24, 25, 26, 6, 7, 8, 9, 10, 11, 12, 13, 14, 15, 16, 17, 18, 0, 3, 4, 5, 19, 20, 21, 22, 27, 28, 29, 30, 31, 32, 33, 34, 35, 36, 37, 38, 39, 40, 41, 42, 43, 44, 45, 46, 47, 48, 49, 50, 51, 52, 53, 54, 55, 56, 57, 58, 59, 60, 61, 62, 63, 64, 65, 66, 67, 68, 69, 70, 71, 72, 73, 74, 75, 76] (by decide +kernel) (by decide +kernel)
set_option maxRecDepth 20000 in
theorem gX9_all_X9_compares : GoodIn wsX9_all (wsV RX9 173 RX9 yX9_compares wsX9_compares) := goodIn_app (goodIn_of _ (by decide +kernel)) ggX9_all_X9_compares
set_option maxRecDepth 20000 in
theorem ggX9_all_X9_look : GoodIn wsX9_all wsX9_look := goodIn_r _ [10, 2, 11, 56, 57, 58, 59, 60, 61, 62, 63, 64, 65, 66, 67, 68, 69, 70, 71, 72, 73, 74, 75, 76] (by decide +kernel) (by decide +kernel)
set_option maxRecDepth 20000 in
theorem gX9_all_X9_look : GoodIn wsX9_all (wsV RX9 136 RX9 yX9_look wsX9_look) := goodIn_app (goodIn_of _ (by decide +kernel)) ggX9_all_X9_look
set_option maxRecDepth 20000 in
theorem ggX9_all_X9_lays : GoodIn wsX9_all wsX9_lays := goodIn_r _ [15, 16, 17, 18, 56, 57, 58, 59, 60, 61, 62, 63, 64, 65, 66, 67, 68, 69, 70, 71, 72, 73, 74, 75, 76] (by decide +kernel) (by decide +kernel)
set_option maxRecDepth 20000 in
theorem gX9_all_X9_lays : GoodIn wsX9_all (wsV RX9 144 RX9 yX9_lays wsX9_lays) := goodIn_app (goodIn_of _ (by decide +kernel)) ggX9_all_X9_lays
theorem dX9_all_0 : decode cX9_all 0 = .ok (.aload_n 0, 1) := by decide +kernel
theorem dX9_all_1 : decode cX9_all 1 = .ok (.invokevirtual 173, 3) := by decide +kernel
theorem dX9_all_4 : decode cX9_all 4 = .ok (.aload_n 0, 1) := by decide +kernel
theorem dX9_all_5 : decode cX9_all 5 = .ok (.getfield 140, 3) := by decide +kernel
theorem dX9_all_8 : decode cX9_all 8 = .ok (.ifCond .ne 36, 3) := by decide +kernel
theorem dX9_all_11 : decode cX9_all 11 = .ok (.aload_n 0, 1) := by decide +kernel
theorem dX9_all_12 : decode cX9_all 12 = .ok (.invokevirtual 136, 3) := by decide +kernel
theorem dX9_all_15 : decode cX9_all 15 = .ok (.bipush 38, 2) := by decide +kernel
theorem dX9_all_17 : decode cX9_all 17 = .ok (.if_icmp .ne 27, 3) := by decide +kernel
theorem dX9_all_20 : decode cX9_all 20 = .ok (.aload_n 0, 1) := by decide +kernel
theorem dX9_all_21 : decode cX9_all 21 = .ok (.dup, 1) := by decide +kernel
theorem dX9_all_22 : decode cX9_all 22 = .ok (.getfield 126, 3) := by decide +kernel
theorem dX9_all_25 : decode cX9_all 25 = .ok (.iconst 1, 1) := by decide +kernel
theorem dX9_all_26 : decode cX9_all 26 = .ok (.iadd, 1) := by decide +kernel
theorem dX9_all_27 : decode cX9_all 27 = .ok (.putfield 126, 3) := by decide +kernel
theorem dX9_all_30 : decode cX9_all 30 = .ok (.aload_n 0, 1) := by decide +kernel
theorem dX9_all_31 : decode cX9_all 31 = .ok (.invokevirtual 173, 3) := by decide +kernel
theorem dX9_all_34 : decode cX9_all 34 = .ok (.aload_n 0, 1) := by decide +kernel
theorem dX9_all_35 : decode cX9_all 35 = .ok (.bipush 38, 2) := by decide +kernel
theorem dX9_all_37 : decode cX9_all 37 = .ok (.iconst 0, 1) := by decide +kernel
theorem dX9_all_38 : decode cX9_all 38 = .ok (.invokevirtual 144, 3) := by decide +kernel
theorem dX9_all_41 : decode cX9_all 41 = .ok (.goto (-37), 3) := by decide +kernel
theorem dX9_all_44 : decode cX9_all 44 = .ok (.return_, 1) := by decide +kernel
set_option maxRecDepth 20000 in
theorem ggX9_any_X9_all : GoodIn wsX9_any wsX9_all := goodIn_r _ [19, 1, 2, 20, 21, 22, 6, 7, 8, 9, 10, 11, 12, 13, 14, 15, 16, 17, 18, 0, 3, 4, 5, 23, 24, 25, 26, 27, 28, 29, 30, 31, 32, 33, 34, 35, 36, 37, 38, 39, 40, 41, 42, 43, 44, 45, 46, 47, 48, 49, 50, 51, 52, 53, 54, 55, 56, 57, 58, 59, 60, 61, 62, 63, 64, 65, 66, 67, 68, 69, 70, 71, 72, 73, 74, 75, 76] (by decide +kernel) (by decide +kernel)
set_option maxRecDepth 20000 in
theorem gX9_any_X9_all : GoodIn wsX9_any (wsV RX9 176 RX9 yX9_all wsX9_all) := goodIn_app (goodIn_of _ (by decide +kernel)) ggX9_any_X9_all
set_option maxRecDepth 20000 in
theorem ggX9_any_X9_look : GoodIn wsX9_any wsX9_look := goodIn_r _ [10, 2, 11, 56, 57, 58, 59, 60, 61, 62, 63, 64, 65, 66, 67, 68, 69, 70, 71, 72, 73, 74, 75, 76] (by decide +kernel) (by decide +kernel)
set_option maxRecDepth 20000 in
theorem gX9_any_X9_look : GoodIn wsX9_any (wsV RX9 136 RX9 yX9_look wsX9_look) := goodIn_app (goodIn_of _ (by decide +kernel)) ggX9_any_X9_look
set_option maxRecDepth 20000 in
theorem ggX9_any_X9_lays : GoodIn wsX9_any wsX9_lays := goodIn_r _ [15, 16, 17, 18, 56, 57, 58, 59, 60, 61, 62, 63, 64, 65, 66, 67, 68, 69, 70, 71, 72, 73, 74, 75, 76] (by decide +kernel) (by decide +kernel)
set_option maxRecDepth 20000 in
theorem gX9_any_X9_lays : GoodIn wsX9_any (wsV RX9 144 RX9 yX9_lays wsX9_lays) := goodIn_app (goodIn_of _ (by decide +kernel)) ggX9_any_X9_lays
theorem dX9_any_0 : decode cX9_any 0 = .ok (.aload_n 0, 1) := by decide +kernel
theorem dX9_any_1 : decode cX9_any 1 = .ok (.invokevirtual 176, 3) := by decide +kernel
theorem dX9_any_4 : decode cX9_any 4 = .ok (.aload_n 0, 1) := by decide +kernel
theorem dX9_any_5 : decode cX9_any 5 = .ok (.getfield 140, 3) := by decide +kernel
theorem dX9_any_8 : decode cX9_any 8 = .ok (.ifCond .ne 36, 3) := by decide +kernel
theorem dX9_any_11 : decode cX9_any 11 = .ok (.aload_n 0, 1) := by decide +kernel
theorem dX9_any_12 : decode cX9_any 12 = .ok (.invokevirtual 136, 3) := by decide +kernel
theorem dX9_any_15 : decode cX9_any 15 = .ok (.bipush 124, 2) := by decide +kernel
theorem dX9_any_17 : decode cX9_any 17 = .ok (.if_icmp .ne 27, 3) := by decide +kernel
theorem dX9_any_20 : decode cX9_any 20 = .ok (.aload_n 0, 1) := by decide +kernel
theorem dX9_any_21 : decode cX9_any 21 = .ok (.dup, 1) := by decide +kernel
theorem dX9_any_22 : decode cX9_any 22 = .ok (.getfield 126, 3) := by decide +kernel
theorem dX9_any_25 : decode cX9_any 25 = .ok (.iconst 1, 1) := by decide +kernel
theorem dX9_any_26 : decode cX9_any 26 = .ok (.iadd, 1) := by decide +kernel
theorem dX9_any_27 : decode cX9_any 27 = .ok (.putfield 126, 3) := by decide +kernel
theorem dX9_any_30 : decode cX9_any 30 = .ok (.aload_n 0, 1) := by decide +kernel
theorem dX9_any_31 : decode cX9_any 31 = .ok (.invokevirtual 176, 3) := by decide +kernel
theorem dX9_any_34 : decode cX9_any 34 = .ok (.aload_n 0, 1) := by decide +kernel
theorem dX9_any_35 : decode cX9_any 35 = .ok (.bipush 124, 2) := by decide +kernel
theorem dX9_any_37 : decode cX9_any 37 = .ok (.iconst 0, 1) := by decide +kernel
theorem dX9_any_38 : decode cX9_any 38 = .ok (.invokevirtual 144, 3) := by decide +kernel
theorem dX9_any_41 : decode cX9_any 41 = .ok (.goto (-37), 3) := by decide +kernel
theorem dX9_any_44 : decode cX9_any 44 = .ok (.return_, 1) := by decide +kernel
set_option maxRecDepth 20000 in
theorem ggX9_text_X9_in : GoodIn wsX9_text wsX9_in := goodIn_r _ [13] (by decide +kernel) (by decide +kernel)
set_option maxRecDepth 20000 in
theorem gX9_text_X9_in : GoodIn wsX9_text (va_wsS RX9 54 yX9_in wsX9_in) := goodIn_app (goodIn_of _ (by decide +kernel)) ggX9_text_X9_in
set_option maxRecDepth 20000 in
theorem ggX9_text_X9_error : GoodIn wsX9_text wsX9_error := goodIn_r _ [17, 18, 19, 64, 65, 66, 67, 68, 69, 70, 71, 72, 73, 74, 75, 76, 77, 78, 79, 80, 81, 82, 83, 84] (by decide +kernel) (by decide +kernel)
set_option maxRecDepth 20000 in
theorem gX9_text_X9_error : GoodIn wsX9_text (wsV RX9 79 RX9 yX9_error wsX9_error) := goodIn_app (goodIn_of _ (by decide +kernel)) ggX9_text_X9_error
set_option maxRecDepth 20000 in
theorem ggX9_text_X9_any : GoodIn wsX9_text wsX9_any := goodIn_r _ [23, 6, 4, 24, 25, 26, 12, 27, 28, 29, 30, 7, 31, 32, 33, 34, 3, 8, 9, 35, 36, 37, 38, 39, 40, 41, 42, 43, 44, 45, 46, 47, 2, 48, 49, 50, 51, 52, 53, 54, 10, 11, 13, 55, 5, 56, 57, 58, 20, 21, 22, 59, 60, 61, 62, 63, 64, 65, 66, 67, 68, 69, 70, 71, 72, 73, 74, 75, 76, 77, 78, 79, 80, 81, 82, 83, 84] (by decide +kernel) (by decide +kernel)
set_option maxRecDepth 20000 in
theorem gX9_text_X9_any : GoodIn wsX9_text (wsV RX9 154 RX9 yX9_any wsX9_any) := goodIn_app (goodIn_of _ (by decide +kernel)) ggX9_text_X9_any
theorem dX9_text_0 : decode cX9_text 0 = .ok (.iload_n 1, 1) := by decide +kernel
theorem dX9_text_1 : decode cX9_text 1 = .ok (.iconst 0, 1) := by decide +kernel
theorem dX9_text_2 : decode cX9_text 2 = .ok (.iconst 1, 1) := by decide +kernel
theorem dX9_text_3 : decode cX9_text 3 = .ok (.invokestatic 54, 3) := by decide +kernel
theorem dX9_text_6 : decode cX9_text 6 = .ok (.ifCond .ne 10, 3) := by decide +kernel
theorem dX9_text_9 : decode cX9_text 9 = .ok (.aload_n 0, 1) := by decide +kernel
theorem dX9_text_10 : decode cX9_text 10 = .ok (.ldc 78, 2) := by decide +kernel
theorem dX9_text_12 : decode cX9_text 12 = .ok (.invokevirtual 79, 3) := by decide +kernel
theorem dX9_text_15 : decode cX9_text 15 = .ok (.ireturn, 1) := by decide +kernel
theorem dX9_text_16 : decode cX9_text 16 = .ok (.aload_n 0, 1) := by decide +kernel
theorem dX9_text_17 : decode cX9_text 17 = .ok (.iload_n 1, 1) := by decide +kernel
theorem dX9_text_18 : decode cX9_text 18 = .ok (.putfield 133, 3) := by decide +kernel
theorem dX9_text_21 : decode cX9_text 21 = .ok (.aload_n 0, 1) := by decide +kernel
theorem dX9_text_22 : decode cX9_text 22 = .ok (.iconst 0, 1) := by decide +kernel
theorem dX9_text_23 : decode cX9_text 23 = .ok (.putfield 130, 3) := by decide +kernel
theorem dX9_text_26 : decode cX9_text 26 = .ok (.aload_n 0, 1) := by decide +kernel
theorem dX9_text_27 : decode cX9_text 27 = .ok (.iconst 0, 1) := by decide +kernel
theorem dX9_text_28 : decode cX9_text 28 = .ok (.putfield 126, 3) := by decide +kernel
theorem dX9_text_31 : decode cX9_text 31 = .ok (.aload_n 0, 1) := by decide +kernel
theorem dX9_text_32 : decode cX9_text 32 = .ok (.iconst 0, 1) := by decide +kernel
theorem dX9_text_33 : decode cX9_text 33 = .ok (.putfield 148, 3) := by decide +kernel
theorem dX9_text_36 : decode cX9_text 36 = .ok (.aload_n 0, 1) := by decide +kernel
theorem dX9_text_37 : decode cX9_text 37 = .ok (.iconst 0, 1) := by decide +kernel
theorem dX9_text_38 : decode cX9_text 38 = .ok (.putfield 140, 3) := by decide +kernel
theorem dX9_text_41 : decode cX9_text 41 = .ok (.aload_n 0, 1) := by decide +kernel
theorem dX9_text_42 : decode cX9_text 42 = .ok (.invokevirtual 154, 3) := by decide +kernel
theorem dX9_text_45 : decode cX9_text 45 = .ok (.aload_n 0, 1) := by decide +kernel
theorem dX9_text_46 : decode cX9_text 46 = .ok (.aload_n 0, 1) := by decide +kernel
theorem dX9_text_47 : decode cX9_text 47 = .ok (.getfield 140, 3) := by decide +kernel
theorem dX9_text_50 : decode cX9_text 50 = .ok (.ifCond .ne 16, 3) := by decide +kernel
theorem dX9_text_53 : decode cX9_text 53 = .ok (.aload_n 0, 1) := by decide +kernel
theorem dX9_text_54 : decode cX9_text 54 = .ok (.getfield 126, 3) := by decide +kernel
theorem dX9_text_57 : decode cX9_text 57 = .ok (.aload_n 0, 1) := by decide +kernel
theorem dX9_text_58 : decode cX9_text 58 = .ok (.getfield 9, 3) := by decide +kernel
theorem dX9_text_61 : decode cX9_text 61 = .ok (.iconst 4, 1) := by decide +kernel
theorem dX9_text_62 : decode cX9_text 62 = .ok (.iaload, 1) := by decide +kernel
theorem dX9_text_63 : decode cX9_text 63 = .ok (.if_icmp .ge 7, 3) := by decide +kernel
theorem dX9_text_66 : decode cX9_text 66 = .ok (.iconst 1, 1) := by decide +kernel
theorem dX9_text_67 : decode cX9_text 67 = .ok (.goto 4, 3) := by decide +kernel
theorem dX9_text_70 : decode cX9_text 70 = .ok (.iconst 0, 1) := by decide +kernel
theorem dX9_text_71 : decode cX9_text 71 = .ok (.putfield 140, 3) := by decide +kernel
theorem dX9_text_74 : decode cX9_text 74 = .ok (.aload_n 0, 1) := by decide +kernel
theorem dX9_text_75 : decode cX9_text 75 = .ok (.getfield 9, 3) := by decide +kernel
theorem dX9_text_78 : decode cX9_text 78 = .ok (.iconst 4, 1) := by decide +kernel
theorem dX9_text_79 : decode cX9_text 79 = .ok (.iconst 0, 1) := by decide +kernel
theorem dX9_text_80 : decode cX9_text 80 = .ok (.iastore, 1) := by decide +kernel
theorem dX9_text_81 : decode cX9_text 81 = .ok (.aload_n 0, 1) := by decide +kernel
theorem dX9_text_82 : decode cX9_text 82 = .ok (.getfield 140, 3) := by decide +kernel
theorem dX9_text_85 : decode cX9_text 85 = .ok (.ifCond .eq 11, 3) := by decide +kernel
theorem dX9_text_88 : decode cX9_text 88 = .ok (.bipush (-10), 2) := by decide +kernel
theorem dX9_text_90 : decode cX9_text 90 = .ok (.aload_n 0, 1) := by decide +kernel
theorem dX9_text_91 : decode cX9_text 91 = .ok (.getfield 126, 3) := by decide +kernel
theorem dX9_text_94 : decode cX9_text 94 = .ok (.isub, 1) := by decide +kernel
theorem dX9_text_95 : decode cX9_text 95 = .ok (.ireturn, 1) := by decide +kernel
theorem dX9_text_96 : decode cX9_text 96 = .ok (.sipush 170, 3) := by decide +kernel
theorem dX9_text_99 : decode cX9_text 99 = .ok (.bipush 121, 2) := by decide +kernel
theorem dX9_text_101 : decode cX9_text 101 = .ok (.iload_n 1, 1) := by decide +kernel
theorem dX9_text_102 : decode cX9_text 102 = .ok (.imul, 1) := by decide +kernel
theorem dX9_text_103 : decode cX9_text 103 = .ok (.iadd, 1) := by decide +kernel
theorem dX9_text_104 : decode cX9_text 104 = .ok (.istore_n 2, 1) := by decide +kernel
theorem dX9_text_105 : decode cX9_text 105 = .ok (.aload_n 0, 1) := by decide +kernel
theorem dX9_text_106 : decode cX9_text 106 = .ok (.getfield 9, 3) := by decide +kernel
theorem dX9_text_109 : decode cX9_text 109 = .ok (.iload_n 2, 1) := by decide +kernel
theorem dX9_text_110 : decode cX9_text 110 = .ok (.aload_n 0, 1) := by decide +kernel
theorem dX9_text_111 : decode cX9_text 111 = .ok (.getfield 130, 3) := by decide +kernel
theorem dX9_text_114 : decode cX9_text 114 = .ok (.iastore, 1) := by decide +kernel
theorem dX9_text_115 : decode cX9_text 115 = .ok (.iconst 0, 1) := by decide +kernel
theorem dX9_text_116 : decode cX9_text 116 = .ok (.istore_n 3, 1) := by decide +kernel
theorem dX9_text_117 : decode cX9_text 117 = .ok (.iload_n 3, 1) := by decide +kernel
theorem dX9_text_118 : decode cX9_text 118 = .ok (.aload_n 0, 1) := by decide +kernel
theorem dX9_text_119 : decode cX9_text 119 = .ok (.getfield 130, 3) := by decide +kernel
theorem dX9_text_122 : decode cX9_text 122 = .ok (.if_icmp .ge 42, 3) := by decide +kernel
theorem dX9_text_125 : decode cX9_text 125 = .ok (.aload_n 0, 1) := by decide +kernel
theorem dX9_text_126 : decode cX9_text 126 = .ok (.getfield 9, 3) := by decide +kernel
theorem dX9_text_129 : decode cX9_text 129 = .ok (.iload_n 2, 1) := by decide +kernel
theorem dX9_text_130 : decode cX9_text 130 = .ok (.iconst 1, 1) := by decide +kernel
theorem dX9_text_131 : decode cX9_text 131 = .ok (.iadd, 1) := by decide +kernel
theorem dX9_text_132 : decode cX9_text 132 = .ok (.iload_n 3, 1) := by decide +kernel
theorem dX9_text_133 : decode cX9_text 133 = .ok (.iadd, 1) := by decide +kernel
theorem dX9_text_134 : decode cX9_text 134 = .ok (.aload_n 0, 1) := by decide +kernel
theorem dX9_text_135 : decode cX9_text 135 = .ok (.getfield 31, 3) := by decide +kernel
theorem dX9_text_138 : decode cX9_text 138 = .ok (.iload_n 3, 1) := by decide +kernel
theorem dX9_text_139 : decode cX9_text 139 = .ok (.iaload, 1) := by decide +kernel
theorem dX9_text_140 : decode cX9_text 140 = .ok (.iastore, 1) := by decide +kernel
theorem dX9_text_141 : decode cX9_text 141 = .ok (.aload_n 0, 1) := by decide +kernel
theorem dX9_text_142 : decode cX9_text 142 = .ok (.getfield 9, 3) := by decide +kernel
theorem dX9_text_145 : decode cX9_text 145 = .ok (.iload_n 2, 1) := by decide +kernel
theorem dX9_text_146 : decode cX9_text 146 = .ok (.bipush 61, 2) := by decide +kernel
theorem dX9_text_148 : decode cX9_text 148 = .ok (.iadd, 1) := by decide +kernel
theorem dX9_text_149 : decode cX9_text 149 = .ok (.iload_n 3, 1) := by decide +kernel
theorem dX9_text_150 : decode cX9_text 150 = .ok (.iadd, 1) := by decide +kernel
theorem dX9_text_151 : decode cX9_text 151 = .ok (.aload_n 0, 1) := by decide +kernel
theorem dX9_text_152 : decode cX9_text 152 = .ok (.getfield 34, 3) := by decide +kernel
theorem dX9_text_155 : decode cX9_text 155 = .ok (.iload_n 3, 1) := by decide +kernel
theorem dX9_text_156 : decode cX9_text 156 = .ok (.iaload, 1) := by decide +kernel
theorem dX9_text_157 : decode cX9_text 157 = .ok (.iastore, 1) := by decide +kernel
theorem dX9_text_158 : decode cX9_text 158 = .ok (.iinc 3 1, 3) := by decide +kernel
theorem dX9_text_161 : decode cX9_text 161 = .ok (.goto (-44), 3) := by decide +kernel
theorem dX9_text_164 : decode cX9_text 164 = .ok (.iconst 1, 1) := by decide +kernel
theorem dX9_text_165 : decode cX9_text 165 = .ok (.ireturn, 1) := by decide +kernel
set_option maxRecDepth 20000 in
theorem ggX9_untell_X9_in : GoodIn wsX9_untell wsX9_in := goodIn_r _ [5] (by decide +kernel) (by decide +kernel)
set_option maxRecDepth 20000 in
theorem gX9_untell_X9_in : GoodIn wsX9_untell (va_wsS RX9 54 yX9_in wsX9_in) := goodIn_app (goodIn_of _ (by decide +kernel)) ggX9_untell_X9_in
set_option maxRecDepth 20000 in
theorem ggX9_untell_X9_error : GoodIn wsX9_untell wsX9_error := goodIn_r _ [9, 10, 11, 17, 18, 19, 20, 21, 22, 23, 24, 25, 26, 27, 28, 29, 30, 31, 32, 33, 34, 35, 36, 37] (by decide +kernel) (by decide +kernel)
set_option maxRecDepth 20000 in
theorem gX9_untell_X9_error : GoodIn wsX9_untell (wsV RX9 79 RX9 yX9_error wsX9_error) := goodIn_app (goodIn_of _ (by decide +kernel)) ggX9_untell_X9_error
set_option maxRecDepth 20000 in
theorem ggX9_untell_X9_becomes : GoodIn wsX9_untell wsX9_becomes := goodIn_r _ [15, 16, 17, 18, 19, 20, 21, 22, 23, 24, 25, 26, 27, 28, 29, 30, 31, 32, 33, 34, 35, 36, 37] (by decide +kernel) (by decide +kernel)
set_option maxRecDepth 20000 in
theorem gX9_untell_X9_becomes : GoodIn wsX9_untell (wsV RX9 89 RX9 yX9_becomes wsX9_becomes) := goodIn_app (goodIn_of _ (by decide +kernel)) ggX9_untell_X9_becomes
theorem dX9_untell_0 : decode cX9_untell 0 = .ok (.iload_n 1, 1) := by decide +kernel
theorem dX9_untell_1 : decode cX9_untell 1 = .ok (.iconst 0, 1) := by decide +kernel
theorem dX9_untell_2 : decode cX9_untell 2 = .ok (.iconst 1, 1) := by decide +kernel
theorem dX9_untell_3 : decode cX9_untell 3 = .ok (.invokestatic 54, 3) := by decide +kernel
theorem dX9_untell_6 : decode cX9_untell 6 = .ok (.ifCond .ne 10, 3) := by decide +kernel
theorem dX9_untell_9 : decode cX9_untell 9 = .ok (.aload_n 0, 1) := by decide +kernel
theorem dX9_untell_10 : decode cX9_untell 10 = .ok (.ldc 78, 2) := by decide +kernel
theorem dX9_untell_12 : decode cX9_untell 12 = .ok (.invokevirtual 79, 3) := by decide +kernel
theorem dX9_untell_15 : decode cX9_untell 15 = .ok (.ireturn, 1) := by decide +kernel
theorem dX9_untell_16 : decode cX9_untell 16 = .ok (.aload_n 0, 1) := by decide +kernel
theorem dX9_untell_17 : decode cX9_untell 17 = .ok (.sipush 170, 3) := by decide +kernel
theorem dX9_untell_20 : decode cX9_untell 20 = .ok (.bipush 121, 2) := by decide +kernel
theorem dX9_untell_22 : decode cX9_untell 22 = .ok (.iload_n 1, 1) := by decide +kernel
theorem dX9_untell_23 : decode cX9_untell 23 = .ok (.imul, 1) := by decide +kernel
theorem dX9_untell_24 : decode cX9_untell 24 = .ok (.iadd, 1) := by decide +kernel
theorem dX9_untell_25 : decode cX9_untell 25 = .ok (.iconst 0, 1) := by decide +kernel
theorem dX9_untell_26 : decode cX9_untell 26 = .ok (.invokevirtual 89, 3) := by decide +kernel
theorem dX9_untell_29 : decode cX9_untell 29 = .ok (.ifCond .le 7, 3) := by decide +kernel
theorem dX9_untell_32 : decode cX9_untell 32 = .ok (.iconst 1, 1) := by decide +kernel
theorem dX9_untell_33 : decode cX9_untell 33 = .ok (.goto 4, 3) := by decide +kernel
theorem dX9_untell_36 : decode cX9_untell 36 = .ok (.iconst 0, 1) := by decide +kernel
theorem dX9_untell_37 : decode cX9_untell 37 = .ok (.ireturn, 1) := by decide +kernel
theorem dX9_twoOf_0 : decode cX9_twoOf 0 = .ok (.iload_n 0, 1) := by decide +kernel
theorem dX9_twoOf_1 : decode cX9_twoOf 1 = .ok (.tableswitch 202 37 62 #[143, 188, 202, 202, 202, 127, 119, 202, 123, 202, 131, 202, 202, 202, 202, 202, 202, 202, 202, 202, 202, 202, 202, 155, 166, 177], 119) := by decide +kernel
theorem dX9_twoOf_120 : decode cX9_twoOf 120 = .ok (.iload_n 1, 1) := by decide +kernel
theorem dX9_twoOf_121 : decode cX9_twoOf 121 = .ok (.iload_n 2, 1) := by decide +kernel
theorem dX9_twoOf_122 : decode cX9_twoOf 122 = .ok (.iadd, 1) := by decide +kernel
theorem dX9_twoOf_123 : decode cX9_twoOf 123 = .ok (.ireturn, 1) := by decide +kernel
theorem dX9_twoOf_124 : decode cX9_twoOf 124 = .ok (.iload_n 1, 1) := by decide +kernel
theorem dX9_twoOf_125 : decode cX9_twoOf 125 = .ok (.iload_n 2, 1) := by decide +kernel
theorem dX9_twoOf_126 : decode cX9_twoOf 126 = .ok (.isub, 1) := by decide +kernel
theorem dX9_twoOf_127 : decode cX9_twoOf 127 = .ok (.ireturn, 1) := by decide +kernel
theorem dX9_twoOf_128 : decode cX9_twoOf 128 = .ok (.iload_n 1, 1) := by decide +kernel
theorem dX9_twoOf_129 : decode cX9_twoOf 129 = .ok (.iload_n 2, 1) := by decide +kernel
theorem dX9_twoOf_130 : decode cX9_twoOf 130 = .ok (.imul, 1) := by decide +kernel
theorem dX9_twoOf_131 : decode cX9_twoOf 131 = .ok (.ireturn, 1) := by decide +kernel
theorem dX9_twoOf_132 : decode cX9_twoOf 132 = .ok (.iload_n 2, 1) := by decide +kernel
theorem dX9_twoOf_133 : decode cX9_twoOf 133 = .ok (.ifCond .ne 7, 3) := by decide +kernel
theorem dX9_twoOf_136 : decode cX9_twoOf 136 = .ok (.iconst 0, 1) := by decide +kernel
theorem dX9_twoOf_137 : decode cX9_twoOf 137 = .ok (.goto 6, 3) := by decide +kernel
theorem dX9_twoOf_140 : decode cX9_twoOf 140 = .ok (.iload_n 1, 1) := by decide +kernel
theorem dX9_twoOf_141 : decode cX9_twoOf 141 = .ok (.iload_n 2, 1) := by decide +kernel
theorem dX9_twoOf_142 : decode cX9_twoOf 142 = .ok (.idiv, 1) := by decide +kernel
theorem dX9_twoOf_143 : decode cX9_twoOf 143 = .ok (.ireturn, 1) := by decide +kernel
theorem dX9_twoOf_144 : decode cX9_twoOf 144 = .ok (.iload_n 2, 1) := by decide +kernel
theorem dX9_twoOf_145 : decode cX9_twoOf 145 = .ok (.ifCond .ne 7, 3) := by decide +kernel
theorem dX9_twoOf_148 : decode cX9_twoOf 148 = .ok (.iconst 0, 1) := by decide +kernel
theorem dX9_twoOf_149 : decode cX9_twoOf 149 = .ok (.goto 6, 3) := by decide +kernel
theorem dX9_twoOf_152 : decode cX9_twoOf 152 = .ok (.iload_n 1, 1) := by decide +kernel
theorem dX9_twoOf_153 : decode cX9_twoOf 153 = .ok (.iload_n 2, 1) := by decide +kernel
theorem dX9_twoOf_154 : decode cX9_twoOf 154 = .ok (.irem, 1) := by decide +kernel
theorem dX9_twoOf_155 : decode cX9_twoOf 155 = .ok (.ireturn, 1) := by decide +kernel
theorem dX9_twoOf_156 : decode cX9_twoOf 156 = .ok (.iload_n 1, 1) := by decide +kernel
theorem dX9_twoOf_157 : decode cX9_twoOf 157 = .ok (.iload_n 2, 1) := by decide +kernel
theorem dX9_twoOf_158 : decode cX9_twoOf 158 = .ok (.if_icmp .ge 7, 3) := by decide +kernel
theorem dX9_twoOf_161 : decode cX9_twoOf 161 = .ok (.iconst 1, 1) := by decide +kernel
theorem dX9_twoOf_162 : decode cX9_twoOf 162 = .ok (.goto 4, 3) := by decide +kernel
theorem dX9_twoOf_165 : decode cX9_twoOf 165 = .ok (.iconst 0, 1) := by decide +kernel
theorem dX9_twoOf_166 : decode cX9_twoOf 166 = .ok (.ireturn, 1) := by decide +kernel
theorem dX9_twoOf_167 : decode cX9_twoOf 167 = .ok (.iload_n 1, 1) := by decide +kernel
theorem dX9_twoOf_168 : decode cX9_twoOf 168 = .ok (.iload_n 2, 1) := by decide +kernel
theorem dX9_twoOf_169 : decode cX9_twoOf 169 = .ok (.if_icmp .ne 7, 3) := by decide +kernel
theorem dX9_twoOf_172 : decode cX9_twoOf 172 = .ok (.iconst 1, 1) := by decide +kernel
theorem dX9_twoOf_173 : decode cX9_twoOf 173 = .ok (.goto 4, 3) := by decide +kernel
theorem dX9_twoOf_176 : decode cX9_twoOf 176 = .ok (.iconst 0, 1) := by decide +kernel
theorem dX9_twoOf_177 : decode cX9_twoOf 177 = .ok (.ireturn, 1) := by decide +kernel
theorem dX9_twoOf_178 : decode cX9_twoOf 178 = .ok (.iload_n 1, 1) := by decide +kernel
theorem dX9_twoOf_179 : decode cX9_twoOf 179 = .ok (.iload_n 2, 1) := by decide +kernel
theorem dX9_twoOf_180 : decode cX9_twoOf 180 = .ok (.if_icmp .le 7, 3) := by decide +kernel
theorem dX9_twoOf_183 : decode cX9_twoOf 183 = .ok (.iconst 1, 1) := by decide +kernel
theorem dX9_twoOf_184 : decode cX9_twoOf 184 = .ok (.goto 4, 3) := by decide +kernel
theorem dX9_twoOf_187 : decode cX9_twoOf 187 = .ok (.iconst 0, 1) := by decide +kernel
theorem dX9_twoOf_188 : decode cX9_twoOf 188 = .ok (.ireturn, 1) := by decide +kernel
theorem dX9_twoOf_189 : decode cX9_twoOf 189 = .ok (.iload_n 1, 1) := by decide +kernel
theorem dX9_twoOf_190 : decode cX9_twoOf 190 = .ok (.ifCond .eq 11, 3) := by decide +kernel
theorem dX9_twoOf_193 : decode cX9_twoOf 193 = .ok (.iload_n 2, 1) := by decide +kernel
theorem dX9_twoOf_194 : decode cX9_twoOf 194 = .ok (.ifCond .eq 7, 3) := by decide +kernel
theorem dX9_twoOf_197 : decode cX9_twoOf 197 = .ok (.iconst 1, 1) := by decide +kernel
theorem dX9_twoOf_198 : decode cX9_twoOf 198 = .ok (.goto 4, 3) := by decide +kernel
theorem dX9_twoOf_201 : decode cX9_twoOf 201 = .ok (.iconst 0, 1) := by decide +kernel
theorem dX9_twoOf_202 : decode cX9_twoOf 202 = .ok (.ireturn, 1) := by decide +kernel
theorem dX9_twoOf_203 : decode cX9_twoOf 203 = .ok (.iload_n 1, 1) := by decide +kernel
theorem dX9_twoOf_204 : decode cX9_twoOf 204 = .ok (.ifCond .ne 7, 3) := by decide +kernel
theorem dX9_twoOf_207 : decode cX9_twoOf 207 = .ok (.iload_n 2, 1) := by decide +kernel
theorem dX9_twoOf_208 : decode cX9_twoOf 208 = .ok (.ifCond .eq 7, 3) := by decide +kernel
theorem dX9_twoOf_211 : decode cX9_twoOf 211 = .ok (.iconst 1, 1) := by decide +kernel
theorem dX9_twoOf_212 : decode cX9_twoOf 212 = .ok (.goto 4, 3) := by decide +kernel
theorem dX9_twoOf_215 : decode cX9_twoOf 215 = .ok (.iconst 0, 1) := by decide +kernel
theorem dX9_twoOf_216 : decode cX9_twoOf 216 = .ok (.ireturn, 1) := by decide +kernel
set_option maxRecDepth 20000 in
theorem ggX9_works_X9_twoOf : GoodIn wsX9_works wsX9_twoOf := goodIn_r _ [7] (by decide +kernel) (by decide +kernel)
set_option maxRecDepth 20000 in
theorem gX9_works_X9_twoOf : GoodIn wsX9_works (va_wsS RX9 179 yX9_twoOf wsX9_twoOf) := goodIn_app (goodIn_of _ (by decide +kernel)) ggX9_works_X9_twoOf
theorem dX9_works_0 : decode cX9_works 0 = .ok (.iconst 0, 1) := by decide +kernel
theorem dX9_works_1 : decode cX9_works 1 = .ok (.istore_n 2, 1) := by decide +kernel
theorem dX9_works_2 : decode cX9_works 2 = .ok (.iconst 0, 1) := by decide +kernel
theorem dX9_works_3 : decode cX9_works 3 = .ok (.istore_n 3, 1) := by decide +kernel
theorem dX9_works_4 : decode cX9_works 4 = .ok (.iload_n 3, 1) := by decide +kernel
theorem dX9_works_5 : decode cX9_works 5 = .ok (.aload_n 0, 1) := by decide +kernel
theorem dX9_works_6 : decode cX9_works 6 = .ok (.getfield 9, 3) := by decide +kernel
theorem dX9_works_9 : decode cX9_works 9 = .ok (.iload_n 1, 1) := by decide +kernel
theorem dX9_works_10 : decode cX9_works 10 = .ok (.iaload, 1) := by decide +kernel
theorem dX9_works_11 : decode cX9_works 11 = .ok (.if_icmp .ge 144, 3) := by decide +kernel
theorem dX9_works_14 : decode cX9_works 14 = .ok (.aload_n 0, 1) := by decide +kernel
theorem dX9_works_15 : decode cX9_works 15 = .ok (.getfield 9, 3) := by decide +kernel
theorem dX9_works_18 : decode cX9_works 18 = .ok (.iload_n 1, 1) := by decide +kernel
theorem dX9_works_19 : decode cX9_works 19 = .ok (.iconst 1, 1) := by decide +kernel
theorem dX9_works_20 : decode cX9_works 20 = .ok (.iadd, 1) := by decide +kernel
theorem dX9_works_21 : decode cX9_works 21 = .ok (.iload_n 3, 1) := by decide +kernel
theorem dX9_works_22 : decode cX9_works 22 = .ok (.iadd, 1) := by decide +kernel
theorem dX9_works_23 : decode cX9_works 23 = .ok (.iaload, 1) := by decide +kernel
theorem dX9_works_24 : decode cX9_works 24 = .ok (.istore 4, 2) := by decide +kernel
theorem dX9_works_26 : decode cX9_works 26 = .ok (.iload 4, 2) := by decide +kernel
theorem dX9_works_28 : decode cX9_works 28 = .ok (.iconst 1, 1) := by decide +kernel
theorem dX9_works_29 : decode cX9_works 29 = .ok (.if_icmp .eq 9, 3) := by decide +kernel
theorem dX9_works_32 : decode cX9_works 32 = .ok (.iload 4, 2) := by decide +kernel
theorem dX9_works_34 : decode cX9_works 34 = .ok (.iconst 2, 1) := by decide +kernel
theorem dX9_works_35 : decode cX9_works 35 = .ok (.if_icmp .ne 51, 3) := by decide +kernel
theorem dX9_works_38 : decode cX9_works 38 = .ok (.aload_n 0, 1) := by decide +kernel
theorem dX9_works_39 : decode cX9_works 39 = .ok (.getfield 40, 3) := by decide +kernel
theorem dX9_works_42 : decode cX9_works 42 = .ok (.iload_n 2, 1) := by decide +kernel
theorem dX9_works_43 : decode cX9_works 43 = .ok (.iload 4, 2) := by decide +kernel
theorem dX9_works_45 : decode cX9_works 45 = .ok (.iconst 1, 1) := by decide +kernel
theorem dX9_works_46 : decode cX9_works 46 = .ok (.if_icmp .ne 17, 3) := by decide +kernel
theorem dX9_works_49 : decode cX9_works 49 = .ok (.aload_n 0, 1) := by decide +kernel
theorem dX9_works_50 : decode cX9_works 50 = .ok (.getfield 9, 3) := by decide +kernel
theorem dX9_works_53 : decode cX9_works 53 = .ok (.iload_n 1, 1) := by decide +kernel
theorem dX9_works_54 : decode cX9_works 54 = .ok (.bipush 61, 2) := by decide +kernel
theorem dX9_works_56 : decode cX9_works 56 = .ok (.iadd, 1) := by decide +kernel
theorem dX9_works_57 : decode cX9_works 57 = .ok (.iload_n 3, 1) := by decide +kernel
theorem dX9_works_58 : decode cX9_works 58 = .ok (.iadd, 1) := by decide +kernel
theorem dX9_works_59 : decode cX9_works 59 = .ok (.iaload, 1) := by decide +kernel
theorem dX9_works_60 : decode cX9_works 60 = .ok (.goto 19, 3) := by decide +kernel
theorem dX9_works_63 : decode cX9_works 63 = .ok (.aload_n 0, 1) := by decide +kernel
theorem dX9_works_64 : decode cX9_works 64 = .ok (.getfield 37, 3) := by decide +kernel
theorem dX9_works_67 : decode cX9_works 67 = .ok (.aload_n 0, 1) := by decide +kernel
theorem dX9_works_68 : decode cX9_works 68 = .ok (.getfield 9, 3) := by decide +kernel
theorem dX9_works_71 : decode cX9_works 71 = .ok (.iload_n 1, 1) := by decide +kernel
theorem dX9_works_72 : decode cX9_works 72 = .ok (.bipush 61, 2) := by decide +kernel
theorem dX9_works_74 : decode cX9_works 74 = .ok (.iadd, 1) := by decide +kernel
theorem dX9_works_75 : decode cX9_works 75 = .ok (.iload_n 3, 1) := by decide +kernel
theorem dX9_works_76 : decode cX9_works 76 = .ok (.iadd, 1) := by decide +kernel
theorem dX9_works_77 : decode cX9_works 77 = .ok (.iaload, 1) := by decide +kernel
theorem dX9_works_78 : decode cX9_works 78 = .ok (.iaload, 1) := by decide +kernel
theorem dX9_works_79 : decode cX9_works 79 = .ok (.iastore, 1) := by decide +kernel
theorem dX9_works_80 : decode cX9_works 80 = .ok (.iinc 2 1, 3) := by decide +kernel
theorem dX9_works_83 : decode cX9_works 83 = .ok (.goto 66, 3) := by decide +kernel
theorem dX9_works_86 : decode cX9_works 86 = .ok (.iload 4, 2) := by decide +kernel
theorem dX9_works_88 : decode cX9_works 88 = .ok (.iconst 3, 1) := by decide +kernel
theorem dX9_works_89 : decode cX9_works 89 = .ok (.if_icmp .ne 30, 3) := by decide +kernel
theorem dX9_works_92 : decode cX9_works 92 = .ok (.aload_n 0, 1) := by decide +kernel
theorem dX9_works_93 : decode cX9_works 93 = .ok (.getfield 40, 3) := by decide +kernel
theorem dX9_works_96 : decode cX9_works 96 = .ok (.iload_n 2, 1) := by decide +kernel
theorem dX9_works_97 : decode cX9_works 97 = .ok (.iconst 1, 1) := by decide +kernel
theorem dX9_works_98 : decode cX9_works 98 = .ok (.isub, 1) := by decide +kernel
theorem dX9_works_99 : decode cX9_works 99 = .ok (.aload_n 0, 1) := by decide +kernel
theorem dX9_works_100 : decode cX9_works 100 = .ok (.getfield 40, 3) := by decide +kernel
theorem dX9_works_103 : decode cX9_works 103 = .ok (.iload_n 2, 1) := by decide +kernel
theorem dX9_works_104 : decode cX9_works 104 = .ok (.iconst 1, 1) := by decide +kernel
theorem dX9_works_105 : decode cX9_works 105 = .ok (.isub, 1) := by decide +kernel
theorem dX9_works_106 : decode cX9_works 106 = .ok (.iaload, 1) := by decide +kernel
theorem dX9_works_107 : decode cX9_works 107 = .ok (.ifCond .ne 7, 3) := by decide +kernel
theorem dX9_works_110 : decode cX9_works 110 = .ok (.iconst 1, 1) := by decide +kernel
theorem dX9_works_111 : decode cX9_works 111 = .ok (.goto 4, 3) := by decide +kernel
theorem dX9_works_114 : decode cX9_works 114 = .ok (.iconst 0, 1) := by decide +kernel
theorem dX9_works_115 : decode cX9_works 115 = .ok (.iastore, 1) := by decide +kernel
theorem dX9_works_116 : decode cX9_works 116 = .ok (.goto 33, 3) := by decide +kernel
theorem dX9_works_119 : decode cX9_works 119 = .ok (.iinc 2 (-1), 3) := by decide +kernel
theorem dX9_works_122 : decode cX9_works 122 = .ok (.aload_n 0, 1) := by decide +kernel
theorem dX9_works_123 : decode cX9_works 123 = .ok (.getfield 40, 3) := by decide +kernel
theorem dX9_works_126 : decode cX9_works 126 = .ok (.iload_n 2, 1) := by decide +kernel
theorem dX9_works_127 : decode cX9_works 127 = .ok (.iconst 1, 1) := by decide +kernel
theorem dX9_works_128 : decode cX9_works 128 = .ok (.isub, 1) := by decide +kernel
theorem dX9_works_129 : decode cX9_works 129 = .ok (.iload 4, 2) := by decide +kernel
theorem dX9_works_131 : decode cX9_works 131 = .ok (.aload_n 0, 1) := by decide +kernel
theorem dX9_works_132 : decode cX9_works 132 = .ok (.getfield 40, 3) := by decide +kernel
theorem dX9_works_135 : decode cX9_works 135 = .ok (.iload_n 2, 1) := by decide +kernel
theorem dX9_works_136 : decode cX9_works 136 = .ok (.iconst 1, 1) := by decide +kernel
theorem dX9_works_137 : decode cX9_works 137 = .ok (.isub, 1) := by decide +kernel
theorem dX9_works_138 : decode cX9_works 138 = .ok (.iaload, 1) := by decide +kernel
theorem dX9_works_139 : decode cX9_works 139 = .ok (.aload_n 0, 1) := by decide +kernel
theorem dX9_works_140 : decode cX9_works 140 = .ok (.getfield 40, 3) := by decide +kernel
theorem dX9_works_143 : decode cX9_works 143 = .ok (.iload_n 2, 1) := by decide +kernel
theorem dX9_works_144 : decode cX9_works 144 = .ok (.iaload, 1) := by decide +kernel
theorem dX9_works_145 : decode cX9_works 145 = .ok (.invokestatic 179, 3) := by decide +kernel
theorem dX9_works_148 : decode cX9_works 148 = .ok (.iastore, 1) := by decide +kernel
theorem dX9_works_149 : decode cX9_works 149 = .ok (.iinc 3 1, 3) := by decide +kernel
theorem dX9_works_152 : decode cX9_works 152 = .ok (.goto (-148), 3) := by decide +kernel
theorem dX9_works_155 : decode cX9_works 155 = .ok (.aload_n 0, 1) := by decide +kernel
theorem dX9_works_156 : decode cX9_works 156 = .ok (.getfield 40, 3) := by decide +kernel
theorem dX9_works_159 : decode cX9_works 159 = .ok (.iconst 0, 1) := by decide +kernel
theorem dX9_works_160 : decode cX9_works 160 = .ok (.iaload, 1) := by decide +kernel
theorem dX9_works_161 : decode cX9_works 161 = .ok (.ireturn, 1) := by decide +kernel
set_option maxRecDepth 20000 in
theorem ggX9_gives_X9_works : GoodIn wsX9_gives wsX9_works := goodIn_r _ [7, 2, 8, 1, 9, 10, 6, 11, 15, 16, 17, 18, 19, 20, 21, 22, 23, 24, 25, 26, 27, 28, 29, 30, 31, 32, 33, 34, 35] (by decide +kernel) (by decide +kernel)
set_option maxRecDepth 20000 in
theorem gX9_gives_X9_works : GoodIn wsX9_gives (wsV RX9 182 RX9 yX9_works wsX9_works) := goodIn_app (goodIn_of _ (by decide +kernel)) ggX9_gives_X9_works
set_option maxRecDepth 20000 in
theorem ggX9_gives_X9_held : GoodIn wsX9_gives wsX9_held := goodIn_r _ [14] (by decide +kernel) (by decide +kernel)
set_option maxRecDepth 20000 in
theorem gX9_gives_X9_held : GoodIn wsX9_gives (va_wsS RX9 112 yX9_held wsX9_held) := goodIn_app (goodIn_of _ (by decide +kernel)) ggX9_gives_X9_held
theorem dX9_gives_0 : decode cX9_gives 0 = .ok (.sipush 170, 3) := by decide +kernel
theorem dX9_gives_3 : decode cX9_gives 3 = .ok (.bipush 121, 2) := by decide +kernel
theorem dX9_gives_5 : decode cX9_gives 5 = .ok (.iload_n 1, 1) := by decide +kernel
theorem dX9_gives_6 : decode cX9_gives 6 = .ok (.imul, 1) := by decide +kernel
theorem dX9_gives_7 : decode cX9_gives 7 = .ok (.iadd, 1) := by decide +kernel
theorem dX9_gives_8 : decode cX9_gives 8 = .ok (.istore 5, 2) := by decide +kernel
theorem dX9_gives_10 : decode cX9_gives 10 = .ok (.aload_n 0, 1) := by decide +kernel
theorem dX9_gives_11 : decode cX9_gives 11 = .ok (.getfield 37, 3) := by decide +kernel
theorem dX9_gives_14 : decode cX9_gives 14 = .ok (.iconst 0, 1) := by decide +kernel
theorem dX9_gives_15 : decode cX9_gives 15 = .ok (.iload_n 2, 1) := by decide +kernel
theorem dX9_gives_16 : decode cX9_gives 16 = .ok (.iastore, 1) := by decide +kernel
theorem dX9_gives_17 : decode cX9_gives 17 = .ok (.aload_n 0, 1) := by decide +kernel
theorem dX9_gives_18 : decode cX9_gives 18 = .ok (.getfield 37, 3) := by decide +kernel
theorem dX9_gives_21 : decode cX9_gives 21 = .ok (.iconst 1, 1) := by decide +kernel
theorem dX9_gives_22 : decode cX9_gives 22 = .ok (.iload_n 3, 1) := by decide +kernel
theorem dX9_gives_23 : decode cX9_gives 23 = .ok (.iastore, 1) := by decide +kernel
theorem dX9_gives_24 : decode cX9_gives 24 = .ok (.aload_n 0, 1) := by decide +kernel
theorem dX9_gives_25 : decode cX9_gives 25 = .ok (.getfield 37, 3) := by decide +kernel
theorem dX9_gives_28 : decode cX9_gives 28 = .ok (.iconst 2, 1) := by decide +kernel
theorem dX9_gives_29 : decode cX9_gives 29 = .ok (.iload 4, 2) := by decide +kernel
theorem dX9_gives_31 : decode cX9_gives 31 = .ok (.iastore, 1) := by decide +kernel
theorem dX9_gives_32 : decode cX9_gives 32 = .ok (.aload_n 0, 1) := by decide +kernel
theorem dX9_gives_33 : decode cX9_gives 33 = .ok (.getfield 9, 3) := by decide +kernel
theorem dX9_gives_36 : decode cX9_gives 36 = .ok (.iload 5, 2) := by decide +kernel
theorem dX9_gives_38 : decode cX9_gives 38 = .ok (.iaload, 1) := by decide +kernel
theorem dX9_gives_39 : decode cX9_gives 39 = .ok (.ifCond .le 12, 3) := by decide +kernel
theorem dX9_gives_42 : decode cX9_gives 42 = .ok (.aload_n 0, 1) := by decide +kernel
theorem dX9_gives_43 : decode cX9_gives 43 = .ok (.iload 5, 2) := by decide +kernel
theorem dX9_gives_45 : decode cX9_gives 45 = .ok (.invokevirtual 182, 3) := by decide +kernel
theorem dX9_gives_48 : decode cX9_gives 48 = .ok (.goto 12, 3) := by decide +kernel
theorem dX9_gives_51 : decode cX9_gives 51 = .ok (.iload_n 1, 1) := by decide +kernel
theorem dX9_gives_52 : decode cX9_gives 52 = .ok (.ifCond .ne 7, 3) := by decide +kernel
theorem dX9_gives_55 : decode cX9_gives 55 = .ok (.iconst 1, 1) := by decide +kernel
theorem dX9_gives_56 : decode cX9_gives 56 = .ok (.goto 4, 3) := by decide +kernel
theorem dX9_gives_59 : decode cX9_gives 59 = .ok (.iload_n 2, 1) := by decide +kernel
theorem dX9_gives_60 : decode cX9_gives 60 = .ok (.istore 6, 2) := by decide +kernel
theorem dX9_gives_62 : decode cX9_gives 62 = .ok (.iload_n 1, 1) := by decide +kernel
theorem dX9_gives_63 : decode cX9_gives 63 = .ok (.ifCond .ne 13, 3) := by decide +kernel
theorem dX9_gives_66 : decode cX9_gives 66 = .ok (.iload 6, 2) := by decide +kernel
theorem dX9_gives_68 : decode cX9_gives 68 = .ok (.iconst 0, 1) := by decide +kernel
theorem dX9_gives_69 : decode cX9_gives 69 = .ok (.iconst 1, 1) := by decide +kernel
theorem dX9_gives_70 : decode cX9_gives 70 = .ok (.invokestatic 112, 3) := by decide +kernel
theorem dX9_gives_73 : decode cX9_gives 73 = .ok (.goto 11, 3) := by decide +kernel
theorem dX9_gives_76 : decode cX9_gives 76 = .ok (.iload 6, 2) := by decide +kernel
theorem dX9_gives_78 : decode cX9_gives 78 = .ok (.iconst 0, 1) := by decide +kernel
theorem dX9_gives_79 : decode cX9_gives 79 = .ok (.bipush 99, 2) := by decide +kernel
theorem dX9_gives_81 : decode cX9_gives 81 = .ok (.invokestatic 112, 3) := by decide +kernel
theorem dX9_gives_84 : decode cX9_gives 84 = .ok (.ireturn, 1) := by decide +kernel
set_option maxRecDepth 20000 in
theorem ggX9_law_X9_in : GoodIn wsX9_law wsX9_in := goodIn_r _ [5] (by decide +kernel) (by decide +kernel)
set_option maxRecDepth 20000 in
theorem gX9_law_X9_in : GoodIn wsX9_law (va_wsS RX9 54 yX9_in wsX9_in) := goodIn_app (goodIn_of _ (by decide +kernel)) ggX9_law_X9_in
set_option maxRecDepth 20000 in
theorem ggX9_law_X9_gives : GoodIn wsX9_law wsX9_gives := goodIn_r _ [9, 10, 11, 12, 13, 14, 4, 15, 16, 17, 18, 19, 20, 21, 22, 29, 30, 31, 32, 33, 34, 35, 36, 37, 38, 39, 40, 41, 42, 43, 44, 45, 46, 47, 48, 49] (by decide +kernel) (by decide +kernel)
set_option maxRecDepth 20000 in
theorem gX9_law_X9_gives : GoodIn wsX9_law (wsV RX9 66 RX9 yX9_gives wsX9_gives) := goodIn_app (goodIn_of _ (by decide +kernel)) ggX9_law_X9_gives
set_option maxRecDepth 20000 in
theorem ggX9_law_X9_error : GoodIn wsX9_law wsX9_error := goodIn_r _ [26, 27, 28, 29, 30, 31, 32, 33, 34, 35, 36, 37, 38, 39, 40, 41, 42, 43, 44, 45, 46, 47, 48, 49] (by decide +kernel) (by decide +kernel)
set_option maxRecDepth 20000 in
theorem gX9_law_X9_error : GoodIn wsX9_law (wsV RX9 79 RX9 yX9_error wsX9_error) := goodIn_app (goodIn_of _ (by decide +kernel)) ggX9_law_X9_error
theorem dX9_law_0 : decode cX9_law 0 = .ok (.iload_n 1, 1) := by decide +kernel
theorem dX9_law_1 : decode cX9_law 1 = .ok (.iconst 0, 1) := by decide +kernel
theorem dX9_law_2 : decode cX9_law 2 = .ok (.iconst 1, 1) := by decide +kernel
theorem dX9_law_3 : decode cX9_law 3 = .ok (.invokestatic 54, 3) := by decide +kernel
theorem dX9_law_6 : decode cX9_law 6 = .ok (.ifCond .eq 15, 3) := by decide +kernel
theorem dX9_law_9 : decode cX9_law 9 = .ok (.aload_n 0, 1) := by decide +kernel
theorem dX9_law_10 : decode cX9_law 10 = .ok (.iload_n 1, 1) := by decide +kernel
theorem dX9_law_11 : decode cX9_law 11 = .ok (.iload_n 2, 1) := by decide +kernel
theorem dX9_law_12 : decode cX9_law 12 = .ok (.iload_n 3, 1) := by decide +kernel
theorem dX9_law_13 : decode cX9_law 13 = .ok (.iload 4, 2) := by decide +kernel
theorem dX9_law_15 : decode cX9_law 15 = .ok (.invokevirtual 66, 3) := by decide +kernel
theorem dX9_law_18 : decode cX9_law 18 = .ok (.goto 9, 3) := by decide +kernel
theorem dX9_law_21 : decode cX9_law 21 = .ok (.aload_n 0, 1) := by decide +kernel
theorem dX9_law_22 : decode cX9_law 22 = .ok (.ldc 78, 2) := by decide +kernel
theorem dX9_law_24 : decode cX9_law 24 = .ok (.invokevirtual 79, 3) := by decide +kernel
theorem dX9_law_27 : decode cX9_law 27 = .ok (.ireturn, 1) := by decide +kernel
set_option maxRecDepth 20000 in
theorem ggX9_goes_X9_about : GoodIn wsX9_goes wsX9_about := goodIn_r _ [6, 1, 14, 15, 16, 17, 18, 19, 20, 21, 22, 23, 24, 25, 26, 27, 28, 29, 30, 31, 32, 33, 34] (by decide +kernel) (by decide +kernel)
set_option maxRecDepth 20000 in
theorem gX9_goes_X9_about : GoodIn wsX9_goes (wsV RX9 97 RX9 yX9_about wsX9_about) := goodIn_app (goodIn_of _ (by decide +kernel)) ggX9_goes_X9_about
set_option maxRecDepth 20000 in
theorem ggX9_goes_X9_held : GoodIn wsX9_goes wsX9_held := goodIn_r _ [9] (by decide +kernel) (by decide +kernel)
set_option maxRecDepth 20000 in
theorem gX9_goes_X9_held : GoodIn wsX9_goes (va_wsS RX9 112 yX9_held wsX9_held) := goodIn_app (goodIn_of _ (by decide +kernel)) ggX9_goes_X9_held
set_option maxRecDepth 20000 in
theorem ggX9_goes_X9_lets : GoodIn wsX9_goes wsX9_lets := goodIn_r _ [13, 1, 14, 15, 16, 17, 18, 19, 20, 21, 22, 23, 24, 25, 26, 27, 28, 29, 30, 31, 32, 33, 34] (by decide +kernel) (by decide +kernel)
set_option maxRecDepth 20000 in
theorem gX9_goes_X9_lets : GoodIn wsX9_goes (wsV RX9 93 RX9 yX9_lets wsX9_lets) := goodIn_app (goodIn_of _ (by decide +kernel)) ggX9_goes_X9_lets
theorem dX9_goes_0 : decode cX9_goes 0 = .ok (.iconst 0, 1) := by decide +kernel
theorem dX9_goes_1 : decode cX9_goes 1 = .ok (.istore_n 1, 1) := by decide +kernel
theorem dX9_goes_2 : decode cX9_goes 2 = .ok (.iload_n 1, 1) := by decide +kernel
theorem dX9_goes_3 : decode cX9_goes 3 = .ok (.aload_n 0, 1) := by decide +kernel
theorem dX9_goes_4 : decode cX9_goes 4 = .ok (.getfield 9, 3) := by decide +kernel
theorem dX9_goes_7 : decode cX9_goes 7 = .ok (.iconst 3, 1) := by decide +kernel
theorem dX9_goes_8 : decode cX9_goes 8 = .ok (.iaload, 1) := by decide +kernel
theorem dX9_goes_9 : decode cX9_goes 9 = .ok (.if_icmp .ge 47, 3) := by decide +kernel
theorem dX9_goes_12 : decode cX9_goes 12 = .ok (.aload_n 0, 1) := by decide +kernel
theorem dX9_goes_13 : decode cX9_goes 13 = .ok (.iload_n 1, 1) := by decide +kernel
theorem dX9_goes_14 : decode cX9_goes 14 = .ok (.iconst 0, 1) := by decide +kernel
theorem dX9_goes_15 : decode cX9_goes 15 = .ok (.invokevirtual 97, 3) := by decide +kernel
theorem dX9_goes_18 : decode cX9_goes 18 = .ok (.iconst 5, 1) := by decide +kernel
theorem dX9_goes_19 : decode cX9_goes 19 = .ok (.irem, 1) := by decide +kernel
theorem dX9_goes_20 : decode cX9_goes 20 = .ok (.ifCond .ne 7, 3) := by decide +kernel
theorem dX9_goes_23 : decode cX9_goes 23 = .ok (.iconst 1, 1) := by decide +kernel
theorem dX9_goes_24 : decode cX9_goes 24 = .ok (.goto 4, 3) := by decide +kernel
theorem dX9_goes_27 : decode cX9_goes 27 = .ok (.iconst 0, 1) := by decide +kernel
theorem dX9_goes_28 : decode cX9_goes 28 = .ok (.istore_n 2, 1) := by decide +kernel
theorem dX9_goes_29 : decode cX9_goes 29 = .ok (.aload_n 0, 1) := by decide +kernel
theorem dX9_goes_30 : decode cX9_goes 30 = .ok (.iload_n 1, 1) := by decide +kernel
theorem dX9_goes_31 : decode cX9_goes 31 = .ok (.iconst 1, 1) := by decide +kernel
theorem dX9_goes_32 : decode cX9_goes 32 = .ok (.aload_n 0, 1) := by decide +kernel
theorem dX9_goes_33 : decode cX9_goes 33 = .ok (.iload_n 1, 1) := by decide +kernel
theorem dX9_goes_34 : decode cX9_goes 34 = .ok (.iconst 1, 1) := by decide +kernel
theorem dX9_goes_35 : decode cX9_goes 35 = .ok (.invokevirtual 97, 3) := by decide +kernel
theorem dX9_goes_38 : decode cX9_goes 38 = .ok (.iload_n 2, 1) := by decide +kernel
theorem dX9_goes_39 : decode cX9_goes 39 = .ok (.iadd, 1) := by decide +kernel
theorem dX9_goes_40 : decode cX9_goes 40 = .ok (.iconst 0, 1) := by decide +kernel
theorem dX9_goes_41 : decode cX9_goes 41 = .ok (.sipush 999, 3) := by decide +kernel
theorem dX9_goes_44 : decode cX9_goes 44 = .ok (.invokestatic 112, 3) := by decide +kernel
theorem dX9_goes_47 : decode cX9_goes 47 = .ok (.invokevirtual 93, 3) := by decide +kernel
theorem dX9_goes_50 : decode cX9_goes 50 = .ok (.iinc 1 1, 3) := by decide +kernel
theorem dX9_goes_53 : decode cX9_goes 53 = .ok (.goto (-51), 3) := by decide +kernel
theorem dX9_goes_56 : decode cX9_goes 56 = .ok (.aload_n 0, 1) := by decide +kernel
theorem dX9_goes_57 : decode cX9_goes 57 = .ok (.getfield 9, 3) := by decide +kernel
theorem dX9_goes_60 : decode cX9_goes 60 = .ok (.iconst 0, 1) := by decide +kernel
theorem dX9_goes_61 : decode cX9_goes 61 = .ok (.dup2, 1) := by decide +kernel
theorem dX9_goes_62 : decode cX9_goes 62 = .ok (.iaload, 1) := by decide +kernel
theorem dX9_goes_63 : decode cX9_goes 63 = .ok (.iconst 1, 1) := by decide +kernel
theorem dX9_goes_64 : decode cX9_goes 64 = .ok (.iadd, 1) := by decide +kernel
theorem dX9_goes_65 : decode cX9_goes 65 = .ok (.iastore, 1) := by decide +kernel
theorem dX9_goes_66 : decode cX9_goes 66 = .ok (.return_, 1) := by decide +kernel
set_option maxRecDepth 20000 in
theorem ggX9_hours_X9_in : GoodIn wsX9_hours wsX9_in := goodIn_r _ [7] (by decide +kernel) (by decide +kernel)
set_option maxRecDepth 20000 in
theorem gX9_hours_X9_in : GoodIn wsX9_hours (va_wsS RX9 54 yX9_in wsX9_in) := goodIn_app (goodIn_of _ (by decide +kernel)) ggX9_hours_X9_in
set_option maxRecDepth 20000 in
theorem ggX9_hours_X9_error : GoodIn wsX9_hours wsX9_error := goodIn_r _ [11, 12, 13, 29, 30, 31, 32, 33, 34, 35, 36, 37, 38, 39, 40, 41, 42, 43, 44, 45, 46, 47, 48, 49] (by decide +kernel) (by decide +kernel)
set_option maxRecDepth 20000 in
theorem gX9_hours_X9_error : GoodIn wsX9_hours (wsV RX9 79 RX9 yX9_error wsX9_error) := goodIn_app (goodIn_of _ (by decide +kernel)) ggX9_hours_X9_error
set_option maxRecDepth 20000 in
theorem ggX9_hours_X9_goes : GoodIn wsX9_hours wsX9_goes := goodIn_r _ [17, 2, 18, 19, 20, 6, 21, 22, 23, 24, 25, 26, 27, 28, 29, 30, 31, 32, 33, 34, 35, 36, 37, 38, 39, 40, 41, 42, 43, 44, 45, 46, 47, 48, 49] (by decide +kernel) (by decide +kernel)
set_option maxRecDepth 20000 in
theorem gX9_hours_X9_goes : GoodIn wsX9_hours (wsV RX9 185 RX9 yX9_goes wsX9_goes) := goodIn_app (goodIn_of _ (by decide +kernel)) ggX9_hours_X9_goes
theorem dX9_hours_0 : decode cX9_hours 0 = .ok (.iload_n 1, 1) := by decide +kernel
theorem dX9_hours_1 : decode cX9_hours 1 = .ok (.iconst 1, 1) := by decide +kernel
theorem dX9_hours_2 : decode cX9_hours 2 = .ok (.bipush 48, 2) := by decide +kernel
theorem dX9_hours_4 : decode cX9_hours 4 = .ok (.invokestatic 54, 3) := by decide +kernel
theorem dX9_hours_7 : decode cX9_hours 7 = .ok (.ifCond .ne 10, 3) := by decide +kernel
theorem dX9_hours_10 : decode cX9_hours 10 = .ok (.aload_n 0, 1) := by decide +kernel
theorem dX9_hours_11 : decode cX9_hours 11 = .ok (.ldc 78, 2) := by decide +kernel
theorem dX9_hours_13 : decode cX9_hours 13 = .ok (.invokevirtual 79, 3) := by decide +kernel
theorem dX9_hours_16 : decode cX9_hours 16 = .ok (.ireturn, 1) := by decide +kernel
theorem dX9_hours_17 : decode cX9_hours 17 = .ok (.aload_n 0, 1) := by decide +kernel
theorem dX9_hours_18 : decode cX9_hours 18 = .ok (.getfield 9, 3) := by decide +kernel
theorem dX9_hours_21 : decode cX9_hours 21 = .ok (.iconst 0, 1) := by decide +kernel
theorem dX9_hours_22 : decode cX9_hours 22 = .ok (.iaload, 1) := by decide +kernel
theorem dX9_hours_23 : decode cX9_hours 23 = .ok (.iload_n 1, 1) := by decide +kernel
theorem dX9_hours_24 : decode cX9_hours 24 = .ok (.iadd, 1) := by decide +kernel
theorem dX9_hours_25 : decode cX9_hours 25 = .ok (.sipush 9999, 3) := by decide +kernel
theorem dX9_hours_28 : decode cX9_hours 28 = .ok (.if_icmp .le 10, 3) := by decide +kernel
theorem dX9_hours_31 : decode cX9_hours 31 = .ok (.aload_n 0, 1) := by decide +kernel
theorem dX9_hours_32 : decode cX9_hours 32 = .ok (.ldc 119, 2) := by decide +kernel
theorem dX9_hours_34 : decode cX9_hours 34 = .ok (.invokevirtual 79, 3) := by decide +kernel
theorem dX9_hours_37 : decode cX9_hours 37 = .ok (.ireturn, 1) := by decide +kernel
theorem dX9_hours_38 : decode cX9_hours 38 = .ok (.iconst 0, 1) := by decide +kernel
theorem dX9_hours_39 : decode cX9_hours 39 = .ok (.istore_n 2, 1) := by decide +kernel
theorem dX9_hours_40 : decode cX9_hours 40 = .ok (.iload_n 2, 1) := by decide +kernel
theorem dX9_hours_41 : decode cX9_hours 41 = .ok (.iload_n 1, 1) := by decide +kernel
theorem dX9_hours_42 : decode cX9_hours 42 = .ok (.if_icmp .ge 13, 3) := by decide +kernel
theorem dX9_hours_45 : decode cX9_hours 45 = .ok (.aload_n 0, 1) := by decide +kernel
theorem dX9_hours_46 : decode cX9_hours 46 = .ok (.invokevirtual 185, 3) := by decide +kernel
theorem dX9_hours_49 : decode cX9_hours 49 = .ok (.iinc 2 1, 3) := by decide +kernel
theorem dX9_hours_52 : decode cX9_hours 52 = .ok (.goto (-12), 3) := by decide +kernel
theorem dX9_hours_55 : decode cX9_hours 55 = .ok (.aload_n 0, 1) := by decide +kernel
theorem dX9_hours_56 : decode cX9_hours 56 = .ok (.getfield 9, 3) := by decide +kernel
theorem dX9_hours_59 : decode cX9_hours 59 = .ok (.iconst 0, 1) := by decide +kernel
theorem dX9_hours_60 : decode cX9_hours 60 = .ok (.iaload, 1) := by decide +kernel
theorem dX9_hours_61 : decode cX9_hours 61 = .ok (.ireturn, 1) := by decide +kernel
theorem dX9_draw_0 : decode cX9_draw 0 = .ok (.aload_n 0, 1) := by decide +kernel
theorem dX9_draw_1 : decode cX9_draw 1 = .ok (.getfield 9, 3) := by decide +kernel
theorem dX9_draw_4 : decode cX9_draw 4 = .ok (.iconst 1, 1) := by decide +kernel
theorem dX9_draw_5 : decode cX9_draw 5 = .ok (.aload_n 0, 1) := by decide +kernel
theorem dX9_draw_6 : decode cX9_draw 6 = .ok (.getfield 9, 3) := by decide +kernel
theorem dX9_draw_9 : decode cX9_draw 9 = .ok (.iconst 1, 1) := by decide +kernel
theorem dX9_draw_10 : decode cX9_draw 10 = .ok (.iaload, 1) := by decide +kernel
theorem dX9_draw_11 : decode cX9_draw 11 = .ok (.ldc 188, 2) := by decide +kernel
theorem dX9_draw_13 : decode cX9_draw 13 = .ok (.imul, 1) := by decide +kernel
theorem dX9_draw_14 : decode cX9_draw 14 = .ok (.sipush 12345, 3) := by decide +kernel
theorem dX9_draw_17 : decode cX9_draw 17 = .ok (.iadd, 1) := by decide +kernel
theorem dX9_draw_18 : decode cX9_draw 18 = .ok (.iastore, 1) := by decide +kernel
theorem dX9_draw_19 : decode cX9_draw 19 = .ok (.aload_n 0, 1) := by decide +kernel
theorem dX9_draw_20 : decode cX9_draw 20 = .ok (.getfield 9, 3) := by decide +kernel
theorem dX9_draw_23 : decode cX9_draw 23 = .ok (.iconst 1, 1) := by decide +kernel
theorem dX9_draw_24 : decode cX9_draw 24 = .ok (.iaload, 1) := by decide +kernel
theorem dX9_draw_25 : decode cX9_draw 25 = .ok (.bipush 8, 2) := by decide +kernel
theorem dX9_draw_27 : decode cX9_draw 27 = .ok (.iushr, 1) := by decide +kernel
theorem dX9_draw_28 : decode cX9_draw 28 = .ok (.ireturn, 1) := by decide +kernel
set_option maxRecDepth 20000 in
theorem ggX9_drawn_X9_canGo : GoodIn wsX9_drawn wsX9_canGo := goodIn_r _ [6, 7, 8, 9, 5, 10, 1, 11, 12, 13, 14, 60, 61, 62, 63, 64, 65, 66, 67, 68, 69, 70, 71, 72, 73, 74, 75, 76, 77, 78, 79, 80] (by decide +kernel) (by decide +kernel)
set_option maxRecDepth 20000 in
theorem gX9_drawn_X9_canGo : GoodIn wsX9_drawn (wsV RX9 116 RX9 yX9_canGo wsX9_canGo) := goodIn_app (goodIn_of _ (by decide +kernel)) ggX9_drawn_X9_canGo
set_option maxRecDepth 20000 in
theorem ggX9_drawn_X9_draw : GoodIn wsX9_drawn wsX9_draw := goodIn_r _ [18, 1, 19, 60, 61, 62, 63, 64, 65, 66, 67, 68, 69, 70, 71, 72, 73, 74, 75, 76, 77, 78, 79, 80] (by decide +kernel) (by decide +kernel)
set_option maxRecDepth 20000 in
theorem gX9_drawn_X9_draw : GoodIn wsX9_drawn (wsV RX9 189 RX9 yX9_draw wsX9_draw) := goodIn_app (goodIn_of _ (by decide +kernel)) ggX9_drawn_X9_draw
set_option maxRecDepth 20000 in
theorem ggX9_drawn_X9_says : GoodIn wsX9_drawn wsX9_says := goodIn_r _ [23, 1, 11, 12, 13, 5, 14, 24, 25, 26, 27, 28, 29, 30, 31, 32, 33, 34, 35, 36, 37, 38, 39, 40, 41, 42, 43, 44, 45, 46, 47, 48, 49, 50, 51, 52, 53, 54, 55, 60, 61, 62, 63, 64, 65, 66, 67, 68, 69, 70, 71, 72, 73, 74, 75, 76, 77, 78, 79, 80] (by decide +kernel) (by decide +kernel)
set_option maxRecDepth 20000 in
theorem gX9_drawn_X9_says : GoodIn wsX9_drawn (wsV RX9 120 RX9 yX9_says wsX9_says) := goodIn_app (goodIn_of _ (by decide +kernel)) ggX9_drawn_X9_says
set_option maxRecDepth 20000 in
theorem ggX9_drawn_X9_goes : GoodIn wsX9_drawn wsX9_goes := goodIn_r _ [59, 1, 11, 12, 13, 5, 14, 49, 50, 51, 52, 53, 54, 55, 60, 61, 62, 63, 64, 65, 66, 67, 68, 69, 70, 71, 72, 73, 74, 75, 76, 77, 78, 79, 80] (by decide +kernel) (by decide +kernel)
set_option maxRecDepth 20000 in
theorem gX9_drawn_X9_goes : GoodIn wsX9_drawn (wsV RX9 185 RX9 yX9_goes wsX9_goes) := goodIn_app (goodIn_of _ (by decide +kernel)) ggX9_drawn_X9_goes
theorem dX9_drawn_0 : decode cX9_drawn 0 = .ok (.iconst 0, 1) := by decide +kernel
theorem dX9_drawn_1 : decode cX9_drawn 1 = .ok (.istore_n 1, 1) := by decide +kernel
theorem dX9_drawn_2 : decode cX9_drawn 2 = .ok (.iconst 0, 1) := by decide +kernel
theorem dX9_drawn_3 : decode cX9_drawn 3 = .ok (.istore_n 2, 1) := by decide +kernel
theorem dX9_drawn_4 : decode cX9_drawn 4 = .ok (.iload_n 2, 1) := by decide +kernel
theorem dX9_drawn_5 : decode cX9_drawn 5 = .ok (.aload_n 0, 1) := by decide +kernel
theorem dX9_drawn_6 : decode cX9_drawn 6 = .ok (.getfield 9, 3) := by decide +kernel
theorem dX9_drawn_9 : decode cX9_drawn 9 = .ok (.iconst 3, 1) := by decide +kernel
theorem dX9_drawn_10 : decode cX9_drawn 10 = .ok (.iaload, 1) := by decide +kernel
theorem dX9_drawn_11 : decode cX9_drawn 11 = .ok (.if_icmp .ge 40, 3) := by decide +kernel
theorem dX9_drawn_14 : decode cX9_drawn 14 = .ok (.aload_n 0, 1) := by decide +kernel
theorem dX9_drawn_15 : decode cX9_drawn 15 = .ok (.iload_n 2, 1) := by decide +kernel
theorem dX9_drawn_16 : decode cX9_drawn 16 = .ok (.invokevirtual 116, 3) := by decide +kernel
theorem dX9_drawn_19 : decode cX9_drawn 19 = .ok (.ifCond .eq 26, 3) := by decide +kernel
theorem dX9_drawn_22 : decode cX9_drawn 22 = .ok (.iload_n 1, 1) := by decide +kernel
theorem dX9_drawn_23 : decode cX9_drawn 23 = .ok (.aload_n 0, 1) := by decide +kernel
theorem dX9_drawn_24 : decode cX9_drawn 24 = .ok (.iload_n 2, 1) := by decide +kernel
theorem dX9_drawn_25 : decode cX9_drawn 25 = .ok (.aload_n 0, 1) := by decide +kernel
theorem dX9_drawn_26 : decode cX9_drawn 26 = .ok (.invokevirtual 189, 3) := by decide +kernel
theorem dX9_drawn_29 : decode cX9_drawn 29 = .ok (.bipush 100, 2) := by decide +kernel
theorem dX9_drawn_31 : decode cX9_drawn 31 = .ok (.irem, 1) := by decide +kernel
theorem dX9_drawn_32 : decode cX9_drawn 32 = .ok (.invokevirtual 120, 3) := by decide +kernel
theorem dX9_drawn_35 : decode cX9_drawn 35 = .ok (.ifCond .eq 7, 3) := by decide +kernel
theorem dX9_drawn_38 : decode cX9_drawn 38 = .ok (.iconst 1, 1) := by decide +kernel
theorem dX9_drawn_39 : decode cX9_drawn 39 = .ok (.goto 4, 3) := by decide +kernel
theorem dX9_drawn_42 : decode cX9_drawn 42 = .ok (.iconst 0, 1) := by decide +kernel
theorem dX9_drawn_43 : decode cX9_drawn 43 = .ok (.iadd, 1) := by decide +kernel
theorem dX9_drawn_44 : decode cX9_drawn 44 = .ok (.istore_n 1, 1) := by decide +kernel
theorem dX9_drawn_45 : decode cX9_drawn 45 = .ok (.iinc 2 1, 3) := by decide +kernel
theorem dX9_drawn_48 : decode cX9_drawn 48 = .ok (.goto (-44), 3) := by decide +kernel
theorem dX9_drawn_51 : decode cX9_drawn 51 = .ok (.aload_n 0, 1) := by decide +kernel
theorem dX9_drawn_52 : decode cX9_drawn 52 = .ok (.invokevirtual 185, 3) := by decide +kernel
theorem dX9_drawn_55 : decode cX9_drawn 55 = .ok (.iload_n 1, 1) := by decide +kernel
theorem dX9_drawn_56 : decode cX9_drawn 56 = .ok (.ireturn, 1) := by decide +kernel
set_option maxRecDepth 20000 in
theorem ggX9_loose_X9_in : GoodIn wsX9_loose wsX9_in := goodIn_r _ [7] (by decide +kernel) (by decide +kernel)
set_option maxRecDepth 20000 in
theorem gX9_loose_X9_in : GoodIn wsX9_loose (va_wsS RX9 54 yX9_in wsX9_in) := goodIn_app (goodIn_of _ (by decide +kernel)) ggX9_loose_X9_in
set_option maxRecDepth 20000 in
theorem ggX9_loose_X9_error : GoodIn wsX9_loose wsX9_error := goodIn_r _ [11, 12, 13, 75, 76, 77, 78, 79, 80, 81, 82, 83, 84, 85, 86, 87, 88, 89, 90, 91, 92, 93, 94, 95] (by decide +kernel) (by decide +kernel)
set_option maxRecDepth 20000 in
theorem gX9_loose_X9_error : GoodIn wsX9_loose (wsV RX9 79 RX9 yX9_error wsX9_error) := goodIn_app (goodIn_of _ (by decide +kernel)) ggX9_loose_X9_error
set_option maxRecDepth 20000 in
theorem ggX9_loose_X9_drawn : GoodIn wsX9_loose wsX9_drawn := goodIn_r _ [17, 2, 18, 19, 20, 6, 21, 22, 23, 24, 25, 26, 27, 28, 29, 30, 31, 32, 33, 34, 35, 36, 37, 38, 39, 40, 41, 42, 43, 44, 45, 46, 47, 48, 49, 50, 51, 52, 53, 54, 55, 56, 57, 58, 59, 60, 61, 62, 63, 64, 65, 66, 67, 68, 69, 70, 71, 72, 73, 74, 75, 76, 77, 78, 79, 80, 81, 82, 83, 84, 85, 86, 87, 88, 89, 90, 91, 92, 93, 94, 95] (by decide +kernel) (by decide +kernel)
set_option maxRecDepth 20000 in
theorem gX9_loose_X9_drawn : GoodIn wsX9_loose (wsV RX9 192 RX9 yX9_drawn wsX9_drawn) := goodIn_app (goodIn_of _ (by decide +kernel)) ggX9_loose_X9_drawn
theorem dX9_loose_0 : decode cX9_loose 0 = .ok (.iload_n 1, 1) := by decide +kernel
theorem dX9_loose_1 : decode cX9_loose 1 = .ok (.iconst 1, 1) := by decide +kernel
theorem dX9_loose_2 : decode cX9_loose 2 = .ok (.bipush 30, 2) := by decide +kernel
theorem dX9_loose_4 : decode cX9_loose 4 = .ok (.invokestatic 54, 3) := by decide +kernel
theorem dX9_loose_7 : decode cX9_loose 7 = .ok (.ifCond .ne 10, 3) := by decide +kernel
theorem dX9_loose_10 : decode cX9_loose 10 = .ok (.aload_n 0, 1) := by decide +kernel
theorem dX9_loose_11 : decode cX9_loose 11 = .ok (.ldc 78, 2) := by decide +kernel
theorem dX9_loose_13 : decode cX9_loose 13 = .ok (.invokevirtual 79, 3) := by decide +kernel
theorem dX9_loose_16 : decode cX9_loose 16 = .ok (.ireturn, 1) := by decide +kernel
theorem dX9_loose_17 : decode cX9_loose 17 = .ok (.aload_n 0, 1) := by decide +kernel
theorem dX9_loose_18 : decode cX9_loose 18 = .ok (.getfield 9, 3) := by decide +kernel
theorem dX9_loose_21 : decode cX9_loose 21 = .ok (.iconst 0, 1) := by decide +kernel
theorem dX9_loose_22 : decode cX9_loose 22 = .ok (.iaload, 1) := by decide +kernel
theorem dX9_loose_23 : decode cX9_loose 23 = .ok (.iload_n 1, 1) := by decide +kernel
theorem dX9_loose_24 : decode cX9_loose 24 = .ok (.iadd, 1) := by decide +kernel
theorem dX9_loose_25 : decode cX9_loose 25 = .ok (.sipush 9999, 3) := by decide +kernel
theorem dX9_loose_28 : decode cX9_loose 28 = .ok (.if_icmp .le 10, 3) := by decide +kernel
theorem dX9_loose_31 : decode cX9_loose 31 = .ok (.aload_n 0, 1) := by decide +kernel
theorem dX9_loose_32 : decode cX9_loose 32 = .ok (.ldc 119, 2) := by decide +kernel
theorem dX9_loose_34 : decode cX9_loose 34 = .ok (.invokevirtual 79, 3) := by decide +kernel
theorem dX9_loose_37 : decode cX9_loose 37 = .ok (.ireturn, 1) := by decide +kernel
theorem dX9_loose_38 : decode cX9_loose 38 = .ok (.iconst 0, 1) := by decide +kernel
theorem dX9_loose_39 : decode cX9_loose 39 = .ok (.istore_n 2, 1) := by decide +kernel
theorem dX9_loose_40 : decode cX9_loose 40 = .ok (.iconst 0, 1) := by decide +kernel
theorem dX9_loose_41 : decode cX9_loose 41 = .ok (.istore_n 3, 1) := by decide +kernel
theorem dX9_loose_42 : decode cX9_loose 42 = .ok (.iload_n 3, 1) := by decide +kernel
theorem dX9_loose_43 : decode cX9_loose 43 = .ok (.iload_n 1, 1) := by decide +kernel
theorem dX9_loose_44 : decode cX9_loose 44 = .ok (.if_icmp .ge 16, 3) := by decide +kernel
theorem dX9_loose_47 : decode cX9_loose 47 = .ok (.iload_n 2, 1) := by decide +kernel
theorem dX9_loose_48 : decode cX9_loose 48 = .ok (.aload_n 0, 1) := by decide +kernel
theorem dX9_loose_49 : decode cX9_loose 49 = .ok (.invokevirtual 192, 3) := by decide +kernel
theorem dX9_loose_52 : decode cX9_loose 52 = .ok (.iadd, 1) := by decide +kernel
theorem dX9_loose_53 : decode cX9_loose 53 = .ok (.istore_n 2, 1) := by decide +kernel
theorem dX9_loose_54 : decode cX9_loose 54 = .ok (.iinc 3 1, 3) := by decide +kernel
theorem dX9_loose_57 : decode cX9_loose 57 = .ok (.goto (-15), 3) := by decide +kernel
theorem dX9_loose_60 : decode cX9_loose 60 = .ok (.iload_n 2, 1) := by decide +kernel
theorem dX9_loose_61 : decode cX9_loose 61 = .ok (.ireturn, 1) := by decide +kernel
set_option maxRecDepth 20000 in
theorem ggX9_seed_X9_becomes : GoodIn wsX9_seed wsX9_becomes := goodIn_r _ [5, 6, 7, 8, 9, 10, 11, 12, 13, 14, 15, 16, 17, 18, 19, 20, 21, 22, 23, 24, 25, 26, 27] (by decide +kernel) (by decide +kernel)
set_option maxRecDepth 20000 in
theorem gX9_seed_X9_becomes : GoodIn wsX9_seed (wsV RX9 89 RX9 yX9_becomes wsX9_becomes) := goodIn_app (goodIn_of _ (by decide +kernel)) ggX9_seed_X9_becomes
theorem dX9_seed_0 : decode cX9_seed 0 = .ok (.aload_n 0, 1) := by decide +kernel
theorem dX9_seed_1 : decode cX9_seed 1 = .ok (.iconst 1, 1) := by decide +kernel
theorem dX9_seed_2 : decode cX9_seed 2 = .ok (.iload_n 1, 1) := by decide +kernel
theorem dX9_seed_3 : decode cX9_seed 3 = .ok (.invokevirtual 89, 3) := by decide +kernel
theorem dX9_seed_6 : decode cX9_seed 6 = .ok (.ireturn, 1) := by decide +kernel
set_option maxRecDepth 20000 in
theorem ggX9_wordsOf_X9_isContent : GoodIn wsX9_wordsOf wsX9_isContent := goodIn_r _ [5, 6, 7, 8, 4, 9, 10, 11, 12, 13, 14, 15, 16, 17, 18, 19, 20, 21, 22, 23, 24, 25, 26, 27, 28, 29, 30, 31, 32, 33, 34, 35, 36, 37, 38, 39, 40, 41, 42, 43, 44, 45, 46, 47, 48, 49, 50, 51] (by decide +kernel) (by decide +kernel)
set_option maxRecDepth 20000 in
theorem gX9_wordsOf_X9_isContent : GoodIn wsX9_wordsOf (wsV RX9 109 RX9 yX9_isContent wsX9_isContent) := goodIn_app (goodIn_of _ (by decide +kernel)) ggX9_wordsOf_X9_isContent
theorem dX9_wordsOf_0 : decode cX9_wordsOf 0 = .ok (.iconst 0, 1) := by decide +kernel
theorem dX9_wordsOf_1 : decode cX9_wordsOf 1 = .ok (.istore_n 2, 1) := by decide +kernel
theorem dX9_wordsOf_2 : decode cX9_wordsOf 2 = .ok (.iconst 0, 1) := by decide +kernel
theorem dX9_wordsOf_3 : decode cX9_wordsOf 3 = .ok (.istore_n 3, 1) := by decide +kernel
theorem dX9_wordsOf_4 : decode cX9_wordsOf 4 = .ok (.iload_n 3, 1) := by decide +kernel
theorem dX9_wordsOf_5 : decode cX9_wordsOf 5 = .ok (.bipush 100, 2) := by decide +kernel
theorem dX9_wordsOf_7 : decode cX9_wordsOf 7 = .ok (.if_icmp .ge 26, 3) := by decide +kernel
theorem dX9_wordsOf_10 : decode cX9_wordsOf 10 = .ok (.iload_n 2, 1) := by decide +kernel
theorem dX9_wordsOf_11 : decode cX9_wordsOf 11 = .ok (.aload_n 0, 1) := by decide +kernel
theorem dX9_wordsOf_12 : decode cX9_wordsOf 12 = .ok (.iload_n 1, 1) := by decide +kernel
theorem dX9_wordsOf_13 : decode cX9_wordsOf 13 = .ok (.iload_n 3, 1) := by decide +kernel
theorem dX9_wordsOf_14 : decode cX9_wordsOf 14 = .ok (.invokevirtual 109, 3) := by decide +kernel
theorem dX9_wordsOf_17 : decode cX9_wordsOf 17 = .ok (.ifCond .eq 7, 3) := by decide +kernel
theorem dX9_wordsOf_20 : decode cX9_wordsOf 20 = .ok (.iconst 1, 1) := by decide +kernel
theorem dX9_wordsOf_21 : decode cX9_wordsOf 21 = .ok (.goto 4, 3) := by decide +kernel
theorem dX9_wordsOf_24 : decode cX9_wordsOf 24 = .ok (.iconst 0, 1) := by decide +kernel
theorem dX9_wordsOf_25 : decode cX9_wordsOf 25 = .ok (.iadd, 1) := by decide +kernel
theorem dX9_wordsOf_26 : decode cX9_wordsOf 26 = .ok (.istore_n 2, 1) := by decide +kernel
theorem dX9_wordsOf_27 : decode cX9_wordsOf 27 = .ok (.iinc 3 1, 3) := by decide +kernel
theorem dX9_wordsOf_30 : decode cX9_wordsOf 30 = .ok (.goto (-26), 3) := by decide +kernel
theorem dX9_wordsOf_33 : decode cX9_wordsOf 33 = .ok (.iload_n 2, 1) := by decide +kernel
theorem dX9_wordsOf_34 : decode cX9_wordsOf 34 = .ok (.ireturn, 1) := by decide +kernel
set_option maxRecDepth 20000 in
theorem ggX9_words_X9_isStep : GoodIn wsX9_words wsX9_isStep := goodIn_r _ [7, 8, 9, 10, 6, 11, 50, 51, 52, 53, 54, 55, 56, 57, 58, 59, 60, 61, 62, 63, 64, 65, 66, 67, 68, 69, 70] (by decide +kernel) (by decide +kernel)
set_option maxRecDepth 20000 in
theorem gX9_words_X9_isStep : GoodIn wsX9_words (wsV RX9 83 RX9 yX9_isStep wsX9_isStep) := goodIn_app (goodIn_of _ (by decide +kernel)) ggX9_words_X9_isStep
set_option maxRecDepth 20000 in
theorem ggX9_words_X9_in : GoodIn wsX9_words wsX9_in := goodIn_r _ [11] (by decide +kernel) (by decide +kernel)
set_option maxRecDepth 20000 in
theorem gX9_words_X9_in : GoodIn wsX9_words (va_wsS RX9 54 yX9_in wsX9_in) := goodIn_app (goodIn_of _ (by decide +kernel)) ggX9_words_X9_in
set_option maxRecDepth 20000 in
theorem ggX9_words_X9_error : GoodIn wsX9_words wsX9_error := goodIn_r _ [15, 16, 17, 50, 51, 52, 53, 54, 55, 56, 57, 58, 59, 60, 61, 62, 63, 64, 65, 66, 67, 68, 69, 70] (by decide +kernel) (by decide +kernel)
set_option maxRecDepth 20000 in
theorem gX9_words_X9_error : GoodIn wsX9_words (wsV RX9 79 RX9 yX9_error wsX9_error) := goodIn_app (goodIn_of _ (by decide +kernel)) ggX9_words_X9_error
set_option maxRecDepth 20000 in
theorem ggX9_words_X9_wordsOf : GoodIn wsX9_words wsX9_wordsOf := goodIn_r _ [21, 22, 23, 24, 6, 25, 26, 27, 28, 29, 8, 30, 31, 32, 33, 34, 35, 36, 37, 38, 39, 40, 41, 42, 43, 44, 45, 46, 47, 48, 49, 50, 51, 52, 53, 54, 55, 56, 57, 58, 59, 60, 61, 62, 63, 64, 65, 66, 67, 68, 69, 70] (by decide +kernel) (by decide +kernel)
set_option maxRecDepth 20000 in
theorem gX9_words_X9_wordsOf : GoodIn wsX9_words (wsV RX9 195 RX9 yX9_wordsOf wsX9_wordsOf) := goodIn_app (goodIn_of _ (by decide +kernel)) ggX9_words_X9_wordsOf
set_option maxRecDepth 20000 in
theorem ggX9_words_X9_isContent : GoodIn wsX9_words wsX9_isContent := goodIn_r _ [25, 26, 27, 28, 6, 29, 8, 30, 31, 32, 33, 34, 35, 36, 37, 38, 39, 40, 41, 42, 43, 44, 45, 46, 47, 48, 49, 50, 51, 52, 53, 54, 55, 56, 57, 58, 59, 60, 61, 62, 63, 64, 65, 66, 67, 68, 69, 70] (by decide +kernel) (by decide +kernel)
set_option maxRecDepth 20000 in
theorem gX9_words_X9_isContent : GoodIn wsX9_words (wsV RX9 109 RX9 yX9_isContent wsX9_isContent) := goodIn_app (goodIn_of _ (by decide +kernel)) ggX9_words_X9_isContent
theorem dX9_words_0 : decode cX9_words 0 = .ok (.aload_n 0, 1) := by decide +kernel
theorem dX9_words_1 : decode cX9_words 1 = .ok (.iload_n 1, 1) := by decide +kernel
theorem dX9_words_2 : decode cX9_words 2 = .ok (.invokevirtual 83, 3) := by decide +kernel
theorem dX9_words_5 : decode cX9_words 5 = .ok (.ifCond .eq 12, 3) := by decide +kernel
theorem dX9_words_8 : decode cX9_words 8 = .ok (.iload_n 2, 1) := by decide +kernel
theorem dX9_words_9 : decode cX9_words 9 = .ok (.iconst 0, 1) := by decide +kernel
theorem dX9_words_10 : decode cX9_words 10 = .ok (.iconst 1, 1) := by decide +kernel
theorem dX9_words_11 : decode cX9_words 11 = .ok (.invokestatic 54, 3) := by decide +kernel
theorem dX9_words_14 : decode cX9_words 14 = .ok (.ifCond .ne 10, 3) := by decide +kernel
theorem dX9_words_17 : decode cX9_words 17 = .ok (.aload_n 0, 1) := by decide +kernel
theorem dX9_words_18 : decode cX9_words 18 = .ok (.ldc 78, 2) := by decide +kernel
theorem dX9_words_20 : decode cX9_words 20 = .ok (.invokevirtual 79, 3) := by decide +kernel
theorem dX9_words_23 : decode cX9_words 23 = .ok (.ireturn, 1) := by decide +kernel
theorem dX9_words_24 : decode cX9_words 24 = .ok (.iload_n 2, 1) := by decide +kernel
theorem dX9_words_25 : decode cX9_words 25 = .ok (.ifCond .ne 9, 3) := by decide +kernel
theorem dX9_words_28 : decode cX9_words 28 = .ok (.aload_n 0, 1) := by decide +kernel
theorem dX9_words_29 : decode cX9_words 29 = .ok (.iload_n 1, 1) := by decide +kernel
theorem dX9_words_30 : decode cX9_words 30 = .ok (.invokevirtual 195, 3) := by decide +kernel
theorem dX9_words_33 : decode cX9_words 33 = .ok (.ireturn, 1) := by decide +kernel
theorem dX9_words_34 : decode cX9_words 34 = .ok (.iconst 0, 1) := by decide +kernel
theorem dX9_words_35 : decode cX9_words 35 = .ok (.istore_n 3, 1) := by decide +kernel
theorem dX9_words_36 : decode cX9_words 36 = .ok (.iload_n 3, 1) := by decide +kernel
theorem dX9_words_37 : decode cX9_words 37 = .ok (.bipush 100, 2) := by decide +kernel
theorem dX9_words_39 : decode cX9_words 39 = .ok (.if_icmp .ge 20, 3) := by decide +kernel
theorem dX9_words_42 : decode cX9_words 42 = .ok (.aload_n 0, 1) := by decide +kernel
theorem dX9_words_43 : decode cX9_words 43 = .ok (.iload_n 1, 1) := by decide +kernel
theorem dX9_words_44 : decode cX9_words 44 = .ok (.iload_n 3, 1) := by decide +kernel
theorem dX9_words_45 : decode cX9_words 45 = .ok (.invokevirtual 109, 3) := by decide +kernel
theorem dX9_words_48 : decode cX9_words 48 = .ok (.ifCond .eq 5, 3) := by decide +kernel
theorem dX9_words_51 : decode cX9_words 51 = .ok (.iload_n 3, 1) := by decide +kernel
theorem dX9_words_52 : decode cX9_words 52 = .ok (.ireturn, 1) := by decide +kernel
theorem dX9_words_53 : decode cX9_words 53 = .ok (.iinc 3 1, 3) := by decide +kernel
theorem dX9_words_56 : decode cX9_words 56 = .ok (.goto (-20), 3) := by decide +kernel
theorem dX9_words_59 : decode cX9_words 59 = .ok (.aload_n 0, 1) := by decide +kernel
theorem dX9_words_60 : decode cX9_words 60 = .ok (.ldc 198, 2) := by decide +kernel
theorem dX9_words_62 : decode cX9_words 62 = .ok (.invokevirtual 79, 3) := by decide +kernel
theorem dX9_words_65 : decode cX9_words 65 = .ok (.ireturn, 1) := by decide +kernel
set_option maxRecDepth 20000 in
theorem ggX9_areWords_X9_isWord : GoodIn wsX9_areWords wsX9_isWord := goodIn_r _ [6, 7, 8, 5, 9] (by decide +kernel) (by decide +kernel)
set_option maxRecDepth 20000 in
theorem gX9_areWords_X9_isWord : GoodIn wsX9_areWords (va_wsS RX9 106 yX9_isWord wsX9_isWord) := goodIn_app (goodIn_of _ (by decide +kernel)) ggX9_areWords_X9_isWord
theorem dX9_areWords_0 : decode cX9_areWords 0 = .ok (.iconst 1, 1) := by decide +kernel
theorem dX9_areWords_1 : decode cX9_areWords 1 = .ok (.istore_n 2, 1) := by decide +kernel
theorem dX9_areWords_2 : decode cX9_areWords 2 = .ok (.iconst 0, 1) := by decide +kernel
theorem dX9_areWords_3 : decode cX9_areWords 3 = .ok (.istore_n 3, 1) := by decide +kernel
theorem dX9_areWords_4 : decode cX9_areWords 4 = .ok (.iload_n 3, 1) := by decide +kernel
theorem dX9_areWords_5 : decode cX9_areWords 5 = .ok (.aload_n 0, 1) := by decide +kernel
theorem dX9_areWords_6 : decode cX9_areWords 6 = .ok (.getfield 25, 3) := by decide +kernel
theorem dX9_areWords_9 : decode cX9_areWords 9 = .ok (.iload_n 1, 1) := by decide +kernel
theorem dX9_areWords_10 : decode cX9_areWords 10 = .ok (.iaload, 1) := by decide +kernel
theorem dX9_areWords_11 : decode cX9_areWords 11 = .ok (.if_icmp .ge 36, 3) := by decide +kernel
theorem dX9_areWords_14 : decode cX9_areWords 14 = .ok (.iload_n 2, 1) := by decide +kernel
theorem dX9_areWords_15 : decode cX9_areWords 15 = .ok (.ifCond .eq 24, 3) := by decide +kernel
theorem dX9_areWords_18 : decode cX9_areWords 18 = .ok (.aload_n 0, 1) := by decide +kernel
theorem dX9_areWords_19 : decode cX9_areWords 19 = .ok (.getfield 28, 3) := by decide +kernel
theorem dX9_areWords_22 : decode cX9_areWords 22 = .ok (.bipush 24, 2) := by decide +kernel
theorem dX9_areWords_24 : decode cX9_areWords 24 = .ok (.iload_n 1, 1) := by decide +kernel
theorem dX9_areWords_25 : decode cX9_areWords 25 = .ok (.imul, 1) := by decide +kernel
theorem dX9_areWords_26 : decode cX9_areWords 26 = .ok (.iload_n 3, 1) := by decide +kernel
theorem dX9_areWords_27 : decode cX9_areWords 27 = .ok (.iadd, 1) := by decide +kernel
theorem dX9_areWords_28 : decode cX9_areWords 28 = .ok (.iaload, 1) := by decide +kernel
theorem dX9_areWords_29 : decode cX9_areWords 29 = .ok (.invokestatic 106, 3) := by decide +kernel
theorem dX9_areWords_32 : decode cX9_areWords 32 = .ok (.ifCond .eq 7, 3) := by decide +kernel
theorem dX9_areWords_35 : decode cX9_areWords 35 = .ok (.iconst 1, 1) := by decide +kernel
theorem dX9_areWords_36 : decode cX9_areWords 36 = .ok (.goto 4, 3) := by decide +kernel
theorem dX9_areWords_39 : decode cX9_areWords 39 = .ok (.iconst 0, 1) := by decide +kernel
theorem dX9_areWords_40 : decode cX9_areWords 40 = .ok (.istore_n 2, 1) := by decide +kernel
theorem dX9_areWords_41 : decode cX9_areWords 41 = .ok (.iinc 3 1, 3) := by decide +kernel
theorem dX9_areWords_44 : decode cX9_areWords 44 = .ok (.goto (-40), 3) := by decide +kernel
theorem dX9_areWords_47 : decode cX9_areWords 47 = .ok (.iload_n 2, 1) := by decide +kernel
theorem dX9_areWords_48 : decode cX9_areWords 48 = .ok (.ireturn, 1) := by decide +kernel
set_option maxRecDepth 20000 in
theorem ggX9_climb_X9_isPerson : GoodIn wsX9_climb wsX9_isPerson := goodIn_r _ [11, 12, 13, 14, 10, 15, 92, 93, 94, 95, 96, 97, 98, 99, 100, 101, 102, 103, 104, 105, 106, 107, 108, 109, 110, 111, 112] (by decide +kernel) (by decide +kernel)
set_option maxRecDepth 20000 in
theorem gX9_climb_X9_isPerson : GoodIn wsX9_climb (wsV RX9 100 RX9 yX9_isPerson wsX9_isPerson) := goodIn_app (goodIn_of _ (by decide +kernel)) ggX9_climb_X9_isPerson
set_option maxRecDepth 20000 in
theorem ggX9_climb_X9_isSheet : GoodIn wsX9_climb wsX9_isSheet := goodIn_r _ [18, 13, 14, 10, 15] (by decide +kernel) (by decide +kernel)
set_option maxRecDepth 20000 in
theorem gX9_climb_X9_isSheet : GoodIn wsX9_climb (va_wsS RX9 199 yX9_isSheet wsX9_isSheet) := goodIn_app (goodIn_of _ (by decide +kernel)) ggX9_climb_X9_isSheet
set_option maxRecDepth 20000 in
theorem ggX9_climb_X9_in : GoodIn wsX9_climb wsX9_in := goodIn_r _ [15] (by decide +kernel) (by decide +kernel)
set_option maxRecDepth 20000 in
theorem gX9_climb_X9_in : GoodIn wsX9_climb (va_wsS RX9 54 yX9_in wsX9_in) := goodIn_app (goodIn_of _ (by decide +kernel)) ggX9_climb_X9_in
set_option maxRecDepth 20000 in
theorem ggX9_climb_X9_error : GoodIn wsX9_climb wsX9_error := goodIn_r _ [22, 23, 24, 92, 93, 94, 95, 96, 97, 98, 99, 100, 101, 102, 103, 104, 105, 106, 107, 108, 109, 110, 111, 112] (by decide +kernel) (by decide +kernel)
set_option maxRecDepth 20000 in
theorem gX9_climb_X9_error : GoodIn wsX9_climb (wsV RX9 79 RX9 yX9_error wsX9_error) := goodIn_app (goodIn_of _ (by decide +kernel)) ggX9_climb_X9_error
set_option maxRecDepth 20000 in
theorem ggX9_climb_X9_areWords : GoodIn wsX9_climb wsX9_areWords := goodIn_r _ [28, 5, 6, 29, 30, 10, 31, 13, 14, 15, 92, 93, 94, 95, 96, 97, 98, 99, 100, 101, 102, 103, 104, 105, 106, 107, 108, 109, 110, 111, 112] (by decide +kernel) (by decide +kernel)
set_option maxRecDepth 20000 in
theorem gX9_climb_X9_areWords : GoodIn wsX9_climb (wsV RX9 202 RX9 yX9_areWords wsX9_areWords) := goodIn_app (goodIn_of _ (by decide +kernel)) ggX9_climb_X9_areWords
set_option maxRecDepth 20000 in
theorem ggX9_climb_X9_thinks : GoodIn wsX9_climb wsX9_thinks := goodIn_r _ [35, 12, 36, 37, 38, 10, 39, 92, 93, 94, 95, 96, 97, 98, 99, 100, 101, 102, 103, 104, 105, 106, 107, 108, 109, 110, 111, 112] (by decide +kernel) (by decide +kernel)
set_option maxRecDepth 20000 in
theorem gX9_climb_X9_thinks : GoodIn wsX9_climb (wsV RX9 205 RX9 yX9_thinks wsX9_thinks) := goodIn_app (goodIn_of _ (by decide +kernel)) ggX9_climb_X9_thinks
set_option maxRecDepth 20000 in
theorem ggX9_climb_X9_canGo : GoodIn wsX9_climb wsX9_canGo := goodIn_r _ [43, 44, 45, 46, 10, 47, 12, 48, 49, 50, 51, 92, 93, 94, 95, 96, 97, 98, 99, 100, 101, 102, 103, 104, 105, 106, 107, 108, 109, 110, 111, 112] (by decide +kernel) (by decide +kernel)
set_option maxRecDepth 20000 in
theorem gX9_climb_X9_canGo : GoodIn wsX9_climb (wsV RX9 116 RX9 yX9_canGo wsX9_canGo) := goodIn_app (goodIn_of _ (by decide +kernel)) ggX9_climb_X9_canGo
set_option maxRecDepth 20000 in
theorem ggX9_climb_X9_says : GoodIn wsX9_climb wsX9_says := goodIn_r _ [55, 12, 48, 49, 50, 10, 51, 56, 57, 58, 59, 60, 61, 62, 63, 64, 65, 66, 67, 68, 69, 70, 71, 72, 73, 74, 75, 76, 77, 78, 79, 80, 81, 82, 83, 84, 85, 86, 87, 92, 93, 94, 95, 96, 97, 98, 99, 100, 101, 102, 103, 104, 105, 106, 107, 108, 109, 110, 111, 112] (by decide +kernel) (by decide +kernel)
set_option maxRecDepth 20000 in
theorem gX9_climb_X9_says : GoodIn wsX9_climb (wsV RX9 120 RX9 yX9_says wsX9_says) := goodIn_app (goodIn_of _ (by decide +kernel)) ggX9_climb_X9_says
set_option maxRecDepth 20000 in
theorem ggX9_climb_X9_about : GoodIn wsX9_climb wsX9_about := goodIn_r _ [51, 12, 92, 93, 94, 95, 96, 97, 98, 99, 100, 101, 102, 103, 104, 105, 106, 107, 108, 109, 110, 111, 112] (by decide +kernel) (by decide +kernel)
set_option maxRecDepth 20000 in
theorem gX9_climb_X9_about : GoodIn wsX9_climb (wsV RX9 97 RX9 yX9_about wsX9_about) := goodIn_app (goodIn_of _ (by decide +kernel)) ggX9_climb_X9_about
set_option maxRecDepth 20000 in
theorem ggX9_climb_X9_putsBack : GoodIn wsX9_climb wsX9_putsBack := goodIn_r _ [91, 36, 12, 37, 38, 10, 39, 92, 93, 94, 95, 96, 97, 98, 99, 100, 101, 102, 103, 104, 105, 106, 107, 108, 109, 110, 111, 112] (by decide +kernel) (by decide +kernel)
set_option maxRecDepth 20000 in
theorem gX9_climb_X9_putsBack : GoodIn wsX9_climb (wsV RX9 208 RX9 yX9_putsBack wsX9_putsBack) := goodIn_app (goodIn_of _ (by decide +kernel)) ggX9_climb_X9_putsBack
theorem dX9_climb_0 : decode cX9_climb 0 = .ok (.aload_n 0, 1) := by decide +kernel
theorem dX9_climb_1 : decode cX9_climb 1 = .ok (.iload_n 1, 1) := by decide +kernel
theorem dX9_climb_2 : decode cX9_climb 2 = .ok (.invokevirtual 100, 3) := by decide +kernel
theorem dX9_climb_5 : decode cX9_climb 5 = .ok (.ifCond .eq 19, 3) := by decide +kernel
theorem dX9_climb_8 : decode cX9_climb 8 = .ok (.iload_n 2, 1) := by decide +kernel
theorem dX9_climb_9 : decode cX9_climb 9 = .ok (.invokestatic 199, 3) := by decide +kernel
theorem dX9_climb_12 : decode cX9_climb 12 = .ok (.ifCond .eq 12, 3) := by decide +kernel
theorem dX9_climb_15 : decode cX9_climb 15 = .ok (.iload_n 3, 1) := by decide +kernel
theorem dX9_climb_16 : decode cX9_climb 16 = .ok (.iconst 0, 1) := by decide +kernel
theorem dX9_climb_17 : decode cX9_climb 17 = .ok (.iconst 2, 1) := by decide +kernel
theorem dX9_climb_18 : decode cX9_climb 18 = .ok (.invokestatic 54, 3) := by decide +kernel
theorem dX9_climb_21 : decode cX9_climb 21 = .ok (.ifCond .ne 10, 3) := by decide +kernel
theorem dX9_climb_24 : decode cX9_climb 24 = .ok (.aload_n 0, 1) := by decide +kernel
theorem dX9_climb_25 : decode cX9_climb 25 = .ok (.ldc 78, 2) := by decide +kernel
theorem dX9_climb_27 : decode cX9_climb 27 = .ok (.invokevirtual 79, 3) := by decide +kernel
theorem dX9_climb_30 : decode cX9_climb 30 = .ok (.ireturn, 1) := by decide +kernel
theorem dX9_climb_31 : decode cX9_climb 31 = .ok (.aload_n 0, 1) := by decide +kernel
theorem dX9_climb_32 : decode cX9_climb 32 = .ok (.getfield 22, 3) := by decide +kernel
theorem dX9_climb_35 : decode cX9_climb 35 = .ok (.iload_n 2, 1) := by decide +kernel
theorem dX9_climb_36 : decode cX9_climb 36 = .ok (.iaload, 1) := by decide +kernel
theorem dX9_climb_37 : decode cX9_climb 37 = .ok (.ifCond .ne 10, 3) := by decide +kernel
theorem dX9_climb_40 : decode cX9_climb 40 = .ok (.aload_n 0, 1) := by decide +kernel
theorem dX9_climb_41 : decode cX9_climb 41 = .ok (.ldc 198, 2) := by decide +kernel
theorem dX9_climb_43 : decode cX9_climb 43 = .ok (.invokevirtual 79, 3) := by decide +kernel
theorem dX9_climb_46 : decode cX9_climb 46 = .ok (.ireturn, 1) := by decide +kernel
theorem dX9_climb_47 : decode cX9_climb 47 = .ok (.aload_n 0, 1) := by decide +kernel
theorem dX9_climb_48 : decode cX9_climb 48 = .ok (.iload_n 2, 1) := by decide +kernel
theorem dX9_climb_49 : decode cX9_climb 49 = .ok (.invokevirtual 202, 3) := by decide +kernel
theorem dX9_climb_52 : decode cX9_climb 52 = .ok (.ifCond .ne 10, 3) := by decide +kernel
theorem dX9_climb_55 : decode cX9_climb 55 = .ok (.aload_n 0, 1) := by decide +kernel
theorem dX9_climb_56 : decode cX9_climb 56 = .ok (.ldc 119, 2) := by decide +kernel
theorem dX9_climb_58 : decode cX9_climb 58 = .ok (.invokevirtual 79, 3) := by decide +kernel
theorem dX9_climb_61 : decode cX9_climb 61 = .ok (.ireturn, 1) := by decide +kernel
theorem dX9_climb_62 : decode cX9_climb 62 = .ok (.aload_n 0, 1) := by decide +kernel
theorem dX9_climb_63 : decode cX9_climb 63 = .ok (.invokevirtual 205, 3) := by decide +kernel
theorem dX9_climb_66 : decode cX9_climb 66 = .ok (.iconst 0, 1) := by decide +kernel
theorem dX9_climb_67 : decode cX9_climb 67 = .ok (.istore 4, 2) := by decide +kernel
theorem dX9_climb_69 : decode cX9_climb 69 = .ok (.iconst 0, 1) := by decide +kernel
theorem dX9_climb_70 : decode cX9_climb 70 = .ok (.istore 5, 2) := by decide +kernel
theorem dX9_climb_72 : decode cX9_climb 72 = .ok (.iload 4, 2) := by decide +kernel
theorem dX9_climb_74 : decode cX9_climb 74 = .ok (.aload_n 0, 1) := by decide +kernel
theorem dX9_climb_75 : decode cX9_climb 75 = .ok (.getfield 25, 3) := by decide +kernel
theorem dX9_climb_78 : decode cX9_climb 78 = .ok (.iload_n 2, 1) := by decide +kernel
theorem dX9_climb_79 : decode cX9_climb 79 = .ok (.iaload, 1) := by decide +kernel
theorem dX9_climb_80 : decode cX9_climb 80 = .ok (.if_icmp .ge 47, 3) := by decide +kernel
theorem dX9_climb_83 : decode cX9_climb 83 = .ok (.aload_n 0, 1) := by decide +kernel
theorem dX9_climb_84 : decode cX9_climb 84 = .ok (.iload_n 1, 1) := by decide +kernel
theorem dX9_climb_85 : decode cX9_climb 85 = .ok (.invokevirtual 116, 3) := by decide +kernel
theorem dX9_climb_88 : decode cX9_climb 88 = .ok (.ifCond .eq 39, 3) := by decide +kernel
theorem dX9_climb_91 : decode cX9_climb 91 = .ok (.iload 5, 2) := by decide +kernel
theorem dX9_climb_93 : decode cX9_climb 93 = .ok (.aload_n 0, 1) := by decide +kernel
theorem dX9_climb_94 : decode cX9_climb 94 = .ok (.iload_n 1, 1) := by decide +kernel
theorem dX9_climb_95 : decode cX9_climb 95 = .ok (.aload_n 0, 1) := by decide +kernel
theorem dX9_climb_96 : decode cX9_climb 96 = .ok (.getfield 28, 3) := by decide +kernel
theorem dX9_climb_99 : decode cX9_climb 99 = .ok (.bipush 24, 2) := by decide +kernel
theorem dX9_climb_101 : decode cX9_climb 101 = .ok (.iload_n 2, 1) := by decide +kernel
theorem dX9_climb_102 : decode cX9_climb 102 = .ok (.imul, 1) := by decide +kernel
theorem dX9_climb_103 : decode cX9_climb 103 = .ok (.iload 4, 2) := by decide +kernel
theorem dX9_climb_105 : decode cX9_climb 105 = .ok (.iadd, 1) := by decide +kernel
theorem dX9_climb_106 : decode cX9_climb 106 = .ok (.iaload, 1) := by decide +kernel
theorem dX9_climb_107 : decode cX9_climb 107 = .ok (.invokevirtual 120, 3) := by decide +kernel
theorem dX9_climb_110 : decode cX9_climb 110 = .ok (.ifCond .eq 7, 3) := by decide +kernel
theorem dX9_climb_113 : decode cX9_climb 113 = .ok (.iconst 1, 1) := by decide +kernel
theorem dX9_climb_114 : decode cX9_climb 114 = .ok (.goto 4, 3) := by decide +kernel
theorem dX9_climb_117 : decode cX9_climb 117 = .ok (.iconst 0, 1) := by decide +kernel
theorem dX9_climb_118 : decode cX9_climb 118 = .ok (.iadd, 1) := by decide +kernel
theorem dX9_climb_119 : decode cX9_climb 119 = .ok (.istore 5, 2) := by decide +kernel
theorem dX9_climb_121 : decode cX9_climb 121 = .ok (.iinc 4 1, 3) := by decide +kernel
theorem dX9_climb_124 : decode cX9_climb 124 = .ok (.goto (-52), 3) := by decide +kernel
theorem dX9_climb_127 : decode cX9_climb 127 = .ok (.aload_n 0, 1) := by decide +kernel
theorem dX9_climb_128 : decode cX9_climb 128 = .ok (.iload_n 1, 1) := by decide +kernel
theorem dX9_climb_129 : decode cX9_climb 129 = .ok (.iconst 0, 1) := by decide +kernel
theorem dX9_climb_130 : decode cX9_climb 130 = .ok (.invokevirtual 97, 3) := by decide +kernel
theorem dX9_climb_133 : decode cX9_climb 133 = .ok (.istore 6, 2) := by decide +kernel
theorem dX9_climb_135 : decode cX9_climb 135 = .ok (.aload_n 0, 1) := by decide +kernel
theorem dX9_climb_136 : decode cX9_climb 136 = .ok (.invokevirtual 208, 3) := by decide +kernel
theorem dX9_climb_139 : decode cX9_climb 139 = .ok (.iload_n 3, 1) := by decide +kernel
theorem dX9_climb_140 : decode cX9_climb 140 = .ok (.ifCond .ne 8, 3) := by decide +kernel
theorem dX9_climb_143 : decode cX9_climb 143 = .ok (.iload 6, 2) := by decide +kernel
theorem dX9_climb_145 : decode cX9_climb 145 = .ok (.goto 15, 3) := by decide +kernel
theorem dX9_climb_148 : decode cX9_climb 148 = .ok (.iload_n 3, 1) := by decide +kernel
theorem dX9_climb_149 : decode cX9_climb 149 = .ok (.iconst 1, 1) := by decide +kernel
theorem dX9_climb_150 : decode cX9_climb 150 = .ok (.if_icmp .ne 8, 3) := by decide +kernel
theorem dX9_climb_153 : decode cX9_climb 153 = .ok (.iload 4, 2) := by decide +kernel
theorem dX9_climb_155 : decode cX9_climb 155 = .ok (.goto 5, 3) := by decide +kernel
theorem dX9_climb_158 : decode cX9_climb 158 = .ok (.iload 5, 2) := by decide +kernel
theorem dX9_climb_160 : decode cX9_climb 160 = .ok (.ireturn, 1) := by decide +kernel
set_option maxRecDepth 20000 in
theorem ggX9_findWhom_X9_isContent : GoodIn wsX9_findWhom wsX9_isContent := goodIn_r _ [7, 8, 9, 10, 6, 11, 2, 12, 13, 14, 15, 16, 17, 18, 19, 20, 21, 22, 23, 24, 25, 26, 27, 28, 29, 30, 31, 32, 33, 34, 35, 36, 37, 38, 39, 40, 41, 42, 43, 44, 45, 46, 47, 48, 49, 50, 51, 52] (by decide +kernel) (by decide +kernel)
set_option maxRecDepth 20000 in
theorem gX9_findWhom_X9_isContent : GoodIn wsX9_findWhom (wsV RX9 109 RX9 yX9_isContent wsX9_isContent) := goodIn_app (goodIn_of _ (by decide +kernel)) ggX9_findWhom_X9_isContent
theorem dX9_findWhom_0 : decode cX9_findWhom 0 = .ok (.iconst 0, 1) := by decide +kernel
theorem dX9_findWhom_1 : decode cX9_findWhom 1 = .ok (.istore_n 2, 1) := by decide +kernel
theorem dX9_findWhom_2 : decode cX9_findWhom 2 = .ok (.iload_n 2, 1) := by decide +kernel
theorem dX9_findWhom_3 : decode cX9_findWhom 3 = .ok (.bipush 100, 2) := by decide +kernel
theorem dX9_findWhom_5 : decode cX9_findWhom 5 = .ok (.if_icmp .ge 59, 3) := by decide +kernel
theorem dX9_findWhom_8 : decode cX9_findWhom 8 = .ok (.aload_n 0, 1) := by decide +kernel
theorem dX9_findWhom_9 : decode cX9_findWhom 9 = .ok (.getfield 43, 3) := by decide +kernel
theorem dX9_findWhom_12 : decode cX9_findWhom 12 = .ok (.iload_n 2, 1) := by decide +kernel
theorem dX9_findWhom_13 : decode cX9_findWhom 13 = .ok (.iconst 0, 1) := by decide +kernel
theorem dX9_findWhom_14 : decode cX9_findWhom 14 = .ok (.iastore, 1) := by decide +kernel
theorem dX9_findWhom_15 : decode cX9_findWhom 15 = .ok (.iload_n 1, 1) := by decide +kernel
theorem dX9_findWhom_16 : decode cX9_findWhom 16 = .ok (.istore_n 3, 1) := by decide +kernel
theorem dX9_findWhom_17 : decode cX9_findWhom 17 = .ok (.iload_n 3, 1) := by decide +kernel
theorem dX9_findWhom_18 : decode cX9_findWhom 18 = .ok (.aload_n 0, 1) := by decide +kernel
theorem dX9_findWhom_19 : decode cX9_findWhom 19 = .ok (.getfield 9, 3) := by decide +kernel
theorem dX9_findWhom_22 : decode cX9_findWhom 22 = .ok (.iconst 2, 1) := by decide +kernel
theorem dX9_findWhom_23 : decode cX9_findWhom 23 = .ok (.iaload, 1) := by decide +kernel
theorem dX9_findWhom_24 : decode cX9_findWhom 24 = .ok (.if_icmp .ge 34, 3) := by decide +kernel
theorem dX9_findWhom_27 : decode cX9_findWhom 27 = .ok (.aload_n 0, 1) := by decide +kernel
theorem dX9_findWhom_28 : decode cX9_findWhom 28 = .ok (.getfield 43, 3) := by decide +kernel
theorem dX9_findWhom_31 : decode cX9_findWhom 31 = .ok (.iload_n 2, 1) := by decide +kernel
theorem dX9_findWhom_32 : decode cX9_findWhom 32 = .ok (.dup2, 1) := by decide +kernel
theorem dX9_findWhom_33 : decode cX9_findWhom 33 = .ok (.iaload, 1) := by decide +kernel
theorem dX9_findWhom_34 : decode cX9_findWhom 34 = .ok (.aload_n 0, 1) := by decide +kernel
theorem dX9_findWhom_35 : decode cX9_findWhom 35 = .ok (.iload_n 3, 1) := by decide +kernel
theorem dX9_findWhom_36 : decode cX9_findWhom 36 = .ok (.iload_n 2, 1) := by decide +kernel
theorem dX9_findWhom_37 : decode cX9_findWhom 37 = .ok (.invokevirtual 109, 3) := by decide +kernel
theorem dX9_findWhom_40 : decode cX9_findWhom 40 = .ok (.ifCond .eq 9, 3) := by decide +kernel
theorem dX9_findWhom_43 : decode cX9_findWhom 43 = .ok (.iconst 1, 1) := by decide +kernel
theorem dX9_findWhom_44 : decode cX9_findWhom 44 = .ok (.iload_n 3, 1) := by decide +kernel
theorem dX9_findWhom_45 : decode cX9_findWhom 45 = .ok (.ishl, 1) := by decide +kernel
theorem dX9_findWhom_46 : decode cX9_findWhom 46 = .ok (.goto 4, 3) := by decide +kernel
theorem dX9_findWhom_49 : decode cX9_findWhom 49 = .ok (.iconst 0, 1) := by decide +kernel
theorem dX9_findWhom_50 : decode cX9_findWhom 50 = .ok (.ior, 1) := by decide +kernel
theorem dX9_findWhom_51 : decode cX9_findWhom 51 = .ok (.iastore, 1) := by decide +kernel
theorem dX9_findWhom_52 : decode cX9_findWhom 52 = .ok (.iinc 3 1, 3) := by decide +kernel
theorem dX9_findWhom_55 : decode cX9_findWhom 55 = .ok (.goto (-38), 3) := by decide +kernel
theorem dX9_findWhom_58 : decode cX9_findWhom 58 = .ok (.iinc 2 1, 3) := by decide +kernel
theorem dX9_findWhom_61 : decode cX9_findWhom 61 = .ok (.goto (-59), 3) := by decide +kernel
theorem dX9_findWhom_64 : decode cX9_findWhom 64 = .ok (.return_, 1) := by decide +kernel
theorem dX9_wordAt_0 : decode cX9_wordAt 0 = .ok (.iload_n 2, 1) := by decide +kernel
theorem dX9_wordAt_1 : decode cX9_wordAt 1 = .ok (.ifCond .ge 7, 3) := by decide +kernel
theorem dX9_wordAt_4 : decode cX9_wordAt 4 = .ok (.iload_n 1, 1) := by decide +kernel
theorem dX9_wordAt_5 : decode cX9_wordAt 5 = .ok (.goto 32, 3) := by decide +kernel
theorem dX9_wordAt_8 : decode cX9_wordAt 8 = .ok (.iload_n 2, 1) := by decide +kernel
theorem dX9_wordAt_9 : decode cX9_wordAt 9 = .ok (.iload_n 1, 1) := by decide +kernel
theorem dX9_wordAt_10 : decode cX9_wordAt 10 = .ok (.if_icmp .lt 7, 3) := by decide +kernel
theorem dX9_wordAt_13 : decode cX9_wordAt 13 = .ok (.iconst (-1), 1) := by decide +kernel
theorem dX9_wordAt_14 : decode cX9_wordAt 14 = .ok (.goto 23, 3) := by decide +kernel
theorem dX9_wordAt_17 : decode cX9_wordAt 17 = .ok (.iload_n 2, 1) := by decide +kernel
theorem dX9_wordAt_18 : decode cX9_wordAt 18 = .ok (.ifCond .ne 7, 3) := by decide +kernel
theorem dX9_wordAt_21 : decode cX9_wordAt 21 = .ok (.iload_n 3, 1) := by decide +kernel
theorem dX9_wordAt_22 : decode cX9_wordAt 22 = .ok (.goto 15, 3) := by decide +kernel
theorem dX9_wordAt_25 : decode cX9_wordAt 25 = .ok (.iload_n 2, 1) := by decide +kernel
theorem dX9_wordAt_26 : decode cX9_wordAt 26 = .ok (.iconst 1, 1) := by decide +kernel
theorem dX9_wordAt_27 : decode cX9_wordAt 27 = .ok (.if_icmp .ne 8, 3) := by decide +kernel
theorem dX9_wordAt_30 : decode cX9_wordAt 30 = .ok (.iload 4, 2) := by decide +kernel
theorem dX9_wordAt_32 : decode cX9_wordAt 32 = .ok (.goto 5, 3) := by decide +kernel
theorem dX9_wordAt_35 : decode cX9_wordAt 35 = .ok (.iload 5, 2) := by decide +kernel
theorem dX9_wordAt_37 : decode cX9_wordAt 37 = .ok (.ireturn, 1) := by decide +kernel
set_option maxRecDepth 20000 in
theorem ggX9_fewest_X9_isPerson : GoodIn wsX9_fewest wsX9_isPerson := goodIn_r _ [9, 2, 10, 11, 8, 12, 59, 60, 61, 62, 63, 64, 65, 66, 67, 68, 69, 70, 71, 72, 73, 74, 75, 76, 77, 78, 79] (by decide +kernel) (by decide +kernel)
set_option maxRecDepth 20000 in
theorem gX9_fewest_X9_isPerson : GoodIn wsX9_fewest (wsV RX9 100 RX9 yX9_isPerson wsX9_isPerson) := goodIn_app (goodIn_of _ (by decide +kernel)) ggX9_fewest_X9_isPerson
set_option maxRecDepth 20000 in
theorem ggX9_fewest_X9_in : GoodIn wsX9_fewest wsX9_in := goodIn_r _ [12] (by decide +kernel) (by decide +kernel)
set_option maxRecDepth 20000 in
theorem gX9_fewest_X9_in : GoodIn wsX9_fewest (va_wsS RX9 54 yX9_in wsX9_in) := goodIn_app (goodIn_of _ (by decide +kernel)) ggX9_fewest_X9_in
set_option maxRecDepth 20000 in
theorem ggX9_fewest_X9_error : GoodIn wsX9_fewest wsX9_error := goodIn_r _ [16, 17, 18, 59, 60, 61, 62, 63, 64, 65, 66, 67, 68, 69, 70, 71, 72, 73, 74, 75, 76, 77, 78, 79] (by decide +kernel) (by decide +kernel)
set_option maxRecDepth 20000 in
theorem gX9_fewest_X9_error : GoodIn wsX9_fewest (wsV RX9 79 RX9 yX9_error wsX9_error) := goodIn_app (goodIn_of _ (by decide +kernel)) ggX9_fewest_X9_error
set_option maxRecDepth 20000 in
theorem ggX9_fewest_X9_about : GoodIn wsX9_fewest wsX9_about := goodIn_r _ [22, 2, 59, 60, 61, 62, 63, 64, 65, 66, 67, 68, 69, 70, 71, 72, 73, 74, 75, 76, 77, 78, 79] (by decide +kernel) (by decide +kernel)
set_option maxRecDepth 20000 in
theorem gX9_fewest_X9_about : GoodIn wsX9_fewest (wsV RX9 97 RX9 yX9_about wsX9_about) := goodIn_app (goodIn_of _ (by decide +kernel)) ggX9_fewest_X9_about
set_option maxRecDepth 20000 in
theorem ggX9_fewest_X9_findWhom : GoodIn wsX9_fewest wsX9_findWhom := goodIn_r _ [26, 3, 2, 27, 28, 29, 8, 30, 31, 32, 33, 34, 35, 36, 37, 38, 39, 40, 41, 42, 43, 44, 45, 46, 47, 48, 49, 50, 51, 52, 53, 54, 59, 60, 61, 62, 63, 64, 65, 66, 67, 68, 69, 70, 71, 72, 73, 74, 75, 76, 77, 78, 79] (by decide +kernel) (by decide +kernel)
set_option maxRecDepth 20000 in
theorem gX9_fewest_X9_findWhom : GoodIn wsX9_fewest (wsV RX9 211 RX9 yX9_findWhom wsX9_findWhom) := goodIn_app (goodIn_of _ (by decide +kernel)) ggX9_fewest_X9_findWhom
set_option maxRecDepth 20000 in
theorem ggX9_fewest_X9_wordAt : GoodIn wsX9_fewest wsX9_wordAt := goodIn_r _ [58] (by decide +kernel) (by decide +kernel)
set_option maxRecDepth 20000 in
theorem gX9_fewest_X9_wordAt : GoodIn wsX9_fewest (wsV RX9 214 RX9 yX9_wordAt wsX9_wordAt) := goodIn_app (goodIn_of _ (by decide +kernel)) ggX9_fewest_X9_wordAt
theorem dX9_fewest_0 : decode cX9_fewest 0 = .ok (.aload_n 0, 1) := by decide +kernel
theorem dX9_fewest_1 : decode cX9_fewest 1 = .ok (.iload_n 1, 1) := by decide +kernel
theorem dX9_fewest_2 : decode cX9_fewest 2 = .ok (.invokevirtual 100, 3) := by decide +kernel
theorem dX9_fewest_5 : decode cX9_fewest 5 = .ok (.ifCond .eq 12, 3) := by decide +kernel
theorem dX9_fewest_8 : decode cX9_fewest 8 = .ok (.iload_n 2, 1) := by decide +kernel
theorem dX9_fewest_9 : decode cX9_fewest 9 = .ok (.iconst (-1), 1) := by decide +kernel
theorem dX9_fewest_10 : decode cX9_fewest 10 = .ok (.iconst 2, 1) := by decide +kernel
theorem dX9_fewest_11 : decode cX9_fewest 11 = .ok (.invokestatic 54, 3) := by decide +kernel
theorem dX9_fewest_14 : decode cX9_fewest 14 = .ok (.ifCond .ne 10, 3) := by decide +kernel
theorem dX9_fewest_17 : decode cX9_fewest 17 = .ok (.aload_n 0, 1) := by decide +kernel
theorem dX9_fewest_18 : decode cX9_fewest 18 = .ok (.ldc 78, 2) := by decide +kernel
theorem dX9_fewest_20 : decode cX9_fewest 20 = .ok (.invokevirtual 79, 3) := by decide +kernel
theorem dX9_fewest_23 : decode cX9_fewest 23 = .ok (.ireturn, 1) := by decide +kernel
theorem dX9_fewest_24 : decode cX9_fewest 24 = .ok (.aload_n 0, 1) := by decide +kernel
theorem dX9_fewest_25 : decode cX9_fewest 25 = .ok (.iload_n 1, 1) := by decide +kernel
theorem dX9_fewest_26 : decode cX9_fewest 26 = .ok (.iconst 0, 1) := by decide +kernel
theorem dX9_fewest_27 : decode cX9_fewest 27 = .ok (.invokevirtual 97, 3) := by decide +kernel
theorem dX9_fewest_30 : decode cX9_fewest 30 = .ok (.istore_n 3, 1) := by decide +kernel
theorem dX9_fewest_31 : decode cX9_fewest 31 = .ok (.iconst 1, 1) := by decide +kernel
theorem dX9_fewest_32 : decode cX9_fewest 32 = .ok (.aload_n 0, 1) := by decide +kernel
theorem dX9_fewest_33 : decode cX9_fewest 33 = .ok (.getfield 9, 3) := by decide +kernel
theorem dX9_fewest_36 : decode cX9_fewest 36 = .ok (.iconst 2, 1) := by decide +kernel
theorem dX9_fewest_37 : decode cX9_fewest 37 = .ok (.iaload, 1) := by decide +kernel
theorem dX9_fewest_38 : decode cX9_fewest 38 = .ok (.ishl, 1) := by decide +kernel
theorem dX9_fewest_39 : decode cX9_fewest 39 = .ok (.iconst 1, 1) := by decide +kernel
theorem dX9_fewest_40 : decode cX9_fewest 40 = .ok (.iload_n 3, 1) := by decide +kernel
theorem dX9_fewest_41 : decode cX9_fewest 41 = .ok (.ishl, 1) := by decide +kernel
theorem dX9_fewest_42 : decode cX9_fewest 42 = .ok (.isub, 1) := by decide +kernel
theorem dX9_fewest_43 : decode cX9_fewest 43 = .ok (.istore 4, 2) := by decide +kernel
theorem dX9_fewest_45 : decode cX9_fewest 45 = .ok (.aload_n 0, 1) := by decide +kernel
theorem dX9_fewest_46 : decode cX9_fewest 46 = .ok (.iload_n 3, 1) := by decide +kernel
theorem dX9_fewest_47 : decode cX9_fewest 47 = .ok (.invokevirtual 211, 3) := by decide +kernel
theorem dX9_fewest_50 : decode cX9_fewest 50 = .ok (.iload 4, 2) := by decide +kernel
theorem dX9_fewest_52 : decode cX9_fewest 52 = .ok (.ifCond .ne 13, 3) := by decide +kernel
theorem dX9_fewest_55 : decode cX9_fewest 55 = .ok (.aload_n 0, 1) := by decide +kernel
theorem dX9_fewest_56 : decode cX9_fewest 56 = .ok (.iconst 0, 1) := by decide +kernel
theorem dX9_fewest_57 : decode cX9_fewest 57 = .ok (.iload_n 2, 1) := by decide +kernel
theorem dX9_fewest_58 : decode cX9_fewest 58 = .ok (.iconst 0, 1) := by decide +kernel
theorem dX9_fewest_59 : decode cX9_fewest 59 = .ok (.iconst 0, 1) := by decide +kernel
theorem dX9_fewest_60 : decode cX9_fewest 60 = .ok (.iconst 0, 1) := by decide +kernel
theorem dX9_fewest_61 : decode cX9_fewest 61 = .ok (.invokevirtual 214, 3) := by decide +kernel
theorem dX9_fewest_64 : decode cX9_fewest 64 = .ok (.ireturn, 1) := by decide +kernel
theorem dX9_fewest_65 : decode cX9_fewest 65 = .ok (.iconst 0, 1) := by decide +kernel
theorem dX9_fewest_66 : decode cX9_fewest 66 = .ok (.istore 5, 2) := by decide +kernel
theorem dX9_fewest_68 : decode cX9_fewest 68 = .ok (.iload 5, 2) := by decide +kernel
theorem dX9_fewest_70 : decode cX9_fewest 70 = .ok (.bipush 100, 2) := by decide +kernel
theorem dX9_fewest_72 : decode cX9_fewest 72 = .ok (.if_icmp .ge 32, 3) := by decide +kernel
theorem dX9_fewest_75 : decode cX9_fewest 75 = .ok (.aload_n 0, 1) := by decide +kernel
theorem dX9_fewest_76 : decode cX9_fewest 76 = .ok (.getfield 43, 3) := by decide +kernel
theorem dX9_fewest_79 : decode cX9_fewest 79 = .ok (.iload 5, 2) := by decide +kernel
theorem dX9_fewest_81 : decode cX9_fewest 81 = .ok (.iaload, 1) := by decide +kernel
theorem dX9_fewest_82 : decode cX9_fewest 82 = .ok (.iload 4, 2) := by decide +kernel
theorem dX9_fewest_84 : decode cX9_fewest 84 = .ok (.if_icmp .ne 14, 3) := by decide +kernel
theorem dX9_fewest_87 : decode cX9_fewest 87 = .ok (.aload_n 0, 1) := by decide +kernel
theorem dX9_fewest_88 : decode cX9_fewest 88 = .ok (.iconst 1, 1) := by decide +kernel
theorem dX9_fewest_89 : decode cX9_fewest 89 = .ok (.iload_n 2, 1) := by decide +kernel
theorem dX9_fewest_90 : decode cX9_fewest 90 = .ok (.iload 5, 2) := by decide +kernel
theorem dX9_fewest_92 : decode cX9_fewest 92 = .ok (.iconst 0, 1) := by decide +kernel
theorem dX9_fewest_93 : decode cX9_fewest 93 = .ok (.iconst 0, 1) := by decide +kernel
theorem dX9_fewest_94 : decode cX9_fewest 94 = .ok (.invokevirtual 214, 3) := by decide +kernel
theorem dX9_fewest_97 : decode cX9_fewest 97 = .ok (.ireturn, 1) := by decide +kernel
theorem dX9_fewest_98 : decode cX9_fewest 98 = .ok (.iinc 5 1, 3) := by decide +kernel
theorem dX9_fewest_101 : decode cX9_fewest 101 = .ok (.goto (-33), 3) := by decide +kernel
theorem dX9_fewest_104 : decode cX9_fewest 104 = .ok (.iconst 0, 1) := by decide +kernel
theorem dX9_fewest_105 : decode cX9_fewest 105 = .ok (.istore 5, 2) := by decide +kernel
theorem dX9_fewest_107 : decode cX9_fewest 107 = .ok (.iload 5, 2) := by decide +kernel
theorem dX9_fewest_109 : decode cX9_fewest 109 = .ok (.bipush 100, 2) := by decide +kernel
theorem dX9_fewest_111 : decode cX9_fewest 111 = .ok (.if_icmp .ge 60, 3) := by decide +kernel
theorem dX9_fewest_114 : decode cX9_fewest 114 = .ok (.iload 5, 2) := by decide +kernel
theorem dX9_fewest_116 : decode cX9_fewest 116 = .ok (.iconst 1, 1) := by decide +kernel
theorem dX9_fewest_117 : decode cX9_fewest 117 = .ok (.iadd, 1) := by decide +kernel
theorem dX9_fewest_118 : decode cX9_fewest 118 = .ok (.istore 6, 2) := by decide +kernel
theorem dX9_fewest_120 : decode cX9_fewest 120 = .ok (.iload 6, 2) := by decide +kernel
theorem dX9_fewest_122 : decode cX9_fewest 122 = .ok (.bipush 100, 2) := by decide +kernel
theorem dX9_fewest_124 : decode cX9_fewest 124 = .ok (.if_icmp .ge 41, 3) := by decide +kernel
theorem dX9_fewest_127 : decode cX9_fewest 127 = .ok (.aload_n 0, 1) := by decide +kernel
theorem dX9_fewest_128 : decode cX9_fewest 128 = .ok (.getfield 43, 3) := by decide +kernel
theorem dX9_fewest_131 : decode cX9_fewest 131 = .ok (.iload 5, 2) := by decide +kernel
theorem dX9_fewest_133 : decode cX9_fewest 133 = .ok (.iaload, 1) := by decide +kernel
theorem dX9_fewest_134 : decode cX9_fewest 134 = .ok (.aload_n 0, 1) := by decide +kernel
theorem dX9_fewest_135 : decode cX9_fewest 135 = .ok (.getfield 43, 3) := by decide +kernel
theorem dX9_fewest_138 : decode cX9_fewest 138 = .ok (.iload 6, 2) := by decide +kernel
theorem dX9_fewest_140 : decode cX9_fewest 140 = .ok (.iaload, 1) := by decide +kernel
theorem dX9_fewest_141 : decode cX9_fewest 141 = .ok (.ior, 1) := by decide +kernel
theorem dX9_fewest_142 : decode cX9_fewest 142 = .ok (.iload 4, 2) := by decide +kernel
theorem dX9_fewest_144 : decode cX9_fewest 144 = .ok (.if_icmp .ne 15, 3) := by decide +kernel
theorem dX9_fewest_147 : decode cX9_fewest 147 = .ok (.aload_n 0, 1) := by decide +kernel
theorem dX9_fewest_148 : decode cX9_fewest 148 = .ok (.iconst 2, 1) := by decide +kernel
theorem dX9_fewest_149 : decode cX9_fewest 149 = .ok (.iload_n 2, 1) := by decide +kernel
theorem dX9_fewest_150 : decode cX9_fewest 150 = .ok (.iload 5, 2) := by decide +kernel
theorem dX9_fewest_152 : decode cX9_fewest 152 = .ok (.iload 6, 2) := by decide +kernel
theorem dX9_fewest_154 : decode cX9_fewest 154 = .ok (.iconst 0, 1) := by decide +kernel
theorem dX9_fewest_155 : decode cX9_fewest 155 = .ok (.invokevirtual 214, 3) := by decide +kernel
theorem dX9_fewest_158 : decode cX9_fewest 158 = .ok (.ireturn, 1) := by decide +kernel
theorem dX9_fewest_159 : decode cX9_fewest 159 = .ok (.iinc 6 1, 3) := by decide +kernel
theorem dX9_fewest_162 : decode cX9_fewest 162 = .ok (.goto (-42), 3) := by decide +kernel
theorem dX9_fewest_165 : decode cX9_fewest 165 = .ok (.iinc 5 1, 3) := by decide +kernel
theorem dX9_fewest_168 : decode cX9_fewest 168 = .ok (.goto (-61), 3) := by decide +kernel
theorem dX9_fewest_171 : decode cX9_fewest 171 = .ok (.iconst 0, 1) := by decide +kernel
theorem dX9_fewest_172 : decode cX9_fewest 172 = .ok (.istore 5, 2) := by decide +kernel
theorem dX9_fewest_174 : decode cX9_fewest 174 = .ok (.iload 5, 2) := by decide +kernel
theorem dX9_fewest_176 : decode cX9_fewest 176 = .ok (.bipush 100, 2) := by decide +kernel
theorem dX9_fewest_178 : decode cX9_fewest 178 = .ok (.if_icmp .ge 88, 3) := by decide +kernel
theorem dX9_fewest_181 : decode cX9_fewest 181 = .ok (.iload 5, 2) := by decide +kernel
theorem dX9_fewest_183 : decode cX9_fewest 183 = .ok (.iconst 1, 1) := by decide +kernel
theorem dX9_fewest_184 : decode cX9_fewest 184 = .ok (.iadd, 1) := by decide +kernel
theorem dX9_fewest_185 : decode cX9_fewest 185 = .ok (.istore 6, 2) := by decide +kernel
theorem dX9_fewest_187 : decode cX9_fewest 187 = .ok (.iload 6, 2) := by decide +kernel
theorem dX9_fewest_189 : decode cX9_fewest 189 = .ok (.bipush 100, 2) := by decide +kernel
theorem dX9_fewest_191 : decode cX9_fewest 191 = .ok (.if_icmp .ge 69, 3) := by decide +kernel
theorem dX9_fewest_194 : decode cX9_fewest 194 = .ok (.iload 6, 2) := by decide +kernel
theorem dX9_fewest_196 : decode cX9_fewest 196 = .ok (.iconst 1, 1) := by decide +kernel
theorem dX9_fewest_197 : decode cX9_fewest 197 = .ok (.iadd, 1) := by decide +kernel
theorem dX9_fewest_198 : decode cX9_fewest 198 = .ok (.istore 7, 2) := by decide +kernel
theorem dX9_fewest_200 : decode cX9_fewest 200 = .ok (.iload 7, 2) := by decide +kernel
theorem dX9_fewest_202 : decode cX9_fewest 202 = .ok (.bipush 100, 2) := by decide +kernel
theorem dX9_fewest_204 : decode cX9_fewest 204 = .ok (.if_icmp .ge 50, 3) := by decide +kernel
theorem dX9_fewest_207 : decode cX9_fewest 207 = .ok (.aload_n 0, 1) := by decide +kernel
theorem dX9_fewest_208 : decode cX9_fewest 208 = .ok (.getfield 43, 3) := by decide +kernel
theorem dX9_fewest_211 : decode cX9_fewest 211 = .ok (.iload 5, 2) := by decide +kernel
theorem dX9_fewest_213 : decode cX9_fewest 213 = .ok (.iaload, 1) := by decide +kernel
theorem dX9_fewest_214 : decode cX9_fewest 214 = .ok (.aload_n 0, 1) := by decide +kernel
theorem dX9_fewest_215 : decode cX9_fewest 215 = .ok (.getfield 43, 3) := by decide +kernel
theorem dX9_fewest_218 : decode cX9_fewest 218 = .ok (.iload 6, 2) := by decide +kernel
theorem dX9_fewest_220 : decode cX9_fewest 220 = .ok (.iaload, 1) := by decide +kernel
theorem dX9_fewest_221 : decode cX9_fewest 221 = .ok (.ior, 1) := by decide +kernel
theorem dX9_fewest_222 : decode cX9_fewest 222 = .ok (.aload_n 0, 1) := by decide +kernel
theorem dX9_fewest_223 : decode cX9_fewest 223 = .ok (.getfield 43, 3) := by decide +kernel
theorem dX9_fewest_226 : decode cX9_fewest 226 = .ok (.iload 7, 2) := by decide +kernel
theorem dX9_fewest_228 : decode cX9_fewest 228 = .ok (.iaload, 1) := by decide +kernel
theorem dX9_fewest_229 : decode cX9_fewest 229 = .ok (.ior, 1) := by decide +kernel
theorem dX9_fewest_230 : decode cX9_fewest 230 = .ok (.iload 4, 2) := by decide +kernel
theorem dX9_fewest_232 : decode cX9_fewest 232 = .ok (.if_icmp .ne 16, 3) := by decide +kernel
theorem dX9_fewest_235 : decode cX9_fewest 235 = .ok (.aload_n 0, 1) := by decide +kernel
theorem dX9_fewest_236 : decode cX9_fewest 236 = .ok (.iconst 3, 1) := by decide +kernel
theorem dX9_fewest_237 : decode cX9_fewest 237 = .ok (.iload_n 2, 1) := by decide +kernel
theorem dX9_fewest_238 : decode cX9_fewest 238 = .ok (.iload 5, 2) := by decide +kernel
theorem dX9_fewest_240 : decode cX9_fewest 240 = .ok (.iload 6, 2) := by decide +kernel
theorem dX9_fewest_242 : decode cX9_fewest 242 = .ok (.iload 7, 2) := by decide +kernel
theorem dX9_fewest_244 : decode cX9_fewest 244 = .ok (.invokevirtual 214, 3) := by decide +kernel
theorem dX9_fewest_247 : decode cX9_fewest 247 = .ok (.ireturn, 1) := by decide +kernel
theorem dX9_fewest_248 : decode cX9_fewest 248 = .ok (.iinc 7 1, 3) := by decide +kernel
theorem dX9_fewest_251 : decode cX9_fewest 251 = .ok (.goto (-51), 3) := by decide +kernel
theorem dX9_fewest_254 : decode cX9_fewest 254 = .ok (.iinc 6 1, 3) := by decide +kernel
theorem dX9_fewest_257 : decode cX9_fewest 257 = .ok (.goto (-70), 3) := by decide +kernel
theorem dX9_fewest_260 : decode cX9_fewest 260 = .ok (.iinc 5 1, 3) := by decide +kernel
theorem dX9_fewest_263 : decode cX9_fewest 263 = .ok (.goto (-89), 3) := by decide +kernel
theorem dX9_fewest_266 : decode cX9_fewest 266 = .ok (.aload_n 0, 1) := by decide +kernel
theorem dX9_fewest_267 : decode cX9_fewest 267 = .ok (.ldc 198, 2) := by decide +kernel
theorem dX9_fewest_269 : decode cX9_fewest 269 = .ok (.invokevirtual 79, 3) := by decide +kernel
theorem dX9_fewest_272 : decode cX9_fewest 272 = .ok (.ireturn, 1) := by decide +kernel
set_option maxRecDepth 20000 in
theorem ggX9_isContentBy_X9_isWord : GoodIn wsX9_isContentBy wsX9_isWord := goodIn_r _ [6, 7, 8, 5, 9] (by decide +kernel) (by decide +kernel)
set_option maxRecDepth 20000 in
theorem gX9_isContentBy_X9_isWord : GoodIn wsX9_isContentBy (va_wsS RX9 106 yX9_isWord wsX9_isWord) := goodIn_app (goodIn_of _ (by decide +kernel)) ggX9_isContentBy_X9_isWord
set_option maxRecDepth 20000 in
theorem ggX9_isContentBy_X9_isContent : GoodIn wsX9_isContentBy wsX9_isContent := goodIn_r _ [13, 14, 15, 16, 5, 17, 18, 19, 20, 21, 22, 23, 24, 25, 26, 27, 28, 29, 30, 31, 32, 33, 34, 35, 36, 37, 38, 39, 40, 41, 42, 43, 44, 45, 46, 47, 48, 49, 50, 51, 52, 53, 54, 55, 56, 57, 58, 59] (by decide +kernel) (by decide +kernel)
set_option maxRecDepth 20000 in
theorem gX9_isContentBy_X9_isContent : GoodIn wsX9_isContentBy (wsV RX9 109 RX9 yX9_isContent wsX9_isContent) := goodIn_app (goodIn_of _ (by decide +kernel)) ggX9_isContentBy_X9_isContent
theorem dX9_isContentBy_0 : decode cX9_isContentBy 0 = .ok (.iconst 0, 1) := by decide +kernel
theorem dX9_isContentBy_1 : decode cX9_isContentBy 1 = .ok (.istore_n 3, 1) := by decide +kernel
theorem dX9_isContentBy_2 : decode cX9_isContentBy 2 = .ok (.iload_n 3, 1) := by decide +kernel
theorem dX9_isContentBy_3 : decode cX9_isContentBy 3 = .ok (.aload_n 0, 1) := by decide +kernel
theorem dX9_isContentBy_4 : decode cX9_isContentBy 4 = .ok (.getfield 25, 3) := by decide +kernel
theorem dX9_isContentBy_7 : decode cX9_isContentBy 7 = .ok (.iload_n 2, 1) := by decide +kernel
theorem dX9_isContentBy_8 : decode cX9_isContentBy 8 = .ok (.iaload, 1) := by decide +kernel
theorem dX9_isContentBy_9 : decode cX9_isContentBy 9 = .ok (.if_icmp .ge 42, 3) := by decide +kernel
theorem dX9_isContentBy_12 : decode cX9_isContentBy 12 = .ok (.aload_n 0, 1) := by decide +kernel
theorem dX9_isContentBy_13 : decode cX9_isContentBy 13 = .ok (.getfield 28, 3) := by decide +kernel
theorem dX9_isContentBy_16 : decode cX9_isContentBy 16 = .ok (.bipush 24, 2) := by decide +kernel
theorem dX9_isContentBy_18 : decode cX9_isContentBy 18 = .ok (.iload_n 2, 1) := by decide +kernel
theorem dX9_isContentBy_19 : decode cX9_isContentBy 19 = .ok (.imul, 1) := by decide +kernel
theorem dX9_isContentBy_20 : decode cX9_isContentBy 20 = .ok (.iload_n 3, 1) := by decide +kernel
theorem dX9_isContentBy_21 : decode cX9_isContentBy 21 = .ok (.iadd, 1) := by decide +kernel
theorem dX9_isContentBy_22 : decode cX9_isContentBy 22 = .ok (.iaload, 1) := by decide +kernel
theorem dX9_isContentBy_23 : decode cX9_isContentBy 23 = .ok (.istore 4, 2) := by decide +kernel
theorem dX9_isContentBy_25 : decode cX9_isContentBy 25 = .ok (.iload 4, 2) := by decide +kernel
theorem dX9_isContentBy_27 : decode cX9_isContentBy 27 = .ok (.invokestatic 106, 3) := by decide +kernel
theorem dX9_isContentBy_30 : decode cX9_isContentBy 30 = .ok (.ifCond .eq 15, 3) := by decide +kernel
theorem dX9_isContentBy_33 : decode cX9_isContentBy 33 = .ok (.aload_n 0, 1) := by decide +kernel
theorem dX9_isContentBy_34 : decode cX9_isContentBy 34 = .ok (.iload_n 1, 1) := by decide +kernel
theorem dX9_isContentBy_35 : decode cX9_isContentBy 35 = .ok (.iload 4, 2) := by decide +kernel
theorem dX9_isContentBy_37 : decode cX9_isContentBy 37 = .ok (.invokevirtual 109, 3) := by decide +kernel
theorem dX9_isContentBy_40 : decode cX9_isContentBy 40 = .ok (.ifCond .eq 5, 3) := by decide +kernel
theorem dX9_isContentBy_43 : decode cX9_isContentBy 43 = .ok (.iconst 1, 1) := by decide +kernel
theorem dX9_isContentBy_44 : decode cX9_isContentBy 44 = .ok (.ireturn, 1) := by decide +kernel
theorem dX9_isContentBy_45 : decode cX9_isContentBy 45 = .ok (.iinc 3 1, 3) := by decide +kernel
theorem dX9_isContentBy_48 : decode cX9_isContentBy 48 = .ok (.goto (-46), 3) := by decide +kernel
theorem dX9_isContentBy_51 : decode cX9_isContentBy 51 = .ok (.iconst 0, 1) := by decide +kernel
theorem dX9_isContentBy_52 : decode cX9_isContentBy 52 = .ok (.ireturn, 1) := by decide +kernel
set_option maxRecDepth 20000 in
theorem ggX9_cheapest_X9_isPerson : GoodIn wsX9_cheapest wsX9_isPerson := goodIn_r _ [9, 4, 10, 11, 8, 12, 71, 72, 73, 74, 75, 76, 77, 78, 79, 80, 81, 82, 83, 84, 85, 86, 87, 88, 89, 90, 91] (by decide +kernel) (by decide +kernel)
set_option maxRecDepth 20000 in
theorem gX9_cheapest_X9_isPerson : GoodIn wsX9_cheapest (wsV RX9 100 RX9 yX9_isPerson wsX9_isPerson) := goodIn_app (goodIn_of _ (by decide +kernel)) ggX9_cheapest_X9_isPerson
set_option maxRecDepth 20000 in
theorem ggX9_cheapest_X9_isSheet : GoodIn wsX9_cheapest wsX9_isSheet := goodIn_r _ [15, 10, 11, 8, 12] (by decide +kernel) (by decide +kernel)
set_option maxRecDepth 20000 in
theorem gX9_cheapest_X9_isSheet : GoodIn wsX9_cheapest (va_wsS RX9 199 yX9_isSheet wsX9_isSheet) := goodIn_app (goodIn_of _ (by decide +kernel)) ggX9_cheapest_X9_isSheet
set_option maxRecDepth 20000 in
theorem ggX9_cheapest_X9_in : GoodIn wsX9_cheapest wsX9_in := goodIn_r _ [12] (by decide +kernel) (by decide +kernel)
set_option maxRecDepth 20000 in
theorem gX9_cheapest_X9_in : GoodIn wsX9_cheapest (va_wsS RX9 54 yX9_in wsX9_in) := goodIn_app (goodIn_of _ (by decide +kernel)) ggX9_cheapest_X9_in
set_option maxRecDepth 20000 in
theorem ggX9_cheapest_X9_error : GoodIn wsX9_cheapest wsX9_error := goodIn_r _ [19, 20, 21, 71, 72, 73, 74, 75, 76, 77, 78, 79, 80, 81, 82, 83, 84, 85, 86, 87, 88, 89, 90, 91] (by decide +kernel) (by decide +kernel)
set_option maxRecDepth 20000 in
theorem gX9_cheapest_X9_error : GoodIn wsX9_cheapest (wsV RX9 79 RX9 yX9_error wsX9_error) := goodIn_app (goodIn_of _ (by decide +kernel)) ggX9_cheapest_X9_error
set_option maxRecDepth 20000 in
theorem ggX9_cheapest_X9_about : GoodIn wsX9_cheapest wsX9_about := goodIn_r _ [25, 4, 71, 72, 73, 74, 75, 76, 77, 78, 79, 80, 81, 82, 83, 84, 85, 86, 87, 88, 89, 90, 91] (by decide +kernel) (by decide +kernel)
set_option maxRecDepth 20000 in
theorem gX9_cheapest_X9_about : GoodIn wsX9_cheapest (wsV RX9 97 RX9 yX9_about wsX9_about) := goodIn_app (goodIn_of _ (by decide +kernel)) ggX9_cheapest_X9_about
set_option maxRecDepth 20000 in
theorem ggX9_cheapest_X9_isContentBy : GoodIn wsX9_cheapest wsX9_isContentBy := goodIn_r _ [29, 30, 31, 32, 33, 8, 34, 10, 11, 12, 35, 36, 37, 38, 39, 40, 41, 42, 4, 43, 44, 45, 46, 47, 48, 49, 50, 51, 52, 53, 54, 55, 56, 57, 58, 59, 60, 61, 62, 71, 72, 73, 74, 75, 76, 77, 78, 79, 80, 81, 82, 83, 84, 85, 86, 87, 88, 89, 90, 91] (by decide +kernel) (by decide +kernel)
set_option maxRecDepth 20000 in
theorem gX9_cheapest_X9_isContentBy : GoodIn wsX9_cheapest (wsV RX9 218 RX9 yX9_isContentBy wsX9_isContentBy) := goodIn_app (goodIn_of _ (by decide +kernel)) ggX9_cheapest_X9_isContentBy
set_option maxRecDepth 20000 in
theorem ggX9_cheapest_X9_bribeOf : GoodIn wsX9_cheapest wsX9_bribeOf := goodIn_r _ [66, 67, 68, 69, 8, 70, 43, 44, 45, 46, 4, 47, 48, 49, 50, 51, 52, 53, 54, 55, 56, 57, 58, 59, 60, 61, 62, 71, 72, 73, 74, 75, 76, 77, 78, 79, 80, 81, 82, 83, 84, 85, 86, 87, 88, 89, 90, 91] (by decide +kernel) (by decide +kernel)
set_option maxRecDepth 20000 in
theorem gX9_cheapest_X9_bribeOf : GoodIn wsX9_cheapest (wsV RX9 86 RX9 yX9_bribeOf wsX9_bribeOf) := goodIn_app (goodIn_of _ (by decide +kernel)) ggX9_cheapest_X9_bribeOf
theorem dX9_cheapest_0 : decode cX9_cheapest 0 = .ok (.aload_n 0, 1) := by decide +kernel
theorem dX9_cheapest_1 : decode cX9_cheapest 1 = .ok (.iload_n 1, 1) := by decide +kernel
theorem dX9_cheapest_2 : decode cX9_cheapest 2 = .ok (.invokevirtual 100, 3) := by decide +kernel
theorem dX9_cheapest_5 : decode cX9_cheapest 5 = .ok (.ifCond .eq 19, 3) := by decide +kernel
theorem dX9_cheapest_8 : decode cX9_cheapest 8 = .ok (.iload_n 2, 1) := by decide +kernel
theorem dX9_cheapest_9 : decode cX9_cheapest 9 = .ok (.invokestatic 199, 3) := by decide +kernel
theorem dX9_cheapest_12 : decode cX9_cheapest 12 = .ok (.ifCond .eq 12, 3) := by decide +kernel
theorem dX9_cheapest_15 : decode cX9_cheapest 15 = .ok (.iload_n 3, 1) := by decide +kernel
theorem dX9_cheapest_16 : decode cX9_cheapest 16 = .ok (.iconst 0, 1) := by decide +kernel
theorem dX9_cheapest_17 : decode cX9_cheapest 17 = .ok (.iconst 1, 1) := by decide +kernel
theorem dX9_cheapest_18 : decode cX9_cheapest 18 = .ok (.invokestatic 54, 3) := by decide +kernel
theorem dX9_cheapest_21 : decode cX9_cheapest 21 = .ok (.ifCond .ne 10, 3) := by decide +kernel
theorem dX9_cheapest_24 : decode cX9_cheapest 24 = .ok (.aload_n 0, 1) := by decide +kernel
theorem dX9_cheapest_25 : decode cX9_cheapest 25 = .ok (.ldc 78, 2) := by decide +kernel
theorem dX9_cheapest_27 : decode cX9_cheapest 27 = .ok (.invokevirtual 79, 3) := by decide +kernel
theorem dX9_cheapest_30 : decode cX9_cheapest 30 = .ok (.ireturn, 1) := by decide +kernel
theorem dX9_cheapest_31 : decode cX9_cheapest 31 = .ok (.aload_n 0, 1) := by decide +kernel
theorem dX9_cheapest_32 : decode cX9_cheapest 32 = .ok (.getfield 22, 3) := by decide +kernel
theorem dX9_cheapest_35 : decode cX9_cheapest 35 = .ok (.iload_n 2, 1) := by decide +kernel
theorem dX9_cheapest_36 : decode cX9_cheapest 36 = .ok (.iaload, 1) := by decide +kernel
theorem dX9_cheapest_37 : decode cX9_cheapest 37 = .ok (.ifCond .ne 10, 3) := by decide +kernel
theorem dX9_cheapest_40 : decode cX9_cheapest 40 = .ok (.aload_n 0, 1) := by decide +kernel
theorem dX9_cheapest_41 : decode cX9_cheapest 41 = .ok (.ldc 198, 2) := by decide +kernel
theorem dX9_cheapest_43 : decode cX9_cheapest 43 = .ok (.invokevirtual 79, 3) := by decide +kernel
theorem dX9_cheapest_46 : decode cX9_cheapest 46 = .ok (.ireturn, 1) := by decide +kernel
theorem dX9_cheapest_47 : decode cX9_cheapest 47 = .ok (.iconst 0, 1) := by decide +kernel
theorem dX9_cheapest_48 : decode cX9_cheapest 48 = .ok (.istore 4, 2) := by decide +kernel
theorem dX9_cheapest_50 : decode cX9_cheapest 50 = .ok (.iconst 0, 1) := by decide +kernel
theorem dX9_cheapest_51 : decode cX9_cheapest 51 = .ok (.istore 5, 2) := by decide +kernel
theorem dX9_cheapest_53 : decode cX9_cheapest 53 = .ok (.aload_n 0, 1) := by decide +kernel
theorem dX9_cheapest_54 : decode cX9_cheapest 54 = .ok (.iload_n 1, 1) := by decide +kernel
theorem dX9_cheapest_55 : decode cX9_cheapest 55 = .ok (.iconst 0, 1) := by decide +kernel
theorem dX9_cheapest_56 : decode cX9_cheapest 56 = .ok (.invokevirtual 97, 3) := by decide +kernel
theorem dX9_cheapest_59 : decode cX9_cheapest 59 = .ok (.istore 6, 2) := by decide +kernel
theorem dX9_cheapest_61 : decode cX9_cheapest 61 = .ok (.iload 6, 2) := by decide +kernel
theorem dX9_cheapest_63 : decode cX9_cheapest 63 = .ok (.aload_n 0, 1) := by decide +kernel
theorem dX9_cheapest_64 : decode cX9_cheapest 64 = .ok (.getfield 9, 3) := by decide +kernel
theorem dX9_cheapest_67 : decode cX9_cheapest 67 = .ok (.iconst 2, 1) := by decide +kernel
theorem dX9_cheapest_68 : decode cX9_cheapest 68 = .ok (.iaload, 1) := by decide +kernel
theorem dX9_cheapest_69 : decode cX9_cheapest 69 = .ok (.if_icmp .ge 39, 3) := by decide +kernel
theorem dX9_cheapest_72 : decode cX9_cheapest 72 = .ok (.aload_n 0, 1) := by decide +kernel
theorem dX9_cheapest_73 : decode cX9_cheapest 73 = .ok (.iload 6, 2) := by decide +kernel
theorem dX9_cheapest_75 : decode cX9_cheapest 75 = .ok (.iload_n 2, 1) := by decide +kernel
theorem dX9_cheapest_76 : decode cX9_cheapest 76 = .ok (.invokevirtual 218, 3) := by decide +kernel
theorem dX9_cheapest_79 : decode cX9_cheapest 79 = .ok (.ifCond .ne 23, 3) := by decide +kernel
theorem dX9_cheapest_82 : decode cX9_cheapest 82 = .ok (.iload 4, 2) := by decide +kernel
theorem dX9_cheapest_84 : decode cX9_cheapest 84 = .ok (.aload_n 0, 1) := by decide +kernel
theorem dX9_cheapest_85 : decode cX9_cheapest 85 = .ok (.iload 6, 2) := by decide +kernel
theorem dX9_cheapest_87 : decode cX9_cheapest 87 = .ok (.invokevirtual 86, 3) := by decide +kernel
theorem dX9_cheapest_90 : decode cX9_cheapest 90 = .ok (.iadd, 1) := by decide +kernel
theorem dX9_cheapest_91 : decode cX9_cheapest 91 = .ok (.istore 4, 2) := by decide +kernel
theorem dX9_cheapest_93 : decode cX9_cheapest 93 = .ok (.iload 5, 2) := by decide +kernel
theorem dX9_cheapest_95 : decode cX9_cheapest 95 = .ok (.iconst 1, 1) := by decide +kernel
theorem dX9_cheapest_96 : decode cX9_cheapest 96 = .ok (.iload 6, 2) := by decide +kernel
theorem dX9_cheapest_98 : decode cX9_cheapest 98 = .ok (.ishl, 1) := by decide +kernel
theorem dX9_cheapest_99 : decode cX9_cheapest 99 = .ok (.ior, 1) := by decide +kernel
theorem dX9_cheapest_100 : decode cX9_cheapest 100 = .ok (.istore 5, 2) := by decide +kernel
theorem dX9_cheapest_102 : decode cX9_cheapest 102 = .ok (.iinc 6 1, 3) := by decide +kernel
theorem dX9_cheapest_105 : decode cX9_cheapest 105 = .ok (.goto (-44), 3) := by decide +kernel
theorem dX9_cheapest_108 : decode cX9_cheapest 108 = .ok (.iload_n 3, 1) := by decide +kernel
theorem dX9_cheapest_109 : decode cX9_cheapest 109 = .ok (.ifCond .ne 8, 3) := by decide +kernel
theorem dX9_cheapest_112 : decode cX9_cheapest 112 = .ok (.iload 4, 2) := by decide +kernel
theorem dX9_cheapest_114 : decode cX9_cheapest 114 = .ok (.goto 5, 3) := by decide +kernel
theorem dX9_cheapest_117 : decode cX9_cheapest 117 = .ok (.iload 5, 2) := by decide +kernel
theorem dX9_cheapest_119 : decode cX9_cheapest 119 = .ok (.ireturn, 1) := by decide +kernel
set_option maxRecDepth 20000 in
theorem ggX9_odds_X9_isPerson : GoodIn wsX9_odds wsX9_isPerson := goodIn_r _ [8, 2, 9, 10, 7, 11, 54, 55, 56, 57, 58, 59, 60, 61, 62, 63, 64, 65, 66, 67, 68, 69, 70, 71, 72, 73, 74] (by decide +kernel) (by decide +kernel)
set_option maxRecDepth 20000 in
theorem gX9_odds_X9_isPerson : GoodIn wsX9_odds (wsV RX9 100 RX9 yX9_isPerson wsX9_isPerson) := goodIn_app (goodIn_of _ (by decide +kernel)) ggX9_odds_X9_isPerson
set_option maxRecDepth 20000 in
theorem ggX9_odds_X9_in : GoodIn wsX9_odds wsX9_in := goodIn_r _ [11] (by decide +kernel) (by decide +kernel)
set_option maxRecDepth 20000 in
theorem gX9_odds_X9_in : GoodIn wsX9_odds (va_wsS RX9 54 yX9_in wsX9_in) := goodIn_app (goodIn_of _ (by decide +kernel)) ggX9_odds_X9_in
set_option maxRecDepth 20000 in
theorem ggX9_odds_X9_error : GoodIn wsX9_odds wsX9_error := goodIn_r _ [15, 16, 17, 54, 55, 56, 57, 58, 59, 60, 61, 62, 63, 64, 65, 66, 67, 68, 69, 70, 71, 72, 73, 74] (by decide +kernel) (by decide +kernel)
set_option maxRecDepth 20000 in
theorem gX9_odds_X9_error : GoodIn wsX9_odds (wsV RX9 79 RX9 yX9_error wsX9_error) := goodIn_app (goodIn_of _ (by decide +kernel)) ggX9_odds_X9_error
set_option maxRecDepth 20000 in
theorem ggX9_odds_X9_about : GoodIn wsX9_odds wsX9_about := goodIn_r _ [21, 2, 54, 55, 56, 57, 58, 59, 60, 61, 62, 63, 64, 65, 66, 67, 68, 69, 70, 71, 72, 73, 74] (by decide +kernel) (by decide +kernel)
set_option maxRecDepth 20000 in
theorem gX9_odds_X9_about : GoodIn wsX9_odds (wsV RX9 97 RX9 yX9_about wsX9_about) := goodIn_app (goodIn_of _ (by decide +kernel)) ggX9_odds_X9_about
set_option maxRecDepth 20000 in
theorem ggX9_odds_X9_wordsOf : GoodIn wsX9_odds wsX9_wordsOf := goodIn_r _ [25, 26, 27, 28, 7, 29, 30, 31, 32, 33, 2, 34, 35, 36, 37, 38, 39, 40, 41, 42, 43, 44, 45, 46, 47, 48, 49, 50, 51, 52, 53, 54, 55, 56, 57, 58, 59, 60, 61, 62, 63, 64, 65, 66, 67, 68, 69, 70, 71, 72, 73, 74] (by decide +kernel) (by decide +kernel)
set_option maxRecDepth 20000 in
theorem gX9_odds_X9_wordsOf : GoodIn wsX9_odds (wsV RX9 195 RX9 yX9_wordsOf wsX9_wordsOf) := goodIn_app (goodIn_of _ (by decide +kernel)) ggX9_odds_X9_wordsOf
theorem dX9_odds_0 : decode cX9_odds 0 = .ok (.aload_n 0, 1) := by decide +kernel
theorem dX9_odds_1 : decode cX9_odds 1 = .ok (.iload_n 1, 1) := by decide +kernel
theorem dX9_odds_2 : decode cX9_odds 2 = .ok (.invokevirtual 100, 3) := by decide +kernel
theorem dX9_odds_5 : decode cX9_odds 5 = .ok (.ifCond .eq 21, 3) := by decide +kernel
theorem dX9_odds_8 : decode cX9_odds 8 = .ok (.iload_n 2, 1) := by decide +kernel
theorem dX9_odds_9 : decode cX9_odds 9 = .ok (.iconst 0, 1) := by decide +kernel
theorem dX9_odds_10 : decode cX9_odds 10 = .ok (.iconst 4, 1) := by decide +kernel
theorem dX9_odds_11 : decode cX9_odds 11 = .ok (.invokestatic 54, 3) := by decide +kernel
theorem dX9_odds_14 : decode cX9_odds 14 = .ok (.ifCond .eq 12, 3) := by decide +kernel
theorem dX9_odds_17 : decode cX9_odds 17 = .ok (.iload_n 3, 1) := by decide +kernel
theorem dX9_odds_18 : decode cX9_odds 18 = .ok (.iconst 0, 1) := by decide +kernel
theorem dX9_odds_19 : decode cX9_odds 19 = .ok (.iconst 1, 1) := by decide +kernel
theorem dX9_odds_20 : decode cX9_odds 20 = .ok (.invokestatic 54, 3) := by decide +kernel
theorem dX9_odds_23 : decode cX9_odds 23 = .ok (.ifCond .ne 11, 3) := by decide +kernel
theorem dX9_odds_26 : decode cX9_odds 26 = .ok (.aload_n 0, 1) := by decide +kernel
theorem dX9_odds_27 : decode cX9_odds 27 = .ok (.ldc 78, 2) := by decide +kernel
theorem dX9_odds_29 : decode cX9_odds 29 = .ok (.invokevirtual 79, 3) := by decide +kernel
theorem dX9_odds_32 : decode cX9_odds 32 = .ok (.i2l, 1) := by decide +kernel
theorem dX9_odds_33 : decode cX9_odds 33 = .ok (.lreturn, 1) := by decide +kernel
theorem dX9_odds_34 : decode cX9_odds 34 = .ok (.lconst 1, 1) := by decide +kernel
theorem dX9_odds_35 : decode cX9_odds 35 = .ok (.lstore 4, 2) := by decide +kernel
theorem dX9_odds_37 : decode cX9_odds 37 = .ok (.lconst 1, 1) := by decide +kernel
theorem dX9_odds_38 : decode cX9_odds 38 = .ok (.lstore 6, 2) := by decide +kernel
theorem dX9_odds_40 : decode cX9_odds 40 = .ok (.aload_n 0, 1) := by decide +kernel
theorem dX9_odds_41 : decode cX9_odds 41 = .ok (.iload_n 1, 1) := by decide +kernel
theorem dX9_odds_42 : decode cX9_odds 42 = .ok (.iconst 0, 1) := by decide +kernel
theorem dX9_odds_43 : decode cX9_odds 43 = .ok (.invokevirtual 97, 3) := by decide +kernel
theorem dX9_odds_46 : decode cX9_odds 46 = .ok (.istore 8, 2) := by decide +kernel
theorem dX9_odds_48 : decode cX9_odds 48 = .ok (.iload 8, 2) := by decide +kernel
theorem dX9_odds_50 : decode cX9_odds 50 = .ok (.istore 9, 2) := by decide +kernel
theorem dX9_odds_52 : decode cX9_odds 52 = .ok (.iload 9, 2) := by decide +kernel
theorem dX9_odds_54 : decode cX9_odds 54 = .ok (.iload 8, 2) := by decide +kernel
theorem dX9_odds_56 : decode cX9_odds 56 = .ok (.iload_n 2, 1) := by decide +kernel
theorem dX9_odds_57 : decode cX9_odds 57 = .ok (.iadd, 1) := by decide +kernel
theorem dX9_odds_58 : decode cX9_odds 58 = .ok (.if_icmp .ge 40, 3) := by decide +kernel
theorem dX9_odds_61 : decode cX9_odds 61 = .ok (.iload 9, 2) := by decide +kernel
theorem dX9_odds_63 : decode cX9_odds 63 = .ok (.aload_n 0, 1) := by decide +kernel
theorem dX9_odds_64 : decode cX9_odds 64 = .ok (.getfield 9, 3) := by decide +kernel
theorem dX9_odds_67 : decode cX9_odds 67 = .ok (.iconst 2, 1) := by decide +kernel
theorem dX9_odds_68 : decode cX9_odds 68 = .ok (.iaload, 1) := by decide +kernel
theorem dX9_odds_69 : decode cX9_odds 69 = .ok (.if_icmp .ge 29, 3) := by decide +kernel
theorem dX9_odds_72 : decode cX9_odds 72 = .ok (.lload 4, 2) := by decide +kernel
theorem dX9_odds_74 : decode cX9_odds 74 = .ok (.aload_n 0, 1) := by decide +kernel
theorem dX9_odds_75 : decode cX9_odds 75 = .ok (.iload 9, 2) := by decide +kernel
theorem dX9_odds_77 : decode cX9_odds 77 = .ok (.invokevirtual 195, 3) := by decide +kernel
theorem dX9_odds_80 : decode cX9_odds 80 = .ok (.i2l, 1) := by decide +kernel
theorem dX9_odds_81 : decode cX9_odds 81 = .ok (.lmul, 1) := by decide +kernel
theorem dX9_odds_82 : decode cX9_odds 82 = .ok (.lstore 4, 2) := by decide +kernel
theorem dX9_odds_84 : decode cX9_odds 84 = .ok (.lload 6, 2) := by decide +kernel
theorem dX9_odds_86 : decode cX9_odds 86 = .ok (.ldc2_w 221, 3) := by decide +kernel
theorem dX9_odds_89 : decode cX9_odds 89 = .ok (.lmul, 1) := by decide +kernel
theorem dX9_odds_90 : decode cX9_odds 90 = .ok (.lstore 6, 2) := by decide +kernel
theorem dX9_odds_92 : decode cX9_odds 92 = .ok (.iinc 9 1, 3) := by decide +kernel
theorem dX9_odds_95 : decode cX9_odds 95 = .ok (.goto (-43), 3) := by decide +kernel
theorem dX9_odds_98 : decode cX9_odds 98 = .ok (.lload 4, 2) := by decide +kernel
theorem dX9_odds_100 : decode cX9_odds 100 = .ok (.lstore 9, 2) := by decide +kernel
theorem dX9_odds_102 : decode cX9_odds 102 = .ok (.lload 6, 2) := by decide +kernel
theorem dX9_odds_104 : decode cX9_odds 104 = .ok (.lstore 11, 2) := by decide +kernel
theorem dX9_odds_106 : decode cX9_odds 106 = .ok (.lload 9, 2) := by decide +kernel
theorem dX9_odds_108 : decode cX9_odds 108 = .ok (.lconst 0, 1) := by decide +kernel
theorem dX9_odds_109 : decode cX9_odds 109 = .ok (.lcmp, 1) := by decide +kernel
theorem dX9_odds_110 : decode cX9_odds 110 = .ok (.ifCond .eq 21, 3) := by decide +kernel
theorem dX9_odds_113 : decode cX9_odds 113 = .ok (.lload 11, 2) := by decide +kernel
theorem dX9_odds_115 : decode cX9_odds 115 = .ok (.lload 9, 2) := by decide +kernel
theorem dX9_odds_117 : decode cX9_odds 117 = .ok (.lrem, 1) := by decide +kernel
theorem dX9_odds_118 : decode cX9_odds 118 = .ok (.lstore 13, 2) := by decide +kernel
theorem dX9_odds_120 : decode cX9_odds 120 = .ok (.lload 9, 2) := by decide +kernel
theorem dX9_odds_122 : decode cX9_odds 122 = .ok (.lstore 11, 2) := by decide +kernel
theorem dX9_odds_124 : decode cX9_odds 124 = .ok (.lload 13, 2) := by decide +kernel
theorem dX9_odds_126 : decode cX9_odds 126 = .ok (.lstore 9, 2) := by decide +kernel
theorem dX9_odds_128 : decode cX9_odds 128 = .ok (.goto (-22), 3) := by decide +kernel
theorem dX9_odds_131 : decode cX9_odds 131 = .ok (.iload_n 3, 1) := by decide +kernel
theorem dX9_odds_132 : decode cX9_odds 132 = .ok (.ifCond .ne 11, 3) := by decide +kernel
theorem dX9_odds_135 : decode cX9_odds 135 = .ok (.lload 4, 2) := by decide +kernel
theorem dX9_odds_137 : decode cX9_odds 137 = .ok (.lload 11, 2) := by decide +kernel
theorem dX9_odds_139 : decode cX9_odds 139 = .ok (.ldiv, 1) := by decide +kernel
theorem dX9_odds_140 : decode cX9_odds 140 = .ok (.goto 8, 3) := by decide +kernel
theorem dX9_odds_143 : decode cX9_odds 143 = .ok (.lload 6, 2) := by decide +kernel
theorem dX9_odds_145 : decode cX9_odds 145 = .ok (.lload 11, 2) := by decide +kernel
theorem dX9_odds_147 : decode cX9_odds 147 = .ok (.ldiv, 1) := by decide +kernel
theorem dX9_odds_148 : decode cX9_odds 148 = .ok (.lreturn, 1) := by decide +kernel
set_option maxRecDepth 20000 in
theorem ggX9_isSo_X9_isContent : GoodIn wsX9_isSo wsX9_isContent := goodIn_r _ [8, 9, 10, 11, 7, 12, 2, 13, 14, 15, 16, 17, 18, 19, 20, 21, 22, 23, 24, 25, 26, 27, 28, 29, 30, 31, 32, 33, 34, 35, 36, 37, 38, 39, 40, 41, 42, 43, 44, 45, 46, 47, 48, 49, 50, 51, 52, 53] (by decide +kernel) (by decide +kernel)
set_option maxRecDepth 20000 in
theorem gX9_isSo_X9_isContent : GoodIn wsX9_isSo (wsV RX9 109 RX9 yX9_isContent wsX9_isContent) := goodIn_app (goodIn_of _ (by decide +kernel)) ggX9_isSo_X9_isContent
theorem dX9_isSo_0 : decode cX9_isSo 0 = .ok (.aload_n 0, 1) := by decide +kernel
theorem dX9_isSo_1 : decode cX9_isSo 1 = .ok (.getfield 25, 3) := by decide +kernel
theorem dX9_isSo_4 : decode cX9_isSo 4 = .ok (.iload_n 1, 1) := by decide +kernel
theorem dX9_isSo_5 : decode cX9_isSo 5 = .ok (.iaload, 1) := by decide +kernel
theorem dX9_isSo_6 : decode cX9_isSo 6 = .ok (.aload_n 0, 1) := by decide +kernel
theorem dX9_isSo_7 : decode cX9_isSo 7 = .ok (.getfield 9, 3) := by decide +kernel
theorem dX9_isSo_10 : decode cX9_isSo 10 = .ok (.iconst 2, 1) := by decide +kernel
theorem dX9_isSo_11 : decode cX9_isSo 11 = .ok (.iaload, 1) := by decide +kernel
theorem dX9_isSo_12 : decode cX9_isSo 12 = .ok (.if_icmp .gt 7, 3) := by decide +kernel
theorem dX9_isSo_15 : decode cX9_isSo 15 = .ok (.iconst 1, 1) := by decide +kernel
theorem dX9_isSo_16 : decode cX9_isSo 16 = .ok (.goto 4, 3) := by decide +kernel
theorem dX9_isSo_19 : decode cX9_isSo 19 = .ok (.iconst 0, 1) := by decide +kernel
theorem dX9_isSo_20 : decode cX9_isSo 20 = .ok (.istore_n 3, 1) := by decide +kernel
theorem dX9_isSo_21 : decode cX9_isSo 21 = .ok (.iconst 0, 1) := by decide +kernel
theorem dX9_isSo_22 : decode cX9_isSo 22 = .ok (.istore 4, 2) := by decide +kernel
theorem dX9_isSo_24 : decode cX9_isSo 24 = .ok (.iload 4, 2) := by decide +kernel
theorem dX9_isSo_26 : decode cX9_isSo 26 = .ok (.aload_n 0, 1) := by decide +kernel
theorem dX9_isSo_27 : decode cX9_isSo 27 = .ok (.getfield 25, 3) := by decide +kernel
theorem dX9_isSo_30 : decode cX9_isSo 30 = .ok (.iload_n 1, 1) := by decide +kernel
theorem dX9_isSo_31 : decode cX9_isSo 31 = .ok (.iaload, 1) := by decide +kernel
theorem dX9_isSo_32 : decode cX9_isSo 32 = .ok (.if_icmp .ge 49, 3) := by decide +kernel
theorem dX9_isSo_35 : decode cX9_isSo 35 = .ok (.iload_n 3, 1) := by decide +kernel
theorem dX9_isSo_36 : decode cX9_isSo 36 = .ok (.ifCond .eq 45, 3) := by decide +kernel
theorem dX9_isSo_39 : decode cX9_isSo 39 = .ok (.aload_n 0, 1) := by decide +kernel
theorem dX9_isSo_40 : decode cX9_isSo 40 = .ok (.getfield 28, 3) := by decide +kernel
theorem dX9_isSo_43 : decode cX9_isSo 43 = .ok (.bipush 24, 2) := by decide +kernel
theorem dX9_isSo_45 : decode cX9_isSo 45 = .ok (.iload_n 1, 1) := by decide +kernel
theorem dX9_isSo_46 : decode cX9_isSo 46 = .ok (.imul, 1) := by decide +kernel
theorem dX9_isSo_47 : decode cX9_isSo 47 = .ok (.iload 4, 2) := by decide +kernel
theorem dX9_isSo_49 : decode cX9_isSo 49 = .ok (.iadd, 1) := by decide +kernel
theorem dX9_isSo_50 : decode cX9_isSo 50 = .ok (.iaload, 1) := by decide +kernel
theorem dX9_isSo_51 : decode cX9_isSo 51 = .ok (.aload_n 0, 1) := by decide +kernel
theorem dX9_isSo_52 : decode cX9_isSo 52 = .ok (.iload 4, 2) := by decide +kernel
theorem dX9_isSo_54 : decode cX9_isSo 54 = .ok (.iload_n 2, 1) := by decide +kernel
theorem dX9_isSo_55 : decode cX9_isSo 55 = .ok (.invokevirtual 109, 3) := by decide +kernel
theorem dX9_isSo_58 : decode cX9_isSo 58 = .ok (.ifCond .eq 7, 3) := by decide +kernel
theorem dX9_isSo_61 : decode cX9_isSo 61 = .ok (.iconst 1, 1) := by decide +kernel
theorem dX9_isSo_62 : decode cX9_isSo 62 = .ok (.goto 4, 3) := by decide +kernel
theorem dX9_isSo_65 : decode cX9_isSo 65 = .ok (.iconst 0, 1) := by decide +kernel
theorem dX9_isSo_66 : decode cX9_isSo 66 = .ok (.if_icmp .ne 7, 3) := by decide +kernel
theorem dX9_isSo_69 : decode cX9_isSo 69 = .ok (.iconst 1, 1) := by decide +kernel
theorem dX9_isSo_70 : decode cX9_isSo 70 = .ok (.goto 4, 3) := by decide +kernel
theorem dX9_isSo_73 : decode cX9_isSo 73 = .ok (.iconst 0, 1) := by decide +kernel
theorem dX9_isSo_74 : decode cX9_isSo 74 = .ok (.istore_n 3, 1) := by decide +kernel
theorem dX9_isSo_75 : decode cX9_isSo 75 = .ok (.iinc 4 1, 3) := by decide +kernel
theorem dX9_isSo_78 : decode cX9_isSo 78 = .ok (.goto (-54), 3) := by decide +kernel
theorem dX9_isSo_81 : decode cX9_isSo 81 = .ok (.iload_n 3, 1) := by decide +kernel
theorem dX9_isSo_82 : decode cX9_isSo 82 = .ok (.ireturn, 1) := by decide +kernel
set_option maxRecDepth 20000 in
theorem ggX9_fits_X9_isSheet : GoodIn wsX9_fits wsX9_isSheet := goodIn_r _ [7, 8, 9, 6, 10] (by decide +kernel) (by decide +kernel)
set_option maxRecDepth 20000 in
theorem gX9_fits_X9_isSheet : GoodIn wsX9_fits (va_wsS RX9 199 yX9_isSheet wsX9_isSheet) := goodIn_app (goodIn_of _ (by decide +kernel)) ggX9_fits_X9_isSheet
set_option maxRecDepth 20000 in
theorem ggX9_fits_X9_in : GoodIn wsX9_fits wsX9_in := goodIn_r _ [10] (by decide +kernel) (by decide +kernel)
set_option maxRecDepth 20000 in
theorem gX9_fits_X9_in : GoodIn wsX9_fits (va_wsS RX9 54 yX9_in wsX9_in) := goodIn_app (goodIn_of _ (by decide +kernel)) ggX9_fits_X9_in
set_option maxRecDepth 20000 in
theorem ggX9_fits_X9_error : GoodIn wsX9_fits wsX9_error := goodIn_r _ [14, 15, 16, 52, 53, 54, 55, 56, 57, 58, 59, 60, 61, 62, 63, 64, 65, 66, 67, 68, 69, 70, 71, 72] (by decide +kernel) (by decide +kernel)
set_option maxRecDepth 20000 in
theorem gX9_fits_X9_error : GoodIn wsX9_fits (wsV RX9 79 RX9 yX9_error wsX9_error) := goodIn_app (goodIn_of _ (by decide +kernel)) ggX9_fits_X9_error
set_option maxRecDepth 20000 in
theorem ggX9_fits_X9_isSo : GoodIn wsX9_fits wsX9_isSo := goodIn_r _ [20, 21, 22, 23, 24, 25, 26, 6, 27, 28, 29, 30, 31, 32, 33, 34, 35, 36, 37, 38, 39, 40, 41, 42, 43, 44, 45, 46, 47, 48, 49, 50, 51, 52, 53, 54, 55, 56, 57, 58, 59, 60, 61, 62, 63, 64, 65, 66, 67, 68, 69, 70, 71, 72] (by decide +kernel) (by decide +kernel)
set_option maxRecDepth 20000 in
theorem gX9_fits_X9_isSo : GoodIn wsX9_fits (wsV RX9 223 RX9 yX9_isSo wsX9_isSo) := goodIn_app (goodIn_of _ (by decide +kernel)) ggX9_fits_X9_isSo
theorem dX9_fits_0 : decode cX9_fits 0 = .ok (.iload_n 1, 1) := by decide +kernel
theorem dX9_fits_1 : decode cX9_fits 1 = .ok (.invokestatic 199, 3) := by decide +kernel
theorem dX9_fits_4 : decode cX9_fits 4 = .ok (.ifCond .eq 12, 3) := by decide +kernel
theorem dX9_fits_7 : decode cX9_fits 7 = .ok (.iload_n 2, 1) := by decide +kernel
theorem dX9_fits_8 : decode cX9_fits 8 = .ok (.iconst 0, 1) := by decide +kernel
theorem dX9_fits_9 : decode cX9_fits 9 = .ok (.iconst 1, 1) := by decide +kernel
theorem dX9_fits_10 : decode cX9_fits 10 = .ok (.invokestatic 54, 3) := by decide +kernel
theorem dX9_fits_13 : decode cX9_fits 13 = .ok (.ifCond .ne 10, 3) := by decide +kernel
theorem dX9_fits_16 : decode cX9_fits 16 = .ok (.aload_n 0, 1) := by decide +kernel
theorem dX9_fits_17 : decode cX9_fits 17 = .ok (.ldc 78, 2) := by decide +kernel
theorem dX9_fits_19 : decode cX9_fits 19 = .ok (.invokevirtual 79, 3) := by decide +kernel
theorem dX9_fits_22 : decode cX9_fits 22 = .ok (.ireturn, 1) := by decide +kernel
theorem dX9_fits_23 : decode cX9_fits 23 = .ok (.aload_n 0, 1) := by decide +kernel

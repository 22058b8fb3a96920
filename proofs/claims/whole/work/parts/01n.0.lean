set_option maxRecDepth 20000 in
theorem ggX0_init_X6_init : GoodIn wsX0_init wsX6_init := goodIn_r _ [27, 28, 2, 3, 15, 29, 30, 31, 59, 60, 61] (by decide +kernel) (by decide +kernel)
set_option maxRecDepth 20000 in
theorem gX0_init_X6_init_n32 : GoodIn wsX0_init (wsX6_init) := ggX0_init_X6_init
set_option maxRecDepth 20000 in
theorem ggX0_init_X2_init : GoodIn wsX0_init wsX2_init := goodIn_r _ [34, 35, 2, 3, 36, 37, 38, 39, 62, 63, 64, 65] (by decide +kernel) (by decide +kernel)
set_option maxRecDepth 20000 in
theorem gX0_init_X2_init : GoodIn wsX0_init (wsX2_init) := ggX0_init_X2_init
set_option maxRecDepth 20000 in
theorem ggX0_init_X3_init : GoodIn wsX0_init wsX3_init := goodIn_r _ [41, 42, 2, 3, 43, 44, 45, 46, 66, 67, 68, 69] (by decide +kernel) (by decide +kernel)
set_option maxRecDepth 20000 in
theorem gX0_init_X3_init_n62 : GoodIn wsX0_init (wsX3_init) := ggX0_init_X3_init
theorem dX0_init_0 : decode cX0_init 0 = .ok (.aload_n 0, 1) := by decide +kernel
theorem dX0_init_1 : decode cX0_init 1 = .ok (.invokespecial 3, 3) := by decide +kernel
theorem dX0_init_4 : decode cX0_init 4 = .ok (.aload_n 0, 1) := by decide +kernel
theorem dX0_init_5 : decode cX0_init 5 = .ok (.bipush 20, 2) := by decide +kernel
theorem dX0_init_7 : decode cX0_init 7 = .ok (.anewarray 9, 3) := by decide +kernel
theorem dX0_init_10 : decode cX0_init 10 = .ok (.putfield 11, 3) := by decide +kernel
theorem dX0_init_13 : decode cX0_init 13 = .ok (.aload_n 0, 1) := by decide +kernel
theorem dX0_init_14 : decode cX0_init 14 = .ok (.iconst 0, 1) := by decide +kernel
theorem dX0_init_15 : decode cX0_init 15 = .ok (.putfield 17, 3) := by decide +kernel
theorem dX0_init_18 : decode cX0_init 18 = .ok (.aload_n 0, 1) := by decide +kernel
theorem dX0_init_19 : decode cX0_init 19 = .ok (.iconst 5, 1) := by decide +kernel
theorem dX0_init_20 : decode cX0_init 20 = .ok (.anewarray 21, 3) := by decide +kernel
theorem dX0_init_23 : decode cX0_init 23 = .ok (.putfield 23, 3) := by decide +kernel
theorem dX0_init_26 : decode cX0_init 26 = .ok (.aload_n 0, 1) := by decide +kernel
theorem dX0_init_27 : decode cX0_init 27 = .ok (.iconst 0, 1) := by decide +kernel
theorem dX0_init_28 : decode cX0_init 28 = .ok (.putfield 27, 3) := by decide +kernel
theorem dX0_init_31 : decode cX0_init 31 = .ok (.aload_n 0, 1) := by decide +kernel
theorem dX0_init_32 : decode cX0_init 32 = .ok (.new 30, 3) := by decide +kernel
theorem dX0_init_35 : decode cX0_init 35 = .ok (.dup, 1) := by decide +kernel
theorem dX0_init_36 : decode cX0_init 36 = .ok (.invokespecial 32, 3) := by decide +kernel
theorem dX0_init_39 : decode cX0_init 39 = .ok (.putfield 33, 3) := by decide +kernel
theorem dX0_init_42 : decode cX0_init 42 = .ok (.aload_n 0, 1) := by decide +kernel
theorem dX0_init_43 : decode cX0_init 43 = .ok (.new 30, 3) := by decide +kernel
theorem dX0_init_46 : decode cX0_init 46 = .ok (.dup, 1) := by decide +kernel
theorem dX0_init_47 : decode cX0_init 47 = .ok (.invokespecial 32, 3) := by decide +kernel
theorem dX0_init_50 : decode cX0_init 50 = .ok (.putfield 37, 3) := by decide +kernel
theorem dX0_init_53 : decode cX0_init 53 = .ok (.aload_n 0, 1) := by decide +kernel
theorem dX0_init_54 : decode cX0_init 54 = .ok (.bipush 60, 2) := by decide +kernel
theorem dX0_init_56 : decode cX0_init 56 = .ok (.newarray .int, 2) := by decide +kernel
theorem dX0_init_58 : decode cX0_init 58 = .ok (.putfield 40, 3) := by decide +kernel
theorem dX0_init_61 : decode cX0_init 61 = .ok (.aload_n 0, 1) := by decide +kernel
theorem dX0_init_62 : decode cX0_init 62 = .ok (.iconst 0, 1) := by decide +kernel
theorem dX0_init_63 : decode cX0_init 63 = .ok (.putfield 44, 3) := by decide +kernel
theorem dX0_init_66 : decode cX0_init 66 = .ok (.aload_n 0, 1) := by decide +kernel
theorem dX0_init_67 : decode cX0_init 67 = .ok (.bipush 24, 2) := by decide +kernel
theorem dX0_init_69 : decode cX0_init 69 = .ok (.newarray .int, 2) := by decide +kernel
theorem dX0_init_71 : decode cX0_init 71 = .ok (.putfield 47, 3) := by decide +kernel
theorem dX0_init_74 : decode cX0_init 74 = .ok (.aload_n 0, 1) := by decide +kernel
theorem dX0_init_75 : decode cX0_init 75 = .ok (.iconst 0, 1) := by decide +kernel
theorem dX0_init_76 : decode cX0_init 76 = .ok (.putfield 50, 3) := by decide +kernel
theorem dX0_init_79 : decode cX0_init 79 = .ok (.aload_n 0, 1) := by decide +kernel
theorem dX0_init_80 : decode cX0_init 80 = .ok (.iconst 0, 1) := by decide +kernel
theorem dX0_init_81 : decode cX0_init 81 = .ok (.putfield 53, 3) := by decide +kernel
theorem dX0_init_84 : decode cX0_init 84 = .ok (.aload_n 0, 1) := by decide +kernel
theorem dX0_init_85 : decode cX0_init 85 = .ok (.iconst 1, 1) := by decide +kernel
theorem dX0_init_86 : decode cX0_init 86 = .ok (.putfield 56, 3) := by decide +kernel
theorem dX0_init_89 : decode cX0_init 89 = .ok (.iconst 0, 1) := by decide +kernel
theorem dX0_init_90 : decode cX0_init 90 = .ok (.istore_n 1, 1) := by decide +kernel
theorem dX0_init_91 : decode cX0_init 91 = .ok (.iload_n 1, 1) := by decide +kernel
theorem dX0_init_92 : decode cX0_init 92 = .ok (.aload_n 0, 1) := by decide +kernel
theorem dX0_init_93 : decode cX0_init 93 = .ok (.getfield 11, 3) := by decide +kernel
theorem dX0_init_96 : decode cX0_init 96 = .ok (.arraylength, 1) := by decide +kernel
theorem dX0_init_97 : decode cX0_init 97 = .ok (.if_icmp .ge 23, 3) := by decide +kernel
theorem dX0_init_100 : decode cX0_init 100 = .ok (.aload_n 0, 1) := by decide +kernel
theorem dX0_init_101 : decode cX0_init 101 = .ok (.getfield 11, 3) := by decide +kernel
theorem dX0_init_104 : decode cX0_init 104 = .ok (.iload_n 1, 1) := by decide +kernel
theorem dX0_init_105 : decode cX0_init 105 = .ok (.new 9, 3) := by decide +kernel
theorem dX0_init_108 : decode cX0_init 108 = .ok (.dup, 1) := by decide +kernel
theorem dX0_init_109 : decode cX0_init 109 = .ok (.iload_n 1, 1) := by decide +kernel
theorem dX0_init_110 : decode cX0_init 110 = .ok (.invokespecial 59, 3) := by decide +kernel
theorem dX0_init_113 : decode cX0_init 113 = .ok (.aastore, 1) := by decide +kernel
theorem dX0_init_114 : decode cX0_init 114 = .ok (.iinc 1 1, 3) := by decide +kernel
theorem dX0_init_117 : decode cX0_init 117 = .ok (.goto (-26), 3) := by decide +kernel
theorem dX0_init_120 : decode cX0_init 120 = .ok (.iconst 0, 1) := by decide +kernel
theorem dX0_init_121 : decode cX0_init 121 = .ok (.istore_n 1, 1) := by decide +kernel
theorem dX0_init_122 : decode cX0_init 122 = .ok (.iload_n 1, 1) := by decide +kernel
theorem dX0_init_123 : decode cX0_init 123 = .ok (.aload_n 0, 1) := by decide +kernel
theorem dX0_init_124 : decode cX0_init 124 = .ok (.getfield 23, 3) := by decide +kernel
theorem dX0_init_127 : decode cX0_init 127 = .ok (.arraylength, 1) := by decide +kernel
theorem dX0_init_128 : decode cX0_init 128 = .ok (.if_icmp .ge 22, 3) := by decide +kernel
theorem dX0_init_131 : decode cX0_init 131 = .ok (.aload_n 0, 1) := by decide +kernel
theorem dX0_init_132 : decode cX0_init 132 = .ok (.getfield 23, 3) := by decide +kernel
theorem dX0_init_135 : decode cX0_init 135 = .ok (.iload_n 1, 1) := by decide +kernel
theorem dX0_init_136 : decode cX0_init 136 = .ok (.new 21, 3) := by decide +kernel
theorem dX0_init_139 : decode cX0_init 139 = .ok (.dup, 1) := by decide +kernel
theorem dX0_init_140 : decode cX0_init 140 = .ok (.invokespecial 62, 3) := by decide +kernel
theorem dX0_init_143 : decode cX0_init 143 = .ok (.aastore, 1) := by decide +kernel
theorem dX0_init_144 : decode cX0_init 144 = .ok (.iinc 1 1, 3) := by decide +kernel
theorem dX0_init_147 : decode cX0_init 147 = .ok (.goto (-25), 3) := by decide +kernel
theorem dX0_init_150 : decode cX0_init 150 = .ok (.return_, 1) := by decide +kernel
set_option maxRecDepth 20000 in
theorem ggX0_copyFrom_X2_copyFrom : GoodIn wsX0_copyFrom wsX2_copyFrom := goodIn_r _ [21, 22, 23, 24, 54, 55, 56, 57] (by decide +kernel) (by decide +kernel)
set_option maxRecDepth 20000 in
theorem gX0_copyFrom_X2_copyFrom : GoodIn wsX0_copyFrom (wsV RX0 63 RX2 yX2_copyFrom wsX2_copyFrom) := goodIn_app (goodIn_of _ (by decide +kernel)) ggX0_copyFrom_X2_copyFrom
set_option maxRecDepth 20000 in
theorem ggX0_copyFrom_X3_copyFrom : GoodIn wsX0_copyFrom wsX3_copyFrom := goodIn_r _ [29, 30, 31, 32, 33, 58, 59, 60, 61] (by decide +kernel) (by decide +kernel)
set_option maxRecDepth 20000 in
theorem gX0_copyFrom_X3_copyFrom : GoodIn wsX0_copyFrom (wsV RX0 67 RX3 yX3_copyFrom wsX3_copyFrom) := goodIn_app (goodIn_of _ (by decide +kernel)) ggX0_copyFrom_X3_copyFrom
set_option maxRecDepth 20000 in
theorem ggX0_copyFrom_X6_copyFrom : GoodIn wsX0_copyFrom wsX6_copyFrom := goodIn_r _ [38, 39, 40, 9, 10, 11, 41, 62, 63, 64] (by decide +kernel) (by decide +kernel)
set_option maxRecDepth 20000 in
theorem gX0_copyFrom_X6_copyFrom : GoodIn wsX0_copyFrom (wsV RX0 70 RX6 yX6_copyFrom wsX6_copyFrom) := goodIn_app (goodIn_of _ (by decide +kernel)) ggX0_copyFrom_X6_copyFrom
theorem dX0_copyFrom_0 : decode cX0_copyFrom 0 = .ok (.aload_n 0, 1) := by decide +kernel
theorem dX0_copyFrom_1 : decode cX0_copyFrom 1 = .ok (.aload_n 1, 1) := by decide +kernel
theorem dX0_copyFrom_2 : decode cX0_copyFrom 2 = .ok (.getfield 17, 3) := by decide +kernel
theorem dX0_copyFrom_5 : decode cX0_copyFrom 5 = .ok (.putfield 17, 3) := by decide +kernel
theorem dX0_copyFrom_8 : decode cX0_copyFrom 8 = .ok (.iconst 0, 1) := by decide +kernel
theorem dX0_copyFrom_9 : decode cX0_copyFrom 9 = .ok (.istore_n 2, 1) := by decide +kernel
theorem dX0_copyFrom_10 : decode cX0_copyFrom 10 = .ok (.iload_n 2, 1) := by decide +kernel
theorem dX0_copyFrom_11 : decode cX0_copyFrom 11 = .ok (.aload_n 0, 1) := by decide +kernel
theorem dX0_copyFrom_12 : decode cX0_copyFrom 12 = .ok (.getfield 11, 3) := by decide +kernel
theorem dX0_copyFrom_15 : decode cX0_copyFrom 15 = .ok (.arraylength, 1) := by decide +kernel
theorem dX0_copyFrom_16 : decode cX0_copyFrom 16 = .ok (.if_icmp .ge 33, 3) := by decide +kernel
theorem dX0_copyFrom_19 : decode cX0_copyFrom 19 = .ok (.iload_n 2, 1) := by decide +kernel
theorem dX0_copyFrom_20 : decode cX0_copyFrom 20 = .ok (.aload_n 1, 1) := by decide +kernel
theorem dX0_copyFrom_21 : decode cX0_copyFrom 21 = .ok (.getfield 11, 3) := by decide +kernel
theorem dX0_copyFrom_24 : decode cX0_copyFrom 24 = .ok (.arraylength, 1) := by decide +kernel
theorem dX0_copyFrom_25 : decode cX0_copyFrom 25 = .ok (.if_icmp .ge 24, 3) := by decide +kernel
theorem dX0_copyFrom_28 : decode cX0_copyFrom 28 = .ok (.aload_n 0, 1) := by decide +kernel
theorem dX0_copyFrom_29 : decode cX0_copyFrom 29 = .ok (.getfield 11, 3) := by decide +kernel
theorem dX0_copyFrom_32 : decode cX0_copyFrom 32 = .ok (.iload_n 2, 1) := by decide +kernel
theorem dX0_copyFrom_33 : decode cX0_copyFrom 33 = .ok (.aaload, 1) := by decide +kernel
theorem dX0_copyFrom_34 : decode cX0_copyFrom 34 = .ok (.aload_n 1, 1) := by decide +kernel
theorem dX0_copyFrom_35 : decode cX0_copyFrom 35 = .ok (.getfield 11, 3) := by decide +kernel
theorem dX0_copyFrom_38 : decode cX0_copyFrom 38 = .ok (.iload_n 2, 1) := by decide +kernel
theorem dX0_copyFrom_39 : decode cX0_copyFrom 39 = .ok (.aaload, 1) := by decide +kernel
theorem dX0_copyFrom_40 : decode cX0_copyFrom 40 = .ok (.invokevirtual 63, 3) := by decide +kernel
theorem dX0_copyFrom_43 : decode cX0_copyFrom 43 = .ok (.iinc 2 1, 3) := by decide +kernel
theorem dX0_copyFrom_46 : decode cX0_copyFrom 46 = .ok (.goto (-36), 3) := by decide +kernel
theorem dX0_copyFrom_49 : decode cX0_copyFrom 49 = .ok (.aload_n 0, 1) := by decide +kernel
theorem dX0_copyFrom_50 : decode cX0_copyFrom 50 = .ok (.aload_n 1, 1) := by decide +kernel
theorem dX0_copyFrom_51 : decode cX0_copyFrom 51 = .ok (.getfield 27, 3) := by decide +kernel
theorem dX0_copyFrom_54 : decode cX0_copyFrom 54 = .ok (.putfield 27, 3) := by decide +kernel
theorem dX0_copyFrom_57 : decode cX0_copyFrom 57 = .ok (.iconst 0, 1) := by decide +kernel
theorem dX0_copyFrom_58 : decode cX0_copyFrom 58 = .ok (.istore_n 2, 1) := by decide +kernel
theorem dX0_copyFrom_59 : decode cX0_copyFrom 59 = .ok (.iload_n 2, 1) := by decide +kernel
theorem dX0_copyFrom_60 : decode cX0_copyFrom 60 = .ok (.aload_n 0, 1) := by decide +kernel
theorem dX0_copyFrom_61 : decode cX0_copyFrom 61 = .ok (.getfield 23, 3) := by decide +kernel
theorem dX0_copyFrom_64 : decode cX0_copyFrom 64 = .ok (.arraylength, 1) := by decide +kernel
theorem dX0_copyFrom_65 : decode cX0_copyFrom 65 = .ok (.if_icmp .ge 33, 3) := by decide +kernel
theorem dX0_copyFrom_68 : decode cX0_copyFrom 68 = .ok (.iload_n 2, 1) := by decide +kernel
theorem dX0_copyFrom_69 : decode cX0_copyFrom 69 = .ok (.aload_n 1, 1) := by decide +kernel
theorem dX0_copyFrom_70 : decode cX0_copyFrom 70 = .ok (.getfield 23, 3) := by decide +kernel
theorem dX0_copyFrom_73 : decode cX0_copyFrom 73 = .ok (.arraylength, 1) := by decide +kernel
theorem dX0_copyFrom_74 : decode cX0_copyFrom 74 = .ok (.if_icmp .ge 24, 3) := by decide +kernel
theorem dX0_copyFrom_77 : decode cX0_copyFrom 77 = .ok (.aload_n 0, 1) := by decide +kernel
theorem dX0_copyFrom_78 : decode cX0_copyFrom 78 = .ok (.getfield 23, 3) := by decide +kernel
theorem dX0_copyFrom_81 : decode cX0_copyFrom 81 = .ok (.iload_n 2, 1) := by decide +kernel
theorem dX0_copyFrom_82 : decode cX0_copyFrom 82 = .ok (.aaload, 1) := by decide +kernel
theorem dX0_copyFrom_83 : decode cX0_copyFrom 83 = .ok (.aload_n 1, 1) := by decide +kernel
theorem dX0_copyFrom_84 : decode cX0_copyFrom 84 = .ok (.getfield 23, 3) := by decide +kernel
theorem dX0_copyFrom_87 : decode cX0_copyFrom 87 = .ok (.iload_n 2, 1) := by decide +kernel
theorem dX0_copyFrom_88 : decode cX0_copyFrom 88 = .ok (.aaload, 1) := by decide +kernel
theorem dX0_copyFrom_89 : decode cX0_copyFrom 89 = .ok (.invokevirtual 67, 3) := by decide +kernel
theorem dX0_copyFrom_92 : decode cX0_copyFrom 92 = .ok (.iinc 2 1, 3) := by decide +kernel
theorem dX0_copyFrom_95 : decode cX0_copyFrom 95 = .ok (.goto (-36), 3) := by decide +kernel
theorem dX0_copyFrom_98 : decode cX0_copyFrom 98 = .ok (.aload_n 0, 1) := by decide +kernel
theorem dX0_copyFrom_99 : decode cX0_copyFrom 99 = .ok (.getfield 33, 3) := by decide +kernel
theorem dX0_copyFrom_102 : decode cX0_copyFrom 102 = .ok (.aload_n 1, 1) := by decide +kernel
theorem dX0_copyFrom_103 : decode cX0_copyFrom 103 = .ok (.getfield 33, 3) := by decide +kernel
theorem dX0_copyFrom_106 : decode cX0_copyFrom 106 = .ok (.invokevirtual 70, 3) := by decide +kernel
theorem dX0_copyFrom_109 : decode cX0_copyFrom 109 = .ok (.aload_n 0, 1) := by decide +kernel
theorem dX0_copyFrom_110 : decode cX0_copyFrom 110 = .ok (.getfield 37, 3) := by decide +kernel
theorem dX0_copyFrom_113 : decode cX0_copyFrom 113 = .ok (.aload_n 1, 1) := by decide +kernel
theorem dX0_copyFrom_114 : decode cX0_copyFrom 114 = .ok (.getfield 37, 3) := by decide +kernel
theorem dX0_copyFrom_117 : decode cX0_copyFrom 117 = .ok (.invokevirtual 70, 3) := by decide +kernel
theorem dX0_copyFrom_120 : decode cX0_copyFrom 120 = .ok (.aload_n 1, 1) := by decide +kernel
theorem dX0_copyFrom_121 : decode cX0_copyFrom 121 = .ok (.getfield 40, 3) := by decide +kernel
theorem dX0_copyFrom_124 : decode cX0_copyFrom 124 = .ok (.iconst 0, 1) := by decide +kernel
theorem dX0_copyFrom_125 : decode cX0_copyFrom 125 = .ok (.aload_n 0, 1) := by decide +kernel
theorem dX0_copyFrom_126 : decode cX0_copyFrom 126 = .ok (.getfield 40, 3) := by decide +kernel
theorem dX0_copyFrom_129 : decode cX0_copyFrom 129 = .ok (.iconst 0, 1) := by decide +kernel
theorem dX0_copyFrom_130 : decode cX0_copyFrom 130 = .ok (.bipush 60, 2) := by decide +kernel
theorem dX0_copyFrom_132 : decode cX0_copyFrom 132 = .ok (.invokestatic 73, 3) := by decide +kernel
theorem dX0_copyFrom_135 : decode cX0_copyFrom 135 = .ok (.aload_n 0, 1) := by decide +kernel
theorem dX0_copyFrom_136 : decode cX0_copyFrom 136 = .ok (.aload_n 1, 1) := by decide +kernel
theorem dX0_copyFrom_137 : decode cX0_copyFrom 137 = .ok (.getfield 44, 3) := by decide +kernel
theorem dX0_copyFrom_140 : decode cX0_copyFrom 140 = .ok (.putfield 44, 3) := by decide +kernel
theorem dX0_copyFrom_143 : decode cX0_copyFrom 143 = .ok (.aload_n 1, 1) := by decide +kernel
theorem dX0_copyFrom_144 : decode cX0_copyFrom 144 = .ok (.getfield 47, 3) := by decide +kernel
theorem dX0_copyFrom_147 : decode cX0_copyFrom 147 = .ok (.iconst 0, 1) := by decide +kernel
theorem dX0_copyFrom_148 : decode cX0_copyFrom 148 = .ok (.aload_n 0, 1) := by decide +kernel
theorem dX0_copyFrom_149 : decode cX0_copyFrom 149 = .ok (.getfield 47, 3) := by decide +kernel
theorem dX0_copyFrom_152 : decode cX0_copyFrom 152 = .ok (.iconst 0, 1) := by decide +kernel
theorem dX0_copyFrom_153 : decode cX0_copyFrom 153 = .ok (.bipush 24, 2) := by decide +kernel
theorem dX0_copyFrom_155 : decode cX0_copyFrom 155 = .ok (.invokestatic 73, 3) := by decide +kernel
theorem dX0_copyFrom_158 : decode cX0_copyFrom 158 = .ok (.aload_n 0, 1) := by decide +kernel
theorem dX0_copyFrom_159 : decode cX0_copyFrom 159 = .ok (.aload_n 1, 1) := by decide +kernel
theorem dX0_copyFrom_160 : decode cX0_copyFrom 160 = .ok (.getfield 50, 3) := by decide +kernel
theorem dX0_copyFrom_163 : decode cX0_copyFrom 163 = .ok (.putfield 50, 3) := by decide +kernel
theorem dX0_copyFrom_166 : decode cX0_copyFrom 166 = .ok (.aload_n 0, 1) := by decide +kernel
theorem dX0_copyFrom_167 : decode cX0_copyFrom 167 = .ok (.aload_n 1, 1) := by decide +kernel
theorem dX0_copyFrom_168 : decode cX0_copyFrom 168 = .ok (.getfield 53, 3) := by decide +kernel
theorem dX0_copyFrom_171 : decode cX0_copyFrom 171 = .ok (.putfield 53, 3) := by decide +kernel
theorem dX0_copyFrom_174 : decode cX0_copyFrom 174 = .ok (.aload_n 0, 1) := by decide +kernel
theorem dX0_copyFrom_175 : decode cX0_copyFrom 175 = .ok (.aload_n 1, 1) := by decide +kernel
theorem dX0_copyFrom_176 : decode cX0_copyFrom 176 = .ok (.getfield 56, 3) := by decide +kernel
theorem dX0_copyFrom_179 : decode cX0_copyFrom 179 = .ok (.putfield 56, 3) := by decide +kernel
theorem dX0_copyFrom_182 : decode cX0_copyFrom 182 = .ok (.return_, 1) := by decide +kernel
theorem dX0_judgeOn_0 : decode cX0_judgeOn 0 = .ok (.iload_n 1, 1) := by decide +kernel
theorem dX0_judgeOn_1 : decode cX0_judgeOn 1 = .ok (.ifCond .lt 29, 3) := by decide +kernel
theorem dX0_judgeOn_4 : decode cX0_judgeOn 4 = .ok (.iload_n 1, 1) := by decide +kernel
theorem dX0_judgeOn_5 : decode cX0_judgeOn 5 = .ok (.aload_n 0, 1) := by decide +kernel
theorem dX0_judgeOn_6 : decode cX0_judgeOn 6 = .ok (.getfield 17, 3) := by decide +kernel
theorem dX0_judgeOn_9 : decode cX0_judgeOn 9 = .ok (.if_icmp .ge 21, 3) := by decide +kernel
theorem dX0_judgeOn_12 : decode cX0_judgeOn 12 = .ok (.iload_n 1, 1) := by decide +kernel
theorem dX0_judgeOn_13 : decode cX0_judgeOn 13 = .ok (.aload_n 0, 1) := by decide +kernel
theorem dX0_judgeOn_14 : decode cX0_judgeOn 14 = .ok (.getfield 11, 3) := by decide +kernel
theorem dX0_judgeOn_17 : decode cX0_judgeOn 17 = .ok (.arraylength, 1) := by decide +kernel
theorem dX0_judgeOn_18 : decode cX0_judgeOn 18 = .ok (.if_icmp .ge 12, 3) := by decide +kernel
theorem dX0_judgeOn_21 : decode cX0_judgeOn 21 = .ok (.aload_n 0, 1) := by decide +kernel
theorem dX0_judgeOn_22 : decode cX0_judgeOn 22 = .ok (.getfield 11, 3) := by decide +kernel
theorem dX0_judgeOn_25 : decode cX0_judgeOn 25 = .ok (.iload_n 1, 1) := by decide +kernel
theorem dX0_judgeOn_26 : decode cX0_judgeOn 26 = .ok (.aaload, 1) := by decide +kernel
theorem dX0_judgeOn_27 : decode cX0_judgeOn 27 = .ok (.goto 4, 3) := by decide +kernel
theorem dX0_judgeOn_30 : decode cX0_judgeOn 30 = .ok (.aconst_null, 1) := by decide +kernel
theorem dX0_judgeOn_31 : decode cX0_judgeOn 31 = .ok (.areturn, 1) := by decide +kernel
theorem dX0_personOf_0 : decode cX0_personOf 0 = .ok (.iload_n 1, 1) := by decide +kernel
theorem dX0_personOf_1 : decode cX0_personOf 1 = .ok (.ifCond .lt 29, 3) := by decide +kernel
theorem dX0_personOf_4 : decode cX0_personOf 4 = .ok (.iload_n 1, 1) := by decide +kernel
theorem dX0_personOf_5 : decode cX0_personOf 5 = .ok (.aload_n 0, 1) := by decide +kernel
theorem dX0_personOf_6 : decode cX0_personOf 6 = .ok (.getfield 27, 3) := by decide +kernel
theorem dX0_personOf_9 : decode cX0_personOf 9 = .ok (.if_icmp .ge 21, 3) := by decide +kernel
theorem dX0_personOf_12 : decode cX0_personOf 12 = .ok (.iload_n 1, 1) := by decide +kernel
theorem dX0_personOf_13 : decode cX0_personOf 13 = .ok (.aload_n 0, 1) := by decide +kernel
theorem dX0_personOf_14 : decode cX0_personOf 14 = .ok (.getfield 23, 3) := by decide +kernel
theorem dX0_personOf_17 : decode cX0_personOf 17 = .ok (.arraylength, 1) := by decide +kernel
theorem dX0_personOf_18 : decode cX0_personOf 18 = .ok (.if_icmp .ge 12, 3) := by decide +kernel
theorem dX0_personOf_21 : decode cX0_personOf 21 = .ok (.aload_n 0, 1) := by decide +kernel
theorem dX0_personOf_22 : decode cX0_personOf 22 = .ok (.getfield 23, 3) := by decide +kernel
theorem dX0_personOf_25 : decode cX0_personOf 25 = .ok (.iload_n 1, 1) := by decide +kernel
theorem dX0_personOf_26 : decode cX0_personOf 26 = .ok (.aaload, 1) := by decide +kernel
theorem dX0_personOf_27 : decode cX0_personOf 27 = .ok (.goto 4, 3) := by decide +kernel
theorem dX0_personOf_30 : decode cX0_personOf 30 = .ok (.aconst_null, 1) := by decide +kernel
theorem dX0_personOf_31 : decode cX0_personOf 31 = .ok (.areturn, 1) := by decide +kernel
theorem dX0_textOf_0 : decode cX0_textOf 0 = .ok (.iload_n 1, 1) := by decide +kernel
theorem dX0_textOf_1 : decode cX0_textOf 1 = .ok (.ifCond .ne 8, 3) := by decide +kernel
theorem dX0_textOf_4 : decode cX0_textOf 4 = .ok (.aload_n 0, 1) := by decide +kernel
theorem dX0_textOf_5 : decode cX0_textOf 5 = .ok (.getfield 33, 3) := by decide +kernel
theorem dX0_textOf_8 : decode cX0_textOf 8 = .ok (.areturn, 1) := by decide +kernel
theorem dX0_textOf_9 : decode cX0_textOf 9 = .ok (.iload_n 1, 1) := by decide +kernel
theorem dX0_textOf_10 : decode cX0_textOf 10 = .ok (.iconst 1, 1) := by decide +kernel
theorem dX0_textOf_11 : decode cX0_textOf 11 = .ok (.if_icmp .ne 10, 3) := by decide +kernel
theorem dX0_textOf_14 : decode cX0_textOf 14 = .ok (.aload_n 0, 1) := by decide +kernel
theorem dX0_textOf_15 : decode cX0_textOf 15 = .ok (.getfield 37, 3) := by decide +kernel
theorem dX0_textOf_18 : decode cX0_textOf 18 = .ok (.goto 4, 3) := by decide +kernel
theorem dX0_textOf_21 : decode cX0_textOf 21 = .ok (.aconst_null, 1) := by decide +kernel
theorem dX0_textOf_22 : decode cX0_textOf 22 = .ok (.areturn, 1) := by decide +kernel
theorem dX0_addStep_0 : decode cX0_addStep 0 = .ok (.aload_n 0, 1) := by decide +kernel
theorem dX0_addStep_1 : decode cX0_addStep 1 = .ok (.getfield 17, 3) := by decide +kernel
theorem dX0_addStep_4 : decode cX0_addStep 4 = .ok (.istore_n 3, 1) := by decide +kernel
theorem dX0_addStep_5 : decode cX0_addStep 5 = .ok (.iload_n 3, 1) := by decide +kernel
theorem dX0_addStep_6 : decode cX0_addStep 6 = .ok (.ifCond .lt 48, 3) := by decide +kernel
theorem dX0_addStep_9 : decode cX0_addStep 9 = .ok (.iload_n 3, 1) := by decide +kernel
theorem dX0_addStep_10 : decode cX0_addStep 10 = .ok (.aload_n 0, 1) := by decide +kernel
theorem dX0_addStep_11 : decode cX0_addStep 11 = .ok (.getfield 11, 3) := by decide +kernel
theorem dX0_addStep_14 : decode cX0_addStep 14 = .ok (.arraylength, 1) := by decide +kernel
theorem dX0_addStep_15 : decode cX0_addStep 15 = .ok (.if_icmp .ge 39, 3) := by decide +kernel
theorem dX0_addStep_18 : decode cX0_addStep 18 = .ok (.aload_n 0, 1) := by decide +kernel
theorem dX0_addStep_19 : decode cX0_addStep 19 = .ok (.getfield 11, 3) := by decide +kernel
theorem dX0_addStep_22 : decode cX0_addStep 22 = .ok (.iload_n 3, 1) := by decide +kernel
theorem dX0_addStep_23 : decode cX0_addStep 23 = .ok (.aaload, 1) := by decide +kernel
theorem dX0_addStep_24 : decode cX0_addStep 24 = .ok (.astore 4, 2) := by decide +kernel
theorem dX0_addStep_26 : decode cX0_addStep 26 = .ok (.aload 4, 2) := by decide +kernel
theorem dX0_addStep_28 : decode cX0_addStep 28 = .ok (.iload_n 1, 1) := by decide +kernel
theorem dX0_addStep_29 : decode cX0_addStep 29 = .ok (.putfield 79, 3) := by decide +kernel
theorem dX0_addStep_32 : decode cX0_addStep 32 = .ok (.aload 4, 2) := by decide +kernel
theorem dX0_addStep_34 : decode cX0_addStep 34 = .ok (.iload_n 2, 1) := by decide +kernel
theorem dX0_addStep_35 : decode cX0_addStep 35 = .ok (.putfield 82, 3) := by decide +kernel
theorem dX0_addStep_38 : decode cX0_addStep 38 = .ok (.aload 4, 2) := by decide +kernel
theorem dX0_addStep_40 : decode cX0_addStep 40 = .ok (.iconst 0, 1) := by decide +kernel
theorem dX0_addStep_41 : decode cX0_addStep 41 = .ok (.putfield 85, 3) := by decide +kernel
theorem dX0_addStep_44 : decode cX0_addStep 44 = .ok (.aload_n 0, 1) := by decide +kernel
theorem dX0_addStep_45 : decode cX0_addStep 45 = .ok (.dup, 1) := by decide +kernel
theorem dX0_addStep_46 : decode cX0_addStep 46 = .ok (.getfield 17, 3) := by decide +kernel
theorem dX0_addStep_49 : decode cX0_addStep 49 = .ok (.iconst 1, 1) := by decide +kernel
theorem dX0_addStep_50 : decode cX0_addStep 50 = .ok (.iadd, 1) := by decide +kernel
theorem dX0_addStep_51 : decode cX0_addStep 51 = .ok (.putfield 17, 3) := by decide +kernel
theorem dX0_addStep_54 : decode cX0_addStep 54 = .ok (.iload_n 3, 1) := by decide +kernel
theorem dX0_addStep_55 : decode cX0_addStep 55 = .ok (.ireturn, 1) := by decide +kernel
theorem dX0_addPerson_0 : decode cX0_addPerson 0 = .ok (.aload_n 0, 1) := by decide +kernel
theorem dX0_addPerson_1 : decode cX0_addPerson 1 = .ok (.getfield 27, 3) := by decide +kernel
theorem dX0_addPerson_4 : decode cX0_addPerson 4 = .ok (.istore_n 2, 1) := by decide +kernel
theorem dX0_addPerson_5 : decode cX0_addPerson 5 = .ok (.iload_n 2, 1) := by decide +kernel
theorem dX0_addPerson_6 : decode cX0_addPerson 6 = .ok (.ifCond .lt 49, 3) := by decide +kernel
theorem dX0_addPerson_9 : decode cX0_addPerson 9 = .ok (.iload_n 2, 1) := by decide +kernel
theorem dX0_addPerson_10 : decode cX0_addPerson 10 = .ok (.aload_n 0, 1) := by decide +kernel
theorem dX0_addPerson_11 : decode cX0_addPerson 11 = .ok (.getfield 23, 3) := by decide +kernel
theorem dX0_addPerson_14 : decode cX0_addPerson 14 = .ok (.arraylength, 1) := by decide +kernel
theorem dX0_addPerson_15 : decode cX0_addPerson 15 = .ok (.if_icmp .ge 40, 3) := by decide +kernel
theorem dX0_addPerson_18 : decode cX0_addPerson 18 = .ok (.aload_n 0, 1) := by decide +kernel
theorem dX0_addPerson_19 : decode cX0_addPerson 19 = .ok (.getfield 23, 3) := by decide +kernel
theorem dX0_addPerson_22 : decode cX0_addPerson 22 = .ok (.iload_n 2, 1) := by decide +kernel
theorem dX0_addPerson_23 : decode cX0_addPerson 23 = .ok (.aaload, 1) := by decide +kernel
theorem dX0_addPerson_24 : decode cX0_addPerson 24 = .ok (.astore_n 3, 1) := by decide +kernel
theorem dX0_addPerson_25 : decode cX0_addPerson 25 = .ok (.aload_n 3, 1) := by decide +kernel
theorem dX0_addPerson_26 : decode cX0_addPerson 26 = .ok (.iconst 0, 1) := by decide +kernel
theorem dX0_addPerson_27 : decode cX0_addPerson 27 = .ok (.putfield 88, 3) := by decide +kernel
theorem dX0_addPerson_30 : decode cX0_addPerson 30 = .ok (.aload_n 3, 1) := by decide +kernel
theorem dX0_addPerson_31 : decode cX0_addPerson 31 = .ok (.iload_n 1, 1) := by decide +kernel
theorem dX0_addPerson_32 : decode cX0_addPerson 32 = .ok (.putfield 91, 3) := by decide +kernel
theorem dX0_addPerson_35 : decode cX0_addPerson 35 = .ok (.aload_n 3, 1) := by decide +kernel
theorem dX0_addPerson_36 : decode cX0_addPerson 36 = .ok (.iconst 0, 1) := by decide +kernel
theorem dX0_addPerson_37 : decode cX0_addPerson 37 = .ok (.putfield 94, 3) := by decide +kernel
theorem dX0_addPerson_40 : decode cX0_addPerson 40 = .ok (.aload_n 3, 1) := by decide +kernel
theorem dX0_addPerson_41 : decode cX0_addPerson 41 = .ok (.iconst 0, 1) := by decide +kernel
theorem dX0_addPerson_42 : decode cX0_addPerson 42 = .ok (.putfield 97, 3) := by decide +kernel
theorem dX0_addPerson_45 : decode cX0_addPerson 45 = .ok (.aload_n 0, 1) := by decide +kernel
theorem dX0_addPerson_46 : decode cX0_addPerson 46 = .ok (.dup, 1) := by decide +kernel
theorem dX0_addPerson_47 : decode cX0_addPerson 47 = .ok (.getfield 27, 3) := by decide +kernel
theorem dX0_addPerson_50 : decode cX0_addPerson 50 = .ok (.iconst 1, 1) := by decide +kernel
theorem dX0_addPerson_51 : decode cX0_addPerson 51 = .ok (.iadd, 1) := by decide +kernel
theorem dX0_addPerson_52 : decode cX0_addPerson 52 = .ok (.putfield 27, 3) := by decide +kernel
theorem dX0_addPerson_55 : decode cX0_addPerson 55 = .ok (.iload_n 2, 1) := by decide +kernel
theorem dX0_addPerson_56 : decode cX0_addPerson 56 = .ok (.ireturn, 1) := by decide +kernel
theorem dX0_isUp_0 : decode cX0_isUp 0 = .ok (.aload_n 1, 1) := by decide +kernel
theorem dX0_isUp_1 : decode cX0_isUp 1 = .ok (.getfield 88, 3) := by decide +kernel
theorem dX0_isUp_4 : decode cX0_isUp 4 = .ok (.aload_n 0, 1) := by decide +kernel
theorem dX0_isUp_5 : decode cX0_isUp 5 = .ok (.getfield 17, 3) := by decide +kernel
theorem dX0_isUp_8 : decode cX0_isUp 8 = .ok (.if_icmp .lt 7, 3) := by decide +kernel
theorem dX0_isUp_11 : decode cX0_isUp 11 = .ok (.iconst 1, 1) := by decide +kernel
theorem dX0_isUp_12 : decode cX0_isUp 12 = .ok (.goto 4, 3) := by decide +kernel
theorem dX0_isUp_15 : decode cX0_isUp 15 = .ok (.iconst 0, 1) := by decide +kernel
theorem dX0_isUp_16 : decode cX0_isUp 16 = .ok (.ireturn, 1) := by decide +kernel
set_option maxRecDepth 20000 in
theorem ggX0_canGo_X0_isUp : GoodIn wsX0_canGo wsX0_isUp := goodIn_r _ [6, 7, 8, 9, 10, 11, 12, 13, 14, 15, 16, 17, 18, 19, 20, 21, 22, 23, 24] (by decide +kernel) (by decide +kernel)
set_option maxRecDepth 20000 in
theorem gX0_canGo_X0_isUp : GoodIn wsX0_canGo (wsV RX0 100 RX0 yX0_isUp wsX0_isUp) := goodIn_app (goodIn_of _ (by decide +kernel)) ggX0_canGo_X0_isUp
theorem dX0_canGo_0 : decode cX0_canGo 0 = .ok (.aload_n 0, 1) := by decide +kernel
theorem dX0_canGo_1 : decode cX0_canGo 1 = .ok (.aload_n 1, 1) := by decide +kernel
theorem dX0_canGo_2 : decode cX0_canGo 2 = .ok (.invokevirtual 100, 3) := by decide +kernel
theorem dX0_canGo_5 : decode cX0_canGo 5 = .ok (.ifCond .ne 14, 3) := by decide +kernel
theorem dX0_canGo_8 : decode cX0_canGo 8 = .ok (.aload_n 1, 1) := by decide +kernel
theorem dX0_canGo_9 : decode cX0_canGo 9 = .ok (.getfield 91, 3) := by decide +kernel
theorem dX0_canGo_12 : decode cX0_canGo 12 = .ok (.ifCond .le 7, 3) := by decide +kernel
theorem dX0_canGo_15 : decode cX0_canGo 15 = .ok (.iconst 1, 1) := by decide +kernel
theorem dX0_canGo_16 : decode cX0_canGo 16 = .ok (.goto 4, 3) := by decide +kernel
theorem dX0_canGo_19 : decode cX0_canGo 19 = .ok (.iconst 0, 1) := by decide +kernel
theorem dX0_canGo_20 : decode cX0_canGo 20 = .ok (.ireturn, 1) := by decide +kernel
set_option maxRecDepth 20000 in
theorem ggX0_gives_X6_isThere : GoodIn wsX0_gives wsX6_isThere := goodIn_r _ [7, 8, 44, 45, 46] (by decide +kernel) (by decide +kernel)
set_option maxRecDepth 20000 in
theorem gX0_gives_X6_isThere : GoodIn wsX0_gives (wsV RX0 104 RX6 yX6_isThere wsX6_isThere) := goodIn_app (goodIn_of _ (by decide +kernel)) ggX0_gives_X6_isThere
set_option maxRecDepth 20000 in
theorem ggX0_gives_X6_work : GoodIn wsX0_gives wsX6_work := goodIn_r _ [12, 8, 13, 14, 15, 16, 6, 17, 18, 19, 20, 44, 45, 46] (by decide +kernel) (by decide +kernel)
set_option maxRecDepth 20000 in
theorem gX0_gives_X6_work : GoodIn wsX0_gives (wsV RX0 108 RX6 yX6_work wsX6_work) := goodIn_app (goodIn_of _ (by decide +kernel)) ggX0_gives_X6_work
set_option maxRecDepth 20000 in
theorem ggX0_gives_X0_hold : GoodIn wsX0_gives wsX0_hold := goodIn_r _ [24, 25, 26, 27, 28, 29, 30, 31] (by decide +kernel) (by decide +kernel)
set_option maxRecDepth 20000 in
theorem gX0_gives_X0_hold : GoodIn wsX0_gives (va_wsS RX0 112 yX0_hold wsX0_hold) := goodIn_app (goodIn_of _ (by decide +kernel)) ggX0_gives_X0_hold
theorem dX0_gives_0 : decode cX0_gives 0 = .ok (.iload_n 1, 1) := by decide +kernel
theorem dX0_gives_1 : decode cX0_gives 1 = .ok (.ifCond .ne 33, 3) := by decide +kernel
theorem dX0_gives_4 : decode cX0_gives 4 = .ok (.aload_n 0, 1) := by decide +kernel
theorem dX0_gives_5 : decode cX0_gives 5 = .ok (.getfield 33, 3) := by decide +kernel
theorem dX0_gives_8 : decode cX0_gives 8 = .ok (.invokevirtual 104, 3) := by decide +kernel
theorem dX0_gives_11 : decode cX0_gives 11 = .ok (.ifCond .eq 17, 3) := by decide +kernel
theorem dX0_gives_14 : decode cX0_gives 14 = .ok (.aload_n 0, 1) := by decide +kernel
theorem dX0_gives_15 : decode cX0_gives 15 = .ok (.getfield 33, 3) := by decide +kernel
theorem dX0_gives_18 : decode cX0_gives 18 = .ok (.iload_n 2, 1) := by decide +kernel
theorem dX0_gives_19 : decode cX0_gives 19 = .ok (.iload_n 3, 1) := by decide +kernel
theorem dX0_gives_20 : decode cX0_gives 20 = .ok (.iload 4, 2) := by decide +kernel
theorem dX0_gives_22 : decode cX0_gives 22 = .ok (.invokevirtual 108, 3) := by decide +kernel
theorem dX0_gives_25 : decode cX0_gives 25 = .ok (.goto 4, 3) := by decide +kernel
theorem dX0_gives_28 : decode cX0_gives 28 = .ok (.iconst 1, 1) := by decide +kernel
theorem dX0_gives_29 : decode cX0_gives 29 = .ok (.iconst 1, 1) := by decide +kernel
theorem dX0_gives_30 : decode cX0_gives 30 = .ok (.invokestatic 112, 3) := by decide +kernel
theorem dX0_gives_33 : decode cX0_gives 33 = .ok (.ireturn, 1) := by decide +kernel
theorem dX0_gives_34 : decode cX0_gives 34 = .ok (.aload_n 0, 1) := by decide +kernel
theorem dX0_gives_35 : decode cX0_gives 35 = .ok (.getfield 37, 3) := by decide +kernel
theorem dX0_gives_38 : decode cX0_gives 38 = .ok (.invokevirtual 104, 3) := by decide +kernel
theorem dX0_gives_41 : decode cX0_gives 41 = .ok (.ifCond .eq 17, 3) := by decide +kernel
theorem dX0_gives_44 : decode cX0_gives 44 = .ok (.aload_n 0, 1) := by decide +kernel
theorem dX0_gives_45 : decode cX0_gives 45 = .ok (.getfield 37, 3) := by decide +kernel
theorem dX0_gives_48 : decode cX0_gives 48 = .ok (.iload_n 2, 1) := by decide +kernel
theorem dX0_gives_49 : decode cX0_gives 49 = .ok (.iload_n 3, 1) := by decide +kernel
theorem dX0_gives_50 : decode cX0_gives 50 = .ok (.iload 4, 2) := by decide +kernel
theorem dX0_gives_52 : decode cX0_gives 52 = .ok (.invokevirtual 108, 3) := by decide +kernel
theorem dX0_gives_55 : decode cX0_gives 55 = .ok (.goto 4, 3) := by decide +kernel
theorem dX0_gives_58 : decode cX0_gives 58 = .ok (.iload_n 2, 1) := by decide +kernel
theorem dX0_gives_59 : decode cX0_gives 59 = .ok (.bipush 99, 2) := by decide +kernel
theorem dX0_gives_61 : decode cX0_gives 61 = .ok (.invokestatic 112, 3) := by decide +kernel
theorem dX0_gives_64 : decode cX0_gives 64 = .ok (.ireturn, 1) := by decide +kernel
theorem dX0_hold_0 : decode cX0_hold 0 = .ok (.iconst 0, 1) := by decide +kernel
theorem dX0_hold_1 : decode cX0_hold 1 = .ok (.iload_n 1, 1) := by decide +kernel
theorem dX0_hold_2 : decode cX0_hold 2 = .ok (.iload_n 0, 1) := by decide +kernel
theorem dX0_hold_3 : decode cX0_hold 3 = .ok (.invokestatic 116, 3) := by decide +kernel
theorem dX0_hold_6 : decode cX0_hold 6 = .ok (.invokestatic 121, 3) := by decide +kernel
theorem dX0_hold_9 : decode cX0_hold 9 = .ok (.ireturn, 1) := by decide +kernel
set_option maxRecDepth 20000 in
theorem ggX0_isContent_X2_nods : GoodIn wsX0_isContent wsX2_nods := goodIn_r _ [8, 9, 10, 11, 12, 13, 14, 15, 7, 16, 17, 18, 19, 20, 21, 22, 23, 24, 72, 73, 74, 75] (by decide +kernel) (by decide +kernel)
set_option maxRecDepth 20000 in
theorem gX0_isContent_X2_nods : GoodIn wsX0_isContent (wsV RX0 124 RX2 yX2_nods wsX2_nods) := goodIn_app (goodIn_of _ (by decide +kernel)) ggX0_isContent_X2_nods
set_option maxRecDepth 20000 in
theorem ggX0_isContent_X0_gives : GoodIn wsX0_isContent wsX0_gives := goodIn_r _ [29, 30, 31, 32, 33, 34, 35, 36, 37, 38, 39, 40, 41, 42, 43, 44, 45, 46, 47, 48, 49, 50, 51, 28, 52, 53, 54, 55, 56, 57, 58, 59, 60, 61, 62, 63, 64, 65, 66, 67, 68, 69, 70, 71, 76, 77, 78] (by decide +kernel) (by decide +kernel)
set_option maxRecDepth 20000 in
theorem gX0_isContent_X0_gives : GoodIn wsX0_isContent (wsV RX0 131 RX0 yX0_gives wsX0_gives) := goodIn_app (goodIn_of _ (by decide +kernel)) ggX0_isContent_X0_gives
theorem dX0_isContent_0 : decode cX0_isContent 0 = .ok (.aload_n 1, 1) := by decide +kernel
theorem dX0_isContent_1 : decode cX0_isContent 1 = .ok (.iload_n 2, 1) := by decide +kernel
theorem dX0_isContent_2 : decode cX0_isContent 2 = .ok (.aload_n 0, 1) := by decide +kernel
theorem dX0_isContent_3 : decode cX0_isContent 3 = .ok (.getfield 53, 3) := by decide +kernel
theorem dX0_isContent_6 : decode cX0_isContent 6 = .ok (.invokevirtual 124, 3) := by decide +kernel
theorem dX0_isContent_9 : decode cX0_isContent 9 = .ok (.ifCond .eq 25, 3) := by decide +kernel
theorem dX0_isContent_12 : decode cX0_isContent 12 = .ok (.aload_n 0, 1) := by decide +kernel
theorem dX0_isContent_13 : decode cX0_isContent 13 = .ok (.iconst 0, 1) := by decide +kernel
theorem dX0_isContent_14 : decode cX0_isContent 14 = .ok (.iload_n 2, 1) := by decide +kernel
theorem dX0_isContent_15 : decode cX0_isContent 15 = .ok (.aload_n 1, 1) := by decide +kernel
theorem dX0_isContent_16 : decode cX0_isContent 16 = .ok (.getfield 128, 3) := by decide +kernel
theorem dX0_isContent_19 : decode cX0_isContent 19 = .ok (.aload_n 1, 1) := by decide +kernel
theorem dX0_isContent_20 : decode cX0_isContent 20 = .ok (.getfield 82, 3) := by decide +kernel
theorem dX0_isContent_23 : decode cX0_isContent 23 = .ok (.invokevirtual 131, 3) := by decide +kernel
theorem dX0_isContent_26 : decode cX0_isContent 26 = .ok (.iconst 1, 1) := by decide +kernel
theorem dX0_isContent_27 : decode cX0_isContent 27 = .ok (.if_icmp .ne 7, 3) := by decide +kernel
theorem dX0_isContent_30 : decode cX0_isContent 30 = .ok (.iconst 1, 1) := by decide +kernel
theorem dX0_isContent_31 : decode cX0_isContent 31 = .ok (.goto 4, 3) := by decide +kernel
theorem dX0_isContent_34 : decode cX0_isContent 34 = .ok (.iconst 0, 1) := by decide +kernel
theorem dX0_isContent_35 : decode cX0_isContent 35 = .ok (.ireturn, 1) := by decide +kernel
set_option maxRecDepth 20000 in
theorem ggX0_bribeOf_X2_wants : GoodIn wsX0_bribeOf wsX2_wants := goodIn_r _ [7, 8, 9, 10, 11, 47, 48, 49, 50] (by decide +kernel) (by decide +kernel)
set_option maxRecDepth 20000 in
theorem gX0_bribeOf_X2_wants : GoodIn wsX0_bribeOf (wsV RX0 135 RX2 yX2_wants wsX2_wants) := goodIn_app (goodIn_of _ (by decide +kernel)) ggX0_bribeOf_X2_wants
set_option maxRecDepth 20000 in
theorem ggX0_bribeOf_X0_gives : GoodIn wsX0_bribeOf wsX0_gives := goodIn_r _ [16, 17, 18, 19, 20, 21, 22, 23, 24, 25, 26, 27, 28, 29, 30, 31, 32, 33, 34, 35, 36, 37, 38, 15, 39, 40, 41, 42, 43, 44, 45, 46, 51, 52, 53, 54, 55, 56, 57, 58, 59, 60, 61, 62, 63, 64, 65] (by decide +kernel) (by decide +kernel)
set_option maxRecDepth 20000 in
theorem gX0_bribeOf_X0_gives : GoodIn wsX0_bribeOf (wsV RX0 131 RX0 yX0_gives wsX0_gives) := goodIn_app (goodIn_of _ (by decide +kernel)) ggX0_bribeOf_X0_gives
theorem dX0_bribeOf_0 : decode cX0_bribeOf 0 = .ok (.aload_n 0, 1) := by decide +kernel
theorem dX0_bribeOf_1 : decode cX0_bribeOf 1 = .ok (.iconst 1, 1) := by decide +kernel
theorem dX0_bribeOf_2 : decode cX0_bribeOf 2 = .ok (.aload_n 1, 1) := by decide +kernel
theorem dX0_bribeOf_3 : decode cX0_bribeOf 3 = .ok (.invokevirtual 135, 3) := by decide +kernel
theorem dX0_bribeOf_6 : decode cX0_bribeOf 6 = .ok (.aload_n 1, 1) := by decide +kernel
theorem dX0_bribeOf_7 : decode cX0_bribeOf 7 = .ok (.getfield 128, 3) := by decide +kernel
theorem dX0_bribeOf_10 : decode cX0_bribeOf 10 = .ok (.aload_n 1, 1) := by decide +kernel
theorem dX0_bribeOf_11 : decode cX0_bribeOf 11 = .ok (.getfield 79, 3) := by decide +kernel
theorem dX0_bribeOf_14 : decode cX0_bribeOf 14 = .ok (.invokevirtual 131, 3) := by decide +kernel
theorem dX0_bribeOf_17 : decode cX0_bribeOf 17 = .ok (.ireturn, 1) := by decide +kernel
set_option maxRecDepth 20000 in
theorem ggX0_contentWords_X0_isContent : GoodIn wsX0_contentWords wsX0_isContent := goodIn_r _ [5, 6, 7, 8, 9, 10, 11, 12, 13, 14, 15, 16, 17, 18, 19, 20, 21, 22, 23, 24, 25, 26, 27, 28, 29, 30, 31, 32, 4, 33, 34, 35, 36, 37, 38, 39, 40, 41, 42, 43, 44, 45, 46, 47, 48, 49, 50, 51, 52, 53, 54, 55, 56, 57, 58, 59, 60, 61, 62, 63, 64, 65, 66, 67, 68, 69, 70, 71, 72, 73, 74, 75, 76, 77, 78, 79, 80, 81, 82] (by decide +kernel) (by decide +kernel)
set_option maxRecDepth 20000 in
theorem gX0_contentWords_X0_isContent : GoodIn wsX0_contentWords (wsV RX0 139 RX0 yX0_isContent wsX0_isContent) := goodIn_app (goodIn_of _ (by decide +kernel)) ggX0_contentWords_X0_isContent
theorem dX0_contentWords_0 : decode cX0_contentWords 0 = .ok (.iconst 0, 1) := by decide +kernel
theorem dX0_contentWords_1 : decode cX0_contentWords 1 = .ok (.istore_n 2, 1) := by decide +kernel
theorem dX0_contentWords_2 : decode cX0_contentWords 2 = .ok (.iconst 0, 1) := by decide +kernel
theorem dX0_contentWords_3 : decode cX0_contentWords 3 = .ok (.istore_n 3, 1) := by decide +kernel
theorem dX0_contentWords_4 : decode cX0_contentWords 4 = .ok (.iload_n 3, 1) := by decide +kernel
theorem dX0_contentWords_5 : decode cX0_contentWords 5 = .ok (.bipush 100, 2) := by decide +kernel
theorem dX0_contentWords_7 : decode cX0_contentWords 7 = .ok (.if_icmp .ge 21, 3) := by decide +kernel
theorem dX0_contentWords_10 : decode cX0_contentWords 10 = .ok (.aload_n 0, 1) := by decide +kernel
theorem dX0_contentWords_11 : decode cX0_contentWords 11 = .ok (.aload_n 1, 1) := by decide +kernel
theorem dX0_contentWords_12 : decode cX0_contentWords 12 = .ok (.iload_n 3, 1) := by decide +kernel
theorem dX0_contentWords_13 : decode cX0_contentWords 13 = .ok (.invokevirtual 139, 3) := by decide +kernel
theorem dX0_contentWords_16 : decode cX0_contentWords 16 = .ok (.ifCond .eq 6, 3) := by decide +kernel
theorem dX0_contentWords_19 : decode cX0_contentWords 19 = .ok (.iinc 2 1, 3) := by decide +kernel
theorem dX0_contentWords_22 : decode cX0_contentWords 22 = .ok (.iinc 3 1, 3) := by decide +kernel
theorem dX0_contentWords_25 : decode cX0_contentWords 25 = .ok (.goto (-21), 3) := by decide +kernel
theorem dX0_contentWords_28 : decode cX0_contentWords 28 = .ok (.iload_n 2, 1) := by decide +kernel
theorem dX0_contentWords_29 : decode cX0_contentWords 29 = .ok (.ireturn, 1) := by decide +kernel
set_option maxRecDepth 20000 in
theorem ggX0_leastContent_X0_isContent : GoodIn wsX0_leastContent wsX0_isContent := goodIn_r _ [5, 6, 7, 8, 9, 10, 11, 12, 13, 14, 15, 16, 17, 18, 19, 20, 21, 22, 23, 24, 25, 26, 27, 28, 29, 30, 31, 32, 4, 33, 34, 35, 36, 37, 38, 39, 40, 41, 42, 43, 44, 45, 46, 47, 48, 49, 50, 51, 52, 53, 54, 55, 56, 57, 58, 59, 60, 61, 62, 63, 64, 65, 66, 67, 68, 69, 70, 71, 72, 73, 74, 75, 76, 77, 78, 79, 80, 81, 82] (by decide +kernel) (by decide +kernel)
set_option maxRecDepth 20000 in
theorem gX0_leastContent_X0_isContent : GoodIn wsX0_leastContent (wsV RX0 139 RX0 yX0_isContent wsX0_isContent) := goodIn_app (goodIn_of _ (by decide +kernel)) ggX0_leastContent_X0_isContent
theorem dX0_leastContent_0 : decode cX0_leastContent 0 = .ok (.iconst 0, 1) := by decide +kernel
theorem dX0_leastContent_1 : decode cX0_leastContent 1 = .ok (.istore_n 2, 1) := by decide +kernel
theorem dX0_leastContent_2 : decode cX0_leastContent 2 = .ok (.iload_n 2, 1) := by decide +kernel
theorem dX0_leastContent_3 : decode cX0_leastContent 3 = .ok (.bipush 100, 2) := by decide +kernel
theorem dX0_leastContent_5 : decode cX0_leastContent 5 = .ok (.if_icmp .ge 20, 3) := by decide +kernel
theorem dX0_leastContent_8 : decode cX0_leastContent 8 = .ok (.aload_n 0, 1) := by decide +kernel
theorem dX0_leastContent_9 : decode cX0_leastContent 9 = .ok (.aload_n 1, 1) := by decide +kernel
theorem dX0_leastContent_10 : decode cX0_leastContent 10 = .ok (.iload_n 2, 1) := by decide +kernel
theorem dX0_leastContent_11 : decode cX0_leastContent 11 = .ok (.invokevirtual 139, 3) := by decide +kernel
theorem dX0_leastContent_14 : decode cX0_leastContent 14 = .ok (.ifCond .eq 5, 3) := by decide +kernel
theorem dX0_leastContent_17 : decode cX0_leastContent 17 = .ok (.iload_n 2, 1) := by decide +kernel
theorem dX0_leastContent_18 : decode cX0_leastContent 18 = .ok (.ireturn, 1) := by decide +kernel
theorem dX0_leastContent_19 : decode cX0_leastContent 19 = .ok (.iinc 2 1, 3) := by decide +kernel
theorem dX0_leastContent_22 : decode cX0_leastContent 22 = .ok (.goto (-20), 3) := by decide +kernel
theorem dX0_leastContent_25 : decode cX0_leastContent 25 = .ok (.iconst (-1), 1) := by decide +kernel
theorem dX0_leastContent_26 : decode cX0_leastContent 26 = .ok (.ireturn, 1) := by decide +kernel
set_option maxRecDepth 20000 in
theorem ggX0_hear_X0_judgeOn : GoodIn wsX0_hear wsX0_judgeOn := goodIn_r _ [16, 17, 18, 82, 83, 84, 85, 86, 87, 88, 89, 90, 91, 92, 93] (by decide +kernel) (by decide +kernel)
set_option maxRecDepth 20000 in
theorem gX0_hear_X0_judgeOn : GoodIn wsX0_hear (wsV RX0 143 RX0 yX0_judgeOn wsX0_judgeOn) := goodIn_app (goodIn_of _ (by decide +kernel)) ggX0_hear_X0_judgeOn
set_option maxRecDepth 20000 in
theorem ggX0_hear_X0_isContent : GoodIn wsX0_hear wsX0_isContent := goodIn_r _ [22, 23, 24, 25, 26, 27, 28, 29, 30, 31, 32, 33, 34, 35, 36, 37, 38, 39, 40, 41, 42, 43, 44, 45, 46, 47, 48, 49, 15, 50, 51, 52, 53, 54, 55, 56, 57, 58, 59, 60, 61, 62, 63, 64, 65, 66, 67, 68, 69, 70, 71, 72, 73, 3, 4, 5, 6, 8, 9, 10, 82, 83, 84, 85, 86, 87, 88, 89, 90, 91, 92, 93, 78, 79, 80, 81, 94, 95, 96] (by decide +kernel) (by decide +kernel)
set_option maxRecDepth 20000 in
theorem gX0_hear_X0_isContent : GoodIn wsX0_hear (wsV RX0 139 RX0 yX0_isContent wsX0_isContent) := goodIn_app (goodIn_of _ (by decide +kernel)) ggX0_hear_X0_isContent
theorem dX0_hear_0 : decode cX0_hear 0 = .ok (.aload_n 0, 1) := by decide +kernel
theorem dX0_hear_1 : decode cX0_hear 1 = .ok (.aload_n 1, 1) := by decide +kernel
theorem dX0_hear_2 : decode cX0_hear 2 = .ok (.getfield 88, 3) := by decide +kernel
theorem dX0_hear_5 : decode cX0_hear 5 = .ok (.invokevirtual 143, 3) := by decide +kernel
theorem dX0_hear_8 : decode cX0_hear 8 = .ok (.astore_n 3, 1) := by decide +kernel
theorem dX0_hear_9 : decode cX0_hear 9 = .ok (.aload_n 3, 1) := by decide +kernel
theorem dX0_hear_10 : decode cX0_hear 10 = .ok (.ifnull 16, 3) := by decide +kernel
theorem dX0_hear_13 : decode cX0_hear 13 = .ok (.aload_n 0, 1) := by decide +kernel
theorem dX0_hear_14 : decode cX0_hear 14 = .ok (.aload_n 3, 1) := by decide +kernel
theorem dX0_hear_15 : decode cX0_hear 15 = .ok (.iload_n 2, 1) := by decide +kernel
theorem dX0_hear_16 : decode cX0_hear 16 = .ok (.invokevirtual 139, 3) := by decide +kernel
theorem dX0_hear_19 : decode cX0_hear 19 = .ok (.ifCond .eq 7, 3) := by decide +kernel
theorem dX0_hear_22 : decode cX0_hear 22 = .ok (.iconst 1, 1) := by decide +kernel
theorem dX0_hear_23 : decode cX0_hear 23 = .ok (.goto 4, 3) := by decide +kernel
theorem dX0_hear_26 : decode cX0_hear 26 = .ok (.iconst 0, 1) := by decide +kernel
theorem dX0_hear_27 : decode cX0_hear 27 = .ok (.istore 4, 2) := by decide +kernel
theorem dX0_hear_29 : decode cX0_hear 29 = .ok (.aload_n 3, 1) := by decide +kernel
theorem dX0_hear_30 : decode cX0_hear 30 = .ok (.ifnull 19, 3) := by decide +kernel
theorem dX0_hear_33 : decode cX0_hear 33 = .ok (.aload_n 3, 1) := by decide +kernel
theorem dX0_hear_34 : decode cX0_hear 34 = .ok (.sipush 9999, 3) := by decide +kernel
theorem dX0_hear_37 : decode cX0_hear 37 = .ok (.aload_n 3, 1) := by decide +kernel
theorem dX0_hear_38 : decode cX0_hear 38 = .ok (.getfield 85, 3) := by decide +kernel
theorem dX0_hear_41 : decode cX0_hear 41 = .ok (.iconst 1, 1) := by decide +kernel
theorem dX0_hear_42 : decode cX0_hear 42 = .ok (.iadd, 1) := by decide +kernel
theorem dX0_hear_43 : decode cX0_hear 43 = .ok (.invokestatic 116, 3) := by decide +kernel
theorem dX0_hear_46 : decode cX0_hear 46 = .ok (.putfield 85, 3) := by decide +kernel
theorem dX0_hear_49 : decode cX0_hear 49 = .ok (.aload_n 1, 1) := by decide +kernel
theorem dX0_hear_50 : decode cX0_hear 50 = .ok (.dup, 1) := by decide +kernel
theorem dX0_hear_51 : decode cX0_hear 51 = .ok (.getfield 91, 3) := by decide +kernel
theorem dX0_hear_54 : decode cX0_hear 54 = .ok (.iconst 1, 1) := by decide +kernel
theorem dX0_hear_55 : decode cX0_hear 55 = .ok (.isub, 1) := by decide +kernel
theorem dX0_hear_56 : decode cX0_hear 56 = .ok (.putfield 91, 3) := by decide +kernel
theorem dX0_hear_59 : decode cX0_hear 59 = .ok (.iload 4, 2) := by decide +kernel
theorem dX0_hear_61 : decode cX0_hear 61 = .ok (.ifCond .eq 16, 3) := by decide +kernel
theorem dX0_hear_64 : decode cX0_hear 64 = .ok (.aload_n 1, 1) := by decide +kernel
theorem dX0_hear_65 : decode cX0_hear 65 = .ok (.dup, 1) := by decide +kernel
theorem dX0_hear_66 : decode cX0_hear 66 = .ok (.getfield 88, 3) := by decide +kernel
theorem dX0_hear_69 : decode cX0_hear 69 = .ok (.iconst 1, 1) := by decide +kernel
theorem dX0_hear_70 : decode cX0_hear 70 = .ok (.iadd, 1) := by decide +kernel
theorem dX0_hear_71 : decode cX0_hear 71 = .ok (.putfield 88, 3) := by decide +kernel
theorem dX0_hear_74 : decode cX0_hear 74 = .ok (.goto 33, 3) := by decide +kernel
theorem dX0_hear_77 : decode cX0_hear 77 = .ok (.aload_n 1, 1) := by decide +kernel
theorem dX0_hear_78 : decode cX0_hear 78 = .ok (.iconst 0, 1) := by decide +kernel
theorem dX0_hear_79 : decode cX0_hear 79 = .ok (.aload_n 1, 1) := by decide +kernel
theorem dX0_hear_80 : decode cX0_hear 80 = .ok (.getfield 88, 3) := by decide +kernel
theorem dX0_hear_83 : decode cX0_hear 83 = .ok (.iconst 2, 1) := by decide +kernel
theorem dX0_hear_84 : decode cX0_hear 84 = .ok (.isub, 1) := by decide +kernel
theorem dX0_hear_85 : decode cX0_hear 85 = .ok (.invokestatic 121, 3) := by decide +kernel
theorem dX0_hear_88 : decode cX0_hear 88 = .ok (.putfield 88, 3) := by decide +kernel
theorem dX0_hear_91 : decode cX0_hear 91 = .ok (.aload_n 1, 1) := by decide +kernel
theorem dX0_hear_92 : decode cX0_hear 92 = .ok (.sipush 9999, 3) := by decide +kernel
theorem dX0_hear_95 : decode cX0_hear 95 = .ok (.aload_n 1, 1) := by decide +kernel
theorem dX0_hear_96 : decode cX0_hear 96 = .ok (.getfield 97, 3) := by decide +kernel
theorem dX0_hear_99 : decode cX0_hear 99 = .ok (.iconst 1, 1) := by decide +kernel
theorem dX0_hear_100 : decode cX0_hear 100 = .ok (.iadd, 1) := by decide +kernel
theorem dX0_hear_101 : decode cX0_hear 101 = .ok (.invokestatic 116, 3) := by decide +kernel
theorem dX0_hear_104 : decode cX0_hear 104 = .ok (.putfield 97, 3) := by decide +kernel
theorem dX0_hear_107 : decode cX0_hear 107 = .ok (.iload 4, 2) := by decide +kernel
theorem dX0_hear_109 : decode cX0_hear 109 = .ok (.ireturn, 1) := by decide +kernel
theorem dX0_passHour_0 : decode cX0_passHour 0 = .ok (.iconst 0, 1) := by decide +kernel
theorem dX0_passHour_1 : decode cX0_passHour 1 = .ok (.istore_n 1, 1) := by decide +kernel
theorem dX0_passHour_2 : decode cX0_passHour 2 = .ok (.iload_n 1, 1) := by decide +kernel
theorem dX0_passHour_3 : decode cX0_passHour 3 = .ok (.aload_n 0, 1) := by decide +kernel
theorem dX0_passHour_4 : decode cX0_passHour 4 = .ok (.getfield 27, 3) := by decide +kernel
theorem dX0_passHour_7 : decode cX0_passHour 7 = .ok (.if_icmp .ge 50, 3) := by decide +kernel
theorem dX0_passHour_10 : decode cX0_passHour 10 = .ok (.iload_n 1, 1) := by decide +kernel
theorem dX0_passHour_11 : decode cX0_passHour 11 = .ok (.aload_n 0, 1) := by decide +kernel
theorem dX0_passHour_12 : decode cX0_passHour 12 = .ok (.getfield 23, 3) := by decide +kernel
theorem dX0_passHour_15 : decode cX0_passHour 15 = .ok (.arraylength, 1) := by decide +kernel
theorem dX0_passHour_16 : decode cX0_passHour 16 = .ok (.if_icmp .ge 41, 3) := by decide +kernel
theorem dX0_passHour_19 : decode cX0_passHour 19 = .ok (.aload_n 0, 1) := by decide +kernel
theorem dX0_passHour_20 : decode cX0_passHour 20 = .ok (.getfield 23, 3) := by decide +kernel
theorem dX0_passHour_23 : decode cX0_passHour 23 = .ok (.iload_n 1, 1) := by decide +kernel
theorem dX0_passHour_24 : decode cX0_passHour 24 = .ok (.aaload, 1) := by decide +kernel
theorem dX0_passHour_25 : decode cX0_passHour 25 = .ok (.astore_n 2, 1) := by decide +kernel
theorem dX0_passHour_26 : decode cX0_passHour 26 = .ok (.aload_n 2, 1) := by decide +kernel
theorem dX0_passHour_27 : decode cX0_passHour 27 = .ok (.getfield 88, 3) := by decide +kernel
theorem dX0_passHour_30 : decode cX0_passHour 30 = .ok (.iconst 5, 1) := by decide +kernel
theorem dX0_passHour_31 : decode cX0_passHour 31 = .ok (.irem, 1) := by decide +kernel
theorem dX0_passHour_32 : decode cX0_passHour 32 = .ok (.ifCond .ne 19, 3) := by decide +kernel
theorem dX0_passHour_35 : decode cX0_passHour 35 = .ok (.aload_n 2, 1) := by decide +kernel
theorem dX0_passHour_36 : decode cX0_passHour 36 = .ok (.sipush 999, 3) := by decide +kernel
theorem dX0_passHour_39 : decode cX0_passHour 39 = .ok (.aload_n 2, 1) := by decide +kernel
theorem dX0_passHour_40 : decode cX0_passHour 40 = .ok (.getfield 91, 3) := by decide +kernel
theorem dX0_passHour_43 : decode cX0_passHour 43 = .ok (.iconst 1, 1) := by decide +kernel
theorem dX0_passHour_44 : decode cX0_passHour 44 = .ok (.iadd, 1) := by decide +kernel
theorem dX0_passHour_45 : decode cX0_passHour 45 = .ok (.invokestatic 116, 3) := by decide +kernel
theorem dX0_passHour_48 : decode cX0_passHour 48 = .ok (.putfield 91, 3) := by decide +kernel
theorem dX0_passHour_51 : decode cX0_passHour 51 = .ok (.iinc 1 1, 3) := by decide +kernel
theorem dX0_passHour_54 : decode cX0_passHour 54 = .ok (.goto (-52), 3) := by decide +kernel
theorem dX0_passHour_57 : decode cX0_passHour 57 = .ok (.aload_n 0, 1) := by decide +kernel
theorem dX0_passHour_58 : decode cX0_passHour 58 = .ok (.dup, 1) := by decide +kernel
theorem dX0_passHour_59 : decode cX0_passHour 59 = .ok (.getfield 53, 3) := by decide +kernel
theorem dX0_passHour_62 : decode cX0_passHour 62 = .ok (.iconst 1, 1) := by decide +kernel
theorem dX0_passHour_63 : decode cX0_passHour 63 = .ok (.iadd, 1) := by decide +kernel
theorem dX0_passHour_64 : decode cX0_passHour 64 = .ok (.putfield 53, 3) := by decide +kernel
theorem dX0_passHour_67 : decode cX0_passHour 67 = .ok (.return_, 1) := by decide +kernel
set_option maxRecDepth 20000 in
theorem ggX0_passHourByDraws_X0_canGo : GoodIn wsX0_passHourByDraws wsX0_canGo := goodIn_r _ [7, 8, 9, 10, 11, 6, 12, 13, 14, 110, 111, 112, 113, 98, 99, 100, 101, 102, 103, 104, 105, 106, 107, 108, 109] (by decide +kernel) (by decide +kernel)
set_option maxRecDepth 20000 in
theorem gX0_passHourByDraws_X0_canGo : GoodIn wsX0_passHourByDraws (wsV RX0 147 RX0 yX0_canGo wsX0_canGo) := goodIn_app (goodIn_of _ (by decide +kernel)) ggX0_passHourByDraws_X0_canGo
set_option maxRecDepth 20000 in
theorem ggX0_passHourByDraws_X0_draw : GoodIn wsX0_passHourByDraws wsX0_draw := goodIn_r _ [18, 19, 20, 98, 99, 100, 101, 102, 103, 104, 105, 106, 107, 108, 109] (by decide +kernel) (by decide +kernel)
set_option maxRecDepth 20000 in
theorem gX0_passHourByDraws_X0_draw : GoodIn wsX0_passHourByDraws (wsV RX0 150 RX0 yX0_draw wsX0_draw) := goodIn_app (goodIn_of _ (by decide +kernel)) ggX0_passHourByDraws_X0_draw
set_option maxRecDepth 20000 in
theorem ggX0_passHourByDraws_X0_hear : GoodIn wsX0_passHourByDraws wsX0_hear := goodIn_r _ [24, 13, 25, 26, 27, 28, 29, 8, 30, 31, 32, 33, 34, 35, 36, 6, 37, 14, 38, 39, 40, 41, 42, 43, 44, 45, 46, 47, 48, 49, 50, 51, 52, 53, 54, 55, 56, 57, 58, 59, 60, 61, 62, 63, 64, 65, 66, 67, 68, 69, 70, 71, 72, 73, 74, 75, 76, 77, 78, 79, 80, 81, 82, 83, 84, 85, 86, 87, 88, 89, 90, 91, 92, 93, 110, 111, 112, 113, 114, 115, 116, 117, 98, 99, 100, 101, 102, 103, 104, 105, 106, 107, 108, 109, 118, 119, 120] (by decide +kernel) (by decide +kernel)
set_option maxRecDepth 20000 in
theorem gX0_passHourByDraws_X0_hear : GoodIn wsX0_passHourByDraws (wsV RX0 153 RX0 yX0_hear wsX0_hear) := goodIn_app (goodIn_of _ (by decide +kernel)) ggX0_passHourByDraws_X0_hear
set_option maxRecDepth 20000 in
theorem ggX0_passHourByDraws_X0_passHour : GoodIn wsX0_passHourByDraws wsX0_passHour := goodIn_r _ [97, 1, 2, 13, 8, 26, 27, 28, 29, 43, 98, 99, 100, 101, 102, 103, 104, 105, 106, 107, 108, 109, 110, 111, 112, 113] (by decide +kernel) (by decide +kernel)
set_option maxRecDepth 20000 in
theorem gX0_passHourByDraws_X0_passHour : GoodIn wsX0_passHourByDraws (wsV RX0 157 RX0 yX0_passHour wsX0_passHour) := goodIn_app (goodIn_of _ (by decide +kernel)) ggX0_passHourByDraws_X0_passHour
theorem dX0_passHourByDraws_0 : decode cX0_passHourByDraws 0 = .ok (.iconst 0, 1) := by decide +kernel
theorem dX0_passHourByDraws_1 : decode cX0_passHourByDraws 1 = .ok (.istore_n 1, 1) := by decide +kernel
theorem dX0_passHourByDraws_2 : decode cX0_passHourByDraws 2 = .ok (.iconst 0, 1) := by decide +kernel
theorem dX0_passHourByDraws_3 : decode cX0_passHourByDraws 3 = .ok (.istore_n 2, 1) := by decide +kernel
theorem dX0_passHourByDraws_4 : decode cX0_passHourByDraws 4 = .ok (.iload_n 2, 1) := by decide +kernel
theorem dX0_passHourByDraws_5 : decode cX0_passHourByDraws 5 = .ok (.aload_n 0, 1) := by decide +kernel
theorem dX0_passHourByDraws_6 : decode cX0_passHourByDraws 6 = .ok (.getfield 27, 3) := by decide +kernel
theorem dX0_passHourByDraws_9 : decode cX0_passHourByDraws 9 = .ok (.if_icmp .ge 51, 3) := by decide +kernel
theorem dX0_passHourByDraws_12 : decode cX0_passHourByDraws 12 = .ok (.iload_n 2, 1) := by decide +kernel
theorem dX0_passHourByDraws_13 : decode cX0_passHourByDraws 13 = .ok (.aload_n 0, 1) := by decide +kernel
theorem dX0_passHourByDraws_14 : decode cX0_passHourByDraws 14 = .ok (.getfield 23, 3) := by decide +kernel
theorem dX0_passHourByDraws_17 : decode cX0_passHourByDraws 17 = .ok (.arraylength, 1) := by decide +kernel
theorem dX0_passHourByDraws_18 : decode cX0_passHourByDraws 18 = .ok (.if_icmp .ge 42, 3) := by decide +kernel
theorem dX0_passHourByDraws_21 : decode cX0_passHourByDraws 21 = .ok (.aload_n 0, 1) := by decide +kernel
theorem dX0_passHourByDraws_22 : decode cX0_passHourByDraws 22 = .ok (.getfield 23, 3) := by decide +kernel
theorem dX0_passHourByDraws_25 : decode cX0_passHourByDraws 25 = .ok (.iload_n 2, 1) := by decide +kernel
theorem dX0_passHourByDraws_26 : decode cX0_passHourByDraws 26 = .ok (.aaload, 1) := by decide +kernel
theorem dX0_passHourByDraws_27 : decode cX0_passHourByDraws 27 = .ok (.astore_n 3, 1) := by decide +kernel
theorem dX0_passHourByDraws_28 : decode cX0_passHourByDraws 28 = .ok (.aload_n 0, 1) := by decide +kernel
theorem dX0_passHourByDraws_29 : decode cX0_passHourByDraws 29 = .ok (.aload_n 3, 1) := by decide +kernel
theorem dX0_passHourByDraws_30 : decode cX0_passHourByDraws 30 = .ok (.invokevirtual 147, 3) := by decide +kernel
theorem dX0_passHourByDraws_33 : decode cX0_passHourByDraws 33 = .ok (.ifCond .eq 21, 3) := by decide +kernel
theorem dX0_passHourByDraws_36 : decode cX0_passHourByDraws 36 = .ok (.aload_n 0, 1) := by decide +kernel
theorem dX0_passHourByDraws_37 : decode cX0_passHourByDraws 37 = .ok (.aload_n 3, 1) := by decide +kernel
theorem dX0_passHourByDraws_38 : decode cX0_passHourByDraws 38 = .ok (.aload_n 0, 1) := by decide +kernel
theorem dX0_passHourByDraws_39 : decode cX0_passHourByDraws 39 = .ok (.invokevirtual 150, 3) := by decide +kernel
theorem dX0_passHourByDraws_42 : decode cX0_passHourByDraws 42 = .ok (.bipush 100, 2) := by decide +kernel
theorem dX0_passHourByDraws_44 : decode cX0_passHourByDraws 44 = .ok (.irem, 1) := by decide +kernel
theorem dX0_passHourByDraws_45 : decode cX0_passHourByDraws 45 = .ok (.invokevirtual 153, 3) := by decide +kernel
theorem dX0_passHourByDraws_48 : decode cX0_passHourByDraws 48 = .ok (.ifCond .ne 6, 3) := by decide +kernel
theorem dX0_passHourByDraws_51 : decode cX0_passHourByDraws 51 = .ok (.iinc 1 1, 3) := by decide +kernel
theorem dX0_passHourByDraws_54 : decode cX0_passHourByDraws 54 = .ok (.iinc 2 1, 3) := by decide +kernel
theorem dX0_passHourByDraws_57 : decode cX0_passHourByDraws 57 = .ok (.goto (-53), 3) := by decide +kernel
theorem dX0_passHourByDraws_60 : decode cX0_passHourByDraws 60 = .ok (.aload_n 0, 1) := by decide +kernel
theorem dX0_passHourByDraws_61 : decode cX0_passHourByDraws 61 = .ok (.invokevirtual 157, 3) := by decide +kernel
theorem dX0_passHourByDraws_64 : decode cX0_passHourByDraws 64 = .ok (.iload_n 1, 1) := by decide +kernel
theorem dX0_passHourByDraws_65 : decode cX0_passHourByDraws 65 = .ok (.ireturn, 1) := by decide +kernel
theorem dX0_draw_0 : decode cX0_draw 0 = .ok (.aload_n 0, 1) := by decide +kernel
theorem dX0_draw_1 : decode cX0_draw 1 = .ok (.aload_n 0, 1) := by decide +kernel
theorem dX0_draw_2 : decode cX0_draw 2 = .ok (.getfield 56, 3) := by decide +kernel
theorem dX0_draw_5 : decode cX0_draw 5 = .ok (.ldc 160, 2) := by decide +kernel
theorem dX0_draw_7 : decode cX0_draw 7 = .ok (.imul, 1) := by decide +kernel
theorem dX0_draw_8 : decode cX0_draw 8 = .ok (.sipush 12345, 3) := by decide +kernel
theorem dX0_draw_11 : decode cX0_draw 11 = .ok (.iadd, 1) := by decide +kernel
theorem dX0_draw_12 : decode cX0_draw 12 = .ok (.putfield 56, 3) := by decide +kernel
theorem dX0_draw_15 : decode cX0_draw 15 = .ok (.aload_n 0, 1) := by decide +kernel
theorem dX0_draw_16 : decode cX0_draw 16 = .ok (.getfield 56, 3) := by decide +kernel
theorem dX0_draw_19 : decode cX0_draw 19 = .ok (.bipush 8, 2) := by decide +kernel
theorem dX0_draw_21 : decode cX0_draw 21 = .ok (.iushr, 1) := by decide +kernel
theorem dX0_draw_22 : decode cX0_draw 22 = .ok (.ireturn, 1) := by decide +kernel
theorem dX1_init_0 : decode cX1_init 0 = .ok (.aload_n 0, 1) := by decide +kernel
theorem dX1_init_1 : decode cX1_init 1 = .ok (.invokespecial 3, 3) := by decide +kernel
theorem dX1_init_4 : decode cX1_init 4 = .ok (.aload_n 0, 1) := by decide +kernel
theorem dX1_init_5 : decode cX1_init 5 = .ok (.bipush 100, 2) := by decide +kernel
theorem dX1_init_7 : decode cX1_init 7 = .ok (.newarray .int, 2) := by decide +kernel
theorem dX1_init_9 : decode cX1_init 9 = .ok (.putfield 9, 3) := by decide +kernel
theorem dX1_init_12 : decode cX1_init 12 = .ok (.aload_n 0, 1) := by decide +kernel
theorem dX1_init_13 : decode cX1_init 13 = .ok (.bipush 100, 2) := by decide +kernel
theorem dX1_init_15 : decode cX1_init 15 = .ok (.newarray .int, 2) := by decide +kernel
theorem dX1_init_17 : decode cX1_init 17 = .ok (.putfield 15, 3) := by decide +kernel
theorem dX1_init_20 : decode cX1_init 20 = .ok (.aload_n 0, 1) := by decide +kernel
theorem dX1_init_21 : decode cX1_init 21 = .ok (.iconst 3, 1) := by decide +kernel
theorem dX1_init_22 : decode cX1_init 22 = .ok (.newarray .int, 2) := by decide +kernel
theorem dX1_init_24 : decode cX1_init 24 = .ok (.putfield 18, 3) := by decide +kernel
theorem dX1_init_27 : decode cX1_init 27 = .ok (.aload_n 0, 1) := by decide +kernel
theorem dX1_init_28 : decode cX1_init 28 = .ok (.iconst 0, 1) := by decide +kernel
theorem dX1_init_29 : decode cX1_init 29 = .ok (.putfield 21, 3) := by decide +kernel
theorem dX1_init_32 : decode cX1_init 32 = .ok (.return_, 1) := by decide +kernel
set_option maxRecDepth 20000 in
theorem ggX1_find_J7_fill_53178 : GoodIn wsX1_find wsJ7_fill_53178 := goodIn_r _ [13] (by decide +kernel) (by decide +kernel)
set_option maxRecDepth 20000 in
theorem gX1_find_J7_fill_53178 : GoodIn wsX1_find (va_wsS RX1 25 yJ7_fill_53178 wsJ7_fill_53178) := goodIn_app (goodIn_of _ (by decide +kernel)) ggX1_find_J7_fill_53178
set_option maxRecDepth 20000 in
theorem ggX1_find_X1_contentFrom : GoodIn wsX1_find wsX1_contentFrom := goodIn_r _ [17, 7, 18, 19, 20, 21, 22, 23, 24, 25, 26, 27, 28, 29, 30, 31, 32, 33, 34, 35, 36, 37, 38, 39, 40, 41, 42, 43, 44, 45, 46, 47, 48, 49, 50, 51, 52, 53, 54, 55, 56, 57, 58, 59, 60, 61, 62, 63, 64, 65, 66, 67, 68, 69, 70, 71, 72, 73, 74, 75, 76, 77, 78, 79, 80, 81, 5, 82, 83, 4, 6, 92, 93, 94, 95, 96, 97, 98, 99, 100, 101, 102, 103, 104, 105, 106, 107, 108, 109, 110] (by decide +kernel) (by decide +kernel)
set_option maxRecDepth 20000 in
theorem gX1_find_X1_contentFrom : GoodIn wsX1_find (va_wsS RX1 42 yX1_contentFrom wsX1_contentFrom) := goodIn_app (goodIn_of _ (by decide +kernel)) ggX1_find_X1_contentFrom
set_option maxRecDepth 20000 in
theorem ggX1_find_X1_choose : GoodIn wsX1_find wsX1_choose := goodIn_r _ [87, 1, 2, 9, 8, 84, 85, 86, 16, 88, 89, 90, 91] (by decide +kernel) (by decide +kernel)
set_option maxRecDepth 20000 in
theorem gX1_find_X1_choose : GoodIn wsX1_find (wsV RX1 46 RX1 yX1_choose wsX1_choose) := goodIn_app (goodIn_of _ (by decide +kernel)) ggX1_find_X1_choose
theorem dX1_find_0 : decode cX1_find 0 = .ok (.aload_n 0, 1) := by decide +kernel
theorem dX1_find_1 : decode cX1_find 1 = .ok (.getfield 18, 3) := by decide +kernel
theorem dX1_find_4 : decode cX1_find 4 = .ok (.iconst (-1), 1) := by decide +kernel
theorem dX1_find_5 : decode cX1_find 5 = .ok (.invokestatic 25, 3) := by decide +kernel
theorem dX1_find_8 : decode cX1_find 8 = .ok (.aload_n 0, 1) := by decide +kernel
theorem dX1_find_9 : decode cX1_find 9 = .ok (.iconst 0, 1) := by decide +kernel
theorem dX1_find_10 : decode cX1_find 10 = .ok (.putfield 21, 3) := by decide +kernel
theorem dX1_find_13 : decode cX1_find 13 = .ok (.iconst 0, 1) := by decide +kernel
theorem dX1_find_14 : decode cX1_find 14 = .ok (.iload_n 2, 1) := by decide +kernel
theorem dX1_find_15 : decode cX1_find 15 = .ok (.invokestatic 31, 3) := by decide +kernel
theorem dX1_find_18 : decode cX1_find 18 = .ok (.istore_n 3, 1) := by decide +kernel
theorem dX1_find_19 : decode cX1_find 19 = .ok (.iload_n 3, 1) := by decide +kernel
theorem dX1_find_20 : decode cX1_find 20 = .ok (.aload_n 1, 1) := by decide +kernel
theorem dX1_find_21 : decode cX1_find 21 = .ok (.getfield 37, 3) := by decide +kernel
theorem dX1_find_24 : decode cX1_find 24 = .ok (.if_icmp .ge 21, 3) := by decide +kernel
theorem dX1_find_27 : decode cX1_find 27 = .ok (.aload_n 0, 1) := by decide +kernel
theorem dX1_find_28 : decode cX1_find 28 = .ok (.dup, 1) := by decide +kernel
theorem dX1_find_29 : decode cX1_find 29 = .ok (.getfield 21, 3) := by decide +kernel
theorem dX1_find_32 : decode cX1_find 32 = .ok (.iconst 1, 1) := by decide +kernel
theorem dX1_find_33 : decode cX1_find 33 = .ok (.iload_n 3, 1) := by decide +kernel
theorem dX1_find_34 : decode cX1_find 34 = .ok (.ishl, 1) := by decide +kernel
theorem dX1_find_35 : decode cX1_find 35 = .ok (.ior, 1) := by decide +kernel
theorem dX1_find_36 : decode cX1_find 36 = .ok (.putfield 21, 3) := by decide +kernel
theorem dX1_find_39 : decode cX1_find 39 = .ok (.iinc 3 1, 3) := by decide +kernel
theorem dX1_find_42 : decode cX1_find 42 = .ok (.goto (-23), 3) := by decide +kernel
theorem dX1_find_45 : decode cX1_find 45 = .ok (.iconst 0, 1) := by decide +kernel
theorem dX1_find_46 : decode cX1_find 46 = .ok (.istore_n 3, 1) := by decide +kernel
theorem dX1_find_47 : decode cX1_find 47 = .ok (.bipush 99, 2) := by decide +kernel
theorem dX1_find_49 : decode cX1_find 49 = .ok (.istore 4, 2) := by decide +kernel
theorem dX1_find_51 : decode cX1_find 51 = .ok (.iload 4, 2) := by decide +kernel
theorem dX1_find_53 : decode cX1_find 53 = .ok (.ifCond .lt 41, 3) := by decide +kernel
theorem dX1_find_56 : decode cX1_find 56 = .ok (.aload_n 0, 1) := by decide +kernel
theorem dX1_find_57 : decode cX1_find 57 = .ok (.getfield 9, 3) := by decide +kernel
theorem dX1_find_60 : decode cX1_find 60 = .ok (.iload 4, 2) := by decide +kernel
theorem dX1_find_62 : decode cX1_find 62 = .ok (.aload_n 1, 1) := by decide +kernel
theorem dX1_find_63 : decode cX1_find 63 = .ok (.iload_n 2, 1) := by decide +kernel
theorem dX1_find_64 : decode cX1_find 64 = .ok (.iload 4, 2) := by decide +kernel
theorem dX1_find_66 : decode cX1_find 66 = .ok (.invokestatic 42, 3) := by decide +kernel
theorem dX1_find_69 : decode cX1_find 69 = .ok (.iastore, 1) := by decide +kernel
theorem dX1_find_70 : decode cX1_find 70 = .ok (.iload_n 3, 1) := by decide +kernel
theorem dX1_find_71 : decode cX1_find 71 = .ok (.aload_n 0, 1) := by decide +kernel
theorem dX1_find_72 : decode cX1_find 72 = .ok (.getfield 9, 3) := by decide +kernel
theorem dX1_find_75 : decode cX1_find 75 = .ok (.iload 4, 2) := by decide +kernel
theorem dX1_find_77 : decode cX1_find 77 = .ok (.iaload, 1) := by decide +kernel
theorem dX1_find_78 : decode cX1_find 78 = .ok (.ior, 1) := by decide +kernel
theorem dX1_find_79 : decode cX1_find 79 = .ok (.istore_n 3, 1) := by decide +kernel
theorem dX1_find_80 : decode cX1_find 80 = .ok (.aload_n 0, 1) := by decide +kernel
theorem dX1_find_81 : decode cX1_find 81 = .ok (.getfield 15, 3) := by decide +kernel
theorem dX1_find_84 : decode cX1_find 84 = .ok (.iload 4, 2) := by decide +kernel
theorem dX1_find_86 : decode cX1_find 86 = .ok (.iload_n 3, 1) := by decide +kernel
theorem dX1_find_87 : decode cX1_find 87 = .ok (.iastore, 1) := by decide +kernel
theorem dX1_find_88 : decode cX1_find 88 = .ok (.iinc 4 (-1), 3) := by decide +kernel
theorem dX1_find_91 : decode cX1_find 91 = .ok (.goto (-40), 3) := by decide +kernel
theorem dX1_find_94 : decode cX1_find 94 = .ok (.iconst 0, 1) := by decide +kernel
theorem dX1_find_95 : decode cX1_find 95 = .ok (.istore 4, 2) := by decide +kernel
theorem dX1_find_97 : decode cX1_find 97 = .ok (.iload 4, 2) := by decide +kernel
theorem dX1_find_99 : decode cX1_find 99 = .ok (.iconst 3, 1) := by decide +kernel
theorem dX1_find_100 : decode cX1_find 100 = .ok (.if_icmp .gt 24, 3) := by decide +kernel
theorem dX1_find_103 : decode cX1_find 103 = .ok (.aload_n 0, 1) := by decide +kernel
theorem dX1_find_104 : decode cX1_find 104 = .ok (.iconst 0, 1) := by decide +kernel
theorem dX1_find_105 : decode cX1_find 105 = .ok (.iload 4, 2) := by decide +kernel
theorem dX1_find_107 : decode cX1_find 107 = .ok (.iconst 0, 1) := by decide +kernel
theorem dX1_find_108 : decode cX1_find 108 = .ok (.iconst 0, 1) := by decide +kernel
theorem dX1_find_109 : decode cX1_find 109 = .ok (.invokevirtual 46, 3) := by decide +kernel
theorem dX1_find_112 : decode cX1_find 112 = .ok (.ifCond .eq 6, 3) := by decide +kernel
theorem dX1_find_115 : decode cX1_find 115 = .ok (.iload 4, 2) := by decide +kernel
theorem dX1_find_117 : decode cX1_find 117 = .ok (.ireturn, 1) := by decide +kernel
theorem dX1_find_118 : decode cX1_find 118 = .ok (.iinc 4 1, 3) := by decide +kernel
theorem dX1_find_121 : decode cX1_find 121 = .ok (.goto (-24), 3) := by decide +kernel
theorem dX1_find_124 : decode cX1_find 124 = .ok (.iconst (-1), 1) := by decide +kernel
theorem dX1_find_125 : decode cX1_find 125 = .ok (.ireturn, 1) := by decide +kernel
theorem dX1_wordAt_0 : decode cX1_wordAt 0 = .ok (.iload_n 1, 1) := by decide +kernel
theorem dX1_wordAt_1 : decode cX1_wordAt 1 = .ok (.ifCond .lt 21, 3) := by decide +kernel
theorem dX1_wordAt_4 : decode cX1_wordAt 4 = .ok (.iload_n 1, 1) := by decide +kernel
theorem dX1_wordAt_5 : decode cX1_wordAt 5 = .ok (.aload_n 0, 1) := by decide +kernel
theorem dX1_wordAt_6 : decode cX1_wordAt 6 = .ok (.getfield 18, 3) := by decide +kernel
theorem dX1_wordAt_9 : decode cX1_wordAt 9 = .ok (.arraylength, 1) := by decide +kernel
theorem dX1_wordAt_10 : decode cX1_wordAt 10 = .ok (.if_icmp .ge 12, 3) := by decide +kernel
theorem dX1_wordAt_13 : decode cX1_wordAt 13 = .ok (.aload_n 0, 1) := by decide +kernel
theorem dX1_wordAt_14 : decode cX1_wordAt 14 = .ok (.getfield 18, 3) := by decide +kernel
theorem dX1_wordAt_17 : decode cX1_wordAt 17 = .ok (.iload_n 1, 1) := by decide +kernel
theorem dX1_wordAt_18 : decode cX1_wordAt 18 = .ok (.iaload, 1) := by decide +kernel
theorem dX1_wordAt_19 : decode cX1_wordAt 19 = .ok (.goto 4, 3) := by decide +kernel
theorem dX1_wordAt_22 : decode cX1_wordAt 22 = .ok (.iconst (-1), 1) := by decide +kernel
theorem dX1_wordAt_23 : decode cX1_wordAt 23 = .ok (.ireturn, 1) := by decide +kernel
set_option maxRecDepth 20000 in
theorem ggX1_contentFrom_X0_judgeOn : GoodIn wsX1_contentFrom wsX0_judgeOn := goodIn_r _ [6, 7, 8, 71, 72, 73, 74, 75, 76, 77, 78, 79, 80, 81, 82] (by decide +kernel) (by decide +kernel)
set_option maxRecDepth 20000 in
theorem gX1_contentFrom_X0_judgeOn : GoodIn wsX1_contentFrom (wsV RX1 50 RX0 yX0_judgeOn wsX0_judgeOn) := goodIn_app (goodIn_of _ (by decide +kernel)) ggX1_contentFrom_X0_judgeOn
set_option maxRecDepth 20000 in
theorem ggX1_contentFrom_X0_isContent : GoodIn wsX1_contentFrom wsX0_isContent := goodIn_r _ [12, 13, 14, 15, 16, 17, 18, 19, 20, 21, 22, 23, 24, 25, 26, 27, 28, 29, 30, 31, 32, 33, 34, 35, 36, 37, 38, 39, 5, 40, 41, 42, 43, 44, 45, 46, 47, 48, 49, 50, 51, 52, 53, 54, 55, 56, 57, 58, 59, 60, 61, 62, 63, 64, 65, 66, 67, 68, 69, 70, 71, 72, 73, 74, 75, 76, 77, 78, 79, 80, 81, 82, 83, 84, 85, 86, 87, 88, 89] (by decide +kernel) (by decide +kernel)
set_option maxRecDepth 20000 in
theorem gX1_contentFrom_X0_isContent : GoodIn wsX1_contentFrom (wsV RX1 54 RX0 yX0_isContent wsX0_isContent) := goodIn_app (goodIn_of _ (by decide +kernel)) ggX1_contentFrom_X0_isContent
theorem dX1_contentFrom_0 : decode cX1_contentFrom 0 = .ok (.iconst 0, 1) := by decide +kernel
theorem dX1_contentFrom_1 : decode cX1_contentFrom 1 = .ok (.istore_n 3, 1) := by decide +kernel
theorem dX1_contentFrom_2 : decode cX1_contentFrom 2 = .ok (.iload_n 1, 1) := by decide +kernel
theorem dX1_contentFrom_3 : decode cX1_contentFrom 3 = .ok (.istore 4, 2) := by decide +kernel
theorem dX1_contentFrom_5 : decode cX1_contentFrom 5 = .ok (.iload 4, 2) := by decide +kernel
theorem dX1_contentFrom_7 : decode cX1_contentFrom 7 = .ok (.aload_n 0, 1) := by decide +kernel
theorem dX1_contentFrom_8 : decode cX1_contentFrom 8 = .ok (.getfield 37, 3) := by decide +kernel
theorem dX1_contentFrom_11 : decode cX1_contentFrom 11 = .ok (.if_icmp .ge 39, 3) := by decide +kernel
theorem dX1_contentFrom_14 : decode cX1_contentFrom 14 = .ok (.aload_n 0, 1) := by decide +kernel
theorem dX1_contentFrom_15 : decode cX1_contentFrom 15 = .ok (.iload 4, 2) := by decide +kernel
theorem dX1_contentFrom_17 : decode cX1_contentFrom 17 = .ok (.invokevirtual 50, 3) := by decide +kernel
theorem dX1_contentFrom_20 : decode cX1_contentFrom 20 = .ok (.astore 5, 2) := by decide +kernel
theorem dX1_contentFrom_22 : decode cX1_contentFrom 22 = .ok (.aload 5, 2) := by decide +kernel
theorem dX1_contentFrom_24 : decode cX1_contentFrom 24 = .ok (.ifnull 20, 3) := by decide +kernel
theorem dX1_contentFrom_27 : decode cX1_contentFrom 27 = .ok (.aload_n 0, 1) := by decide +kernel
theorem dX1_contentFrom_28 : decode cX1_contentFrom 28 = .ok (.aload 5, 2) := by decide +kernel
theorem dX1_contentFrom_30 : decode cX1_contentFrom 30 = .ok (.iload_n 2, 1) := by decide +kernel
theorem dX1_contentFrom_31 : decode cX1_contentFrom 31 = .ok (.invokevirtual 54, 3) := by decide +kernel
theorem dX1_contentFrom_34 : decode cX1_contentFrom 34 = .ok (.ifCond .eq 10, 3) := by decide +kernel
theorem dX1_contentFrom_37 : decode cX1_contentFrom 37 = .ok (.iload_n 3, 1) := by decide +kernel
theorem dX1_contentFrom_38 : decode cX1_contentFrom 38 = .ok (.iconst 1, 1) := by decide +kernel
theorem dX1_contentFrom_39 : decode cX1_contentFrom 39 = .ok (.iload 4, 2) := by decide +kernel
theorem dX1_contentFrom_41 : decode cX1_contentFrom 41 = .ok (.ishl, 1) := by decide +kernel
theorem dX1_contentFrom_42 : decode cX1_contentFrom 42 = .ok (.ior, 1) := by decide +kernel
theorem dX1_contentFrom_43 : decode cX1_contentFrom 43 = .ok (.istore_n 3, 1) := by decide +kernel
theorem dX1_contentFrom_44 : decode cX1_contentFrom 44 = .ok (.iinc 4 1, 3) := by decide +kernel
theorem dX1_contentFrom_47 : decode cX1_contentFrom 47 = .ok (.goto (-42), 3) := by decide +kernel
theorem dX1_contentFrom_50 : decode cX1_contentFrom 50 = .ok (.iload_n 3, 1) := by decide +kernel
theorem dX1_contentFrom_51 : decode cX1_contentFrom 51 = .ok (.ireturn, 1) := by decide +kernel
set_option maxRecDepth 20000 in
theorem ggX1_choose_X1_choose : GoodIn wsX1_choose wsX1_choose := goodIn_r _ [0, 1, 2, 3, 4, 5, 6, 7, 8, 9, 10, 11, 12] (by decide +kernel) (by decide +kernel)
set_option maxRecDepth 20000 in
theorem gX1_choose_X1_choose : GoodIn wsX1_choose (wsV RX1 46 RX1 yX1_choose wsX1_choose) := goodIn_app (goodIn_of _ (by decide +kernel)) ggX1_choose_X1_choose
theorem dX1_choose_0 : decode cX1_choose 0 = .ok (.iload_n 1, 1) := by decide +kernel
theorem dX1_choose_1 : decode cX1_choose 1 = .ok (.iload_n 2, 1) := by decide +kernel
theorem dX1_choose_2 : decode cX1_choose 2 = .ok (.if_icmp .ge 12, 3) := by decide +kernel
theorem dX1_choose_5 : decode cX1_choose 5 = .ok (.iload_n 1, 1) := by decide +kernel
theorem dX1_choose_6 : decode cX1_choose 6 = .ok (.aload_n 0, 1) := by decide +kernel
theorem dX1_choose_7 : decode cX1_choose 7 = .ok (.getfield 18, 3) := by decide +kernel
theorem dX1_choose_10 : decode cX1_choose 10 = .ok (.arraylength, 1) := by decide +kernel
theorem dX1_choose_11 : decode cX1_choose 11 = .ok (.if_icmp .lt 18, 3) := by decide +kernel
theorem dX1_choose_14 : decode cX1_choose 14 = .ok (.iload 4, 2) := by decide +kernel
theorem dX1_choose_16 : decode cX1_choose 16 = .ok (.aload_n 0, 1) := by decide +kernel
theorem dX1_choose_17 : decode cX1_choose 17 = .ok (.getfield 21, 3) := by decide +kernel
theorem dX1_choose_20 : decode cX1_choose 20 = .ok (.if_icmp .ne 7, 3) := by decide +kernel
theorem dX1_choose_23 : decode cX1_choose 23 = .ok (.iconst 1, 1) := by decide +kernel
theorem dX1_choose_24 : decode cX1_choose 24 = .ok (.goto 4, 3) := by decide +kernel
theorem dX1_choose_27 : decode cX1_choose 27 = .ok (.iconst 0, 1) := by decide +kernel
theorem dX1_choose_28 : decode cX1_choose 28 = .ok (.ireturn, 1) := by decide +kernel
theorem dX1_choose_29 : decode cX1_choose 29 = .ok (.iload_n 3, 1) := by decide +kernel
theorem dX1_choose_30 : decode cX1_choose 30 = .ok (.istore 5, 2) := by decide +kernel
theorem dX1_choose_32 : decode cX1_choose 32 = .ok (.iload 5, 2) := by decide +kernel
theorem dX1_choose_34 : decode cX1_choose 34 = .ok (.bipush 100, 2) := by decide +kernel
theorem dX1_choose_36 : decode cX1_choose 36 = .ok (.if_icmp .ge 72, 3) := by decide +kernel
theorem dX1_choose_39 : decode cX1_choose 39 = .ok (.iload 4, 2) := by decide +kernel
theorem dX1_choose_41 : decode cX1_choose 41 = .ok (.aload_n 0, 1) := by decide +kernel
theorem dX1_choose_42 : decode cX1_choose 42 = .ok (.getfield 15, 3) := by decide +kernel
theorem dX1_choose_45 : decode cX1_choose 45 = .ok (.iload 5, 2) := by decide +kernel
theorem dX1_choose_47 : decode cX1_choose 47 = .ok (.iaload, 1) := by decide +kernel
theorem dX1_choose_48 : decode cX1_choose 48 = .ok (.ior, 1) := by decide +kernel
theorem dX1_choose_49 : decode cX1_choose 49 = .ok (.aload_n 0, 1) := by decide +kernel
theorem dX1_choose_50 : decode cX1_choose 50 = .ok (.getfield 21, 3) := by decide +kernel
theorem dX1_choose_53 : decode cX1_choose 53 = .ok (.if_icmp .ne 55, 3) := by decide +kernel
theorem dX1_choose_56 : decode cX1_choose 56 = .ok (.iload 4, 2) := by decide +kernel
theorem dX1_choose_58 : decode cX1_choose 58 = .ok (.aload_n 0, 1) := by decide +kernel
theorem dX1_choose_59 : decode cX1_choose 59 = .ok (.getfield 9, 3) := by decide +kernel
theorem dX1_choose_62 : decode cX1_choose 62 = .ok (.iload 5, 2) := by decide +kernel
theorem dX1_choose_64 : decode cX1_choose 64 = .ok (.iaload, 1) := by decide +kernel
theorem dX1_choose_65 : decode cX1_choose 65 = .ok (.ior, 1) := by decide +kernel
theorem dX1_choose_66 : decode cX1_choose 66 = .ok (.istore 6, 2) := by decide +kernel
theorem dX1_choose_68 : decode cX1_choose 68 = .ok (.iload 6, 2) := by decide +kernel
theorem dX1_choose_70 : decode cX1_choose 70 = .ok (.iload 4, 2) := by decide +kernel
theorem dX1_choose_72 : decode cX1_choose 72 = .ok (.if_icmp .eq 30, 3) := by decide +kernel
theorem dX1_choose_75 : decode cX1_choose 75 = .ok (.aload_n 0, 1) := by decide +kernel
theorem dX1_choose_76 : decode cX1_choose 76 = .ok (.getfield 18, 3) := by decide +kernel
theorem dX1_choose_79 : decode cX1_choose 79 = .ok (.iload_n 1, 1) := by decide +kernel
theorem dX1_choose_80 : decode cX1_choose 80 = .ok (.iload 5, 2) := by decide +kernel
theorem dX1_choose_82 : decode cX1_choose 82 = .ok (.iastore, 1) := by decide +kernel
theorem dX1_choose_83 : decode cX1_choose 83 = .ok (.aload_n 0, 1) := by decide +kernel
theorem dX1_choose_84 : decode cX1_choose 84 = .ok (.iload_n 1, 1) := by decide +kernel
theorem dX1_choose_85 : decode cX1_choose 85 = .ok (.iconst 1, 1) := by decide +kernel
theorem dX1_choose_86 : decode cX1_choose 86 = .ok (.iadd, 1) := by decide +kernel
theorem dX1_choose_87 : decode cX1_choose 87 = .ok (.iload_n 2, 1) := by decide +kernel
theorem dX1_choose_88 : decode cX1_choose 88 = .ok (.iload 5, 2) := by decide +kernel
theorem dX1_choose_90 : decode cX1_choose 90 = .ok (.iconst 1, 1) := by decide +kernel
theorem dX1_choose_91 : decode cX1_choose 91 = .ok (.iadd, 1) := by decide +kernel
theorem dX1_choose_92 : decode cX1_choose 92 = .ok (.iload 6, 2) := by decide +kernel
theorem dX1_choose_94 : decode cX1_choose 94 = .ok (.invokevirtual 46, 3) := by decide +kernel
theorem dX1_choose_97 : decode cX1_choose 97 = .ok (.ifCond .eq 5, 3) := by decide +kernel
theorem dX1_choose_100 : decode cX1_choose 100 = .ok (.iconst 1, 1) := by decide +kernel
theorem dX1_choose_101 : decode cX1_choose 101 = .ok (.ireturn, 1) := by decide +kernel
theorem dX1_choose_102 : decode cX1_choose 102 = .ok (.iinc 5 1, 3) := by decide +kernel
theorem dX1_choose_105 : decode cX1_choose 105 = .ok (.goto (-73), 3) := by decide +kernel
theorem dX1_choose_108 : decode cX1_choose 108 = .ok (.iconst 0, 1) := by decide +kernel
theorem dX1_choose_109 : decode cX1_choose 109 = .ok (.ireturn, 1) := by decide +kernel
theorem dX2_init_0 : decode cX2_init 0 = .ok (.aload_n 0, 1) := by decide +kernel
theorem dX2_init_1 : decode cX2_init 1 = .ok (.invokespecial 3, 3) := by decide +kernel
theorem dX2_init_4 : decode cX2_init 4 = .ok (.aload_n 0, 1) := by decide +kernel
theorem dX2_init_5 : decode cX2_init 5 = .ok (.iconst 0, 1) := by decide +kernel
theorem dX2_init_6 : decode cX2_init 6 = .ok (.putfield 9, 3) := by decide +kernel
theorem dX2_init_9 : decode cX2_init 9 = .ok (.aload_n 0, 1) := by decide +kernel
theorem dX2_init_10 : decode cX2_init 10 = .ok (.iconst 0, 1) := by decide +kernel
theorem dX2_init_11 : decode cX2_init 11 = .ok (.putfield 15, 3) := by decide +kernel
theorem dX2_init_14 : decode cX2_init 14 = .ok (.aload_n 0, 1) := by decide +kernel
theorem dX2_init_15 : decode cX2_init 15 = .ok (.iconst 0, 1) := by decide +kernel
theorem dX2_init_16 : decode cX2_init 16 = .ok (.putfield 18, 3) := by decide +kernel
theorem dX2_init_19 : decode cX2_init 19 = .ok (.aload_n 0, 1) := by decide +kernel
theorem dX2_init_20 : decode cX2_init 20 = .ok (.iload_n 1, 1) := by decide +kernel
theorem dX2_init_21 : decode cX2_init 21 = .ok (.putfield 21, 3) := by decide +kernel
theorem dX2_init_24 : decode cX2_init 24 = .ok (.return_, 1) := by decide +kernel
theorem dX2_copyFrom_0 : decode cX2_copyFrom 0 = .ok (.aload_n 0, 1) := by decide +kernel
theorem dX2_copyFrom_1 : decode cX2_copyFrom 1 = .ok (.aload_n 1, 1) := by decide +kernel
theorem dX2_copyFrom_2 : decode cX2_copyFrom 2 = .ok (.getfield 9, 3) := by decide +kernel
theorem dX2_copyFrom_5 : decode cX2_copyFrom 5 = .ok (.putfield 9, 3) := by decide +kernel
theorem dX2_copyFrom_8 : decode cX2_copyFrom 8 = .ok (.aload_n 0, 1) := by decide +kernel
theorem dX2_copyFrom_9 : decode cX2_copyFrom 9 = .ok (.aload_n 1, 1) := by decide +kernel
theorem dX2_copyFrom_10 : decode cX2_copyFrom 10 = .ok (.getfield 15, 3) := by decide +kernel
theorem dX2_copyFrom_13 : decode cX2_copyFrom 13 = .ok (.putfield 15, 3) := by decide +kernel
theorem dX2_copyFrom_16 : decode cX2_copyFrom 16 = .ok (.aload_n 0, 1) := by decide +kernel
theorem dX2_copyFrom_17 : decode cX2_copyFrom 17 = .ok (.aload_n 1, 1) := by decide +kernel
theorem dX2_copyFrom_18 : decode cX2_copyFrom 18 = .ok (.getfield 18, 3) := by decide +kernel
theorem dX2_copyFrom_21 : decode cX2_copyFrom 21 = .ok (.putfield 18, 3) := by decide +kernel
theorem dX2_copyFrom_24 : decode cX2_copyFrom 24 = .ok (.return_, 1) := by decide +kernel
set_option maxRecDepth 20000 in
theorem ggX2_nods_X2_nodsStrictly : GoodIn wsX2_nods wsX2_nodsStrictly := goodIn_r _ [9, 2, 10, 11, 12, 8, 13, 18, 19, 20, 21] (by decide +kernel) (by decide +kernel)
set_option maxRecDepth 20000 in
theorem gX2_nods_X2_nodsStrictly : GoodIn wsX2_nods (wsV RX2 24 RX2 yX2_nodsStrictly wsX2_nodsStrictly) := goodIn_app (goodIn_of _ (by decide +kernel)) ggX2_nods_X2_nodsStrictly
set_option maxRecDepth 20000 in
theorem ggX2_nods_X2_nodsMildly : GoodIn wsX2_nods wsX2_nodsMildly := goodIn_r _ [17, 2, 10, 11, 12, 8, 13, 18, 19, 20, 21] (by decide +kernel) (by decide +kernel)
set_option maxRecDepth 20000 in
theorem gX2_nods_X2_nodsMildly : GoodIn wsX2_nods (wsV RX2 28 RX2 yX2_nodsMildly wsX2_nodsMildly) := goodIn_app (goodIn_of _ (by decide +kernel)) ggX2_nods_X2_nodsMildly
set_option maxRecDepth 20000 in
theorem ggX2_nods_X2_nodsPlainly : GoodIn wsX2_nods wsX2_nodsPlainly := goodIn_r _ [13, 2, 18, 19, 20, 21] (by decide +kernel) (by decide +kernel)
set_option maxRecDepth 20000 in
theorem gX2_nods_X2_nodsPlainly : GoodIn wsX2_nods (wsV RX2 31 RX2 yX2_nodsPlainly wsX2_nodsPlainly) := goodIn_app (goodIn_of _ (by decide +kernel)) ggX2_nods_X2_nodsPlainly
theorem dX2_nods_0 : decode cX2_nods 0 = .ok (.aload_n 0, 1) := by decide +kernel
theorem dX2_nods_1 : decode cX2_nods 1 = .ok (.getfield 9, 3) := by decide +kernel
theorem dX2_nods_4 : decode cX2_nods 4 = .ok (.tableswitch 140 1 6 #[40, 46, 52, 69, 92, 117], 40) := by decide +kernel
theorem dX2_nods_44 : decode cX2_nods 44 = .ok (.aload_n 0, 1) := by decide +kernel
theorem dX2_nods_45 : decode cX2_nods 45 = .ok (.iload_n 1, 1) := by decide +kernel
theorem dX2_nods_46 : decode cX2_nods 46 = .ok (.invokevirtual 24, 3) := by decide +kernel
theorem dX2_nods_49 : decode cX2_nods 49 = .ok (.ireturn, 1) := by decide +kernel
theorem dX2_nods_50 : decode cX2_nods 50 = .ok (.aload_n 0, 1) := by decide +kernel
theorem dX2_nods_51 : decode cX2_nods 51 = .ok (.iload_n 1, 1) := by decide +kernel
theorem dX2_nods_52 : decode cX2_nods 52 = .ok (.invokevirtual 28, 3) := by decide +kernel
theorem dX2_nods_55 : decode cX2_nods 55 = .ok (.ireturn, 1) := by decide +kernel
theorem dX2_nods_56 : decode cX2_nods 56 = .ok (.iload_n 1, 1) := by decide +kernel
theorem dX2_nods_57 : decode cX2_nods 57 = .ok (.bipush 7, 2) := by decide +kernel
theorem dX2_nods_59 : decode cX2_nods 59 = .ok (.aload_n 0, 1) := by decide +kernel
theorem dX2_nods_60 : decode cX2_nods 60 = .ok (.getfield 15, 3) := by decide +kernel
theorem dX2_nods_63 : decode cX2_nods 63 = .ok (.imul, 1) := by decide +kernel
theorem dX2_nods_64 : decode cX2_nods 64 = .ok (.if_icmp .ne 7, 3) := by decide +kernel
theorem dX2_nods_67 : decode cX2_nods 67 = .ok (.iconst 1, 1) := by decide +kernel
theorem dX2_nods_68 : decode cX2_nods 68 = .ok (.goto 4, 3) := by decide +kernel
theorem dX2_nods_71 : decode cX2_nods 71 = .ok (.iconst 0, 1) := by decide +kernel
theorem dX2_nods_72 : decode cX2_nods 72 = .ok (.ireturn, 1) := by decide +kernel
theorem dX2_nods_73 : decode cX2_nods 73 = .ok (.aload_n 0, 1) := by decide +kernel
theorem dX2_nods_74 : decode cX2_nods 74 = .ok (.iload_n 1, 1) := by decide +kernel
theorem dX2_nods_75 : decode cX2_nods 75 = .ok (.invokevirtual 24, 3) := by decide +kernel
theorem dX2_nods_78 : decode cX2_nods 78 = .ok (.ifCond .eq 16, 3) := by decide +kernel
theorem dX2_nods_81 : decode cX2_nods 81 = .ok (.iload_n 2, 1) := by decide +kernel
theorem dX2_nods_82 : decode cX2_nods 82 = .ok (.bipush 24, 2) := by decide +kernel
theorem dX2_nods_84 : decode cX2_nods 84 = .ok (.irem, 1) := by decide +kernel
theorem dX2_nods_85 : decode cX2_nods 85 = .ok (.bipush 12, 2) := by decide +kernel
theorem dX2_nods_87 : decode cX2_nods 87 = .ok (.if_icmp .lt 7, 3) := by decide +kernel
theorem dX2_nods_90 : decode cX2_nods 90 = .ok (.iconst 1, 1) := by decide +kernel
theorem dX2_nods_91 : decode cX2_nods 91 = .ok (.goto 4, 3) := by decide +kernel
theorem dX2_nods_94 : decode cX2_nods 94 = .ok (.iconst 0, 1) := by decide +kernel
theorem dX2_nods_95 : decode cX2_nods 95 = .ok (.ireturn, 1) := by decide +kernel
theorem dX2_nods_96 : decode cX2_nods 96 = .ok (.aload_n 0, 1) := by decide +kernel
theorem dX2_nods_97 : decode cX2_nods 97 = .ok (.iload_n 1, 1) := by decide +kernel
theorem dX2_nods_98 : decode cX2_nods 98 = .ok (.invokevirtual 28, 3) := by decide +kernel
theorem dX2_nods_101 : decode cX2_nods 101 = .ok (.ifCond .eq 18, 3) := by decide +kernel
theorem dX2_nods_104 : decode cX2_nods 104 = .ok (.iload_n 1, 1) := by decide +kernel
theorem dX2_nods_105 : decode cX2_nods 105 = .ok (.bipush 90, 2) := by decide +kernel
theorem dX2_nods_107 : decode cX2_nods 107 = .ok (.aload_n 0, 1) := by decide +kernel
theorem dX2_nods_108 : decode cX2_nods 108 = .ok (.getfield 21, 3) := by decide +kernel
theorem dX2_nods_111 : decode cX2_nods 111 = .ok (.isub, 1) := by decide +kernel
theorem dX2_nods_112 : decode cX2_nods 112 = .ok (.if_icmp .ge 7, 3) := by decide +kernel
theorem dX2_nods_115 : decode cX2_nods 115 = .ok (.iconst 1, 1) := by decide +kernel
theorem dX2_nods_116 : decode cX2_nods 116 = .ok (.goto 4, 3) := by decide +kernel
theorem dX2_nods_119 : decode cX2_nods 119 = .ok (.iconst 0, 1) := by decide +kernel
theorem dX2_nods_120 : decode cX2_nods 120 = .ok (.ireturn, 1) := by decide +kernel
theorem dX2_nods_121 : decode cX2_nods 121 = .ok (.aload_n 0, 1) := by decide +kernel
theorem dX2_nods_122 : decode cX2_nods 122 = .ok (.iload_n 1, 1) := by decide +kernel
theorem dX2_nods_123 : decode cX2_nods 123 = .ok (.invokevirtual 31, 3) := by decide +kernel
theorem dX2_nods_126 : decode cX2_nods 126 = .ok (.ifCond .eq 16, 3) := by decide +kernel
theorem dX2_nods_129 : decode cX2_nods 129 = .ok (.aload_n 0, 1) := by decide +kernel
theorem dX2_nods_130 : decode cX2_nods 130 = .ok (.getfield 18, 3) := by decide +kernel
theorem dX2_nods_133 : decode cX2_nods 133 = .ok (.iconst 2, 1) := by decide +kernel
theorem dX2_nods_134 : decode cX2_nods 134 = .ok (.irem, 1) := by decide +kernel
theorem dX2_nods_135 : decode cX2_nods 135 = .ok (.ifCond .ne 7, 3) := by decide +kernel
theorem dX2_nods_138 : decode cX2_nods 138 = .ok (.iconst 1, 1) := by decide +kernel
theorem dX2_nods_139 : decode cX2_nods 139 = .ok (.goto 4, 3) := by decide +kernel
theorem dX2_nods_142 : decode cX2_nods 142 = .ok (.iconst 0, 1) := by decide +kernel
theorem dX2_nods_143 : decode cX2_nods 143 = .ok (.ireturn, 1) := by decide +kernel
theorem dX2_nods_144 : decode cX2_nods 144 = .ok (.aload_n 0, 1) := by decide +kernel
theorem dX2_nods_145 : decode cX2_nods 145 = .ok (.iload_n 1, 1) := by decide +kernel
theorem dX2_nods_146 : decode cX2_nods 146 = .ok (.invokevirtual 31, 3) := by decide +kernel
theorem dX2_nods_149 : decode cX2_nods 149 = .ok (.ireturn, 1) := by decide +kernel
theorem dX2_nodsPlainly_0 : decode cX2_nodsPlainly 0 = .ok (.iload_n 1, 1) := by decide +kernel
theorem dX2_nodsPlainly_1 : decode cX2_nodsPlainly 1 = .ok (.iconst 5, 1) := by decide +kernel
theorem dX2_nodsPlainly_2 : decode cX2_nodsPlainly 2 = .ok (.aload_n 0, 1) := by decide +kernel
theorem dX2_nodsPlainly_3 : decode cX2_nodsPlainly 3 = .ok (.getfield 15, 3) := by decide +kernel
theorem dX2_nodsPlainly_6 : decode cX2_nodsPlainly 6 = .ok (.imul, 1) := by decide +kernel
theorem dX2_nodsPlainly_7 : decode cX2_nodsPlainly 7 = .ok (.if_icmp .lt 7, 3) := by decide +kernel
theorem dX2_nodsPlainly_10 : decode cX2_nodsPlainly 10 = .ok (.iconst 1, 1) := by decide +kernel
theorem dX2_nodsPlainly_11 : decode cX2_nodsPlainly 11 = .ok (.goto 4, 3) := by decide +kernel
theorem dX2_nodsPlainly_14 : decode cX2_nodsPlainly 14 = .ok (.iconst 0, 1) := by decide +kernel
theorem dX2_nodsPlainly_15 : decode cX2_nodsPlainly 15 = .ok (.ireturn, 1) := by decide +kernel
set_option maxRecDepth 20000 in
theorem ggX2_nodsStrictly_X2_nodsPlainly : GoodIn wsX2_nodsStrictly wsX2_nodsPlainly := goodIn_r _ [6, 1, 7, 8, 9, 10] (by decide +kernel) (by decide +kernel)
set_option maxRecDepth 20000 in
theorem gX2_nodsStrictly_X2_nodsPlainly : GoodIn wsX2_nodsStrictly (wsV RX2 31 RX2 yX2_nodsPlainly wsX2_nodsPlainly) := goodIn_app (goodIn_of _ (by decide +kernel)) ggX2_nodsStrictly_X2_nodsPlainly
theorem dX2_nodsStrictly_0 : decode cX2_nodsStrictly 0 = .ok (.aload_n 0, 1) := by decide +kernel
theorem dX2_nodsStrictly_1 : decode cX2_nodsStrictly 1 = .ok (.iload_n 1, 1) := by decide +kernel
theorem dX2_nodsStrictly_2 : decode cX2_nodsStrictly 2 = .ok (.invokevirtual 31, 3) := by decide +kernel
theorem dX2_nodsStrictly_5 : decode cX2_nodsStrictly 5 = .ok (.ifCond .eq 19, 3) := by decide +kernel
theorem dX2_nodsStrictly_8 : decode cX2_nodsStrictly 8 = .ok (.iload_n 1, 1) := by decide +kernel
theorem dX2_nodsStrictly_9 : decode cX2_nodsStrictly 9 = .ok (.iconst 3, 1) := by decide +kernel
theorem dX2_nodsStrictly_10 : decode cX2_nodsStrictly 10 = .ok (.irem, 1) := by decide +kernel
theorem dX2_nodsStrictly_11 : decode cX2_nodsStrictly 11 = .ok (.aload_n 0, 1) := by decide +kernel
theorem dX2_nodsStrictly_12 : decode cX2_nodsStrictly 12 = .ok (.getfield 15, 3) := by decide +kernel
theorem dX2_nodsStrictly_15 : decode cX2_nodsStrictly 15 = .ok (.iconst 3, 1) := by decide +kernel
theorem dX2_nodsStrictly_16 : decode cX2_nodsStrictly 16 = .ok (.irem, 1) := by decide +kernel
theorem dX2_nodsStrictly_17 : decode cX2_nodsStrictly 17 = .ok (.if_icmp .ne 7, 3) := by decide +kernel
theorem dX2_nodsStrictly_20 : decode cX2_nodsStrictly 20 = .ok (.iconst 1, 1) := by decide +kernel
theorem dX2_nodsStrictly_21 : decode cX2_nodsStrictly 21 = .ok (.goto 4, 3) := by decide +kernel
theorem dX2_nodsStrictly_24 : decode cX2_nodsStrictly 24 = .ok (.iconst 0, 1) := by decide +kernel
theorem dX2_nodsStrictly_25 : decode cX2_nodsStrictly 25 = .ok (.ireturn, 1) := by decide +kernel
set_option maxRecDepth 20000 in
theorem ggX2_nodsMildly_X2_nodsPlainly : GoodIn wsX2_nodsMildly wsX2_nodsPlainly := goodIn_r _ [6, 1, 7, 8, 9, 10] (by decide +kernel) (by decide +kernel)
set_option maxRecDepth 20000 in
theorem gX2_nodsMildly_X2_nodsPlainly : GoodIn wsX2_nodsMildly (wsV RX2 31 RX2 yX2_nodsPlainly wsX2_nodsPlainly) := goodIn_app (goodIn_of _ (by decide +kernel)) ggX2_nodsMildly_X2_nodsPlainly
theorem dX2_nodsMildly_0 : decode cX2_nodsMildly 0 = .ok (.aload_n 0, 1) := by decide +kernel
theorem dX2_nodsMildly_1 : decode cX2_nodsMildly 1 = .ok (.iload_n 1, 1) := by decide +kernel
theorem dX2_nodsMildly_2 : decode cX2_nodsMildly 2 = .ok (.invokevirtual 31, 3) := by decide +kernel
theorem dX2_nodsMildly_5 : decode cX2_nodsMildly 5 = .ok (.ifCond .ne 14, 3) := by decide +kernel
theorem dX2_nodsMildly_8 : decode cX2_nodsMildly 8 = .ok (.iload_n 1, 1) := by decide +kernel
theorem dX2_nodsMildly_9 : decode cX2_nodsMildly 9 = .ok (.bipush 10, 2) := by decide +kernel
theorem dX2_nodsMildly_11 : decode cX2_nodsMildly 11 = .ok (.irem, 1) := by decide +kernel
theorem dX2_nodsMildly_12 : decode cX2_nodsMildly 12 = .ok (.aload_n 0, 1) := by decide +kernel
theorem dX2_nodsMildly_13 : decode cX2_nodsMildly 13 = .ok (.getfield 15, 3) := by decide +kernel
theorem dX2_nodsMildly_16 : decode cX2_nodsMildly 16 = .ok (.if_icmp .ne 7, 3) := by decide +kernel
theorem dX2_nodsMildly_19 : decode cX2_nodsMildly 19 = .ok (.iconst 1, 1) := by decide +kernel
theorem dX2_nodsMildly_20 : decode cX2_nodsMildly 20 = .ok (.goto 4, 3) := by decide +kernel
theorem dX2_nodsMildly_23 : decode cX2_nodsMildly 23 = .ok (.iconst 0, 1) := by decide +kernel
theorem dX2_nodsMildly_24 : decode cX2_nodsMildly 24 = .ok (.ireturn, 1) := by decide +kernel
theorem dX2_wants_0 : decode cX2_wants 0 = .ok (.bipush 10, 2) := by decide +kernel
theorem dX2_wants_2 : decode cX2_wants 2 = .ok (.aload_n 0, 1) := by decide +kernel
theorem dX2_wants_3 : decode cX2_wants 3 = .ok (.getfield 18, 3) := by decide +kernel
theorem dX2_wants_6 : decode cX2_wants 6 = .ok (.bipush 10, 2) := by decide +kernel
theorem dX2_wants_8 : decode cX2_wants 8 = .ok (.irem, 1) := by decide +kernel
theorem dX2_wants_9 : decode cX2_wants 9 = .ok (.iadd, 1) := by decide +kernel
theorem dX2_wants_10 : decode cX2_wants 10 = .ok (.istore_n 1, 1) := by decide +kernel
theorem dX2_wants_11 : decode cX2_wants 11 = .ok (.aload_n 0, 1) := by decide +kernel
theorem dX2_wants_12 : decode cX2_wants 12 = .ok (.getfield 9, 3) := by decide +kernel
theorem dX2_wants_15 : decode cX2_wants 15 = .ok (.tableswitch 72 1 6 #[37, 44, 48, 52, 64, 70], 37) := by decide +kernel
theorem dX2_wants_52 : decode cX2_wants 52 = .ok (.iload_n 1, 1) := by decide +kernel
theorem dX2_wants_53 : decode cX2_wants 53 = .ok (.aload_n 0, 1) := by decide +kernel
theorem dX2_wants_54 : decode cX2_wants 54 = .ok (.getfield 15, 3) := by decide +kernel
theorem dX2_wants_57 : decode cX2_wants 57 = .ok (.iadd, 1) := by decide +kernel
theorem dX2_wants_58 : decode cX2_wants 58 = .ok (.ireturn, 1) := by decide +kernel
theorem dX2_wants_59 : decode cX2_wants 59 = .ok (.iload_n 1, 1) := by decide +kernel
theorem dX2_wants_60 : decode cX2_wants 60 = .ok (.iconst 2, 1) := by decide +kernel
theorem dX2_wants_61 : decode cX2_wants 61 = .ok (.idiv, 1) := by decide +kernel
theorem dX2_wants_62 : decode cX2_wants 62 = .ok (.ireturn, 1) := by decide +kernel
theorem dX2_wants_63 : decode cX2_wants 63 = .ok (.iload_n 1, 1) := by decide +kernel
theorem dX2_wants_64 : decode cX2_wants 64 = .ok (.iconst 2, 1) := by decide +kernel
theorem dX2_wants_65 : decode cX2_wants 65 = .ok (.imul, 1) := by decide +kernel
theorem dX2_wants_66 : decode cX2_wants 66 = .ok (.ireturn, 1) := by decide +kernel
theorem dX2_wants_67 : decode cX2_wants 67 = .ok (.iload_n 1, 1) := by decide +kernel
theorem dX2_wants_68 : decode cX2_wants 68 = .ok (.aload_n 0, 1) := by decide +kernel
theorem dX2_wants_69 : decode cX2_wants 69 = .ok (.getfield 15, 3) := by decide +kernel
theorem dX2_wants_72 : decode cX2_wants 72 = .ok (.iadd, 1) := by decide +kernel
theorem dX2_wants_73 : decode cX2_wants 73 = .ok (.aload_n 0, 1) := by decide +kernel
theorem dX2_wants_74 : decode cX2_wants 74 = .ok (.getfield 21, 3) := by decide +kernel
theorem dX2_wants_77 : decode cX2_wants 77 = .ok (.iadd, 1) := by decide +kernel
theorem dX2_wants_78 : decode cX2_wants 78 = .ok (.ireturn, 1) := by decide +kernel
theorem dX2_wants_79 : decode cX2_wants 79 = .ok (.iload_n 1, 1) := by decide +kernel
theorem dX2_wants_80 : decode cX2_wants 80 = .ok (.iconst 2, 1) := by decide +kernel
theorem dX2_wants_81 : decode cX2_wants 81 = .ok (.idiv, 1) := by decide +kernel
theorem dX2_wants_82 : decode cX2_wants 82 = .ok (.iconst 1, 1) := by decide +kernel
theorem dX2_wants_83 : decode cX2_wants 83 = .ok (.isub, 1) := by decide +kernel
theorem dX2_wants_84 : decode cX2_wants 84 = .ok (.ireturn, 1) := by decide +kernel
theorem dX2_wants_85 : decode cX2_wants 85 = .ok (.iconst 0, 1) := by decide +kernel
theorem dX2_wants_86 : decode cX2_wants 86 = .ok (.ireturn, 1) := by decide +kernel
theorem dX2_wants_87 : decode cX2_wants 87 = .ok (.iload_n 1, 1) := by decide +kernel
theorem dX2_wants_88 : decode cX2_wants 88 = .ok (.ireturn, 1) := by decide +kernel
theorem dX3_init_0 : decode cX3_init 0 = .ok (.aload_n 0, 1) := by decide +kernel
theorem dX3_init_1 : decode cX3_init 1 = .ok (.invokespecial 1, 3) := by decide +kernel
theorem dX3_init_4 : decode cX3_init 4 = .ok (.aload_n 0, 1) := by decide +kernel
theorem dX3_init_5 : decode cX3_init 5 = .ok (.iconst 0, 1) := by decide +kernel
theorem dX3_init_6 : decode cX3_init 6 = .ok (.putfield 7, 3) := by decide +kernel
theorem dX3_init_9 : decode cX3_init 9 = .ok (.aload_n 0, 1) := by decide +kernel
theorem dX3_init_10 : decode cX3_init 10 = .ok (.iconst 0, 1) := by decide +kernel
theorem dX3_init_11 : decode cX3_init 11 = .ok (.putfield 13, 3) := by decide +kernel
theorem dX3_init_14 : decode cX3_init 14 = .ok (.aload_n 0, 1) := by decide +kernel
theorem dX3_init_15 : decode cX3_init 15 = .ok (.iconst 0, 1) := by decide +kernel
theorem dX3_init_16 : decode cX3_init 16 = .ok (.putfield 16, 3) := by decide +kernel
theorem dX3_init_19 : decode cX3_init 19 = .ok (.aload_n 0, 1) := by decide +kernel
theorem dX3_init_20 : decode cX3_init 20 = .ok (.iconst 0, 1) := by decide +kernel
theorem dX3_init_21 : decode cX3_init 21 = .ok (.putfield 19, 3) := by decide +kernel
theorem dX3_init_24 : decode cX3_init 24 = .ok (.return_, 1) := by decide +kernel
theorem dX3_copyFrom_0 : decode cX3_copyFrom 0 = .ok (.aload_n 0, 1) := by decide +kernel
theorem dX3_copyFrom_1 : decode cX3_copyFrom 1 = .ok (.aload_n 1, 1) := by decide +kernel
theorem dX3_copyFrom_2 : decode cX3_copyFrom 2 = .ok (.getfield 7, 3) := by decide +kernel
theorem dX3_copyFrom_5 : decode cX3_copyFrom 5 = .ok (.putfield 7, 3) := by decide +kernel
theorem dX3_copyFrom_8 : decode cX3_copyFrom 8 = .ok (.aload_n 0, 1) := by decide +kernel
theorem dX3_copyFrom_9 : decode cX3_copyFrom 9 = .ok (.aload_n 1, 1) := by decide +kernel
theorem dX3_copyFrom_10 : decode cX3_copyFrom 10 = .ok (.getfield 13, 3) := by decide +kernel
theorem dX3_copyFrom_13 : decode cX3_copyFrom 13 = .ok (.putfield 13, 3) := by decide +kernel
theorem dX3_copyFrom_16 : decode cX3_copyFrom 16 = .ok (.aload_n 0, 1) := by decide +kernel
theorem dX3_copyFrom_17 : decode cX3_copyFrom 17 = .ok (.aload_n 1, 1) := by decide +kernel
theorem dX3_copyFrom_18 : decode cX3_copyFrom 18 = .ok (.getfield 16, 3) := by decide +kernel
theorem dX3_copyFrom_21 : decode cX3_copyFrom 21 = .ok (.putfield 16, 3) := by decide +kernel
theorem dX3_copyFrom_24 : decode cX3_copyFrom 24 = .ok (.aload_n 0, 1) := by decide +kernel
theorem dX3_copyFrom_25 : decode cX3_copyFrom 25 = .ok (.aload_n 1, 1) := by decide +kernel
theorem dX3_copyFrom_26 : decode cX3_copyFrom 26 = .ok (.getfield 19, 3) := by decide +kernel
theorem dX3_copyFrom_29 : decode cX3_copyFrom 29 = .ok (.putfield 19, 3) := by decide +kernel
theorem dX3_copyFrom_32 : decode cX3_copyFrom 32 = .ok (.return_, 1) := by decide +kernel
set_option maxRecDepth 20000 in
theorem ggX4_init_X6_init : GoodIn wsX4_init wsX6_init := goodIn_r _ [13, 14, 2, 3, 15, 16, 17, 18, 19, 20, 21] (by decide +kernel) (by decide +kernel)
set_option maxRecDepth 20000 in
theorem gX4_init_X6_init_n11 : GoodIn wsX4_init (wsX6_init) := ggX4_init_X6_init
theorem dX4_init_0 : decode cX4_init 0 = .ok (.aload_n 0, 1) := by decide +kernel
theorem dX4_init_1 : decode cX4_init 1 = .ok (.invokespecial 3, 3) := by decide +kernel
theorem dX4_init_4 : decode cX4_init 4 = .ok (.aload_n 0, 1) := by decide +kernel
theorem dX4_init_5 : decode cX4_init 5 = .ok (.new 9, 3) := by decide +kernel
theorem dX4_init_8 : decode cX4_init 8 = .ok (.dup, 1) := by decide +kernel
theorem dX4_init_9 : decode cX4_init 9 = .ok (.invokespecial 11, 3) := by decide +kernel
theorem dX4_init_12 : decode cX4_init 12 = .ok (.putfield 12, 3) := by decide +kernel
theorem dX4_init_15 : decode cX4_init 15 = .ok (.aload_n 0, 1) := by decide +kernel
theorem dX4_init_16 : decode cX4_init 16 = .ok (.iconst 0, 1) := by decide +kernel
theorem dX4_init_17 : decode cX4_init 17 = .ok (.putfield 18, 3) := by decide +kernel
theorem dX4_init_20 : decode cX4_init 20 = .ok (.aload_n 0, 1) := by decide +kernel
theorem dX4_init_21 : decode cX4_init 21 = .ok (.iconst 0, 1) := by decide +kernel
theorem dX4_init_22 : decode cX4_init 22 = .ok (.putfield 22, 3) := by decide +kernel
theorem dX4_init_25 : decode cX4_init 25 = .ok (.aload_n 0, 1) := by decide +kernel
theorem dX4_init_26 : decode cX4_init 26 = .ok (.ldc 25, 2) := by decide +kernel
theorem dX4_init_28 : decode cX4_init 28 = .ok (.putfield 27, 3) := by decide +kernel
theorem dX4_init_31 : decode cX4_init 31 = .ok (.aload_n 0, 1) := by decide +kernel
theorem dX4_init_32 : decode cX4_init 32 = .ok (.aload_n 1, 1) := by decide +kernel
theorem dX4_init_33 : decode cX4_init 33 = .ok (.putfield 31, 3) := by decide +kernel
theorem dX4_init_36 : decode cX4_init 36 = .ok (.return_, 1) := by decide +kernel
set_option maxRecDepth 20000 in
theorem ggX4_read_X6_clear : GoodIn wsX4_read wsX6_clear := goodIn_r _ [14, 15, 143, 144, 145] (by decide +kernel) (by decide +kernel)
set_option maxRecDepth 20000 in
theorem gX4_read_X6_clear : GoodIn wsX4_read (wsV RX4 35 RX6 yX6_clear wsX6_clear) := goodIn_app (goodIn_of _ (by decide +kernel)) ggX4_read_X6_clear
set_option maxRecDepth 20000 in
theorem ggX4_read_X4_readLevel : GoodIn wsX4_read wsX4_readLevel := goodIn_r _ [20, 2, 1, 21, 22, 23, 19, 16, 17, 18, 24, 25, 26, 27, 8, 3, 28, 29, 30, 31, 32, 33, 13, 34, 15, 35, 36, 37, 9, 38, 39, 40, 41, 42, 43, 44, 45, 46, 47, 48, 49, 50, 51, 52, 53, 54, 55, 56, 57, 58, 59, 60, 61, 62, 63, 64, 65, 66, 67, 68, 69, 70, 71, 72, 73, 74, 6, 75, 76, 5, 7, 77, 78, 79, 80, 81, 82, 83, 84, 85, 86, 87, 88, 89, 90, 91, 92, 93, 94, 95, 96, 97, 98, 99, 100, 101, 102, 103, 104, 105, 106, 107, 108, 109, 110, 111, 112, 113, 114, 115, 116, 117, 118, 119, 120, 121, 122, 123, 124, 125, 126, 127, 128, 129, 130, 131, 132, 133, 134, 135, 136, 137, 138, 139, 140, 141, 142, 143, 144, 145] (by decide +kernel) (by decide +kernel)
set_option maxRecDepth 20000 in
theorem gX4_read_X4_readLevel : GoodIn wsX4_read (wsV RX4 44 RX4 yX4_readLevel wsX4_readLevel) := goodIn_app (goodIn_of _ (by decide +kernel)) ggX4_read_X4_readLevel
theorem dX4_read_0 : decode cX4_read 0 = .ok (.aload_n 0, 1) := by decide +kernel
theorem dX4_read_1 : decode cX4_read 1 = .ok (.getfield 12, 3) := by decide +kernel
theorem dX4_read_4 : decode cX4_read 4 = .ok (.invokevirtual 35, 3) := by decide +kernel
theorem dX4_read_7 : decode cX4_read 7 = .ok (.aload_n 0, 1) := by decide +kernel
theorem dX4_read_8 : decode cX4_read 8 = .ok (.iconst 0, 1) := by decide +kernel
theorem dX4_read_9 : decode cX4_read 9 = .ok (.putfield 18, 3) := by decide +kernel
theorem dX4_read_12 : decode cX4_read 12 = .ok (.aload_n 0, 1) := by decide +kernel
theorem dX4_read_13 : decode cX4_read 13 = .ok (.iload_n 1, 1) := by decide +kernel
theorem dX4_read_14 : decode cX4_read 14 = .ok (.aload_n 0, 1) := by decide +kernel
theorem dX4_read_15 : decode cX4_read 15 = .ok (.getfield 31, 3) := by decide +kernel
theorem dX4_read_18 : decode cX4_read 18 = .ok (.arraylength, 1) := by decide +kernel
theorem dX4_read_19 : decode cX4_read 19 = .ok (.invokestatic 38, 3) := by decide +kernel
theorem dX4_read_22 : decode cX4_read 22 = .ok (.putfield 22, 3) := by decide +kernel
theorem dX4_read_25 : decode cX4_read 25 = .ok (.aload_n 0, 1) := by decide +kernel
theorem dX4_read_26 : decode cX4_read 26 = .ok (.aload_n 2, 1) := by decide +kernel
theorem dX4_read_27 : decode cX4_read 27 = .ok (.putfield 27, 3) := by decide +kernel
theorem dX4_read_30 : decode cX4_read 30 = .ok (.aload_n 0, 1) := by decide +kernel
theorem dX4_read_31 : decode cX4_read 31 = .ok (.iconst 0, 1) := by decide +kernel
theorem dX4_read_32 : decode cX4_read 32 = .ok (.iconst 0, 1) := by decide +kernel
theorem dX4_read_33 : decode cX4_read 33 = .ok (.invokevirtual 44, 3) := by decide +kernel
theorem dX4_read_36 : decode cX4_read 36 = .ok (.ifCond .eq 18, 3) := by decide +kernel
theorem dX4_read_39 : decode cX4_read 39 = .ok (.aload_n 0, 1) := by decide +kernel
theorem dX4_read_40 : decode cX4_read 40 = .ok (.getfield 18, 3) := by decide +kernel
theorem dX4_read_43 : decode cX4_read 43 = .ok (.aload_n 0, 1) := by decide +kernel
theorem dX4_read_44 : decode cX4_read 44 = .ok (.getfield 22, 3) := by decide +kernel
theorem dX4_read_47 : decode cX4_read 47 = .ok (.if_icmp .lt 7, 3) := by decide +kernel
theorem dX4_read_50 : decode cX4_read 50 = .ok (.iconst 1, 1) := by decide +kernel
theorem dX4_read_51 : decode cX4_read 51 = .ok (.goto 4, 3) := by decide +kernel
theorem dX4_read_54 : decode cX4_read 54 = .ok (.iconst 0, 1) := by decide +kernel
theorem dX4_read_55 : decode cX4_read 55 = .ok (.ireturn, 1) := by decide +kernel
theorem dX4_next_0 : decode cX4_next 0 = .ok (.aload_n 0, 1) := by decide +kernel
theorem dX4_next_1 : decode cX4_next 1 = .ok (.getfield 18, 3) := by decide +kernel
theorem dX4_next_4 : decode cX4_next 4 = .ok (.ifCond .lt 38, 3) := by decide +kernel
theorem dX4_next_7 : decode cX4_next 7 = .ok (.aload_n 0, 1) := by decide +kernel
theorem dX4_next_8 : decode cX4_next 8 = .ok (.getfield 18, 3) := by decide +kernel
theorem dX4_next_11 : decode cX4_next 11 = .ok (.aload_n 0, 1) := by decide +kernel
theorem dX4_next_12 : decode cX4_next 12 = .ok (.getfield 22, 3) := by decide +kernel
theorem dX4_next_15 : decode cX4_next 15 = .ok (.if_icmp .ge 27, 3) := by decide +kernel
theorem dX4_next_18 : decode cX4_next 18 = .ok (.aload_n 0, 1) := by decide +kernel
theorem dX4_next_19 : decode cX4_next 19 = .ok (.getfield 18, 3) := by decide +kernel
theorem dX4_next_22 : decode cX4_next 22 = .ok (.aload_n 0, 1) := by decide +kernel
theorem dX4_next_23 : decode cX4_next 23 = .ok (.getfield 31, 3) := by decide +kernel
theorem dX4_next_26 : decode cX4_next 26 = .ok (.arraylength, 1) := by decide +kernel
theorem dX4_next_27 : decode cX4_next 27 = .ok (.if_icmp .ge 15, 3) := by decide +kernel
theorem dX4_next_30 : decode cX4_next 30 = .ok (.aload_n 0, 1) := by decide +kernel
theorem dX4_next_31 : decode cX4_next 31 = .ok (.getfield 31, 3) := by decide +kernel
theorem dX4_next_34 : decode cX4_next 34 = .ok (.aload_n 0, 1) := by decide +kernel
theorem dX4_next_35 : decode cX4_next 35 = .ok (.getfield 18, 3) := by decide +kernel
theorem dX4_next_38 : decode cX4_next 38 = .ok (.iaload, 1) := by decide +kernel
theorem dX4_next_39 : decode cX4_next 39 = .ok (.goto 4, 3) := by decide +kernel
theorem dX4_next_42 : decode cX4_next 42 = .ok (.iconst (-1), 1) := by decide +kernel
theorem dX4_next_43 : decode cX4_next 43 = .ok (.ireturn, 1) := by decide +kernel
set_option maxRecDepth 20000 in
theorem ggX4_readLevel_X4_readLast : GoodIn wsX4_readLevel wsX4_readLast := goodIn_r _ [27, 28, 1, 2, 10, 11, 12, 6, 13, 14, 15, 29, 30, 31, 32, 33, 34, 35, 19, 20, 21, 22, 23, 24, 25, 36, 37, 38, 39, 40, 41, 42, 43, 44, 45, 46, 47, 48, 49, 50, 51, 52, 53, 54, 55, 56, 57, 58, 59, 60, 61, 62, 63, 64, 65, 66, 67, 68, 69, 70, 71, 72, 73, 74, 75, 76, 77, 78, 79, 80, 81, 82, 83, 84, 85, 86, 87, 88, 89, 90, 91, 92, 93, 94, 95, 96, 97, 98, 99, 100, 101, 102, 103, 104, 105, 106, 107, 108, 109, 110, 111, 112, 113, 114, 115, 116, 117, 118, 119, 120, 121, 122, 123, 124, 125, 126, 127, 128, 129, 130, 26, 7, 8, 9, 0, 3, 4, 5, 16, 17, 18, 131, 132, 133, 134, 135, 136, 137, 138, 139] (by decide +kernel) (by decide +kernel)
set_option maxRecDepth 20000 in
theorem gX4_readLevel_X4_readLast : GoodIn wsX4_readLevel (wsV RX4 48 RX4 yX4_readLast wsX4_readLast) := goodIn_app (goodIn_of _ (by decide +kernel)) ggX4_readLevel_X4_readLast
set_option maxRecDepth 20000 in
theorem ggX4_readLevel_X4_readLevel : GoodIn wsX4_readLevel wsX4_readLevel := goodIn_r _ [0, 1, 2, 3, 4, 5, 6, 7, 8, 9, 10, 11, 12, 13, 14, 15, 16, 17, 18, 19, 20, 21, 22, 23, 24, 25, 26, 27, 28, 29, 30, 31, 32, 33, 34, 35, 36, 37, 38, 39, 40, 41, 42, 43, 44, 45, 46, 47, 48, 49, 50, 51, 52, 53, 54, 55, 56, 57, 58, 59, 60, 61, 62, 63, 64, 65, 66, 67, 68, 69, 70, 71, 72, 73, 74, 75, 76, 77, 78, 79, 80, 81, 82, 83, 84, 85, 86, 87, 88, 89, 90, 91, 92, 93, 94, 95, 96, 97, 98, 99, 100, 101, 102, 103, 104, 105, 106, 107, 108, 109, 110, 111, 112, 113, 114, 115, 116, 117, 118, 119, 120, 121, 122, 123, 124, 125, 126, 127, 128, 129, 130, 131, 132, 133, 134, 135, 136, 137, 138, 139] (by decide +kernel) (by decide +kernel)
set_option maxRecDepth 20000 in
theorem gX4_readLevel_X4_readLevel : GoodIn wsX4_readLevel (wsV RX4 44 RX4 yX4_readLevel wsX4_readLevel) := goodIn_app (goodIn_of _ (by decide +kernel)) ggX4_readLevel_X4_readLevel
set_option maxRecDepth 20000 in
theorem ggX4_readLevel_X4_next : GoodIn wsX4_readLevel wsX4_next := goodIn_r _ [13, 1, 14, 15, 132, 133, 134, 135, 136] (by decide +kernel) (by decide +kernel)
set_option maxRecDepth 20000 in
theorem gX4_readLevel_X4_next : GoodIn wsX4_readLevel (wsV RX4 52 RX4 yX4_next wsX4_next) := goodIn_app (goodIn_of _ (by decide +kernel)) ggX4_readLevel_X4_next
set_option maxRecDepth 20000 in
theorem ggX4_readLevel_X4_levelOf : GoodIn wsX4_readLevel wsX4_levelOf := goodIn_r _ [18] (by decide +kernel) (by decide +kernel)
set_option maxRecDepth 20000 in
theorem gX4_readLevel_X4_levelOf : GoodIn wsX4_readLevel (va_wsS RX4 56 yX4_levelOf wsX4_levelOf) := goodIn_app (goodIn_of _ (by decide +kernel)) ggX4_readLevel_X4_levelOf
set_option maxRecDepth 20000 in
theorem ggX4_readLevel_X6_add : GoodIn wsX4_readLevel wsX6_add := goodIn_r _ [23, 24, 25, 137, 138, 139] (by decide +kernel) (by decide +kernel)
set_option maxRecDepth 20000 in
theorem gX4_readLevel_X6_add : GoodIn wsX4_readLevel (wsV RX4 60 RX6 yX6_add wsX6_add) := goodIn_app (goodIn_of _ (by decide +kernel)) ggX4_readLevel_X6_add
theorem dX4_readLevel_0 : decode cX4_readLevel 0 = .ok (.iload_n 1, 1) := by decide +kernel
theorem dX4_readLevel_1 : decode cX4_readLevel 1 = .ok (.iconst 5, 1) := by decide +kernel
theorem dX4_readLevel_2 : decode cX4_readLevel 2 = .ok (.if_icmp .lt 9, 3) := by decide +kernel
theorem dX4_readLevel_5 : decode cX4_readLevel 5 = .ok (.aload_n 0, 1) := by decide +kernel
theorem dX4_readLevel_6 : decode cX4_readLevel 6 = .ok (.iload_n 2, 1) := by decide +kernel
theorem dX4_readLevel_7 : decode cX4_readLevel 7 = .ok (.invokevirtual 48, 3) := by decide +kernel
theorem dX4_readLevel_10 : decode cX4_readLevel 10 = .ok (.ireturn, 1) := by decide +kernel
theorem dX4_readLevel_11 : decode cX4_readLevel 11 = .ok (.aload_n 0, 1) := by decide +kernel
theorem dX4_readLevel_12 : decode cX4_readLevel 12 = .ok (.iload_n 1, 1) := by decide +kernel
theorem dX4_readLevel_13 : decode cX4_readLevel 13 = .ok (.iconst 1, 1) := by decide +kernel
theorem dX4_readLevel_14 : decode cX4_readLevel 14 = .ok (.iadd, 1) := by decide +kernel
theorem dX4_readLevel_15 : decode cX4_readLevel 15 = .ok (.iload_n 2, 1) := by decide +kernel
theorem dX4_readLevel_16 : decode cX4_readLevel 16 = .ok (.invokevirtual 44, 3) := by decide +kernel
theorem dX4_readLevel_19 : decode cX4_readLevel 19 = .ok (.ifCond .ne 5, 3) := by decide +kernel
theorem dX4_readLevel_22 : decode cX4_readLevel 22 = .ok (.iconst 0, 1) := by decide +kernel
theorem dX4_readLevel_23 : decode cX4_readLevel 23 = .ok (.ireturn, 1) := by decide +kernel
theorem dX4_readLevel_24 : decode cX4_readLevel 24 = .ok (.iconst 1, 1) := by decide +kernel
theorem dX4_readLevel_25 : decode cX4_readLevel 25 = .ok (.istore_n 3, 1) := by decide +kernel
theorem dX4_readLevel_26 : decode cX4_readLevel 26 = .ok (.iconst 0, 1) := by decide +kernel
theorem dX4_readLevel_27 : decode cX4_readLevel 27 = .ok (.istore 4, 2) := by decide +kernel
theorem dX4_readLevel_29 : decode cX4_readLevel 29 = .ok (.iload 4, 2) := by decide +kernel
theorem dX4_readLevel_31 : decode cX4_readLevel 31 = .ok (.bipush 60, 2) := by decide +kernel
theorem dX4_readLevel_33 : decode cX4_readLevel 33 = .ok (.if_icmp .ge 77, 3) := by decide +kernel
theorem dX4_readLevel_36 : decode cX4_readLevel 36 = .ok (.iload_n 3, 1) := by decide +kernel
theorem dX4_readLevel_37 : decode cX4_readLevel 37 = .ok (.ifCond .eq 73, 3) := by decide +kernel
theorem dX4_readLevel_40 : decode cX4_readLevel 40 = .ok (.aload_n 0, 1) := by decide +kernel
theorem dX4_readLevel_41 : decode cX4_readLevel 41 = .ok (.invokevirtual 52, 3) := by decide +kernel
theorem dX4_readLevel_44 : decode cX4_readLevel 44 = .ok (.invokestatic 56, 3) := by decide +kernel
theorem dX4_readLevel_47 : decode cX4_readLevel 47 = .ok (.iload_n 1, 1) := by decide +kernel
theorem dX4_readLevel_48 : decode cX4_readLevel 48 = .ok (.if_icmp .ne 62, 3) := by decide +kernel
theorem dX4_readLevel_51 : decode cX4_readLevel 51 = .ok (.aload_n 0, 1) := by decide +kernel
theorem dX4_readLevel_52 : decode cX4_readLevel 52 = .ok (.invokevirtual 52, 3) := by decide +kernel
theorem dX4_readLevel_55 : decode cX4_readLevel 55 = .ok (.istore 5, 2) := by decide +kernel
theorem dX4_readLevel_57 : decode cX4_readLevel 57 = .ok (.aload_n 0, 1) := by decide +kernel
theorem dX4_readLevel_58 : decode cX4_readLevel 58 = .ok (.dup, 1) := by decide +kernel
theorem dX4_readLevel_59 : decode cX4_readLevel 59 = .ok (.getfield 18, 3) := by decide +kernel
theorem dX4_readLevel_62 : decode cX4_readLevel 62 = .ok (.iconst 1, 1) := by decide +kernel
theorem dX4_readLevel_63 : decode cX4_readLevel 63 = .ok (.iadd, 1) := by decide +kernel
theorem dX4_readLevel_64 : decode cX4_readLevel 64 = .ok (.putfield 18, 3) := by decide +kernel
theorem dX4_readLevel_67 : decode cX4_readLevel 67 = .ok (.aload_n 0, 1) := by decide +kernel
theorem dX4_readLevel_68 : decode cX4_readLevel 68 = .ok (.iload_n 1, 1) := by decide +kernel
theorem dX4_readLevel_69 : decode cX4_readLevel 69 = .ok (.iconst 1, 1) := by decide +kernel
theorem dX4_readLevel_70 : decode cX4_readLevel 70 = .ok (.iadd, 1) := by decide +kernel
theorem dX4_readLevel_71 : decode cX4_readLevel 71 = .ok (.iload_n 2, 1) := by decide +kernel
theorem dX4_readLevel_72 : decode cX4_readLevel 72 = .ok (.invokevirtual 44, 3) := by decide +kernel
theorem dX4_readLevel_75 : decode cX4_readLevel 75 = .ok (.ifCond .ne 5, 3) := by decide +kernel
theorem dX4_readLevel_78 : decode cX4_readLevel 78 = .ok (.iconst 0, 1) := by decide +kernel
theorem dX4_readLevel_79 : decode cX4_readLevel 79 = .ok (.ireturn, 1) := by decide +kernel
theorem dX4_readLevel_80 : decode cX4_readLevel 80 = .ok (.aload_n 0, 1) := by decide +kernel
theorem dX4_readLevel_81 : decode cX4_readLevel 81 = .ok (.getfield 12, 3) := by decide +kernel
theorem dX4_readLevel_84 : decode cX4_readLevel 84 = .ok (.sipush 10000, 3) := by decide +kernel
theorem dX4_readLevel_87 : decode cX4_readLevel 87 = .ok (.iload 5, 2) := by decide +kernel
theorem dX4_readLevel_89 : decode cX4_readLevel 89 = .ok (.iadd, 1) := by decide +kernel
theorem dX4_readLevel_90 : decode cX4_readLevel 90 = .ok (.invokevirtual 60, 3) := by decide +kernel
theorem dX4_readLevel_93 : decode cX4_readLevel 93 = .ok (.iload_n 1, 1) := by decide +kernel
theorem dX4_readLevel_94 : decode cX4_readLevel 94 = .ok (.iconst 2, 1) := by decide +kernel
theorem dX4_readLevel_95 : decode cX4_readLevel 95 = .ok (.if_icmp .eq 7, 3) := by decide +kernel
theorem dX4_readLevel_98 : decode cX4_readLevel 98 = .ok (.iconst 1, 1) := by decide +kernel
theorem dX4_readLevel_99 : decode cX4_readLevel 99 = .ok (.goto 4, 3) := by decide +kernel
theorem dX4_readLevel_102 : decode cX4_readLevel 102 = .ok (.iconst 0, 1) := by decide +kernel
theorem dX4_readLevel_103 : decode cX4_readLevel 103 = .ok (.istore_n 3, 1) := by decide +kernel
theorem dX4_readLevel_104 : decode cX4_readLevel 104 = .ok (.iinc 4 1, 3) := by decide +kernel
theorem dX4_readLevel_107 : decode cX4_readLevel 107 = .ok (.goto (-78), 3) := by decide +kernel
theorem dX4_readLevel_110 : decode cX4_readLevel 110 = .ok (.iconst 1, 1) := by decide +kernel
theorem dX4_readLevel_111 : decode cX4_readLevel 111 = .ok (.ireturn, 1) := by decide +kernel
theorem dX4_levelOf_0 : decode cX4_levelOf 0 = .ok (.iload_n 0, 1) := by decide +kernel
theorem dX4_levelOf_1 : decode cX4_levelOf 1 = .ok (.lookupswitch 101 #[(37, 99), (38, 93), (42, 99), (43, 97), (45, 97), (47, 99), (60, 95), (61, 95), (62, 95), (124, 91)], 91) := by decide +kernel
theorem dX4_levelOf_92 : decode cX4_levelOf 92 = .ok (.iconst 0, 1) := by decide +kernel
theorem dX4_levelOf_93 : decode cX4_levelOf 93 = .ok (.ireturn, 1) := by decide +kernel
theorem dX4_levelOf_94 : decode cX4_levelOf 94 = .ok (.iconst 1, 1) := by decide +kernel
theorem dX4_levelOf_95 : decode cX4_levelOf 95 = .ok (.ireturn, 1) := by decide +kernel
theorem dX4_levelOf_96 : decode cX4_levelOf 96 = .ok (.iconst 2, 1) := by decide +kernel
theorem dX4_levelOf_97 : decode cX4_levelOf 97 = .ok (.ireturn, 1) := by decide +kernel
theorem dX4_levelOf_98 : decode cX4_levelOf 98 = .ok (.iconst 3, 1) := by decide +kernel
theorem dX4_levelOf_99 : decode cX4_levelOf 99 = .ok (.ireturn, 1) := by decide +kernel
theorem dX4_levelOf_100 : decode cX4_levelOf 100 = .ok (.iconst 4, 1) := by decide +kernel
theorem dX4_levelOf_101 : decode cX4_levelOf 101 = .ok (.ireturn, 1) := by decide +kernel
theorem dX4_levelOf_102 : decode cX4_levelOf 102 = .ok (.iconst (-1), 1) := by decide +kernel
theorem dX4_levelOf_103 : decode cX4_levelOf 103 = .ok (.ireturn, 1) := by decide +kernel
set_option maxRecDepth 20000 in
theorem ggX4_readLast_X4_next : GoodIn wsX4_readLast wsX4_next := goodIn_r _ [8, 2, 9, 10, 132, 133, 134, 135, 136] (by decide +kernel) (by decide +kernel)
set_option maxRecDepth 20000 in
theorem gX4_readLast_X4_next : GoodIn wsX4_readLast (wsV RX4 52 RX4 yX4_next wsX4_next) := goodIn_app (goodIn_of _ (by decide +kernel)) ggX4_readLast_X4_next
set_option maxRecDepth 20000 in
theorem ggX4_readLast_X4_isDigit : GoodIn wsX4_readLast wsX4_isDigit := goodIn_r _ [13] (by decide +kernel) (by decide +kernel)
set_option maxRecDepth 20000 in
theorem gX4_readLast_X4_isDigit : GoodIn wsX4_readLast (va_wsS RX4 64 yX4_isDigit wsX4_isDigit) := goodIn_app (goodIn_of _ (by decide +kernel)) ggX4_readLast_X4_isDigit
set_option maxRecDepth 20000 in
theorem ggX4_readLast_X4_readNumber : GoodIn wsX4_readLast wsX4_readNumber := goodIn_r _ [17, 2, 3, 4, 5, 6, 7, 8, 9, 10, 11, 12, 13, 18, 19, 20, 21, 22, 23, 24, 132, 133, 134, 135, 136, 137, 138, 139] (by decide +kernel) (by decide +kernel)
set_option maxRecDepth 20000 in
theorem gX4_readLast_X4_readNumber : GoodIn wsX4_readLast (wsV RX4 67 RX4 yX4_readNumber wsX4_readNumber) := goodIn_app (goodIn_of _ (by decide +kernel)) ggX4_readLast_X4_readNumber
set_option maxRecDepth 20000 in
theorem ggX4_readLast_J0_indexOf_0f7a4 : GoodIn wsX4_readLast wsJ0_indexOf_0f7a4 := goodIn_r _ [29, 30, 31, 32, 28, 33, 34, 35, 36, 37, 38, 39, 40, 41, 42, 43, 44, 45, 46, 47, 48, 49, 50, 51, 52, 53, 54, 55, 56, 57, 58, 59, 60, 61, 62, 63, 64, 65, 66, 67, 68, 69, 70, 71, 72, 73, 74, 75, 76, 77, 78, 79, 80, 81, 82, 83, 84, 85, 86, 87, 88, 89, 90, 91, 92, 93, 94, 95, 96, 97, 98, 99, 100, 101, 102, 103, 104, 105, 106, 107, 108, 109, 110, 111, 112, 113] (by decide +kernel) (by decide +kernel)
set_option maxRecDepth 20000 in
theorem gX4_readLast_J0_indexOf_0f7a4 : GoodIn wsX4_readLast (wsV RX4 70 RJ0 yJ0_indexOf_0f7a4 wsJ0_indexOf_0f7a4) := goodIn_app (goodIn_of _ (by decide +kernel)) ggX4_readLast_J0_indexOf_0f7a4
set_option maxRecDepth 20000 in
theorem ggX4_readLast_X6_add : GoodIn wsX4_readLast wsX6_add := goodIn_r _ [22, 23, 24, 137, 138, 139] (by decide +kernel) (by decide +kernel)
set_option maxRecDepth 20000 in
theorem gX4_readLast_X6_add : GoodIn wsX4_readLast (wsV RX4 60 RX6 yX6_add wsX6_add) := goodIn_app (goodIn_of _ (by decide +kernel)) ggX4_readLast_X6_add
set_option maxRecDepth 20000 in
theorem ggX4_readLast_X4_readNot : GoodIn wsX4_readLast wsX4_readNot := goodIn_r _ [131, 2, 3, 121, 122, 123, 7, 18, 19, 20, 21, 22, 23, 24, 120, 4, 5, 6, 8, 9, 10, 0, 1, 11, 12, 13, 14, 15, 16, 17, 25, 26, 27, 28, 29, 30, 31, 32, 33, 34, 35, 36, 37, 38, 39, 40, 41, 42, 43, 44, 45, 46, 47, 48, 49, 50, 51, 52, 53, 54, 55, 56, 57, 58, 59, 60, 61, 62, 63, 64, 65, 66, 67, 68, 69, 70, 71, 72, 73, 74, 75, 76, 77, 78, 79, 80, 81, 82, 83, 84, 85, 86, 87, 88, 89, 90, 91, 92, 93, 94, 95, 96, 97, 98, 99, 100, 101, 102, 103, 104, 105, 106, 107, 108, 109, 110, 111, 112, 113, 114, 115, 116, 117, 118, 119, 124, 125, 126, 127, 128, 129, 130, 132, 133, 134, 135, 136, 137, 138, 139] (by decide +kernel) (by decide +kernel)
set_option maxRecDepth 20000 in
theorem gX4_readLast_X4_readNot : GoodIn wsX4_readLast (wsV RX4 75 RX4 yX4_readNot wsX4_readNot) := goodIn_app (goodIn_of _ (by decide +kernel)) ggX4_readLast_X4_readNot
set_option maxRecDepth 20000 in
theorem ggX4_readLast_X4_readInner : GoodIn wsX4_readLast wsX4_readInner := goodIn_r _ [120, 2, 121, 122, 123, 7, 4, 5, 6, 8, 9, 10, 0, 1, 3, 11, 12, 13, 14, 15, 16, 17, 18, 19, 20, 21, 22, 23, 24, 25, 26, 27, 28, 29, 30, 31, 32, 33, 34, 35, 36, 37, 38, 39, 40, 41, 42, 43, 44, 45, 46, 47, 48, 49, 50, 51, 52, 53, 54, 55, 56, 57, 58, 59, 60, 61, 62, 63, 64, 65, 66, 67, 68, 69, 70, 71, 72, 73, 74, 75, 76, 77, 78, 79, 80, 81, 82, 83, 84, 85, 86, 87, 88, 89, 90, 91, 92, 93, 94, 95, 96, 97, 98, 99, 100, 101, 102, 103, 104, 105, 106, 107, 108, 109, 110, 111, 112, 113, 114, 115, 116, 117, 118, 119, 124, 125, 126, 127, 128, 129, 130, 131, 132, 133, 134, 135, 136, 137, 138, 139] (by decide +kernel) (by decide +kernel)
set_option maxRecDepth 20000 in
theorem gX4_readLast_X4_readInner : GoodIn wsX4_readLast (wsV RX4 78 RX4 yX4_readInner wsX4_readInner) := goodIn_app (goodIn_of _ (by decide +kernel)) ggX4_readLast_X4_readInner
theorem dX4_readLast_0 : decode cX4_readLast 0 = .ok (.aload_n 0, 1) := by decide +kernel
theorem dX4_readLast_1 : decode cX4_readLast 1 = .ok (.invokevirtual 52, 3) := by decide +kernel
theorem dX4_readLast_4 : decode cX4_readLast 4 = .ok (.istore_n 2, 1) := by decide +kernel
theorem dX4_readLast_5 : decode cX4_readLast 5 = .ok (.iload_n 2, 1) := by decide +kernel
theorem dX4_readLast_6 : decode cX4_readLast 6 = .ok (.invokestatic 64, 3) := by decide +kernel
theorem dX4_readLast_9 : decode cX4_readLast 9 = .ok (.ifCond .eq 9, 3) := by decide +kernel
theorem dX4_readLast_12 : decode cX4_readLast 12 = .ok (.aload_n 0, 1) := by decide +kernel
theorem dX4_readLast_13 : decode cX4_readLast 13 = .ok (.invokevirtual 67, 3) := by decide +kernel
theorem dX4_readLast_16 : decode cX4_readLast 16 = .ok (.iconst 1, 1) := by decide +kernel
theorem dX4_readLast_17 : decode cX4_readLast 17 = .ok (.ireturn, 1) := by decide +kernel
theorem dX4_readLast_18 : decode cX4_readLast 18 = .ok (.iload_n 2, 1) := by decide +kernel
theorem dX4_readLast_19 : decode cX4_readLast 19 = .ok (.ifCond .ge 7, 3) := by decide +kernel
theorem dX4_readLast_22 : decode cX4_readLast 22 = .ok (.iconst (-1), 1) := by decide +kernel
theorem dX4_readLast_23 : decode cX4_readLast 23 = .ok (.goto 12, 3) := by decide +kernel
theorem dX4_readLast_26 : decode cX4_readLast 26 = .ok (.aload_n 0, 1) := by decide +kernel
theorem dX4_readLast_27 : decode cX4_readLast 27 = .ok (.getfield 27, 3) := by decide +kernel
theorem dX4_readLast_30 : decode cX4_readLast 30 = .ok (.iload_n 2, 1) := by decide +kernel
theorem dX4_readLast_31 : decode cX4_readLast 31 = .ok (.i2c, 1) := by decide +kernel
theorem dX4_readLast_32 : decode cX4_readLast 32 = .ok (.invokevirtual 70, 3) := by decide +kernel
theorem dX4_readLast_35 : decode cX4_readLast 35 = .ok (.istore_n 3, 1) := by decide +kernel
theorem dX4_readLast_36 : decode cX4_readLast 36 = .ok (.iload_n 3, 1) := by decide +kernel
theorem dX4_readLast_37 : decode cX4_readLast 37 = .ok (.ifCond .lt 25, 3) := by decide +kernel
theorem dX4_readLast_40 : decode cX4_readLast 40 = .ok (.aload_n 0, 1) := by decide +kernel
theorem dX4_readLast_41 : decode cX4_readLast 41 = .ok (.dup, 1) := by decide +kernel
theorem dX4_readLast_42 : decode cX4_readLast 42 = .ok (.getfield 18, 3) := by decide +kernel
theorem dX4_readLast_45 : decode cX4_readLast 45 = .ok (.iconst 1, 1) := by decide +kernel
theorem dX4_readLast_46 : decode cX4_readLast 46 = .ok (.iadd, 1) := by decide +kernel
theorem dX4_readLast_47 : decode cX4_readLast 47 = .ok (.putfield 18, 3) := by decide +kernel
theorem dX4_readLast_50 : decode cX4_readLast 50 = .ok (.aload_n 0, 1) := by decide +kernel
theorem dX4_readLast_51 : decode cX4_readLast 51 = .ok (.getfield 12, 3) := by decide +kernel
theorem dX4_readLast_54 : decode cX4_readLast 54 = .ok (.iconst (-1), 1) := by decide +kernel
theorem dX4_readLast_55 : decode cX4_readLast 55 = .ok (.iload_n 3, 1) := by decide +kernel
theorem dX4_readLast_56 : decode cX4_readLast 56 = .ok (.isub, 1) := by decide +kernel
theorem dX4_readLast_57 : decode cX4_readLast 57 = .ok (.invokevirtual 60, 3) := by decide +kernel
theorem dX4_readLast_60 : decode cX4_readLast 60 = .ok (.iconst 1, 1) := by decide +kernel
theorem dX4_readLast_61 : decode cX4_readLast 61 = .ok (.ireturn, 1) := by decide +kernel
theorem dX4_readLast_62 : decode cX4_readLast 62 = .ok (.iload_n 1, 1) := by decide +kernel
theorem dX4_readLast_63 : decode cX4_readLast 63 = .ok (.iconst 5, 1) := by decide +kernel
theorem dX4_readLast_64 : decode cX4_readLast 64 = .ok (.if_icmp .lt 5, 3) := by decide +kernel
theorem dX4_readLast_67 : decode cX4_readLast 67 = .ok (.iconst 0, 1) := by decide +kernel
theorem dX4_readLast_68 : decode cX4_readLast 68 = .ok (.ireturn, 1) := by decide +kernel
theorem dX4_readLast_69 : decode cX4_readLast 69 = .ok (.iload_n 2, 1) := by decide +kernel
theorem dX4_readLast_70 : decode cX4_readLast 70 = .ok (.bipush 33, 2) := by decide +kernel
theorem dX4_readLast_72 : decode cX4_readLast 72 = .ok (.if_icmp .ne 11, 3) := by decide +kernel
theorem dX4_readLast_75 : decode cX4_readLast 75 = .ok (.aload_n 0, 1) := by decide +kernel
theorem dX4_readLast_76 : decode cX4_readLast 76 = .ok (.iload_n 1, 1) := by decide +kernel
theorem dX4_readLast_77 : decode cX4_readLast 77 = .ok (.iconst 1, 1) := by decide +kernel
theorem dX4_readLast_78 : decode cX4_readLast 78 = .ok (.iadd, 1) := by decide +kernel
theorem dX4_readLast_79 : decode cX4_readLast 79 = .ok (.invokevirtual 75, 3) := by decide +kernel
theorem dX4_readLast_82 : decode cX4_readLast 82 = .ok (.ireturn, 1) := by decide +kernel
theorem dX4_readLast_83 : decode cX4_readLast 83 = .ok (.iload_n 2, 1) := by decide +kernel
theorem dX4_readLast_84 : decode cX4_readLast 84 = .ok (.bipush 40, 2) := by decide +kernel
theorem dX4_readLast_86 : decode cX4_readLast 86 = .ok (.if_icmp .ne 17, 3) := by decide +kernel
theorem dX4_readLast_89 : decode cX4_readLast 89 = .ok (.aload_n 0, 1) := by decide +kernel
theorem dX4_readLast_90 : decode cX4_readLast 90 = .ok (.iload_n 1, 1) := by decide +kernel
theorem dX4_readLast_91 : decode cX4_readLast 91 = .ok (.iconst 1, 1) := by decide +kernel
theorem dX4_readLast_92 : decode cX4_readLast 92 = .ok (.iadd, 1) := by decide +kernel
theorem dX4_readLast_93 : decode cX4_readLast 93 = .ok (.invokevirtual 78, 3) := by decide +kernel
theorem dX4_readLast_96 : decode cX4_readLast 96 = .ok (.ifCond .eq 7, 3) := by decide +kernel
theorem dX4_readLast_99 : decode cX4_readLast 99 = .ok (.iconst 1, 1) := by decide +kernel
theorem dX4_readLast_100 : decode cX4_readLast 100 = .ok (.goto 4, 3) := by decide +kernel
theorem dX4_readLast_103 : decode cX4_readLast 103 = .ok (.iconst 0, 1) := by decide +kernel
theorem dX4_readLast_104 : decode cX4_readLast 104 = .ok (.ireturn, 1) := by decide +kernel
theorem dX4_isDigit_0 : decode cX4_isDigit 0 = .ok (.iload_n 0, 1) := by decide +kernel
theorem dX4_isDigit_1 : decode cX4_isDigit 1 = .ok (.bipush 48, 2) := by decide +kernel
theorem dX4_isDigit_3 : decode cX4_isDigit 3 = .ok (.if_icmp .lt 13, 3) := by decide +kernel
theorem dX4_isDigit_6 : decode cX4_isDigit 6 = .ok (.iload_n 0, 1) := by decide +kernel
theorem dX4_isDigit_7 : decode cX4_isDigit 7 = .ok (.bipush 57, 2) := by decide +kernel
theorem dX4_isDigit_9 : decode cX4_isDigit 9 = .ok (.if_icmp .gt 7, 3) := by decide +kernel
theorem dX4_isDigit_12 : decode cX4_isDigit 12 = .ok (.iconst 1, 1) := by decide +kernel
theorem dX4_isDigit_13 : decode cX4_isDigit 13 = .ok (.goto 4, 3) := by decide +kernel
theorem dX4_isDigit_16 : decode cX4_isDigit 16 = .ok (.iconst 0, 1) := by decide +kernel
theorem dX4_isDigit_17 : decode cX4_isDigit 17 = .ok (.ireturn, 1) := by decide +kernel
set_option maxRecDepth 20000 in
theorem ggX4_readNumber_X4_next : GoodIn wsX4_readNumber wsX4_next := goodIn_r _ [7, 1, 8, 9, 20, 21, 22, 23, 24] (by decide +kernel) (by decide +kernel)
set_option maxRecDepth 20000 in
theorem gX4_readNumber_X4_next : GoodIn wsX4_readNumber (wsV RX4 52 RX4 yX4_next wsX4_next) := goodIn_app (goodIn_of _ (by decide +kernel)) ggX4_readNumber_X4_next
set_option maxRecDepth 20000 in
theorem ggX4_readNumber_X4_isDigit : GoodIn wsX4_readNumber wsX4_isDigit := goodIn_r _ [12] (by decide +kernel) (by decide +kernel)
set_option maxRecDepth 20000 in
theorem gX4_readNumber_X4_isDigit : GoodIn wsX4_readNumber (va_wsS RX4 64 yX4_isDigit wsX4_isDigit) := goodIn_app (goodIn_of _ (by decide +kernel)) ggX4_readNumber_X4_isDigit
set_option maxRecDepth 20000 in
theorem ggX4_readNumber_X6_add : GoodIn wsX4_readNumber wsX6_add := goodIn_r _ [17, 18, 19, 25, 26, 27] (by decide +kernel) (by decide +kernel)
set_option maxRecDepth 20000 in
theorem gX4_readNumber_X6_add : GoodIn wsX4_readNumber (wsV RX4 60 RX6 yX6_add wsX6_add) := goodIn_app (goodIn_of _ (by decide +kernel)) ggX4_readNumber_X6_add
theorem dX4_readNumber_0 : decode cX4_readNumber 0 = .ok (.iconst 0, 1) := by decide +kernel
theorem dX4_readNumber_1 : decode cX4_readNumber 1 = .ok (.istore_n 1, 1) := by decide +kernel
theorem dX4_readNumber_2 : decode cX4_readNumber 2 = .ok (.iconst 0, 1) := by decide +kernel
theorem dX4_readNumber_3 : decode cX4_readNumber 3 = .ok (.istore_n 2, 1) := by decide +kernel
theorem dX4_readNumber_4 : decode cX4_readNumber 4 = .ok (.iload_n 2, 1) := by decide +kernel
theorem dX4_readNumber_5 : decode cX4_readNumber 5 = .ok (.iconst 4, 1) := by decide +kernel
theorem dX4_readNumber_6 : decode cX4_readNumber 6 = .ok (.if_icmp .ge 42, 3) := by decide +kernel
theorem dX4_readNumber_9 : decode cX4_readNumber 9 = .ok (.aload_n 0, 1) := by decide +kernel
theorem dX4_readNumber_10 : decode cX4_readNumber 10 = .ok (.invokevirtual 52, 3) := by decide +kernel
theorem dX4_readNumber_13 : decode cX4_readNumber 13 = .ok (.invokestatic 64, 3) := by decide +kernel
theorem dX4_readNumber_16 : decode cX4_readNumber 16 = .ok (.ifCond .eq 32, 3) := by decide +kernel
theorem dX4_readNumber_19 : decode cX4_readNumber 19 = .ok (.bipush 10, 2) := by decide +kernel
theorem dX4_readNumber_21 : decode cX4_readNumber 21 = .ok (.iload_n 1, 1) := by decide +kernel
theorem dX4_readNumber_22 : decode cX4_readNumber 22 = .ok (.imul, 1) := by decide +kernel
theorem dX4_readNumber_23 : decode cX4_readNumber 23 = .ok (.aload_n 0, 1) := by decide +kernel
theorem dX4_readNumber_24 : decode cX4_readNumber 24 = .ok (.invokevirtual 52, 3) := by decide +kernel
theorem dX4_readNumber_27 : decode cX4_readNumber 27 = .ok (.iadd, 1) := by decide +kernel
theorem dX4_readNumber_28 : decode cX4_readNumber 28 = .ok (.bipush 48, 2) := by decide +kernel
theorem dX4_readNumber_30 : decode cX4_readNumber 30 = .ok (.isub, 1) := by decide +kernel
theorem dX4_readNumber_31 : decode cX4_readNumber 31 = .ok (.istore_n 1, 1) := by decide +kernel
theorem dX4_readNumber_32 : decode cX4_readNumber 32 = .ok (.aload_n 0, 1) := by decide +kernel
theorem dX4_readNumber_33 : decode cX4_readNumber 33 = .ok (.dup, 1) := by decide +kernel
theorem dX4_readNumber_34 : decode cX4_readNumber 34 = .ok (.getfield 18, 3) := by decide +kernel
theorem dX4_readNumber_37 : decode cX4_readNumber 37 = .ok (.iconst 1, 1) := by decide +kernel
theorem dX4_readNumber_38 : decode cX4_readNumber 38 = .ok (.iadd, 1) := by decide +kernel
theorem dX4_readNumber_39 : decode cX4_readNumber 39 = .ok (.putfield 18, 3) := by decide +kernel
theorem dX4_readNumber_42 : decode cX4_readNumber 42 = .ok (.iinc 2 1, 3) := by decide +kernel
theorem dX4_readNumber_45 : decode cX4_readNumber 45 = .ok (.goto (-41), 3) := by decide +kernel
theorem dX4_readNumber_48 : decode cX4_readNumber 48 = .ok (.aload_n 0, 1) := by decide +kernel
theorem dX4_readNumber_49 : decode cX4_readNumber 49 = .ok (.getfield 12, 3) := by decide +kernel
theorem dX4_readNumber_52 : decode cX4_readNumber 52 = .ok (.iload_n 1, 1) := by decide +kernel
theorem dX4_readNumber_53 : decode cX4_readNumber 53 = .ok (.invokevirtual 60, 3) := by decide +kernel
theorem dX4_readNumber_56 : decode cX4_readNumber 56 = .ok (.return_, 1) := by decide +kernel
set_option maxRecDepth 20000 in
theorem ggX4_readNot_X4_readLevel : GoodIn wsX4_readNot wsX4_readLevel := goodIn_r _ [125, 1, 2, 126, 127, 128, 6, 3, 4, 5, 15, 16, 17, 18, 19, 20, 129, 130, 131, 7, 8, 9, 10, 11, 12, 13, 14, 21, 22, 23, 24, 25, 26, 27, 28, 29, 30, 31, 32, 33, 34, 35, 36, 37, 38, 39, 40, 41, 42, 43, 44, 45, 46, 47, 48, 49, 50, 51, 52, 53, 54, 55, 56, 57, 58, 59, 60, 61, 62, 63, 64, 65, 66, 67, 68, 69, 70, 71, 72, 73, 74, 75, 76, 77, 78, 79, 80, 81, 82, 83, 84, 85, 86, 87, 88, 89, 90, 91, 92, 93, 94, 95, 96, 97, 98, 99, 100, 101, 102, 103, 104, 105, 106, 107, 108, 109, 110, 111, 112, 113, 114, 115, 116, 117, 118, 119, 120, 121, 122, 123, 124, 0, 132, 133, 134, 135, 136, 137, 138, 139] (by decide +kernel) (by decide +kernel)
set_option maxRecDepth 20000 in
theorem gX4_readNot_X4_readLevel : GoodIn wsX4_readNot (wsV RX4 44 RX4 yX4_readLevel wsX4_readLevel) := goodIn_app (goodIn_of _ (by decide +kernel)) ggX4_readNot_X4_readLevel
set_option maxRecDepth 20000 in
theorem ggX4_readNot_X6_add : GoodIn wsX4_readNot wsX6_add := goodIn_r _ [11, 12, 13, 137, 138, 139] (by decide +kernel) (by decide +kernel)
set_option maxRecDepth 20000 in
theorem gX4_readNot_X6_add : GoodIn wsX4_readNot (wsV RX4 60 RX6 yX6_add wsX6_add) := goodIn_app (goodIn_of _ (by decide +kernel)) ggX4_readNot_X6_add
theorem dX4_readNot_0 : decode cX4_readNot 0 = .ok (.aload_n 0, 1) := by decide +kernel
theorem dX4_readNot_1 : decode cX4_readNot 1 = .ok (.dup, 1) := by decide +kernel
theorem dX4_readNot_2 : decode cX4_readNot 2 = .ok (.getfield 18, 3) := by decide +kernel
theorem dX4_readNot_5 : decode cX4_readNot 5 = .ok (.iconst 1, 1) := by decide +kernel
theorem dX4_readNot_6 : decode cX4_readNot 6 = .ok (.iadd, 1) := by decide +kernel
theorem dX4_readNot_7 : decode cX4_readNot 7 = .ok (.putfield 18, 3) := by decide +kernel
theorem dX4_readNot_10 : decode cX4_readNot 10 = .ok (.aload_n 0, 1) := by decide +kernel
theorem dX4_readNot_11 : decode cX4_readNot 11 = .ok (.iconst 5, 1) := by decide +kernel
theorem dX4_readNot_12 : decode cX4_readNot 12 = .ok (.iload_n 1, 1) := by decide +kernel
theorem dX4_readNot_13 : decode cX4_readNot 13 = .ok (.invokevirtual 44, 3) := by decide +kernel
theorem dX4_readNot_16 : decode cX4_readNot 16 = .ok (.ifCond .ne 5, 3) := by decide +kernel
theorem dX4_readNot_19 : decode cX4_readNot 19 = .ok (.iconst 0, 1) := by decide +kernel
theorem dX4_readNot_20 : decode cX4_readNot 20 = .ok (.ireturn, 1) := by decide +kernel
theorem dX4_readNot_21 : decode cX4_readNot 21 = .ok (.aload_n 0, 1) := by decide +kernel
theorem dX4_readNot_22 : decode cX4_readNot 22 = .ok (.getfield 12, 3) := by decide +kernel
theorem dX4_readNot_25 : decode cX4_readNot 25 = .ok (.sipush 10033, 3) := by decide +kernel
theorem dX4_readNot_28 : decode cX4_readNot 28 = .ok (.invokevirtual 60, 3) := by decide +kernel
theorem dX4_readNot_31 : decode cX4_readNot 31 = .ok (.iconst 1, 1) := by decide +kernel
theorem dX4_readNot_32 : decode cX4_readNot 32 = .ok (.ireturn, 1) := by decide +kernel
set_option maxRecDepth 20000 in
theorem ggX4_readInner_X4_readLevel : GoodIn wsX4_readInner wsX4_readLevel := goodIn_r _ [124, 1, 14, 125, 126, 127, 5, 2, 3, 4, 6, 7, 8, 9, 10, 11, 128, 129, 130, 22, 23, 24, 25, 26, 27, 28, 0, 12, 13, 15, 16, 17, 18, 19, 20, 21, 29, 30, 31, 32, 33, 34, 35, 36, 37, 38, 39, 40, 41, 42, 43, 44, 45, 46, 47, 48, 49, 50, 51, 52, 53, 54, 55, 56, 57, 58, 59, 60, 61, 62, 63, 64, 65, 66, 67, 68, 69, 70, 71, 72, 73, 74, 75, 76, 77, 78, 79, 80, 81, 82, 83, 84, 85, 86, 87, 88, 89, 90, 91, 92, 93, 94, 95, 96, 97, 98, 99, 100, 101, 102, 103, 104, 105, 106, 107, 108, 109, 110, 111, 112, 113, 114, 115, 116, 117, 118, 119, 120, 121, 122, 123, 131, 132, 133, 134, 135, 136, 137, 138, 139] (by decide +kernel) (by decide +kernel)
set_option maxRecDepth 20000 in
theorem gX4_readInner_X4_readLevel : GoodIn wsX4_readInner (wsV RX4 44 RX4 yX4_readLevel wsX4_readLevel) := goodIn_app (goodIn_of _ (by decide +kernel)) ggX4_readInner_X4_readLevel
set_option maxRecDepth 20000 in
theorem ggX4_readInner_X4_next : GoodIn wsX4_readInner wsX4_next := goodIn_r _ [9, 1, 10, 11, 132, 133, 134, 135, 136] (by decide +kernel) (by decide +kernel)
set_option maxRecDepth 20000 in
theorem gX4_readInner_X4_next : GoodIn wsX4_readInner (wsV RX4 52 RX4 yX4_next wsX4_next) := goodIn_app (goodIn_of _ (by decide +kernel)) ggX4_readInner_X4_next
theorem dX4_readInner_0 : decode cX4_readInner 0 = .ok (.aload_n 0, 1) := by decide +kernel
theorem dX4_readInner_1 : decode cX4_readInner 1 = .ok (.dup, 1) := by decide +kernel
theorem dX4_readInner_2 : decode cX4_readInner 2 = .ok (.getfield 18, 3) := by decide +kernel
theorem dX4_readInner_5 : decode cX4_readInner 5 = .ok (.iconst 1, 1) := by decide +kernel
theorem dX4_readInner_6 : decode cX4_readInner 6 = .ok (.iadd, 1) := by decide +kernel
theorem dX4_readInner_7 : decode cX4_readInner 7 = .ok (.putfield 18, 3) := by decide +kernel
theorem dX4_readInner_10 : decode cX4_readInner 10 = .ok (.aload_n 0, 1) := by decide +kernel
theorem dX4_readInner_11 : decode cX4_readInner 11 = .ok (.iconst 0, 1) := by decide +kernel
theorem dX4_readInner_12 : decode cX4_readInner 12 = .ok (.iload_n 1, 1) := by decide +kernel
theorem dX4_readInner_13 : decode cX4_readInner 13 = .ok (.invokevirtual 44, 3) := by decide +kernel
theorem dX4_readInner_16 : decode cX4_readInner 16 = .ok (.ifCond .eq 12, 3) := by decide +kernel
theorem dX4_readInner_19 : decode cX4_readInner 19 = .ok (.aload_n 0, 1) := by decide +kernel
theorem dX4_readInner_20 : decode cX4_readInner 20 = .ok (.invokevirtual 52, 3) := by decide +kernel
theorem dX4_readInner_23 : decode cX4_readInner 23 = .ok (.bipush 41, 2) := by decide +kernel
theorem dX4_readInner_25 : decode cX4_readInner 25 = .ok (.if_icmp .eq 5, 3) := by decide +kernel
theorem dX4_readInner_28 : decode cX4_readInner 28 = .ok (.iconst 0, 1) := by decide +kernel
theorem dX4_readInner_29 : decode cX4_readInner 29 = .ok (.ireturn, 1) := by decide +kernel
theorem dX4_readInner_30 : decode cX4_readInner 30 = .ok (.aload_n 0, 1) := by decide +kernel
theorem dX4_readInner_31 : decode cX4_readInner 31 = .ok (.dup, 1) := by decide +kernel
theorem dX4_readInner_32 : decode cX4_readInner 32 = .ok (.getfield 18, 3) := by decide +kernel
theorem dX4_readInner_35 : decode cX4_readInner 35 = .ok (.iconst 1, 1) := by decide +kernel
theorem dX4_readInner_36 : decode cX4_readInner 36 = .ok (.iadd, 1) := by decide +kernel
theorem dX4_readInner_37 : decode cX4_readInner 37 = .ok (.putfield 18, 3) := by decide +kernel
theorem dX4_readInner_40 : decode cX4_readInner 40 = .ok (.iconst 1, 1) := by decide +kernel
theorem dX4_readInner_41 : decode cX4_readInner 41 = .ok (.ireturn, 1) := by decide +kernel
theorem dX5_init_0 : decode cX5_init 0 = .ok (.aload_n 0, 1) := by decide +kernel
theorem dX5_init_1 : decode cX5_init 1 = .ok (.invokespecial 3, 3) := by decide +kernel
theorem dX5_init_4 : decode cX5_init 4 = .ok (.aload_n 0, 1) := by decide +kernel
theorem dX5_init_5 : decode cX5_init 5 = .ok (.bipush 24, 2) := by decide +kernel
theorem dX5_init_7 : decode cX5_init 7 = .ok (.newarray .int, 2) := by decide +kernel
theorem dX5_init_9 : decode cX5_init 9 = .ok (.putfield 9, 3) := by decide +kernel
theorem dX5_init_12 : decode cX5_init 12 = .ok (.aload_n 0, 1) := by decide +kernel
theorem dX5_init_13 : decode cX5_init 13 = .ok (.iconst 0, 1) := by decide +kernel
theorem dX5_init_14 : decode cX5_init 14 = .ok (.putfield 15, 3) := by decide +kernel
theorem dX5_init_17 : decode cX5_init 17 = .ok (.aload_n 0, 1) := by decide +kernel
theorem dX5_init_18 : decode cX5_init 18 = .ok (.iconst 0, 1) := by decide +kernel
theorem dX5_init_19 : decode cX5_init 19 = .ok (.putfield 19, 3) := by decide +kernel
theorem dX5_init_22 : decode cX5_init 22 = .ok (.return_, 1) := by decide +kernel
theorem dX5_isMissing_0 : decode cX5_isMissing 0 = .ok (.aload_n 0, 1) := by decide +kernel
theorem dX5_isMissing_1 : decode cX5_isMissing 1 = .ok (.getfield 15, 3) := by decide +kernel
theorem dX5_isMissing_4 : decode cX5_isMissing 4 = .ok (.ifCond .ne 7, 3) := by decide +kernel
theorem dX5_isMissing_7 : decode cX5_isMissing 7 = .ok (.iconst 1, 1) := by decide +kernel
theorem dX5_isMissing_8 : decode cX5_isMissing 8 = .ok (.goto 4, 3) := by decide +kernel

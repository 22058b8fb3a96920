theorem dX9_fits_24 : decode cX9_fits 24 = .ok (.getfield 22, 3) := by decide +kernel
theorem dX9_fits_27 : decode cX9_fits 27 = .ok (.iload_n 1, 1) := by decide +kernel
theorem dX9_fits_28 : decode cX9_fits 28 = .ok (.iaload, 1) := by decide +kernel
theorem dX9_fits_29 : decode cX9_fits 29 = .ok (.ifCond .ne 10, 3) := by decide +kernel
theorem dX9_fits_32 : decode cX9_fits 32 = .ok (.aload_n 0, 1) := by decide +kernel
theorem dX9_fits_33 : decode cX9_fits 33 = .ok (.ldc 198, 2) := by decide +kernel
theorem dX9_fits_35 : decode cX9_fits 35 = .ok (.invokevirtual 79, 3) := by decide +kernel
theorem dX9_fits_38 : decode cX9_fits 38 = .ok (.ireturn, 1) := by decide +kernel
theorem dX9_fits_39 : decode cX9_fits 39 = .ok (.iconst 0, 1) := by decide +kernel
theorem dX9_fits_40 : decode cX9_fits 40 = .ok (.istore_n 3, 1) := by decide +kernel
theorem dX9_fits_41 : decode cX9_fits 41 = .ok (.iconst (-1), 1) := by decide +kernel
theorem dX9_fits_42 : decode cX9_fits 42 = .ok (.istore 4, 2) := by decide +kernel
theorem dX9_fits_44 : decode cX9_fits 44 = .ok (.bipush 99, 2) := by decide +kernel
theorem dX9_fits_46 : decode cX9_fits 46 = .ok (.istore 5, 2) := by decide +kernel
theorem dX9_fits_48 : decode cX9_fits 48 = .ok (.iload 5, 2) := by decide +kernel
theorem dX9_fits_50 : decode cX9_fits 50 = .ok (.ifCond .lt 45, 3) := by decide +kernel
theorem dX9_fits_53 : decode cX9_fits 53 = .ok (.aload_n 0, 1) := by decide +kernel
theorem dX9_fits_54 : decode cX9_fits 54 = .ok (.iload_n 1, 1) := by decide +kernel
theorem dX9_fits_55 : decode cX9_fits 55 = .ok (.iload 5, 2) := by decide +kernel
theorem dX9_fits_57 : decode cX9_fits 57 = .ok (.invokevirtual 223, 3) := by decide +kernel
theorem dX9_fits_60 : decode cX9_fits 60 = .ok (.istore 6, 2) := by decide +kernel
theorem dX9_fits_62 : decode cX9_fits 62 = .ok (.iload_n 3, 1) := by decide +kernel
theorem dX9_fits_63 : decode cX9_fits 63 = .ok (.iload 6, 2) := by decide +kernel
theorem dX9_fits_65 : decode cX9_fits 65 = .ok (.ifCond .eq 7, 3) := by decide +kernel
theorem dX9_fits_68 : decode cX9_fits 68 = .ok (.iconst 1, 1) := by decide +kernel
theorem dX9_fits_69 : decode cX9_fits 69 = .ok (.goto 4, 3) := by decide +kernel
theorem dX9_fits_72 : decode cX9_fits 72 = .ok (.iconst 0, 1) := by decide +kernel
theorem dX9_fits_73 : decode cX9_fits 73 = .ok (.iadd, 1) := by decide +kernel
theorem dX9_fits_74 : decode cX9_fits 74 = .ok (.istore_n 3, 1) := by decide +kernel
theorem dX9_fits_75 : decode cX9_fits 75 = .ok (.iload 6, 2) := by decide +kernel
theorem dX9_fits_77 : decode cX9_fits 77 = .ok (.ifCond .eq 8, 3) := by decide +kernel
theorem dX9_fits_80 : decode cX9_fits 80 = .ok (.iload 5, 2) := by decide +kernel
theorem dX9_fits_82 : decode cX9_fits 82 = .ok (.goto 5, 3) := by decide +kernel
theorem dX9_fits_85 : decode cX9_fits 85 = .ok (.iload 4, 2) := by decide +kernel
theorem dX9_fits_87 : decode cX9_fits 87 = .ok (.istore 4, 2) := by decide +kernel
theorem dX9_fits_89 : decode cX9_fits 89 = .ok (.iinc 5 (-1), 3) := by decide +kernel
theorem dX9_fits_92 : decode cX9_fits 92 = .ok (.goto (-44), 3) := by decide +kernel
theorem dX9_fits_95 : decode cX9_fits 95 = .ok (.iload_n 2, 1) := by decide +kernel
theorem dX9_fits_96 : decode cX9_fits 96 = .ok (.ifCond .ne 7, 3) := by decide +kernel
theorem dX9_fits_99 : decode cX9_fits 99 = .ok (.iload_n 3, 1) := by decide +kernel
theorem dX9_fits_100 : decode cX9_fits 100 = .ok (.goto 19, 3) := by decide +kernel
theorem dX9_fits_103 : decode cX9_fits 103 = .ok (.iload 4, 2) := by decide +kernel
theorem dX9_fits_105 : decode cX9_fits 105 = .ok (.ifCond .ge 12, 3) := by decide +kernel
theorem dX9_fits_108 : decode cX9_fits 108 = .ok (.aload_n 0, 1) := by decide +kernel
theorem dX9_fits_109 : decode cX9_fits 109 = .ok (.ldc 198, 2) := by decide +kernel
theorem dX9_fits_111 : decode cX9_fits 111 = .ok (.invokevirtual 79, 3) := by decide +kernel
theorem dX9_fits_114 : decode cX9_fits 114 = .ok (.goto 5, 3) := by decide +kernel
theorem dX9_fits_117 : decode cX9_fits 117 = .ok (.iload 4, 2) := by decide +kernel
theorem dX9_fits_119 : decode cX9_fits 119 = .ok (.ireturn, 1) := by decide +kernel
theorem dX9_begins_0 : decode cX9_begins 0 = .ok (.aload_n 0, 1) := by decide +kernel
theorem dX9_begins_1 : decode cX9_begins 1 = .ok (.getfield 226, 3) := by decide +kernel
theorem dX9_begins_4 : decode cX9_begins 4 = .ok (.bipush 30, 2) := by decide +kernel
theorem dX9_begins_6 : decode cX9_begins 6 = .ok (.if_icmp .ge 23, 3) := by decide +kernel
theorem dX9_begins_9 : decode cX9_begins 9 = .ok (.aload_n 0, 1) := by decide +kernel
theorem dX9_begins_10 : decode cX9_begins 10 = .ok (.getfield 46, 3) := by decide +kernel
theorem dX9_begins_13 : decode cX9_begins 13 = .ok (.aload_n 0, 1) := by decide +kernel
theorem dX9_begins_14 : decode cX9_begins 14 = .ok (.getfield 226, 3) := by decide +kernel
theorem dX9_begins_17 : decode cX9_begins 17 = .ok (.iload_n 1, 1) := by decide +kernel
theorem dX9_begins_18 : decode cX9_begins 18 = .ok (.iastore, 1) := by decide +kernel
theorem dX9_begins_19 : decode cX9_begins 19 = .ok (.aload_n 0, 1) := by decide +kernel
theorem dX9_begins_20 : decode cX9_begins 20 = .ok (.dup, 1) := by decide +kernel
theorem dX9_begins_21 : decode cX9_begins 21 = .ok (.getfield 226, 3) := by decide +kernel
theorem dX9_begins_24 : decode cX9_begins 24 = .ok (.iconst 1, 1) := by decide +kernel
theorem dX9_begins_25 : decode cX9_begins 25 = .ok (.iadd, 1) := by decide +kernel
theorem dX9_begins_26 : decode cX9_begins 26 = .ok (.putfield 226, 3) := by decide +kernel
theorem dX9_begins_29 : decode cX9_begins 29 = .ok (.return_, 1) := by decide +kernel
set_option maxRecDepth 20000 in
theorem ggX9_plainAsks_X9_begins : GoodIn wsX9_plainAsks wsX9_begins := goodIn_r _ [5, 6, 7, 8, 9, 10, 11, 12, 13, 14, 15, 16, 17, 18, 19, 20, 21, 22, 23, 24, 25, 26, 27, 28] (by decide +kernel) (by decide +kernel)
set_option maxRecDepth 20000 in
theorem gX9_plainAsks_X9_begins : GoodIn wsX9_plainAsks (wsV RX9 229 RX9 yX9_begins wsX9_begins) := goodIn_app (goodIn_of _ (by decide +kernel)) ggX9_plainAsks_X9_begins
theorem dX9_plainAsks_0 : decode cX9_plainAsks 0 = .ok (.aload_n 0, 1) := by decide +kernel
theorem dX9_plainAsks_1 : decode cX9_plainAsks 1 = .ok (.bipush 10, 2) := by decide +kernel
theorem dX9_plainAsks_3 : decode cX9_plainAsks 3 = .ok (.invokevirtual 229, 3) := by decide +kernel
theorem dX9_plainAsks_6 : decode cX9_plainAsks 6 = .ok (.iload_n 2, 1) := by decide +kernel
theorem dX9_plainAsks_7 : decode cX9_plainAsks 7 = .ok (.iload_n 1, 1) := by decide +kernel
theorem dX9_plainAsks_8 : decode cX9_plainAsks 8 = .ok (.iadd, 1) := by decide +kernel
theorem dX9_plainAsks_9 : decode cX9_plainAsks 9 = .ok (.ireturn, 1) := by decide +kernel
set_option maxRecDepth 20000 in
theorem ggX9_strictAsks_X9_begins : GoodIn wsX9_strictAsks wsX9_begins := goodIn_r _ [5, 6, 7, 12, 13, 14, 15, 16, 17, 18, 19, 20, 21, 22, 23, 24, 25, 26, 27, 28, 29, 30, 31, 32] (by decide +kernel) (by decide +kernel)
set_option maxRecDepth 20000 in
theorem gX9_strictAsks_X9_begins : GoodIn wsX9_strictAsks (wsV RX9 229 RX9 yX9_begins wsX9_begins) := goodIn_app (goodIn_of _ (by decide +kernel)) ggX9_strictAsks_X9_begins
set_option maxRecDepth 20000 in
theorem ggX9_strictAsks_X9_plainAsks : GoodIn wsX9_strictAsks wsX9_plainAsks := goodIn_r _ [11, 1, 2, 3, 4, 5, 6, 7, 12, 13, 14, 15, 16, 17, 18, 19, 20, 21, 22, 23, 24, 25, 26, 27, 28, 29, 30, 31, 32] (by decide +kernel) (by decide +kernel)
set_option maxRecDepth 20000 in
theorem gX9_strictAsks_X9_plainAsks : GoodIn wsX9_strictAsks (wsV RX9 232 RX9 yX9_plainAsks wsX9_plainAsks) := goodIn_app (goodIn_of _ (by decide +kernel)) ggX9_strictAsks_X9_plainAsks
theorem dX9_strictAsks_0 : decode cX9_strictAsks 0 = .ok (.aload_n 0, 1) := by decide +kernel
theorem dX9_strictAsks_1 : decode cX9_strictAsks 1 = .ok (.bipush 20, 2) := by decide +kernel
theorem dX9_strictAsks_3 : decode cX9_strictAsks 3 = .ok (.invokevirtual 229, 3) := by decide +kernel
theorem dX9_strictAsks_6 : decode cX9_strictAsks 6 = .ok (.aload_n 0, 1) := by decide +kernel
theorem dX9_strictAsks_7 : decode cX9_strictAsks 7 = .ok (.iload_n 1, 1) := by decide +kernel
theorem dX9_strictAsks_8 : decode cX9_strictAsks 8 = .ok (.iload_n 2, 1) := by decide +kernel
theorem dX9_strictAsks_9 : decode cX9_strictAsks 9 = .ok (.invokevirtual 232, 3) := by decide +kernel
theorem dX9_strictAsks_12 : decode cX9_strictAsks 12 = .ok (.iconst 4, 1) := by decide +kernel
theorem dX9_strictAsks_13 : decode cX9_strictAsks 13 = .ok (.isub, 1) := by decide +kernel
theorem dX9_strictAsks_14 : decode cX9_strictAsks 14 = .ok (.ireturn, 1) := by decide +kernel
set_option maxRecDepth 20000 in
theorem ggX9_asks_X9_of : GoodIn wsX9_asks wsX9_of := goodIn_r _ [5, 6, 21, 22, 23, 24, 25, 26, 27, 28, 29, 30, 31, 32, 33, 34, 35, 36, 37, 38, 39, 40, 41] (by decide +kernel) (by decide +kernel)
set_option maxRecDepth 20000 in
theorem gX9_asks_X9_of : GoodIn wsX9_asks (wsV RX9 58 RX9 yX9_of wsX9_of) := goodIn_app (goodIn_of _ (by decide +kernel)) ggX9_asks_X9_of
set_option maxRecDepth 20000 in
theorem ggX9_asks_X9_strictAsks : GoodIn wsX9_asks wsX9_strictAsks := goodIn_r _ [10, 11, 12, 13, 4, 14, 15, 16, 17, 18, 19, 20, 21, 22, 23, 24, 25, 26, 27, 28, 29, 30, 31, 32, 33, 34, 35, 36, 37, 38, 39, 40, 41] (by decide +kernel) (by decide +kernel)
set_option maxRecDepth 20000 in
theorem gX9_asks_X9_strictAsks : GoodIn wsX9_asks (wsV RX9 235 RX9 yX9_strictAsks wsX9_strictAsks) := goodIn_app (goodIn_of _ (by decide +kernel)) ggX9_asks_X9_strictAsks
set_option maxRecDepth 20000 in
theorem ggX9_asks_X9_begins : GoodIn wsX9_asks wsX9_begins := goodIn_r _ [14, 15, 16, 21, 22, 23, 24, 25, 26, 27, 28, 29, 30, 31, 32, 33, 34, 35, 36, 37, 38, 39, 40, 41] (by decide +kernel) (by decide +kernel)
set_option maxRecDepth 20000 in
theorem gX9_asks_X9_begins : GoodIn wsX9_asks (wsV RX9 229 RX9 yX9_begins wsX9_begins) := goodIn_app (goodIn_of _ (by decide +kernel)) ggX9_asks_X9_begins
set_option maxRecDepth 20000 in
theorem ggX9_asks_X9_plainAsks : GoodIn wsX9_asks wsX9_plainAsks := goodIn_r _ [20, 11, 12, 13, 4, 14, 15, 16, 21, 22, 23, 24, 25, 26, 27, 28, 29, 30, 31, 32, 33, 34, 35, 36, 37, 38, 39, 40, 41] (by decide +kernel) (by decide +kernel)
set_option maxRecDepth 20000 in
theorem gX9_asks_X9_plainAsks : GoodIn wsX9_asks (wsV RX9 232 RX9 yX9_plainAsks wsX9_plainAsks) := goodIn_app (goodIn_of _ (by decide +kernel)) ggX9_asks_X9_plainAsks
theorem dX9_asks_0 : decode cX9_asks 0 = .ok (.aload_n 0, 1) := by decide +kernel
theorem dX9_asks_1 : decode cX9_asks 1 = .ok (.iload_n 1, 1) := by decide +kernel
theorem dX9_asks_2 : decode cX9_asks 2 = .ok (.iconst 0, 1) := by decide +kernel
theorem dX9_asks_3 : decode cX9_asks 3 = .ok (.invokevirtual 58, 3) := by decide +kernel
theorem dX9_asks_6 : decode cX9_asks 6 = .ok (.lookupswitch 65 #[(1, 34), (4, 41), (6, 56)], 34) := by decide +kernel
theorem dX9_asks_40 : decode cX9_asks 40 = .ok (.aload_n 0, 1) := by decide +kernel
theorem dX9_asks_41 : decode cX9_asks 41 = .ok (.iload_n 1, 1) := by decide +kernel
theorem dX9_asks_42 : decode cX9_asks 42 = .ok (.iload_n 2, 1) := by decide +kernel
theorem dX9_asks_43 : decode cX9_asks 43 = .ok (.invokevirtual 235, 3) := by decide +kernel
theorem dX9_asks_46 : decode cX9_asks 46 = .ok (.ireturn, 1) := by decide +kernel
theorem dX9_asks_47 : decode cX9_asks 47 = .ok (.aload_n 0, 1) := by decide +kernel
theorem dX9_asks_48 : decode cX9_asks 48 = .ok (.bipush 50, 2) := by decide +kernel
theorem dX9_asks_50 : decode cX9_asks 50 = .ok (.invokevirtual 229, 3) := by decide +kernel
theorem dX9_asks_53 : decode cX9_asks 53 = .ok (.aload_n 0, 1) := by decide +kernel
theorem dX9_asks_54 : decode cX9_asks 54 = .ok (.iload_n 1, 1) := by decide +kernel
theorem dX9_asks_55 : decode cX9_asks 55 = .ok (.iload_n 2, 1) := by decide +kernel
theorem dX9_asks_56 : decode cX9_asks 56 = .ok (.invokevirtual 235, 3) := by decide +kernel
theorem dX9_asks_59 : decode cX9_asks 59 = .ok (.iconst 3, 1) := by decide +kernel
theorem dX9_asks_60 : decode cX9_asks 60 = .ok (.imul, 1) := by decide +kernel
theorem dX9_asks_61 : decode cX9_asks 61 = .ok (.ireturn, 1) := by decide +kernel
theorem dX9_asks_62 : decode cX9_asks 62 = .ok (.aload_n 0, 1) := by decide +kernel
theorem dX9_asks_63 : decode cX9_asks 63 = .ok (.bipush 70, 2) := by decide +kernel
theorem dX9_asks_65 : decode cX9_asks 65 = .ok (.invokevirtual 229, 3) := by decide +kernel
theorem dX9_asks_68 : decode cX9_asks 68 = .ok (.bipush 9, 2) := by decide +kernel
theorem dX9_asks_70 : decode cX9_asks 70 = .ok (.ireturn, 1) := by decide +kernel
theorem dX9_asks_71 : decode cX9_asks 71 = .ok (.aload_n 0, 1) := by decide +kernel
theorem dX9_asks_72 : decode cX9_asks 72 = .ok (.iload_n 1, 1) := by decide +kernel
theorem dX9_asks_73 : decode cX9_asks 73 = .ok (.iload_n 2, 1) := by decide +kernel
theorem dX9_asks_74 : decode cX9_asks 74 = .ok (.invokevirtual 232, 3) := by decide +kernel
theorem dX9_asks_77 : decode cX9_asks 77 = .ok (.ireturn, 1) := by decide +kernel
set_option maxRecDepth 20000 in
theorem ggX9_plainNods_X9_begins : GoodIn wsX9_plainNods wsX9_begins := goodIn_r _ [5, 6, 7, 25, 26, 27, 28, 29, 30, 31, 32, 33, 34, 35, 36, 37, 38, 39, 40, 41, 42, 43, 44, 45] (by decide +kernel) (by decide +kernel)
set_option maxRecDepth 20000 in
theorem gX9_plainNods_X9_begins : GoodIn wsX9_plainNods (wsV RX9 229 RX9 yX9_begins wsX9_begins) := goodIn_app (goodIn_of _ (by decide +kernel)) ggX9_plainNods_X9_begins
set_option maxRecDepth 20000 in
theorem ggX9_plainNods_X9_asks : GoodIn wsX9_plainNods wsX9_asks := goodIn_r _ [11, 12, 13, 14, 4, 15, 16, 17, 18, 19, 20, 1, 2, 3, 5, 6, 7, 21, 22, 23, 24, 25, 26, 27, 28, 29, 30, 31, 32, 33, 34, 35, 36, 37, 38, 39, 40, 41, 42, 43, 44, 45] (by decide +kernel) (by decide +kernel)
set_option maxRecDepth 20000 in
theorem gX9_plainNods_X9_asks : GoodIn wsX9_plainNods (wsV RX9 238 RX9 yX9_asks wsX9_asks) := goodIn_app (goodIn_of _ (by decide +kernel)) ggX9_plainNods_X9_asks
theorem dX9_plainNods_0 : decode cX9_plainNods 0 = .ok (.aload_n 0, 1) := by decide +kernel
theorem dX9_plainNods_1 : decode cX9_plainNods 1 = .ok (.bipush 11, 2) := by decide +kernel
theorem dX9_plainNods_3 : decode cX9_plainNods 3 = .ok (.invokevirtual 229, 3) := by decide +kernel
theorem dX9_plainNods_6 : decode cX9_plainNods 6 = .ok (.aload_n 0, 1) := by decide +kernel
theorem dX9_plainNods_7 : decode cX9_plainNods 7 = .ok (.iload_n 1, 1) := by decide +kernel
theorem dX9_plainNods_8 : decode cX9_plainNods 8 = .ok (.iload_n 2, 1) := by decide +kernel
theorem dX9_plainNods_9 : decode cX9_plainNods 9 = .ok (.invokevirtual 238, 3) := by decide +kernel
theorem dX9_plainNods_12 : decode cX9_plainNods 12 = .ok (.iconst 2, 1) := by decide +kernel
theorem dX9_plainNods_13 : decode cX9_plainNods 13 = .ok (.imul, 1) := by decide +kernel
theorem dX9_plainNods_14 : decode cX9_plainNods 14 = .ok (.ireturn, 1) := by decide +kernel
set_option maxRecDepth 20000 in
theorem ggX9_mildNods_X9_begins : GoodIn wsX9_mildNods wsX9_begins := goodIn_r _ [5, 6, 7, 29, 30, 31, 32, 33, 34, 35, 36, 37, 38, 39, 40, 41, 42, 43, 44, 45, 46, 47, 48, 49] (by decide +kernel) (by decide +kernel)
set_option maxRecDepth 20000 in
theorem gX9_mildNods_X9_begins : GoodIn wsX9_mildNods (wsV RX9 229 RX9 yX9_begins wsX9_begins) := goodIn_app (goodIn_of _ (by decide +kernel)) ggX9_mildNods_X9_begins
set_option maxRecDepth 20000 in
theorem ggX9_mildNods_X9_plainNods : GoodIn wsX9_mildNods wsX9_plainNods := goodIn_r _ [11, 1, 2, 3, 4, 5, 6, 7, 12, 13, 14, 15, 16, 17, 18, 19, 20, 21, 22, 23, 24, 25, 26, 27, 28, 29, 30, 31, 32, 33, 34, 35, 36, 37, 38, 39, 40, 41, 42, 43, 44, 45, 46, 47, 48, 49] (by decide +kernel) (by decide +kernel)
set_option maxRecDepth 20000 in
theorem gX9_mildNods_X9_plainNods : GoodIn wsX9_mildNods (wsV RX9 241 RX9 yX9_plainNods wsX9_plainNods) := goodIn_app (goodIn_of _ (by decide +kernel)) ggX9_mildNods_X9_plainNods
theorem dX9_mildNods_0 : decode cX9_mildNods 0 = .ok (.aload_n 0, 1) := by decide +kernel
theorem dX9_mildNods_1 : decode cX9_mildNods 1 = .ok (.bipush 30, 2) := by decide +kernel
theorem dX9_mildNods_3 : decode cX9_mildNods 3 = .ok (.invokevirtual 229, 3) := by decide +kernel
theorem dX9_mildNods_6 : decode cX9_mildNods 6 = .ok (.aload_n 0, 1) := by decide +kernel
theorem dX9_mildNods_7 : decode cX9_mildNods 7 = .ok (.iload_n 1, 1) := by decide +kernel
theorem dX9_mildNods_8 : decode cX9_mildNods 8 = .ok (.iload_n 2, 1) := by decide +kernel
theorem dX9_mildNods_9 : decode cX9_mildNods 9 = .ok (.invokevirtual 241, 3) := by decide +kernel
theorem dX9_mildNods_12 : decode cX9_mildNods 12 = .ok (.ineg, 1) := by decide +kernel
theorem dX9_mildNods_13 : decode cX9_mildNods 13 = .ok (.ireturn, 1) := by decide +kernel
set_option maxRecDepth 20000 in
theorem ggX9_nods_X9_of : GoodIn wsX9_nods wsX9_of := goodIn_r _ [5, 6, 33, 34, 35, 36, 37, 38, 39, 40, 41, 42, 43, 44, 45, 46, 47, 48, 49, 50, 51, 52, 53] (by decide +kernel) (by decide +kernel)
set_option maxRecDepth 20000 in
theorem gX9_nods_X9_of : GoodIn wsX9_nods (wsV RX9 58 RX9 yX9_of wsX9_of) := goodIn_app (goodIn_of _ (by decide +kernel)) ggX9_nods_X9_of
set_option maxRecDepth 20000 in
theorem ggX9_nods_X9_mildNods : GoodIn wsX9_nods wsX9_mildNods := goodIn_r _ [10, 11, 12, 13, 4, 14, 15, 16, 17, 18, 19, 20, 21, 22, 23, 24, 1, 2, 3, 5, 6, 25, 26, 27, 28, 29, 30, 31, 32, 33, 34, 35, 36, 37, 38, 39, 40, 41, 42, 43, 44, 45, 46, 47, 48, 49, 50, 51, 52, 53] (by decide +kernel) (by decide +kernel)
set_option maxRecDepth 20000 in
theorem gX9_nods_X9_mildNods : GoodIn wsX9_nods (wsV RX9 244 RX9 yX9_mildNods wsX9_mildNods) := goodIn_app (goodIn_of _ (by decide +kernel)) ggX9_nods_X9_mildNods
set_option maxRecDepth 20000 in
theorem ggX9_nods_X9_begins : GoodIn wsX9_nods wsX9_begins := goodIn_r _ [14, 15, 16, 33, 34, 35, 36, 37, 38, 39, 40, 41, 42, 43, 44, 45, 46, 47, 48, 49, 50, 51, 52, 53] (by decide +kernel) (by decide +kernel)
set_option maxRecDepth 20000 in
theorem gX9_nods_X9_begins : GoodIn wsX9_nods (wsV RX9 229 RX9 yX9_begins wsX9_begins) := goodIn_app (goodIn_of _ (by decide +kernel)) ggX9_nods_X9_begins
set_option maxRecDepth 20000 in
theorem ggX9_nods_X9_plainNods : GoodIn wsX9_nods wsX9_plainNods := goodIn_r _ [20, 11, 12, 13, 4, 14, 15, 16, 21, 22, 23, 24, 1, 2, 3, 5, 6, 25, 26, 27, 28, 29, 30, 31, 32, 33, 34, 35, 36, 37, 38, 39, 40, 41, 42, 43, 44, 45, 46, 47, 48, 49, 50, 51, 52, 53] (by decide +kernel) (by decide +kernel)
set_option maxRecDepth 20000 in
theorem gX9_nods_X9_plainNods : GoodIn wsX9_nods (wsV RX9 241 RX9 yX9_plainNods wsX9_plainNods) := goodIn_app (goodIn_of _ (by decide +kernel)) ggX9_nods_X9_plainNods
theorem dX9_nods_0 : decode cX9_nods 0 = .ok (.aload_n 0, 1) := by decide +kernel
theorem dX9_nods_1 : decode cX9_nods 1 = .ok (.iload_n 1, 1) := by decide +kernel
theorem dX9_nods_2 : decode cX9_nods 2 = .ok (.iconst 0, 1) := by decide +kernel
theorem dX9_nods_3 : decode cX9_nods 3 = .ok (.invokevirtual 58, 3) := by decide +kernel
theorem dX9_nods_6 : decode cX9_nods 6 = .ok (.tableswitch 76 2 6 #[34, 76, 76, 41, 56], 34) := by decide +kernel
theorem dX9_nods_40 : decode cX9_nods 40 = .ok (.aload_n 0, 1) := by decide +kernel
theorem dX9_nods_41 : decode cX9_nods 41 = .ok (.iload_n 1, 1) := by decide +kernel
theorem dX9_nods_42 : decode cX9_nods 42 = .ok (.iload_n 2, 1) := by decide +kernel
theorem dX9_nods_43 : decode cX9_nods 43 = .ok (.invokevirtual 244, 3) := by decide +kernel
theorem dX9_nods_46 : decode cX9_nods 46 = .ok (.ireturn, 1) := by decide +kernel
theorem dX9_nods_47 : decode cX9_nods 47 = .ok (.aload_n 0, 1) := by decide +kernel
theorem dX9_nods_48 : decode cX9_nods 48 = .ok (.bipush 60, 2) := by decide +kernel
theorem dX9_nods_50 : decode cX9_nods 50 = .ok (.invokevirtual 229, 3) := by decide +kernel
theorem dX9_nods_53 : decode cX9_nods 53 = .ok (.aload_n 0, 1) := by decide +kernel
theorem dX9_nods_54 : decode cX9_nods 54 = .ok (.iload_n 1, 1) := by decide +kernel
theorem dX9_nods_55 : decode cX9_nods 55 = .ok (.iload_n 2, 1) := by decide +kernel
theorem dX9_nods_56 : decode cX9_nods 56 = .ok (.iconst 1, 1) := by decide +kernel
theorem dX9_nods_57 : decode cX9_nods 57 = .ok (.iadd, 1) := by decide +kernel
theorem dX9_nods_58 : decode cX9_nods 58 = .ok (.invokevirtual 244, 3) := by decide +kernel
theorem dX9_nods_61 : decode cX9_nods 61 = .ok (.ireturn, 1) := by decide +kernel
theorem dX9_nods_62 : decode cX9_nods 62 = .ok (.aload_n 0, 1) := by decide +kernel
theorem dX9_nods_63 : decode cX9_nods 63 = .ok (.bipush 71, 2) := by decide +kernel
theorem dX9_nods_65 : decode cX9_nods 65 = .ok (.invokevirtual 229, 3) := by decide +kernel
theorem dX9_nods_68 : decode cX9_nods 68 = .ok (.aload_n 0, 1) := by decide +kernel
theorem dX9_nods_69 : decode cX9_nods 69 = .ok (.iload_n 1, 1) := by decide +kernel
theorem dX9_nods_70 : decode cX9_nods 70 = .ok (.iload_n 2, 1) := by decide +kernel
theorem dX9_nods_71 : decode cX9_nods 71 = .ok (.invokevirtual 241, 3) := by decide +kernel
theorem dX9_nods_74 : decode cX9_nods 74 = .ok (.aload_n 0, 1) := by decide +kernel
theorem dX9_nods_75 : decode cX9_nods 75 = .ok (.iload_n 1, 1) := by decide +kernel
theorem dX9_nods_76 : decode cX9_nods 76 = .ok (.iconst 1, 1) := by decide +kernel
theorem dX9_nods_77 : decode cX9_nods 77 = .ok (.invokevirtual 58, 3) := by decide +kernel
theorem dX9_nods_80 : decode cX9_nods 80 = .ok (.iadd, 1) := by decide +kernel
theorem dX9_nods_81 : decode cX9_nods 81 = .ok (.ireturn, 1) := by decide +kernel
theorem dX9_nods_82 : decode cX9_nods 82 = .ok (.aload_n 0, 1) := by decide +kernel
theorem dX9_nods_83 : decode cX9_nods 83 = .ok (.iload_n 1, 1) := by decide +kernel
theorem dX9_nods_84 : decode cX9_nods 84 = .ok (.iload_n 2, 1) := by decide +kernel
theorem dX9_nods_85 : decode cX9_nods 85 = .ok (.invokevirtual 241, 3) := by decide +kernel
theorem dX9_nods_88 : decode cX9_nods 88 = .ok (.ireturn, 1) := by decide +kernel
set_option maxRecDepth 20000 in
theorem ggX9_plainEchoes_X9_begins : GoodIn wsX9_plainEchoes wsX9_begins := goodIn_r _ [5, 6, 7, 37, 38, 39, 40, 41, 42, 43, 44, 45, 46, 47, 48, 49, 50, 51, 52, 53, 54, 55, 56, 57] (by decide +kernel) (by decide +kernel)
set_option maxRecDepth 20000 in
theorem gX9_plainEchoes_X9_begins : GoodIn wsX9_plainEchoes (wsV RX9 229 RX9 yX9_begins wsX9_begins) := goodIn_app (goodIn_of _ (by decide +kernel)) ggX9_plainEchoes_X9_begins
set_option maxRecDepth 20000 in
theorem ggX9_plainEchoes_X9_nods : GoodIn wsX9_plainEchoes wsX9_nods := goodIn_r _ [11, 12, 13, 14, 4, 15, 16, 17, 18, 19, 20, 1, 2, 3, 5, 6, 7, 21, 22, 23, 24, 25, 26, 27, 28, 29, 30, 31, 32, 33, 34, 35, 36, 37, 38, 39, 40, 41, 42, 43, 44, 45, 46, 47, 48, 49, 50, 51, 52, 53, 54, 55, 56, 57] (by decide +kernel) (by decide +kernel)
set_option maxRecDepth 20000 in
theorem gX9_plainEchoes_X9_nods : GoodIn wsX9_plainEchoes (wsV RX9 247 RX9 yX9_nods wsX9_nods) := goodIn_app (goodIn_of _ (by decide +kernel)) ggX9_plainEchoes_X9_nods
set_option maxRecDepth 20000 in
theorem ggX9_plainEchoes_X9_of : GoodIn wsX9_plainEchoes wsX9_of := goodIn_r _ [15, 16, 37, 38, 39, 40, 41, 42, 43, 44, 45, 46, 47, 48, 49, 50, 51, 52, 53, 54, 55, 56, 57] (by decide +kernel) (by decide +kernel)
set_option maxRecDepth 20000 in
theorem gX9_plainEchoes_X9_of : GoodIn wsX9_plainEchoes (wsV RX9 58 RX9 yX9_of wsX9_of) := goodIn_app (goodIn_of _ (by decide +kernel)) ggX9_plainEchoes_X9_of
theorem dX9_plainEchoes_0 : decode cX9_plainEchoes 0 = .ok (.aload_n 0, 1) := by decide +kernel
theorem dX9_plainEchoes_1 : decode cX9_plainEchoes 1 = .ok (.bipush 12, 2) := by decide +kernel
theorem dX9_plainEchoes_3 : decode cX9_plainEchoes 3 = .ok (.invokevirtual 229, 3) := by decide +kernel
theorem dX9_plainEchoes_6 : decode cX9_plainEchoes 6 = .ok (.aload_n 0, 1) := by decide +kernel
theorem dX9_plainEchoes_7 : decode cX9_plainEchoes 7 = .ok (.iload_n 1, 1) := by decide +kernel
theorem dX9_plainEchoes_8 : decode cX9_plainEchoes 8 = .ok (.iload_n 2, 1) := by decide +kernel
theorem dX9_plainEchoes_9 : decode cX9_plainEchoes 9 = .ok (.invokevirtual 247, 3) := by decide +kernel
theorem dX9_plainEchoes_12 : decode cX9_plainEchoes 12 = .ok (.aload_n 0, 1) := by decide +kernel
theorem dX9_plainEchoes_13 : decode cX9_plainEchoes 13 = .ok (.iload_n 1, 1) := by decide +kernel
theorem dX9_plainEchoes_14 : decode cX9_plainEchoes 14 = .ok (.iconst 1, 1) := by decide +kernel
theorem dX9_plainEchoes_15 : decode cX9_plainEchoes 15 = .ok (.invokevirtual 58, 3) := by decide +kernel
theorem dX9_plainEchoes_18 : decode cX9_plainEchoes 18 = .ok (.isub, 1) := by decide +kernel
theorem dX9_plainEchoes_19 : decode cX9_plainEchoes 19 = .ok (.ireturn, 1) := by decide +kernel
set_option maxRecDepth 20000 in
theorem ggX9_echoes_X9_of : GoodIn wsX9_echoes wsX9_of := goodIn_r _ [5, 6, 41, 42, 43, 44, 45, 46, 47, 48, 49, 50, 51, 52, 53, 54, 55, 56, 57, 58, 59, 60, 61] (by decide +kernel) (by decide +kernel)
set_option maxRecDepth 20000 in
theorem gX9_echoes_X9_of : GoodIn wsX9_echoes (wsV RX9 58 RX9 yX9_of wsX9_of) := goodIn_app (goodIn_of _ (by decide +kernel)) ggX9_echoes_X9_of
set_option maxRecDepth 20000 in
theorem ggX9_echoes_X9_begins : GoodIn wsX9_echoes wsX9_begins := goodIn_r _ [10, 11, 12, 41, 42, 43, 44, 45, 46, 47, 48, 49, 50, 51, 52, 53, 54, 55, 56, 57, 58, 59, 60, 61] (by decide +kernel) (by decide +kernel)
set_option maxRecDepth 20000 in
theorem gX9_echoes_X9_begins : GoodIn wsX9_echoes (wsV RX9 229 RX9 yX9_begins wsX9_begins) := goodIn_app (goodIn_of _ (by decide +kernel)) ggX9_echoes_X9_begins
set_option maxRecDepth 20000 in
theorem ggX9_echoes_X9_plainEchoes : GoodIn wsX9_echoes wsX9_plainEchoes := goodIn_r _ [16, 7, 8, 9, 4, 10, 11, 12, 17, 18, 19, 20, 1, 2, 3, 5, 6, 21, 22, 23, 24, 25, 26, 27, 28, 29, 30, 31, 32, 33, 34, 35, 36, 37, 38, 39, 40, 41, 42, 43, 44, 45, 46, 47, 48, 49, 50, 51, 52, 53, 54, 55, 56, 57, 58, 59, 60, 61] (by decide +kernel) (by decide +kernel)
set_option maxRecDepth 20000 in
theorem gX9_echoes_X9_plainEchoes : GoodIn wsX9_echoes (wsV RX9 250 RX9 yX9_plainEchoes wsX9_plainEchoes) := goodIn_app (goodIn_of _ (by decide +kernel)) ggX9_echoes_X9_plainEchoes
theorem dX9_echoes_0 : decode cX9_echoes 0 = .ok (.aload_n 0, 1) := by decide +kernel
theorem dX9_echoes_1 : decode cX9_echoes 1 = .ok (.iload_n 1, 1) := by decide +kernel
theorem dX9_echoes_2 : decode cX9_echoes 2 = .ok (.iconst 0, 1) := by decide +kernel
theorem dX9_echoes_3 : decode cX9_echoes 3 = .ok (.invokevirtual 58, 3) := by decide +kernel
theorem dX9_echoes_6 : decode cX9_echoes 6 = .ok (.lookupswitch 56 #[(3, 26), (4, 41)], 26) := by decide +kernel
theorem dX9_echoes_32 : decode cX9_echoes 32 = .ok (.aload_n 0, 1) := by decide +kernel
theorem dX9_echoes_33 : decode cX9_echoes 33 = .ok (.bipush 40, 2) := by decide +kernel
theorem dX9_echoes_35 : decode cX9_echoes 35 = .ok (.invokevirtual 229, 3) := by decide +kernel
theorem dX9_echoes_38 : decode cX9_echoes 38 = .ok (.aload_n 0, 1) := by decide +kernel
theorem dX9_echoes_39 : decode cX9_echoes 39 = .ok (.iload_n 1, 1) := by decide +kernel
theorem dX9_echoes_40 : decode cX9_echoes 40 = .ok (.iload_n 2, 1) := by decide +kernel
theorem dX9_echoes_41 : decode cX9_echoes 41 = .ok (.iconst 2, 1) := by decide +kernel
theorem dX9_echoes_42 : decode cX9_echoes 42 = .ok (.idiv, 1) := by decide +kernel
theorem dX9_echoes_43 : decode cX9_echoes 43 = .ok (.invokevirtual 250, 3) := by decide +kernel
theorem dX9_echoes_46 : decode cX9_echoes 46 = .ok (.ireturn, 1) := by decide +kernel
theorem dX9_echoes_47 : decode cX9_echoes 47 = .ok (.aload_n 0, 1) := by decide +kernel
theorem dX9_echoes_48 : decode cX9_echoes 48 = .ok (.bipush 51, 2) := by decide +kernel
theorem dX9_echoes_50 : decode cX9_echoes 50 = .ok (.invokevirtual 229, 3) := by decide +kernel
theorem dX9_echoes_53 : decode cX9_echoes 53 = .ok (.aload_n 0, 1) := by decide +kernel
theorem dX9_echoes_54 : decode cX9_echoes 54 = .ok (.iload_n 1, 1) := by decide +kernel
theorem dX9_echoes_55 : decode cX9_echoes 55 = .ok (.iload_n 2, 1) := by decide +kernel
theorem dX9_echoes_56 : decode cX9_echoes 56 = .ok (.invokevirtual 250, 3) := by decide +kernel
theorem dX9_echoes_59 : decode cX9_echoes 59 = .ok (.iload_n 1, 1) := by decide +kernel
theorem dX9_echoes_60 : decode cX9_echoes 60 = .ok (.ixor, 1) := by decide +kernel
theorem dX9_echoes_61 : decode cX9_echoes 61 = .ok (.ireturn, 1) := by decide +kernel
theorem dX9_echoes_62 : decode cX9_echoes 62 = .ok (.aload_n 0, 1) := by decide +kernel
theorem dX9_echoes_63 : decode cX9_echoes 63 = .ok (.iload_n 1, 1) := by decide +kernel
theorem dX9_echoes_64 : decode cX9_echoes 64 = .ok (.iload_n 2, 1) := by decide +kernel
theorem dX9_echoes_65 : decode cX9_echoes 65 = .ok (.invokevirtual 250, 3) := by decide +kernel
theorem dX9_echoes_68 : decode cX9_echoes 68 = .ok (.ireturn, 1) := by decide +kernel
set_option maxRecDepth 20000 in
theorem ggX9_plainParts_X9_begins : GoodIn wsX9_plainParts wsX9_begins := goodIn_r _ [6, 7, 8, 14, 15, 16, 17, 18, 19, 20, 21, 22, 23, 24, 25, 26, 27, 28, 29, 30, 31, 32, 33, 34] (by decide +kernel) (by decide +kernel)
set_option maxRecDepth 20000 in
theorem gX9_plainParts_X9_begins : GoodIn wsX9_plainParts (wsV RX9 229 RX9 yX9_begins wsX9_begins) := goodIn_app (goodIn_of _ (by decide +kernel)) ggX9_plainParts_X9_begins
set_option maxRecDepth 20000 in
theorem ggX9_plainParts_X9_of : GoodIn wsX9_plainParts wsX9_of := goodIn_r _ [12, 13, 14, 15, 16, 17, 18, 19, 20, 21, 22, 23, 24, 25, 26, 27, 28, 29, 30, 31, 32, 33, 34] (by decide +kernel) (by decide +kernel)
set_option maxRecDepth 20000 in
theorem gX9_plainParts_X9_of : GoodIn wsX9_plainParts (wsV RX9 58 RX9 yX9_of wsX9_of) := goodIn_app (goodIn_of _ (by decide +kernel)) ggX9_plainParts_X9_of
theorem dX9_plainParts_0 : decode cX9_plainParts 0 = .ok (.aload_n 0, 1) := by decide +kernel
theorem dX9_plainParts_1 : decode cX9_plainParts 1 = .ok (.bipush 13, 2) := by decide +kernel
theorem dX9_plainParts_3 : decode cX9_plainParts 3 = .ok (.invokevirtual 229, 3) := by decide +kernel
theorem dX9_plainParts_6 : decode cX9_plainParts 6 = .ok (.aload_n 0, 1) := by decide +kernel
theorem dX9_plainParts_7 : decode cX9_plainParts 7 = .ok (.iload_n 1, 1) := by decide +kernel
theorem dX9_plainParts_8 : decode cX9_plainParts 8 = .ok (.iconst 1, 1) := by decide +kernel
theorem dX9_plainParts_9 : decode cX9_plainParts 9 = .ok (.invokevirtual 58, 3) := by decide +kernel
theorem dX9_plainParts_12 : decode cX9_plainParts 12 = .ok (.iload_n 1, 1) := by decide +kernel
theorem dX9_plainParts_13 : decode cX9_plainParts 13 = .ok (.isub, 1) := by decide +kernel
theorem dX9_plainParts_14 : decode cX9_plainParts 14 = .ok (.istore_n 3, 1) := by decide +kernel
theorem dX9_plainParts_15 : decode cX9_plainParts 15 = .ok (.aload_n 0, 1) := by decide +kernel
theorem dX9_plainParts_16 : decode cX9_plainParts 16 = .ok (.iload_n 3, 1) := by decide +kernel
theorem dX9_plainParts_17 : decode cX9_plainParts 17 = .ok (.ifCond .ne 7, 3) := by decide +kernel
theorem dX9_plainParts_20 : decode cX9_plainParts 20 = .ok (.iconst 1, 1) := by decide +kernel
theorem dX9_plainParts_21 : decode cX9_plainParts 21 = .ok (.goto 4, 3) := by decide +kernel
theorem dX9_plainParts_24 : decode cX9_plainParts 24 = .ok (.iconst 0, 1) := by decide +kernel
theorem dX9_plainParts_25 : decode cX9_plainParts 25 = .ok (.putfield 253, 3) := by decide +kernel
theorem dX9_plainParts_28 : decode cX9_plainParts 28 = .ok (.aload_n 0, 1) := by decide +kernel
theorem dX9_plainParts_29 : decode cX9_plainParts 29 = .ok (.getfield 253, 3) := by decide +kernel
theorem dX9_plainParts_32 : decode cX9_plainParts 32 = .ok (.ifCond .eq 7, 3) := by decide +kernel
theorem dX9_plainParts_35 : decode cX9_plainParts 35 = .ok (.iconst 0, 1) := by decide +kernel
theorem dX9_plainParts_36 : decode cX9_plainParts 36 = .ok (.goto 6, 3) := by decide +kernel
theorem dX9_plainParts_39 : decode cX9_plainParts 39 = .ok (.iload_n 2, 1) := by decide +kernel
theorem dX9_plainParts_40 : decode cX9_plainParts 40 = .ok (.iload_n 3, 1) := by decide +kernel
theorem dX9_plainParts_41 : decode cX9_plainParts 41 = .ok (.idiv, 1) := by decide +kernel
theorem dX9_plainParts_42 : decode cX9_plainParts 42 = .ok (.ireturn, 1) := by decide +kernel
set_option maxRecDepth 20000 in
theorem ggX9_partsBy_X9_of : GoodIn wsX9_partsBy wsX9_of := goodIn_r _ [6, 7, 42, 43, 44, 45, 46, 47, 48, 49, 50, 51, 52, 53, 54, 55, 56, 57, 58, 59, 60, 61, 62] (by decide +kernel) (by decide +kernel)
set_option maxRecDepth 20000 in
theorem gX9_partsBy_X9_of : GoodIn wsX9_partsBy (wsV RX9 58 RX9 yX9_of wsX9_of) := goodIn_app (goodIn_of _ (by decide +kernel)) ggX9_partsBy_X9_of
set_option maxRecDepth 20000 in
theorem ggX9_partsBy_X9_begins : GoodIn wsX9_partsBy wsX9_begins := goodIn_r _ [11, 12, 13, 42, 43, 44, 45, 46, 47, 48, 49, 50, 51, 52, 53, 54, 55, 56, 57, 58, 59, 60, 61, 62] (by decide +kernel) (by decide +kernel)
set_option maxRecDepth 20000 in
theorem gX9_partsBy_X9_begins : GoodIn wsX9_partsBy (wsV RX9 229 RX9 yX9_begins wsX9_begins) := goodIn_app (goodIn_of _ (by decide +kernel)) ggX9_partsBy_X9_begins
set_option maxRecDepth 20000 in
theorem ggX9_partsBy_X9_plainParts : GoodIn wsX9_partsBy wsX9_plainParts := goodIn_r _ [17, 1, 8, 9, 10, 5, 11, 12, 13, 2, 3, 4, 6, 7, 42, 43, 44, 45, 46, 47, 48, 49, 50, 51, 52, 53, 54, 55, 56, 57, 58, 59, 60, 61, 62] (by decide +kernel) (by decide +kernel)
set_option maxRecDepth 20000 in
theorem gX9_partsBy_X9_plainParts : GoodIn wsX9_partsBy (wsV RX9 256 RX9 yX9_plainParts wsX9_plainParts) := goodIn_app (goodIn_of _ (by decide +kernel)) ggX9_partsBy_X9_plainParts
set_option maxRecDepth 20000 in
theorem ggX9_partsBy_X9_nods : GoodIn wsX9_partsBy wsX9_nods := goodIn_r _ [21, 2, 3, 4, 5, 6, 7, 22, 23, 24, 25, 8, 9, 10, 11, 12, 13, 26, 27, 28, 29, 30, 31, 32, 33, 34, 35, 36, 37, 38, 39, 40, 41, 42, 43, 44, 45, 46, 47, 48, 49, 50, 51, 52, 53, 54, 55, 56, 57, 58, 59, 60, 61, 62] (by decide +kernel) (by decide +kernel)
set_option maxRecDepth 20000 in
theorem gX9_partsBy_X9_nods : GoodIn wsX9_partsBy (wsV RX9 247 RX9 yX9_nods wsX9_nods) := goodIn_app (goodIn_of _ (by decide +kernel)) ggX9_partsBy_X9_nods
theorem dX9_partsBy_0 : decode cX9_partsBy 0 = .ok (.aload_n 0, 1) := by decide +kernel
theorem dX9_partsBy_1 : decode cX9_partsBy 1 = .ok (.iload_n 1, 1) := by decide +kernel
theorem dX9_partsBy_2 : decode cX9_partsBy 2 = .ok (.iconst 0, 1) := by decide +kernel
theorem dX9_partsBy_3 : decode cX9_partsBy 3 = .ok (.invokevirtual 58, 3) := by decide +kernel
theorem dX9_partsBy_6 : decode cX9_partsBy 6 = .ok (.iconst 1, 1) := by decide +kernel
theorem dX9_partsBy_7 : decode cX9_partsBy 7 = .ok (.if_icmp .eq 13, 3) := by decide +kernel
theorem dX9_partsBy_10 : decode cX9_partsBy 10 = .ok (.aload_n 0, 1) := by decide +kernel
theorem dX9_partsBy_11 : decode cX9_partsBy 11 = .ok (.iload_n 1, 1) := by decide +kernel
theorem dX9_partsBy_12 : decode cX9_partsBy 12 = .ok (.iconst 0, 1) := by decide +kernel
theorem dX9_partsBy_13 : decode cX9_partsBy 13 = .ok (.invokevirtual 58, 3) := by decide +kernel
theorem dX9_partsBy_16 : decode cX9_partsBy 16 = .ok (.iconst 4, 1) := by decide +kernel
theorem dX9_partsBy_17 : decode cX9_partsBy 17 = .ok (.if_icmp .ne 36, 3) := by decide +kernel
theorem dX9_partsBy_20 : decode cX9_partsBy 20 = .ok (.aload_n 0, 1) := by decide +kernel
theorem dX9_partsBy_21 : decode cX9_partsBy 21 = .ok (.bipush 21, 2) := by decide +kernel
theorem dX9_partsBy_23 : decode cX9_partsBy 23 = .ok (.invokevirtual 229, 3) := by decide +kernel
theorem dX9_partsBy_26 : decode cX9_partsBy 26 = .ok (.aload_n 0, 1) := by decide +kernel
theorem dX9_partsBy_27 : decode cX9_partsBy 27 = .ok (.iload_n 1, 1) := by decide +kernel
theorem dX9_partsBy_28 : decode cX9_partsBy 28 = .ok (.iload_n 2, 1) := by decide +kernel
theorem dX9_partsBy_29 : decode cX9_partsBy 29 = .ok (.invokevirtual 256, 3) := by decide +kernel
theorem dX9_partsBy_32 : decode cX9_partsBy 32 = .ok (.istore_n 3, 1) := by decide +kernel
theorem dX9_partsBy_33 : decode cX9_partsBy 33 = .ok (.aload_n 0, 1) := by decide +kernel
theorem dX9_partsBy_34 : decode cX9_partsBy 34 = .ok (.getfield 253, 3) := by decide +kernel
theorem dX9_partsBy_37 : decode cX9_partsBy 37 = .ok (.ifCond .eq 7, 3) := by decide +kernel
theorem dX9_partsBy_40 : decode cX9_partsBy 40 = .ok (.iconst 0, 1) := by decide +kernel
theorem dX9_partsBy_41 : decode cX9_partsBy 41 = .ok (.goto 11, 3) := by decide +kernel
theorem dX9_partsBy_44 : decode cX9_partsBy 44 = .ok (.iload_n 3, 1) := by decide +kernel
theorem dX9_partsBy_45 : decode cX9_partsBy 45 = .ok (.aload_n 0, 1) := by decide +kernel
theorem dX9_partsBy_46 : decode cX9_partsBy 46 = .ok (.iload_n 1, 1) := by decide +kernel
theorem dX9_partsBy_47 : decode cX9_partsBy 47 = .ok (.iconst 1, 1) := by decide +kernel
theorem dX9_partsBy_48 : decode cX9_partsBy 48 = .ok (.invokevirtual 247, 3) := by decide +kernel
theorem dX9_partsBy_51 : decode cX9_partsBy 51 = .ok (.iadd, 1) := by decide +kernel
theorem dX9_partsBy_52 : decode cX9_partsBy 52 = .ok (.ireturn, 1) := by decide +kernel
theorem dX9_partsBy_53 : decode cX9_partsBy 53 = .ok (.aload_n 0, 1) := by decide +kernel
theorem dX9_partsBy_54 : decode cX9_partsBy 54 = .ok (.iload_n 1, 1) := by decide +kernel
theorem dX9_partsBy_55 : decode cX9_partsBy 55 = .ok (.iload_n 2, 1) := by decide +kernel
theorem dX9_partsBy_56 : decode cX9_partsBy 56 = .ok (.invokevirtual 256, 3) := by decide +kernel
theorem dX9_partsBy_59 : decode cX9_partsBy 59 = .ok (.ireturn, 1) := by decide +kernel
set_option maxRecDepth 20000 in
theorem ggX9_voice_X9_isStep : GoodIn wsX9_voice wsX9_isStep := goodIn_r _ [9, 10, 11, 12, 8, 13, 69, 70, 71, 72, 73, 74, 75, 76, 77, 78, 79, 80, 81, 82, 83, 84, 85, 86, 87, 88, 89] (by decide +kernel) (by decide +kernel)
set_option maxRecDepth 20000 in
theorem gX9_voice_X9_isStep : GoodIn wsX9_voice (wsV RX9 83 RX9 yX9_isStep wsX9_isStep) := goodIn_app (goodIn_of _ (by decide +kernel)) ggX9_voice_X9_isStep
set_option maxRecDepth 20000 in
theorem ggX9_voice_X9_in : GoodIn wsX9_voice wsX9_in := goodIn_r _ [13] (by decide +kernel) (by decide +kernel)
set_option maxRecDepth 20000 in
theorem gX9_voice_X9_in : GoodIn wsX9_voice (va_wsS RX9 54 yX9_in wsX9_in) := goodIn_app (goodIn_of _ (by decide +kernel)) ggX9_voice_X9_in
set_option maxRecDepth 20000 in
theorem ggX9_voice_X9_error : GoodIn wsX9_voice wsX9_error := goodIn_r _ [17, 18, 19, 69, 70, 71, 72, 73, 74, 75, 76, 77, 78, 79, 80, 81, 82, 83, 84, 85, 86, 87, 88, 89] (by decide +kernel) (by decide +kernel)
set_option maxRecDepth 20000 in
theorem gX9_voice_X9_error : GoodIn wsX9_voice (wsV RX9 79 RX9 yX9_error wsX9_error) := goodIn_app (goodIn_of _ (by decide +kernel)) ggX9_voice_X9_error
set_option maxRecDepth 20000 in
theorem ggX9_voice_X9_asks : GoodIn wsX9_voice wsX9_asks := goodIn_r _ [23, 24, 25, 26, 8, 27, 10, 28, 29, 30, 31, 32, 33, 34, 35, 2, 36, 37, 38, 39, 40, 69, 70, 71, 72, 73, 74, 75, 76, 77, 78, 79, 80, 81, 82, 83, 84, 85, 86, 87, 88, 89] (by decide +kernel) (by decide +kernel)
set_option maxRecDepth 20000 in
theorem gX9_voice_X9_asks : GoodIn wsX9_voice (wsV RX9 238 RX9 yX9_asks wsX9_asks) := goodIn_app (goodIn_of _ (by decide +kernel)) ggX9_voice_X9_asks
set_option maxRecDepth 20000 in
theorem ggX9_voice_X9_nods : GoodIn wsX9_voice wsX9_nods := goodIn_r _ [44, 24, 25, 26, 8, 27, 10, 45, 46, 47, 48, 32, 33, 34, 35, 2, 36, 49, 50, 51, 52, 20, 21, 22, 23, 28, 29, 30, 31, 37, 38, 39, 40, 69, 70, 71, 72, 73, 74, 75, 76, 77, 78, 79, 80, 81, 82, 83, 84, 85, 86, 87, 88, 89] (by decide +kernel) (by decide +kernel)
set_option maxRecDepth 20000 in
theorem gX9_voice_X9_nods : GoodIn wsX9_voice (wsV RX9 247 RX9 yX9_nods wsX9_nods) := goodIn_app (goodIn_of _ (by decide +kernel)) ggX9_voice_X9_nods
set_option maxRecDepth 20000 in
theorem ggX9_voice_X9_echoes : GoodIn wsX9_voice wsX9_echoes := goodIn_r _ [56, 24, 25, 26, 8, 27, 10, 32, 33, 34, 35, 2, 36, 57, 58, 59, 60, 41, 42, 43, 44, 45, 46, 47, 48, 49, 50, 51, 52, 20, 21, 22, 23, 28, 29, 30, 31, 37, 38, 39, 40, 69, 70, 71, 72, 73, 74, 75, 76, 77, 78, 79, 80, 81, 82, 83, 84, 85, 86, 87, 88, 89] (by decide +kernel) (by decide +kernel)
set_option maxRecDepth 20000 in
theorem gX9_voice_X9_echoes : GoodIn wsX9_voice (wsV RX9 259 RX9 yX9_echoes wsX9_echoes) := goodIn_app (goodIn_of _ (by decide +kernel)) ggX9_voice_X9_echoes
set_option maxRecDepth 20000 in
theorem ggX9_voice_X9_partsBy : GoodIn wsX9_voice wsX9_partsBy := goodIn_r _ [64, 3, 24, 25, 26, 8, 27, 10, 32, 33, 34, 35, 2, 36, 65, 66, 67, 68, 41, 42, 43, 44, 45, 46, 47, 48, 49, 50, 51, 52, 20, 21, 22, 23, 28, 29, 30, 31, 37, 38, 39, 40, 69, 70, 71, 72, 73, 74, 75, 76, 77, 78, 79, 80, 81, 82, 83, 84, 85, 86, 87, 88, 89] (by decide +kernel) (by decide +kernel)
set_option maxRecDepth 20000 in
theorem gX9_voice_X9_partsBy : GoodIn wsX9_voice (wsV RX9 262 RX9 yX9_partsBy wsX9_partsBy) := goodIn_app (goodIn_of _ (by decide +kernel)) ggX9_voice_X9_partsBy
theorem dX9_voice_0 : decode cX9_voice 0 = .ok (.aload_n 0, 1) := by decide +kernel
theorem dX9_voice_1 : decode cX9_voice 1 = .ok (.iload_n 1, 1) := by decide +kernel
theorem dX9_voice_2 : decode cX9_voice 2 = .ok (.invokevirtual 83, 3) := by decide +kernel
theorem dX9_voice_5 : decode cX9_voice 5 = .ok (.ifCond .eq 12, 3) := by decide +kernel
theorem dX9_voice_8 : decode cX9_voice 8 = .ok (.iload_n 2, 1) := by decide +kernel
theorem dX9_voice_9 : decode cX9_voice 9 = .ok (.iconst 0, 1) := by decide +kernel
theorem dX9_voice_10 : decode cX9_voice 10 = .ok (.iconst 3, 1) := by decide +kernel
theorem dX9_voice_11 : decode cX9_voice 11 = .ok (.invokestatic 54, 3) := by decide +kernel
theorem dX9_voice_14 : decode cX9_voice 14 = .ok (.ifCond .ne 10, 3) := by decide +kernel
theorem dX9_voice_17 : decode cX9_voice 17 = .ok (.aload_n 0, 1) := by decide +kernel
theorem dX9_voice_18 : decode cX9_voice 18 = .ok (.ldc 78, 2) := by decide +kernel
theorem dX9_voice_20 : decode cX9_voice 20 = .ok (.invokevirtual 79, 3) := by decide +kernel
theorem dX9_voice_23 : decode cX9_voice 23 = .ok (.ireturn, 1) := by decide +kernel
theorem dX9_voice_24 : decode cX9_voice 24 = .ok (.aload_n 0, 1) := by decide +kernel
theorem dX9_voice_25 : decode cX9_voice 25 = .ok (.iconst 0, 1) := by decide +kernel
theorem dX9_voice_26 : decode cX9_voice 26 = .ok (.putfield 226, 3) := by decide +kernel
theorem dX9_voice_29 : decode cX9_voice 29 = .ok (.aload_n 0, 1) := by decide +kernel
theorem dX9_voice_30 : decode cX9_voice 30 = .ok (.iconst 0, 1) := by decide +kernel
theorem dX9_voice_31 : decode cX9_voice 31 = .ok (.putfield 253, 3) := by decide +kernel
theorem dX9_voice_34 : decode cX9_voice 34 = .ok (.iload_n 2, 1) := by decide +kernel
theorem dX9_voice_35 : decode cX9_voice 35 = .ok (.ifCond .ne 12, 3) := by decide +kernel
theorem dX9_voice_38 : decode cX9_voice 38 = .ok (.aload_n 0, 1) := by decide +kernel
theorem dX9_voice_39 : decode cX9_voice 39 = .ok (.iload_n 1, 1) := by decide +kernel
theorem dX9_voice_40 : decode cX9_voice 40 = .ok (.iload_n 3, 1) := by decide +kernel
theorem dX9_voice_41 : decode cX9_voice 41 = .ok (.invokevirtual 238, 3) := by decide +kernel
theorem dX9_voice_44 : decode cX9_voice 44 = .ok (.goto 37, 3) := by decide +kernel
theorem dX9_voice_47 : decode cX9_voice 47 = .ok (.iload_n 2, 1) := by decide +kernel
theorem dX9_voice_48 : decode cX9_voice 48 = .ok (.iconst 1, 1) := by decide +kernel
theorem dX9_voice_49 : decode cX9_voice 49 = .ok (.if_icmp .ne 12, 3) := by decide +kernel
theorem dX9_voice_52 : decode cX9_voice 52 = .ok (.aload_n 0, 1) := by decide +kernel
theorem dX9_voice_53 : decode cX9_voice 53 = .ok (.iload_n 1, 1) := by decide +kernel
theorem dX9_voice_54 : decode cX9_voice 54 = .ok (.iload_n 3, 1) := by decide +kernel
theorem dX9_voice_55 : decode cX9_voice 55 = .ok (.invokevirtual 247, 3) := by decide +kernel
theorem dX9_voice_58 : decode cX9_voice 58 = .ok (.goto 23, 3) := by decide +kernel
theorem dX9_voice_61 : decode cX9_voice 61 = .ok (.iload_n 2, 1) := by decide +kernel
theorem dX9_voice_62 : decode cX9_voice 62 = .ok (.iconst 2, 1) := by decide +kernel
theorem dX9_voice_63 : decode cX9_voice 63 = .ok (.if_icmp .ne 12, 3) := by decide +kernel
theorem dX9_voice_66 : decode cX9_voice 66 = .ok (.aload_n 0, 1) := by decide +kernel
theorem dX9_voice_67 : decode cX9_voice 67 = .ok (.iload_n 1, 1) := by decide +kernel
theorem dX9_voice_68 : decode cX9_voice 68 = .ok (.iload_n 3, 1) := by decide +kernel
theorem dX9_voice_69 : decode cX9_voice 69 = .ok (.invokevirtual 259, 3) := by decide +kernel
theorem dX9_voice_72 : decode cX9_voice 72 = .ok (.goto 9, 3) := by decide +kernel
theorem dX9_voice_75 : decode cX9_voice 75 = .ok (.aload_n 0, 1) := by decide +kernel
theorem dX9_voice_76 : decode cX9_voice 76 = .ok (.iload_n 1, 1) := by decide +kernel
theorem dX9_voice_77 : decode cX9_voice 77 = .ok (.iload_n 3, 1) := by decide +kernel
theorem dX9_voice_78 : decode cX9_voice 78 = .ok (.invokevirtual 262, 3) := by decide +kernel
theorem dX9_voice_81 : decode cX9_voice 81 = .ok (.istore 4, 2) := by decide +kernel
theorem dX9_voice_83 : decode cX9_voice 83 = .ok (.aload_n 0, 1) := by decide +kernel
theorem dX9_voice_84 : decode cX9_voice 84 = .ok (.getfield 253, 3) := by decide +kernel
theorem dX9_voice_87 : decode cX9_voice 87 = .ok (.ifCond .eq 13, 3) := by decide +kernel
theorem dX9_voice_90 : decode cX9_voice 90 = .ok (.aload_n 0, 1) := by decide +kernel
theorem dX9_voice_91 : decode cX9_voice 91 = .ok (.ldc_w 265, 3) := by decide +kernel
theorem dX9_voice_94 : decode cX9_voice 94 = .ok (.invokevirtual 79, 3) := by decide +kernel
theorem dX9_voice_97 : decode cX9_voice 97 = .ok (.goto 5, 3) := by decide +kernel
theorem dX9_voice_100 : decode cX9_voice 100 = .ok (.iload 4, 2) := by decide +kernel
theorem dX9_voice_102 : decode cX9_voice 102 = .ok (.ireturn, 1) := by decide +kernel
set_option maxRecDepth 20000 in
theorem ggX9_body_X9_in : GoodIn wsX9_body wsX9_in := goodIn_r _ [7] (by decide +kernel) (by decide +kernel)
set_option maxRecDepth 20000 in
theorem gX9_body_X9_in : GoodIn wsX9_body (va_wsS RX9 54 yX9_in wsX9_in) := goodIn_app (goodIn_of _ (by decide +kernel)) ggX9_body_X9_in
set_option maxRecDepth 20000 in
theorem ggX9_body_X9_error : GoodIn wsX9_body wsX9_error := goodIn_r _ [11, 12, 13, 14, 15, 16, 17, 18, 19, 20, 21, 22, 23, 24, 25, 26, 27, 28, 29, 30, 31, 32, 33, 34] (by decide +kernel) (by decide +kernel)
set_option maxRecDepth 20000 in
theorem gX9_body_X9_error : GoodIn wsX9_body (wsV RX9 79 RX9 yX9_error wsX9_error) := goodIn_app (goodIn_of _ (by decide +kernel)) ggX9_body_X9_error
theorem dX9_body_0 : decode cX9_body 0 = .ok (.iload_n 1, 1) := by decide +kernel
theorem dX9_body_1 : decode cX9_body 1 = .ok (.iconst 0, 1) := by decide +kernel
theorem dX9_body_2 : decode cX9_body 2 = .ok (.aload_n 0, 1) := by decide +kernel
theorem dX9_body_3 : decode cX9_body 3 = .ok (.getfield 226, 3) := by decide +kernel
theorem dX9_body_6 : decode cX9_body 6 = .ok (.iconst 1, 1) := by decide +kernel
theorem dX9_body_7 : decode cX9_body 7 = .ok (.isub, 1) := by decide +kernel
theorem dX9_body_8 : decode cX9_body 8 = .ok (.invokestatic 54, 3) := by decide +kernel
theorem dX9_body_11 : decode cX9_body 11 = .ok (.ifCond .eq 12, 3) := by decide +kernel
theorem dX9_body_14 : decode cX9_body 14 = .ok (.aload_n 0, 1) := by decide +kernel
theorem dX9_body_15 : decode cX9_body 15 = .ok (.getfield 46, 3) := by decide +kernel
theorem dX9_body_18 : decode cX9_body 18 = .ok (.iload_n 1, 1) := by decide +kernel
theorem dX9_body_19 : decode cX9_body 19 = .ok (.iaload, 1) := by decide +kernel
theorem dX9_body_20 : decode cX9_body 20 = .ok (.goto 9, 3) := by decide +kernel
theorem dX9_body_23 : decode cX9_body 23 = .ok (.aload_n 0, 1) := by decide +kernel
theorem dX9_body_24 : decode cX9_body 24 = .ok (.ldc 198, 2) := by decide +kernel
theorem dX9_body_26 : decode cX9_body 26 = .ok (.invokevirtual 79, 3) := by decide +kernel
theorem dX9_body_29 : decode cX9_body 29 = .ok (.ireturn, 1) := by decide +kernel
set_option maxRecDepth 20000 in
theorem ggX9_isSheet_X9_in : GoodIn wsX9_isSheet wsX9_in := goodIn_r _ [4] (by decide +kernel) (by decide +kernel)
set_option maxRecDepth 20000 in
theorem gX9_isSheet_X9_in : GoodIn wsX9_isSheet (va_wsS RX9 54 yX9_in wsX9_in) := goodIn_app (goodIn_of _ (by decide +kernel)) ggX9_isSheet_X9_in
theorem dX9_isSheet_0 : decode cX9_isSheet 0 = .ok (.iload_n 0, 1) := by decide +kernel
theorem dX9_isSheet_1 : decode cX9_isSheet 1 = .ok (.iconst 0, 1) := by decide +kernel
theorem dX9_isSheet_2 : decode cX9_isSheet 2 = .ok (.iconst 3, 1) := by decide +kernel
theorem dX9_isSheet_3 : decode cX9_isSheet 3 = .ok (.invokestatic 54, 3) := by decide +kernel
theorem dX9_isSheet_6 : decode cX9_isSheet 6 = .ok (.ireturn, 1) := by decide +kernel
set_option maxRecDepth 20000 in
theorem ggX9_sheet_X9_isSheet : GoodIn wsX9_sheet wsX9_isSheet := goodIn_r _ [9, 10, 11, 8, 12] (by decide +kernel) (by decide +kernel)
set_option maxRecDepth 20000 in
theorem gX9_sheet_X9_isSheet : GoodIn wsX9_sheet (va_wsS RX9 199 yX9_isSheet wsX9_isSheet) := goodIn_app (goodIn_of _ (by decide +kernel)) ggX9_sheet_X9_isSheet
set_option maxRecDepth 20000 in
theorem ggX9_sheet_X9_error : GoodIn wsX9_sheet wsX9_error := goodIn_r _ [16, 17, 18, 19, 20, 21, 22, 23, 24, 25, 26, 27, 28, 29, 30, 31, 32, 33, 34, 35, 36, 37, 38, 39] (by decide +kernel) (by decide +kernel)
set_option maxRecDepth 20000 in
theorem gX9_sheet_X9_error : GoodIn wsX9_sheet (wsV RX9 79 RX9 yX9_error wsX9_error) := goodIn_app (goodIn_of _ (by decide +kernel)) ggX9_sheet_X9_error
theorem dX9_sheet_0 : decode cX9_sheet 0 = .ok (.iload_n 1, 1) := by decide +kernel
theorem dX9_sheet_1 : decode cX9_sheet 1 = .ok (.invokestatic 199, 3) := by decide +kernel
theorem dX9_sheet_4 : decode cX9_sheet 4 = .ok (.ifCond .eq 25, 3) := by decide +kernel
theorem dX9_sheet_7 : decode cX9_sheet 7 = .ok (.iload_n 2, 1) := by decide +kernel
theorem dX9_sheet_8 : decode cX9_sheet 8 = .ok (.ifCond .eq 28, 3) := by decide +kernel
theorem dX9_sheet_11 : decode cX9_sheet 11 = .ok (.iload_n 2, 1) := by decide +kernel
theorem dX9_sheet_12 : decode cX9_sheet 12 = .ok (.bipush 8, 2) := by decide +kernel
theorem dX9_sheet_14 : decode cX9_sheet 14 = .ok (.if_icmp .eq 22, 3) := by decide +kernel
theorem dX9_sheet_17 : decode cX9_sheet 17 = .ok (.iload_n 2, 1) := by decide +kernel
theorem dX9_sheet_18 : decode cX9_sheet 18 = .ok (.bipush 16, 2) := by decide +kernel
theorem dX9_sheet_20 : decode cX9_sheet 20 = .ok (.if_icmp .eq 16, 3) := by decide +kernel
theorem dX9_sheet_23 : decode cX9_sheet 23 = .ok (.iload_n 2, 1) := by decide +kernel
theorem dX9_sheet_24 : decode cX9_sheet 24 = .ok (.bipush 32, 2) := by decide +kernel
theorem dX9_sheet_26 : decode cX9_sheet 26 = .ok (.if_icmp .eq 10, 3) := by decide +kernel
theorem dX9_sheet_29 : decode cX9_sheet 29 = .ok (.aload_n 0, 1) := by decide +kernel
theorem dX9_sheet_30 : decode cX9_sheet 30 = .ok (.ldc 78, 2) := by decide +kernel
theorem dX9_sheet_32 : decode cX9_sheet 32 = .ok (.invokevirtual 79, 3) := by decide +kernel
theorem dX9_sheet_35 : decode cX9_sheet 35 = .ok (.ireturn, 1) := by decide +kernel
theorem dX9_sheet_36 : decode cX9_sheet 36 = .ok (.iload_n 2, 1) := by decide +kernel
theorem dX9_sheet_37 : decode cX9_sheet 37 = .ok (.ifCond .le 14, 3) := by decide +kernel
theorem dX9_sheet_40 : decode cX9_sheet 40 = .ok (.iload_n 3, 1) := by decide +kernel
theorem dX9_sheet_41 : decode cX9_sheet 41 = .ok (.ifCond .ge 10, 3) := by decide +kernel
theorem dX9_sheet_44 : decode cX9_sheet 44 = .ok (.aload_n 0, 1) := by decide +kernel
theorem dX9_sheet_45 : decode cX9_sheet 45 = .ok (.ldc 119, 2) := by decide +kernel
theorem dX9_sheet_47 : decode cX9_sheet 47 = .ok (.invokevirtual 79, 3) := by decide +kernel
theorem dX9_sheet_50 : decode cX9_sheet 50 = .ok (.ireturn, 1) := by decide +kernel
theorem dX9_sheet_51 : decode cX9_sheet 51 = .ok (.iload_n 2, 1) := by decide +kernel
theorem dX9_sheet_52 : decode cX9_sheet 52 = .ok (.ifCond .le 16, 3) := by decide +kernel
theorem dX9_sheet_55 : decode cX9_sheet 55 = .ok (.iload_n 3, 1) := by decide +kernel
theorem dX9_sheet_56 : decode cX9_sheet 56 = .ok (.bipush 24, 2) := by decide +kernel
theorem dX9_sheet_58 : decode cX9_sheet 58 = .ok (.if_icmp .le 10, 3) := by decide +kernel
theorem dX9_sheet_61 : decode cX9_sheet 61 = .ok (.aload_n 0, 1) := by decide +kernel
theorem dX9_sheet_62 : decode cX9_sheet 62 = .ok (.ldc 78, 2) := by decide +kernel
theorem dX9_sheet_64 : decode cX9_sheet 64 = .ok (.invokevirtual 79, 3) := by decide +kernel
theorem dX9_sheet_67 : decode cX9_sheet 67 = .ok (.ireturn, 1) := by decide +kernel
theorem dX9_sheet_68 : decode cX9_sheet 68 = .ok (.aload_n 0, 1) := by decide +kernel
theorem dX9_sheet_69 : decode cX9_sheet 69 = .ok (.getfield 22, 3) := by decide +kernel
theorem dX9_sheet_72 : decode cX9_sheet 72 = .ok (.iload_n 1, 1) := by decide +kernel
theorem dX9_sheet_73 : decode cX9_sheet 73 = .ok (.iload_n 2, 1) := by decide +kernel
theorem dX9_sheet_74 : decode cX9_sheet 74 = .ok (.iastore, 1) := by decide +kernel
theorem dX9_sheet_75 : decode cX9_sheet 75 = .ok (.aload_n 0, 1) := by decide +kernel
theorem dX9_sheet_76 : decode cX9_sheet 76 = .ok (.getfield 25, 3) := by decide +kernel
theorem dX9_sheet_79 : decode cX9_sheet 79 = .ok (.iload_n 1, 1) := by decide +kernel
theorem dX9_sheet_80 : decode cX9_sheet 80 = .ok (.iload_n 2, 1) := by decide +kernel
theorem dX9_sheet_81 : decode cX9_sheet 81 = .ok (.ifCond .ne 7, 3) := by decide +kernel
theorem dX9_sheet_84 : decode cX9_sheet 84 = .ok (.iconst 0, 1) := by decide +kernel
theorem dX9_sheet_85 : decode cX9_sheet 85 = .ok (.goto 4, 3) := by decide +kernel
theorem dX9_sheet_88 : decode cX9_sheet 88 = .ok (.iload_n 3, 1) := by decide +kernel
theorem dX9_sheet_89 : decode cX9_sheet 89 = .ok (.iastore, 1) := by decide +kernel
theorem dX9_sheet_90 : decode cX9_sheet 90 = .ok (.iconst 0, 1) := by decide +kernel
theorem dX9_sheet_91 : decode cX9_sheet 91 = .ok (.istore 4, 2) := by decide +kernel
theorem dX9_sheet_93 : decode cX9_sheet 93 = .ok (.iload 4, 2) := by decide +kernel
theorem dX9_sheet_95 : decode cX9_sheet 95 = .ok (.bipush 24, 2) := by decide +kernel
theorem dX9_sheet_97 : decode cX9_sheet 97 = .ok (.if_icmp .ge 22, 3) := by decide +kernel
theorem dX9_sheet_100 : decode cX9_sheet 100 = .ok (.aload_n 0, 1) := by decide +kernel
theorem dX9_sheet_101 : decode cX9_sheet 101 = .ok (.getfield 28, 3) := by decide +kernel
theorem dX9_sheet_104 : decode cX9_sheet 104 = .ok (.bipush 24, 2) := by decide +kernel
theorem dX9_sheet_106 : decode cX9_sheet 106 = .ok (.iload_n 1, 1) := by decide +kernel
theorem dX9_sheet_107 : decode cX9_sheet 107 = .ok (.imul, 1) := by decide +kernel
theorem dX9_sheet_108 : decode cX9_sheet 108 = .ok (.iload 4, 2) := by decide +kernel
theorem dX9_sheet_110 : decode cX9_sheet 110 = .ok (.iadd, 1) := by decide +kernel
theorem dX9_sheet_111 : decode cX9_sheet 111 = .ok (.iconst 0, 1) := by decide +kernel
theorem dX9_sheet_112 : decode cX9_sheet 112 = .ok (.iastore, 1) := by decide +kernel
theorem dX9_sheet_113 : decode cX9_sheet 113 = .ok (.iinc 4 1, 3) := by decide +kernel
theorem dX9_sheet_116 : decode cX9_sheet 116 = .ok (.goto (-23), 3) := by decide +kernel
theorem dX9_sheet_119 : decode cX9_sheet 119 = .ok (.iconst 1, 1) := by decide +kernel
theorem dX9_sheet_120 : decode cX9_sheet 120 = .ok (.ireturn, 1) := by decide +kernel
set_option maxRecDepth 20000 in
theorem ggX9_notThere_X9_isSheet : GoodIn wsX9_notThere wsX9_isSheet := goodIn_r _ [7, 8, 9, 6, 10] (by decide +kernel) (by decide +kernel)
set_option maxRecDepth 20000 in
theorem gX9_notThere_X9_isSheet : GoodIn wsX9_notThere (va_wsS RX9 199 yX9_isSheet wsX9_isSheet) := goodIn_app (goodIn_of _ (by decide +kernel)) ggX9_notThere_X9_isSheet
theorem dX9_notThere_0 : decode cX9_notThere 0 = .ok (.iload_n 1, 1) := by decide +kernel
theorem dX9_notThere_1 : decode cX9_notThere 1 = .ok (.invokestatic 199, 3) := by decide +kernel
theorem dX9_notThere_4 : decode cX9_notThere 4 = .ok (.ifCond .ne 8, 3) := by decide +kernel
theorem dX9_notThere_7 : decode cX9_notThere 7 = .ok (.ldc 78, 2) := by decide +kernel
theorem dX9_notThere_9 : decode cX9_notThere 9 = .ok (.goto 18, 3) := by decide +kernel
theorem dX9_notThere_12 : decode cX9_notThere 12 = .ok (.aload_n 0, 1) := by decide +kernel
theorem dX9_notThere_13 : decode cX9_notThere 13 = .ok (.getfield 22, 3) := by decide +kernel
theorem dX9_notThere_16 : decode cX9_notThere 16 = .ok (.iload_n 1, 1) := by decide +kernel
theorem dX9_notThere_17 : decode cX9_notThere 17 = .ok (.iaload, 1) := by decide +kernel
theorem dX9_notThere_18 : decode cX9_notThere 18 = .ok (.ifCond .ne 8, 3) := by decide +kernel
theorem dX9_notThere_21 : decode cX9_notThere 21 = .ok (.ldc 198, 2) := by decide +kernel
theorem dX9_notThere_23 : decode cX9_notThere 23 = .ok (.goto 4, 3) := by decide +kernel
theorem dX9_notThere_26 : decode cX9_notThere 26 = .ok (.iconst 0, 1) := by decide +kernel
theorem dX9_notThere_27 : decode cX9_notThere 27 = .ok (.ireturn, 1) := by decide +kernel
set_option maxRecDepth 20000 in
theorem ggX9_put_X9_notThere : GoodIn wsX9_put wsX9_notThere := goodIn_r _ [9, 2, 4, 10, 11, 12, 8, 13, 14, 15, 16, 23, 24, 25, 26, 27, 28, 29, 30, 31, 32, 33, 34, 35, 36, 37, 38, 39, 40, 41, 42, 43] (by decide +kernel) (by decide +kernel)
set_option maxRecDepth 20000 in
theorem gX9_put_X9_notThere : GoodIn wsX9_put (wsV RX9 266 RX9 yX9_notThere wsX9_notThere) := goodIn_app (goodIn_of _ (by decide +kernel)) ggX9_put_X9_notThere
set_option maxRecDepth 20000 in
theorem ggX9_put_X9_in : GoodIn wsX9_put wsX9_in := goodIn_r _ [16] (by decide +kernel) (by decide +kernel)
set_option maxRecDepth 20000 in
theorem gX9_put_X9_in : GoodIn wsX9_put (va_wsS RX9 54 yX9_in wsX9_in) := goodIn_app (goodIn_of _ (by decide +kernel)) ggX9_put_X9_in
set_option maxRecDepth 20000 in
theorem ggX9_put_X9_error : GoodIn wsX9_put wsX9_error := goodIn_r _ [20, 21, 22, 23, 24, 25, 26, 27, 28, 29, 30, 31, 32, 33, 34, 35, 36, 37, 38, 39, 40, 41, 42, 43] (by decide +kernel) (by decide +kernel)
set_option maxRecDepth 20000 in
theorem gX9_put_X9_error : GoodIn wsX9_put (wsV RX9 79 RX9 yX9_error wsX9_error) := goodIn_app (goodIn_of _ (by decide +kernel)) ggX9_put_X9_error
theorem dX9_put_0 : decode cX9_put 0 = .ok (.aload_n 0, 1) := by decide +kernel
theorem dX9_put_1 : decode cX9_put 1 = .ok (.iload_n 1, 1) := by decide +kernel
theorem dX9_put_2 : decode cX9_put 2 = .ok (.invokevirtual 266, 3) := by decide +kernel
theorem dX9_put_5 : decode cX9_put 5 = .ok (.istore 4, 2) := by decide +kernel
theorem dX9_put_7 : decode cX9_put 7 = .ok (.iload 4, 2) := by decide +kernel
theorem dX9_put_9 : decode cX9_put 9 = .ok (.ifCond .ne 24, 3) := by decide +kernel
theorem dX9_put_12 : decode cX9_put 12 = .ok (.iload_n 2, 1) := by decide +kernel
theorem dX9_put_13 : decode cX9_put 13 = .ok (.iconst 0, 1) := by decide +kernel
theorem dX9_put_14 : decode cX9_put 14 = .ok (.aload_n 0, 1) := by decide +kernel
theorem dX9_put_15 : decode cX9_put 15 = .ok (.getfield 25, 3) := by decide +kernel
theorem dX9_put_18 : decode cX9_put 18 = .ok (.iload_n 1, 1) := by decide +kernel
theorem dX9_put_19 : decode cX9_put 19 = .ok (.iaload, 1) := by decide +kernel
theorem dX9_put_20 : decode cX9_put 20 = .ok (.iconst 1, 1) := by decide +kernel
theorem dX9_put_21 : decode cX9_put 21 = .ok (.isub, 1) := by decide +kernel
theorem dX9_put_22 : decode cX9_put 22 = .ok (.invokestatic 54, 3) := by decide +kernel
theorem dX9_put_25 : decode cX9_put 25 = .ok (.ifCond .ne 8, 3) := by decide +kernel
theorem dX9_put_28 : decode cX9_put 28 = .ok (.ldc 78, 2) := by decide +kernel
theorem dX9_put_30 : decode cX9_put 30 = .ok (.goto 5, 3) := by decide +kernel
theorem dX9_put_33 : decode cX9_put 33 = .ok (.iload 4, 2) := by decide +kernel
theorem dX9_put_35 : decode cX9_put 35 = .ok (.istore 4, 2) := by decide +kernel
theorem dX9_put_37 : decode cX9_put 37 = .ok (.iload 4, 2) := by decide +kernel
theorem dX9_put_39 : decode cX9_put 39 = .ok (.ifCond .eq 10, 3) := by decide +kernel
theorem dX9_put_42 : decode cX9_put 42 = .ok (.aload_n 0, 1) := by decide +kernel
theorem dX9_put_43 : decode cX9_put 43 = .ok (.iload 4, 2) := by decide +kernel
theorem dX9_put_45 : decode cX9_put 45 = .ok (.invokevirtual 79, 3) := by decide +kernel
theorem dX9_put_48 : decode cX9_put 48 = .ok (.ireturn, 1) := by decide +kernel
theorem dX9_put_49 : decode cX9_put 49 = .ok (.aload_n 0, 1) := by decide +kernel
theorem dX9_put_50 : decode cX9_put 50 = .ok (.getfield 28, 3) := by decide +kernel
theorem dX9_put_53 : decode cX9_put 53 = .ok (.bipush 24, 2) := by decide +kernel
theorem dX9_put_55 : decode cX9_put 55 = .ok (.iload_n 1, 1) := by decide +kernel
theorem dX9_put_56 : decode cX9_put 56 = .ok (.imul, 1) := by decide +kernel
theorem dX9_put_57 : decode cX9_put 57 = .ok (.iload_n 2, 1) := by decide +kernel
theorem dX9_put_58 : decode cX9_put 58 = .ok (.iadd, 1) := by decide +kernel
theorem dX9_put_59 : decode cX9_put 59 = .ok (.aload_n 0, 1) := by decide +kernel
theorem dX9_put_60 : decode cX9_put 60 = .ok (.getfield 22, 3) := by decide +kernel
theorem dX9_put_63 : decode cX9_put 63 = .ok (.iload_n 1, 1) := by decide +kernel
theorem dX9_put_64 : decode cX9_put 64 = .ok (.iaload, 1) := by decide +kernel
theorem dX9_put_65 : decode cX9_put 65 = .ok (.bipush 8, 2) := by decide +kernel
theorem dX9_put_67 : decode cX9_put 67 = .ok (.if_icmp .ne 8, 3) := by decide +kernel
theorem dX9_put_70 : decode cX9_put 70 = .ok (.iload_n 3, 1) := by decide +kernel
theorem dX9_put_71 : decode cX9_put 71 = .ok (.i2b, 1) := by decide +kernel
theorem dX9_put_72 : decode cX9_put 72 = .ok (.goto 20, 3) := by decide +kernel
theorem dX9_put_75 : decode cX9_put 75 = .ok (.aload_n 0, 1) := by decide +kernel
theorem dX9_put_76 : decode cX9_put 76 = .ok (.getfield 22, 3) := by decide +kernel
theorem dX9_put_79 : decode cX9_put 79 = .ok (.iload_n 1, 1) := by decide +kernel
theorem dX9_put_80 : decode cX9_put 80 = .ok (.iaload, 1) := by decide +kernel
theorem dX9_put_81 : decode cX9_put 81 = .ok (.bipush 16, 2) := by decide +kernel
theorem dX9_put_83 : decode cX9_put 83 = .ok (.if_icmp .ne 8, 3) := by decide +kernel
theorem dX9_put_86 : decode cX9_put 86 = .ok (.iload_n 3, 1) := by decide +kernel
theorem dX9_put_87 : decode cX9_put 87 = .ok (.i2s, 1) := by decide +kernel
theorem dX9_put_88 : decode cX9_put 88 = .ok (.goto 4, 3) := by decide +kernel
theorem dX9_put_91 : decode cX9_put 91 = .ok (.iload_n 3, 1) := by decide +kernel
theorem dX9_put_92 : decode cX9_put 92 = .ok (.iastore, 1) := by decide +kernel
theorem dX9_put_93 : decode cX9_put 93 = .ok (.iconst 1, 1) := by decide +kernel
theorem dX9_put_94 : decode cX9_put 94 = .ok (.ireturn, 1) := by decide +kernel
set_option maxRecDepth 20000 in
theorem ggX9_notMoved_X9_isSheet : GoodIn wsX9_notMoved wsX9_isSheet := goodIn_r _ [9, 10, 11, 8, 12] (by decide +kernel) (by decide +kernel)
set_option maxRecDepth 20000 in
theorem gX9_notMoved_X9_isSheet : GoodIn wsX9_notMoved (va_wsS RX9 199 yX9_isSheet wsX9_isSheet) := goodIn_app (goodIn_of _ (by decide +kernel)) ggX9_notMoved_X9_isSheet
theorem dX9_notMoved_0 : decode cX9_notMoved 0 = .ok (.iload_n 1, 1) := by decide +kernel
theorem dX9_notMoved_1 : decode cX9_notMoved 1 = .ok (.invokestatic 199, 3) := by decide +kernel
theorem dX9_notMoved_4 : decode cX9_notMoved 4 = .ok (.ifCond .eq 10, 3) := by decide +kernel
theorem dX9_notMoved_7 : decode cX9_notMoved 7 = .ok (.iload_n 3, 1) := by decide +kernel
theorem dX9_notMoved_8 : decode cX9_notMoved 8 = .ok (.invokestatic 199, 3) := by decide +kernel
theorem dX9_notMoved_11 : decode cX9_notMoved 11 = .ok (.ifCond .ne 6, 3) := by decide +kernel
theorem dX9_notMoved_14 : decode cX9_notMoved 14 = .ok (.ldc 78, 2) := by decide +kernel
theorem dX9_notMoved_16 : decode cX9_notMoved 16 = .ok (.ireturn, 1) := by decide +kernel
theorem dX9_notMoved_17 : decode cX9_notMoved 17 = .ok (.aload_n 0, 1) := by decide +kernel
theorem dX9_notMoved_18 : decode cX9_notMoved 18 = .ok (.getfield 22, 3) := by decide +kernel
theorem dX9_notMoved_21 : decode cX9_notMoved 21 = .ok (.iload_n 1, 1) := by decide +kernel
theorem dX9_notMoved_22 : decode cX9_notMoved 22 = .ok (.iaload, 1) := by decide +kernel
theorem dX9_notMoved_23 : decode cX9_notMoved 23 = .ok (.ifCond .eq 12, 3) := by decide +kernel
theorem dX9_notMoved_26 : decode cX9_notMoved 26 = .ok (.aload_n 0, 1) := by decide +kernel
theorem dX9_notMoved_27 : decode cX9_notMoved 27 = .ok (.getfield 22, 3) := by decide +kernel
theorem dX9_notMoved_30 : decode cX9_notMoved 30 = .ok (.iload_n 3, 1) := by decide +kernel
theorem dX9_notMoved_31 : decode cX9_notMoved 31 = .ok (.iaload, 1) := by decide +kernel
theorem dX9_notMoved_32 : decode cX9_notMoved 32 = .ok (.ifCond .ne 6, 3) := by decide +kernel
theorem dX9_notMoved_35 : decode cX9_notMoved 35 = .ok (.ldc 198, 2) := by decide +kernel
theorem dX9_notMoved_37 : decode cX9_notMoved 37 = .ok (.ireturn, 1) := by decide +kernel
theorem dX9_notMoved_38 : decode cX9_notMoved 38 = .ok (.aload_n 0, 1) := by decide +kernel
theorem dX9_notMoved_39 : decode cX9_notMoved 39 = .ok (.getfield 22, 3) := by decide +kernel
theorem dX9_notMoved_42 : decode cX9_notMoved 42 = .ok (.iload_n 1, 1) := by decide +kernel
theorem dX9_notMoved_43 : decode cX9_notMoved 43 = .ok (.iaload, 1) := by decide +kernel
theorem dX9_notMoved_44 : decode cX9_notMoved 44 = .ok (.aload_n 0, 1) := by decide +kernel
theorem dX9_notMoved_45 : decode cX9_notMoved 45 = .ok (.getfield 22, 3) := by decide +kernel
theorem dX9_notMoved_48 : decode cX9_notMoved 48 = .ok (.iload_n 3, 1) := by decide +kernel
theorem dX9_notMoved_49 : decode cX9_notMoved 49 = .ok (.iaload, 1) := by decide +kernel
theorem dX9_notMoved_50 : decode cX9_notMoved 50 = .ok (.if_icmp .eq 6, 3) := by decide +kernel
theorem dX9_notMoved_53 : decode cX9_notMoved 53 = .ok (.ldc 92, 2) := by decide +kernel
theorem dX9_notMoved_55 : decode cX9_notMoved 55 = .ok (.ireturn, 1) := by decide +kernel
theorem dX9_notMoved_56 : decode cX9_notMoved 56 = .ok (.iload 5, 2) := by decide +kernel
theorem dX9_notMoved_58 : decode cX9_notMoved 58 = .ok (.ifCond .lt 43, 3) := by decide +kernel
theorem dX9_notMoved_61 : decode cX9_notMoved 61 = .ok (.iload_n 2, 1) := by decide +kernel
theorem dX9_notMoved_62 : decode cX9_notMoved 62 = .ok (.ifCond .lt 39, 3) := by decide +kernel
theorem dX9_notMoved_65 : decode cX9_notMoved 65 = .ok (.iload 4, 2) := by decide +kernel
theorem dX9_notMoved_67 : decode cX9_notMoved 67 = .ok (.ifCond .lt 34, 3) := by decide +kernel
theorem dX9_notMoved_70 : decode cX9_notMoved 70 = .ok (.iload 5, 2) := by decide +kernel
theorem dX9_notMoved_72 : decode cX9_notMoved 72 = .ok (.aload_n 0, 1) := by decide +kernel
theorem dX9_notMoved_73 : decode cX9_notMoved 73 = .ok (.getfield 25, 3) := by decide +kernel
theorem dX9_notMoved_76 : decode cX9_notMoved 76 = .ok (.iload_n 1, 1) := by decide +kernel
theorem dX9_notMoved_77 : decode cX9_notMoved 77 = .ok (.iaload, 1) := by decide +kernel
theorem dX9_notMoved_78 : decode cX9_notMoved 78 = .ok (.iload_n 2, 1) := by decide +kernel
theorem dX9_notMoved_79 : decode cX9_notMoved 79 = .ok (.isub, 1) := by decide +kernel
theorem dX9_notMoved_80 : decode cX9_notMoved 80 = .ok (.if_icmp .gt 21, 3) := by decide +kernel
theorem dX9_notMoved_83 : decode cX9_notMoved 83 = .ok (.iload 5, 2) := by decide +kernel
theorem dX9_notMoved_85 : decode cX9_notMoved 85 = .ok (.aload_n 0, 1) := by decide +kernel
theorem dX9_notMoved_86 : decode cX9_notMoved 86 = .ok (.getfield 25, 3) := by decide +kernel
theorem dX9_notMoved_89 : decode cX9_notMoved 89 = .ok (.iload_n 3, 1) := by decide +kernel
theorem dX9_notMoved_90 : decode cX9_notMoved 90 = .ok (.iaload, 1) := by decide +kernel
theorem dX9_notMoved_91 : decode cX9_notMoved 91 = .ok (.iload 4, 2) := by decide +kernel
theorem dX9_notMoved_93 : decode cX9_notMoved 93 = .ok (.isub, 1) := by decide +kernel
theorem dX9_notMoved_94 : decode cX9_notMoved 94 = .ok (.if_icmp .gt 7, 3) := by decide +kernel
theorem dX9_notMoved_97 : decode cX9_notMoved 97 = .ok (.iconst 1, 1) := by decide +kernel
theorem dX9_notMoved_98 : decode cX9_notMoved 98 = .ok (.goto 4, 3) := by decide +kernel
theorem dX9_notMoved_101 : decode cX9_notMoved 101 = .ok (.iconst 0, 1) := by decide +kernel
theorem dX9_notMoved_102 : decode cX9_notMoved 102 = .ok (.istore 6, 2) := by decide +kernel
theorem dX9_notMoved_104 : decode cX9_notMoved 104 = .ok (.iload 6, 2) := by decide +kernel
theorem dX9_notMoved_106 : decode cX9_notMoved 106 = .ok (.ifCond .eq 7, 3) := by decide +kernel
theorem dX9_notMoved_109 : decode cX9_notMoved 109 = .ok (.iconst 0, 1) := by decide +kernel
theorem dX9_notMoved_110 : decode cX9_notMoved 110 = .ok (.goto 5, 3) := by decide +kernel
theorem dX9_notMoved_113 : decode cX9_notMoved 113 = .ok (.ldc 78, 2) := by decide +kernel
theorem dX9_notMoved_115 : decode cX9_notMoved 115 = .ok (.ireturn, 1) := by decide +kernel
set_option maxRecDepth 20000 in
theorem ggX9_move_X9_notMoved : GoodIn wsX9_move wsX9_notMoved := goodIn_r _ [6, 7, 8, 9, 10, 11, 12, 13, 5, 14, 15, 16, 17, 24, 25, 26, 27, 28, 29, 30, 31, 32, 33, 34, 35, 36, 37, 38, 39, 40, 41, 42, 43, 44] (by decide +kernel) (by decide +kernel)
set_option maxRecDepth 20000 in
theorem gX9_move_X9_notMoved : GoodIn wsX9_move (wsV RX9 269 RX9 yX9_notMoved wsX9_notMoved) := goodIn_app (goodIn_of _ (by decide +kernel)) ggX9_move_X9_notMoved
set_option maxRecDepth 20000 in
theorem ggX9_move_X9_error : GoodIn wsX9_move wsX9_error := goodIn_r _ [21, 22, 23, 24, 25, 26, 27, 28, 29, 30, 31, 32, 33, 34, 35, 36, 37, 38, 39, 40, 41, 42, 43, 44] (by decide +kernel) (by decide +kernel)
set_option maxRecDepth 20000 in
theorem gX9_move_X9_error : GoodIn wsX9_move (wsV RX9 79 RX9 yX9_error wsX9_error) := goodIn_app (goodIn_of _ (by decide +kernel)) ggX9_move_X9_error
theorem dX9_move_0 : decode cX9_move 0 = .ok (.aload_n 0, 1) := by decide +kernel
theorem dX9_move_1 : decode cX9_move 1 = .ok (.iload_n 1, 1) := by decide +kernel
theorem dX9_move_2 : decode cX9_move 2 = .ok (.iload_n 2, 1) := by decide +kernel
theorem dX9_move_3 : decode cX9_move 3 = .ok (.iload_n 3, 1) := by decide +kernel
theorem dX9_move_4 : decode cX9_move 4 = .ok (.iload 4, 2) := by decide +kernel
theorem dX9_move_6 : decode cX9_move 6 = .ok (.iload 5, 2) := by decide +kernel
theorem dX9_move_8 : decode cX9_move 8 = .ok (.invokevirtual 269, 3) := by decide +kernel
theorem dX9_move_11 : decode cX9_move 11 = .ok (.istore 6, 2) := by decide +kernel
theorem dX9_move_13 : decode cX9_move 13 = .ok (.iload 6, 2) := by decide +kernel
theorem dX9_move_15 : decode cX9_move 15 = .ok (.ifCond .eq 10, 3) := by decide +kernel
theorem dX9_move_18 : decode cX9_move 18 = .ok (.aload_n 0, 1) := by decide +kernel
theorem dX9_move_19 : decode cX9_move 19 = .ok (.iload 6, 2) := by decide +kernel
theorem dX9_move_21 : decode cX9_move 21 = .ok (.invokevirtual 79, 3) := by decide +kernel
theorem dX9_move_24 : decode cX9_move 24 = .ok (.ireturn, 1) := by decide +kernel
theorem dX9_move_25 : decode cX9_move 25 = .ok (.iconst 0, 1) := by decide +kernel
theorem dX9_move_26 : decode cX9_move 26 = .ok (.istore 7, 2) := by decide +kernel
theorem dX9_move_28 : decode cX9_move 28 = .ok (.iload 7, 2) := by decide +kernel
theorem dX9_move_30 : decode cX9_move 30 = .ok (.iload 5, 2) := by decide +kernel
theorem dX9_move_32 : decode cX9_move 32 = .ok (.if_icmp .ge 58, 3) := by decide +kernel
theorem dX9_move_35 : decode cX9_move 35 = .ok (.iload_n 2, 1) := by decide +kernel
theorem dX9_move_36 : decode cX9_move 36 = .ok (.iload 4, 2) := by decide +kernel
theorem dX9_move_38 : decode cX9_move 38 = .ok (.if_icmp .ge 13, 3) := by decide +kernel
theorem dX9_move_41 : decode cX9_move 41 = .ok (.iload 5, 2) := by decide +kernel
theorem dX9_move_43 : decode cX9_move 43 = .ok (.iconst 1, 1) := by decide +kernel
theorem dX9_move_44 : decode cX9_move 44 = .ok (.isub, 1) := by decide +kernel
theorem dX9_move_45 : decode cX9_move 45 = .ok (.iload 7, 2) := by decide +kernel
theorem dX9_move_47 : decode cX9_move 47 = .ok (.isub, 1) := by decide +kernel
theorem dX9_move_48 : decode cX9_move 48 = .ok (.goto 5, 3) := by decide +kernel
theorem dX9_move_51 : decode cX9_move 51 = .ok (.iload 7, 2) := by decide +kernel
theorem dX9_move_53 : decode cX9_move 53 = .ok (.istore 8, 2) := by decide +kernel
theorem dX9_move_55 : decode cX9_move 55 = .ok (.aload_n 0, 1) := by decide +kernel
theorem dX9_move_56 : decode cX9_move 56 = .ok (.getfield 28, 3) := by decide +kernel
theorem dX9_move_59 : decode cX9_move 59 = .ok (.bipush 24, 2) := by decide +kernel
theorem dX9_move_61 : decode cX9_move 61 = .ok (.iload_n 3, 1) := by decide +kernel
theorem dX9_move_62 : decode cX9_move 62 = .ok (.imul, 1) := by decide +kernel
theorem dX9_move_63 : decode cX9_move 63 = .ok (.iload 4, 2) := by decide +kernel
theorem dX9_move_65 : decode cX9_move 65 = .ok (.iadd, 1) := by decide +kernel
theorem dX9_move_66 : decode cX9_move 66 = .ok (.iload 8, 2) := by decide +kernel
theorem dX9_move_68 : decode cX9_move 68 = .ok (.iadd, 1) := by decide +kernel
theorem dX9_move_69 : decode cX9_move 69 = .ok (.aload_n 0, 1) := by decide +kernel
theorem dX9_move_70 : decode cX9_move 70 = .ok (.getfield 28, 3) := by decide +kernel
theorem dX9_move_73 : decode cX9_move 73 = .ok (.bipush 24, 2) := by decide +kernel
theorem dX9_move_75 : decode cX9_move 75 = .ok (.iload_n 1, 1) := by decide +kernel
theorem dX9_move_76 : decode cX9_move 76 = .ok (.imul, 1) := by decide +kernel
theorem dX9_move_77 : decode cX9_move 77 = .ok (.iload_n 2, 1) := by decide +kernel
theorem dX9_move_78 : decode cX9_move 78 = .ok (.iadd, 1) := by decide +kernel
theorem dX9_move_79 : decode cX9_move 79 = .ok (.iload 8, 2) := by decide +kernel
theorem dX9_move_81 : decode cX9_move 81 = .ok (.iadd, 1) := by decide +kernel
theorem dX9_move_82 : decode cX9_move 82 = .ok (.iaload, 1) := by decide +kernel
theorem dX9_move_83 : decode cX9_move 83 = .ok (.iastore, 1) := by decide +kernel
theorem dX9_move_84 : decode cX9_move 84 = .ok (.iinc 7 1, 3) := by decide +kernel
theorem dX9_move_87 : decode cX9_move 87 = .ok (.goto (-59), 3) := by decide +kernel
theorem dX9_move_90 : decode cX9_move 90 = .ok (.iload 5, 2) := by decide +kernel
theorem dX9_move_92 : decode cX9_move 92 = .ok (.ireturn, 1) := by decide +kernel
set_option maxRecDepth 20000 in
theorem ggX9_carries_X9_notThere : GoodIn wsX9_carries wsX9_notThere := goodIn_r _ [8, 9, 10, 11, 12, 13, 7, 14, 15, 16, 17, 28, 29, 30, 31, 32, 33, 34, 35, 36, 37, 38, 39, 40, 41, 42, 43, 44, 45, 46, 47, 48] (by decide +kernel) (by decide +kernel)
set_option maxRecDepth 20000 in
theorem gX9_carries_X9_notThere : GoodIn wsX9_carries (wsV RX9 266 RX9 yX9_notThere wsX9_notThere) := goodIn_app (goodIn_of _ (by decide +kernel)) ggX9_carries_X9_notThere
set_option maxRecDepth 20000 in
theorem ggX9_carries_X9_error : GoodIn wsX9_carries wsX9_error := goodIn_r _ [21, 22, 23, 28, 29, 30, 31, 32, 33, 34, 35, 36, 37, 38, 39, 40, 41, 42, 43, 44, 45, 46, 47, 48] (by decide +kernel) (by decide +kernel)
set_option maxRecDepth 20000 in
theorem gX9_carries_X9_error : GoodIn wsX9_carries (wsV RX9 79 RX9 yX9_error wsX9_error) := goodIn_app (goodIn_of _ (by decide +kernel)) ggX9_carries_X9_error
set_option maxRecDepth 20000 in
theorem ggX9_carries_X9_in : GoodIn wsX9_carries wsX9_in := goodIn_r _ [17] (by decide +kernel) (by decide +kernel)
set_option maxRecDepth 20000 in
theorem gX9_carries_X9_in : GoodIn wsX9_carries (va_wsS RX9 54 yX9_in wsX9_in) := goodIn_app (goodIn_of _ (by decide +kernel)) ggX9_carries_X9_in
set_option maxRecDepth 20000 in
theorem ggX9_carries_X9_lets : GoodIn wsX9_carries wsX9_lets := goodIn_r _ [27, 2, 28, 29, 30, 31, 32, 33, 34, 35, 36, 37, 38, 39, 40, 41, 42, 43, 44, 45, 46, 47, 48] (by decide +kernel) (by decide +kernel)
set_option maxRecDepth 20000 in
theorem gX9_carries_X9_lets : GoodIn wsX9_carries (wsV RX9 93 RX9 yX9_lets wsX9_lets) := goodIn_app (goodIn_of _ (by decide +kernel)) ggX9_carries_X9_lets
theorem dX9_carries_0 : decode cX9_carries 0 = .ok (.aload_n 0, 1) := by decide +kernel
theorem dX9_carries_1 : decode cX9_carries 1 = .ok (.iload_n 1, 1) := by decide +kernel
theorem dX9_carries_2 : decode cX9_carries 2 = .ok (.invokevirtual 266, 3) := by decide +kernel
theorem dX9_carries_5 : decode cX9_carries 5 = .ok (.istore_n 2, 1) := by decide +kernel
theorem dX9_carries_6 : decode cX9_carries 6 = .ok (.iload_n 2, 1) := by decide +kernel
theorem dX9_carries_7 : decode cX9_carries 7 = .ok (.ifCond .eq 9, 3) := by decide +kernel
theorem dX9_carries_10 : decode cX9_carries 10 = .ok (.aload_n 0, 1) := by decide +kernel
theorem dX9_carries_11 : decode cX9_carries 11 = .ok (.iload_n 2, 1) := by decide +kernel
theorem dX9_carries_12 : decode cX9_carries 12 = .ok (.invokevirtual 79, 3) := by decide +kernel
theorem dX9_carries_15 : decode cX9_carries 15 = .ok (.ireturn, 1) := by decide +kernel
theorem dX9_carries_16 : decode cX9_carries 16 = .ok (.iconst 0, 1) := by decide +kernel
theorem dX9_carries_17 : decode cX9_carries 17 = .ok (.istore_n 3, 1) := by decide +kernel
theorem dX9_carries_18 : decode cX9_carries 18 = .ok (.iload_n 3, 1) := by decide +kernel
theorem dX9_carries_19 : decode cX9_carries 19 = .ok (.aload_n 0, 1) := by decide +kernel
theorem dX9_carries_20 : decode cX9_carries 20 = .ok (.getfield 25, 3) := by decide +kernel
theorem dX9_carries_23 : decode cX9_carries 23 = .ok (.iload_n 1, 1) := by decide +kernel
theorem dX9_carries_24 : decode cX9_carries 24 = .ok (.iaload, 1) := by decide +kernel
theorem dX9_carries_25 : decode cX9_carries 25 = .ok (.if_icmp .ge 60, 3) := by decide +kernel
theorem dX9_carries_28 : decode cX9_carries 28 = .ok (.iload_n 3, 1) := by decide +kernel
theorem dX9_carries_29 : decode cX9_carries 29 = .ok (.aload_n 0, 1) := by decide +kernel
theorem dX9_carries_30 : decode cX9_carries 30 = .ok (.getfield 9, 3) := by decide +kernel
theorem dX9_carries_33 : decode cX9_carries 33 = .ok (.iconst 3, 1) := by decide +kernel
theorem dX9_carries_34 : decode cX9_carries 34 = .ok (.iaload, 1) := by decide +kernel
theorem dX9_carries_35 : decode cX9_carries 35 = .ok (.if_icmp .ge 50, 3) := by decide +kernel
theorem dX9_carries_38 : decode cX9_carries 38 = .ok (.aload_n 0, 1) := by decide +kernel
theorem dX9_carries_39 : decode cX9_carries 39 = .ok (.getfield 28, 3) := by decide +kernel
theorem dX9_carries_42 : decode cX9_carries 42 = .ok (.bipush 24, 2) := by decide +kernel
theorem dX9_carries_44 : decode cX9_carries 44 = .ok (.iload_n 1, 1) := by decide +kernel
theorem dX9_carries_45 : decode cX9_carries 45 = .ok (.imul, 1) := by decide +kernel
theorem dX9_carries_46 : decode cX9_carries 46 = .ok (.iload_n 3, 1) := by decide +kernel
theorem dX9_carries_47 : decode cX9_carries 47 = .ok (.iadd, 1) := by decide +kernel
theorem dX9_carries_48 : decode cX9_carries 48 = .ok (.iaload, 1) := by decide +kernel
theorem dX9_carries_49 : decode cX9_carries 49 = .ok (.iconst 0, 1) := by decide +kernel
theorem dX9_carries_50 : decode cX9_carries 50 = .ok (.aload_n 0, 1) := by decide +kernel
theorem dX9_carries_51 : decode cX9_carries 51 = .ok (.getfield 9, 3) := by decide +kernel
theorem dX9_carries_54 : decode cX9_carries 54 = .ok (.iconst 2, 1) := by decide +kernel
theorem dX9_carries_55 : decode cX9_carries 55 = .ok (.iaload, 1) := by decide +kernel
theorem dX9_carries_56 : decode cX9_carries 56 = .ok (.invokestatic 54, 3) := by decide +kernel
theorem dX9_carries_59 : decode cX9_carries 59 = .ok (.ifCond .eq 26, 3) := by decide +kernel
theorem dX9_carries_62 : decode cX9_carries 62 = .ok (.aload_n 0, 1) := by decide +kernel
theorem dX9_carries_63 : decode cX9_carries 63 = .ok (.iload_n 3, 1) := by decide +kernel
theorem dX9_carries_64 : decode cX9_carries 64 = .ok (.iconst 0, 1) := by decide +kernel
theorem dX9_carries_65 : decode cX9_carries 65 = .ok (.aload_n 0, 1) := by decide +kernel
theorem dX9_carries_66 : decode cX9_carries 66 = .ok (.getfield 28, 3) := by decide +kernel
theorem dX9_carries_69 : decode cX9_carries 69 = .ok (.bipush 24, 2) := by decide +kernel
theorem dX9_carries_71 : decode cX9_carries 71 = .ok (.iload_n 1, 1) := by decide +kernel
theorem dX9_carries_72 : decode cX9_carries 72 = .ok (.imul, 1) := by decide +kernel
theorem dX9_carries_73 : decode cX9_carries 73 = .ok (.iload_n 3, 1) := by decide +kernel
theorem dX9_carries_74 : decode cX9_carries 74 = .ok (.iadd, 1) := by decide +kernel
theorem dX9_carries_75 : decode cX9_carries 75 = .ok (.iaload, 1) := by decide +kernel
theorem dX9_carries_76 : decode cX9_carries 76 = .ok (.invokevirtual 93, 3) := by decide +kernel
theorem dX9_carries_79 : decode cX9_carries 79 = .ok (.iinc 3 1, 3) := by decide +kernel
theorem dX9_carries_82 : decode cX9_carries 82 = .ok (.goto (-64), 3) := by decide +kernel
theorem dX9_carries_85 : decode cX9_carries 85 = .ok (.iload_n 3, 1) := by decide +kernel
theorem dX9_carries_86 : decode cX9_carries 86 = .ok (.ireturn, 1) := by decide +kernel
set_option maxRecDepth 20000 in
theorem ggX9_judge_X9_notThere : GoodIn wsX9_judge wsX9_notThere := goodIn_r _ [8, 9, 10, 11, 12, 13, 7, 14, 15, 16, 17, 28, 29, 30, 31, 32, 33, 34, 35, 36, 37, 38, 39, 40, 41, 42, 43, 44, 45, 46, 47, 48] (by decide +kernel) (by decide +kernel)
set_option maxRecDepth 20000 in
theorem gX9_judge_X9_notThere : GoodIn wsX9_judge (wsV RX9 266 RX9 yX9_notThere wsX9_notThere) := goodIn_app (goodIn_of _ (by decide +kernel)) ggX9_judge_X9_notThere
set_option maxRecDepth 20000 in
theorem ggX9_judge_X9_error : GoodIn wsX9_judge wsX9_error := goodIn_r _ [21, 22, 23, 28, 29, 30, 31, 32, 33, 34, 35, 36, 37, 38, 39, 40, 41, 42, 43, 44, 45, 46, 47, 48] (by decide +kernel) (by decide +kernel)
set_option maxRecDepth 20000 in
theorem gX9_judge_X9_error : GoodIn wsX9_judge (wsV RX9 79 RX9 yX9_error wsX9_error) := goodIn_app (goodIn_of _ (by decide +kernel)) ggX9_judge_X9_error
set_option maxRecDepth 20000 in
theorem ggX9_judge_X9_about : GoodIn wsX9_judge wsX9_about := goodIn_r _ [27, 2, 28, 29, 30, 31, 32, 33, 34, 35, 36, 37, 38, 39, 40, 41, 42, 43, 44, 45, 46, 47, 48] (by decide +kernel) (by decide +kernel)
set_option maxRecDepth 20000 in
theorem gX9_judge_X9_about : GoodIn wsX9_judge (wsV RX9 97 RX9 yX9_about wsX9_about) := goodIn_app (goodIn_of _ (by decide +kernel)) ggX9_judge_X9_about
theorem dX9_judge_0 : decode cX9_judge 0 = .ok (.aload_n 0, 1) := by decide +kernel
theorem dX9_judge_1 : decode cX9_judge 1 = .ok (.iload_n 1, 1) := by decide +kernel
theorem dX9_judge_2 : decode cX9_judge 2 = .ok (.invokevirtual 266, 3) := by decide +kernel
theorem dX9_judge_5 : decode cX9_judge 5 = .ok (.istore_n 2, 1) := by decide +kernel
theorem dX9_judge_6 : decode cX9_judge 6 = .ok (.iload_n 2, 1) := by decide +kernel
theorem dX9_judge_7 : decode cX9_judge 7 = .ok (.ifCond .eq 9, 3) := by decide +kernel
theorem dX9_judge_10 : decode cX9_judge 10 = .ok (.aload_n 0, 1) := by decide +kernel
theorem dX9_judge_11 : decode cX9_judge 11 = .ok (.iload_n 2, 1) := by decide +kernel
theorem dX9_judge_12 : decode cX9_judge 12 = .ok (.invokevirtual 79, 3) := by decide +kernel
theorem dX9_judge_15 : decode cX9_judge 15 = .ok (.ireturn, 1) := by decide +kernel
theorem dX9_judge_16 : decode cX9_judge 16 = .ok (.iconst 0, 1) := by decide +kernel
theorem dX9_judge_17 : decode cX9_judge 17 = .ok (.istore_n 3, 1) := by decide +kernel
theorem dX9_judge_18 : decode cX9_judge 18 = .ok (.iload_n 3, 1) := by decide +kernel
theorem dX9_judge_19 : decode cX9_judge 19 = .ok (.aload_n 0, 1) := by decide +kernel
theorem dX9_judge_20 : decode cX9_judge 20 = .ok (.getfield 25, 3) := by decide +kernel
theorem dX9_judge_23 : decode cX9_judge 23 = .ok (.iload_n 1, 1) := by decide +kernel
theorem dX9_judge_24 : decode cX9_judge 24 = .ok (.iaload, 1) := by decide +kernel
theorem dX9_judge_25 : decode cX9_judge 25 = .ok (.if_icmp .ge 39, 3) := by decide +kernel
theorem dX9_judge_28 : decode cX9_judge 28 = .ok (.iload_n 3, 1) := by decide +kernel
theorem dX9_judge_29 : decode cX9_judge 29 = .ok (.aload_n 0, 1) := by decide +kernel
theorem dX9_judge_30 : decode cX9_judge 30 = .ok (.getfield 9, 3) := by decide +kernel
theorem dX9_judge_33 : decode cX9_judge 33 = .ok (.iconst 3, 1) := by decide +kernel
theorem dX9_judge_34 : decode cX9_judge 34 = .ok (.iaload, 1) := by decide +kernel
theorem dX9_judge_35 : decode cX9_judge 35 = .ok (.if_icmp .ge 29, 3) := by decide +kernel
theorem dX9_judge_38 : decode cX9_judge 38 = .ok (.aload_n 0, 1) := by decide +kernel
theorem dX9_judge_39 : decode cX9_judge 39 = .ok (.getfield 28, 3) := by decide +kernel
theorem dX9_judge_42 : decode cX9_judge 42 = .ok (.bipush 24, 2) := by decide +kernel
theorem dX9_judge_44 : decode cX9_judge 44 = .ok (.iload_n 1, 1) := by decide +kernel
theorem dX9_judge_45 : decode cX9_judge 45 = .ok (.imul, 1) := by decide +kernel
theorem dX9_judge_46 : decode cX9_judge 46 = .ok (.iload_n 3, 1) := by decide +kernel
theorem dX9_judge_47 : decode cX9_judge 47 = .ok (.iadd, 1) := by decide +kernel
theorem dX9_judge_48 : decode cX9_judge 48 = .ok (.iaload, 1) := by decide +kernel
theorem dX9_judge_49 : decode cX9_judge 49 = .ok (.aload_n 0, 1) := by decide +kernel
theorem dX9_judge_50 : decode cX9_judge 50 = .ok (.iload_n 3, 1) := by decide +kernel
theorem dX9_judge_51 : decode cX9_judge 51 = .ok (.iconst 0, 1) := by decide +kernel
theorem dX9_judge_52 : decode cX9_judge 52 = .ok (.invokevirtual 97, 3) := by decide +kernel
theorem dX9_judge_55 : decode cX9_judge 55 = .ok (.if_icmp .ne 9, 3) := by decide +kernel
theorem dX9_judge_58 : decode cX9_judge 58 = .ok (.iinc 3 1, 3) := by decide +kernel
theorem dX9_judge_61 : decode cX9_judge 61 = .ok (.goto (-43), 3) := by decide +kernel
theorem dX9_judge_64 : decode cX9_judge 64 = .ok (.iload_n 3, 1) := by decide +kernel
theorem dX9_judge_65 : decode cX9_judge 65 = .ok (.ireturn, 1) := by decide +kernel
set_option maxRecDepth 20000 in
theorem ggX9_image_X9_copyAll : GoodIn wsX9_image wsX9_copyAll := goodIn_r _ [7] (by decide +kernel) (by decide +kernel)
set_option maxRecDepth 20000 in
theorem gX9_image_X9_copyAll : GoodIn wsX9_image (va_wsS RX9 50 yX9_copyAll wsX9_copyAll) := goodIn_app (goodIn_of _ (by decide +kernel)) ggX9_image_X9_copyAll
theorem dX9_image_0 : decode cX9_image 0 = .ok (.aload_n 0, 1) := by decide +kernel
theorem dX9_image_1 : decode cX9_image 1 = .ok (.getfield 9, 3) := by decide +kernel
theorem dX9_image_4 : decode cX9_image 4 = .ok (.aload_n 0, 1) := by decide +kernel
theorem dX9_image_5 : decode cX9_image 5 = .ok (.getfield 13, 3) := by decide +kernel
theorem dX9_image_8 : decode cX9_image 8 = .ok (.invokestatic 50, 3) := by decide +kernel
theorem dX9_image_11 : decode cX9_image 11 = .ok (.aload_n 0, 1) := by decide +kernel
theorem dX9_image_12 : decode cX9_image 12 = .ok (.dup, 1) := by decide +kernel
theorem dX9_image_13 : decode cX9_image 13 = .ok (.getfield 272, 3) := by decide +kernel
theorem dX9_image_16 : decode cX9_image 16 = .ok (.iconst 1, 1) := by decide +kernel
theorem dX9_image_17 : decode cX9_image 17 = .ok (.iadd, 1) := by decide +kernel
theorem dX9_image_18 : decode cX9_image 18 = .ok (.putfield 272, 3) := by decide +kernel
theorem dX9_image_21 : decode cX9_image 21 = .ok (.aload_n 0, 1) := by decide +kernel
theorem dX9_image_22 : decode cX9_image 22 = .ok (.getfield 272, 3) := by decide +kernel
theorem dX9_image_25 : decode cX9_image 25 = .ok (.ireturn, 1) := by decide +kernel
set_option maxRecDepth 20000 in
theorem ggX9_restore_X9_error : GoodIn wsX9_restore wsX9_error := goodIn_r _ [9, 10, 11, 15, 16, 17, 18, 19, 20, 21, 22, 23, 24, 25, 26, 27, 28, 29, 30, 31, 32, 33, 34, 35] (by decide +kernel) (by decide +kernel)
set_option maxRecDepth 20000 in
theorem gX9_restore_X9_error : GoodIn wsX9_restore (wsV RX9 79 RX9 yX9_error wsX9_error) := goodIn_app (goodIn_of _ (by decide +kernel)) ggX9_restore_X9_error
set_option maxRecDepth 20000 in
theorem ggX9_restore_X9_copyAll : GoodIn wsX9_restore wsX9_copyAll := goodIn_r _ [14] (by decide +kernel) (by decide +kernel)
set_option maxRecDepth 20000 in
theorem gX9_restore_X9_copyAll : GoodIn wsX9_restore (va_wsS RX9 50 yX9_copyAll wsX9_copyAll) := goodIn_app (goodIn_of _ (by decide +kernel)) ggX9_restore_X9_copyAll
theorem dX9_restore_0 : decode cX9_restore 0 = .ok (.aload_n 0, 1) := by decide +kernel
theorem dX9_restore_1 : decode cX9_restore 1 = .ok (.getfield 272, 3) := by decide +kernel
theorem dX9_restore_4 : decode cX9_restore 4 = .ok (.ifCond .ne 10, 3) := by decide +kernel
theorem dX9_restore_7 : decode cX9_restore 7 = .ok (.aload_n 0, 1) := by decide +kernel
theorem dX9_restore_8 : decode cX9_restore 8 = .ok (.ldc 198, 2) := by decide +kernel
theorem dX9_restore_10 : decode cX9_restore 10 = .ok (.invokevirtual 79, 3) := by decide +kernel
theorem dX9_restore_13 : decode cX9_restore 13 = .ok (.ireturn, 1) := by decide +kernel
theorem dX9_restore_14 : decode cX9_restore 14 = .ok (.aload_n 0, 1) := by decide +kernel
theorem dX9_restore_15 : decode cX9_restore 15 = .ok (.getfield 13, 3) := by decide +kernel
theorem dX9_restore_18 : decode cX9_restore 18 = .ok (.aload_n 0, 1) := by decide +kernel
theorem dX9_restore_19 : decode cX9_restore 19 = .ok (.getfield 9, 3) := by decide +kernel
theorem dX9_restore_22 : decode cX9_restore 22 = .ok (.invokestatic 50, 3) := by decide +kernel
theorem dX9_restore_25 : decode cX9_restore 25 = .ok (.aload_n 0, 1) := by decide +kernel
theorem dX9_restore_26 : decode cX9_restore 26 = .ok (.getfield 9, 3) := by decide +kernel
theorem dX9_restore_29 : decode cX9_restore 29 = .ok (.iconst 0, 1) := by decide +kernel
theorem dX9_restore_30 : decode cX9_restore 30 = .ok (.iaload, 1) := by decide +kernel
theorem dX9_restore_31 : decode cX9_restore 31 = .ok (.ireturn, 1) := by decide +kernel
set_option maxRecDepth 20000 in
theorem ggX9_tell_X9_error : GoodIn wsX9_tell wsX9_error := goodIn_r _ [7, 8, 9, 10, 11, 12, 13, 14, 15, 16, 17, 18, 19, 20, 21, 22, 23, 24, 25, 26, 27, 28, 29, 30] (by decide +kernel) (by decide +kernel)
set_option maxRecDepth 20000 in
theorem gX9_tell_X9_error : GoodIn wsX9_tell (wsV RX9 79 RX9 yX9_error wsX9_error) := goodIn_app (goodIn_of _ (by decide +kernel)) ggX9_tell_X9_error
theorem dX9_tell_0 : decode cX9_tell 0 = .ok (.aload_n 0, 1) := by decide +kernel
theorem dX9_tell_1 : decode cX9_tell 1 = .ok (.getfield 9, 3) := by decide +kernel
theorem dX9_tell_4 : decode cX9_tell 4 = .ok (.iconst 5, 1) := by decide +kernel
theorem dX9_tell_5 : decode cX9_tell 5 = .ok (.iaload, 1) := by decide +kernel
theorem dX9_tell_6 : decode cX9_tell 6 = .ok (.bipush 24, 2) := by decide +kernel
theorem dX9_tell_8 : decode cX9_tell 8 = .ok (.if_icmp .ne 10, 3) := by decide +kernel
theorem dX9_tell_11 : decode cX9_tell 11 = .ok (.aload_n 0, 1) := by decide +kernel
theorem dX9_tell_12 : decode cX9_tell 12 = .ok (.ldc 82, 2) := by decide +kernel
theorem dX9_tell_14 : decode cX9_tell 14 = .ok (.invokevirtual 79, 3) := by decide +kernel
theorem dX9_tell_17 : decode cX9_tell 17 = .ok (.ireturn, 1) := by decide +kernel
theorem dX9_tell_18 : decode cX9_tell 18 = .ok (.aload_n 0, 1) := by decide +kernel
theorem dX9_tell_19 : decode cX9_tell 19 = .ok (.getfield 9, 3) := by decide +kernel
theorem dX9_tell_22 : decode cX9_tell 22 = .ok (.sipush 146, 3) := by decide +kernel
theorem dX9_tell_25 : decode cX9_tell 25 = .ok (.aload_n 0, 1) := by decide +kernel
theorem dX9_tell_26 : decode cX9_tell 26 = .ok (.getfield 9, 3) := by decide +kernel
theorem dX9_tell_29 : decode cX9_tell 29 = .ok (.iconst 5, 1) := by decide +kernel
theorem dX9_tell_30 : decode cX9_tell 30 = .ok (.iaload, 1) := by decide +kernel
theorem dX9_tell_31 : decode cX9_tell 31 = .ok (.iadd, 1) := by decide +kernel
theorem dX9_tell_32 : decode cX9_tell 32 = .ok (.iload_n 1, 1) := by decide +kernel
theorem dX9_tell_33 : decode cX9_tell 33 = .ok (.iastore, 1) := by decide +kernel
theorem dX9_tell_34 : decode cX9_tell 34 = .ok (.aload_n 0, 1) := by decide +kernel
theorem dX9_tell_35 : decode cX9_tell 35 = .ok (.getfield 9, 3) := by decide +kernel
theorem dX9_tell_38 : decode cX9_tell 38 = .ok (.iconst 5, 1) := by decide +kernel
theorem dX9_tell_39 : decode cX9_tell 39 = .ok (.dup2, 1) := by decide +kernel
theorem dX9_tell_40 : decode cX9_tell 40 = .ok (.iaload, 1) := by decide +kernel
theorem dX9_tell_41 : decode cX9_tell 41 = .ok (.iconst 1, 1) := by decide +kernel
theorem dX9_tell_42 : decode cX9_tell 42 = .ok (.iadd, 1) := by decide +kernel
theorem dX9_tell_43 : decode cX9_tell 43 = .ok (.iastore, 1) := by decide +kernel
theorem dX9_tell_44 : decode cX9_tell 44 = .ok (.aload_n 0, 1) := by decide +kernel
theorem dX9_tell_45 : decode cX9_tell 45 = .ok (.getfield 9, 3) := by decide +kernel
theorem dX9_tell_48 : decode cX9_tell 48 = .ok (.iconst 5, 1) := by decide +kernel
theorem dX9_tell_49 : decode cX9_tell 49 = .ok (.iaload, 1) := by decide +kernel
theorem dX9_tell_50 : decode cX9_tell 50 = .ok (.ireturn, 1) := by decide +kernel
set_option maxRecDepth 20000 in
theorem ggX9_check_X9_isPerson : GoodIn wsX9_check wsX9_isPerson := goodIn_r _ [6, 1, 7, 8, 5, 9, 14, 15, 16, 17, 18, 19, 20, 21, 22, 23, 24, 25, 26, 27, 28, 29, 30, 31, 32, 33, 34] (by decide +kernel) (by decide +kernel)
set_option maxRecDepth 20000 in
theorem gX9_check_X9_isPerson : GoodIn wsX9_check (wsV RX9 100 RX9 yX9_isPerson wsX9_isPerson) := goodIn_app (goodIn_of _ (by decide +kernel)) ggX9_check_X9_isPerson
set_option maxRecDepth 20000 in
theorem ggX9_check_X9_about : GoodIn wsX9_check wsX9_about := goodIn_r _ [13, 1, 14, 15, 16, 17, 18, 19, 20, 21, 22, 23, 24, 25, 26, 27, 28, 29, 30, 31, 32, 33, 34] (by decide +kernel) (by decide +kernel)
set_option maxRecDepth 20000 in
theorem gX9_check_X9_about : GoodIn wsX9_check (wsV RX9 97 RX9 yX9_about wsX9_about) := goodIn_app (goodIn_of _ (by decide +kernel)) ggX9_check_X9_about
theorem dX9_check_0 : decode cX9_check 0 = .ok (.aload_n 0, 1) := by decide +kernel
theorem dX9_check_1 : decode cX9_check 1 = .ok (.getfield 9, 3) := by decide +kernel
theorem dX9_check_4 : decode cX9_check 4 = .ok (.iconst 5, 1) := by decide +kernel
theorem dX9_check_5 : decode cX9_check 5 = .ok (.iaload, 1) := by decide +kernel
theorem dX9_check_6 : decode cX9_check 6 = .ok (.istore_n 1, 1) := by decide +kernel
theorem dX9_check_7 : decode cX9_check 7 = .ok (.aload_n 0, 1) := by decide +kernel
theorem dX9_check_8 : decode cX9_check 8 = .ok (.getfield 9, 3) := by decide +kernel
theorem dX9_check_11 : decode cX9_check 11 = .ok (.iconst 5, 1) := by decide +kernel
theorem dX9_check_12 : decode cX9_check 12 = .ok (.iconst 0, 1) := by decide +kernel
theorem dX9_check_13 : decode cX9_check 13 = .ok (.iastore, 1) := by decide +kernel
theorem dX9_check_14 : decode cX9_check 14 = .ok (.iconst 0, 1) := by decide +kernel
theorem dX9_check_15 : decode cX9_check 15 = .ok (.istore_n 2, 1) := by decide +kernel
theorem dX9_check_16 : decode cX9_check 16 = .ok (.iload_n 2, 1) := by decide +kernel
theorem dX9_check_17 : decode cX9_check 17 = .ok (.iload_n 1, 1) := by decide +kernel
theorem dX9_check_18 : decode cX9_check 18 = .ok (.if_icmp .ge 40, 3) := by decide +kernel
theorem dX9_check_21 : decode cX9_check 21 = .ok (.aload_n 0, 1) := by decide +kernel
theorem dX9_check_22 : decode cX9_check 22 = .ok (.iload_n 2, 1) := by decide +kernel
theorem dX9_check_23 : decode cX9_check 23 = .ok (.invokevirtual 100, 3) := by decide +kernel
theorem dX9_check_26 : decode cX9_check 26 = .ok (.ifCond .eq 22, 3) := by decide +kernel
theorem dX9_check_29 : decode cX9_check 29 = .ok (.aload_n 0, 1) := by decide +kernel
theorem dX9_check_30 : decode cX9_check 30 = .ok (.getfield 9, 3) := by decide +kernel
theorem dX9_check_33 : decode cX9_check 33 = .ok (.sipush 146, 3) := by decide +kernel
theorem dX9_check_36 : decode cX9_check 36 = .ok (.iload_n 2, 1) := by decide +kernel
theorem dX9_check_37 : decode cX9_check 37 = .ok (.iadd, 1) := by decide +kernel
theorem dX9_check_38 : decode cX9_check 38 = .ok (.iaload, 1) := by decide +kernel
theorem dX9_check_39 : decode cX9_check 39 = .ok (.aload_n 0, 1) := by decide +kernel
theorem dX9_check_40 : decode cX9_check 40 = .ok (.iload_n 2, 1) := by decide +kernel
theorem dX9_check_41 : decode cX9_check 41 = .ok (.iconst 1, 1) := by decide +kernel
theorem dX9_check_42 : decode cX9_check 42 = .ok (.invokevirtual 97, 3) := by decide +kernel
theorem dX9_check_45 : decode cX9_check 45 = .ok (.if_icmp .eq 7, 3) := by decide +kernel
theorem dX9_check_48 : decode cX9_check 48 = .ok (.iconst 1, 1) := by decide +kernel
theorem dX9_check_49 : decode cX9_check 49 = .ok (.iload_n 2, 1) := by decide +kernel
theorem dX9_check_50 : decode cX9_check 50 = .ok (.iadd, 1) := by decide +kernel
theorem dX9_check_51 : decode cX9_check 51 = .ok (.ireturn, 1) := by decide +kernel
theorem dX9_check_52 : decode cX9_check 52 = .ok (.iinc 2 1, 3) := by decide +kernel
theorem dX9_check_55 : decode cX9_check 55 = .ok (.goto (-39), 3) := by decide +kernel
theorem dX9_check_58 : decode cX9_check 58 = .ok (.iconst 0, 1) := by decide +kernel
theorem dX9_check_59 : decode cX9_check 59 = .ok (.ireturn, 1) := by decide +kernel
set_option maxRecDepth 20000 in
theorem ggX9_count_X9_error : GoodIn wsX9_count wsX9_error := goodIn_r _ [8, 9, 10, 11, 12, 13, 14, 15, 16, 17, 18, 19, 20, 21, 22, 23, 24, 25, 26, 27, 28, 29, 30, 31] (by decide +kernel) (by decide +kernel)
set_option maxRecDepth 20000 in
theorem gX9_count_X9_error : GoodIn wsX9_count (wsV RX9 79 RX9 yX9_error wsX9_error) := goodIn_app (goodIn_of _ (by decide +kernel)) ggX9_count_X9_error
theorem dX9_count_0 : decode cX9_count 0 = .ok (.iload_n 1, 1) := by decide +kernel
theorem dX9_count_1 : decode cX9_count 1 = .ok (.tableswitch 90 0 6 #[43, 50, 57, 64, 71, 78, 83], 43) := by decide +kernel
theorem dX9_count_44 : decode cX9_count 44 = .ok (.aload_n 0, 1) := by decide +kernel
theorem dX9_count_45 : decode cX9_count 45 = .ok (.getfield 9, 3) := by decide +kernel
theorem dX9_count_48 : decode cX9_count 48 = .ok (.iconst 2, 1) := by decide +kernel
theorem dX9_count_49 : decode cX9_count 49 = .ok (.iaload, 1) := by decide +kernel
theorem dX9_count_50 : decode cX9_count 50 = .ok (.ireturn, 1) := by decide +kernel
theorem dX9_count_51 : decode cX9_count 51 = .ok (.aload_n 0, 1) := by decide +kernel
theorem dX9_count_52 : decode cX9_count 52 = .ok (.getfield 9, 3) := by decide +kernel
theorem dX9_count_55 : decode cX9_count 55 = .ok (.iconst 3, 1) := by decide +kernel
theorem dX9_count_56 : decode cX9_count 56 = .ok (.iaload, 1) := by decide +kernel
theorem dX9_count_57 : decode cX9_count 57 = .ok (.ireturn, 1) := by decide +kernel
theorem dX9_count_58 : decode cX9_count 58 = .ok (.aload_n 0, 1) := by decide +kernel
theorem dX9_count_59 : decode cX9_count 59 = .ok (.getfield 9, 3) := by decide +kernel
theorem dX9_count_62 : decode cX9_count 62 = .ok (.iconst 0, 1) := by decide +kernel
theorem dX9_count_63 : decode cX9_count 63 = .ok (.iaload, 1) := by decide +kernel
theorem dX9_count_64 : decode cX9_count 64 = .ok (.ireturn, 1) := by decide +kernel
theorem dX9_count_65 : decode cX9_count 65 = .ok (.aload_n 0, 1) := by decide +kernel
theorem dX9_count_66 : decode cX9_count 66 = .ok (.getfield 9, 3) := by decide +kernel
theorem dX9_count_69 : decode cX9_count 69 = .ok (.iconst 4, 1) := by decide +kernel
theorem dX9_count_70 : decode cX9_count 70 = .ok (.iaload, 1) := by decide +kernel
theorem dX9_count_71 : decode cX9_count 71 = .ok (.ireturn, 1) := by decide +kernel
theorem dX9_count_72 : decode cX9_count 72 = .ok (.aload_n 0, 1) := by decide +kernel
theorem dX9_count_73 : decode cX9_count 73 = .ok (.getfield 9, 3) := by decide +kernel
theorem dX9_count_76 : decode cX9_count 76 = .ok (.iconst 5, 1) := by decide +kernel
theorem dX9_count_77 : decode cX9_count 77 = .ok (.iaload, 1) := by decide +kernel
theorem dX9_count_78 : decode cX9_count 78 = .ok (.ireturn, 1) := by decide +kernel
theorem dX9_count_79 : decode cX9_count 79 = .ok (.aload_n 0, 1) := by decide +kernel
theorem dX9_count_80 : decode cX9_count 80 = .ok (.getfield 226, 3) := by decide +kernel
theorem dX9_count_83 : decode cX9_count 83 = .ok (.ireturn, 1) := by decide +kernel
theorem dX9_count_84 : decode cX9_count 84 = .ok (.aload_n 0, 1) := by decide +kernel
theorem dX9_count_85 : decode cX9_count 85 = .ok (.getfield 9, 3) := by decide +kernel
theorem dX9_count_88 : decode cX9_count 88 = .ok (.iconst 1, 1) := by decide +kernel
theorem dX9_count_89 : decode cX9_count 89 = .ok (.iaload, 1) := by decide +kernel
theorem dX9_count_90 : decode cX9_count 90 = .ok (.ireturn, 1) := by decide +kernel
theorem dX9_count_91 : decode cX9_count 91 = .ok (.aload_n 0, 1) := by decide +kernel
theorem dX9_count_92 : decode cX9_count 92 = .ok (.ldc 78, 2) := by decide +kernel
theorem dX9_count_94 : decode cX9_count 94 = .ok (.invokevirtual 79, 3) := by decide +kernel
theorem dX9_count_97 : decode cX9_count 97 = .ok (.ireturn, 1) := by decide +kernel
set_option maxRecDepth 20000 in
theorem ggX9_told_X9_in : GoodIn wsX9_told wsX9_in := goodIn_r _ [6] (by decide +kernel) (by decide +kernel)
set_option maxRecDepth 20000 in
theorem gX9_told_X9_in : GoodIn wsX9_told (va_wsS RX9 54 yX9_in wsX9_in) := goodIn_app (goodIn_of _ (by decide +kernel)) ggX9_told_X9_in
set_option maxRecDepth 20000 in
theorem ggX9_told_X9_error : GoodIn wsX9_told wsX9_error := goodIn_r _ [10, 1, 11, 12, 13, 14, 15, 16, 17, 18, 19, 20, 21, 22, 23, 24, 25, 26, 27, 28, 29, 30, 31, 32] (by decide +kernel) (by decide +kernel)
set_option maxRecDepth 20000 in
theorem gX9_told_X9_error : GoodIn wsX9_told (wsV RX9 79 RX9 yX9_error wsX9_error) := goodIn_app (goodIn_of _ (by decide +kernel)) ggX9_told_X9_error
theorem dX9_told_0 : decode cX9_told 0 = .ok (.iload_n 1, 1) := by decide +kernel
theorem dX9_told_1 : decode cX9_told 1 = .ok (.iconst 1, 1) := by decide +kernel
theorem dX9_told_2 : decode cX9_told 2 = .ok (.bipush 6, 2) := by decide +kernel
theorem dX9_told_4 : decode cX9_told 4 = .ok (.invokestatic 54, 3) := by decide +kernel
theorem dX9_told_7 : decode cX9_told 7 = .ok (.ifCond .eq 12, 3) := by decide +kernel
theorem dX9_told_10 : decode cX9_told 10 = .ok (.aload_n 0, 1) := by decide +kernel
theorem dX9_told_11 : decode cX9_told 11 = .ok (.getfield 19, 3) := by decide +kernel
theorem dX9_told_14 : decode cX9_told 14 = .ok (.iload_n 1, 1) := by decide +kernel
theorem dX9_told_15 : decode cX9_told 15 = .ok (.iaload, 1) := by decide +kernel
theorem dX9_told_16 : decode cX9_told 16 = .ok (.goto 9, 3) := by decide +kernel
theorem dX9_told_19 : decode cX9_told 19 = .ok (.aload_n 0, 1) := by decide +kernel
theorem dX9_told_20 : decode cX9_told 20 = .ok (.ldc 78, 2) := by decide +kernel
theorem dX9_told_22 : decode cX9_told 22 = .ok (.invokevirtual 79, 3) := by decide +kernel
theorem dX9_told_25 : decode cX9_told 25 = .ok (.ireturn, 1) := by decide +kernel
theorem dJ11_isValidCodePoint_9a6ad_0 : decode cJ11_isValidCodePoint_9a6ad 0 = .ok (.iload_n 0, 1) := by decide +kernel
theorem dJ11_isValidCodePoint_9a6ad_1 : decode cJ11_isValidCodePoint_9a6ad 1 = .ok (.bipush 16, 2) := by decide +kernel
theorem dJ11_isValidCodePoint_9a6ad_3 : decode cJ11_isValidCodePoint_9a6ad 3 = .ok (.iushr, 1) := by decide +kernel
theorem dJ11_isValidCodePoint_9a6ad_4 : decode cJ11_isValidCodePoint_9a6ad 4 = .ok (.istore_n 1, 1) := by decide +kernel
theorem dJ11_isValidCodePoint_9a6ad_5 : decode cJ11_isValidCodePoint_9a6ad 5 = .ok (.iload_n 1, 1) := by decide +kernel
theorem dJ11_isValidCodePoint_9a6ad_6 : decode cJ11_isValidCodePoint_9a6ad 6 = .ok (.bipush 17, 2) := by decide +kernel
theorem dJ11_isValidCodePoint_9a6ad_8 : decode cJ11_isValidCodePoint_9a6ad 8 = .ok (.if_icmp .ge 7, 3) := by decide +kernel
theorem dJ11_isValidCodePoint_9a6ad_11 : decode cJ11_isValidCodePoint_9a6ad 11 = .ok (.iconst 1, 1) := by decide +kernel
theorem dJ11_isValidCodePoint_9a6ad_12 : decode cJ11_isValidCodePoint_9a6ad 12 = .ok (.goto 4, 3) := by decide +kernel
theorem dJ11_isValidCodePoint_9a6ad_15 : decode cJ11_isValidCodePoint_9a6ad 15 = .ok (.iconst 0, 1) := by decide +kernel
theorem dJ11_isValidCodePoint_9a6ad_16 : decode cJ11_isValidCodePoint_9a6ad 16 = .ok (.ireturn, 1) := by decide +kernel
theorem dJ11_highSurrogate_5068e_0 : decode cJ11_highSurrogate_5068e 0 = .ok (.iload_n 0, 1) := by decide +kernel
theorem dJ11_highSurrogate_5068e_1 : decode cJ11_highSurrogate_5068e 1 = .ok (.bipush 10, 2) := by decide +kernel
theorem dJ11_highSurrogate_5068e_3 : decode cJ11_highSurrogate_5068e 3 = .ok (.iushr, 1) := by decide +kernel
theorem dJ11_highSurrogate_5068e_4 : decode cJ11_highSurrogate_5068e 4 = .ok (.ldc 110, 2) := by decide +kernel
theorem dJ11_highSurrogate_5068e_6 : decode cJ11_highSurrogate_5068e 6 = .ok (.iadd, 1) := by decide +kernel
theorem dJ11_highSurrogate_5068e_7 : decode cJ11_highSurrogate_5068e 7 = .ok (.i2c, 1) := by decide +kernel
theorem dJ11_highSurrogate_5068e_8 : decode cJ11_highSurrogate_5068e 8 = .ok (.ireturn, 1) := by decide +kernel
theorem dJ11_lowSurrogate_5068e_0 : decode cJ11_lowSurrogate_5068e 0 = .ok (.iload_n 0, 1) := by decide +kernel
theorem dJ11_lowSurrogate_5068e_1 : decode cJ11_lowSurrogate_5068e 1 = .ok (.sipush 1023, 3) := by decide +kernel
theorem dJ11_lowSurrogate_5068e_4 : decode cJ11_lowSurrogate_5068e 4 = .ok (.iand, 1) := by decide +kernel
theorem dJ11_lowSurrogate_5068e_5 : decode cJ11_lowSurrogate_5068e 5 = .ok (.ldc 76, 2) := by decide +kernel
theorem dJ11_lowSurrogate_5068e_7 : decode cJ11_lowSurrogate_5068e 7 = .ok (.iadd, 1) := by decide +kernel
theorem dJ11_lowSurrogate_5068e_8 : decode cJ11_lowSurrogate_5068e 8 = .ok (.i2c, 1) := by decide +kernel
theorem dJ11_lowSurrogate_5068e_9 : decode cJ11_lowSurrogate_5068e 9 = .ok (.ireturn, 1) := by decide +kernel
theorem dJ9_max_7cf53_0 : decode cJ9_max_7cf53 0 = .ok (.iload_n 0, 1) := by decide +kernel
theorem dJ9_max_7cf53_1 : decode cJ9_max_7cf53 1 = .ok (.iload_n 1, 1) := by decide +kernel
theorem dJ9_max_7cf53_2 : decode cJ9_max_7cf53 2 = .ok (.if_icmp .lt 7, 3) := by decide +kernel
theorem dJ9_max_7cf53_5 : decode cJ9_max_7cf53 5 = .ok (.iload_n 0, 1) := by decide +kernel
theorem dJ9_max_7cf53_6 : decode cJ9_max_7cf53 6 = .ok (.goto 4, 3) := by decide +kernel
theorem dJ9_max_7cf53_9 : decode cJ9_max_7cf53 9 = .ok (.iload_n 1, 1) := by decide +kernel
theorem dJ9_max_7cf53_10 : decode cJ9_max_7cf53 10 = .ok (.ireturn, 1) := by decide +kernel
theorem dJ9_min_7cf53_0 : decode cJ9_min_7cf53 0 = .ok (.iload_n 0, 1) := by decide +kernel
theorem dJ9_min_7cf53_1 : decode cJ9_min_7cf53 1 = .ok (.iload_n 1, 1) := by decide +kernel
theorem dJ9_min_7cf53_2 : decode cJ9_min_7cf53 2 = .ok (.if_icmp .gt 7, 3) := by decide +kernel
theorem dJ9_min_7cf53_5 : decode cJ9_min_7cf53 5 = .ok (.iload_n 0, 1) := by decide +kernel
theorem dJ9_min_7cf53_6 : decode cJ9_min_7cf53 6 = .ok (.goto 4, 3) := by decide +kernel
theorem dJ9_min_7cf53_9 : decode cJ9_min_7cf53 9 = .ok (.iload_n 1, 1) := by decide +kernel
theorem dJ9_min_7cf53_10 : decode cJ9_min_7cf53 10 = .ok (.ireturn, 1) := by decide +kernel
set_option maxRecDepth 20000 in
theorem ggJ0_length_8abf5_J0_coder_7d493 : GoodIn wsJ0_length_8abf5 wsJ0_coder_7d493 := goodIn_r _ [6, 7, 8] (by decide +kernel) (by decide +kernel)
set_option maxRecDepth 20000 in
theorem gJ0_length_8abf5_J0_coder_7d493 : GoodIn wsJ0_length_8abf5 (wsV RJ0 335 RJ0 yJ0_coder_7d493 wsJ0_coder_7d493) := goodIn_app (goodIn_of _ (by decide +kernel)) ggJ0_length_8abf5_J0_coder_7d493
theorem dJ0_length_8abf5_0 : decode cJ0_length_8abf5 0 = .ok (.aload_n 0, 1) := by decide +kernel
theorem dJ0_length_8abf5_1 : decode cJ0_length_8abf5 1 = .ok (.getfield 9, 3) := by decide +kernel
theorem dJ0_length_8abf5_4 : decode cJ0_length_8abf5 4 = .ok (.arraylength, 1) := by decide +kernel
theorem dJ0_length_8abf5_5 : decode cJ0_length_8abf5 5 = .ok (.aload_n 0, 1) := by decide +kernel
theorem dJ0_length_8abf5_6 : decode cJ0_length_8abf5 6 = .ok (.invokevirtual 335, 3) := by decide +kernel
theorem dJ0_length_8abf5_9 : decode cJ0_length_8abf5 9 = .ok (.ishr, 1) := by decide +kernel
theorem dJ0_length_8abf5_10 : decode cJ0_length_8abf5 10 = .ok (.ireturn, 1) := by decide +kernel
set_option maxRecDepth 20000 in
theorem ggJ0_indexOf_0f7a4_J0_indexOf_7cf53 : GoodIn wsJ0_indexOf_0f7a4 wsJ0_indexOf_7cf53 := goodIn_r _ [5, 6, 7, 8, 9, 4, 10, 11, 12, 13, 14, 15, 16, 17, 18, 19, 20, 21, 22, 23, 24, 25, 26, 27, 28, 29, 30, 31, 32, 33, 34, 35, 36, 37, 38, 39, 40, 41, 42, 43, 44, 45, 46, 47, 48, 49, 50, 51, 52, 53, 54, 55, 56, 57, 58, 59, 60, 61, 62, 63, 64, 65, 66, 67, 68, 69, 70, 71, 72, 73, 74, 75, 76, 77, 78, 79, 80, 81, 82, 83, 84, 85] (by decide +kernel) (by decide +kernel)
set_option maxRecDepth 20000 in
theorem gJ0_indexOf_0f7a4_J0_indexOf_7cf53 : GoodIn wsJ0_indexOf_0f7a4 (wsV RJ0 633 RJ0 yJ0_indexOf_7cf53 wsJ0_indexOf_7cf53) := goodIn_app (goodIn_of _ (by decide +kernel)) ggJ0_indexOf_0f7a4_J0_indexOf_7cf53
theorem dJ0_indexOf_0f7a4_0 : decode cJ0_indexOf_0f7a4 0 = .ok (.aload_n 0, 1) := by decide +kernel
theorem dJ0_indexOf_0f7a4_1 : decode cJ0_indexOf_0f7a4 1 = .ok (.iload_n 1, 1) := by decide +kernel
theorem dJ0_indexOf_0f7a4_2 : decode cJ0_indexOf_0f7a4 2 = .ok (.iconst 0, 1) := by decide +kernel
theorem dJ0_indexOf_0f7a4_3 : decode cJ0_indexOf_0f7a4 3 = .ok (.invokevirtual 633, 3) := by decide +kernel
theorem dJ0_indexOf_0f7a4_6 : decode cJ0_indexOf_0f7a4 6 = .ok (.ireturn, 1) := by decide +kernel
set_option maxRecDepth 20000 in
theorem ggJ0_indexOf_7cf53_J0_isLatin1_aae02 : GoodIn wsJ0_indexOf_7cf53 wsJ0_isLatin1_aae02 := goodIn_r _ [6, 7, 8] (by decide +kernel) (by decide +kernel)
set_option maxRecDepth 20000 in
theorem gJ0_indexOf_7cf53_J0_isLatin1_aae02 : GoodIn wsJ0_indexOf_7cf53 (wsV RJ0 492 RJ0 yJ0_isLatin1_aae02 wsJ0_isLatin1_aae02) := goodIn_app (goodIn_of _ (by decide +kernel)) ggJ0_indexOf_7cf53_J0_isLatin1_aae02
set_option maxRecDepth 20000 in
theorem ggJ0_indexOf_7cf53_J0_length_8abf5 : GoodIn wsJ0_indexOf_7cf53 wsJ0_length_8abf5 := goodIn_r _ [12, 1, 13, 14, 15, 5, 16, 7, 8] (by decide +kernel) (by decide +kernel)
set_option maxRecDepth 20000 in
theorem gJ0_indexOf_7cf53_J0_length_8abf5 : GoodIn wsJ0_indexOf_7cf53 (wsV RJ0 505 RJ0 yJ0_length_8abf5 wsJ0_length_8abf5) := goodIn_app (goodIn_of _ (by decide +kernel)) ggJ0_indexOf_7cf53_J0_length_8abf5
set_option maxRecDepth 20000 in
theorem ggJ0_indexOf_7cf53_J1_indexOf_4cfef : GoodIn wsJ0_indexOf_7cf53 wsJ1_indexOf_4cfef := goodIn_r _ [20, 21, 22, 23, 24, 25, 26, 27, 28, 29, 19, 30, 31, 32, 33] (by decide +kernel) (by decide +kernel)
set_option maxRecDepth 20000 in
theorem gJ0_indexOf_7cf53_J1_indexOf_4cfef : GoodIn wsJ0_indexOf_7cf53 (va_wsS RJ0 637 yJ1_indexOf_4cfef wsJ1_indexOf_4cfef) := goodIn_app (goodIn_of _ (by decide +kernel)) ggJ0_indexOf_7cf53_J1_indexOf_4cfef
set_option maxRecDepth 20000 in
theorem ggJ0_indexOf_7cf53_J2_indexOf_4cfef : GoodIn wsJ0_indexOf_7cf53 wsJ2_indexOf_4cfef := goodIn_r _ [37, 38, 22, 23, 24, 39, 26, 27, 40, 41, 42, 36, 43, 44, 45, 46, 47, 48, 49, 50, 51, 5, 52, 53, 54, 55, 56, 57, 58, 59, 60, 61, 62, 63, 64, 65, 66, 67, 68, 69, 70, 71, 72, 73, 74, 75, 76, 77, 78, 79, 80, 81] (by decide +kernel) (by decide +kernel)
set_option maxRecDepth 20000 in
theorem gJ0_indexOf_7cf53_J2_indexOf_4cfef : GoodIn wsJ0_indexOf_7cf53 (va_wsS RJ0 640 yJ2_indexOf_4cfef wsJ2_indexOf_4cfef) := goodIn_app (goodIn_of _ (by decide +kernel)) ggJ0_indexOf_7cf53_J2_indexOf_4cfef
theorem dJ0_indexOf_7cf53_0 : decode cJ0_indexOf_7cf53 0 = .ok (.aload_n 0, 1) := by decide +kernel
theorem dJ0_indexOf_7cf53_1 : decode cJ0_indexOf_7cf53 1 = .ok (.invokevirtual 492, 3) := by decide +kernel
theorem dJ0_indexOf_7cf53_4 : decode cJ0_indexOf_7cf53 4 = .ok (.ifCond .eq 19, 3) := by decide +kernel
theorem dJ0_indexOf_7cf53_7 : decode cJ0_indexOf_7cf53 7 = .ok (.aload_n 0, 1) := by decide +kernel
theorem dJ0_indexOf_7cf53_8 : decode cJ0_indexOf_7cf53 8 = .ok (.getfield 9, 3) := by decide +kernel
theorem dJ0_indexOf_7cf53_11 : decode cJ0_indexOf_7cf53 11 = .ok (.iload_n 1, 1) := by decide +kernel
theorem dJ0_indexOf_7cf53_12 : decode cJ0_indexOf_7cf53 12 = .ok (.iload_n 2, 1) := by decide +kernel
theorem dJ0_indexOf_7cf53_13 : decode cJ0_indexOf_7cf53 13 = .ok (.aload_n 0, 1) := by decide +kernel
theorem dJ0_indexOf_7cf53_14 : decode cJ0_indexOf_7cf53 14 = .ok (.invokevirtual 505, 3) := by decide +kernel
theorem dJ0_indexOf_7cf53_17 : decode cJ0_indexOf_7cf53 17 = .ok (.invokestatic 637, 3) := by decide +kernel
theorem dJ0_indexOf_7cf53_20 : decode cJ0_indexOf_7cf53 20 = .ok (.goto 16, 3) := by decide +kernel
theorem dJ0_indexOf_7cf53_23 : decode cJ0_indexOf_7cf53 23 = .ok (.aload_n 0, 1) := by decide +kernel
theorem dJ0_indexOf_7cf53_24 : decode cJ0_indexOf_7cf53 24 = .ok (.getfield 9, 3) := by decide +kernel
theorem dJ0_indexOf_7cf53_27 : decode cJ0_indexOf_7cf53 27 = .ok (.iload_n 1, 1) := by decide +kernel
theorem dJ0_indexOf_7cf53_28 : decode cJ0_indexOf_7cf53 28 = .ok (.iload_n 2, 1) := by decide +kernel
theorem dJ0_indexOf_7cf53_29 : decode cJ0_indexOf_7cf53 29 = .ok (.aload_n 0, 1) := by decide +kernel
theorem dJ0_indexOf_7cf53_30 : decode cJ0_indexOf_7cf53 30 = .ok (.invokevirtual 505, 3) := by decide +kernel
theorem dJ0_indexOf_7cf53_33 : decode cJ0_indexOf_7cf53 33 = .ok (.invokestatic 640, 3) := by decide +kernel
theorem dJ0_indexOf_7cf53_36 : decode cJ0_indexOf_7cf53 36 = .ok (.ireturn, 1) := by decide +kernel
theorem dJ0_coder_7d493_0 : decode cJ0_coder_7d493 0 = .ok (.getstatic 38, 3) := by decide +kernel
theorem dJ0_coder_7d493_3 : decode cJ0_coder_7d493 3 = .ok (.ifCond .eq 10, 3) := by decide +kernel
theorem dJ0_coder_7d493_6 : decode cJ0_coder_7d493 6 = .ok (.aload_n 0, 1) := by decide +kernel
theorem dJ0_coder_7d493_7 : decode cJ0_coder_7d493 7 = .ok (.getfield 15, 3) := by decide +kernel
theorem dJ0_coder_7d493_10 : decode cJ0_coder_7d493 10 = .ok (.goto 4, 3) := by decide +kernel
theorem dJ0_coder_7d493_13 : decode cJ0_coder_7d493 13 = .ok (.iconst 1, 1) := by decide +kernel
theorem dJ0_coder_7d493_14 : decode cJ0_coder_7d493 14 = .ok (.ireturn, 1) := by decide +kernel
theorem dJ0_isLatin1_aae02_0 : decode cJ0_isLatin1_aae02 0 = .ok (.getstatic 38, 3) := by decide +kernel
theorem dJ0_isLatin1_aae02_3 : decode cJ0_isLatin1_aae02 3 = .ok (.ifCond .eq 14, 3) := by decide +kernel
theorem dJ0_isLatin1_aae02_6 : decode cJ0_isLatin1_aae02 6 = .ok (.aload_n 0, 1) := by decide +kernel
theorem dJ0_isLatin1_aae02_7 : decode cJ0_isLatin1_aae02 7 = .ok (.getfield 15, 3) := by decide +kernel
theorem dJ0_isLatin1_aae02_10 : decode cJ0_isLatin1_aae02 10 = .ok (.ifCond .ne 7, 3) := by decide +kernel
theorem dJ0_isLatin1_aae02_13 : decode cJ0_isLatin1_aae02 13 = .ok (.iconst 1, 1) := by decide +kernel
theorem dJ0_isLatin1_aae02_14 : decode cJ0_isLatin1_aae02 14 = .ok (.goto 4, 3) := by decide +kernel
theorem dJ0_isLatin1_aae02_17 : decode cJ0_isLatin1_aae02 17 = .ok (.iconst 0, 1) := by decide +kernel
theorem dJ0_isLatin1_aae02_18 : decode cJ0_isLatin1_aae02 18 = .ok (.ireturn, 1) := by decide +kernel
set_option maxRecDepth 20000 in
theorem ggJ0_checkBoundsBeginEnd_23922_J3_checkFromToIndex_8c36e : GoodIn wsJ0_checkBoundsBeginEnd_23922 wsJ3_checkFromToIndex_8c36e := goodIn_r _ [5] (by decide +kernel) (by decide +kernel)
set_option maxRecDepth 20000 in
theorem gJ0_checkBoundsBeginEnd_23922_J3_checkFromToIndex_8c36e : GoodIn wsJ0_checkBoundsBeginEnd_23922 (va_wsS RJ0 1062 yJ3_checkFromToIndex_8c36e wsJ3_checkFromToIndex_8c36e) := goodIn_app (goodIn_of _ (by decide +kernel)) ggJ0_checkBoundsBeginEnd_23922_J3_checkFromToIndex_8c36e
theorem dJ0_checkBoundsBeginEnd_23922_0 : decode cJ0_checkBoundsBeginEnd_23922 0 = .ok (.iload_n 0, 1) := by decide +kernel
theorem dJ0_checkBoundsBeginEnd_23922_1 : decode cJ0_checkBoundsBeginEnd_23922 1 = .ok (.iload_n 1, 1) := by decide +kernel
theorem dJ0_checkBoundsBeginEnd_23922_2 : decode cJ0_checkBoundsBeginEnd_23922 2 = .ok (.iload_n 2, 1) := by decide +kernel
theorem dJ0_checkBoundsBeginEnd_23922_3 : decode cJ0_checkBoundsBeginEnd_23922 3 = .ok (.getstatic 1053, 3) := by decide +kernel
theorem dJ0_checkBoundsBeginEnd_23922_6 : decode cJ0_checkBoundsBeginEnd_23922 6 = .ok (.invokestatic 1062, 3) := by decide +kernel
theorem dJ0_checkBoundsBeginEnd_23922_9 : decode cJ0_checkBoundsBeginEnd_23922 9 = .ok (.pop, 1) := by decide +kernel
theorem dJ0_checkBoundsBeginEnd_23922_10 : decode cJ0_checkBoundsBeginEnd_23922 10 = .ok (.return_, 1) := by decide +kernel
theorem dJ1_canEncode_9a6ad_0 : decode cJ1_canEncode_9a6ad 0 = .ok (.iload_n 0, 1) := by decide +kernel
theorem dJ1_canEncode_9a6ad_1 : decode cJ1_canEncode_9a6ad 1 = .ok (.ifCond .lt 14, 3) := by decide +kernel
theorem dJ1_canEncode_9a6ad_4 : decode cJ1_canEncode_9a6ad 4 = .ok (.iload_n 0, 1) := by decide +kernel
theorem dJ1_canEncode_9a6ad_5 : decode cJ1_canEncode_9a6ad 5 = .ok (.sipush 255, 3) := by decide +kernel
theorem dJ1_canEncode_9a6ad_8 : decode cJ1_canEncode_9a6ad 8 = .ok (.if_icmp .gt 7, 3) := by decide +kernel
theorem dJ1_canEncode_9a6ad_11 : decode cJ1_canEncode_9a6ad 11 = .ok (.iconst 1, 1) := by decide +kernel
theorem dJ1_canEncode_9a6ad_12 : decode cJ1_canEncode_9a6ad 12 = .ok (.goto 4, 3) := by decide +kernel
theorem dJ1_canEncode_9a6ad_15 : decode cJ1_canEncode_9a6ad 15 = .ok (.iconst 0, 1) := by decide +kernel
theorem dJ1_canEncode_9a6ad_16 : decode cJ1_canEncode_9a6ad 16 = .ok (.ireturn, 1) := by decide +kernel
set_option maxRecDepth 20000 in
theorem ggJ1_indexOf_4cfef_J1_canEncode_9a6ad : GoodIn wsJ1_indexOf_4cfef wsJ1_canEncode_9a6ad := goodIn_r _ [11] (by decide +kernel) (by decide +kernel)
set_option maxRecDepth 20000 in
theorem gJ1_indexOf_4cfef_J1_canEncode_9a6ad : GoodIn wsJ1_indexOf_4cfef (va_wsS RJ1 88 yJ1_canEncode_9a6ad wsJ1_canEncode_9a6ad) := goodIn_app (goodIn_of _ (by decide +kernel)) ggJ1_indexOf_4cfef_J1_canEncode_9a6ad
set_option maxRecDepth 20000 in
theorem ggJ1_indexOf_4cfef_J1_indexOfChar_4cfef : GoodIn wsJ1_indexOf_4cfef wsJ1_indexOfChar_4cfef := goodIn_r _ [14] (by decide +kernel) (by decide +kernel)
set_option maxRecDepth 20000 in
theorem gJ1_indexOf_4cfef_J1_indexOfChar_4cfef : GoodIn wsJ1_indexOf_4cfef (va_wsS RJ1 95 yJ1_indexOfChar_4cfef wsJ1_indexOfChar_4cfef) := goodIn_app (goodIn_of _ (by decide +kernel)) ggJ1_indexOf_4cfef_J1_indexOfChar_4cfef
theorem dJ1_indexOf_4cfef_0 : decode cJ1_indexOf_4cfef 0 = .ok (.iload_n 1, 1) := by decide +kernel
theorem dJ1_indexOf_4cfef_1 : decode cJ1_indexOf_4cfef 1 = .ok (.invokestatic 88, 3) := by decide +kernel
theorem dJ1_indexOf_4cfef_4 : decode cJ1_indexOf_4cfef 4 = .ok (.ifCond .ne 5, 3) := by decide +kernel
theorem dJ1_indexOf_4cfef_7 : decode cJ1_indexOf_4cfef 7 = .ok (.iconst (-1), 1) := by decide +kernel
theorem dJ1_indexOf_4cfef_8 : decode cJ1_indexOf_4cfef 8 = .ok (.ireturn, 1) := by decide +kernel
theorem dJ1_indexOf_4cfef_9 : decode cJ1_indexOf_4cfef 9 = .ok (.iload_n 2, 1) := by decide +kernel
theorem dJ1_indexOf_4cfef_10 : decode cJ1_indexOf_4cfef 10 = .ok (.iconst 0, 1) := by decide +kernel
theorem dJ1_indexOf_4cfef_11 : decode cJ1_indexOf_4cfef 11 = .ok (.invokestatic 92, 3) := by decide +kernel
theorem dJ1_indexOf_4cfef_14 : decode cJ1_indexOf_4cfef 14 = .ok (.istore_n 2, 1) := by decide +kernel
theorem dJ1_indexOf_4cfef_15 : decode cJ1_indexOf_4cfef 15 = .ok (.iload_n 3, 1) := by decide +kernel
theorem dJ1_indexOf_4cfef_16 : decode cJ1_indexOf_4cfef 16 = .ok (.aload_n 0, 1) := by decide +kernel
theorem dJ1_indexOf_4cfef_17 : decode cJ1_indexOf_4cfef 17 = .ok (.arraylength, 1) := by decide +kernel
theorem dJ1_indexOf_4cfef_18 : decode cJ1_indexOf_4cfef 18 = .ok (.invokestatic 38, 3) := by decide +kernel
theorem dJ1_indexOf_4cfef_21 : decode cJ1_indexOf_4cfef 21 = .ok (.istore_n 3, 1) := by decide +kernel
theorem dJ1_indexOf_4cfef_22 : decode cJ1_indexOf_4cfef 22 = .ok (.iload_n 2, 1) := by decide +kernel
theorem dJ1_indexOf_4cfef_23 : decode cJ1_indexOf_4cfef 23 = .ok (.iload_n 3, 1) := by decide +kernel
theorem dJ1_indexOf_4cfef_24 : decode cJ1_indexOf_4cfef 24 = .ok (.if_icmp .lt 5, 3) := by decide +kernel
theorem dJ1_indexOf_4cfef_27 : decode cJ1_indexOf_4cfef 27 = .ok (.iconst (-1), 1) := by decide +kernel
theorem dJ1_indexOf_4cfef_28 : decode cJ1_indexOf_4cfef 28 = .ok (.ireturn, 1) := by decide +kernel
theorem dJ1_indexOf_4cfef_29 : decode cJ1_indexOf_4cfef 29 = .ok (.aload_n 0, 1) := by decide +kernel
theorem dJ1_indexOf_4cfef_30 : decode cJ1_indexOf_4cfef 30 = .ok (.iload_n 1, 1) := by decide +kernel
theorem dJ1_indexOf_4cfef_31 : decode cJ1_indexOf_4cfef 31 = .ok (.iload_n 2, 1) := by decide +kernel
theorem dJ1_indexOf_4cfef_32 : decode cJ1_indexOf_4cfef 32 = .ok (.iload_n 3, 1) := by decide +kernel
theorem dJ1_indexOf_4cfef_33 : decode cJ1_indexOf_4cfef 33 = .ok (.invokestatic 95, 3) := by decide +kernel
theorem dJ1_indexOf_4cfef_36 : decode cJ1_indexOf_4cfef 36 = .ok (.ireturn, 1) := by decide +kernel
theorem dJ1_indexOfChar_4cfef_0 : decode cJ1_indexOfChar_4cfef 0 = .ok (.iload_n 1, 1) := by decide +kernel
theorem dJ1_indexOfChar_4cfef_1 : decode cJ1_indexOfChar_4cfef 1 = .ok (.i2b, 1) := by decide +kernel
theorem dJ1_indexOfChar_4cfef_2 : decode cJ1_indexOfChar_4cfef 2 = .ok (.istore 4, 2) := by decide +kernel
theorem dJ1_indexOfChar_4cfef_4 : decode cJ1_indexOfChar_4cfef 4 = .ok (.iload_n 2, 1) := by decide +kernel
theorem dJ1_indexOfChar_4cfef_5 : decode cJ1_indexOfChar_4cfef 5 = .ok (.istore 5, 2) := by decide +kernel
theorem dJ1_indexOfChar_4cfef_7 : decode cJ1_indexOfChar_4cfef 7 = .ok (.iload 5, 2) := by decide +kernel
theorem dJ1_indexOfChar_4cfef_9 : decode cJ1_indexOfChar_4cfef 9 = .ok (.iload_n 3, 1) := by decide +kernel
theorem dJ1_indexOfChar_4cfef_10 : decode cJ1_indexOfChar_4cfef 10 = .ok (.if_icmp .ge 21, 3) := by decide +kernel
theorem dJ1_indexOfChar_4cfef_13 : decode cJ1_indexOfChar_4cfef 13 = .ok (.aload_n 0, 1) := by decide +kernel
theorem dJ1_indexOfChar_4cfef_14 : decode cJ1_indexOfChar_4cfef 14 = .ok (.iload 5, 2) := by decide +kernel
theorem dJ1_indexOfChar_4cfef_16 : decode cJ1_indexOfChar_4cfef 16 = .ok (.baload, 1) := by decide +kernel
theorem dJ1_indexOfChar_4cfef_17 : decode cJ1_indexOfChar_4cfef 17 = .ok (.iload 4, 2) := by decide +kernel
theorem dJ1_indexOfChar_4cfef_19 : decode cJ1_indexOfChar_4cfef 19 = .ok (.if_icmp .ne 6, 3) := by decide +kernel
theorem dJ1_indexOfChar_4cfef_22 : decode cJ1_indexOfChar_4cfef 22 = .ok (.iload 5, 2) := by decide +kernel
theorem dJ1_indexOfChar_4cfef_24 : decode cJ1_indexOfChar_4cfef 24 = .ok (.ireturn, 1) := by decide +kernel
theorem dJ1_indexOfChar_4cfef_25 : decode cJ1_indexOfChar_4cfef 25 = .ok (.iinc 5 1, 3) := by decide +kernel
theorem dJ1_indexOfChar_4cfef_28 : decode cJ1_indexOfChar_4cfef 28 = .ok (.goto (-21), 3) := by decide +kernel
theorem dJ1_indexOfChar_4cfef_31 : decode cJ1_indexOfChar_4cfef 31 = .ok (.iconst (-1), 1) := by decide +kernel
theorem dJ1_indexOfChar_4cfef_32 : decode cJ1_indexOfChar_4cfef 32 = .ok (.ireturn, 1) := by decide +kernel
set_option maxRecDepth 20000 in
theorem ggJ2_getChar_3b067_J2_length_9d52b : GoodIn wsJ2_getChar_3b067 wsJ2_length_9d52b := goodIn_r _ [7] (by decide +kernel) (by decide +kernel)
set_option maxRecDepth 20000 in
theorem gJ2_getChar_3b067_J2_length_9d52b : GoodIn wsJ2_getChar_3b067 (va_wsS RJ2 48 yJ2_length_9d52b wsJ2_length_9d52b) := goodIn_app (goodIn_of _ (by decide +kernel)) ggJ2_getChar_3b067_J2_length_9d52b
theorem dJ2_getChar_3b067_0 : decode cJ2_getChar_3b067 0 = .ok (.getstatic 44, 3) := by decide +kernel
theorem dJ2_getChar_3b067_3 : decode cJ2_getChar_3b067 3 = .ok (.ifCond .ne 25, 3) := by decide +kernel
theorem dJ2_getChar_3b067_6 : decode cJ2_getChar_3b067 6 = .ok (.iload_n 1, 1) := by decide +kernel
theorem dJ2_getChar_3b067_7 : decode cJ2_getChar_3b067 7 = .ok (.ifCond .lt 11, 3) := by decide +kernel
theorem dJ2_getChar_3b067_10 : decode cJ2_getChar_3b067 10 = .ok (.iload_n 1, 1) := by decide +kernel
theorem dJ2_getChar_3b067_11 : decode cJ2_getChar_3b067 11 = .ok (.aload_n 0, 1) := by decide +kernel
theorem dJ2_getChar_3b067_12 : decode cJ2_getChar_3b067 12 = .ok (.invokestatic 48, 3) := by decide +kernel
theorem dJ2_getChar_3b067_15 : decode cJ2_getChar_3b067 15 = .ok (.if_icmp .lt 13, 3) := by decide +kernel
theorem dJ2_getChar_3b067_18 : decode cJ2_getChar_3b067 18 = .ok (.new 52, 3) := by decide +kernel
theorem dJ2_getChar_3b067_21 : decode cJ2_getChar_3b067 21 = .ok (.dup, 1) := by decide +kernel
theorem dJ2_getChar_3b067_22 : decode cJ2_getChar_3b067 22 = .ok (.ldc 54, 2) := by decide +kernel
theorem dJ2_getChar_3b067_24 : decode cJ2_getChar_3b067 24 = .ok (.invokespecial 56, 3) := by decide +kernel
theorem dJ2_getChar_3b067_27 : decode cJ2_getChar_3b067 27 = .ok (.athrow, 1) := by decide +kernel
theorem dJ2_getChar_3b067_28 : decode cJ2_getChar_3b067 28 = .ok (.iload_n 1, 1) := by decide +kernel
theorem dJ2_getChar_3b067_29 : decode cJ2_getChar_3b067 29 = .ok (.iconst 1, 1) := by decide +kernel
theorem dJ2_getChar_3b067_30 : decode cJ2_getChar_3b067 30 = .ok (.ishl, 1) := by decide +kernel
theorem dJ2_getChar_3b067_31 : decode cJ2_getChar_3b067 31 = .ok (.istore_n 1, 1) := by decide +kernel
theorem dJ2_getChar_3b067_32 : decode cJ2_getChar_3b067 32 = .ok (.aload_n 0, 1) := by decide +kernel
theorem dJ2_getChar_3b067_33 : decode cJ2_getChar_3b067 33 = .ok (.iload_n 1, 1) := by decide +kernel
theorem dJ2_getChar_3b067_34 : decode cJ2_getChar_3b067 34 = .ok (.iinc 1 1, 3) := by decide +kernel
theorem dJ2_getChar_3b067_37 : decode cJ2_getChar_3b067 37 = .ok (.baload, 1) := by decide +kernel
theorem dJ2_getChar_3b067_38 : decode cJ2_getChar_3b067 38 = .ok (.sipush 255, 3) := by decide +kernel
theorem dJ2_getChar_3b067_41 : decode cJ2_getChar_3b067 41 = .ok (.iand, 1) := by decide +kernel
theorem dJ2_getChar_3b067_42 : decode cJ2_getChar_3b067 42 = .ok (.getstatic 59, 3) := by decide +kernel
theorem dJ2_getChar_3b067_45 : decode cJ2_getChar_3b067 45 = .ok (.ishl, 1) := by decide +kernel
theorem dJ2_getChar_3b067_46 : decode cJ2_getChar_3b067 46 = .ok (.aload_n 0, 1) := by decide +kernel
theorem dJ2_getChar_3b067_47 : decode cJ2_getChar_3b067 47 = .ok (.iload_n 1, 1) := by decide +kernel
theorem dJ2_getChar_3b067_48 : decode cJ2_getChar_3b067 48 = .ok (.baload, 1) := by decide +kernel
theorem dJ2_getChar_3b067_49 : decode cJ2_getChar_3b067 49 = .ok (.sipush 255, 3) := by decide +kernel
theorem dJ2_getChar_3b067_52 : decode cJ2_getChar_3b067 52 = .ok (.iand, 1) := by decide +kernel
theorem dJ2_getChar_3b067_53 : decode cJ2_getChar_3b067 53 = .ok (.getstatic 63, 3) := by decide +kernel
theorem dJ2_getChar_3b067_56 : decode cJ2_getChar_3b067 56 = .ok (.ishl, 1) := by decide +kernel
theorem dJ2_getChar_3b067_57 : decode cJ2_getChar_3b067 57 = .ok (.ior, 1) := by decide +kernel
theorem dJ2_getChar_3b067_58 : decode cJ2_getChar_3b067 58 = .ok (.i2c, 1) := by decide +kernel
theorem dJ2_getChar_3b067_59 : decode cJ2_getChar_3b067 59 = .ok (.ireturn, 1) := by decide +kernel
theorem dJ2_length_9d52b_0 : decode cJ2_length_9d52b 0 = .ok (.aload_n 0, 1) := by decide +kernel
theorem dJ2_length_9d52b_1 : decode cJ2_length_9d52b 1 = .ok (.arraylength, 1) := by decide +kernel
theorem dJ2_length_9d52b_2 : decode cJ2_length_9d52b 2 = .ok (.iconst 1, 1) := by decide +kernel
theorem dJ2_length_9d52b_3 : decode cJ2_length_9d52b 3 = .ok (.ishr, 1) := by decide +kernel
theorem dJ2_length_9d52b_4 : decode cJ2_length_9d52b 4 = .ok (.ireturn, 1) := by decide +kernel
set_option maxRecDepth 20000 in
theorem ggJ2_indexOf_4cfef_J2_indexOfChar_4cfef : GoodIn wsJ2_indexOf_4cfef wsJ2_indexOfChar_4cfef := goodIn_r _ [12, 13, 14, 11, 15, 16, 17, 18, 19, 20, 21, 22, 23, 24, 25, 26, 27, 28, 29, 30, 31, 32, 33, 34, 35, 36] (by decide +kernel) (by decide +kernel)
set_option maxRecDepth 20000 in
theorem gJ2_indexOf_4cfef_J2_indexOfChar_4cfef : GoodIn wsJ2_indexOf_4cfef (va_wsS RJ2 228 yJ2_indexOfChar_4cfef wsJ2_indexOfChar_4cfef) := goodIn_app (goodIn_of _ (by decide +kernel)) ggJ2_indexOf_4cfef_J2_indexOfChar_4cfef
set_option maxRecDepth 20000 in
theorem ggJ2_indexOf_4cfef_J2_indexOfSupplementary_4cfef : GoodIn wsJ2_indexOf_4cfef wsJ2_indexOfSupplementary_4cfef := goodIn_r _ [39, 40, 41, 42, 43, 44, 45, 46, 47, 48, 49, 50, 51, 13, 14, 11, 15, 16, 17, 18, 19, 20, 21, 22, 23, 24, 25, 26, 27, 31, 32, 33, 34, 35, 36] (by decide +kernel) (by decide +kernel)
set_option maxRecDepth 20000 in
theorem gJ2_indexOf_4cfef_J2_indexOfSupplementary_4cfef : GoodIn wsJ2_indexOf_4cfef (va_wsS RJ2 232 yJ2_indexOfSupplementary_4cfef wsJ2_indexOfSupplementary_4cfef) := goodIn_app (goodIn_of _ (by decide +kernel)) ggJ2_indexOf_4cfef_J2_indexOfSupplementary_4cfef
theorem dJ2_indexOf_4cfef_0 : decode cJ2_indexOf_4cfef 0 = .ok (.iload_n 2, 1) := by decide +kernel
theorem dJ2_indexOf_4cfef_1 : decode cJ2_indexOf_4cfef 1 = .ok (.iconst 0, 1) := by decide +kernel
theorem dJ2_indexOf_4cfef_2 : decode cJ2_indexOf_4cfef 2 = .ok (.invokestatic 224, 3) := by decide +kernel
theorem dJ2_indexOf_4cfef_5 : decode cJ2_indexOf_4cfef 5 = .ok (.istore_n 2, 1) := by decide +kernel
theorem dJ2_indexOf_4cfef_6 : decode cJ2_indexOf_4cfef 6 = .ok (.iload_n 3, 1) := by decide +kernel
theorem dJ2_indexOf_4cfef_7 : decode cJ2_indexOf_4cfef 7 = .ok (.aload_n 0, 1) := by decide +kernel
theorem dJ2_indexOf_4cfef_8 : decode cJ2_indexOf_4cfef 8 = .ok (.arraylength, 1) := by decide +kernel
theorem dJ2_indexOf_4cfef_9 : decode cJ2_indexOf_4cfef 9 = .ok (.iconst 1, 1) := by decide +kernel
theorem dJ2_indexOf_4cfef_10 : decode cJ2_indexOf_4cfef 10 = .ok (.ishr, 1) := by decide +kernel
theorem dJ2_indexOf_4cfef_11 : decode cJ2_indexOf_4cfef 11 = .ok (.invokestatic 183, 3) := by decide +kernel
theorem dJ2_indexOf_4cfef_14 : decode cJ2_indexOf_4cfef 14 = .ok (.istore_n 3, 1) := by decide +kernel
theorem dJ2_indexOf_4cfef_15 : decode cJ2_indexOf_4cfef 15 = .ok (.iload_n 2, 1) := by decide +kernel
theorem dJ2_indexOf_4cfef_16 : decode cJ2_indexOf_4cfef 16 = .ok (.iload_n 3, 1) := by decide +kernel
theorem dJ2_indexOf_4cfef_17 : decode cJ2_indexOf_4cfef 17 = .ok (.if_icmp .lt 5, 3) := by decide +kernel
theorem dJ2_indexOf_4cfef_20 : decode cJ2_indexOf_4cfef 20 = .ok (.iconst (-1), 1) := by decide +kernel
theorem dJ2_indexOf_4cfef_21 : decode cJ2_indexOf_4cfef 21 = .ok (.ireturn, 1) := by decide +kernel
theorem dJ2_indexOf_4cfef_22 : decode cJ2_indexOf_4cfef 22 = .ok (.iload_n 1, 1) := by decide +kernel
theorem dJ2_indexOf_4cfef_23 : decode cJ2_indexOf_4cfef 23 = .ok (.ldc 227, 2) := by decide +kernel
theorem dJ2_indexOf_4cfef_25 : decode cJ2_indexOf_4cfef 25 = .ok (.if_icmp .ge 11, 3) := by decide +kernel
theorem dJ2_indexOf_4cfef_28 : decode cJ2_indexOf_4cfef 28 = .ok (.aload_n 0, 1) := by decide +kernel
theorem dJ2_indexOf_4cfef_29 : decode cJ2_indexOf_4cfef 29 = .ok (.iload_n 1, 1) := by decide +kernel
theorem dJ2_indexOf_4cfef_30 : decode cJ2_indexOf_4cfef 30 = .ok (.iload_n 2, 1) := by decide +kernel
theorem dJ2_indexOf_4cfef_31 : decode cJ2_indexOf_4cfef 31 = .ok (.iload_n 3, 1) := by decide +kernel
theorem dJ2_indexOf_4cfef_32 : decode cJ2_indexOf_4cfef 32 = .ok (.invokestatic 228, 3) := by decide +kernel
theorem dJ2_indexOf_4cfef_35 : decode cJ2_indexOf_4cfef 35 = .ok (.ireturn, 1) := by decide +kernel
theorem dJ2_indexOf_4cfef_36 : decode cJ2_indexOf_4cfef 36 = .ok (.aload_n 0, 1) := by decide +kernel
theorem dJ2_indexOf_4cfef_37 : decode cJ2_indexOf_4cfef 37 = .ok (.iload_n 1, 1) := by decide +kernel
theorem dJ2_indexOf_4cfef_38 : decode cJ2_indexOf_4cfef 38 = .ok (.iload_n 2, 1) := by decide +kernel
theorem dJ2_indexOf_4cfef_39 : decode cJ2_indexOf_4cfef 39 = .ok (.iload_n 3, 1) := by decide +kernel
theorem dJ2_indexOf_4cfef_40 : decode cJ2_indexOf_4cfef 40 = .ok (.invokestatic 232, 3) := by decide +kernel
theorem dJ2_indexOf_4cfef_43 : decode cJ2_indexOf_4cfef 43 = .ok (.ireturn, 1) := by decide +kernel
set_option maxRecDepth 20000 in
theorem ggJ2_indexOfChar_4cfef_J2_checkBoundsBeginEnd_d044e : GoodIn wsJ2_indexOfChar_4cfef wsJ2_checkBoundsBeginEnd_d044e := goodIn_r _ [4, 5, 6, 3, 7, 8, 9, 10, 11, 12, 13, 14, 15, 16] (by decide +kernel) (by decide +kernel)
set_option maxRecDepth 20000 in
theorem gJ2_indexOfChar_4cfef_J2_checkBoundsBeginEnd_d044e : GoodIn wsJ2_indexOfChar_4cfef (va_wsS RJ2 96 yJ2_checkBoundsBeginEnd_d044e wsJ2_checkBoundsBeginEnd_d044e) := goodIn_app (goodIn_of _ (by decide +kernel)) ggJ2_indexOfChar_4cfef_J2_checkBoundsBeginEnd_d044e
set_option maxRecDepth 20000 in
theorem ggJ2_indexOfChar_4cfef_J2_indexOfCharUnsafe_4cfef : GoodIn wsJ2_indexOfChar_4cfef wsJ2_indexOfCharUnsafe_4cfef := goodIn_r _ [19, 20, 21, 3, 22, 23, 24, 25, 5, 6, 7] (by decide +kernel) (by decide +kernel)
set_option maxRecDepth 20000 in
theorem gJ2_indexOfChar_4cfef_J2_indexOfCharUnsafe_4cfef : GoodIn wsJ2_indexOfChar_4cfef (va_wsS RJ2 244 yJ2_indexOfCharUnsafe_4cfef wsJ2_indexOfCharUnsafe_4cfef) := goodIn_app (goodIn_of _ (by decide +kernel)) ggJ2_indexOfChar_4cfef_J2_indexOfCharUnsafe_4cfef
theorem dJ2_indexOfChar_4cfef_0 : decode cJ2_indexOfChar_4cfef 0 = .ok (.iload_n 2, 1) := by decide +kernel
theorem dJ2_indexOfChar_4cfef_1 : decode cJ2_indexOfChar_4cfef 1 = .ok (.iload_n 3, 1) := by decide +kernel
theorem dJ2_indexOfChar_4cfef_2 : decode cJ2_indexOfChar_4cfef 2 = .ok (.aload_n 0, 1) := by decide +kernel
theorem dJ2_indexOfChar_4cfef_3 : decode cJ2_indexOfChar_4cfef 3 = .ok (.invokestatic 96, 3) := by decide +kernel
theorem dJ2_indexOfChar_4cfef_6 : decode cJ2_indexOfChar_4cfef 6 = .ok (.aload_n 0, 1) := by decide +kernel
theorem dJ2_indexOfChar_4cfef_7 : decode cJ2_indexOfChar_4cfef 7 = .ok (.iload_n 1, 1) := by decide +kernel
theorem dJ2_indexOfChar_4cfef_8 : decode cJ2_indexOfChar_4cfef 8 = .ok (.iload_n 2, 1) := by decide +kernel
theorem dJ2_indexOfChar_4cfef_9 : decode cJ2_indexOfChar_4cfef 9 = .ok (.iload_n 3, 1) := by decide +kernel
theorem dJ2_indexOfChar_4cfef_10 : decode cJ2_indexOfChar_4cfef 10 = .ok (.invokestatic 244, 3) := by decide +kernel
theorem dJ2_indexOfChar_4cfef_13 : decode cJ2_indexOfChar_4cfef 13 = .ok (.ireturn, 1) := by decide +kernel
set_option maxRecDepth 20000 in
theorem ggJ2_indexOfCharUnsafe_4cfef_J2_getChar_3b067 : GoodIn wsJ2_indexOfCharUnsafe_4cfef wsJ2_getChar_3b067 := goodIn_r _ [4, 5, 6, 7, 8, 9, 3, 10] (by decide +kernel) (by decide +kernel)
set_option maxRecDepth 20000 in
theorem gJ2_indexOfCharUnsafe_4cfef_J2_getChar_3b067 : GoodIn wsJ2_indexOfCharUnsafe_4cfef (va_wsS RJ2 71 yJ2_getChar_3b067 wsJ2_getChar_3b067) := goodIn_app (goodIn_of _ (by decide +kernel)) ggJ2_indexOfCharUnsafe_4cfef_J2_getChar_3b067
theorem dJ2_indexOfCharUnsafe_4cfef_0 : decode cJ2_indexOfCharUnsafe_4cfef 0 = .ok (.iload_n 2, 1) := by decide +kernel
theorem dJ2_indexOfCharUnsafe_4cfef_1 : decode cJ2_indexOfCharUnsafe_4cfef 1 = .ok (.istore 4, 2) := by decide +kernel
theorem dJ2_indexOfCharUnsafe_4cfef_3 : decode cJ2_indexOfCharUnsafe_4cfef 3 = .ok (.iload 4, 2) := by decide +kernel
theorem dJ2_indexOfCharUnsafe_4cfef_5 : decode cJ2_indexOfCharUnsafe_4cfef 5 = .ok (.iload_n 3, 1) := by decide +kernel
theorem dJ2_indexOfCharUnsafe_4cfef_6 : decode cJ2_indexOfCharUnsafe_4cfef 6 = .ok (.if_icmp .ge 22, 3) := by decide +kernel
theorem dJ2_indexOfCharUnsafe_4cfef_9 : decode cJ2_indexOfCharUnsafe_4cfef 9 = .ok (.aload_n 0, 1) := by decide +kernel
theorem dJ2_indexOfCharUnsafe_4cfef_10 : decode cJ2_indexOfCharUnsafe_4cfef 10 = .ok (.iload 4, 2) := by decide +kernel
theorem dJ2_indexOfCharUnsafe_4cfef_12 : decode cJ2_indexOfCharUnsafe_4cfef 12 = .ok (.invokestatic 71, 3) := by decide +kernel
theorem dJ2_indexOfCharUnsafe_4cfef_15 : decode cJ2_indexOfCharUnsafe_4cfef 15 = .ok (.iload_n 1, 1) := by decide +kernel
theorem dJ2_indexOfCharUnsafe_4cfef_16 : decode cJ2_indexOfCharUnsafe_4cfef 16 = .ok (.if_icmp .ne 6, 3) := by decide +kernel
theorem dJ2_indexOfCharUnsafe_4cfef_19 : decode cJ2_indexOfCharUnsafe_4cfef 19 = .ok (.iload 4, 2) := by decide +kernel
theorem dJ2_indexOfCharUnsafe_4cfef_21 : decode cJ2_indexOfCharUnsafe_4cfef 21 = .ok (.ireturn, 1) := by decide +kernel
theorem dJ2_indexOfCharUnsafe_4cfef_22 : decode cJ2_indexOfCharUnsafe_4cfef 22 = .ok (.iinc 4 1, 3) := by decide +kernel
theorem dJ2_indexOfCharUnsafe_4cfef_25 : decode cJ2_indexOfCharUnsafe_4cfef 25 = .ok (.goto (-22), 3) := by decide +kernel
theorem dJ2_indexOfCharUnsafe_4cfef_28 : decode cJ2_indexOfCharUnsafe_4cfef 28 = .ok (.iconst (-1), 1) := by decide +kernel
theorem dJ2_indexOfCharUnsafe_4cfef_29 : decode cJ2_indexOfCharUnsafe_4cfef 29 = .ok (.ireturn, 1) := by decide +kernel
set_option maxRecDepth 20000 in
theorem ggJ2_indexOfSupplementary_4cfef_J11_isValidCodePoint_9a6ad : GoodIn wsJ2_indexOfSupplementary_4cfef wsJ11_isValidCodePoint_9a6ad := goodIn_r _ [4] (by decide +kernel) (by decide +kernel)
set_option maxRecDepth 20000 in
theorem gJ2_indexOfSupplementary_4cfef_J11_isValidCodePoint_9a6ad : GoodIn wsJ2_indexOfSupplementary_4cfef (va_wsS RJ2 164 yJ11_isValidCodePoint_9a6ad wsJ11_isValidCodePoint_9a6ad) := goodIn_app (goodIn_of _ (by decide +kernel)) ggJ2_indexOfSupplementary_4cfef_J11_isValidCodePoint_9a6ad
set_option maxRecDepth 20000 in
theorem ggJ2_indexOfSupplementary_4cfef_J11_highSurrogate_5068e : GoodIn wsJ2_indexOfSupplementary_4cfef wsJ11_highSurrogate_5068e := goodIn_r _ [7, 8] (by decide +kernel) (by decide +kernel)
set_option maxRecDepth 20000 in
theorem gJ2_indexOfSupplementary_4cfef_J11_highSurrogate_5068e : GoodIn wsJ2_indexOfSupplementary_4cfef (va_wsS RJ2 157 yJ11_highSurrogate_5068e wsJ11_highSurrogate_5068e) := goodIn_app (goodIn_of _ (by decide +kernel)) ggJ2_indexOfSupplementary_4cfef_J11_highSurrogate_5068e
set_option maxRecDepth 20000 in
theorem ggJ2_indexOfSupplementary_4cfef_J11_lowSurrogate_5068e : GoodIn wsJ2_indexOfSupplementary_4cfef wsJ11_lowSurrogate_5068e := goodIn_r _ [11, 12] (by decide +kernel) (by decide +kernel)
set_option maxRecDepth 20000 in
theorem gJ2_indexOfSupplementary_4cfef_J11_lowSurrogate_5068e : GoodIn wsJ2_indexOfSupplementary_4cfef (va_wsS RJ2 161 yJ11_lowSurrogate_5068e wsJ11_lowSurrogate_5068e) := goodIn_app (goodIn_of _ (by decide +kernel)) ggJ2_indexOfSupplementary_4cfef_J11_lowSurrogate_5068e
set_option maxRecDepth 20000 in
theorem ggJ2_indexOfSupplementary_4cfef_J2_checkBoundsBeginEnd_d044e : GoodIn wsJ2_indexOfSupplementary_4cfef wsJ2_checkBoundsBeginEnd_d044e := goodIn_r _ [16, 17, 18, 15, 19, 20, 21, 22, 23, 24, 25, 26, 27, 28] (by decide +kernel) (by decide +kernel)
set_option maxRecDepth 20000 in
theorem gJ2_indexOfSupplementary_4cfef_J2_checkBoundsBeginEnd_d044e : GoodIn wsJ2_indexOfSupplementary_4cfef (va_wsS RJ2 96 yJ2_checkBoundsBeginEnd_d044e wsJ2_checkBoundsBeginEnd_d044e) := goodIn_app (goodIn_of _ (by decide +kernel)) ggJ2_indexOfSupplementary_4cfef_J2_checkBoundsBeginEnd_d044e
set_option maxRecDepth 20000 in
theorem ggJ2_indexOfSupplementary_4cfef_J2_getChar_3b067 : GoodIn wsJ2_indexOfSupplementary_4cfef wsJ2_getChar_3b067 := goodIn_r _ [31, 32, 33, 34, 17, 18, 15, 19] (by decide +kernel) (by decide +kernel)
set_option maxRecDepth 20000 in
theorem gJ2_indexOfSupplementary_4cfef_J2_getChar_3b067 : GoodIn wsJ2_indexOfSupplementary_4cfef (va_wsS RJ2 71 yJ2_getChar_3b067 wsJ2_getChar_3b067) := goodIn_app (goodIn_of _ (by decide +kernel)) ggJ2_indexOfSupplementary_4cfef_J2_getChar_3b067
theorem dJ2_indexOfSupplementary_4cfef_0 : decode cJ2_indexOfSupplementary_4cfef 0 = .ok (.iload_n 1, 1) := by decide +kernel
theorem dJ2_indexOfSupplementary_4cfef_1 : decode cJ2_indexOfSupplementary_4cfef 1 = .ok (.invokestatic 164, 3) := by decide +kernel
theorem dJ2_indexOfSupplementary_4cfef_4 : decode cJ2_indexOfSupplementary_4cfef 4 = .ok (.ifCond .eq 65, 3) := by decide +kernel
theorem dJ2_indexOfSupplementary_4cfef_7 : decode cJ2_indexOfSupplementary_4cfef 7 = .ok (.iload_n 1, 1) := by decide +kernel
theorem dJ2_indexOfSupplementary_4cfef_8 : decode cJ2_indexOfSupplementary_4cfef 8 = .ok (.invokestatic 157, 3) := by decide +kernel
theorem dJ2_indexOfSupplementary_4cfef_11 : decode cJ2_indexOfSupplementary_4cfef 11 = .ok (.istore 4, 2) := by decide +kernel
theorem dJ2_indexOfSupplementary_4cfef_13 : decode cJ2_indexOfSupplementary_4cfef 13 = .ok (.iload_n 1, 1) := by decide +kernel
theorem dJ2_indexOfSupplementary_4cfef_14 : decode cJ2_indexOfSupplementary_4cfef 14 = .ok (.invokestatic 161, 3) := by decide +kernel
theorem dJ2_indexOfSupplementary_4cfef_17 : decode cJ2_indexOfSupplementary_4cfef 17 = .ok (.istore 5, 2) := by decide +kernel
theorem dJ2_indexOfSupplementary_4cfef_19 : decode cJ2_indexOfSupplementary_4cfef 19 = .ok (.iload_n 2, 1) := by decide +kernel
theorem dJ2_indexOfSupplementary_4cfef_20 : decode cJ2_indexOfSupplementary_4cfef 20 = .ok (.iload_n 3, 1) := by decide +kernel
theorem dJ2_indexOfSupplementary_4cfef_21 : decode cJ2_indexOfSupplementary_4cfef 21 = .ok (.aload_n 0, 1) := by decide +kernel
theorem dJ2_indexOfSupplementary_4cfef_22 : decode cJ2_indexOfSupplementary_4cfef 22 = .ok (.invokestatic 96, 3) := by decide +kernel
theorem dJ2_indexOfSupplementary_4cfef_25 : decode cJ2_indexOfSupplementary_4cfef 25 = .ok (.iload_n 2, 1) := by decide +kernel
theorem dJ2_indexOfSupplementary_4cfef_26 : decode cJ2_indexOfSupplementary_4cfef 26 = .ok (.istore 6, 2) := by decide +kernel
theorem dJ2_indexOfSupplementary_4cfef_28 : decode cJ2_indexOfSupplementary_4cfef 28 = .ok (.iload 6, 2) := by decide +kernel
theorem dJ2_indexOfSupplementary_4cfef_30 : decode cJ2_indexOfSupplementary_4cfef 30 = .ok (.iload_n 3, 1) := by decide +kernel
theorem dJ2_indexOfSupplementary_4cfef_31 : decode cJ2_indexOfSupplementary_4cfef 31 = .ok (.iconst 1, 1) := by decide +kernel
theorem dJ2_indexOfSupplementary_4cfef_32 : decode cJ2_indexOfSupplementary_4cfef 32 = .ok (.isub, 1) := by decide +kernel
theorem dJ2_indexOfSupplementary_4cfef_33 : decode cJ2_indexOfSupplementary_4cfef 33 = .ok (.if_icmp .ge 36, 3) := by decide +kernel
theorem dJ2_indexOfSupplementary_4cfef_36 : decode cJ2_indexOfSupplementary_4cfef 36 = .ok (.aload_n 0, 1) := by decide +kernel
theorem dJ2_indexOfSupplementary_4cfef_37 : decode cJ2_indexOfSupplementary_4cfef 37 = .ok (.iload 6, 2) := by decide +kernel
theorem dJ2_indexOfSupplementary_4cfef_39 : decode cJ2_indexOfSupplementary_4cfef 39 = .ok (.invokestatic 71, 3) := by decide +kernel
theorem dJ2_indexOfSupplementary_4cfef_42 : decode cJ2_indexOfSupplementary_4cfef 42 = .ok (.iload 4, 2) := by decide +kernel
theorem dJ2_indexOfSupplementary_4cfef_44 : decode cJ2_indexOfSupplementary_4cfef 44 = .ok (.if_icmp .ne 19, 3) := by decide +kernel
theorem dJ2_indexOfSupplementary_4cfef_47 : decode cJ2_indexOfSupplementary_4cfef 47 = .ok (.aload_n 0, 1) := by decide +kernel
theorem dJ2_indexOfSupplementary_4cfef_48 : decode cJ2_indexOfSupplementary_4cfef 48 = .ok (.iload 6, 2) := by decide +kernel
theorem dJ2_indexOfSupplementary_4cfef_50 : decode cJ2_indexOfSupplementary_4cfef 50 = .ok (.iconst 1, 1) := by decide +kernel
theorem dJ2_indexOfSupplementary_4cfef_51 : decode cJ2_indexOfSupplementary_4cfef 51 = .ok (.iadd, 1) := by decide +kernel
theorem dJ2_indexOfSupplementary_4cfef_52 : decode cJ2_indexOfSupplementary_4cfef 52 = .ok (.invokestatic 71, 3) := by decide +kernel
theorem dJ2_indexOfSupplementary_4cfef_55 : decode cJ2_indexOfSupplementary_4cfef 55 = .ok (.iload 5, 2) := by decide +kernel
theorem dJ2_indexOfSupplementary_4cfef_57 : decode cJ2_indexOfSupplementary_4cfef 57 = .ok (.if_icmp .ne 6, 3) := by decide +kernel
theorem dJ2_indexOfSupplementary_4cfef_60 : decode cJ2_indexOfSupplementary_4cfef 60 = .ok (.iload 6, 2) := by decide +kernel
theorem dJ2_indexOfSupplementary_4cfef_62 : decode cJ2_indexOfSupplementary_4cfef 62 = .ok (.ireturn, 1) := by decide +kernel
theorem dJ2_indexOfSupplementary_4cfef_63 : decode cJ2_indexOfSupplementary_4cfef 63 = .ok (.iinc 6 1, 3) := by decide +kernel
theorem dJ2_indexOfSupplementary_4cfef_66 : decode cJ2_indexOfSupplementary_4cfef 66 = .ok (.goto (-38), 3) := by decide +kernel
theorem dJ2_indexOfSupplementary_4cfef_69 : decode cJ2_indexOfSupplementary_4cfef 69 = .ok (.iconst (-1), 1) := by decide +kernel
theorem dJ2_indexOfSupplementary_4cfef_70 : decode cJ2_indexOfSupplementary_4cfef 70 = .ok (.ireturn, 1) := by decide +kernel
set_option maxRecDepth 20000 in
theorem ggJ2_checkBoundsBeginEnd_d044e_J2_length_9d52b : GoodIn wsJ2_checkBoundsBeginEnd_d044e wsJ2_length_9d52b := goodIn_r _ [4] (by decide +kernel) (by decide +kernel)
set_option maxRecDepth 20000 in
theorem gJ2_checkBoundsBeginEnd_d044e_J2_length_9d52b : GoodIn wsJ2_checkBoundsBeginEnd_d044e (va_wsS RJ2 48 yJ2_length_9d52b wsJ2_length_9d52b) := goodIn_app (goodIn_of _ (by decide +kernel)) ggJ2_checkBoundsBeginEnd_d044e_J2_length_9d52b
set_option maxRecDepth 20000 in
theorem ggJ2_checkBoundsBeginEnd_d044e_J0_checkBoundsBeginEnd_23922 : GoodIn wsJ2_checkBoundsBeginEnd_d044e wsJ0_checkBoundsBeginEnd_23922 := goodIn_r _ [8, 9, 10, 11, 12, 13] (by decide +kernel) (by decide +kernel)
set_option maxRecDepth 20000 in
theorem gJ2_checkBoundsBeginEnd_d044e_J0_checkBoundsBeginEnd_23922 : GoodIn wsJ2_checkBoundsBeginEnd_d044e (va_wsS RJ2 241 yJ0_checkBoundsBeginEnd_23922 wsJ0_checkBoundsBeginEnd_23922) := goodIn_app (goodIn_of _ (by decide +kernel)) ggJ2_checkBoundsBeginEnd_d044e_J0_checkBoundsBeginEnd_23922
theorem dJ2_checkBoundsBeginEnd_d044e_0 : decode cJ2_checkBoundsBeginEnd_d044e 0 = .ok (.iload_n 0, 1) := by decide +kernel
theorem dJ2_checkBoundsBeginEnd_d044e_1 : decode cJ2_checkBoundsBeginEnd_d044e 1 = .ok (.iload_n 1, 1) := by decide +kernel
theorem dJ2_checkBoundsBeginEnd_d044e_2 : decode cJ2_checkBoundsBeginEnd_d044e 2 = .ok (.aload_n 2, 1) := by decide +kernel
theorem dJ2_checkBoundsBeginEnd_d044e_3 : decode cJ2_checkBoundsBeginEnd_d044e 3 = .ok (.invokestatic 48, 3) := by decide +kernel
theorem dJ2_checkBoundsBeginEnd_d044e_6 : decode cJ2_checkBoundsBeginEnd_d044e 6 = .ok (.invokestatic 241, 3) := by decide +kernel
theorem dJ2_checkBoundsBeginEnd_d044e_9 : decode cJ2_checkBoundsBeginEnd_d044e 9 = .ok (.return_, 1) := by decide +kernel
theorem dJ7_fill_53178_0 : decode cJ7_fill_53178 0 = .ok (.iconst 0, 1) := by decide +kernel
theorem dJ7_fill_53178_1 : decode cJ7_fill_53178 1 = .ok (.istore_n 2, 1) := by decide +kernel
theorem dJ7_fill_53178_2 : decode cJ7_fill_53178 2 = .ok (.aload_n 0, 1) := by decide +kernel
theorem dJ7_fill_53178_3 : decode cJ7_fill_53178 3 = .ok (.arraylength, 1) := by decide +kernel
theorem dJ7_fill_53178_4 : decode cJ7_fill_53178 4 = .ok (.istore_n 3, 1) := by decide +kernel
theorem dJ7_fill_53178_5 : decode cJ7_fill_53178 5 = .ok (.iload_n 2, 1) := by decide +kernel
theorem dJ7_fill_53178_6 : decode cJ7_fill_53178 6 = .ok (.iload_n 3, 1) := by decide +kernel
theorem dJ7_fill_53178_7 : decode cJ7_fill_53178 7 = .ok (.if_icmp .ge 13, 3) := by decide +kernel
theorem dJ7_fill_53178_10 : decode cJ7_fill_53178 10 = .ok (.aload_n 0, 1) := by decide +kernel
theorem dJ7_fill_53178_11 : decode cJ7_fill_53178 11 = .ok (.iload_n 2, 1) := by decide +kernel
theorem dJ7_fill_53178_12 : decode cJ7_fill_53178 12 = .ok (.iload_n 1, 1) := by decide +kernel
theorem dJ7_fill_53178_13 : decode cJ7_fill_53178 13 = .ok (.iastore, 1) := by decide +kernel
theorem dJ7_fill_53178_14 : decode cJ7_fill_53178 14 = .ok (.iinc 2 1, 3) := by decide +kernel
theorem dJ7_fill_53178_17 : decode cJ7_fill_53178 17 = .ok (.goto (-12), 3) := by decide +kernel
theorem dJ7_fill_53178_20 : decode cJ7_fill_53178 20 = .ok (.return_, 1) := by decide +kernel
theorem dJ3_checkFromToIndex_8c36e_0 : decode cJ3_checkFromToIndex_8c36e 0 = .ok (.iload_n 0, 1) := by decide +kernel
theorem dJ3_checkFromToIndex_8c36e_1 : decode cJ3_checkFromToIndex_8c36e 1 = .ok (.ifCond .lt 13, 3) := by decide +kernel
theorem dJ3_checkFromToIndex_8c36e_4 : decode cJ3_checkFromToIndex_8c36e 4 = .ok (.iload_n 0, 1) := by decide +kernel
theorem dJ3_checkFromToIndex_8c36e_5 : decode cJ3_checkFromToIndex_8c36e 5 = .ok (.iload_n 1, 1) := by decide +kernel

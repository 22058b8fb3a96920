theorem dX5_isMissing_11 : decode cX5_isMissing 11 = .ok (.iconst 0, 1) := by decide +kernel
theorem dX5_isMissing_12 : decode cX5_isMissing 12 = .ok (.ireturn, 1) := by decide +kernel
set_option maxRecDepth 20000 in
theorem ggX5_renew_J7_fill_53178 : GoodIn wsX5_renew wsJ7_fill_53178 := goodIn_r _ [14] (by decide +kernel) (by decide +kernel)
set_option maxRecDepth 20000 in
theorem gX5_renew_J7_fill_53178 : GoodIn wsX5_renew (va_wsS RX5 22 yJ7_fill_53178 wsJ7_fill_53178) := goodIn_app (goodIn_of _ (by decide +kernel)) ggX5_renew_J7_fill_53178
theorem dX5_renew_0 : decode cX5_renew 0 = .ok (.aload_n 0, 1) := by decide +kernel
theorem dX5_renew_1 : decode cX5_renew 1 = .ok (.getfield 9, 3) := by decide +kernel
theorem dX5_renew_4 : decode cX5_renew 4 = .ok (.iconst 0, 1) := by decide +kernel
theorem dX5_renew_5 : decode cX5_renew 5 = .ok (.invokestatic 22, 3) := by decide +kernel
theorem dX5_renew_8 : decode cX5_renew 8 = .ok (.aload_n 0, 1) := by decide +kernel
theorem dX5_renew_9 : decode cX5_renew 9 = .ok (.iload_n 1, 1) := by decide +kernel
theorem dX5_renew_10 : decode cX5_renew 10 = .ok (.putfield 15, 3) := by decide +kernel
theorem dX5_renew_13 : decode cX5_renew 13 = .ok (.aload_n 0, 1) := by decide +kernel
theorem dX5_renew_14 : decode cX5_renew 14 = .ok (.iconst 0, 1) := by decide +kernel
theorem dX5_renew_15 : decode cX5_renew 15 = .ok (.iload_n 2, 1) := by decide +kernel
theorem dX5_renew_16 : decode cX5_renew 16 = .ok (.bipush 24, 2) := by decide +kernel
theorem dX5_renew_18 : decode cX5_renew 18 = .ok (.invokestatic 28, 3) := by decide +kernel
theorem dX5_renew_21 : decode cX5_renew 21 = .ok (.invokestatic 34, 3) := by decide +kernel
theorem dX5_renew_24 : decode cX5_renew 24 = .ok (.putfield 19, 3) := by decide +kernel
theorem dX5_renew_27 : decode cX5_renew 27 = .ok (.return_, 1) := by decide +kernel
theorem dX5_get_0 : decode cX5_get 0 = .ok (.iload_n 1, 1) := by decide +kernel
theorem dX5_get_1 : decode cX5_get 1 = .ok (.ifCond .lt 29, 3) := by decide +kernel
theorem dX5_get_4 : decode cX5_get 4 = .ok (.iload_n 1, 1) := by decide +kernel
theorem dX5_get_5 : decode cX5_get 5 = .ok (.aload_n 0, 1) := by decide +kernel
theorem dX5_get_6 : decode cX5_get 6 = .ok (.getfield 19, 3) := by decide +kernel
theorem dX5_get_9 : decode cX5_get 9 = .ok (.if_icmp .ge 21, 3) := by decide +kernel
theorem dX5_get_12 : decode cX5_get 12 = .ok (.iload_n 1, 1) := by decide +kernel
theorem dX5_get_13 : decode cX5_get 13 = .ok (.aload_n 0, 1) := by decide +kernel
theorem dX5_get_14 : decode cX5_get 14 = .ok (.getfield 9, 3) := by decide +kernel
theorem dX5_get_17 : decode cX5_get 17 = .ok (.arraylength, 1) := by decide +kernel
theorem dX5_get_18 : decode cX5_get 18 = .ok (.if_icmp .ge 12, 3) := by decide +kernel
theorem dX5_get_21 : decode cX5_get 21 = .ok (.aload_n 0, 1) := by decide +kernel
theorem dX5_get_22 : decode cX5_get 22 = .ok (.getfield 9, 3) := by decide +kernel
theorem dX5_get_25 : decode cX5_get 25 = .ok (.iload_n 1, 1) := by decide +kernel
theorem dX5_get_26 : decode cX5_get 26 = .ok (.iaload, 1) := by decide +kernel
theorem dX5_get_27 : decode cX5_get 27 = .ok (.goto 4, 3) := by decide +kernel
theorem dX5_get_30 : decode cX5_get 30 = .ok (.iconst 0, 1) := by decide +kernel
theorem dX5_get_31 : decode cX5_get 31 = .ok (.ireturn, 1) := by decide +kernel
set_option maxRecDepth 20000 in
theorem ggX5_set_X5_lowest : GoodIn wsX5_set wsX5_lowest := goodIn_r _ [7, 8, 9, 10, 11, 12] (by decide +kernel) (by decide +kernel)
set_option maxRecDepth 20000 in
theorem gX5_set_X5_lowest : GoodIn wsX5_set (wsV RX5 37 RX5 yX5_lowest wsX5_lowest) := goodIn_app (goodIn_of _ (by decide +kernel)) ggX5_set_X5_lowest
theorem dX5_set_0 : decode cX5_set 0 = .ok (.iload_n 1, 1) := by decide +kernel
theorem dX5_set_1 : decode cX5_set 1 = .ok (.ifCond .lt 31, 3) := by decide +kernel
theorem dX5_set_4 : decode cX5_set 4 = .ok (.iload_n 1, 1) := by decide +kernel
theorem dX5_set_5 : decode cX5_set 5 = .ok (.aload_n 0, 1) := by decide +kernel
theorem dX5_set_6 : decode cX5_set 6 = .ok (.getfield 19, 3) := by decide +kernel
theorem dX5_set_9 : decode cX5_set 9 = .ok (.if_icmp .ge 23, 3) := by decide +kernel
theorem dX5_set_12 : decode cX5_set 12 = .ok (.iload_n 1, 1) := by decide +kernel
theorem dX5_set_13 : decode cX5_set 13 = .ok (.aload_n 0, 1) := by decide +kernel
theorem dX5_set_14 : decode cX5_set 14 = .ok (.getfield 9, 3) := by decide +kernel
theorem dX5_set_17 : decode cX5_set 17 = .ok (.arraylength, 1) := by decide +kernel
theorem dX5_set_18 : decode cX5_set 18 = .ok (.if_icmp .ge 14, 3) := by decide +kernel
theorem dX5_set_21 : decode cX5_set 21 = .ok (.aload_n 0, 1) := by decide +kernel
theorem dX5_set_22 : decode cX5_set 22 = .ok (.getfield 9, 3) := by decide +kernel
theorem dX5_set_25 : decode cX5_set 25 = .ok (.iload_n 1, 1) := by decide +kernel
theorem dX5_set_26 : decode cX5_set 26 = .ok (.aload_n 0, 1) := by decide +kernel
theorem dX5_set_27 : decode cX5_set 27 = .ok (.iload_n 2, 1) := by decide +kernel
theorem dX5_set_28 : decode cX5_set 28 = .ok (.invokevirtual 37, 3) := by decide +kernel
theorem dX5_set_31 : decode cX5_set 31 = .ok (.iastore, 1) := by decide +kernel
theorem dX5_set_32 : decode cX5_set 32 = .ok (.return_, 1) := by decide +kernel
theorem dX5_lowest_0 : decode cX5_lowest 0 = .ok (.aload_n 0, 1) := by decide +kernel
theorem dX5_lowest_1 : decode cX5_lowest 1 = .ok (.getfield 15, 3) := by decide +kernel
theorem dX5_lowest_4 : decode cX5_lowest 4 = .ok (.lookupswitch 39 #[(8, 28), (16, 34)], 28) := by decide +kernel
theorem dX5_lowest_32 : decode cX5_lowest 32 = .ok (.iload_n 1, 1) := by decide +kernel
theorem dX5_lowest_33 : decode cX5_lowest 33 = .ok (.sipush 255, 3) := by decide +kernel
theorem dX5_lowest_36 : decode cX5_lowest 36 = .ok (.iand, 1) := by decide +kernel
theorem dX5_lowest_37 : decode cX5_lowest 37 = .ok (.ireturn, 1) := by decide +kernel
theorem dX5_lowest_38 : decode cX5_lowest 38 = .ok (.iload_n 1, 1) := by decide +kernel
theorem dX5_lowest_39 : decode cX5_lowest 39 = .ok (.ldc 41, 2) := by decide +kernel
theorem dX5_lowest_41 : decode cX5_lowest 41 = .ok (.iand, 1) := by decide +kernel
theorem dX5_lowest_42 : decode cX5_lowest 42 = .ok (.ireturn, 1) := by decide +kernel
theorem dX5_lowest_43 : decode cX5_lowest 43 = .ok (.iload_n 1, 1) := by decide +kernel
theorem dX5_lowest_44 : decode cX5_lowest 44 = .ok (.ireturn, 1) := by decide +kernel
theorem dX5_holds_0 : decode cX5_holds 0 = .ok (.iload_n 1, 1) := by decide +kernel
theorem dX5_holds_1 : decode cX5_holds 1 = .ok (.ifCond .lt 29, 3) := by decide +kernel
theorem dX5_holds_4 : decode cX5_holds 4 = .ok (.iload_n 2, 1) := by decide +kernel
theorem dX5_holds_5 : decode cX5_holds 5 = .ok (.ifCond .lt 25, 3) := by decide +kernel
theorem dX5_holds_8 : decode cX5_holds 8 = .ok (.iload_n 2, 1) := by decide +kernel
theorem dX5_holds_9 : decode cX5_holds 9 = .ok (.aload_n 0, 1) := by decide +kernel
theorem dX5_holds_10 : decode cX5_holds 10 = .ok (.getfield 19, 3) := by decide +kernel
theorem dX5_holds_13 : decode cX5_holds 13 = .ok (.if_icmp .gt 17, 3) := by decide +kernel
theorem dX5_holds_16 : decode cX5_holds 16 = .ok (.iload_n 1, 1) := by decide +kernel
theorem dX5_holds_17 : decode cX5_holds 17 = .ok (.aload_n 0, 1) := by decide +kernel
theorem dX5_holds_18 : decode cX5_holds 18 = .ok (.getfield 19, 3) := by decide +kernel
theorem dX5_holds_21 : decode cX5_holds 21 = .ok (.iload_n 2, 1) := by decide +kernel
theorem dX5_holds_22 : decode cX5_holds 22 = .ok (.isub, 1) := by decide +kernel
theorem dX5_holds_23 : decode cX5_holds 23 = .ok (.if_icmp .gt 7, 3) := by decide +kernel
theorem dX5_holds_26 : decode cX5_holds 26 = .ok (.iconst 1, 1) := by decide +kernel
theorem dX5_holds_27 : decode cX5_holds 27 = .ok (.goto 4, 3) := by decide +kernel
theorem dX5_holds_30 : decode cX5_holds 30 = .ok (.iconst 0, 1) := by decide +kernel
theorem dX5_holds_31 : decode cX5_holds 31 = .ok (.ireturn, 1) := by decide +kernel
set_option maxRecDepth 20000 in
theorem ggX5_holdsWordsAlone_X5_get : GoodIn wsX5_holdsWordsAlone wsX5_get := goodIn_r _ [6, 1, 7, 14, 15, 16] (by decide +kernel) (by decide +kernel)
set_option maxRecDepth 20000 in
theorem gX5_holdsWordsAlone_X5_get : GoodIn wsX5_holdsWordsAlone (wsV RX5 42 RX5 yX5_get wsX5_get) := goodIn_app (goodIn_of _ (by decide +kernel)) ggX5_holdsWordsAlone_X5_get
set_option maxRecDepth 20000 in
theorem ggX5_holdsWordsAlone_X8_isWord : GoodIn wsX5_holdsWordsAlone wsX8_isWord := goodIn_r _ [10, 11, 12, 9, 13] (by decide +kernel) (by decide +kernel)
set_option maxRecDepth 20000 in
theorem gX5_holdsWordsAlone_X8_isWord_n45 : GoodIn wsX5_holdsWordsAlone (wsX8_isWord) := ggX5_holdsWordsAlone_X8_isWord
theorem dX5_holdsWordsAlone_0 : decode cX5_holdsWordsAlone 0 = .ok (.iconst 0, 1) := by decide +kernel
theorem dX5_holdsWordsAlone_1 : decode cX5_holdsWordsAlone 1 = .ok (.istore_n 1, 1) := by decide +kernel
theorem dX5_holdsWordsAlone_2 : decode cX5_holdsWordsAlone 2 = .ok (.iload_n 1, 1) := by decide +kernel
theorem dX5_holdsWordsAlone_3 : decode cX5_holdsWordsAlone 3 = .ok (.aload_n 0, 1) := by decide +kernel
theorem dX5_holdsWordsAlone_4 : decode cX5_holdsWordsAlone 4 = .ok (.getfield 19, 3) := by decide +kernel
theorem dX5_holdsWordsAlone_7 : decode cX5_holdsWordsAlone 7 = .ok (.if_icmp .ge 22, 3) := by decide +kernel
theorem dX5_holdsWordsAlone_10 : decode cX5_holdsWordsAlone 10 = .ok (.aload_n 0, 1) := by decide +kernel
theorem dX5_holdsWordsAlone_11 : decode cX5_holdsWordsAlone 11 = .ok (.iload_n 1, 1) := by decide +kernel
theorem dX5_holdsWordsAlone_12 : decode cX5_holdsWordsAlone 12 = .ok (.invokevirtual 42, 3) := by decide +kernel
theorem dX5_holdsWordsAlone_15 : decode cX5_holdsWordsAlone 15 = .ok (.invokestatic 45, 3) := by decide +kernel
theorem dX5_holdsWordsAlone_18 : decode cX5_holdsWordsAlone 18 = .ok (.ifCond .ne 5, 3) := by decide +kernel
theorem dX5_holdsWordsAlone_21 : decode cX5_holdsWordsAlone 21 = .ok (.iconst 0, 1) := by decide +kernel
theorem dX5_holdsWordsAlone_22 : decode cX5_holdsWordsAlone 22 = .ok (.ireturn, 1) := by decide +kernel
theorem dX5_holdsWordsAlone_23 : decode cX5_holdsWordsAlone 23 = .ok (.iinc 1 1, 3) := by decide +kernel
theorem dX5_holdsWordsAlone_26 : decode cX5_holdsWordsAlone 26 = .ok (.goto (-24), 3) := by decide +kernel
theorem dX5_holdsWordsAlone_29 : decode cX5_holdsWordsAlone 29 = .ok (.iconst 1, 1) := by decide +kernel
theorem dX5_holdsWordsAlone_30 : decode cX5_holdsWordsAlone 30 = .ok (.ireturn, 1) := by decide +kernel
theorem dX6_init_0 : decode cX6_init 0 = .ok (.aload_n 0, 1) := by decide +kernel
theorem dX6_init_1 : decode cX6_init 1 = .ok (.invokespecial 3, 3) := by decide +kernel
theorem dX6_init_4 : decode cX6_init 4 = .ok (.aload_n 0, 1) := by decide +kernel
theorem dX6_init_5 : decode cX6_init 5 = .ok (.bipush 60, 2) := by decide +kernel
theorem dX6_init_7 : decode cX6_init 7 = .ok (.newarray .int, 2) := by decide +kernel
theorem dX6_init_9 : decode cX6_init 9 = .ok (.putfield 9, 3) := by decide +kernel
theorem dX6_init_12 : decode cX6_init 12 = .ok (.aload_n 0, 1) := by decide +kernel
theorem dX6_init_13 : decode cX6_init 13 = .ok (.bipush 60, 2) := by decide +kernel
theorem dX6_init_15 : decode cX6_init 15 = .ok (.newarray .int, 2) := by decide +kernel
theorem dX6_init_17 : decode cX6_init 17 = .ok (.putfield 15, 3) := by decide +kernel
theorem dX6_init_20 : decode cX6_init 20 = .ok (.aload_n 0, 1) := by decide +kernel
theorem dX6_init_21 : decode cX6_init 21 = .ok (.iconst 0, 1) := by decide +kernel
theorem dX6_init_22 : decode cX6_init 22 = .ok (.putfield 18, 3) := by decide +kernel
theorem dX6_init_25 : decode cX6_init 25 = .ok (.return_, 1) := by decide +kernel
theorem dX6_isThere_0 : decode cX6_isThere 0 = .ok (.aload_n 0, 1) := by decide +kernel
theorem dX6_isThere_1 : decode cX6_isThere 1 = .ok (.getfield 18, 3) := by decide +kernel
theorem dX6_isThere_4 : decode cX6_isThere 4 = .ok (.ifCond .le 7, 3) := by decide +kernel
theorem dX6_isThere_7 : decode cX6_isThere 7 = .ok (.iconst 1, 1) := by decide +kernel
theorem dX6_isThere_8 : decode cX6_isThere 8 = .ok (.goto 4, 3) := by decide +kernel
theorem dX6_isThere_11 : decode cX6_isThere 11 = .ok (.iconst 0, 1) := by decide +kernel
theorem dX6_isThere_12 : decode cX6_isThere 12 = .ok (.ireturn, 1) := by decide +kernel
theorem dX6_clear_0 : decode cX6_clear 0 = .ok (.aload_n 0, 1) := by decide +kernel
theorem dX6_clear_1 : decode cX6_clear 1 = .ok (.iconst 0, 1) := by decide +kernel
theorem dX6_clear_2 : decode cX6_clear 2 = .ok (.putfield 18, 3) := by decide +kernel
theorem dX6_clear_5 : decode cX6_clear 5 = .ok (.return_, 1) := by decide +kernel
theorem dX6_copyFrom_0 : decode cX6_copyFrom 0 = .ok (.aload_n 1, 1) := by decide +kernel
theorem dX6_copyFrom_1 : decode cX6_copyFrom 1 = .ok (.getfield 9, 3) := by decide +kernel
theorem dX6_copyFrom_4 : decode cX6_copyFrom 4 = .ok (.iconst 0, 1) := by decide +kernel
theorem dX6_copyFrom_5 : decode cX6_copyFrom 5 = .ok (.aload_n 0, 1) := by decide +kernel
theorem dX6_copyFrom_6 : decode cX6_copyFrom 6 = .ok (.getfield 9, 3) := by decide +kernel
theorem dX6_copyFrom_9 : decode cX6_copyFrom 9 = .ok (.iconst 0, 1) := by decide +kernel
theorem dX6_copyFrom_10 : decode cX6_copyFrom 10 = .ok (.bipush 60, 2) := by decide +kernel
theorem dX6_copyFrom_12 : decode cX6_copyFrom 12 = .ok (.invokestatic 22, 3) := by decide +kernel
theorem dX6_copyFrom_15 : decode cX6_copyFrom 15 = .ok (.aload_n 0, 1) := by decide +kernel
theorem dX6_copyFrom_16 : decode cX6_copyFrom 16 = .ok (.aload_n 1, 1) := by decide +kernel
theorem dX6_copyFrom_17 : decode cX6_copyFrom 17 = .ok (.getfield 18, 3) := by decide +kernel
theorem dX6_copyFrom_20 : decode cX6_copyFrom 20 = .ok (.putfield 18, 3) := by decide +kernel
theorem dX6_copyFrom_23 : decode cX6_copyFrom 23 = .ok (.return_, 1) := by decide +kernel
theorem dX6_add_0 : decode cX6_add 0 = .ok (.aload_n 0, 1) := by decide +kernel
theorem dX6_add_1 : decode cX6_add 1 = .ok (.getfield 18, 3) := by decide +kernel
theorem dX6_add_4 : decode cX6_add 4 = .ok (.ifCond .lt 35, 3) := by decide +kernel
theorem dX6_add_7 : decode cX6_add 7 = .ok (.aload_n 0, 1) := by decide +kernel
theorem dX6_add_8 : decode cX6_add 8 = .ok (.getfield 18, 3) := by decide +kernel
theorem dX6_add_11 : decode cX6_add 11 = .ok (.aload_n 0, 1) := by decide +kernel
theorem dX6_add_12 : decode cX6_add 12 = .ok (.getfield 9, 3) := by decide +kernel
theorem dX6_add_15 : decode cX6_add 15 = .ok (.arraylength, 1) := by decide +kernel
theorem dX6_add_16 : decode cX6_add 16 = .ok (.if_icmp .ge 23, 3) := by decide +kernel
theorem dX6_add_19 : decode cX6_add 19 = .ok (.aload_n 0, 1) := by decide +kernel
theorem dX6_add_20 : decode cX6_add 20 = .ok (.getfield 9, 3) := by decide +kernel
theorem dX6_add_23 : decode cX6_add 23 = .ok (.aload_n 0, 1) := by decide +kernel
theorem dX6_add_24 : decode cX6_add 24 = .ok (.getfield 18, 3) := by decide +kernel
theorem dX6_add_27 : decode cX6_add 27 = .ok (.iload_n 1, 1) := by decide +kernel
theorem dX6_add_28 : decode cX6_add 28 = .ok (.iastore, 1) := by decide +kernel
theorem dX6_add_29 : decode cX6_add 29 = .ok (.aload_n 0, 1) := by decide +kernel
theorem dX6_add_30 : decode cX6_add 30 = .ok (.dup, 1) := by decide +kernel
theorem dX6_add_31 : decode cX6_add 31 = .ok (.getfield 18, 3) := by decide +kernel
theorem dX6_add_34 : decode cX6_add 34 = .ok (.iconst 1, 1) := by decide +kernel
theorem dX6_add_35 : decode cX6_add 35 = .ok (.iadd, 1) := by decide +kernel
theorem dX6_add_36 : decode cX6_add 36 = .ok (.putfield 18, 3) := by decide +kernel
theorem dX6_add_39 : decode cX6_add 39 = .ok (.return_, 1) := by decide +kernel
set_option maxRecDepth 20000 in
theorem ggX6_work_X6_nameAt : GoodIn wsX6_work wsX6_nameAt := goodIn_r _ [7] (by decide +kernel) (by decide +kernel)
set_option maxRecDepth 20000 in
theorem gX6_work_X6_nameAt : GoodIn wsX6_work (va_wsS RX6 28 yX6_nameAt wsX6_nameAt) := goodIn_app (goodIn_of _ (by decide +kernel)) ggX6_work_X6_nameAt
set_option maxRecDepth 20000 in
theorem ggX6_work_X6_join : GoodIn wsX6_work wsX6_join := goodIn_r _ [10] (by decide +kernel) (by decide +kernel)
set_option maxRecDepth 20000 in
theorem gX6_work_X6_join : GoodIn wsX6_work (va_wsS RX6 32 yX6_join wsX6_join) := goodIn_app (goodIn_of _ (by decide +kernel)) ggX6_work_X6_join
theorem dX6_work_0 : decode cX6_work 0 = .ok (.iconst 0, 1) := by decide +kernel
theorem dX6_work_1 : decode cX6_work 1 = .ok (.istore 4, 2) := by decide +kernel
theorem dX6_work_3 : decode cX6_work 3 = .ok (.iconst 0, 1) := by decide +kernel
theorem dX6_work_4 : decode cX6_work 4 = .ok (.istore 5, 2) := by decide +kernel
theorem dX6_work_6 : decode cX6_work 6 = .ok (.iload 5, 2) := by decide +kernel
theorem dX6_work_8 : decode cX6_work 8 = .ok (.aload_n 0, 1) := by decide +kernel
theorem dX6_work_9 : decode cX6_work 9 = .ok (.getfield 18, 3) := by decide +kernel
theorem dX6_work_12 : decode cX6_work 12 = .ok (.if_icmp .ge 167, 3) := by decide +kernel
theorem dX6_work_15 : decode cX6_work 15 = .ok (.iload 5, 2) := by decide +kernel
theorem dX6_work_17 : decode cX6_work 17 = .ok (.aload_n 0, 1) := by decide +kernel
theorem dX6_work_18 : decode cX6_work 18 = .ok (.getfield 9, 3) := by decide +kernel
theorem dX6_work_21 : decode cX6_work 21 = .ok (.arraylength, 1) := by decide +kernel
theorem dX6_work_22 : decode cX6_work 22 = .ok (.if_icmp .ge 157, 3) := by decide +kernel
theorem dX6_work_25 : decode cX6_work 25 = .ok (.aload_n 0, 1) := by decide +kernel
theorem dX6_work_26 : decode cX6_work 26 = .ok (.getfield 9, 3) := by decide +kernel
theorem dX6_work_29 : decode cX6_work 29 = .ok (.iload 5, 2) := by decide +kernel
theorem dX6_work_31 : decode cX6_work 31 = .ok (.iaload, 1) := by decide +kernel
theorem dX6_work_32 : decode cX6_work 32 = .ok (.istore 6, 2) := by decide +kernel
theorem dX6_work_34 : decode cX6_work 34 = .ok (.iload 6, 2) := by decide +kernel
theorem dX6_work_36 : decode cX6_work 36 = .ok (.sipush 10000, 3) := by decide +kernel
theorem dX6_work_39 : decode cX6_work 39 = .ok (.if_icmp .ge 46, 3) := by decide +kernel
theorem dX6_work_42 : decode cX6_work 42 = .ok (.iload 4, 2) := by decide +kernel
theorem dX6_work_44 : decode cX6_work 44 = .ok (.aload_n 0, 1) := by decide +kernel
theorem dX6_work_45 : decode cX6_work 45 = .ok (.getfield 15, 3) := by decide +kernel
theorem dX6_work_48 : decode cX6_work 48 = .ok (.arraylength, 1) := by decide +kernel
theorem dX6_work_49 : decode cX6_work 49 = .ok (.if_icmp .ge 36, 3) := by decide +kernel
theorem dX6_work_52 : decode cX6_work 52 = .ok (.aload_n 0, 1) := by decide +kernel
theorem dX6_work_53 : decode cX6_work 53 = .ok (.getfield 15, 3) := by decide +kernel
theorem dX6_work_56 : decode cX6_work 56 = .ok (.iload 4, 2) := by decide +kernel
theorem dX6_work_58 : decode cX6_work 58 = .ok (.iload 6, 2) := by decide +kernel
theorem dX6_work_60 : decode cX6_work 60 = .ok (.ifCond .lt 8, 3) := by decide +kernel
theorem dX6_work_63 : decode cX6_work 63 = .ok (.iload 6, 2) := by decide +kernel
theorem dX6_work_65 : decode cX6_work 65 = .ok (.goto 13, 3) := by decide +kernel
theorem dX6_work_68 : decode cX6_work 68 = .ok (.iconst (-1), 1) := by decide +kernel
theorem dX6_work_69 : decode cX6_work 69 = .ok (.iload 6, 2) := by decide +kernel
theorem dX6_work_71 : decode cX6_work 71 = .ok (.isub, 1) := by decide +kernel
theorem dX6_work_72 : decode cX6_work 72 = .ok (.iload_n 1, 1) := by decide +kernel
theorem dX6_work_73 : decode cX6_work 73 = .ok (.iload_n 2, 1) := by decide +kernel
theorem dX6_work_74 : decode cX6_work 74 = .ok (.iload_n 3, 1) := by decide +kernel
theorem dX6_work_75 : decode cX6_work 75 = .ok (.invokestatic 28, 3) := by decide +kernel
theorem dX6_work_78 : decode cX6_work 78 = .ok (.iastore, 1) := by decide +kernel
theorem dX6_work_79 : decode cX6_work 79 = .ok (.iinc 4 1, 3) := by decide +kernel
theorem dX6_work_82 : decode cX6_work 82 = .ok (.goto 91, 3) := by decide +kernel
theorem dX6_work_85 : decode cX6_work 85 = .ok (.iload 6, 2) := by decide +kernel
theorem dX6_work_87 : decode cX6_work 87 = .ok (.sipush 10033, 3) := by decide +kernel
theorem dX6_work_90 : decode cX6_work 90 = .ok (.if_icmp .ne 38, 3) := by decide +kernel
theorem dX6_work_93 : decode cX6_work 93 = .ok (.iload 4, 2) := by decide +kernel
theorem dX6_work_95 : decode cX6_work 95 = .ok (.iconst 1, 1) := by decide +kernel
theorem dX6_work_96 : decode cX6_work 96 = .ok (.if_icmp .lt 32, 3) := by decide +kernel
theorem dX6_work_99 : decode cX6_work 99 = .ok (.aload_n 0, 1) := by decide +kernel
theorem dX6_work_100 : decode cX6_work 100 = .ok (.getfield 15, 3) := by decide +kernel
theorem dX6_work_103 : decode cX6_work 103 = .ok (.iload 4, 2) := by decide +kernel
theorem dX6_work_105 : decode cX6_work 105 = .ok (.iconst 1, 1) := by decide +kernel
theorem dX6_work_106 : decode cX6_work 106 = .ok (.isub, 1) := by decide +kernel
theorem dX6_work_107 : decode cX6_work 107 = .ok (.aload_n 0, 1) := by decide +kernel
theorem dX6_work_108 : decode cX6_work 108 = .ok (.getfield 15, 3) := by decide +kernel
theorem dX6_work_111 : decode cX6_work 111 = .ok (.iload 4, 2) := by decide +kernel
theorem dX6_work_113 : decode cX6_work 113 = .ok (.iconst 1, 1) := by decide +kernel
theorem dX6_work_114 : decode cX6_work 114 = .ok (.isub, 1) := by decide +kernel
theorem dX6_work_115 : decode cX6_work 115 = .ok (.iaload, 1) := by decide +kernel
theorem dX6_work_116 : decode cX6_work 116 = .ok (.ifCond .ne 7, 3) := by decide +kernel
theorem dX6_work_119 : decode cX6_work 119 = .ok (.iconst 1, 1) := by decide +kernel
theorem dX6_work_120 : decode cX6_work 120 = .ok (.goto 4, 3) := by decide +kernel
theorem dX6_work_123 : decode cX6_work 123 = .ok (.iconst 0, 1) := by decide +kernel
theorem dX6_work_124 : decode cX6_work 124 = .ok (.iastore, 1) := by decide +kernel
theorem dX6_work_125 : decode cX6_work 125 = .ok (.goto 48, 3) := by decide +kernel
theorem dX6_work_128 : decode cX6_work 128 = .ok (.iload 4, 2) := by decide +kernel
theorem dX6_work_130 : decode cX6_work 130 = .ok (.iconst 2, 1) := by decide +kernel
theorem dX6_work_131 : decode cX6_work 131 = .ok (.if_icmp .lt 42, 3) := by decide +kernel
theorem dX6_work_134 : decode cX6_work 134 = .ok (.aload_n 0, 1) := by decide +kernel
theorem dX6_work_135 : decode cX6_work 135 = .ok (.getfield 15, 3) := by decide +kernel
theorem dX6_work_138 : decode cX6_work 138 = .ok (.iload 4, 2) := by decide +kernel
theorem dX6_work_140 : decode cX6_work 140 = .ok (.iconst 2, 1) := by decide +kernel
theorem dX6_work_141 : decode cX6_work 141 = .ok (.isub, 1) := by decide +kernel
theorem dX6_work_142 : decode cX6_work 142 = .ok (.iload 6, 2) := by decide +kernel
theorem dX6_work_144 : decode cX6_work 144 = .ok (.sipush 10000, 3) := by decide +kernel
theorem dX6_work_147 : decode cX6_work 147 = .ok (.isub, 1) := by decide +kernel
theorem dX6_work_148 : decode cX6_work 148 = .ok (.aload_n 0, 1) := by decide +kernel
theorem dX6_work_149 : decode cX6_work 149 = .ok (.getfield 15, 3) := by decide +kernel
theorem dX6_work_152 : decode cX6_work 152 = .ok (.iload 4, 2) := by decide +kernel
theorem dX6_work_154 : decode cX6_work 154 = .ok (.iconst 2, 1) := by decide +kernel
theorem dX6_work_155 : decode cX6_work 155 = .ok (.isub, 1) := by decide +kernel
theorem dX6_work_156 : decode cX6_work 156 = .ok (.iaload, 1) := by decide +kernel
theorem dX6_work_157 : decode cX6_work 157 = .ok (.aload_n 0, 1) := by decide +kernel
theorem dX6_work_158 : decode cX6_work 158 = .ok (.getfield 15, 3) := by decide +kernel
theorem dX6_work_161 : decode cX6_work 161 = .ok (.iload 4, 2) := by decide +kernel
theorem dX6_work_163 : decode cX6_work 163 = .ok (.iconst 1, 1) := by decide +kernel
theorem dX6_work_164 : decode cX6_work 164 = .ok (.isub, 1) := by decide +kernel
theorem dX6_work_165 : decode cX6_work 165 = .ok (.iaload, 1) := by decide +kernel
theorem dX6_work_166 : decode cX6_work 166 = .ok (.invokestatic 32, 3) := by decide +kernel
theorem dX6_work_169 : decode cX6_work 169 = .ok (.iastore, 1) := by decide +kernel
theorem dX6_work_170 : decode cX6_work 170 = .ok (.iinc 4 (-1), 3) := by decide +kernel
theorem dX6_work_173 : decode cX6_work 173 = .ok (.iinc 5 1, 3) := by decide +kernel
theorem dX6_work_176 : decode cX6_work 176 = .ok (.goto (-170), 3) := by decide +kernel
theorem dX6_work_179 : decode cX6_work 179 = .ok (.aload_n 0, 1) := by decide +kernel
theorem dX6_work_180 : decode cX6_work 180 = .ok (.getfield 15, 3) := by decide +kernel
theorem dX6_work_183 : decode cX6_work 183 = .ok (.iconst 0, 1) := by decide +kernel
theorem dX6_work_184 : decode cX6_work 184 = .ok (.iaload, 1) := by decide +kernel
theorem dX6_work_185 : decode cX6_work 185 = .ok (.ireturn, 1) := by decide +kernel
theorem dX6_nameAt_0 : decode cX6_nameAt 0 = .ok (.iload_n 0, 1) := by decide +kernel
theorem dX6_nameAt_1 : decode cX6_nameAt 1 = .ok (.lookupswitch 31 #[(0, 27), (1, 29)], 27) := by decide +kernel
theorem dX6_nameAt_28 : decode cX6_nameAt 28 = .ok (.iload_n 1, 1) := by decide +kernel
theorem dX6_nameAt_29 : decode cX6_nameAt 29 = .ok (.ireturn, 1) := by decide +kernel
theorem dX6_nameAt_30 : decode cX6_nameAt 30 = .ok (.iload_n 2, 1) := by decide +kernel
theorem dX6_nameAt_31 : decode cX6_nameAt 31 = .ok (.ireturn, 1) := by decide +kernel
theorem dX6_nameAt_32 : decode cX6_nameAt 32 = .ok (.iload_n 3, 1) := by decide +kernel
theorem dX6_nameAt_33 : decode cX6_nameAt 33 = .ok (.ireturn, 1) := by decide +kernel
theorem dX6_join_0 : decode cX6_join 0 = .ok (.iload_n 0, 1) := by decide +kernel
theorem dX6_join_1 : decode cX6_join 1 = .ok (.lookupswitch 168 #[(38, 97), (42, 152), (43, 144), (45, 148), (47, 156), (60, 111), (61, 122), (62, 133), (124, 83)], 83) := by decide +kernel
theorem dX6_join_84 : decode cX6_join 84 = .ok (.iload_n 1, 1) := by decide +kernel
theorem dX6_join_85 : decode cX6_join 85 = .ok (.ifCond .ne 7, 3) := by decide +kernel
theorem dX6_join_88 : decode cX6_join 88 = .ok (.iload_n 2, 1) := by decide +kernel
theorem dX6_join_89 : decode cX6_join 89 = .ok (.ifCond .eq 7, 3) := by decide +kernel
theorem dX6_join_92 : decode cX6_join 92 = .ok (.iconst 1, 1) := by decide +kernel
theorem dX6_join_93 : decode cX6_join 93 = .ok (.goto 4, 3) := by decide +kernel
theorem dX6_join_96 : decode cX6_join 96 = .ok (.iconst 0, 1) := by decide +kernel
theorem dX6_join_97 : decode cX6_join 97 = .ok (.ireturn, 1) := by decide +kernel
theorem dX6_join_98 : decode cX6_join 98 = .ok (.iload_n 1, 1) := by decide +kernel
theorem dX6_join_99 : decode cX6_join 99 = .ok (.ifCond .eq 11, 3) := by decide +kernel
theorem dX6_join_102 : decode cX6_join 102 = .ok (.iload_n 2, 1) := by decide +kernel
theorem dX6_join_103 : decode cX6_join 103 = .ok (.ifCond .eq 7, 3) := by decide +kernel
theorem dX6_join_106 : decode cX6_join 106 = .ok (.iconst 1, 1) := by decide +kernel
theorem dX6_join_107 : decode cX6_join 107 = .ok (.goto 4, 3) := by decide +kernel
theorem dX6_join_110 : decode cX6_join 110 = .ok (.iconst 0, 1) := by decide +kernel
theorem dX6_join_111 : decode cX6_join 111 = .ok (.ireturn, 1) := by decide +kernel
theorem dX6_join_112 : decode cX6_join 112 = .ok (.iload_n 1, 1) := by decide +kernel
theorem dX6_join_113 : decode cX6_join 113 = .ok (.iload_n 2, 1) := by decide +kernel
theorem dX6_join_114 : decode cX6_join 114 = .ok (.if_icmp .ge 7, 3) := by decide +kernel
theorem dX6_join_117 : decode cX6_join 117 = .ok (.iconst 1, 1) := by decide +kernel
theorem dX6_join_118 : decode cX6_join 118 = .ok (.goto 4, 3) := by decide +kernel
theorem dX6_join_121 : decode cX6_join 121 = .ok (.iconst 0, 1) := by decide +kernel
theorem dX6_join_122 : decode cX6_join 122 = .ok (.ireturn, 1) := by decide +kernel
theorem dX6_join_123 : decode cX6_join 123 = .ok (.iload_n 1, 1) := by decide +kernel
theorem dX6_join_124 : decode cX6_join 124 = .ok (.iload_n 2, 1) := by decide +kernel
theorem dX6_join_125 : decode cX6_join 125 = .ok (.if_icmp .ne 7, 3) := by decide +kernel
theorem dX6_join_128 : decode cX6_join 128 = .ok (.iconst 1, 1) := by decide +kernel
theorem dX6_join_129 : decode cX6_join 129 = .ok (.goto 4, 3) := by decide +kernel
theorem dX6_join_132 : decode cX6_join 132 = .ok (.iconst 0, 1) := by decide +kernel
theorem dX6_join_133 : decode cX6_join 133 = .ok (.ireturn, 1) := by decide +kernel
theorem dX6_join_134 : decode cX6_join 134 = .ok (.iload_n 1, 1) := by decide +kernel
theorem dX6_join_135 : decode cX6_join 135 = .ok (.iload_n 2, 1) := by decide +kernel
theorem dX6_join_136 : decode cX6_join 136 = .ok (.if_icmp .le 7, 3) := by decide +kernel
theorem dX6_join_139 : decode cX6_join 139 = .ok (.iconst 1, 1) := by decide +kernel
theorem dX6_join_140 : decode cX6_join 140 = .ok (.goto 4, 3) := by decide +kernel
theorem dX6_join_143 : decode cX6_join 143 = .ok (.iconst 0, 1) := by decide +kernel
theorem dX6_join_144 : decode cX6_join 144 = .ok (.ireturn, 1) := by decide +kernel
theorem dX6_join_145 : decode cX6_join 145 = .ok (.iload_n 1, 1) := by decide +kernel
theorem dX6_join_146 : decode cX6_join 146 = .ok (.iload_n 2, 1) := by decide +kernel
theorem dX6_join_147 : decode cX6_join 147 = .ok (.iadd, 1) := by decide +kernel
theorem dX6_join_148 : decode cX6_join 148 = .ok (.ireturn, 1) := by decide +kernel
theorem dX6_join_149 : decode cX6_join 149 = .ok (.iload_n 1, 1) := by decide +kernel
theorem dX6_join_150 : decode cX6_join 150 = .ok (.iload_n 2, 1) := by decide +kernel
theorem dX6_join_151 : decode cX6_join 151 = .ok (.isub, 1) := by decide +kernel
theorem dX6_join_152 : decode cX6_join 152 = .ok (.ireturn, 1) := by decide +kernel
theorem dX6_join_153 : decode cX6_join 153 = .ok (.iload_n 1, 1) := by decide +kernel
theorem dX6_join_154 : decode cX6_join 154 = .ok (.iload_n 2, 1) := by decide +kernel
theorem dX6_join_155 : decode cX6_join 155 = .ok (.imul, 1) := by decide +kernel
theorem dX6_join_156 : decode cX6_join 156 = .ok (.ireturn, 1) := by decide +kernel
theorem dX6_join_157 : decode cX6_join 157 = .ok (.iload_n 2, 1) := by decide +kernel
theorem dX6_join_158 : decode cX6_join 158 = .ok (.ifCond .ne 7, 3) := by decide +kernel
theorem dX6_join_161 : decode cX6_join 161 = .ok (.iconst 0, 1) := by decide +kernel
theorem dX6_join_162 : decode cX6_join 162 = .ok (.goto 6, 3) := by decide +kernel
theorem dX6_join_165 : decode cX6_join 165 = .ok (.iload_n 1, 1) := by decide +kernel
theorem dX6_join_166 : decode cX6_join 166 = .ok (.iload_n 2, 1) := by decide +kernel
theorem dX6_join_167 : decode cX6_join 167 = .ok (.idiv, 1) := by decide +kernel
theorem dX6_join_168 : decode cX6_join 168 = .ok (.ireturn, 1) := by decide +kernel
theorem dX6_join_169 : decode cX6_join 169 = .ok (.iload_n 2, 1) := by decide +kernel
theorem dX6_join_170 : decode cX6_join 170 = .ok (.ifCond .ne 7, 3) := by decide +kernel
theorem dX6_join_173 : decode cX6_join 173 = .ok (.iconst 0, 1) := by decide +kernel
theorem dX6_join_174 : decode cX6_join 174 = .ok (.goto 6, 3) := by decide +kernel
theorem dX6_join_177 : decode cX6_join 177 = .ok (.iload_n 1, 1) := by decide +kernel
theorem dX6_join_178 : decode cX6_join 178 = .ok (.iload_n 2, 1) := by decide +kernel
theorem dX6_join_179 : decode cX6_join 179 = .ok (.irem, 1) := by decide +kernel
theorem dX6_join_180 : decode cX6_join 180 = .ok (.ireturn, 1) := by decide +kernel
theorem dX7_init_0 : decode cX7_init 0 = .ok (.aload_n 0, 1) := by decide +kernel
theorem dX7_init_1 : decode cX7_init 1 = .ok (.invokespecial 3, 3) := by decide +kernel
theorem dX7_init_4 : decode cX7_init 4 = .ok (.aload_n 0, 1) := by decide +kernel
theorem dX7_init_5 : decode cX7_init 5 = .ok (.iconst 0, 1) := by decide +kernel
theorem dX7_init_6 : decode cX7_init 6 = .ok (.putfield 9, 3) := by decide +kernel
theorem dX7_init_9 : decode cX7_init 9 = .ok (.aload_n 0, 1) := by decide +kernel
theorem dX7_init_10 : decode cX7_init 10 = .ok (.iconst 0, 1) := by decide +kernel
theorem dX7_init_11 : decode cX7_init 11 = .ok (.putfield 15, 3) := by decide +kernel
theorem dX7_init_14 : decode cX7_init 14 = .ok (.aload_n 0, 1) := by decide +kernel
theorem dX7_init_15 : decode cX7_init 15 = .ok (.bipush 30, 2) := by decide +kernel
theorem dX7_init_17 : decode cX7_init 17 = .ok (.newarray .int, 2) := by decide +kernel
theorem dX7_init_19 : decode cX7_init 19 = .ok (.putfield 19, 3) := by decide +kernel
theorem dX7_init_22 : decode cX7_init 22 = .ok (.aload_n 0, 1) := by decide +kernel
theorem dX7_init_23 : decode cX7_init 23 = .ok (.iconst 0, 1) := by decide +kernel
theorem dX7_init_24 : decode cX7_init 24 = .ok (.putfield 23, 3) := by decide +kernel
theorem dX7_init_27 : decode cX7_init 27 = .ok (.aload_n 0, 1) := by decide +kernel
theorem dX7_init_28 : decode cX7_init 28 = .ok (.iconst 0, 1) := by decide +kernel
theorem dX7_init_29 : decode cX7_init 29 = .ok (.putfield 26, 3) := by decide +kernel
theorem dX7_init_32 : decode cX7_init 32 = .ok (.aload_n 0, 1) := by decide +kernel
theorem dX7_init_33 : decode cX7_init 33 = .ok (.iconst 0, 1) := by decide +kernel
theorem dX7_init_34 : decode cX7_init 34 = .ok (.putfield 29, 3) := by decide +kernel
theorem dX7_init_37 : decode cX7_init 37 = .ok (.return_, 1) := by decide +kernel
set_option maxRecDepth 20000 in
theorem ggX7_sound_X7_own : GoodIn wsX7_sound wsX7_own := goodIn_r _ [13, 4, 14, 15, 12, 16, 17, 18, 19, 20, 21, 22, 23, 24, 25, 26, 27, 28, 2, 8, 6, 29, 30, 31, 32, 1, 33, 9, 10, 11, 34, 35, 36, 37, 38, 39, 40, 41, 42, 43, 44, 45, 46] (by decide +kernel) (by decide +kernel)
set_option maxRecDepth 20000 in
theorem gX7_sound_X7_own : GoodIn wsX7_sound (wsV RX7 37 RX7 yX7_own wsX7_own) := goodIn_app (goodIn_of _ (by decide +kernel)) ggX7_sound_X7_own
theorem dX7_sound_0 : decode cX7_sound 0 = .ok (.aload_n 0, 1) := by decide +kernel
theorem dX7_sound_1 : decode cX7_sound 1 = .ok (.iconst 0, 1) := by decide +kernel
theorem dX7_sound_2 : decode cX7_sound 2 = .ok (.putfield 9, 3) := by decide +kernel
theorem dX7_sound_5 : decode cX7_sound 5 = .ok (.aload_n 0, 1) := by decide +kernel
theorem dX7_sound_6 : decode cX7_sound 6 = .ok (.iconst 0, 1) := by decide +kernel
theorem dX7_sound_7 : decode cX7_sound 7 = .ok (.putfield 15, 3) := by decide +kernel
theorem dX7_sound_10 : decode cX7_sound 10 = .ok (.aload_n 0, 1) := by decide +kernel
theorem dX7_sound_11 : decode cX7_sound 11 = .ok (.aload_n 1, 1) := by decide +kernel
theorem dX7_sound_12 : decode cX7_sound 12 = .ok (.getfield 32, 3) := by decide +kernel
theorem dX7_sound_15 : decode cX7_sound 15 = .ok (.putfield 23, 3) := by decide +kernel
theorem dX7_sound_18 : decode cX7_sound 18 = .ok (.aload_n 0, 1) := by decide +kernel
theorem dX7_sound_19 : decode cX7_sound 19 = .ok (.aload_n 1, 1) := by decide +kernel
theorem dX7_sound_20 : decode cX7_sound 20 = .ok (.getfield 35, 3) := by decide +kernel
theorem dX7_sound_23 : decode cX7_sound 23 = .ok (.putfield 26, 3) := by decide +kernel
theorem dX7_sound_26 : decode cX7_sound 26 = .ok (.aload_n 0, 1) := by decide +kernel
theorem dX7_sound_27 : decode cX7_sound 27 = .ok (.aload_n 1, 1) := by decide +kernel
theorem dX7_sound_28 : decode cX7_sound 28 = .ok (.getfield 36, 3) := by decide +kernel
theorem dX7_sound_31 : decode cX7_sound 31 = .ok (.putfield 29, 3) := by decide +kernel
theorem dX7_sound_34 : decode cX7_sound 34 = .ok (.aload_n 0, 1) := by decide +kernel
theorem dX7_sound_35 : decode cX7_sound 35 = .ok (.iload_n 2, 1) := by decide +kernel
theorem dX7_sound_36 : decode cX7_sound 36 = .ok (.iload_n 3, 1) := by decide +kernel
theorem dX7_sound_37 : decode cX7_sound 37 = .ok (.iconst 0, 1) := by decide +kernel
theorem dX7_sound_38 : decode cX7_sound 38 = .ok (.invokevirtual 37, 3) := by decide +kernel
theorem dX7_sound_41 : decode cX7_sound 41 = .ok (.ireturn, 1) := by decide +kernel
theorem dX7_bodyAt_0 : decode cX7_bodyAt 0 = .ok (.iload_n 1, 1) := by decide +kernel
theorem dX7_bodyAt_1 : decode cX7_bodyAt 1 = .ok (.ifCond .lt 29, 3) := by decide +kernel
theorem dX7_bodyAt_4 : decode cX7_bodyAt 4 = .ok (.iload_n 1, 1) := by decide +kernel
theorem dX7_bodyAt_5 : decode cX7_bodyAt 5 = .ok (.aload_n 0, 1) := by decide +kernel
theorem dX7_bodyAt_6 : decode cX7_bodyAt 6 = .ok (.getfield 9, 3) := by decide +kernel
theorem dX7_bodyAt_9 : decode cX7_bodyAt 9 = .ok (.if_icmp .ge 21, 3) := by decide +kernel
theorem dX7_bodyAt_12 : decode cX7_bodyAt 12 = .ok (.iload_n 1, 1) := by decide +kernel
theorem dX7_bodyAt_13 : decode cX7_bodyAt 13 = .ok (.aload_n 0, 1) := by decide +kernel
theorem dX7_bodyAt_14 : decode cX7_bodyAt 14 = .ok (.getfield 19, 3) := by decide +kernel
theorem dX7_bodyAt_17 : decode cX7_bodyAt 17 = .ok (.arraylength, 1) := by decide +kernel
theorem dX7_bodyAt_18 : decode cX7_bodyAt 18 = .ok (.if_icmp .ge 12, 3) := by decide +kernel
theorem dX7_bodyAt_21 : decode cX7_bodyAt 21 = .ok (.aload_n 0, 1) := by decide +kernel
theorem dX7_bodyAt_22 : decode cX7_bodyAt 22 = .ok (.getfield 19, 3) := by decide +kernel
theorem dX7_bodyAt_25 : decode cX7_bodyAt 25 = .ok (.iload_n 1, 1) := by decide +kernel
theorem dX7_bodyAt_26 : decode cX7_bodyAt 26 = .ok (.iaload, 1) := by decide +kernel
theorem dX7_bodyAt_27 : decode cX7_bodyAt 27 = .ok (.goto 4, 3) := by decide +kernel
theorem dX7_bodyAt_30 : decode cX7_bodyAt 30 = .ok (.iconst 0, 1) := by decide +kernel
theorem dX7_bodyAt_31 : decode cX7_bodyAt 31 = .ok (.ireturn, 1) := by decide +kernel
set_option maxRecDepth 20000 in
theorem ggX7_own_X7_bodyFrom : GoodIn wsX7_own wsX7_bodyFrom := goodIn_r _ [5, 6, 7, 4, 8, 9, 10, 11, 12] (by decide +kernel) (by decide +kernel)
set_option maxRecDepth 20000 in
theorem gX7_own_X7_bodyFrom : GoodIn wsX7_own (va_wsS RX7 41 yX7_bodyFrom wsX7_bodyFrom) := goodIn_app (goodIn_of _ (by decide +kernel)) ggX7_own_X7_bodyFrom
set_option maxRecDepth 20000 in
theorem ggX7_own_X7_begin : GoodIn wsX7_own wsX7_begin := goodIn_r _ [17, 18, 19, 20, 21, 22, 23, 4, 24, 25, 26, 27, 28, 29, 30, 31, 32, 33, 34, 35, 36, 16, 9, 10, 11, 12, 2, 3, 5, 6, 7, 8, 13, 14, 15, 0, 1, 37, 38, 39, 40, 41, 42] (by decide +kernel) (by decide +kernel)
set_option maxRecDepth 20000 in
theorem gX7_own_X7_begin : GoodIn wsX7_own (wsV RX7 45 RX7 yX7_begin wsX7_begin) := goodIn_app (goodIn_of _ (by decide +kernel)) ggX7_own_X7_begin
theorem dX7_own_0 : decode cX7_own 0 = .ok (.aload_n 0, 1) := by decide +kernel
theorem dX7_own_1 : decode cX7_own 1 = .ok (.aload_n 0, 1) := by decide +kernel
theorem dX7_own_2 : decode cX7_own 2 = .ok (.getfield 23, 3) := by decide +kernel
theorem dX7_own_5 : decode cX7_own 5 = .ok (.iload_n 1, 1) := by decide +kernel
theorem dX7_own_6 : decode cX7_own 6 = .ok (.invokestatic 41, 3) := by decide +kernel
theorem dX7_own_9 : decode cX7_own 9 = .ok (.iload_n 2, 1) := by decide +kernel
theorem dX7_own_10 : decode cX7_own 10 = .ok (.iload_n 3, 1) := by decide +kernel
theorem dX7_own_11 : decode cX7_own 11 = .ok (.iconst 1, 1) := by decide +kernel
theorem dX7_own_12 : decode cX7_own 12 = .ok (.iadd, 1) := by decide +kernel
theorem dX7_own_13 : decode cX7_own 13 = .ok (.invokevirtual 45, 3) := by decide +kernel
theorem dX7_own_16 : decode cX7_own 16 = .ok (.ireturn, 1) := by decide +kernel
set_option maxRecDepth 20000 in
theorem ggX7_above_X8_kindAbove : GoodIn wsX7_above wsX8_kindAbove := goodIn_r _ [3, 4] (by decide +kernel) (by decide +kernel)
set_option maxRecDepth 20000 in
theorem gX7_above_X8_kindAbove_n48 : GoodIn wsX7_above (wsX8_kindAbove) := ggX7_above_X8_kindAbove
set_option maxRecDepth 20000 in
theorem ggX7_above_X7_bodyFrom : GoodIn wsX7_above wsX7_bodyFrom := goodIn_r _ [8, 9, 10, 7, 11, 1, 2, 3, 4] (by decide +kernel) (by decide +kernel)
set_option maxRecDepth 20000 in
theorem gX7_above_X7_bodyFrom : GoodIn wsX7_above (va_wsS RX7 41 yX7_bodyFrom wsX7_bodyFrom) := goodIn_app (goodIn_of _ (by decide +kernel)) ggX7_above_X7_bodyFrom
set_option maxRecDepth 20000 in
theorem ggX7_above_X7_begin : GoodIn wsX7_above wsX7_begin := goodIn_r _ [15, 16, 17, 18, 19, 20, 21, 7, 22, 23, 24, 25, 26, 27, 28, 29, 30, 31, 32, 33, 34, 0, 1, 2, 3, 4, 5, 6, 8, 9, 10, 11, 12, 13, 14, 35, 36, 37, 38, 39, 40, 41, 42] (by decide +kernel) (by decide +kernel)
set_option maxRecDepth 20000 in
theorem gX7_above_X7_begin : GoodIn wsX7_above (wsV RX7 45 RX7 yX7_begin wsX7_begin) := goodIn_app (goodIn_of _ (by decide +kernel)) ggX7_above_X7_begin
theorem dX7_above_0 : decode cX7_above 0 = .ok (.aload_n 0, 1) := by decide +kernel
theorem dX7_above_1 : decode cX7_above 1 = .ok (.iload_n 1, 1) := by decide +kernel
theorem dX7_above_2 : decode cX7_above 2 = .ok (.bipush 10, 2) := by decide +kernel
theorem dX7_above_4 : decode cX7_above 4 = .ok (.idiv, 1) := by decide +kernel
theorem dX7_above_5 : decode cX7_above 5 = .ok (.iconst 1, 1) := by decide +kernel
theorem dX7_above_6 : decode cX7_above 6 = .ok (.isub, 1) := by decide +kernel
theorem dX7_above_7 : decode cX7_above 7 = .ok (.invokestatic 48, 3) := by decide +kernel
theorem dX7_above_10 : decode cX7_above 10 = .ok (.iload_n 2, 1) := by decide +kernel
theorem dX7_above_11 : decode cX7_above 11 = .ok (.invokestatic 41, 3) := by decide +kernel
theorem dX7_above_14 : decode cX7_above 14 = .ok (.iload_n 3, 1) := by decide +kernel
theorem dX7_above_15 : decode cX7_above 15 = .ok (.iload 4, 2) := by decide +kernel
theorem dX7_above_17 : decode cX7_above 17 = .ok (.iconst 1, 1) := by decide +kernel
theorem dX7_above_18 : decode cX7_above 18 = .ok (.iadd, 1) := by decide +kernel
theorem dX7_above_19 : decode cX7_above 19 = .ok (.invokevirtual 45, 3) := by decide +kernel
theorem dX7_above_22 : decode cX7_above 22 = .ok (.ireturn, 1) := by decide +kernel
set_option maxRecDepth 20000 in
theorem ggX7_bodyFrom_X7_bodyOf : GoodIn wsX7_bodyFrom wsX7_bodyOf := goodIn_r _ [4] (by decide +kernel) (by decide +kernel)
set_option maxRecDepth 20000 in
theorem gX7_bodyFrom_X7_bodyOf : GoodIn wsX7_bodyFrom (va_wsS RX7 52 yX7_bodyOf wsX7_bodyOf) := goodIn_app (goodIn_of _ (by decide +kernel)) ggX7_bodyFrom_X7_bodyOf
set_option maxRecDepth 20000 in
theorem ggX7_bodyFrom_X8_kindAbove : GoodIn wsX7_bodyFrom wsX8_kindAbove := goodIn_r _ [7, 8] (by decide +kernel) (by decide +kernel)
set_option maxRecDepth 20000 in
theorem gX7_bodyFrom_X8_kindAbove_n48 : GoodIn wsX7_bodyFrom (wsX8_kindAbove) := ggX7_bodyFrom_X8_kindAbove
theorem dX7_bodyFrom_0 : decode cX7_bodyFrom 0 = .ok (.iload_n 0, 1) := by decide +kernel
theorem dX7_bodyFrom_1 : decode cX7_bodyFrom 1 = .ok (.istore_n 2, 1) := by decide +kernel
theorem dX7_bodyFrom_2 : decode cX7_bodyFrom 2 = .ok (.iconst 0, 1) := by decide +kernel
theorem dX7_bodyFrom_3 : decode cX7_bodyFrom 3 = .ok (.istore_n 3, 1) := by decide +kernel
theorem dX7_bodyFrom_4 : decode cX7_bodyFrom 4 = .ok (.iload_n 3, 1) := by decide +kernel
theorem dX7_bodyFrom_5 : decode cX7_bodyFrom 5 = .ok (.bipush 7, 2) := by decide +kernel
theorem dX7_bodyFrom_7 : decode cX7_bodyFrom 7 = .ok (.if_icmp .ge 22, 3) := by decide +kernel
theorem dX7_bodyFrom_10 : decode cX7_bodyFrom 10 = .ok (.iload_n 2, 1) := by decide +kernel
theorem dX7_bodyFrom_11 : decode cX7_bodyFrom 11 = .ok (.iload_n 1, 1) := by decide +kernel
theorem dX7_bodyFrom_12 : decode cX7_bodyFrom 12 = .ok (.invokestatic 52, 3) := by decide +kernel
theorem dX7_bodyFrom_15 : decode cX7_bodyFrom 15 = .ok (.ifCond .ne 14, 3) := by decide +kernel
theorem dX7_bodyFrom_18 : decode cX7_bodyFrom 18 = .ok (.iload_n 2, 1) := by decide +kernel
theorem dX7_bodyFrom_19 : decode cX7_bodyFrom 19 = .ok (.invokestatic 48, 3) := by decide +kernel
theorem dX7_bodyFrom_22 : decode cX7_bodyFrom 22 = .ok (.istore_n 2, 1) := by decide +kernel
theorem dX7_bodyFrom_23 : decode cX7_bodyFrom 23 = .ok (.iinc 3 1, 3) := by decide +kernel
theorem dX7_bodyFrom_26 : decode cX7_bodyFrom 26 = .ok (.goto (-22), 3) := by decide +kernel
theorem dX7_bodyFrom_29 : decode cX7_bodyFrom 29 = .ok (.iload_n 2, 1) := by decide +kernel
theorem dX7_bodyFrom_30 : decode cX7_bodyFrom 30 = .ok (.iload_n 1, 1) := by decide +kernel
theorem dX7_bodyFrom_31 : decode cX7_bodyFrom 31 = .ok (.invokestatic 52, 3) := by decide +kernel
theorem dX7_bodyFrom_34 : decode cX7_bodyFrom 34 = .ok (.ireturn, 1) := by decide +kernel
theorem dX7_bodyOf_0 : decode cX7_bodyOf 0 = .ok (.iload_n 0, 1) := by decide +kernel
theorem dX7_bodyOf_1 : decode cX7_bodyOf 1 = .ok (.iconst 4, 1) := by decide +kernel
theorem dX7_bodyOf_2 : decode cX7_bodyOf 2 = .ok (.imul, 1) := by decide +kernel
theorem dX7_bodyOf_3 : decode cX7_bodyOf 3 = .ok (.iload_n 1, 1) := by decide +kernel
theorem dX7_bodyOf_4 : decode cX7_bodyOf 4 = .ok (.iadd, 1) := by decide +kernel
theorem dX7_bodyOf_5 : decode cX7_bodyOf 5 = .ok (.istore_n 2, 1) := by decide +kernel
theorem dX7_bodyOf_6 : decode cX7_bodyOf 6 = .ok (.iload_n 2, 1) := by decide +kernel
theorem dX7_bodyOf_7 : decode cX7_bodyOf 7 = .ok (.ifCond .lt 19, 3) := by decide +kernel
theorem dX7_bodyOf_10 : decode cX7_bodyOf 10 = .ok (.iload_n 2, 1) := by decide +kernel
theorem dX7_bodyOf_11 : decode cX7_bodyOf 11 = .ok (.getstatic 55, 3) := by decide +kernel
theorem dX7_bodyOf_14 : decode cX7_bodyOf 14 = .ok (.arraylength, 1) := by decide +kernel
theorem dX7_bodyOf_15 : decode cX7_bodyOf 15 = .ok (.if_icmp .ge 11, 3) := by decide +kernel
theorem dX7_bodyOf_18 : decode cX7_bodyOf 18 = .ok (.getstatic 55, 3) := by decide +kernel
theorem dX7_bodyOf_21 : decode cX7_bodyOf 21 = .ok (.iload_n 2, 1) := by decide +kernel
theorem dX7_bodyOf_22 : decode cX7_bodyOf 22 = .ok (.iaload, 1) := by decide +kernel
theorem dX7_bodyOf_23 : decode cX7_bodyOf 23 = .ok (.goto 4, 3) := by decide +kernel
theorem dX7_bodyOf_26 : decode cX7_bodyOf 26 = .ok (.iconst 0, 1) := by decide +kernel
theorem dX7_bodyOf_27 : decode cX7_bodyOf 27 = .ok (.ireturn, 1) := by decide +kernel
set_option maxRecDepth 20000 in
theorem ggX7_begin_X7_note : GoodIn wsX7_begin wsX7_note := goodIn_r _ [8, 9, 10, 37, 38, 39, 40, 41, 42] (by decide +kernel) (by decide +kernel)
set_option maxRecDepth 20000 in
theorem gX7_begin_X7_note : GoodIn wsX7_begin (wsV RX7 58 RX7 yX7_note wsX7_note) := goodIn_app (goodIn_of _ (by decide +kernel)) ggX7_begin_X7_note
set_option maxRecDepth 20000 in
theorem ggX7_begin_X7_own : GoodIn wsX7_begin wsX7_own := goodIn_r _ [35, 36, 26, 27, 7, 28, 29, 30, 31, 22, 23, 24, 25, 32, 33, 34, 21, 0, 1, 2, 3, 4, 5, 6, 8, 9, 10, 11, 12, 13, 14, 15, 16, 17, 18, 19, 20, 37, 38, 39, 40, 41, 42] (by decide +kernel) (by decide +kernel)
set_option maxRecDepth 20000 in
theorem gX7_begin_X7_own : GoodIn wsX7_begin (wsV RX7 37 RX7 yX7_own wsX7_own) := goodIn_app (goodIn_of _ (by decide +kernel)) ggX7_begin_X7_own
set_option maxRecDepth 20000 in
theorem ggX7_begin_X7_part : GoodIn wsX7_begin wsX7_part := goodIn_r _ [17, 3, 2, 1, 37, 38, 39, 40, 41, 42] (by decide +kernel) (by decide +kernel)
set_option maxRecDepth 20000 in
theorem gX7_begin_X7_part : GoodIn wsX7_begin (wsV RX7 62 RX7 yX7_part wsX7_part) := goodIn_app (goodIn_of _ (by decide +kernel)) ggX7_begin_X7_part
set_option maxRecDepth 20000 in
theorem ggX7_begin_X7_above : GoodIn wsX7_begin wsX7_above := goodIn_r _ [21, 22, 23, 24, 25, 26, 27, 7, 28, 29, 30, 31, 32, 33, 34, 0, 1, 2, 3, 4, 5, 6, 8, 9, 10, 11, 12, 13, 14, 15, 16, 17, 18, 19, 20, 35, 36, 37, 38, 39, 40, 41, 42] (by decide +kernel) (by decide +kernel)
set_option maxRecDepth 20000 in
theorem gX7_begin_X7_above : GoodIn wsX7_begin (wsV RX7 65 RX7 yX7_above wsX7_above) := goodIn_app (goodIn_of _ (by decide +kernel)) ggX7_begin_X7_above
theorem dX7_begin_0 : decode cX7_begin 0 = .ok (.aload_n 0, 1) := by decide +kernel
theorem dX7_begin_1 : decode cX7_begin 1 = .ok (.getfield 15, 3) := by decide +kernel
theorem dX7_begin_4 : decode cX7_begin 4 = .ok (.ifCond .ne 9, 3) := by decide +kernel
theorem dX7_begin_7 : decode cX7_begin 7 = .ok (.iload_n 3, 1) := by decide +kernel
theorem dX7_begin_8 : decode cX7_begin 8 = .ok (.bipush 30, 2) := by decide +kernel
theorem dX7_begin_10 : decode cX7_begin 10 = .ok (.if_icmp .le 5, 3) := by decide +kernel
theorem dX7_begin_13 : decode cX7_begin 13 = .ok (.iconst 0, 1) := by decide +kernel
theorem dX7_begin_14 : decode cX7_begin 14 = .ok (.ireturn, 1) := by decide +kernel
theorem dX7_begin_15 : decode cX7_begin 15 = .ok (.aload_n 0, 1) := by decide +kernel
theorem dX7_begin_16 : decode cX7_begin 16 = .ok (.iload_n 1, 1) := by decide +kernel
theorem dX7_begin_17 : decode cX7_begin 17 = .ok (.invokevirtual 58, 3) := by decide +kernel
theorem dX7_begin_20 : decode cX7_begin 20 = .ok (.iload_n 1, 1) := by decide +kernel
theorem dX7_begin_21 : decode cX7_begin 21 = .ok (.lookupswitch 254 #[(10, 115), (11, 122), (12, 132), (13, 145), (20, 151), (21, 162), (30, 179), (40, 190), (50, 201), (51, 212), (60, 226), (70, 237), (71, 240)], 115) := by decide +kernel
theorem dX7_begin_136 : decode cX7_begin 136 = .ok (.iload_n 2, 1) := by decide +kernel
theorem dX7_begin_137 : decode cX7_begin 137 = .ok (.aload_n 0, 1) := by decide +kernel
theorem dX7_begin_138 : decode cX7_begin 138 = .ok (.getfield 29, 3) := by decide +kernel
theorem dX7_begin_141 : decode cX7_begin 141 = .ok (.iadd, 1) := by decide +kernel
theorem dX7_begin_142 : decode cX7_begin 142 = .ok (.ireturn, 1) := by decide +kernel
theorem dX7_begin_143 : decode cX7_begin 143 = .ok (.aload_n 0, 1) := by decide +kernel
theorem dX7_begin_144 : decode cX7_begin 144 = .ok (.iconst 0, 1) := by decide +kernel
theorem dX7_begin_145 : decode cX7_begin 145 = .ok (.iload_n 2, 1) := by decide +kernel
theorem dX7_begin_146 : decode cX7_begin 146 = .ok (.iload_n 3, 1) := by decide +kernel
theorem dX7_begin_147 : decode cX7_begin 147 = .ok (.invokevirtual 37, 3) := by decide +kernel
theorem dX7_begin_150 : decode cX7_begin 150 = .ok (.iconst 2, 1) := by decide +kernel
theorem dX7_begin_151 : decode cX7_begin 151 = .ok (.imul, 1) := by decide +kernel
theorem dX7_begin_152 : decode cX7_begin 152 = .ok (.ireturn, 1) := by decide +kernel
theorem dX7_begin_153 : decode cX7_begin 153 = .ok (.aload_n 0, 1) := by decide +kernel
theorem dX7_begin_154 : decode cX7_begin 154 = .ok (.iconst 1, 1) := by decide +kernel
theorem dX7_begin_155 : decode cX7_begin 155 = .ok (.iload_n 2, 1) := by decide +kernel
theorem dX7_begin_156 : decode cX7_begin 156 = .ok (.iload_n 3, 1) := by decide +kernel
theorem dX7_begin_157 : decode cX7_begin 157 = .ok (.invokevirtual 37, 3) := by decide +kernel
theorem dX7_begin_160 : decode cX7_begin 160 = .ok (.aload_n 0, 1) := by decide +kernel
theorem dX7_begin_161 : decode cX7_begin 161 = .ok (.getfield 26, 3) := by decide +kernel
theorem dX7_begin_164 : decode cX7_begin 164 = .ok (.isub, 1) := by decide +kernel
theorem dX7_begin_165 : decode cX7_begin 165 = .ok (.ireturn, 1) := by decide +kernel
theorem dX7_begin_166 : decode cX7_begin 166 = .ok (.aload_n 0, 1) := by decide +kernel
theorem dX7_begin_167 : decode cX7_begin 167 = .ok (.iload_n 2, 1) := by decide +kernel
theorem dX7_begin_168 : decode cX7_begin 168 = .ok (.invokevirtual 62, 3) := by decide +kernel
theorem dX7_begin_171 : decode cX7_begin 171 = .ok (.ireturn, 1) := by decide +kernel
theorem dX7_begin_172 : decode cX7_begin 172 = .ok (.aload_n 0, 1) := by decide +kernel
theorem dX7_begin_173 : decode cX7_begin 173 = .ok (.iload_n 1, 1) := by decide +kernel
theorem dX7_begin_174 : decode cX7_begin 174 = .ok (.iconst 0, 1) := by decide +kernel
theorem dX7_begin_175 : decode cX7_begin 175 = .ok (.iload_n 2, 1) := by decide +kernel
theorem dX7_begin_176 : decode cX7_begin 176 = .ok (.iload_n 3, 1) := by decide +kernel
theorem dX7_begin_177 : decode cX7_begin 177 = .ok (.invokevirtual 65, 3) := by decide +kernel
theorem dX7_begin_180 : decode cX7_begin 180 = .ok (.iconst 4, 1) := by decide +kernel
theorem dX7_begin_181 : decode cX7_begin 181 = .ok (.isub, 1) := by decide +kernel
theorem dX7_begin_182 : decode cX7_begin 182 = .ok (.ireturn, 1) := by decide +kernel
theorem dX7_begin_183 : decode cX7_begin 183 = .ok (.aload_n 0, 1) := by decide +kernel
theorem dX7_begin_184 : decode cX7_begin 184 = .ok (.iload_n 1, 1) := by decide +kernel
theorem dX7_begin_185 : decode cX7_begin 185 = .ok (.iconst 3, 1) := by decide +kernel
theorem dX7_begin_186 : decode cX7_begin 186 = .ok (.iload_n 2, 1) := by decide +kernel
theorem dX7_begin_187 : decode cX7_begin 187 = .ok (.iload_n 3, 1) := by decide +kernel
theorem dX7_begin_188 : decode cX7_begin 188 = .ok (.invokevirtual 65, 3) := by decide +kernel
theorem dX7_begin_191 : decode cX7_begin 191 = .ok (.aload_n 0, 1) := by decide +kernel
theorem dX7_begin_192 : decode cX7_begin 192 = .ok (.iconst 1, 1) := by decide +kernel
theorem dX7_begin_193 : decode cX7_begin 193 = .ok (.iconst 1, 1) := by decide +kernel
theorem dX7_begin_194 : decode cX7_begin 194 = .ok (.iload_n 3, 1) := by decide +kernel
theorem dX7_begin_195 : decode cX7_begin 195 = .ok (.invokevirtual 37, 3) := by decide +kernel
theorem dX7_begin_198 : decode cX7_begin 198 = .ok (.iadd, 1) := by decide +kernel
theorem dX7_begin_199 : decode cX7_begin 199 = .ok (.ireturn, 1) := by decide +kernel
theorem dX7_begin_200 : decode cX7_begin 200 = .ok (.iconst 0, 1) := by decide +kernel
theorem dX7_begin_201 : decode cX7_begin 201 = .ok (.aload_n 0, 1) := by decide +kernel
theorem dX7_begin_202 : decode cX7_begin 202 = .ok (.iload_n 1, 1) := by decide +kernel
theorem dX7_begin_203 : decode cX7_begin 203 = .ok (.iconst 1, 1) := by decide +kernel
theorem dX7_begin_204 : decode cX7_begin 204 = .ok (.iload_n 2, 1) := by decide +kernel
theorem dX7_begin_205 : decode cX7_begin 205 = .ok (.iload_n 3, 1) := by decide +kernel
theorem dX7_begin_206 : decode cX7_begin 206 = .ok (.invokevirtual 65, 3) := by decide +kernel
theorem dX7_begin_209 : decode cX7_begin 209 = .ok (.isub, 1) := by decide +kernel
theorem dX7_begin_210 : decode cX7_begin 210 = .ok (.ireturn, 1) := by decide +kernel
theorem dX7_begin_211 : decode cX7_begin 211 = .ok (.aload_n 0, 1) := by decide +kernel
theorem dX7_begin_212 : decode cX7_begin 212 = .ok (.iload_n 1, 1) := by decide +kernel
theorem dX7_begin_213 : decode cX7_begin 213 = .ok (.iconst 2, 1) := by decide +kernel
theorem dX7_begin_214 : decode cX7_begin 214 = .ok (.iload_n 2, 1) := by decide +kernel
theorem dX7_begin_215 : decode cX7_begin 215 = .ok (.iconst 2, 1) := by decide +kernel
theorem dX7_begin_216 : decode cX7_begin 216 = .ok (.idiv, 1) := by decide +kernel
theorem dX7_begin_217 : decode cX7_begin 217 = .ok (.iload_n 3, 1) := by decide +kernel
theorem dX7_begin_218 : decode cX7_begin 218 = .ok (.invokevirtual 65, 3) := by decide +kernel
theorem dX7_begin_221 : decode cX7_begin 221 = .ok (.ireturn, 1) := by decide +kernel
theorem dX7_begin_222 : decode cX7_begin 222 = .ok (.aload_n 0, 1) := by decide +kernel
theorem dX7_begin_223 : decode cX7_begin 223 = .ok (.iload_n 1, 1) := by decide +kernel
theorem dX7_begin_224 : decode cX7_begin 224 = .ok (.iconst 0, 1) := by decide +kernel
theorem dX7_begin_225 : decode cX7_begin 225 = .ok (.iload_n 2, 1) := by decide +kernel
theorem dX7_begin_226 : decode cX7_begin 226 = .ok (.iload_n 3, 1) := by decide +kernel
theorem dX7_begin_227 : decode cX7_begin 227 = .ok (.invokevirtual 65, 3) := by decide +kernel
theorem dX7_begin_230 : decode cX7_begin 230 = .ok (.iconst 3, 1) := by decide +kernel
theorem dX7_begin_231 : decode cX7_begin 231 = .ok (.imul, 1) := by decide +kernel
theorem dX7_begin_232 : decode cX7_begin 232 = .ok (.ireturn, 1) := by decide +kernel
theorem dX7_begin_233 : decode cX7_begin 233 = .ok (.aload_n 0, 1) := by decide +kernel
theorem dX7_begin_234 : decode cX7_begin 234 = .ok (.iload_n 1, 1) := by decide +kernel
theorem dX7_begin_235 : decode cX7_begin 235 = .ok (.iconst 2, 1) := by decide +kernel
theorem dX7_begin_236 : decode cX7_begin 236 = .ok (.iload_n 2, 1) := by decide +kernel
theorem dX7_begin_237 : decode cX7_begin 237 = .ok (.iload_n 3, 1) := by decide +kernel
theorem dX7_begin_238 : decode cX7_begin 238 = .ok (.invokevirtual 65, 3) := by decide +kernel
theorem dX7_begin_241 : decode cX7_begin 241 = .ok (.aload_n 0, 1) := by decide +kernel
theorem dX7_begin_242 : decode cX7_begin 242 = .ok (.getfield 29, 3) := by decide +kernel
theorem dX7_begin_245 : decode cX7_begin 245 = .ok (.ixor, 1) := by decide +kernel
theorem dX7_begin_246 : decode cX7_begin 246 = .ok (.ireturn, 1) := by decide +kernel
theorem dX7_begin_247 : decode cX7_begin 247 = .ok (.aload_n 0, 1) := by decide +kernel
theorem dX7_begin_248 : decode cX7_begin 248 = .ok (.iload_n 1, 1) := by decide +kernel
theorem dX7_begin_249 : decode cX7_begin 249 = .ok (.iconst 1, 1) := by decide +kernel
theorem dX7_begin_250 : decode cX7_begin 250 = .ok (.iload_n 2, 1) := by decide +kernel
theorem dX7_begin_251 : decode cX7_begin 251 = .ok (.iconst 1, 1) := by decide +kernel
theorem dX7_begin_252 : decode cX7_begin 252 = .ok (.iadd, 1) := by decide +kernel
theorem dX7_begin_253 : decode cX7_begin 253 = .ok (.iload_n 3, 1) := by decide +kernel
theorem dX7_begin_254 : decode cX7_begin 254 = .ok (.invokevirtual 65, 3) := by decide +kernel
theorem dX7_begin_257 : decode cX7_begin 257 = .ok (.ireturn, 1) := by decide +kernel
theorem dX7_begin_258 : decode cX7_begin 258 = .ok (.bipush 9, 2) := by decide +kernel
theorem dX7_begin_260 : decode cX7_begin 260 = .ok (.ireturn, 1) := by decide +kernel
theorem dX7_begin_261 : decode cX7_begin 261 = .ok (.aload_n 0, 1) := by decide +kernel
theorem dX7_begin_262 : decode cX7_begin 262 = .ok (.iload_n 1, 1) := by decide +kernel
theorem dX7_begin_263 : decode cX7_begin 263 = .ok (.iconst 1, 1) := by decide +kernel
theorem dX7_begin_264 : decode cX7_begin 264 = .ok (.iload_n 2, 1) := by decide +kernel
theorem dX7_begin_265 : decode cX7_begin 265 = .ok (.iload_n 3, 1) := by decide +kernel
theorem dX7_begin_266 : decode cX7_begin 266 = .ok (.invokevirtual 65, 3) := by decide +kernel
theorem dX7_begin_269 : decode cX7_begin 269 = .ok (.aload_n 0, 1) := by decide +kernel
theorem dX7_begin_270 : decode cX7_begin 270 = .ok (.getfield 26, 3) := by decide +kernel
theorem dX7_begin_273 : decode cX7_begin 273 = .ok (.iadd, 1) := by decide +kernel
theorem dX7_begin_274 : decode cX7_begin 274 = .ok (.ireturn, 1) := by decide +kernel
theorem dX7_begin_275 : decode cX7_begin 275 = .ok (.iconst 0, 1) := by decide +kernel
theorem dX7_begin_276 : decode cX7_begin 276 = .ok (.ireturn, 1) := by decide +kernel
theorem dX7_part_0 : decode cX7_part 0 = .ok (.aload_n 0, 1) := by decide +kernel
theorem dX7_part_1 : decode cX7_part 1 = .ok (.getfield 26, 3) := by decide +kernel
theorem dX7_part_4 : decode cX7_part 4 = .ok (.aload_n 0, 1) := by decide +kernel
theorem dX7_part_5 : decode cX7_part 5 = .ok (.getfield 29, 3) := by decide +kernel
theorem dX7_part_8 : decode cX7_part 8 = .ok (.isub, 1) := by decide +kernel
theorem dX7_part_9 : decode cX7_part 9 = .ok (.istore_n 2, 1) := by decide +kernel
theorem dX7_part_10 : decode cX7_part 10 = .ok (.iload_n 2, 1) := by decide +kernel
theorem dX7_part_11 : decode cX7_part 11 = .ok (.ifCond .ne 10, 3) := by decide +kernel
theorem dX7_part_14 : decode cX7_part 14 = .ok (.aload_n 0, 1) := by decide +kernel
theorem dX7_part_15 : decode cX7_part 15 = .ok (.iconst 1, 1) := by decide +kernel
theorem dX7_part_16 : decode cX7_part 16 = .ok (.putfield 15, 3) := by decide +kernel
theorem dX7_part_19 : decode cX7_part 19 = .ok (.iconst 0, 1) := by decide +kernel
theorem dX7_part_20 : decode cX7_part 20 = .ok (.ireturn, 1) := by decide +kernel
theorem dX7_part_21 : decode cX7_part 21 = .ok (.iload_n 1, 1) := by decide +kernel
theorem dX7_part_22 : decode cX7_part 22 = .ok (.iload_n 2, 1) := by decide +kernel
theorem dX7_part_23 : decode cX7_part 23 = .ok (.idiv, 1) := by decide +kernel
theorem dX7_part_24 : decode cX7_part 24 = .ok (.ireturn, 1) := by decide +kernel
theorem dX7_note_0 : decode cX7_note 0 = .ok (.aload_n 0, 1) := by decide +kernel
theorem dX7_note_1 : decode cX7_note 1 = .ok (.getfield 9, 3) := by decide +kernel
theorem dX7_note_4 : decode cX7_note 4 = .ok (.ifCond .lt 35, 3) := by decide +kernel
theorem dX7_note_7 : decode cX7_note 7 = .ok (.aload_n 0, 1) := by decide +kernel
theorem dX7_note_8 : decode cX7_note 8 = .ok (.getfield 9, 3) := by decide +kernel
theorem dX7_note_11 : decode cX7_note 11 = .ok (.aload_n 0, 1) := by decide +kernel
theorem dX7_note_12 : decode cX7_note 12 = .ok (.getfield 19, 3) := by decide +kernel
theorem dX7_note_15 : decode cX7_note 15 = .ok (.arraylength, 1) := by decide +kernel
theorem dX7_note_16 : decode cX7_note 16 = .ok (.if_icmp .ge 23, 3) := by decide +kernel
theorem dX7_note_19 : decode cX7_note 19 = .ok (.aload_n 0, 1) := by decide +kernel
theorem dX7_note_20 : decode cX7_note 20 = .ok (.getfield 19, 3) := by decide +kernel
theorem dX7_note_23 : decode cX7_note 23 = .ok (.aload_n 0, 1) := by decide +kernel
theorem dX7_note_24 : decode cX7_note 24 = .ok (.getfield 9, 3) := by decide +kernel
theorem dX7_note_27 : decode cX7_note 27 = .ok (.iload_n 1, 1) := by decide +kernel
theorem dX7_note_28 : decode cX7_note 28 = .ok (.iastore, 1) := by decide +kernel
theorem dX7_note_29 : decode cX7_note 29 = .ok (.aload_n 0, 1) := by decide +kernel
theorem dX7_note_30 : decode cX7_note 30 = .ok (.dup, 1) := by decide +kernel
theorem dX7_note_31 : decode cX7_note 31 = .ok (.getfield 9, 3) := by decide +kernel
theorem dX7_note_34 : decode cX7_note 34 = .ok (.iconst 1, 1) := by decide +kernel
theorem dX7_note_35 : decode cX7_note 35 = .ok (.iadd, 1) := by decide +kernel
theorem dX7_note_36 : decode cX7_note 36 = .ok (.putfield 9, 3) := by decide +kernel
theorem dX7_note_39 : decode cX7_note 39 = .ok (.return_, 1) := by decide +kernel
set_option maxRecDepth 20000 in
theorem ggX8_init_X0_init : GoodIn wsX8_init wsX0_init := goodIn_r _ [32, 33, 2, 3, 34, 35, 36, 37, 38, 39, 40, 41, 42, 43, 44, 25, 45, 46, 47, 48, 49, 50, 51, 52, 53, 54, 55, 56, 57, 58, 59, 60, 61, 62, 63, 64, 65, 66, 67, 68, 69, 70, 71, 72, 73, 74, 75, 108, 109, 110, 111, 112, 113, 114, 115, 116, 117, 118, 119, 147, 148, 149, 150, 151, 152, 153, 154, 155, 156, 157] (by decide +kernel) (by decide +kernel)
set_option maxRecDepth 20000 in
theorem gX8_init_X0_init : GoodIn wsX8_init (wsX0_init) := ggX8_init_X0_init
set_option maxRecDepth 20000 in
theorem ggX8_init_X4_init : GoodIn wsX8_init wsX4_init := goodIn_r _ [78, 79, 2, 3, 80, 41, 42, 81, 82, 83, 84, 85, 55, 56, 57, 25, 58, 59, 60, 147, 148, 149, 129, 130, 131, 132, 133] (by decide +kernel) (by decide +kernel)
set_option maxRecDepth 20000 in
theorem gX8_init_X4_init : GoodIn wsX8_init (wsX4_init) := ggX8_init_X4_init
set_option maxRecDepth 20000 in
theorem ggX8_init_X7_init : GoodIn wsX8_init wsX7_init := goodIn_r _ [87, 88, 2, 3, 89, 90, 25, 91, 92, 93, 94, 134, 135, 136, 137, 138, 139] (by decide +kernel) (by decide +kernel)
set_option maxRecDepth 20000 in
theorem gX8_init_X7_init_n37 : GoodIn wsX8_init (wsX7_init) := ggX8_init_X7_init
set_option maxRecDepth 20000 in
theorem ggX8_init_X1_init : GoodIn wsX8_init wsX1_init := goodIn_r _ [96, 97, 2, 3, 25, 98, 99, 100, 101, 140, 141, 142, 143] (by decide +kernel) (by decide +kernel)
set_option maxRecDepth 20000 in
theorem gX8_init_X1_init_n44 : GoodIn wsX8_init (wsX1_init) := ggX8_init_X1_init
set_option maxRecDepth 20000 in
theorem ggX8_init_X5_init : GoodIn wsX8_init wsX5_init := goodIn_r _ [103, 104, 2, 3, 25, 105, 106, 107, 144, 145, 146] (by decide +kernel) (by decide +kernel)
set_option maxRecDepth 20000 in
theorem gX8_init_X5_init_n62 : GoodIn wsX8_init (wsX5_init) := ggX8_init_X5_init
theorem dX8_init_0 : decode cX8_init 0 = .ok (.aload_n 0, 1) := by decide +kernel
theorem dX8_init_1 : decode cX8_init 1 = .ok (.invokespecial 3, 3) := by decide +kernel
theorem dX8_init_4 : decode cX8_init 4 = .ok (.aload_n 0, 1) := by decide +kernel
theorem dX8_init_5 : decode cX8_init 5 = .ok (.new 9, 3) := by decide +kernel
theorem dX8_init_8 : decode cX8_init 8 = .ok (.dup, 1) := by decide +kernel
theorem dX8_init_9 : decode cX8_init 9 = .ok (.invokespecial 11, 3) := by decide +kernel
theorem dX8_init_12 : decode cX8_init 12 = .ok (.putfield 12, 3) := by decide +kernel
theorem dX8_init_15 : decode cX8_init 15 = .ok (.aload_n 0, 1) := by decide +kernel
theorem dX8_init_16 : decode cX8_init 16 = .ok (.new 9, 3) := by decide +kernel
theorem dX8_init_19 : decode cX8_init 19 = .ok (.dup, 1) := by decide +kernel
theorem dX8_init_20 : decode cX8_init 20 = .ok (.invokespecial 11, 3) := by decide +kernel
theorem dX8_init_23 : decode cX8_init 23 = .ok (.putfield 16, 3) := by decide +kernel
theorem dX8_init_26 : decode cX8_init 26 = .ok (.aload_n 0, 1) := by decide +kernel
theorem dX8_init_27 : decode cX8_init 27 = .ok (.new 9, 3) := by decide +kernel
theorem dX8_init_30 : decode cX8_init 30 = .ok (.dup, 1) := by decide +kernel
theorem dX8_init_31 : decode cX8_init 31 = .ok (.invokespecial 11, 3) := by decide +kernel
theorem dX8_init_34 : decode cX8_init 34 = .ok (.putfield 19, 3) := by decide +kernel
theorem dX8_init_37 : decode cX8_init 37 = .ok (.aload_n 0, 1) := by decide +kernel
theorem dX8_init_38 : decode cX8_init 38 = .ok (.new 22, 3) := by decide +kernel
theorem dX8_init_41 : decode cX8_init 41 = .ok (.dup, 1) := by decide +kernel
theorem dX8_init_42 : decode cX8_init 42 = .ok (.aload_n 0, 1) := by decide +kernel
theorem dX8_init_43 : decode cX8_init 43 = .ok (.getfield 12, 3) := by decide +kernel
theorem dX8_init_46 : decode cX8_init 46 = .ok (.getfield 24, 3) := by decide +kernel
theorem dX8_init_49 : decode cX8_init 49 = .ok (.invokespecial 28, 3) := by decide +kernel
theorem dX8_init_52 : decode cX8_init 52 = .ok (.putfield 31, 3) := by decide +kernel
theorem dX8_init_55 : decode cX8_init 55 = .ok (.aload_n 0, 1) := by decide +kernel
theorem dX8_init_56 : decode cX8_init 56 = .ok (.new 35, 3) := by decide +kernel
theorem dX8_init_59 : decode cX8_init 59 = .ok (.dup, 1) := by decide +kernel
theorem dX8_init_60 : decode cX8_init 60 = .ok (.invokespecial 37, 3) := by decide +kernel
theorem dX8_init_63 : decode cX8_init 63 = .ok (.putfield 38, 3) := by decide +kernel
theorem dX8_init_66 : decode cX8_init 66 = .ok (.aload_n 0, 1) := by decide +kernel
theorem dX8_init_67 : decode cX8_init 67 = .ok (.new 42, 3) := by decide +kernel
theorem dX8_init_70 : decode cX8_init 70 = .ok (.dup, 1) := by decide +kernel
theorem dX8_init_71 : decode cX8_init 71 = .ok (.invokespecial 44, 3) := by decide +kernel
theorem dX8_init_74 : decode cX8_init 74 = .ok (.putfield 45, 3) := by decide +kernel
theorem dX8_init_77 : decode cX8_init 77 = .ok (.aload_n 0, 1) := by decide +kernel
theorem dX8_init_78 : decode cX8_init 78 = .ok (.iconst 4, 1) := by decide +kernel
theorem dX8_init_79 : decode cX8_init 79 = .ok (.anewarray 49, 3) := by decide +kernel
theorem dX8_init_82 : decode cX8_init 82 = .ok (.putfield 51, 3) := by decide +kernel
theorem dX8_init_85 : decode cX8_init 85 = .ok (.aload_n 0, 1) := by decide +kernel
theorem dX8_init_86 : decode cX8_init 86 = .ok (.bipush 7, 2) := by decide +kernel
theorem dX8_init_88 : decode cX8_init 88 = .ok (.newarray .int, 2) := by decide +kernel
theorem dX8_init_90 : decode cX8_init 90 = .ok (.putfield 55, 3) := by decide +kernel
theorem dX8_init_93 : decode cX8_init 93 = .ok (.aload_n 0, 1) := by decide +kernel
theorem dX8_init_94 : decode cX8_init 94 = .ok (.iconst 0, 1) := by decide +kernel
theorem dX8_init_95 : decode cX8_init 95 = .ok (.putfield 58, 3) := by decide +kernel
theorem dX8_init_98 : decode cX8_init 98 = .ok (.iconst 0, 1) := by decide +kernel
theorem dX8_init_99 : decode cX8_init 99 = .ok (.istore_n 1, 1) := by decide +kernel
theorem dX8_init_100 : decode cX8_init 100 = .ok (.iload_n 1, 1) := by decide +kernel
theorem dX8_init_101 : decode cX8_init 101 = .ok (.aload_n 0, 1) := by decide +kernel
theorem dX8_init_102 : decode cX8_init 102 = .ok (.getfield 51, 3) := by decide +kernel
theorem dX8_init_105 : decode cX8_init 105 = .ok (.arraylength, 1) := by decide +kernel
theorem dX8_init_106 : decode cX8_init 106 = .ok (.if_icmp .ge 22, 3) := by decide +kernel
theorem dX8_init_109 : decode cX8_init 109 = .ok (.aload_n 0, 1) := by decide +kernel
theorem dX8_init_110 : decode cX8_init 110 = .ok (.getfield 51, 3) := by decide +kernel
theorem dX8_init_113 : decode cX8_init 113 = .ok (.iload_n 1, 1) := by decide +kernel
theorem dX8_init_114 : decode cX8_init 114 = .ok (.new 49, 3) := by decide +kernel
theorem dX8_init_117 : decode cX8_init 117 = .ok (.dup, 1) := by decide +kernel
theorem dX8_init_118 : decode cX8_init 118 = .ok (.invokespecial 62, 3) := by decide +kernel
theorem dX8_init_121 : decode cX8_init 121 = .ok (.aastore, 1) := by decide +kernel
theorem dX8_init_122 : decode cX8_init 122 = .ok (.iinc 1 1, 3) := by decide +kernel
theorem dX8_init_125 : decode cX8_init 125 = .ok (.goto (-25), 3) := by decide +kernel
theorem dX8_init_128 : decode cX8_init 128 = .ok (.return_, 1) := by decide +kernel
set_option maxRecDepth 20000 in
theorem ggX8_step_X8_within : GoodIn wsX8_step wsX8_within := goodIn_r _ [8] (by decide +kernel) (by decide +kernel)
set_option maxRecDepth 20000 in
theorem gX8_step_X8_within : GoodIn wsX8_step (va_wsS RX8 63 yX8_within wsX8_within) := goodIn_app (goodIn_of _ (by decide +kernel)) ggX8_step_X8_within
set_option maxRecDepth 20000 in
theorem ggX8_step_X8_error : GoodIn wsX8_step wsX8_error := goodIn_r _ [12, 13, 14, 5, 6, 7, 8, 25, 26, 27, 28, 29, 30, 31, 32, 33] (by decide +kernel) (by decide +kernel)
set_option maxRecDepth 20000 in
theorem gX8_step_X8_error : GoodIn wsX8_step (wsV RX8 68 RX8 yX8_error wsX8_error) := goodIn_app (goodIn_of _ (by decide +kernel)) ggX8_step_X8_error
set_option maxRecDepth 20000 in
theorem ggX8_step_X0_addStep : GoodIn wsX8_step wsX0_addStep := goodIn_r _ [19, 20, 21, 22, 23, 24, 34, 35, 36, 37, 38, 39, 40, 41, 42, 43, 44, 45, 46, 47, 48, 49] (by decide +kernel) (by decide +kernel)
set_option maxRecDepth 20000 in
theorem gX8_step_X0_addStep : GoodIn wsX8_step (wsV RX8 76 RX0 yX0_addStep wsX0_addStep) := goodIn_app (goodIn_of _ (by decide +kernel)) ggX8_step_X0_addStep
theorem dX8_step_0 : decode cX8_step 0 = .ok (.iload_n 1, 1) := by decide +kernel
theorem dX8_step_1 : decode cX8_step 1 = .ok (.iconst 0, 1) := by decide +kernel
theorem dX8_step_2 : decode cX8_step 2 = .ok (.bipush 69, 2) := by decide +kernel
theorem dX8_step_4 : decode cX8_step 4 = .ok (.invokestatic 63, 3) := by decide +kernel
theorem dX8_step_7 : decode cX8_step 7 = .ok (.ifCond .ne 10, 3) := by decide +kernel
theorem dX8_step_10 : decode cX8_step 10 = .ok (.aload_n 0, 1) := by decide +kernel
theorem dX8_step_11 : decode cX8_step 11 = .ok (.ldc 67, 2) := by decide +kernel
theorem dX8_step_13 : decode cX8_step 13 = .ok (.invokevirtual 68, 3) := by decide +kernel
theorem dX8_step_16 : decode cX8_step 16 = .ok (.ireturn, 1) := by decide +kernel
theorem dX8_step_17 : decode cX8_step 17 = .ok (.aload_n 0, 1) := by decide +kernel
theorem dX8_step_18 : decode cX8_step 18 = .ok (.getfield 12, 3) := by decide +kernel
theorem dX8_step_21 : decode cX8_step 21 = .ok (.getfield 72, 3) := by decide +kernel
theorem dX8_step_24 : decode cX8_step 24 = .ok (.bipush 20, 2) := by decide +kernel
theorem dX8_step_26 : decode cX8_step 26 = .ok (.if_icmp .lt 10, 3) := by decide +kernel
theorem dX8_step_29 : decode cX8_step 29 = .ok (.aload_n 0, 1) := by decide +kernel
theorem dX8_step_30 : decode cX8_step 30 = .ok (.ldc 75, 2) := by decide +kernel
theorem dX8_step_32 : decode cX8_step 32 = .ok (.invokevirtual 68, 3) := by decide +kernel
theorem dX8_step_35 : decode cX8_step 35 = .ok (.ireturn, 1) := by decide +kernel
theorem dX8_step_36 : decode cX8_step 36 = .ok (.aload_n 0, 1) := by decide +kernel
theorem dX8_step_37 : decode cX8_step 37 = .ok (.getfield 12, 3) := by decide +kernel
theorem dX8_step_40 : decode cX8_step 40 = .ok (.iload_n 1, 1) := by decide +kernel
theorem dX8_step_41 : decode cX8_step 41 = .ok (.bipush 10, 2) := by decide +kernel
theorem dX8_step_43 : decode cX8_step 43 = .ok (.idiv, 1) := by decide +kernel
theorem dX8_step_44 : decode cX8_step 44 = .ok (.iload_n 1, 1) := by decide +kernel
theorem dX8_step_45 : decode cX8_step 45 = .ok (.bipush 10, 2) := by decide +kernel
theorem dX8_step_47 : decode cX8_step 47 = .ok (.irem, 1) := by decide +kernel
theorem dX8_step_48 : decode cX8_step 48 = .ok (.invokevirtual 76, 3) := by decide +kernel
theorem dX8_step_51 : decode cX8_step 51 = .ok (.ireturn, 1) := by decide +kernel
set_option maxRecDepth 20000 in
theorem ggX8_stepIs_X0_judgeOn : GoodIn wsX8_stepIs wsX0_judgeOn := goodIn_r _ [10, 11, 12, 85, 86, 87, 88, 89, 90, 91, 92, 93, 94, 95, 96] (by decide +kernel) (by decide +kernel)
set_option maxRecDepth 20000 in
theorem gX8_stepIs_X0_judgeOn : GoodIn wsX8_stepIs (wsV RX8 80 RX0 yX0_judgeOn wsX0_judgeOn) := goodIn_app (goodIn_of _ (by decide +kernel)) ggX8_stepIs_X0_judgeOn
set_option maxRecDepth 20000 in
theorem ggX8_stepIs_X8_within : GoodIn wsX8_stepIs wsX8_within := goodIn_r _ [16] (by decide +kernel) (by decide +kernel)
set_option maxRecDepth 20000 in
theorem gX8_stepIs_X8_within : GoodIn wsX8_stepIs (va_wsS RX8 63 yX8_within wsX8_within) := goodIn_app (goodIn_of _ (by decide +kernel)) ggX8_stepIs_X8_within
set_option maxRecDepth 20000 in
theorem ggX8_stepIs_X8_error : GoodIn wsX8_stepIs wsX8_error := goodIn_r _ [20, 21, 22, 13, 14, 15, 16, 72, 73, 74, 75, 76, 77, 78, 79, 80] (by decide +kernel) (by decide +kernel)
set_option maxRecDepth 20000 in
theorem gX8_stepIs_X8_error : GoodIn wsX8_stepIs (wsV RX8 68 RX8 yX8_error wsX8_error) := goodIn_app (goodIn_of _ (by decide +kernel)) ggX8_stepIs_X8_error
set_option maxRecDepth 20000 in
theorem ggX8_stepIs_X0_bribeOf : GoodIn wsX8_stepIs wsX0_bribeOf := goodIn_r _ [26, 27, 28, 29, 30, 31, 32, 33, 34, 35, 36, 37, 38, 39, 40, 9, 41, 42, 43, 44, 45, 46, 47, 48, 49, 50, 51, 52, 53, 54, 55, 56, 57, 58, 59, 60, 61, 62, 63, 64, 65, 66, 67, 68, 69, 70, 71, 81, 82, 83, 84, 85, 86, 87, 88, 89, 90, 91, 92, 93, 94, 95, 96, 97, 98, 99] (by decide +kernel) (by decide +kernel)
set_option maxRecDepth 20000 in
theorem gX8_stepIs_X0_bribeOf : GoodIn wsX8_stepIs (wsV RX8 95 RX0 yX0_bribeOf wsX0_bribeOf) := goodIn_app (goodIn_of _ (by decide +kernel)) ggX8_stepIs_X0_bribeOf
theorem dX8_stepIs_0 : decode cX8_stepIs 0 = .ok (.aload_n 0, 1) := by decide +kernel
theorem dX8_stepIs_1 : decode cX8_stepIs 1 = .ok (.getfield 12, 3) := by decide +kernel
theorem dX8_stepIs_4 : decode cX8_stepIs 4 = .ok (.iload_n 1, 1) := by decide +kernel
theorem dX8_stepIs_5 : decode cX8_stepIs 5 = .ok (.invokevirtual 80, 3) := by decide +kernel
theorem dX8_stepIs_8 : decode cX8_stepIs 8 = .ok (.astore_n 3, 1) := by decide +kernel
theorem dX8_stepIs_9 : decode cX8_stepIs 9 = .ok (.aload_n 3, 1) := by decide +kernel
theorem dX8_stepIs_10 : decode cX8_stepIs 10 = .ok (.ifnull 12, 3) := by decide +kernel
theorem dX8_stepIs_13 : decode cX8_stepIs 13 = .ok (.iload_n 2, 1) := by decide +kernel
theorem dX8_stepIs_14 : decode cX8_stepIs 14 = .ok (.iconst 0, 1) := by decide +kernel
theorem dX8_stepIs_15 : decode cX8_stepIs 15 = .ok (.iconst 3, 1) := by decide +kernel
theorem dX8_stepIs_16 : decode cX8_stepIs 16 = .ok (.invokestatic 63, 3) := by decide +kernel
theorem dX8_stepIs_19 : decode cX8_stepIs 19 = .ok (.ifCond .ne 10, 3) := by decide +kernel
theorem dX8_stepIs_22 : decode cX8_stepIs 22 = .ok (.aload_n 0, 1) := by decide +kernel
theorem dX8_stepIs_23 : decode cX8_stepIs 23 = .ok (.ldc 67, 2) := by decide +kernel
theorem dX8_stepIs_25 : decode cX8_stepIs 25 = .ok (.invokevirtual 68, 3) := by decide +kernel
theorem dX8_stepIs_28 : decode cX8_stepIs 28 = .ok (.ireturn, 1) := by decide +kernel
theorem dX8_stepIs_29 : decode cX8_stepIs 29 = .ok (.iload_n 2, 1) := by decide +kernel
theorem dX8_stepIs_30 : decode cX8_stepIs 30 = .ok (.tableswitch 41 0 2 #[26, 31, 36], 26) := by decide +kernel
theorem dX8_stepIs_56 : decode cX8_stepIs 56 = .ok (.aload_n 3, 1) := by decide +kernel
theorem dX8_stepIs_57 : decode cX8_stepIs 57 = .ok (.getfield 84, 3) := by decide +kernel
theorem dX8_stepIs_60 : decode cX8_stepIs 60 = .ok (.ireturn, 1) := by decide +kernel
theorem dX8_stepIs_61 : decode cX8_stepIs 61 = .ok (.aload_n 3, 1) := by decide +kernel
theorem dX8_stepIs_62 : decode cX8_stepIs 62 = .ok (.getfield 89, 3) := by decide +kernel
theorem dX8_stepIs_65 : decode cX8_stepIs 65 = .ok (.ireturn, 1) := by decide +kernel
theorem dX8_stepIs_66 : decode cX8_stepIs 66 = .ok (.aload_n 3, 1) := by decide +kernel
theorem dX8_stepIs_67 : decode cX8_stepIs 67 = .ok (.getfield 92, 3) := by decide +kernel
theorem dX8_stepIs_70 : decode cX8_stepIs 70 = .ok (.ireturn, 1) := by decide +kernel
theorem dX8_stepIs_71 : decode cX8_stepIs 71 = .ok (.aload_n 0, 1) := by decide +kernel
theorem dX8_stepIs_72 : decode cX8_stepIs 72 = .ok (.getfield 12, 3) := by decide +kernel
theorem dX8_stepIs_75 : decode cX8_stepIs 75 = .ok (.aload_n 3, 1) := by decide +kernel
theorem dX8_stepIs_76 : decode cX8_stepIs 76 = .ok (.invokevirtual 95, 3) := by decide +kernel
theorem dX8_stepIs_79 : decode cX8_stepIs 79 = .ok (.ireturn, 1) := by decide +kernel
set_option maxRecDepth 20000 in
theorem ggX8_become_X0_judgeOn : GoodIn wsX8_become wsX0_judgeOn := goodIn_r _ [9, 10, 11, 35, 36, 37, 38, 39, 40, 41, 42, 43, 44, 45, 46] (by decide +kernel) (by decide +kernel)
set_option maxRecDepth 20000 in
theorem gX8_become_X0_judgeOn : GoodIn wsX8_become (wsV RX8 80 RX0 yX0_judgeOn wsX0_judgeOn) := goodIn_app (goodIn_of _ (by decide +kernel)) ggX8_become_X0_judgeOn
set_option maxRecDepth 20000 in
theorem ggX8_become_X8_within : GoodIn wsX8_become wsX8_within := goodIn_r _ [15] (by decide +kernel) (by decide +kernel)
set_option maxRecDepth 20000 in
theorem gX8_become_X8_within : GoodIn wsX8_become (va_wsS RX8 63 yX8_within wsX8_within) := goodIn_app (goodIn_of _ (by decide +kernel)) ggX8_become_X8_within
set_option maxRecDepth 20000 in
theorem ggX8_become_X8_error : GoodIn wsX8_become wsX8_error := goodIn_r _ [19, 20, 21, 12, 13, 14, 15, 22, 23, 24, 25, 26, 27, 28, 29, 30] (by decide +kernel) (by decide +kernel)
set_option maxRecDepth 20000 in
theorem gX8_become_X8_error : GoodIn wsX8_become (wsV RX8 68 RX8 yX8_error wsX8_error) := goodIn_app (goodIn_of _ (by decide +kernel)) ggX8_become_X8_error
theorem dX8_become_0 : decode cX8_become 0 = .ok (.aload_n 0, 1) := by decide +kernel
theorem dX8_become_1 : decode cX8_become 1 = .ok (.getfield 12, 3) := by decide +kernel
theorem dX8_become_4 : decode cX8_become 4 = .ok (.iload_n 1, 1) := by decide +kernel
theorem dX8_become_5 : decode cX8_become 5 = .ok (.invokevirtual 80, 3) := by decide +kernel
theorem dX8_become_8 : decode cX8_become 8 = .ok (.astore_n 3, 1) := by decide +kernel
theorem dX8_become_9 : decode cX8_become 9 = .ok (.aload_n 3, 1) := by decide +kernel
theorem dX8_become_10 : decode cX8_become 10 = .ok (.ifnull 13, 3) := by decide +kernel
theorem dX8_become_13 : decode cX8_become 13 = .ok (.iload_n 2, 1) := by decide +kernel
theorem dX8_become_14 : decode cX8_become 14 = .ok (.iconst 0, 1) := by decide +kernel
theorem dX8_become_15 : decode cX8_become 15 = .ok (.bipush 69, 2) := by decide +kernel
theorem dX8_become_17 : decode cX8_become 17 = .ok (.invokestatic 63, 3) := by decide +kernel
theorem dX8_become_20 : decode cX8_become 20 = .ok (.ifCond .ne 10, 3) := by decide +kernel
theorem dX8_become_23 : decode cX8_become 23 = .ok (.aload_n 0, 1) := by decide +kernel
theorem dX8_become_24 : decode cX8_become 24 = .ok (.ldc 67, 2) := by decide +kernel
theorem dX8_become_26 : decode cX8_become 26 = .ok (.invokevirtual 68, 3) := by decide +kernel
theorem dX8_become_29 : decode cX8_become 29 = .ok (.ireturn, 1) := by decide +kernel
theorem dX8_become_30 : decode cX8_become 30 = .ok (.aload_n 3, 1) := by decide +kernel
theorem dX8_become_31 : decode cX8_become 31 = .ok (.getfield 84, 3) := by decide +kernel
theorem dX8_become_34 : decode cX8_become 34 = .ok (.istore 4, 2) := by decide +kernel
theorem dX8_become_36 : decode cX8_become 36 = .ok (.aload_n 3, 1) := by decide +kernel
theorem dX8_become_37 : decode cX8_become 37 = .ok (.iload_n 2, 1) := by decide +kernel
theorem dX8_become_38 : decode cX8_become 38 = .ok (.bipush 10, 2) := by decide +kernel
theorem dX8_become_40 : decode cX8_become 40 = .ok (.idiv, 1) := by decide +kernel
theorem dX8_become_41 : decode cX8_become 41 = .ok (.putfield 84, 3) := by decide +kernel
theorem dX8_become_44 : decode cX8_become 44 = .ok (.aload_n 3, 1) := by decide +kernel
theorem dX8_become_45 : decode cX8_become 45 = .ok (.iload_n 2, 1) := by decide +kernel
theorem dX8_become_46 : decode cX8_become 46 = .ok (.bipush 10, 2) := by decide +kernel
theorem dX8_become_48 : decode cX8_become 48 = .ok (.irem, 1) := by decide +kernel
theorem dX8_become_49 : decode cX8_become 49 = .ok (.putfield 89, 3) := by decide +kernel
theorem dX8_become_52 : decode cX8_become 52 = .ok (.iload 4, 2) := by decide +kernel
theorem dX8_become_54 : decode cX8_become 54 = .ok (.ireturn, 1) := by decide +kernel
set_option maxRecDepth 20000 in
theorem ggX8_as_X0_judgeOn : GoodIn wsX8_as wsX0_judgeOn := goodIn_r _ [10, 11, 12, 43, 44, 45, 46, 47, 48, 49, 50, 51, 52, 53, 54] (by decide +kernel) (by decide +kernel)
set_option maxRecDepth 20000 in
theorem gX8_as_X0_judgeOn : GoodIn wsX8_as (wsV RX8 80 RX0 yX0_judgeOn wsX0_judgeOn) := goodIn_app (goodIn_of _ (by decide +kernel)) ggX8_as_X0_judgeOn
set_option maxRecDepth 20000 in
theorem ggX8_as_X8_within : GoodIn wsX8_as wsX8_within := goodIn_r _ [16] (by decide +kernel) (by decide +kernel)
set_option maxRecDepth 20000 in
theorem gX8_as_X8_within : GoodIn wsX8_as (va_wsS RX8 63 yX8_within wsX8_within) := goodIn_app (goodIn_of _ (by decide +kernel)) ggX8_as_X8_within
set_option maxRecDepth 20000 in
theorem ggX8_as_X8_error : GoodIn wsX8_as wsX8_error := goodIn_r _ [20, 21, 22, 13, 14, 15, 16, 30, 31, 32, 33, 34, 35, 36, 37, 38] (by decide +kernel) (by decide +kernel)
set_option maxRecDepth 20000 in
theorem gX8_as_X8_error : GoodIn wsX8_as (wsV RX8 68 RX8 yX8_error wsX8_error) := goodIn_app (goodIn_of _ (by decide +kernel)) ggX8_as_X8_error
set_option maxRecDepth 20000 in
theorem ggX8_as_X8_isUnder : GoodIn wsX8_as wsX8_isUnder := goodIn_r _ [25, 26, 27, 15, 28, 29] (by decide +kernel) (by decide +kernel)
set_option maxRecDepth 20000 in
theorem gX8_as_X8_isUnder : GoodIn wsX8_as (va_wsS RX8 99 yX8_isUnder wsX8_isUnder) := goodIn_app (goodIn_of _ (by decide +kernel)) ggX8_as_X8_isUnder
theorem dX8_as_0 : decode cX8_as 0 = .ok (.aload_n 0, 1) := by decide +kernel
theorem dX8_as_1 : decode cX8_as 1 = .ok (.getfield 12, 3) := by decide +kernel
theorem dX8_as_4 : decode cX8_as 4 = .ok (.iload_n 1, 1) := by decide +kernel
theorem dX8_as_5 : decode cX8_as 5 = .ok (.invokevirtual 80, 3) := by decide +kernel
theorem dX8_as_8 : decode cX8_as 8 = .ok (.astore_n 3, 1) := by decide +kernel
theorem dX8_as_9 : decode cX8_as 9 = .ok (.aload_n 3, 1) := by decide +kernel
theorem dX8_as_10 : decode cX8_as 10 = .ok (.ifnull 13, 3) := by decide +kernel
theorem dX8_as_13 : decode cX8_as 13 = .ok (.iload_n 2, 1) := by decide +kernel
theorem dX8_as_14 : decode cX8_as 14 = .ok (.iconst 0, 1) := by decide +kernel
theorem dX8_as_15 : decode cX8_as 15 = .ok (.bipush 6, 2) := by decide +kernel
theorem dX8_as_17 : decode cX8_as 17 = .ok (.invokestatic 63, 3) := by decide +kernel
theorem dX8_as_20 : decode cX8_as 20 = .ok (.ifCond .ne 10, 3) := by decide +kernel
theorem dX8_as_23 : decode cX8_as 23 = .ok (.aload_n 0, 1) := by decide +kernel
theorem dX8_as_24 : decode cX8_as 24 = .ok (.ldc 67, 2) := by decide +kernel
theorem dX8_as_26 : decode cX8_as 26 = .ok (.invokevirtual 68, 3) := by decide +kernel
theorem dX8_as_29 : decode cX8_as 29 = .ok (.ireturn, 1) := by decide +kernel
theorem dX8_as_30 : decode cX8_as 30 = .ok (.aload_n 3, 1) := by decide +kernel
theorem dX8_as_31 : decode cX8_as 31 = .ok (.getfield 84, 3) := by decide +kernel
theorem dX8_as_34 : decode cX8_as 34 = .ok (.iload_n 2, 1) := by decide +kernel
theorem dX8_as_35 : decode cX8_as 35 = .ok (.invokestatic 99, 3) := by decide +kernel
theorem dX8_as_38 : decode cX8_as 38 = .ok (.ifCond .eq 10, 3) := by decide +kernel
theorem dX8_as_41 : decode cX8_as 41 = .ok (.aload_n 3, 1) := by decide +kernel
theorem dX8_as_42 : decode cX8_as 42 = .ok (.getfield 89, 3) := by decide +kernel
theorem dX8_as_45 : decode cX8_as 45 = .ok (.goto 9, 3) := by decide +kernel
theorem dX8_as_48 : decode cX8_as 48 = .ok (.aload_n 0, 1) := by decide +kernel
theorem dX8_as_49 : decode cX8_as 49 = .ok (.ldc 103, 2) := by decide +kernel
theorem dX8_as_51 : decode cX8_as 51 = .ok (.invokevirtual 68, 3) := by decide +kernel
theorem dX8_as_54 : decode cX8_as 54 = .ok (.ireturn, 1) := by decide +kernel
set_option maxRecDepth 20000 in
theorem ggX8_person_X8_within : GoodIn wsX8_person wsX8_within := goodIn_r _ [8] (by decide +kernel) (by decide +kernel)
set_option maxRecDepth 20000 in
theorem gX8_person_X8_within : GoodIn wsX8_person (va_wsS RX8 63 yX8_within wsX8_within) := goodIn_app (goodIn_of _ (by decide +kernel)) ggX8_person_X8_within
set_option maxRecDepth 20000 in
theorem ggX8_person_X8_error : GoodIn wsX8_person wsX8_error := goodIn_r _ [12, 13, 14, 5, 6, 7, 8, 26, 27, 28, 29, 30, 31, 32, 33, 34] (by decide +kernel) (by decide +kernel)
set_option maxRecDepth 20000 in
theorem gX8_person_X8_error : GoodIn wsX8_person (wsV RX8 68 RX8 yX8_error wsX8_error) := goodIn_app (goodIn_of _ (by decide +kernel)) ggX8_person_X8_error
set_option maxRecDepth 20000 in
theorem ggX8_person_X0_addPerson : GoodIn wsX8_person wsX0_addPerson := goodIn_r _ [19, 20, 21, 22, 23, 24, 25, 35, 36, 37, 38, 39, 40, 41, 42, 43, 44, 45, 46, 47, 48, 49, 50] (by decide +kernel) (by decide +kernel)
set_option maxRecDepth 20000 in
theorem gX8_person_X0_addPerson : GoodIn wsX8_person (wsV RX8 107 RX0 yX0_addPerson wsX0_addPerson) := goodIn_app (goodIn_of _ (by decide +kernel)) ggX8_person_X0_addPerson
theorem dX8_person_0 : decode cX8_person 0 = .ok (.iload_n 1, 1) := by decide +kernel
theorem dX8_person_1 : decode cX8_person 1 = .ok (.iconst 0, 1) := by decide +kernel
theorem dX8_person_2 : decode cX8_person 2 = .ok (.sipush 999, 3) := by decide +kernel
theorem dX8_person_5 : decode cX8_person 5 = .ok (.invokestatic 63, 3) := by decide +kernel
theorem dX8_person_8 : decode cX8_person 8 = .ok (.ifCond .ne 10, 3) := by decide +kernel
theorem dX8_person_11 : decode cX8_person 11 = .ok (.aload_n 0, 1) := by decide +kernel
theorem dX8_person_12 : decode cX8_person 12 = .ok (.ldc 67, 2) := by decide +kernel
theorem dX8_person_14 : decode cX8_person 14 = .ok (.invokevirtual 68, 3) := by decide +kernel
theorem dX8_person_17 : decode cX8_person 17 = .ok (.ireturn, 1) := by decide +kernel
theorem dX8_person_18 : decode cX8_person 18 = .ok (.aload_n 0, 1) := by decide +kernel
theorem dX8_person_19 : decode cX8_person 19 = .ok (.getfield 12, 3) := by decide +kernel
theorem dX8_person_22 : decode cX8_person 22 = .ok (.getfield 104, 3) := by decide +kernel
theorem dX8_person_25 : decode cX8_person 25 = .ok (.iconst 5, 1) := by decide +kernel
theorem dX8_person_26 : decode cX8_person 26 = .ok (.if_icmp .lt 10, 3) := by decide +kernel
theorem dX8_person_29 : decode cX8_person 29 = .ok (.aload_n 0, 1) := by decide +kernel
theorem dX8_person_30 : decode cX8_person 30 = .ok (.ldc 75, 2) := by decide +kernel
theorem dX8_person_32 : decode cX8_person 32 = .ok (.invokevirtual 68, 3) := by decide +kernel
theorem dX8_person_35 : decode cX8_person 35 = .ok (.ireturn, 1) := by decide +kernel
theorem dX8_person_36 : decode cX8_person 36 = .ok (.aload_n 0, 1) := by decide +kernel
theorem dX8_person_37 : decode cX8_person 37 = .ok (.getfield 12, 3) := by decide +kernel
theorem dX8_person_40 : decode cX8_person 40 = .ok (.iload_n 1, 1) := by decide +kernel
theorem dX8_person_41 : decode cX8_person 41 = .ok (.invokevirtual 107, 3) := by decide +kernel
theorem dX8_person_44 : decode cX8_person 44 = .ok (.ireturn, 1) := by decide +kernel
set_option maxRecDepth 20000 in
theorem ggX8_personIs_X0_personOf : GoodIn wsX8_personIs wsX0_personOf := goodIn_r _ [11, 12, 13, 43, 44, 45, 46, 47, 48, 49, 50, 51, 52, 53, 54] (by decide +kernel) (by decide +kernel)
set_option maxRecDepth 20000 in
theorem gX8_personIs_X0_personOf : GoodIn wsX8_personIs (wsV RX8 110 RX0 yX0_personOf wsX0_personOf) := goodIn_app (goodIn_of _ (by decide +kernel)) ggX8_personIs_X0_personOf
set_option maxRecDepth 20000 in
theorem ggX8_personIs_X8_within : GoodIn wsX8_personIs wsX8_within := goodIn_r _ [17] (by decide +kernel) (by decide +kernel)
set_option maxRecDepth 20000 in
theorem gX8_personIs_X8_within : GoodIn wsX8_personIs (va_wsS RX8 63 yX8_within wsX8_within) := goodIn_app (goodIn_of _ (by decide +kernel)) ggX8_personIs_X8_within
set_option maxRecDepth 20000 in
theorem ggX8_personIs_X8_error : GoodIn wsX8_personIs wsX8_error := goodIn_r _ [21, 22, 23, 14, 15, 16, 17, 30, 31, 32, 33, 34, 35, 36, 37, 38] (by decide +kernel) (by decide +kernel)
set_option maxRecDepth 20000 in
theorem gX8_personIs_X8_error : GoodIn wsX8_personIs (wsV RX8 68 RX8 yX8_error wsX8_error) := goodIn_app (goodIn_of _ (by decide +kernel)) ggX8_personIs_X8_error
set_option maxRecDepth 20000 in
theorem ggX8_personIs_X0_isUp : GoodIn wsX8_personIs wsX0_isUp := goodIn_r _ [27, 28, 29, 39, 40, 41, 42, 43, 44, 45, 46, 47, 48, 49, 50, 51, 52, 53, 54] (by decide +kernel) (by decide +kernel)
set_option maxRecDepth 20000 in
theorem gX8_personIs_X0_isUp : GoodIn wsX8_personIs (wsV RX8 128 RX0 yX0_isUp wsX0_isUp) := goodIn_app (goodIn_of _ (by decide +kernel)) ggX8_personIs_X0_isUp
theorem dX8_personIs_0 : decode cX8_personIs 0 = .ok (.aload_n 0, 1) := by decide +kernel
theorem dX8_personIs_1 : decode cX8_personIs 1 = .ok (.getfield 12, 3) := by decide +kernel
theorem dX8_personIs_4 : decode cX8_personIs 4 = .ok (.iload_n 1, 1) := by decide +kernel
theorem dX8_personIs_5 : decode cX8_personIs 5 = .ok (.invokevirtual 110, 3) := by decide +kernel
theorem dX8_personIs_8 : decode cX8_personIs 8 = .ok (.astore_n 3, 1) := by decide +kernel
theorem dX8_personIs_9 : decode cX8_personIs 9 = .ok (.aload_n 3, 1) := by decide +kernel
theorem dX8_personIs_10 : decode cX8_personIs 10 = .ok (.ifnull 12, 3) := by decide +kernel
theorem dX8_personIs_13 : decode cX8_personIs 13 = .ok (.iload_n 2, 1) := by decide +kernel
theorem dX8_personIs_14 : decode cX8_personIs 14 = .ok (.iconst 0, 1) := by decide +kernel
theorem dX8_personIs_15 : decode cX8_personIs 15 = .ok (.iconst 4, 1) := by decide +kernel
theorem dX8_personIs_16 : decode cX8_personIs 16 = .ok (.invokestatic 63, 3) := by decide +kernel
theorem dX8_personIs_19 : decode cX8_personIs 19 = .ok (.ifCond .ne 10, 3) := by decide +kernel
theorem dX8_personIs_22 : decode cX8_personIs 22 = .ok (.aload_n 0, 1) := by decide +kernel
theorem dX8_personIs_23 : decode cX8_personIs 23 = .ok (.ldc 67, 2) := by decide +kernel
theorem dX8_personIs_25 : decode cX8_personIs 25 = .ok (.invokevirtual 68, 3) := by decide +kernel
theorem dX8_personIs_28 : decode cX8_personIs 28 = .ok (.ireturn, 1) := by decide +kernel
theorem dX8_personIs_29 : decode cX8_personIs 29 = .ok (.iload_n 2, 1) := by decide +kernel
theorem dX8_personIs_30 : decode cX8_personIs 30 = .ok (.tableswitch 50 0 3 #[30, 35, 40, 45], 30) := by decide +kernel
theorem dX8_personIs_60 : decode cX8_personIs 60 = .ok (.aload_n 3, 1) := by decide +kernel
theorem dX8_personIs_61 : decode cX8_personIs 61 = .ok (.getfield 114, 3) := by decide +kernel
theorem dX8_personIs_64 : decode cX8_personIs 64 = .ok (.ireturn, 1) := by decide +kernel
theorem dX8_personIs_65 : decode cX8_personIs 65 = .ok (.aload_n 3, 1) := by decide +kernel
theorem dX8_personIs_66 : decode cX8_personIs 66 = .ok (.getfield 119, 3) := by decide +kernel
theorem dX8_personIs_69 : decode cX8_personIs 69 = .ok (.ireturn, 1) := by decide +kernel
theorem dX8_personIs_70 : decode cX8_personIs 70 = .ok (.aload_n 3, 1) := by decide +kernel
theorem dX8_personIs_71 : decode cX8_personIs 71 = .ok (.getfield 122, 3) := by decide +kernel
theorem dX8_personIs_74 : decode cX8_personIs 74 = .ok (.ireturn, 1) := by decide +kernel
theorem dX8_personIs_75 : decode cX8_personIs 75 = .ok (.aload_n 3, 1) := by decide +kernel
theorem dX8_personIs_76 : decode cX8_personIs 76 = .ok (.getfield 125, 3) := by decide +kernel
theorem dX8_personIs_79 : decode cX8_personIs 79 = .ok (.ireturn, 1) := by decide +kernel
theorem dX8_personIs_80 : decode cX8_personIs 80 = .ok (.aload_n 0, 1) := by decide +kernel
theorem dX8_personIs_81 : decode cX8_personIs 81 = .ok (.getfield 12, 3) := by decide +kernel
theorem dX8_personIs_84 : decode cX8_personIs 84 = .ok (.aload_n 3, 1) := by decide +kernel
theorem dX8_personIs_85 : decode cX8_personIs 85 = .ok (.invokevirtual 128, 3) := by decide +kernel
theorem dX8_personIs_88 : decode cX8_personIs 88 = .ok (.ifCond .eq 7, 3) := by decide +kernel
theorem dX8_personIs_91 : decode cX8_personIs 91 = .ok (.iconst 1, 1) := by decide +kernel
theorem dX8_personIs_92 : decode cX8_personIs 92 = .ok (.goto 4, 3) := by decide +kernel
theorem dX8_personIs_95 : decode cX8_personIs 95 = .ok (.iconst 0, 1) := by decide +kernel
theorem dX8_personIs_96 : decode cX8_personIs 96 = .ok (.ireturn, 1) := by decide +kernel
set_option maxRecDepth 20000 in
theorem ggX8_rests_X0_personOf : GoodIn wsX8_rests wsX0_personOf := goodIn_r _ [8, 9, 10, 34, 35, 36, 37, 38, 39, 40, 41, 42, 43, 44, 45] (by decide +kernel) (by decide +kernel)
set_option maxRecDepth 20000 in
theorem gX8_rests_X0_personOf : GoodIn wsX8_rests (wsV RX8 110 RX0 yX0_personOf wsX0_personOf) := goodIn_app (goodIn_of _ (by decide +kernel)) ggX8_rests_X0_personOf
set_option maxRecDepth 20000 in
theorem ggX8_rests_X8_within : GoodIn wsX8_rests wsX8_within := goodIn_r _ [14] (by decide +kernel) (by decide +kernel)
set_option maxRecDepth 20000 in
theorem gX8_rests_X8_within : GoodIn wsX8_rests (va_wsS RX8 63 yX8_within wsX8_within) := goodIn_app (goodIn_of _ (by decide +kernel)) ggX8_rests_X8_within
set_option maxRecDepth 20000 in
theorem ggX8_rests_X8_error : GoodIn wsX8_rests wsX8_error := goodIn_r _ [18, 19, 20, 11, 12, 13, 14, 21, 22, 23, 24, 25, 26, 27, 28, 29] (by decide +kernel) (by decide +kernel)
set_option maxRecDepth 20000 in
theorem gX8_rests_X8_error : GoodIn wsX8_rests (wsV RX8 68 RX8 yX8_error wsX8_error) := goodIn_app (goodIn_of _ (by decide +kernel)) ggX8_rests_X8_error
theorem dX8_rests_0 : decode cX8_rests 0 = .ok (.aload_n 0, 1) := by decide +kernel
theorem dX8_rests_1 : decode cX8_rests 1 = .ok (.getfield 12, 3) := by decide +kernel
theorem dX8_rests_4 : decode cX8_rests 4 = .ok (.iload_n 1, 1) := by decide +kernel
theorem dX8_rests_5 : decode cX8_rests 5 = .ok (.invokevirtual 110, 3) := by decide +kernel
theorem dX8_rests_8 : decode cX8_rests 8 = .ok (.astore_n 3, 1) := by decide +kernel
theorem dX8_rests_9 : decode cX8_rests 9 = .ok (.aload_n 3, 1) := by decide +kernel
theorem dX8_rests_10 : decode cX8_rests 10 = .ok (.ifnull 14, 3) := by decide +kernel
theorem dX8_rests_13 : decode cX8_rests 13 = .ok (.iload_n 2, 1) := by decide +kernel
theorem dX8_rests_14 : decode cX8_rests 14 = .ok (.iconst 0, 1) := by decide +kernel
theorem dX8_rests_15 : decode cX8_rests 15 = .ok (.sipush 999, 3) := by decide +kernel
theorem dX8_rests_18 : decode cX8_rests 18 = .ok (.invokestatic 63, 3) := by decide +kernel
theorem dX8_rests_21 : decode cX8_rests 21 = .ok (.ifCond .ne 10, 3) := by decide +kernel
theorem dX8_rests_24 : decode cX8_rests 24 = .ok (.aload_n 0, 1) := by decide +kernel
theorem dX8_rests_25 : decode cX8_rests 25 = .ok (.ldc 67, 2) := by decide +kernel
theorem dX8_rests_27 : decode cX8_rests 27 = .ok (.invokevirtual 68, 3) := by decide +kernel
theorem dX8_rests_30 : decode cX8_rests 30 = .ok (.ireturn, 1) := by decide +kernel
theorem dX8_rests_31 : decode cX8_rests 31 = .ok (.aload_n 3, 1) := by decide +kernel
theorem dX8_rests_32 : decode cX8_rests 32 = .ok (.getfield 119, 3) := by decide +kernel
theorem dX8_rests_35 : decode cX8_rests 35 = .ok (.istore 4, 2) := by decide +kernel
theorem dX8_rests_37 : decode cX8_rests 37 = .ok (.aload_n 3, 1) := by decide +kernel
theorem dX8_rests_38 : decode cX8_rests 38 = .ok (.iload_n 2, 1) := by decide +kernel
theorem dX8_rests_39 : decode cX8_rests 39 = .ok (.putfield 119, 3) := by decide +kernel
theorem dX8_rests_42 : decode cX8_rests 42 = .ok (.iload 4, 2) := by decide +kernel
theorem dX8_rests_44 : decode cX8_rests 44 = .ok (.ireturn, 1) := by decide +kernel
set_option maxRecDepth 20000 in
theorem ggX8_carry_X0_personOf : GoodIn wsX8_carry wsX0_personOf := goodIn_r _ [9, 10, 11, 31, 32, 33, 34, 35, 36, 37, 38, 39, 40, 41, 42] (by decide +kernel) (by decide +kernel)
set_option maxRecDepth 20000 in
theorem gX8_carry_X0_personOf : GoodIn wsX8_carry (wsV RX8 110 RX0 yX0_personOf wsX0_personOf) := goodIn_app (goodIn_of _ (by decide +kernel)) ggX8_carry_X0_personOf
set_option maxRecDepth 20000 in
theorem ggX8_carry_X8_within : GoodIn wsX8_carry wsX8_within := goodIn_r _ [15] (by decide +kernel) (by decide +kernel)
set_option maxRecDepth 20000 in
theorem gX8_carry_X8_within : GoodIn wsX8_carry (va_wsS RX8 63 yX8_within wsX8_within) := goodIn_app (goodIn_of _ (by decide +kernel)) ggX8_carry_X8_within
set_option maxRecDepth 20000 in
theorem ggX8_carry_X8_error : GoodIn wsX8_carry wsX8_error := goodIn_r _ [19, 20, 21, 12, 13, 14, 15, 22, 23, 24, 25, 26, 27, 28, 29, 30] (by decide +kernel) (by decide +kernel)
set_option maxRecDepth 20000 in
theorem gX8_carry_X8_error : GoodIn wsX8_carry (wsV RX8 68 RX8 yX8_error wsX8_error) := goodIn_app (goodIn_of _ (by decide +kernel)) ggX8_carry_X8_error
theorem dX8_carry_0 : decode cX8_carry 0 = .ok (.aload_n 0, 1) := by decide +kernel
theorem dX8_carry_1 : decode cX8_carry 1 = .ok (.getfield 12, 3) := by decide +kernel
theorem dX8_carry_4 : decode cX8_carry 4 = .ok (.iload_n 1, 1) := by decide +kernel
theorem dX8_carry_5 : decode cX8_carry 5 = .ok (.invokevirtual 110, 3) := by decide +kernel
theorem dX8_carry_8 : decode cX8_carry 8 = .ok (.astore_n 3, 1) := by decide +kernel
theorem dX8_carry_9 : decode cX8_carry 9 = .ok (.aload_n 3, 1) := by decide +kernel
theorem dX8_carry_10 : decode cX8_carry 10 = .ok (.ifnull 18, 3) := by decide +kernel
theorem dX8_carry_13 : decode cX8_carry 13 = .ok (.iload_n 2, 1) := by decide +kernel
theorem dX8_carry_14 : decode cX8_carry 14 = .ok (.iconst 0, 1) := by decide +kernel
theorem dX8_carry_15 : decode cX8_carry 15 = .ok (.aload_n 0, 1) := by decide +kernel
theorem dX8_carry_16 : decode cX8_carry 16 = .ok (.getfield 12, 3) := by decide +kernel
theorem dX8_carry_19 : decode cX8_carry 19 = .ok (.getfield 72, 3) := by decide +kernel
theorem dX8_carry_22 : decode cX8_carry 22 = .ok (.invokestatic 63, 3) := by decide +kernel
theorem dX8_carry_25 : decode cX8_carry 25 = .ok (.ifCond .ne 10, 3) := by decide +kernel
theorem dX8_carry_28 : decode cX8_carry 28 = .ok (.aload_n 0, 1) := by decide +kernel
theorem dX8_carry_29 : decode cX8_carry 29 = .ok (.ldc 67, 2) := by decide +kernel
theorem dX8_carry_31 : decode cX8_carry 31 = .ok (.invokevirtual 68, 3) := by decide +kernel
theorem dX8_carry_34 : decode cX8_carry 34 = .ok (.ireturn, 1) := by decide +kernel
theorem dX8_carry_35 : decode cX8_carry 35 = .ok (.aload_n 3, 1) := by decide +kernel
theorem dX8_carry_36 : decode cX8_carry 36 = .ok (.getfield 114, 3) := by decide +kernel
theorem dX8_carry_39 : decode cX8_carry 39 = .ok (.istore 4, 2) := by decide +kernel
theorem dX8_carry_41 : decode cX8_carry 41 = .ok (.aload_n 3, 1) := by decide +kernel
theorem dX8_carry_42 : decode cX8_carry 42 = .ok (.iload_n 2, 1) := by decide +kernel
theorem dX8_carry_43 : decode cX8_carry 43 = .ok (.putfield 114, 3) := by decide +kernel
theorem dX8_carry_46 : decode cX8_carry 46 = .ok (.iload 4, 2) := by decide +kernel
theorem dX8_carry_48 : decode cX8_carry 48 = .ok (.ireturn, 1) := by decide +kernel
set_option maxRecDepth 20000 in
theorem ggX8_content_X0_judgeOn : GoodIn wsX8_content wsX0_judgeOn := goodIn_r _ [7, 8, 9, 94, 95, 96, 97, 98, 99, 100, 101, 102, 103, 104, 105] (by decide +kernel) (by decide +kernel)
set_option maxRecDepth 20000 in
theorem gX8_content_X0_judgeOn : GoodIn wsX8_content (wsV RX8 80 RX0 yX0_judgeOn wsX0_judgeOn) := goodIn_app (goodIn_of _ (by decide +kernel)) ggX8_content_X0_judgeOn
set_option maxRecDepth 20000 in
theorem ggX8_content_X8_isWord : GoodIn wsX8_content wsX8_isWord := goodIn_r _ [13, 14, 15, 12, 16] (by decide +kernel) (by decide +kernel)
set_option maxRecDepth 20000 in
theorem gX8_content_X8_isWord : GoodIn wsX8_content (va_wsS RX8 132 yX8_isWord wsX8_isWord) := goodIn_app (goodIn_of _ (by decide +kernel)) ggX8_content_X8_isWord
set_option maxRecDepth 20000 in
theorem ggX8_content_X8_error : GoodIn wsX8_content wsX8_error := goodIn_r _ [20, 21, 22, 14, 15, 12, 16, 85, 86, 87, 88, 89, 90, 91, 92, 93] (by decide +kernel) (by decide +kernel)
set_option maxRecDepth 20000 in
theorem gX8_content_X8_error : GoodIn wsX8_content (wsV RX8 68 RX8 yX8_error wsX8_error) := goodIn_app (goodIn_of _ (by decide +kernel)) ggX8_content_X8_error
set_option maxRecDepth 20000 in
theorem ggX8_content_X0_isContent : GoodIn wsX8_content wsX0_isContent := goodIn_r _ [26, 27, 28, 29, 30, 31, 32, 33, 34, 35, 36, 37, 38, 39, 40, 41, 42, 43, 44, 45, 46, 47, 48, 49, 50, 51, 52, 53, 6, 54, 55, 56, 57, 58, 59, 60, 61, 62, 63, 64, 65, 66, 67, 68, 69, 70, 71, 72, 73, 74, 75, 76, 77, 78, 79, 80, 81, 82, 83, 84, 94, 95, 96, 97, 98, 99, 100, 101, 102, 103, 104, 105, 106, 107, 108, 109, 110, 111, 112] (by decide +kernel) (by decide +kernel)
set_option maxRecDepth 20000 in
theorem gX8_content_X0_isContent : GoodIn wsX8_content (wsV RX8 136 RX0 yX0_isContent wsX0_isContent) := goodIn_app (goodIn_of _ (by decide +kernel)) ggX8_content_X0_isContent
theorem dX8_content_0 : decode cX8_content 0 = .ok (.aload_n 0, 1) := by decide +kernel
theorem dX8_content_1 : decode cX8_content 1 = .ok (.getfield 12, 3) := by decide +kernel
theorem dX8_content_4 : decode cX8_content 4 = .ok (.iload_n 1, 1) := by decide +kernel
theorem dX8_content_5 : decode cX8_content 5 = .ok (.invokevirtual 80, 3) := by decide +kernel
theorem dX8_content_8 : decode cX8_content 8 = .ok (.astore_n 3, 1) := by decide +kernel
theorem dX8_content_9 : decode cX8_content 9 = .ok (.aload_n 3, 1) := by decide +kernel
theorem dX8_content_10 : decode cX8_content 10 = .ok (.ifnull 10, 3) := by decide +kernel
theorem dX8_content_13 : decode cX8_content 13 = .ok (.iload_n 2, 1) := by decide +kernel
theorem dX8_content_14 : decode cX8_content 14 = .ok (.invokestatic 132, 3) := by decide +kernel
theorem dX8_content_17 : decode cX8_content 17 = .ok (.ifCond .ne 10, 3) := by decide +kernel
theorem dX8_content_20 : decode cX8_content 20 = .ok (.aload_n 0, 1) := by decide +kernel
theorem dX8_content_21 : decode cX8_content 21 = .ok (.ldc 67, 2) := by decide +kernel
theorem dX8_content_23 : decode cX8_content 23 = .ok (.invokevirtual 68, 3) := by decide +kernel
theorem dX8_content_26 : decode cX8_content 26 = .ok (.ireturn, 1) := by decide +kernel
theorem dX8_content_27 : decode cX8_content 27 = .ok (.aload_n 0, 1) := by decide +kernel
theorem dX8_content_28 : decode cX8_content 28 = .ok (.getfield 12, 3) := by decide +kernel
theorem dX8_content_31 : decode cX8_content 31 = .ok (.aload_n 3, 1) := by decide +kernel
theorem dX8_content_32 : decode cX8_content 32 = .ok (.iload_n 2, 1) := by decide +kernel
theorem dX8_content_33 : decode cX8_content 33 = .ok (.invokevirtual 136, 3) := by decide +kernel
theorem dX8_content_36 : decode cX8_content 36 = .ok (.ifCond .eq 7, 3) := by decide +kernel
theorem dX8_content_39 : decode cX8_content 39 = .ok (.iconst 1, 1) := by decide +kernel
theorem dX8_content_40 : decode cX8_content 40 = .ok (.goto 4, 3) := by decide +kernel
theorem dX8_content_43 : decode cX8_content 43 = .ok (.iconst 0, 1) := by decide +kernel
theorem dX8_content_44 : decode cX8_content 44 = .ok (.ireturn, 1) := by decide +kernel
set_option maxRecDepth 20000 in
theorem ggX8_say_X0_personOf : GoodIn wsX8_say wsX0_personOf := goodIn_r _ [9, 10, 11, 122, 123, 124, 125, 126, 127, 128, 129, 130, 131, 132, 133] (by decide +kernel) (by decide +kernel)
set_option maxRecDepth 20000 in
theorem gX8_say_X0_personOf : GoodIn wsX8_say (wsV RX8 110 RX0 yX0_personOf wsX0_personOf) := goodIn_app (goodIn_of _ (by decide +kernel)) ggX8_say_X0_personOf
set_option maxRecDepth 20000 in
theorem ggX8_say_X8_isWord : GoodIn wsX8_say wsX8_isWord := goodIn_r _ [15, 16, 17, 14, 18] (by decide +kernel) (by decide +kernel)
set_option maxRecDepth 20000 in
theorem gX8_say_X8_isWord : GoodIn wsX8_say (va_wsS RX8 132 yX8_isWord wsX8_isWord) := goodIn_app (goodIn_of _ (by decide +kernel)) ggX8_say_X8_isWord
set_option maxRecDepth 20000 in
theorem ggX8_say_X8_error : GoodIn wsX8_say wsX8_error := goodIn_r _ [22, 23, 24, 16, 17, 14, 18, 109, 110, 111, 112, 113, 114, 115, 116, 117] (by decide +kernel) (by decide +kernel)
set_option maxRecDepth 20000 in
theorem gX8_say_X8_error : GoodIn wsX8_say (wsV RX8 68 RX8 yX8_error wsX8_error) := goodIn_app (goodIn_of _ (by decide +kernel)) ggX8_say_X8_error
set_option maxRecDepth 20000 in
theorem ggX8_say_X0_canGo : GoodIn wsX8_say wsX0_canGo := goodIn_r _ [28, 29, 30, 31, 32, 8, 33, 34, 35, 118, 119, 120, 121, 122, 123, 124, 125, 126, 127, 128, 129, 130, 131, 132, 133] (by decide +kernel) (by decide +kernel)
set_option maxRecDepth 20000 in
theorem gX8_say_X0_canGo : GoodIn wsX8_say (wsV RX8 140 RX0 yX0_canGo wsX0_canGo) := goodIn_app (goodIn_of _ (by decide +kernel)) ggX8_say_X0_canGo
set_option maxRecDepth 20000 in
theorem ggX8_say_X0_hear : GoodIn wsX8_say wsX0_hear := goodIn_r _ [39, 34, 40, 41, 42, 43, 44, 29, 45, 46, 47, 48, 49, 50, 51, 8, 52, 35, 53, 54, 55, 56, 57, 58, 59, 60, 61, 62, 63, 64, 65, 66, 67, 68, 69, 70, 71, 72, 73, 74, 75, 76, 77, 78, 79, 80, 81, 82, 83, 84, 85, 86, 87, 88, 89, 90, 91, 92, 93, 94, 95, 96, 97, 98, 99, 100, 101, 102, 103, 104, 105, 106, 107, 108, 118, 119, 120, 121, 134, 135, 136, 137, 122, 123, 124, 125, 126, 127, 128, 129, 130, 131, 132, 133, 138, 139, 140] (by decide +kernel) (by decide +kernel)
set_option maxRecDepth 20000 in
theorem gX8_say_X0_hear : GoodIn wsX8_say (wsV RX8 144 RX0 yX0_hear wsX0_hear) := goodIn_app (goodIn_of _ (by decide +kernel)) ggX8_say_X0_hear
theorem dX8_say_0 : decode cX8_say 0 = .ok (.aload_n 0, 1) := by decide +kernel
theorem dX8_say_1 : decode cX8_say 1 = .ok (.getfield 12, 3) := by decide +kernel
theorem dX8_say_4 : decode cX8_say 4 = .ok (.iload_n 1, 1) := by decide +kernel
theorem dX8_say_5 : decode cX8_say 5 = .ok (.invokevirtual 110, 3) := by decide +kernel
theorem dX8_say_8 : decode cX8_say 8 = .ok (.astore_n 3, 1) := by decide +kernel
theorem dX8_say_9 : decode cX8_say 9 = .ok (.aload_n 3, 1) := by decide +kernel
theorem dX8_say_10 : decode cX8_say 10 = .ok (.ifnull 10, 3) := by decide +kernel
theorem dX8_say_13 : decode cX8_say 13 = .ok (.iload_n 2, 1) := by decide +kernel
theorem dX8_say_14 : decode cX8_say 14 = .ok (.invokestatic 132, 3) := by decide +kernel
theorem dX8_say_17 : decode cX8_say 17 = .ok (.ifCond .ne 10, 3) := by decide +kernel
theorem dX8_say_20 : decode cX8_say 20 = .ok (.aload_n 0, 1) := by decide +kernel
theorem dX8_say_21 : decode cX8_say 21 = .ok (.ldc 67, 2) := by decide +kernel
theorem dX8_say_23 : decode cX8_say 23 = .ok (.invokevirtual 68, 3) := by decide +kernel
theorem dX8_say_26 : decode cX8_say 26 = .ok (.ireturn, 1) := by decide +kernel
theorem dX8_say_27 : decode cX8_say 27 = .ok (.aload_n 0, 1) := by decide +kernel
theorem dX8_say_28 : decode cX8_say 28 = .ok (.getfield 12, 3) := by decide +kernel
theorem dX8_say_31 : decode cX8_say 31 = .ok (.aload_n 3, 1) := by decide +kernel
theorem dX8_say_32 : decode cX8_say 32 = .ok (.invokevirtual 140, 3) := by decide +kernel
theorem dX8_say_35 : decode cX8_say 35 = .ok (.ifCond .ne 10, 3) := by decide +kernel
theorem dX8_say_38 : decode cX8_say 38 = .ok (.aload_n 0, 1) := by decide +kernel
theorem dX8_say_39 : decode cX8_say 39 = .ok (.ldc 143, 2) := by decide +kernel
theorem dX8_say_41 : decode cX8_say 41 = .ok (.invokevirtual 68, 3) := by decide +kernel
theorem dX8_say_44 : decode cX8_say 44 = .ok (.ireturn, 1) := by decide +kernel
theorem dX8_say_45 : decode cX8_say 45 = .ok (.aload_n 0, 1) := by decide +kernel
theorem dX8_say_46 : decode cX8_say 46 = .ok (.getfield 12, 3) := by decide +kernel
theorem dX8_say_49 : decode cX8_say 49 = .ok (.aload_n 3, 1) := by decide +kernel
theorem dX8_say_50 : decode cX8_say 50 = .ok (.iload_n 2, 1) := by decide +kernel
theorem dX8_say_51 : decode cX8_say 51 = .ok (.invokevirtual 144, 3) := by decide +kernel
theorem dX8_say_54 : decode cX8_say 54 = .ok (.pop, 1) := by decide +kernel
theorem dX8_say_55 : decode cX8_say 55 = .ok (.aload_n 3, 1) := by decide +kernel
theorem dX8_say_56 : decode cX8_say 56 = .ok (.getfield 114, 3) := by decide +kernel
theorem dX8_say_59 : decode cX8_say 59 = .ok (.ireturn, 1) := by decide +kernel
set_option maxRecDepth 20000 in
theorem ggX8_bribe_X0_personOf : GoodIn wsX8_bribe wsX0_personOf := goodIn_r _ [16, 17, 18, 104, 105, 106, 107, 108, 109, 110, 111, 112, 113, 114, 115] (by decide +kernel) (by decide +kernel)
set_option maxRecDepth 20000 in
theorem gX8_bribe_X0_personOf : GoodIn wsX8_bribe (wsV RX8 110 RX0 yX0_personOf wsX0_personOf) := goodIn_app (goodIn_of _ (by decide +kernel)) ggX8_bribe_X0_personOf
set_option maxRecDepth 20000 in
theorem ggX8_bribe_X8_error : GoodIn wsX8_bribe wsX8_error := goodIn_r _ [23, 24, 25, 26, 27, 22, 28, 91, 92, 93, 94, 95, 96, 97, 98, 99] (by decide +kernel) (by decide +kernel)
set_option maxRecDepth 20000 in
theorem gX8_bribe_X8_error : GoodIn wsX8_bribe (wsV RX8 68 RX8 yX8_error wsX8_error) := goodIn_app (goodIn_of _ (by decide +kernel)) ggX8_bribe_X8_error
set_option maxRecDepth 20000 in
theorem ggX8_bribe_X0_judgeOn : GoodIn wsX8_bribe wsX0_judgeOn := goodIn_r _ [32, 33, 34, 104, 105, 106, 107, 108, 109, 110, 111, 112, 113, 114, 115] (by decide +kernel) (by decide +kernel)
set_option maxRecDepth 20000 in
theorem gX8_bribe_X0_judgeOn : GoodIn wsX8_bribe (wsV RX8 80 RX0 yX0_judgeOn wsX0_judgeOn) := goodIn_app (goodIn_of _ (by decide +kernel)) ggX8_bribe_X0_judgeOn
set_option maxRecDepth 20000 in
theorem ggX8_bribe_X0_canGo : GoodIn wsX8_bribe wsX0_canGo := goodIn_r _ [38, 39, 40, 41, 42, 15, 43, 44, 33, 100, 101, 102, 103, 104, 105, 106, 107, 108, 109, 110, 111, 112, 113, 114, 115] (by decide +kernel) (by decide +kernel)
set_option maxRecDepth 20000 in
theorem gX8_bribe_X0_canGo : GoodIn wsX8_bribe (wsV RX8 140 RX0 yX0_canGo wsX0_canGo) := goodIn_app (goodIn_of _ (by decide +kernel)) ggX8_bribe_X0_canGo
set_option maxRecDepth 20000 in
theorem ggX8_bribe_X0_bribeOf : GoodIn wsX8_bribe wsX0_bribeOf := goodIn_r _ [48, 49, 50, 51, 52, 53, 54, 55, 56, 57, 58, 59, 60, 61, 62, 15, 63, 64, 65, 66, 67, 68, 69, 70, 71, 72, 73, 74, 75, 76, 77, 78, 79, 80, 81, 82, 83, 84, 85, 86, 87, 8, 9, 10, 88, 89, 90, 116, 117, 118, 119, 104, 105, 106, 107, 108, 109, 110, 111, 112, 113, 114, 115, 120, 121, 122] (by decide +kernel) (by decide +kernel)
set_option maxRecDepth 20000 in
theorem gX8_bribe_X0_bribeOf : GoodIn wsX8_bribe (wsV RX8 95 RX0 yX0_bribeOf wsX0_bribeOf) := goodIn_app (goodIn_of _ (by decide +kernel)) ggX8_bribe_X0_bribeOf
theorem dX8_bribe_0 : decode cX8_bribe 0 = .ok (.aload_n 0, 1) := by decide +kernel
theorem dX8_bribe_1 : decode cX8_bribe 1 = .ok (.getfield 12, 3) := by decide +kernel
theorem dX8_bribe_4 : decode cX8_bribe 4 = .ok (.iload_n 1, 1) := by decide +kernel
theorem dX8_bribe_5 : decode cX8_bribe 5 = .ok (.invokevirtual 110, 3) := by decide +kernel
theorem dX8_bribe_8 : decode cX8_bribe 8 = .ok (.astore_n 2, 1) := by decide +kernel
theorem dX8_bribe_9 : decode cX8_bribe 9 = .ok (.aload_n 2, 1) := by decide +kernel
theorem dX8_bribe_10 : decode cX8_bribe 10 = .ok (.ifnonnull 10, 3) := by decide +kernel
theorem dX8_bribe_13 : decode cX8_bribe 13 = .ok (.aload_n 0, 1) := by decide +kernel
theorem dX8_bribe_14 : decode cX8_bribe 14 = .ok (.ldc 67, 2) := by decide +kernel
theorem dX8_bribe_16 : decode cX8_bribe 16 = .ok (.invokevirtual 68, 3) := by decide +kernel
theorem dX8_bribe_19 : decode cX8_bribe 19 = .ok (.ireturn, 1) := by decide +kernel
theorem dX8_bribe_20 : decode cX8_bribe 20 = .ok (.aload_n 0, 1) := by decide +kernel
theorem dX8_bribe_21 : decode cX8_bribe 21 = .ok (.getfield 12, 3) := by decide +kernel
theorem dX8_bribe_24 : decode cX8_bribe 24 = .ok (.aload_n 2, 1) := by decide +kernel
theorem dX8_bribe_25 : decode cX8_bribe 25 = .ok (.getfield 114, 3) := by decide +kernel
theorem dX8_bribe_28 : decode cX8_bribe 28 = .ok (.invokevirtual 80, 3) := by decide +kernel
theorem dX8_bribe_31 : decode cX8_bribe 31 = .ok (.astore_n 3, 1) := by decide +kernel
theorem dX8_bribe_32 : decode cX8_bribe 32 = .ok (.aload_n 3, 1) := by decide +kernel
theorem dX8_bribe_33 : decode cX8_bribe 33 = .ok (.ifnull 14, 3) := by decide +kernel
theorem dX8_bribe_36 : decode cX8_bribe 36 = .ok (.aload_n 0, 1) := by decide +kernel
theorem dX8_bribe_37 : decode cX8_bribe 37 = .ok (.getfield 12, 3) := by decide +kernel
theorem dX8_bribe_40 : decode cX8_bribe 40 = .ok (.aload_n 2, 1) := by decide +kernel
theorem dX8_bribe_41 : decode cX8_bribe 41 = .ok (.invokevirtual 140, 3) := by decide +kernel
theorem dX8_bribe_44 : decode cX8_bribe 44 = .ok (.ifCond .ne 10, 3) := by decide +kernel
theorem dX8_bribe_47 : decode cX8_bribe 47 = .ok (.aload_n 0, 1) := by decide +kernel
theorem dX8_bribe_48 : decode cX8_bribe 48 = .ok (.ldc 143, 2) := by decide +kernel
theorem dX8_bribe_50 : decode cX8_bribe 50 = .ok (.invokevirtual 68, 3) := by decide +kernel
theorem dX8_bribe_53 : decode cX8_bribe 53 = .ok (.ireturn, 1) := by decide +kernel
theorem dX8_bribe_54 : decode cX8_bribe 54 = .ok (.aload_n 0, 1) := by decide +kernel
theorem dX8_bribe_55 : decode cX8_bribe 55 = .ok (.getfield 12, 3) := by decide +kernel
theorem dX8_bribe_58 : decode cX8_bribe 58 = .ok (.aload_n 3, 1) := by decide +kernel
theorem dX8_bribe_59 : decode cX8_bribe 59 = .ok (.invokevirtual 95, 3) := by decide +kernel
theorem dX8_bribe_62 : decode cX8_bribe 62 = .ok (.istore 4, 2) := by decide +kernel
theorem dX8_bribe_64 : decode cX8_bribe 64 = .ok (.aload_n 2, 1) := by decide +kernel
theorem dX8_bribe_65 : decode cX8_bribe 65 = .ok (.ldc 148, 2) := by decide +kernel
theorem dX8_bribe_67 : decode cX8_bribe 67 = .ok (.aload_n 2, 1) := by decide +kernel
theorem dX8_bribe_68 : decode cX8_bribe 68 = .ok (.getfield 122, 3) := by decide +kernel
theorem dX8_bribe_71 : decode cX8_bribe 71 = .ok (.iload 4, 2) := by decide +kernel
theorem dX8_bribe_73 : decode cX8_bribe 73 = .ok (.iadd, 1) := by decide +kernel
theorem dX8_bribe_74 : decode cX8_bribe 74 = .ok (.invokestatic 149, 3) := by decide +kernel
theorem dX8_bribe_77 : decode cX8_bribe 77 = .ok (.putfield 122, 3) := by decide +kernel
theorem dX8_bribe_80 : decode cX8_bribe 80 = .ok (.aload_n 2, 1) := by decide +kernel
theorem dX8_bribe_81 : decode cX8_bribe 81 = .ok (.dup, 1) := by decide +kernel
theorem dX8_bribe_82 : decode cX8_bribe 82 = .ok (.getfield 119, 3) := by decide +kernel
theorem dX8_bribe_85 : decode cX8_bribe 85 = .ok (.iconst 1, 1) := by decide +kernel
theorem dX8_bribe_86 : decode cX8_bribe 86 = .ok (.isub, 1) := by decide +kernel
theorem dX8_bribe_87 : decode cX8_bribe 87 = .ok (.putfield 119, 3) := by decide +kernel
theorem dX8_bribe_90 : decode cX8_bribe 90 = .ok (.aload_n 2, 1) := by decide +kernel
theorem dX8_bribe_91 : decode cX8_bribe 91 = .ok (.dup, 1) := by decide +kernel
theorem dX8_bribe_92 : decode cX8_bribe 92 = .ok (.getfield 114, 3) := by decide +kernel
theorem dX8_bribe_95 : decode cX8_bribe 95 = .ok (.iconst 1, 1) := by decide +kernel
theorem dX8_bribe_96 : decode cX8_bribe 96 = .ok (.iadd, 1) := by decide +kernel
theorem dX8_bribe_97 : decode cX8_bribe 97 = .ok (.putfield 114, 3) := by decide +kernel
theorem dX8_bribe_100 : decode cX8_bribe 100 = .ok (.iload 4, 2) := by decide +kernel
theorem dX8_bribe_102 : decode cX8_bribe 102 = .ok (.ireturn, 1) := by decide +kernel
set_option maxRecDepth 20000 in
theorem ggX8_feed_X8_within : GoodIn wsX8_feed wsX8_within := goodIn_r _ [9] (by decide +kernel) (by decide +kernel)
set_option maxRecDepth 20000 in
theorem gX8_feed_X8_within : GoodIn wsX8_feed (va_wsS RX8 63 yX8_within wsX8_within) := goodIn_app (goodIn_of _ (by decide +kernel)) ggX8_feed_X8_within
set_option maxRecDepth 20000 in
theorem ggX8_feed_X8_error : GoodIn wsX8_feed wsX8_error := goodIn_r _ [13, 14, 15, 6, 7, 8, 9, 16, 17, 18, 19, 20, 21, 22, 23, 24] (by decide +kernel) (by decide +kernel)
set_option maxRecDepth 20000 in
theorem gX8_feed_X8_error : GoodIn wsX8_feed (wsV RX8 68 RX8 yX8_error wsX8_error) := goodIn_app (goodIn_of _ (by decide +kernel)) ggX8_feed_X8_error
theorem dX8_feed_0 : decode cX8_feed 0 = .ok (.iload_n 3, 1) := by decide +kernel
theorem dX8_feed_1 : decode cX8_feed 1 = .ok (.iconst 1, 1) := by decide +kernel
theorem dX8_feed_2 : decode cX8_feed 2 = .ok (.bipush 8, 2) := by decide +kernel
theorem dX8_feed_4 : decode cX8_feed 4 = .ok (.invokestatic 63, 3) := by decide +kernel
theorem dX8_feed_7 : decode cX8_feed 7 = .ok (.ifCond .ne 10, 3) := by decide +kernel
theorem dX8_feed_10 : decode cX8_feed 10 = .ok (.aload_n 0, 1) := by decide +kernel
theorem dX8_feed_11 : decode cX8_feed 11 = .ok (.ldc 67, 2) := by decide +kernel
theorem dX8_feed_13 : decode cX8_feed 13 = .ok (.invokevirtual 68, 3) := by decide +kernel
theorem dX8_feed_16 : decode cX8_feed 16 = .ok (.ireturn, 1) := by decide +kernel
theorem dX8_feed_17 : decode cX8_feed 17 = .ok (.aload_n 0, 1) := by decide +kernel
theorem dX8_feed_18 : decode cX8_feed 18 = .ok (.getfield 12, 3) := by decide +kernel
theorem dX8_feed_21 : decode cX8_feed 21 = .ok (.getfield 154, 3) := by decide +kernel
theorem dX8_feed_24 : decode cX8_feed 24 = .ok (.bipush 60, 2) := by decide +kernel
theorem dX8_feed_26 : decode cX8_feed 26 = .ok (.iload_n 3, 1) := by decide +kernel
theorem dX8_feed_27 : decode cX8_feed 27 = .ok (.isub, 1) := by decide +kernel
theorem dX8_feed_28 : decode cX8_feed 28 = .ok (.if_icmp .le 10, 3) := by decide +kernel
theorem dX8_feed_31 : decode cX8_feed 31 = .ok (.aload_n 0, 1) := by decide +kernel
theorem dX8_feed_32 : decode cX8_feed 32 = .ok (.ldc 75, 2) := by decide +kernel
theorem dX8_feed_34 : decode cX8_feed 34 = .ok (.invokevirtual 68, 3) := by decide +kernel
theorem dX8_feed_37 : decode cX8_feed 37 = .ok (.ireturn, 1) := by decide +kernel
theorem dX8_feed_38 : decode cX8_feed 38 = .ok (.iconst 0, 1) := by decide +kernel
theorem dX8_feed_39 : decode cX8_feed 39 = .ok (.istore 4, 2) := by decide +kernel
theorem dX8_feed_41 : decode cX8_feed 41 = .ok (.iload 4, 2) := by decide +kernel
theorem dX8_feed_43 : decode cX8_feed 43 = .ok (.iload_n 3, 1) := by decide +kernel
theorem dX8_feed_44 : decode cX8_feed 44 = .ok (.if_icmp .ge 67, 3) := by decide +kernel
theorem dX8_feed_47 : decode cX8_feed 47 = .ok (.aload_n 0, 1) := by decide +kernel
theorem dX8_feed_48 : decode cX8_feed 48 = .ok (.getfield 12, 3) := by decide +kernel
theorem dX8_feed_51 : decode cX8_feed 51 = .ok (.getfield 154, 3) := by decide +kernel
theorem dX8_feed_54 : decode cX8_feed 54 = .ok (.aload_n 0, 1) := by decide +kernel
theorem dX8_feed_55 : decode cX8_feed 55 = .ok (.getfield 12, 3) := by decide +kernel
theorem dX8_feed_58 : decode cX8_feed 58 = .ok (.getfield 24, 3) := by decide +kernel
theorem dX8_feed_61 : decode cX8_feed 61 = .ok (.arraylength, 1) := by decide +kernel
theorem dX8_feed_62 : decode cX8_feed 62 = .ok (.if_icmp .ge 49, 3) := by decide +kernel
theorem dX8_feed_65 : decode cX8_feed 65 = .ok (.aload_n 0, 1) := by decide +kernel
theorem dX8_feed_66 : decode cX8_feed 66 = .ok (.getfield 12, 3) := by decide +kernel
theorem dX8_feed_69 : decode cX8_feed 69 = .ok (.getfield 24, 3) := by decide +kernel
theorem dX8_feed_72 : decode cX8_feed 72 = .ok (.aload_n 0, 1) := by decide +kernel
theorem dX8_feed_73 : decode cX8_feed 73 = .ok (.getfield 12, 3) := by decide +kernel
theorem dX8_feed_76 : decode cX8_feed 76 = .ok (.getfield 154, 3) := by decide +kernel
theorem dX8_feed_79 : decode cX8_feed 79 = .ok (.lload_n 1, 1) := by decide +kernel
theorem dX8_feed_80 : decode cX8_feed 80 = .ok (.bipush 8, 2) := by decide +kernel
theorem dX8_feed_82 : decode cX8_feed 82 = .ok (.iload 4, 2) := by decide +kernel
theorem dX8_feed_84 : decode cX8_feed 84 = .ok (.imul, 1) := by decide +kernel
theorem dX8_feed_85 : decode cX8_feed 85 = .ok (.lushr, 1) := by decide +kernel
theorem dX8_feed_86 : decode cX8_feed 86 = .ok (.l2i, 1) := by decide +kernel
theorem dX8_feed_87 : decode cX8_feed 87 = .ok (.sipush 255, 3) := by decide +kernel
theorem dX8_feed_90 : decode cX8_feed 90 = .ok (.iand, 1) := by decide +kernel
theorem dX8_feed_91 : decode cX8_feed 91 = .ok (.iastore, 1) := by decide +kernel
theorem dX8_feed_92 : decode cX8_feed 92 = .ok (.aload_n 0, 1) := by decide +kernel
theorem dX8_feed_93 : decode cX8_feed 93 = .ok (.getfield 12, 3) := by decide +kernel
theorem dX8_feed_96 : decode cX8_feed 96 = .ok (.dup, 1) := by decide +kernel
theorem dX8_feed_97 : decode cX8_feed 97 = .ok (.getfield 154, 3) := by decide +kernel
theorem dX8_feed_100 : decode cX8_feed 100 = .ok (.iconst 1, 1) := by decide +kernel
theorem dX8_feed_101 : decode cX8_feed 101 = .ok (.iadd, 1) := by decide +kernel
theorem dX8_feed_102 : decode cX8_feed 102 = .ok (.putfield 154, 3) := by decide +kernel
theorem dX8_feed_105 : decode cX8_feed 105 = .ok (.iinc 4 1, 3) := by decide +kernel
theorem dX8_feed_108 : decode cX8_feed 108 = .ok (.goto (-67), 3) := by decide +kernel
theorem dX8_feed_111 : decode cX8_feed 111 = .ok (.aload_n 0, 1) := by decide +kernel
theorem dX8_feed_112 : decode cX8_feed 112 = .ok (.getfield 12, 3) := by decide +kernel
theorem dX8_feed_115 : decode cX8_feed 115 = .ok (.getfield 154, 3) := by decide +kernel
theorem dX8_feed_118 : decode cX8_feed 118 = .ok (.ireturn, 1) := by decide +kernel
set_option maxRecDepth 20000 in
theorem ggX8_text_X0_textOf : GoodIn wsX8_text wsX0_textOf := goodIn_r _ [11, 12, 13, 182, 183, 184, 185, 186, 187, 188, 189, 190, 191, 192, 193] (by decide +kernel) (by decide +kernel)
set_option maxRecDepth 20000 in
theorem gX8_text_X0_textOf : GoodIn wsX8_text (wsV RX8 157 RX0 yX0_textOf wsX0_textOf) := goodIn_app (goodIn_of _ (by decide +kernel)) ggX8_text_X0_textOf
set_option maxRecDepth 20000 in
theorem ggX8_text_X8_error : GoodIn wsX8_text wsX8_error := goodIn_r _ [18, 19, 20, 21, 22, 17, 23, 173, 174, 175, 176, 177, 178, 179, 180, 181] (by decide +kernel) (by decide +kernel)
set_option maxRecDepth 20000 in
theorem gX8_text_X8_error : GoodIn wsX8_text (wsV RX8 68 RX8 yX8_error wsX8_error) := goodIn_app (goodIn_of _ (by decide +kernel)) ggX8_text_X8_error
set_option maxRecDepth 20000 in
theorem ggX8_text_X4_read : GoodIn wsX8_text wsX4_read := goodIn_r _ [28, 29, 30, 31, 32, 33, 34, 35, 36, 37, 38, 39, 40, 41, 42, 43, 44, 45, 46, 27, 47, 48, 49, 50, 51, 52, 53, 54, 55, 56, 57, 58, 59, 60, 61, 62, 63, 64, 65, 66, 67, 68, 69, 70, 71, 72, 73, 74, 75, 76, 77, 78, 79, 80, 81, 82, 83, 84, 85, 86, 87, 88, 89, 90, 91, 92, 93, 94, 95, 96, 97, 98, 99, 100, 101, 102, 103, 104, 105, 106, 107, 108, 109, 110, 111, 112, 113, 114, 115, 116, 117, 118, 119, 120, 121, 122, 123, 124, 125, 126, 127, 128, 129, 130, 131, 132, 133, 134, 135, 136, 137, 138, 139, 140, 141, 142, 143, 144, 145, 146, 147, 148, 149, 150, 151, 152, 153, 154, 155, 156, 157, 158, 159, 160, 161, 162, 163, 164, 194, 195, 196, 197, 198, 199, 200, 201] (by decide +kernel) (by decide +kernel)
set_option maxRecDepth 20000 in
theorem gX8_text_X4_read : GoodIn wsX8_text (wsV RX8 165 RX4 yX4_read wsX4_read) := goodIn_app (goodIn_of _ (by decide +kernel)) ggX8_text_X4_read
set_option maxRecDepth 20000 in
theorem ggX8_text_X6_copyFrom : GoodIn wsX8_text wsX6_copyFrom := goodIn_r _ [168, 62, 169, 170, 171, 172, 43, 199, 200, 201] (by decide +kernel) (by decide +kernel)
set_option maxRecDepth 20000 in
theorem gX8_text_X6_copyFrom : GoodIn wsX8_text (wsV RX8 174 RX6 yX6_copyFrom wsX6_copyFrom) := goodIn_app (goodIn_of _ (by decide +kernel)) ggX8_text_X6_copyFrom
theorem dX8_text_0 : decode cX8_text 0 = .ok (.aload_n 0, 1) := by decide +kernel
theorem dX8_text_1 : decode cX8_text 1 = .ok (.getfield 12, 3) := by decide +kernel
theorem dX8_text_4 : decode cX8_text 4 = .ok (.iload_n 1, 1) := by decide +kernel
theorem dX8_text_5 : decode cX8_text 5 = .ok (.invokevirtual 157, 3) := by decide +kernel
theorem dX8_text_8 : decode cX8_text 8 = .ok (.astore_n 2, 1) := by decide +kernel
theorem dX8_text_9 : decode cX8_text 9 = .ok (.aload_n 2, 1) := by decide +kernel
theorem dX8_text_10 : decode cX8_text 10 = .ok (.ifnonnull 10, 3) := by decide +kernel
theorem dX8_text_13 : decode cX8_text 13 = .ok (.aload_n 0, 1) := by decide +kernel
theorem dX8_text_14 : decode cX8_text 14 = .ok (.ldc 67, 2) := by decide +kernel
theorem dX8_text_16 : decode cX8_text 16 = .ok (.invokevirtual 68, 3) := by decide +kernel
theorem dX8_text_19 : decode cX8_text 19 = .ok (.ireturn, 1) := by decide +kernel
theorem dX8_text_20 : decode cX8_text 20 = .ok (.aload_n 0, 1) := by decide +kernel
theorem dX8_text_21 : decode cX8_text 21 = .ok (.getfield 31, 3) := by decide +kernel
theorem dX8_text_24 : decode cX8_text 24 = .ok (.aload_n 0, 1) := by decide +kernel
theorem dX8_text_25 : decode cX8_text 25 = .ok (.getfield 12, 3) := by decide +kernel
theorem dX8_text_28 : decode cX8_text 28 = .ok (.getfield 154, 3) := by decide +kernel
theorem dX8_text_31 : decode cX8_text 31 = .ok (.iload_n 1, 1) := by decide +kernel
theorem dX8_text_32 : decode cX8_text 32 = .ok (.ifCond .ne 8, 3) := by decide +kernel
theorem dX8_text_35 : decode cX8_text 35 = .ok (.ldc 161, 2) := by decide +kernel
theorem dX8_text_37 : decode cX8_text 37 = .ok (.goto 5, 3) := by decide +kernel
theorem dX8_text_40 : decode cX8_text 40 = .ok (.ldc 163, 2) := by decide +kernel
theorem dX8_text_42 : decode cX8_text 42 = .ok (.invokevirtual 165, 3) := by decide +kernel
theorem dX8_text_45 : decode cX8_text 45 = .ok (.istore_n 3, 1) := by decide +kernel
theorem dX8_text_46 : decode cX8_text 46 = .ok (.aload_n 0, 1) := by decide +kernel
theorem dX8_text_47 : decode cX8_text 47 = .ok (.getfield 12, 3) := by decide +kernel
theorem dX8_text_50 : decode cX8_text 50 = .ok (.iconst 0, 1) := by decide +kernel
theorem dX8_text_51 : decode cX8_text 51 = .ok (.putfield 154, 3) := by decide +kernel
theorem dX8_text_54 : decode cX8_text 54 = .ok (.iload_n 3, 1) := by decide +kernel
theorem dX8_text_55 : decode cX8_text 55 = .ok (.ifCond .ne 14, 3) := by decide +kernel
theorem dX8_text_58 : decode cX8_text 58 = .ok (.bipush (-10), 2) := by decide +kernel
theorem dX8_text_60 : decode cX8_text 60 = .ok (.aload_n 0, 1) := by decide +kernel
theorem dX8_text_61 : decode cX8_text 61 = .ok (.getfield 31, 3) := by decide +kernel
theorem dX8_text_64 : decode cX8_text 64 = .ok (.getfield 169, 3) := by decide +kernel
theorem dX8_text_67 : decode cX8_text 67 = .ok (.isub, 1) := by decide +kernel
theorem dX8_text_68 : decode cX8_text 68 = .ok (.ireturn, 1) := by decide +kernel
theorem dX8_text_69 : decode cX8_text 69 = .ok (.aload_n 2, 1) := by decide +kernel
theorem dX8_text_70 : decode cX8_text 70 = .ok (.aload_n 0, 1) := by decide +kernel
theorem dX8_text_71 : decode cX8_text 71 = .ok (.getfield 31, 3) := by decide +kernel
theorem dX8_text_74 : decode cX8_text 74 = .ok (.getfield 170, 3) := by decide +kernel
theorem dX8_text_77 : decode cX8_text 77 = .ok (.invokevirtual 174, 3) := by decide +kernel
theorem dX8_text_80 : decode cX8_text 80 = .ok (.iconst 1, 1) := by decide +kernel
theorem dX8_text_81 : decode cX8_text 81 = .ok (.ireturn, 1) := by decide +kernel
set_option maxRecDepth 20000 in
theorem ggX8_untell_X0_textOf : GoodIn wsX8_untell wsX0_textOf := goodIn_r _ [7, 8, 9, 39, 40, 41, 42, 43, 44, 45, 46, 47, 48, 49, 50] (by decide +kernel) (by decide +kernel)
set_option maxRecDepth 20000 in
theorem gX8_untell_X0_textOf : GoodIn wsX8_untell (wsV RX8 157 RX0 yX0_textOf wsX0_textOf) := goodIn_app (goodIn_of _ (by decide +kernel)) ggX8_untell_X0_textOf
set_option maxRecDepth 20000 in
theorem ggX8_untell_X8_error : GoodIn wsX8_untell wsX8_error := goodIn_r _ [14, 15, 16, 17, 18, 13, 19, 30, 31, 32, 33, 34, 35, 36, 37, 38] (by decide +kernel) (by decide +kernel)
set_option maxRecDepth 20000 in
theorem gX8_untell_X8_error : GoodIn wsX8_untell (wsV RX8 68 RX8 yX8_error wsX8_error) := goodIn_app (goodIn_of _ (by decide +kernel)) ggX8_untell_X8_error
set_option maxRecDepth 20000 in
theorem ggX8_untell_X6_isThere : GoodIn wsX8_untell wsX6_isThere := goodIn_r _ [24, 25, 51, 52, 53] (by decide +kernel) (by decide +kernel)
set_option maxRecDepth 20000 in
theorem gX8_untell_X6_isThere : GoodIn wsX8_untell (wsV RX8 180 RX6 yX6_isThere wsX6_isThere) := goodIn_app (goodIn_of _ (by decide +kernel)) ggX8_untell_X6_isThere
set_option maxRecDepth 20000 in
theorem ggX8_untell_X6_clear : GoodIn wsX8_untell wsX6_clear := goodIn_r _ [29, 25, 51, 52, 53] (by decide +kernel) (by decide +kernel)
set_option maxRecDepth 20000 in
theorem gX8_untell_X6_clear : GoodIn wsX8_untell (wsV RX8 184 RX6 yX6_clear wsX6_clear) := goodIn_app (goodIn_of _ (by decide +kernel)) ggX8_untell_X6_clear
theorem dX8_untell_0 : decode cX8_untell 0 = .ok (.aload_n 0, 1) := by decide +kernel
theorem dX8_untell_1 : decode cX8_untell 1 = .ok (.getfield 12, 3) := by decide +kernel
theorem dX8_untell_4 : decode cX8_untell 4 = .ok (.iload_n 1, 1) := by decide +kernel
theorem dX8_untell_5 : decode cX8_untell 5 = .ok (.invokevirtual 157, 3) := by decide +kernel
theorem dX8_untell_8 : decode cX8_untell 8 = .ok (.astore_n 2, 1) := by decide +kernel
theorem dX8_untell_9 : decode cX8_untell 9 = .ok (.aload_n 2, 1) := by decide +kernel
theorem dX8_untell_10 : decode cX8_untell 10 = .ok (.ifnonnull 10, 3) := by decide +kernel
theorem dX8_untell_13 : decode cX8_untell 13 = .ok (.aload_n 0, 1) := by decide +kernel
theorem dX8_untell_14 : decode cX8_untell 14 = .ok (.ldc 67, 2) := by decide +kernel
theorem dX8_untell_16 : decode cX8_untell 16 = .ok (.invokevirtual 68, 3) := by decide +kernel
theorem dX8_untell_19 : decode cX8_untell 19 = .ok (.ireturn, 1) := by decide +kernel
theorem dX8_untell_20 : decode cX8_untell 20 = .ok (.aload_n 2, 1) := by decide +kernel
theorem dX8_untell_21 : decode cX8_untell 21 = .ok (.invokevirtual 180, 3) := by decide +kernel
theorem dX8_untell_24 : decode cX8_untell 24 = .ok (.ifCond .eq 7, 3) := by decide +kernel
theorem dX8_untell_27 : decode cX8_untell 27 = .ok (.iconst 1, 1) := by decide +kernel
theorem dX8_untell_28 : decode cX8_untell 28 = .ok (.goto 4, 3) := by decide +kernel
theorem dX8_untell_31 : decode cX8_untell 31 = .ok (.iconst 0, 1) := by decide +kernel
theorem dX8_untell_32 : decode cX8_untell 32 = .ok (.istore_n 3, 1) := by decide +kernel
theorem dX8_untell_33 : decode cX8_untell 33 = .ok (.aload_n 2, 1) := by decide +kernel
theorem dX8_untell_34 : decode cX8_untell 34 = .ok (.invokevirtual 184, 3) := by decide +kernel
theorem dX8_untell_37 : decode cX8_untell 37 = .ok (.iload_n 3, 1) := by decide +kernel
theorem dX8_untell_38 : decode cX8_untell 38 = .ok (.ireturn, 1) := by decide +kernel
set_option maxRecDepth 20000 in
theorem ggX8_law_X8_within : GoodIn wsX8_law wsX8_within := goodIn_r _ [6] (by decide +kernel) (by decide +kernel)
set_option maxRecDepth 20000 in
theorem gX8_law_X8_within : GoodIn wsX8_law (va_wsS RX8 63 yX8_within wsX8_within) := goodIn_app (goodIn_of _ (by decide +kernel)) ggX8_law_X8_within
set_option maxRecDepth 20000 in
theorem ggX8_law_X8_error : GoodIn wsX8_law wsX8_error := goodIn_r _ [10, 11, 12, 3, 4, 5, 6, 48, 49, 50, 51, 52, 53, 54, 55, 56] (by decide +kernel) (by decide +kernel)
set_option maxRecDepth 20000 in
theorem gX8_law_X8_error : GoodIn wsX8_law (wsV RX8 68 RX8 yX8_error wsX8_error) := goodIn_app (goodIn_of _ (by decide +kernel)) ggX8_law_X8_error
set_option maxRecDepth 20000 in
theorem ggX8_law_X0_gives : GoodIn wsX8_law wsX0_gives := goodIn_r _ [17, 18, 19, 20, 21, 22, 23, 24, 25, 26, 27, 28, 29, 30, 31, 32, 33, 34, 35, 36, 37, 38, 39, 16, 40, 41, 42, 43, 44, 45, 46, 47, 57, 58, 59, 60, 61, 62, 63, 64, 65, 66, 67, 68, 69, 70, 71] (by decide +kernel) (by decide +kernel)
set_option maxRecDepth 20000 in
theorem gX8_law_X0_gives : GoodIn wsX8_law (wsV RX8 187 RX0 yX0_gives wsX0_gives) := goodIn_app (goodIn_of _ (by decide +kernel)) ggX8_law_X0_gives
theorem dX8_law_0 : decode cX8_law 0 = .ok (.iload_n 1, 1) := by decide +kernel
theorem dX8_law_1 : decode cX8_law 1 = .ok (.iconst 0, 1) := by decide +kernel
theorem dX8_law_2 : decode cX8_law 2 = .ok (.iconst 1, 1) := by decide +kernel
theorem dX8_law_3 : decode cX8_law 3 = .ok (.invokestatic 63, 3) := by decide +kernel
theorem dX8_law_6 : decode cX8_law 6 = .ok (.ifCond .ne 10, 3) := by decide +kernel
theorem dX8_law_9 : decode cX8_law 9 = .ok (.aload_n 0, 1) := by decide +kernel
theorem dX8_law_10 : decode cX8_law 10 = .ok (.ldc 67, 2) := by decide +kernel
theorem dX8_law_12 : decode cX8_law 12 = .ok (.invokevirtual 68, 3) := by decide +kernel
theorem dX8_law_15 : decode cX8_law 15 = .ok (.ireturn, 1) := by decide +kernel
theorem dX8_law_16 : decode cX8_law 16 = .ok (.aload_n 0, 1) := by decide +kernel
theorem dX8_law_17 : decode cX8_law 17 = .ok (.getfield 12, 3) := by decide +kernel
theorem dX8_law_20 : decode cX8_law 20 = .ok (.iload_n 1, 1) := by decide +kernel
theorem dX8_law_21 : decode cX8_law 21 = .ok (.iload_n 2, 1) := by decide +kernel
theorem dX8_law_22 : decode cX8_law 22 = .ok (.iload_n 3, 1) := by decide +kernel
theorem dX8_law_23 : decode cX8_law 23 = .ok (.iload 4, 2) := by decide +kernel
theorem dX8_law_25 : decode cX8_law 25 = .ok (.invokevirtual 187, 3) := by decide +kernel
theorem dX8_law_28 : decode cX8_law 28 = .ok (.ireturn, 1) := by decide +kernel
set_option maxRecDepth 20000 in
theorem ggX8_hours_X8_within : GoodIn wsX8_hours wsX8_within := goodIn_r _ [8] (by decide +kernel) (by decide +kernel)
set_option maxRecDepth 20000 in
theorem gX8_hours_X8_within : GoodIn wsX8_hours (va_wsS RX8 63 yX8_within wsX8_within) := goodIn_app (goodIn_of _ (by decide +kernel)) ggX8_hours_X8_within
set_option maxRecDepth 20000 in
theorem ggX8_hours_X8_error : GoodIn wsX8_hours wsX8_error := goodIn_r _ [12, 13, 14, 5, 6, 7, 8, 29, 30, 31, 32, 33, 34, 35, 36, 37] (by decide +kernel) (by decide +kernel)
set_option maxRecDepth 20000 in
theorem gX8_hours_X8_error : GoodIn wsX8_hours (wsV RX8 68 RX8 yX8_error wsX8_error) := goodIn_app (goodIn_of _ (by decide +kernel)) ggX8_hours_X8_error
set_option maxRecDepth 20000 in
theorem ggX8_hours_X0_passHour : GoodIn wsX8_hours wsX0_passHour := goodIn_r _ [19, 20, 21, 22, 23, 24, 25, 26, 27, 28, 38, 39, 40, 41, 42, 43, 44, 45, 46, 47, 48, 49, 50, 51, 52, 53] (by decide +kernel) (by decide +kernel)
set_option maxRecDepth 20000 in
theorem gX8_hours_X0_passHour : GoodIn wsX8_hours (wsV RX8 194 RX0 yX0_passHour wsX0_passHour) := goodIn_app (goodIn_of _ (by decide +kernel)) ggX8_hours_X0_passHour
theorem dX8_hours_0 : decode cX8_hours 0 = .ok (.iload_n 1, 1) := by decide +kernel
theorem dX8_hours_1 : decode cX8_hours 1 = .ok (.iconst 1, 1) := by decide +kernel
theorem dX8_hours_2 : decode cX8_hours 2 = .ok (.bipush 48, 2) := by decide +kernel
theorem dX8_hours_4 : decode cX8_hours 4 = .ok (.invokestatic 63, 3) := by decide +kernel
theorem dX8_hours_7 : decode cX8_hours 7 = .ok (.ifCond .ne 10, 3) := by decide +kernel
theorem dX8_hours_10 : decode cX8_hours 10 = .ok (.aload_n 0, 1) := by decide +kernel
theorem dX8_hours_11 : decode cX8_hours 11 = .ok (.ldc 67, 2) := by decide +kernel
theorem dX8_hours_13 : decode cX8_hours 13 = .ok (.invokevirtual 68, 3) := by decide +kernel
theorem dX8_hours_16 : decode cX8_hours 16 = .ok (.ireturn, 1) := by decide +kernel

theorem dX8_hours_17 : decode cX8_hours 17 = .ok (.aload_n 0, 1) := by decide +kernel
theorem dX8_hours_18 : decode cX8_hours 18 = .ok (.getfield 12, 3) := by decide +kernel
theorem dX8_hours_21 : decode cX8_hours 21 = .ok (.getfield 191, 3) := by decide +kernel
theorem dX8_hours_24 : decode cX8_hours 24 = .ok (.sipush 9999, 3) := by decide +kernel
theorem dX8_hours_27 : decode cX8_hours 27 = .ok (.iload_n 1, 1) := by decide +kernel
theorem dX8_hours_28 : decode cX8_hours 28 = .ok (.isub, 1) := by decide +kernel
theorem dX8_hours_29 : decode cX8_hours 29 = .ok (.if_icmp .le 10, 3) := by decide +kernel
theorem dX8_hours_32 : decode cX8_hours 32 = .ok (.aload_n 0, 1) := by decide +kernel
theorem dX8_hours_33 : decode cX8_hours 33 = .ok (.ldc 143, 2) := by decide +kernel
theorem dX8_hours_35 : decode cX8_hours 35 = .ok (.invokevirtual 68, 3) := by decide +kernel
theorem dX8_hours_38 : decode cX8_hours 38 = .ok (.ireturn, 1) := by decide +kernel
theorem dX8_hours_39 : decode cX8_hours 39 = .ok (.iconst 0, 1) := by decide +kernel
theorem dX8_hours_40 : decode cX8_hours 40 = .ok (.istore_n 2, 1) := by decide +kernel
theorem dX8_hours_41 : decode cX8_hours 41 = .ok (.iload_n 2, 1) := by decide +kernel
theorem dX8_hours_42 : decode cX8_hours 42 = .ok (.iload_n 1, 1) := by decide +kernel
theorem dX8_hours_43 : decode cX8_hours 43 = .ok (.if_icmp .ge 16, 3) := by decide +kernel
theorem dX8_hours_46 : decode cX8_hours 46 = .ok (.aload_n 0, 1) := by decide +kernel
theorem dX8_hours_47 : decode cX8_hours 47 = .ok (.getfield 12, 3) := by decide +kernel
theorem dX8_hours_50 : decode cX8_hours 50 = .ok (.invokevirtual 194, 3) := by decide +kernel
theorem dX8_hours_53 : decode cX8_hours 53 = .ok (.iinc 2 1, 3) := by decide +kernel
theorem dX8_hours_56 : decode cX8_hours 56 = .ok (.goto (-15), 3) := by decide +kernel
theorem dX8_hours_59 : decode cX8_hours 59 = .ok (.aload_n 0, 1) := by decide +kernel
theorem dX8_hours_60 : decode cX8_hours 60 = .ok (.getfield 12, 3) := by decide +kernel
theorem dX8_hours_63 : decode cX8_hours 63 = .ok (.getfield 191, 3) := by decide +kernel
theorem dX8_hours_66 : decode cX8_hours 66 = .ok (.ireturn, 1) := by decide +kernel
set_option maxRecDepth 20000 in
theorem ggX8_loose_X8_within : GoodIn wsX8_loose wsX8_within := goodIn_r _ [8] (by decide +kernel) (by decide +kernel)
set_option maxRecDepth 20000 in
theorem gX8_loose_X8_within : GoodIn wsX8_loose (va_wsS RX8 63 yX8_within wsX8_within) := goodIn_app (goodIn_of _ (by decide +kernel)) ggX8_loose_X8_within
set_option maxRecDepth 20000 in
theorem ggX8_loose_X8_error : GoodIn wsX8_loose wsX8_error := goodIn_r _ [12, 13, 14, 5, 6, 7, 8, 116, 117, 118, 119, 120, 121, 122, 123, 124] (by decide +kernel) (by decide +kernel)
set_option maxRecDepth 20000 in
theorem gX8_loose_X8_error : GoodIn wsX8_loose (wsV RX8 68 RX8 yX8_error wsX8_error) := goodIn_app (goodIn_of _ (by decide +kernel)) ggX8_loose_X8_error
set_option maxRecDepth 20000 in
theorem ggX8_loose_X0_passHourByDraws : GoodIn wsX8_loose wsX0_passHourByDraws := goodIn_r _ [19, 20, 21, 22, 23, 24, 18, 25, 26, 27, 28, 29, 30, 31, 32, 33, 34, 35, 36, 37, 38, 39, 40, 41, 42, 43, 44, 45, 46, 47, 48, 49, 50, 51, 52, 53, 54, 55, 56, 57, 58, 59, 60, 61, 62, 63, 64, 65, 66, 67, 68, 69, 70, 71, 72, 73, 74, 75, 76, 77, 78, 79, 80, 81, 82, 83, 84, 85, 86, 87, 88, 89, 90, 91, 92, 93, 94, 95, 96, 97, 98, 99, 100, 101, 102, 103, 104, 105, 106, 107, 108, 109, 110, 111, 112, 113, 114, 115, 125, 126, 127, 128, 129, 130, 131, 132, 133, 134, 135, 136, 137, 138, 139, 140, 141, 142, 143, 144, 145, 146, 147] (by decide +kernel) (by decide +kernel)
set_option maxRecDepth 20000 in
theorem gX8_loose_X0_passHourByDraws : GoodIn wsX8_loose (wsV RX8 197 RX0 yX0_passHourByDraws wsX0_passHourByDraws) := goodIn_app (goodIn_of _ (by decide +kernel)) ggX8_loose_X0_passHourByDraws
theorem dX8_loose_0 : decode cX8_loose 0 = .ok (.iload_n 1, 1) := by decide +kernel
theorem dX8_loose_1 : decode cX8_loose 1 = .ok (.iconst 1, 1) := by decide +kernel
theorem dX8_loose_2 : decode cX8_loose 2 = .ok (.bipush 30, 2) := by decide +kernel
theorem dX8_loose_4 : decode cX8_loose 4 = .ok (.invokestatic 63, 3) := by decide +kernel
theorem dX8_loose_7 : decode cX8_loose 7 = .ok (.ifCond .ne 10, 3) := by decide +kernel
theorem dX8_loose_10 : decode cX8_loose 10 = .ok (.aload_n 0, 1) := by decide +kernel
theorem dX8_loose_11 : decode cX8_loose 11 = .ok (.ldc 67, 2) := by decide +kernel
theorem dX8_loose_13 : decode cX8_loose 13 = .ok (.invokevirtual 68, 3) := by decide +kernel
theorem dX8_loose_16 : decode cX8_loose 16 = .ok (.ireturn, 1) := by decide +kernel
theorem dX8_loose_17 : decode cX8_loose 17 = .ok (.aload_n 0, 1) := by decide +kernel
theorem dX8_loose_18 : decode cX8_loose 18 = .ok (.getfield 12, 3) := by decide +kernel
theorem dX8_loose_21 : decode cX8_loose 21 = .ok (.getfield 191, 3) := by decide +kernel
theorem dX8_loose_24 : decode cX8_loose 24 = .ok (.sipush 9999, 3) := by decide +kernel
theorem dX8_loose_27 : decode cX8_loose 27 = .ok (.iload_n 1, 1) := by decide +kernel
theorem dX8_loose_28 : decode cX8_loose 28 = .ok (.isub, 1) := by decide +kernel
theorem dX8_loose_29 : decode cX8_loose 29 = .ok (.if_icmp .le 10, 3) := by decide +kernel
theorem dX8_loose_32 : decode cX8_loose 32 = .ok (.aload_n 0, 1) := by decide +kernel
theorem dX8_loose_33 : decode cX8_loose 33 = .ok (.ldc 143, 2) := by decide +kernel
theorem dX8_loose_35 : decode cX8_loose 35 = .ok (.invokevirtual 68, 3) := by decide +kernel
theorem dX8_loose_38 : decode cX8_loose 38 = .ok (.ireturn, 1) := by decide +kernel
theorem dX8_loose_39 : decode cX8_loose 39 = .ok (.iconst 0, 1) := by decide +kernel
theorem dX8_loose_40 : decode cX8_loose 40 = .ok (.istore_n 2, 1) := by decide +kernel
theorem dX8_loose_41 : decode cX8_loose 41 = .ok (.iconst 0, 1) := by decide +kernel
theorem dX8_loose_42 : decode cX8_loose 42 = .ok (.istore_n 3, 1) := by decide +kernel
theorem dX8_loose_43 : decode cX8_loose 43 = .ok (.iload_n 3, 1) := by decide +kernel
theorem dX8_loose_44 : decode cX8_loose 44 = .ok (.iload_n 1, 1) := by decide +kernel
theorem dX8_loose_45 : decode cX8_loose 45 = .ok (.if_icmp .ge 19, 3) := by decide +kernel
theorem dX8_loose_48 : decode cX8_loose 48 = .ok (.iload_n 2, 1) := by decide +kernel
theorem dX8_loose_49 : decode cX8_loose 49 = .ok (.aload_n 0, 1) := by decide +kernel
theorem dX8_loose_50 : decode cX8_loose 50 = .ok (.getfield 12, 3) := by decide +kernel
theorem dX8_loose_53 : decode cX8_loose 53 = .ok (.invokevirtual 197, 3) := by decide +kernel
theorem dX8_loose_56 : decode cX8_loose 56 = .ok (.iadd, 1) := by decide +kernel
theorem dX8_loose_57 : decode cX8_loose 57 = .ok (.istore_n 2, 1) := by decide +kernel
theorem dX8_loose_58 : decode cX8_loose 58 = .ok (.iinc 3 1, 3) := by decide +kernel
theorem dX8_loose_61 : decode cX8_loose 61 = .ok (.goto (-18), 3) := by decide +kernel
theorem dX8_loose_64 : decode cX8_loose 64 = .ok (.iload_n 2, 1) := by decide +kernel
theorem dX8_loose_65 : decode cX8_loose 65 = .ok (.ireturn, 1) := by decide +kernel
theorem dX8_seed_0 : decode cX8_seed 0 = .ok (.aload_n 0, 1) := by decide +kernel
theorem dX8_seed_1 : decode cX8_seed 1 = .ok (.getfield 12, 3) := by decide +kernel
theorem dX8_seed_4 : decode cX8_seed 4 = .ok (.getfield 201, 3) := by decide +kernel
theorem dX8_seed_7 : decode cX8_seed 7 = .ok (.istore_n 2, 1) := by decide +kernel
theorem dX8_seed_8 : decode cX8_seed 8 = .ok (.aload_n 0, 1) := by decide +kernel
theorem dX8_seed_9 : decode cX8_seed 9 = .ok (.getfield 12, 3) := by decide +kernel
theorem dX8_seed_12 : decode cX8_seed 12 = .ok (.iload_n 1, 1) := by decide +kernel
theorem dX8_seed_13 : decode cX8_seed 13 = .ok (.putfield 201, 3) := by decide +kernel
theorem dX8_seed_16 : decode cX8_seed 16 = .ok (.iload_n 2, 1) := by decide +kernel
theorem dX8_seed_17 : decode cX8_seed 17 = .ok (.ireturn, 1) := by decide +kernel
set_option maxRecDepth 20000 in
theorem ggX8_words_X0_judgeOn : GoodIn wsX8_words wsX0_judgeOn := goodIn_r _ [8, 9, 10, 100, 101, 102, 103, 104, 105, 106, 107, 108, 109, 110, 111] (by decide +kernel) (by decide +kernel)
set_option maxRecDepth 20000 in
theorem gX8_words_X0_judgeOn : GoodIn wsX8_words (wsV RX8 80 RX0 yX0_judgeOn wsX0_judgeOn) := goodIn_app (goodIn_of _ (by decide +kernel)) ggX8_words_X0_judgeOn
set_option maxRecDepth 20000 in
theorem ggX8_words_X8_within : GoodIn wsX8_words wsX8_within := goodIn_r _ [14] (by decide +kernel) (by decide +kernel)
set_option maxRecDepth 20000 in
theorem gX8_words_X8_within : GoodIn wsX8_words (va_wsS RX8 63 yX8_within wsX8_within) := goodIn_app (goodIn_of _ (by decide +kernel)) ggX8_words_X8_within
set_option maxRecDepth 20000 in
theorem ggX8_words_X8_error : GoodIn wsX8_words wsX8_error := goodIn_r _ [18, 19, 20, 11, 12, 13, 14, 91, 92, 93, 94, 95, 96, 97, 98, 99] (by decide +kernel) (by decide +kernel)
set_option maxRecDepth 20000 in
theorem gX8_words_X8_error : GoodIn wsX8_words (wsV RX8 68 RX8 yX8_error wsX8_error) := goodIn_app (goodIn_of _ (by decide +kernel)) ggX8_words_X8_error
set_option maxRecDepth 20000 in
theorem ggX8_words_X0_contentWords : GoodIn wsX8_words wsX0_contentWords := goodIn_r _ [24, 25, 26, 27, 7, 28, 29, 30, 31, 32, 33, 34, 35, 36, 37, 38, 39, 40, 41, 42, 43, 44, 45, 46, 47, 48, 49, 50, 51, 52, 53, 54, 55, 56, 57, 58, 59, 60, 61, 62, 63, 64, 65, 66, 67, 68, 69, 70, 71, 72, 73, 74, 75, 76, 77, 78, 79, 80, 81, 82, 83, 84, 85, 86, 100, 101, 102, 103, 104, 105, 106, 107, 108, 109, 110, 111, 112, 113, 114, 115, 116, 117, 118] (by decide +kernel) (by decide +kernel)
set_option maxRecDepth 20000 in
theorem gX8_words_X0_contentWords : GoodIn wsX8_words (wsV RX8 204 RX0 yX0_contentWords wsX0_contentWords) := goodIn_app (goodIn_of _ (by decide +kernel)) ggX8_words_X0_contentWords
set_option maxRecDepth 20000 in
theorem ggX8_words_X0_leastContent : GoodIn wsX8_words wsX0_leastContent := goodIn_r _ [90, 25, 26, 27, 7, 28, 29, 30, 31, 32, 33, 34, 35, 36, 37, 38, 39, 40, 41, 42, 43, 44, 45, 46, 47, 48, 49, 50, 51, 52, 53, 54, 55, 56, 57, 58, 59, 60, 61, 62, 63, 64, 65, 66, 67, 68, 69, 70, 71, 72, 73, 74, 75, 76, 77, 78, 79, 80, 81, 82, 83, 84, 85, 86, 100, 101, 102, 103, 104, 105, 106, 107, 108, 109, 110, 111, 112, 113, 114, 115, 116, 117, 118] (by decide +kernel) (by decide +kernel)
set_option maxRecDepth 20000 in
theorem gX8_words_X0_leastContent : GoodIn wsX8_words (wsV RX8 207 RX0 yX0_leastContent wsX0_leastContent) := goodIn_app (goodIn_of _ (by decide +kernel)) ggX8_words_X0_leastContent
theorem dX8_words_0 : decode cX8_words 0 = .ok (.aload_n 0, 1) := by decide +kernel
theorem dX8_words_1 : decode cX8_words 1 = .ok (.getfield 12, 3) := by decide +kernel
theorem dX8_words_4 : decode cX8_words 4 = .ok (.iload_n 1, 1) := by decide +kernel
theorem dX8_words_5 : decode cX8_words 5 = .ok (.invokevirtual 80, 3) := by decide +kernel
theorem dX8_words_8 : decode cX8_words 8 = .ok (.astore_n 3, 1) := by decide +kernel
theorem dX8_words_9 : decode cX8_words 9 = .ok (.aload_n 3, 1) := by decide +kernel
theorem dX8_words_10 : decode cX8_words 10 = .ok (.ifnull 12, 3) := by decide +kernel
theorem dX8_words_13 : decode cX8_words 13 = .ok (.iload_n 2, 1) := by decide +kernel
theorem dX8_words_14 : decode cX8_words 14 = .ok (.iconst 0, 1) := by decide +kernel
theorem dX8_words_15 : decode cX8_words 15 = .ok (.iconst 1, 1) := by decide +kernel
theorem dX8_words_16 : decode cX8_words 16 = .ok (.invokestatic 63, 3) := by decide +kernel
theorem dX8_words_19 : decode cX8_words 19 = .ok (.ifCond .ne 10, 3) := by decide +kernel
theorem dX8_words_22 : decode cX8_words 22 = .ok (.aload_n 0, 1) := by decide +kernel
theorem dX8_words_23 : decode cX8_words 23 = .ok (.ldc 67, 2) := by decide +kernel
theorem dX8_words_25 : decode cX8_words 25 = .ok (.invokevirtual 68, 3) := by decide +kernel
theorem dX8_words_28 : decode cX8_words 28 = .ok (.ireturn, 1) := by decide +kernel
theorem dX8_words_29 : decode cX8_words 29 = .ok (.iload_n 2, 1) := by decide +kernel
theorem dX8_words_30 : decode cX8_words 30 = .ok (.ifCond .ne 12, 3) := by decide +kernel
theorem dX8_words_33 : decode cX8_words 33 = .ok (.aload_n 0, 1) := by decide +kernel
theorem dX8_words_34 : decode cX8_words 34 = .ok (.getfield 12, 3) := by decide +kernel
theorem dX8_words_37 : decode cX8_words 37 = .ok (.aload_n 3, 1) := by decide +kernel
theorem dX8_words_38 : decode cX8_words 38 = .ok (.invokevirtual 204, 3) := by decide +kernel
theorem dX8_words_41 : decode cX8_words 41 = .ok (.ireturn, 1) := by decide +kernel
theorem dX8_words_42 : decode cX8_words 42 = .ok (.aload_n 0, 1) := by decide +kernel
theorem dX8_words_43 : decode cX8_words 43 = .ok (.getfield 12, 3) := by decide +kernel
theorem dX8_words_46 : decode cX8_words 46 = .ok (.aload_n 3, 1) := by decide +kernel
theorem dX8_words_47 : decode cX8_words 47 = .ok (.invokevirtual 207, 3) := by decide +kernel
theorem dX8_words_50 : decode cX8_words 50 = .ok (.istore 4, 2) := by decide +kernel
theorem dX8_words_52 : decode cX8_words 52 = .ok (.iload 4, 2) := by decide +kernel
theorem dX8_words_54 : decode cX8_words 54 = .ok (.ifCond .ge 12, 3) := by decide +kernel
theorem dX8_words_57 : decode cX8_words 57 = .ok (.aload_n 0, 1) := by decide +kernel
theorem dX8_words_58 : decode cX8_words 58 = .ok (.ldc 210, 2) := by decide +kernel
theorem dX8_words_60 : decode cX8_words 60 = .ok (.invokevirtual 68, 3) := by decide +kernel
theorem dX8_words_63 : decode cX8_words 63 = .ok (.goto 5, 3) := by decide +kernel
theorem dX8_words_66 : decode cX8_words 66 = .ok (.iload 4, 2) := by decide +kernel
theorem dX8_words_68 : decode cX8_words 68 = .ok (.ireturn, 1) := by decide +kernel
set_option maxRecDepth 20000 in
theorem ggX8_climb_X0_copyFrom : GoodIn wsX8_climb wsX0_copyFrom := goodIn_r _ [12, 13, 14, 15, 16, 17, 18, 19, 20, 21, 22, 23, 24, 25, 26, 27, 28, 29, 30, 31, 32, 33, 34, 35, 36, 37, 38, 39, 40, 41, 42, 43, 44, 45, 46, 47, 48, 49, 50, 51, 52, 53, 180, 181, 182, 183, 184, 185, 186, 187, 188, 189, 190, 191, 192, 193, 194, 195, 176, 177, 178, 179, 196, 197, 198] (by decide +kernel) (by decide +kernel)
set_option maxRecDepth 20000 in
theorem gX8_climb_X0_copyFrom : GoodIn wsX8_climb (wsV RX8 211 RX0 yX0_copyFrom wsX0_copyFrom) := goodIn_app (goodIn_of _ (by decide +kernel)) ggX8_climb_X0_copyFrom
set_option maxRecDepth 20000 in
theorem ggX8_climb_X0_personOf : GoodIn wsX8_climb wsX0_personOf := goodIn_r _ [57, 15, 16, 180, 181, 182, 183, 184, 185, 186, 187, 188, 189, 190, 191] (by decide +kernel) (by decide +kernel)
set_option maxRecDepth 20000 in
theorem gX8_climb_X0_personOf : GoodIn wsX8_climb (wsV RX8 110 RX0 yX0_personOf wsX0_personOf) := goodIn_app (goodIn_of _ (by decide +kernel)) ggX8_climb_X0_personOf
set_option maxRecDepth 20000 in
theorem ggX8_climb_X8_sheetOf : GoodIn wsX8_climb wsX8_sheetOf := goodIn_r _ [62, 63, 164, 165, 166, 167, 168, 169, 170, 171, 172] (by decide +kernel) (by decide +kernel)
set_option maxRecDepth 20000 in
theorem gX8_climb_X8_sheetOf : GoodIn wsX8_climb (wsV RX8 214 RX8 yX8_sheetOf wsX8_sheetOf) := goodIn_app (goodIn_of _ (by decide +kernel)) ggX8_climb_X8_sheetOf
set_option maxRecDepth 20000 in
theorem ggX8_climb_X8_within : GoodIn wsX8_climb wsX8_within := goodIn_r _ [66] (by decide +kernel) (by decide +kernel)
set_option maxRecDepth 20000 in
theorem gX8_climb_X8_within : GoodIn wsX8_climb (va_wsS RX8 63 yX8_within wsX8_within) := goodIn_app (goodIn_of _ (by decide +kernel)) ggX8_climb_X8_within
set_option maxRecDepth 20000 in
theorem ggX8_climb_X8_error : GoodIn wsX8_climb wsX8_error := goodIn_r _ [70, 71, 72, 64, 65, 61, 66, 164, 165, 166, 167, 168, 169, 170, 171, 172] (by decide +kernel) (by decide +kernel)
set_option maxRecDepth 20000 in
theorem gX8_climb_X8_error : GoodIn wsX8_climb (wsV RX8 68 RX8 yX8_error wsX8_error) := goodIn_app (goodIn_of _ (by decide +kernel)) ggX8_climb_X8_error
set_option maxRecDepth 20000 in
theorem ggX8_climb_X5_isMissing : GoodIn wsX8_climb wsX5_isMissing := goodIn_r _ [77, 78, 173, 174, 175] (by decide +kernel) (by decide +kernel)
set_option maxRecDepth 20000 in
theorem gX8_climb_X5_isMissing : GoodIn wsX8_climb (wsV RX8 218 RX5 yX5_isMissing wsX5_isMissing) := goodIn_app (goodIn_of _ (by decide +kernel)) ggX8_climb_X5_isMissing
set_option maxRecDepth 20000 in
theorem ggX8_climb_X5_holdsWordsAlone : GoodIn wsX8_climb wsX5_holdsWordsAlone := goodIn_r _ [82, 83, 84, 85, 86, 76, 87, 88, 89, 61, 90, 64, 65, 66, 173, 174, 175] (by decide +kernel) (by decide +kernel)
set_option maxRecDepth 20000 in
theorem gX8_climb_X5_holdsWordsAlone : GoodIn wsX8_climb (wsV RX8 221 RX5 yX5_holdsWordsAlone wsX5_holdsWordsAlone) := goodIn_app (goodIn_of _ (by decide +kernel)) ggX8_climb_X5_holdsWordsAlone
set_option maxRecDepth 20000 in
theorem ggX8_climb_X0_canGo : GoodIn wsX8_climb wsX0_canGo := goodIn_r _ [94, 95, 96, 97, 98, 11, 99, 100, 13, 176, 177, 178, 179, 180, 181, 182, 183, 184, 185, 186, 187, 188, 189, 190, 191] (by decide +kernel) (by decide +kernel)
set_option maxRecDepth 20000 in
theorem gX8_climb_X0_canGo : GoodIn wsX8_climb (wsV RX8 140 RX0 yX0_canGo wsX0_canGo) := goodIn_app (goodIn_of _ (by decide +kernel)) ggX8_climb_X0_canGo
set_option maxRecDepth 20000 in
theorem ggX8_climb_X5_get : GoodIn wsX8_climb wsX5_get := goodIn_r _ [87, 83, 88, 173, 174, 175] (by decide +kernel) (by decide +kernel)
set_option maxRecDepth 20000 in
theorem gX8_climb_X5_get : GoodIn wsX8_climb (wsV RX8 227 RX5 yX5_get wsX5_get) := goodIn_app (goodIn_of _ (by decide +kernel)) ggX8_climb_X5_get
set_option maxRecDepth 20000 in
theorem ggX8_climb_X0_hear : GoodIn wsX8_climb wsX0_hear := goodIn_r _ [105, 100, 106, 107, 108, 109, 110, 95, 111, 112, 113, 114, 115, 116, 117, 11, 118, 13, 14, 119, 120, 121, 122, 27, 123, 124, 125, 126, 127, 32, 128, 34, 35, 129, 36, 130, 131, 132, 133, 134, 135, 136, 137, 138, 139, 140, 141, 142, 143, 144, 145, 17, 18, 146, 147, 148, 49, 149, 53, 150, 151, 152, 153, 51, 154, 155, 156, 157, 158, 159, 160, 161, 162, 163, 176, 177, 178, 179, 192, 193, 194, 195, 180, 181, 182, 183, 184, 185, 186, 187, 188, 189, 190, 191, 196, 197, 198] (by decide +kernel) (by decide +kernel)
set_option maxRecDepth 20000 in
theorem gX8_climb_X0_hear : GoodIn wsX8_climb (wsV RX8 144 RX0 yX0_hear wsX0_hear) := goodIn_app (goodIn_of _ (by decide +kernel)) ggX8_climb_X0_hear
theorem dX8_climb_0 : decode cX8_climb 0 = .ok (.aload_n 0, 1) := by decide +kernel
theorem dX8_climb_1 : decode cX8_climb 1 = .ok (.getfield 19, 3) := by decide +kernel
theorem dX8_climb_4 : decode cX8_climb 4 = .ok (.aload_n 0, 1) := by decide +kernel
theorem dX8_climb_5 : decode cX8_climb 5 = .ok (.getfield 12, 3) := by decide +kernel
theorem dX8_climb_8 : decode cX8_climb 8 = .ok (.invokevirtual 211, 3) := by decide +kernel
theorem dX8_climb_11 : decode cX8_climb 11 = .ok (.aload_n 0, 1) := by decide +kernel
theorem dX8_climb_12 : decode cX8_climb 12 = .ok (.getfield 19, 3) := by decide +kernel
theorem dX8_climb_15 : decode cX8_climb 15 = .ok (.iload_n 1, 1) := by decide +kernel
theorem dX8_climb_16 : decode cX8_climb 16 = .ok (.invokevirtual 110, 3) := by decide +kernel
theorem dX8_climb_19 : decode cX8_climb 19 = .ok (.astore 4, 2) := by decide +kernel
theorem dX8_climb_21 : decode cX8_climb 21 = .ok (.aload_n 0, 1) := by decide +kernel
theorem dX8_climb_22 : decode cX8_climb 22 = .ok (.iload_n 2, 1) := by decide +kernel
theorem dX8_climb_23 : decode cX8_climb 23 = .ok (.invokevirtual 214, 3) := by decide +kernel
theorem dX8_climb_26 : decode cX8_climb 26 = .ok (.astore 5, 2) := by decide +kernel
theorem dX8_climb_28 : decode cX8_climb 28 = .ok (.aload 4, 2) := by decide +kernel
theorem dX8_climb_30 : decode cX8_climb 30 = .ok (.ifnull 17, 3) := by decide +kernel
theorem dX8_climb_33 : decode cX8_climb 33 = .ok (.aload 5, 2) := by decide +kernel
theorem dX8_climb_35 : decode cX8_climb 35 = .ok (.ifnull 12, 3) := by decide +kernel
theorem dX8_climb_38 : decode cX8_climb 38 = .ok (.iload_n 3, 1) := by decide +kernel
theorem dX8_climb_39 : decode cX8_climb 39 = .ok (.iconst 0, 1) := by decide +kernel
theorem dX8_climb_40 : decode cX8_climb 40 = .ok (.iconst 2, 1) := by decide +kernel
theorem dX8_climb_41 : decode cX8_climb 41 = .ok (.invokestatic 63, 3) := by decide +kernel
theorem dX8_climb_44 : decode cX8_climb 44 = .ok (.ifCond .ne 10, 3) := by decide +kernel
theorem dX8_climb_47 : decode cX8_climb 47 = .ok (.aload_n 0, 1) := by decide +kernel
theorem dX8_climb_48 : decode cX8_climb 48 = .ok (.ldc 67, 2) := by decide +kernel
theorem dX8_climb_50 : decode cX8_climb 50 = .ok (.invokevirtual 68, 3) := by decide +kernel
theorem dX8_climb_53 : decode cX8_climb 53 = .ok (.ireturn, 1) := by decide +kernel
theorem dX8_climb_54 : decode cX8_climb 54 = .ok (.aload 5, 2) := by decide +kernel
theorem dX8_climb_56 : decode cX8_climb 56 = .ok (.invokevirtual 218, 3) := by decide +kernel
theorem dX8_climb_59 : decode cX8_climb 59 = .ok (.ifCond .eq 10, 3) := by decide +kernel
theorem dX8_climb_62 : decode cX8_climb 62 = .ok (.aload_n 0, 1) := by decide +kernel
theorem dX8_climb_63 : decode cX8_climb 63 = .ok (.ldc 210, 2) := by decide +kernel
theorem dX8_climb_65 : decode cX8_climb 65 = .ok (.invokevirtual 68, 3) := by decide +kernel
theorem dX8_climb_68 : decode cX8_climb 68 = .ok (.ireturn, 1) := by decide +kernel
theorem dX8_climb_69 : decode cX8_climb 69 = .ok (.aload 5, 2) := by decide +kernel
theorem dX8_climb_71 : decode cX8_climb 71 = .ok (.invokevirtual 221, 3) := by decide +kernel
theorem dX8_climb_74 : decode cX8_climb 74 = .ok (.ifCond .ne 10, 3) := by decide +kernel
theorem dX8_climb_77 : decode cX8_climb 77 = .ok (.aload_n 0, 1) := by decide +kernel
theorem dX8_climb_78 : decode cX8_climb 78 = .ok (.ldc 143, 2) := by decide +kernel
theorem dX8_climb_80 : decode cX8_climb 80 = .ok (.invokevirtual 68, 3) := by decide +kernel
theorem dX8_climb_83 : decode cX8_climb 83 = .ok (.ireturn, 1) := by decide +kernel
theorem dX8_climb_84 : decode cX8_climb 84 = .ok (.iconst 0, 1) := by decide +kernel
theorem dX8_climb_85 : decode cX8_climb 85 = .ok (.istore 6, 2) := by decide +kernel
theorem dX8_climb_87 : decode cX8_climb 87 = .ok (.iconst 0, 1) := by decide +kernel
theorem dX8_climb_88 : decode cX8_climb 88 = .ok (.istore 7, 2) := by decide +kernel
theorem dX8_climb_90 : decode cX8_climb 90 = .ok (.iload 6, 2) := by decide +kernel
theorem dX8_climb_92 : decode cX8_climb 92 = .ok (.aload 5, 2) := by decide +kernel
theorem dX8_climb_94 : decode cX8_climb 94 = .ok (.getfield 224, 3) := by decide +kernel
theorem dX8_climb_97 : decode cX8_climb 97 = .ok (.if_icmp .ge 43, 3) := by decide +kernel
theorem dX8_climb_100 : decode cX8_climb 100 = .ok (.aload_n 0, 1) := by decide +kernel
theorem dX8_climb_101 : decode cX8_climb 101 = .ok (.getfield 19, 3) := by decide +kernel
theorem dX8_climb_104 : decode cX8_climb 104 = .ok (.aload 4, 2) := by decide +kernel
theorem dX8_climb_106 : decode cX8_climb 106 = .ok (.invokevirtual 140, 3) := by decide +kernel
theorem dX8_climb_109 : decode cX8_climb 109 = .ok (.ifCond .eq 31, 3) := by decide +kernel
theorem dX8_climb_112 : decode cX8_climb 112 = .ok (.aload_n 0, 1) := by decide +kernel
theorem dX8_climb_113 : decode cX8_climb 113 = .ok (.getfield 19, 3) := by decide +kernel
theorem dX8_climb_116 : decode cX8_climb 116 = .ok (.aload 4, 2) := by decide +kernel
theorem dX8_climb_118 : decode cX8_climb 118 = .ok (.aload 5, 2) := by decide +kernel
theorem dX8_climb_120 : decode cX8_climb 120 = .ok (.iload 6, 2) := by decide +kernel
theorem dX8_climb_122 : decode cX8_climb 122 = .ok (.invokevirtual 227, 3) := by decide +kernel
theorem dX8_climb_125 : decode cX8_climb 125 = .ok (.invokevirtual 144, 3) := by decide +kernel
theorem dX8_climb_128 : decode cX8_climb 128 = .ok (.ifCond .ne 6, 3) := by decide +kernel
theorem dX8_climb_131 : decode cX8_climb 131 = .ok (.iinc 7 1, 3) := by decide +kernel
theorem dX8_climb_134 : decode cX8_climb 134 = .ok (.iinc 6 1, 3) := by decide +kernel
theorem dX8_climb_137 : decode cX8_climb 137 = .ok (.goto (-47), 3) := by decide +kernel
theorem dX8_climb_140 : decode cX8_climb 140 = .ok (.iload_n 3, 1) := by decide +kernel
theorem dX8_climb_141 : decode cX8_climb 141 = .ok (.lookupswitch 36 #[(0, 27), (1, 33)], 27) := by decide +kernel
theorem dX8_climb_168 : decode cX8_climb 168 = .ok (.aload 4, 2) := by decide +kernel
theorem dX8_climb_170 : decode cX8_climb 170 = .ok (.getfield 114, 3) := by decide +kernel
theorem dX8_climb_173 : decode cX8_climb 173 = .ok (.ireturn, 1) := by decide +kernel
theorem dX8_climb_174 : decode cX8_climb 174 = .ok (.iload 6, 2) := by decide +kernel
theorem dX8_climb_176 : decode cX8_climb 176 = .ok (.ireturn, 1) := by decide +kernel
theorem dX8_climb_177 : decode cX8_climb 177 = .ok (.iload 7, 2) := by decide +kernel
theorem dX8_climb_179 : decode cX8_climb 179 = .ok (.ireturn, 1) := by decide +kernel
set_option maxRecDepth 20000 in
theorem ggX8_fewest_X0_personOf : GoodIn wsX8_fewest wsX0_personOf := goodIn_r _ [10, 11, 12, 130, 131, 132, 133, 134, 135, 136, 137, 138, 139, 140, 141] (by decide +kernel) (by decide +kernel)
set_option maxRecDepth 20000 in
theorem gX8_fewest_X0_personOf : GoodIn wsX8_fewest (wsV RX8 110 RX0 yX0_personOf wsX0_personOf) := goodIn_app (goodIn_of _ (by decide +kernel)) ggX8_fewest_X0_personOf
set_option maxRecDepth 20000 in
theorem ggX8_fewest_X8_within : GoodIn wsX8_fewest wsX8_within := goodIn_r _ [16] (by decide +kernel) (by decide +kernel)
set_option maxRecDepth 20000 in
theorem gX8_fewest_X8_within : GoodIn wsX8_fewest (va_wsS RX8 63 yX8_within wsX8_within) := goodIn_app (goodIn_of _ (by decide +kernel)) ggX8_fewest_X8_within
set_option maxRecDepth 20000 in
theorem ggX8_fewest_X8_error : GoodIn wsX8_fewest wsX8_error := goodIn_r _ [20, 21, 22, 13, 14, 15, 16, 117, 118, 119, 120, 121, 122, 123, 124, 125] (by decide +kernel) (by decide +kernel)
set_option maxRecDepth 20000 in
theorem gX8_fewest_X8_error : GoodIn wsX8_fewest (wsV RX8 68 RX8 yX8_error wsX8_error) := goodIn_app (goodIn_of _ (by decide +kernel)) ggX8_fewest_X8_error
set_option maxRecDepth 20000 in
theorem ggX8_fewest_X1_find : GoodIn wsX8_fewest wsX1_find := goodIn_r _ [27, 28, 29, 30, 31, 32, 33, 34, 35, 36, 37, 38, 39, 40, 41, 42, 26, 43, 44, 45, 46, 9, 47, 48, 49, 50, 51, 52, 53, 54, 55, 56, 57, 58, 59, 60, 61, 62, 63, 64, 65, 66, 67, 68, 69, 70, 71, 72, 73, 74, 75, 76, 77, 78, 79, 80, 81, 82, 83, 84, 85, 86, 87, 88, 89, 90, 91, 92, 93, 94, 95, 96, 97, 98, 99, 100, 101, 102, 103, 104, 105, 106, 107, 108, 109, 110, 111, 112, 142, 143, 144, 145, 130, 131, 132, 133, 134, 135, 136, 137, 138, 139, 140, 141, 146, 147, 148, 149, 150, 151, 152] (by decide +kernel) (by decide +kernel)
set_option maxRecDepth 20000 in
theorem gX8_fewest_X1_find : GoodIn wsX8_fewest (wsV RX8 230 RX1 yX1_find wsX1_find) := goodIn_app (goodIn_of _ (by decide +kernel)) ggX8_fewest_X1_find
set_option maxRecDepth 20000 in
theorem ggX8_fewest_X1_wordAt : GoodIn wsX8_fewest wsX1_wordAt := goodIn_r _ [116, 28, 142, 143, 144, 145] (by decide +kernel) (by decide +kernel)
set_option maxRecDepth 20000 in
theorem gX8_fewest_X1_wordAt : GoodIn wsX8_fewest (wsV RX8 234 RX1 yX1_wordAt wsX1_wordAt) := goodIn_app (goodIn_of _ (by decide +kernel)) ggX8_fewest_X1_wordAt
theorem dX8_fewest_0 : decode cX8_fewest 0 = .ok (.aload_n 0, 1) := by decide +kernel
theorem dX8_fewest_1 : decode cX8_fewest 1 = .ok (.getfield 12, 3) := by decide +kernel
theorem dX8_fewest_4 : decode cX8_fewest 4 = .ok (.iload_n 1, 1) := by decide +kernel
theorem dX8_fewest_5 : decode cX8_fewest 5 = .ok (.invokevirtual 110, 3) := by decide +kernel
theorem dX8_fewest_8 : decode cX8_fewest 8 = .ok (.astore_n 3, 1) := by decide +kernel
theorem dX8_fewest_9 : decode cX8_fewest 9 = .ok (.aload_n 3, 1) := by decide +kernel
theorem dX8_fewest_10 : decode cX8_fewest 10 = .ok (.ifnull 12, 3) := by decide +kernel
theorem dX8_fewest_13 : decode cX8_fewest 13 = .ok (.iload_n 2, 1) := by decide +kernel
theorem dX8_fewest_14 : decode cX8_fewest 14 = .ok (.iconst (-1), 1) := by decide +kernel
theorem dX8_fewest_15 : decode cX8_fewest 15 = .ok (.iconst 2, 1) := by decide +kernel
theorem dX8_fewest_16 : decode cX8_fewest 16 = .ok (.invokestatic 63, 3) := by decide +kernel
theorem dX8_fewest_19 : decode cX8_fewest 19 = .ok (.ifCond .ne 10, 3) := by decide +kernel
theorem dX8_fewest_22 : decode cX8_fewest 22 = .ok (.aload_n 0, 1) := by decide +kernel
theorem dX8_fewest_23 : decode cX8_fewest 23 = .ok (.ldc 67, 2) := by decide +kernel
theorem dX8_fewest_25 : decode cX8_fewest 25 = .ok (.invokevirtual 68, 3) := by decide +kernel
theorem dX8_fewest_28 : decode cX8_fewest 28 = .ok (.ireturn, 1) := by decide +kernel
theorem dX8_fewest_29 : decode cX8_fewest 29 = .ok (.aload_n 0, 1) := by decide +kernel
theorem dX8_fewest_30 : decode cX8_fewest 30 = .ok (.getfield 45, 3) := by decide +kernel
theorem dX8_fewest_33 : decode cX8_fewest 33 = .ok (.aload_n 0, 1) := by decide +kernel
theorem dX8_fewest_34 : decode cX8_fewest 34 = .ok (.getfield 12, 3) := by decide +kernel
theorem dX8_fewest_37 : decode cX8_fewest 37 = .ok (.aload_n 3, 1) := by decide +kernel
theorem dX8_fewest_38 : decode cX8_fewest 38 = .ok (.getfield 114, 3) := by decide +kernel
theorem dX8_fewest_41 : decode cX8_fewest 41 = .ok (.invokevirtual 230, 3) := by decide +kernel
theorem dX8_fewest_44 : decode cX8_fewest 44 = .ok (.istore 4, 2) := by decide +kernel
theorem dX8_fewest_46 : decode cX8_fewest 46 = .ok (.iload 4, 2) := by decide +kernel
theorem dX8_fewest_48 : decode cX8_fewest 48 = .ok (.ifCond .ge 10, 3) := by decide +kernel
theorem dX8_fewest_51 : decode cX8_fewest 51 = .ok (.aload_n 0, 1) := by decide +kernel
theorem dX8_fewest_52 : decode cX8_fewest 52 = .ok (.ldc 210, 2) := by decide +kernel
theorem dX8_fewest_54 : decode cX8_fewest 54 = .ok (.invokevirtual 68, 3) := by decide +kernel
theorem dX8_fewest_57 : decode cX8_fewest 57 = .ok (.ireturn, 1) := by decide +kernel
theorem dX8_fewest_58 : decode cX8_fewest 58 = .ok (.iload_n 2, 1) := by decide +kernel
theorem dX8_fewest_59 : decode cX8_fewest 59 = .ok (.iconst (-1), 1) := by decide +kernel
theorem dX8_fewest_60 : decode cX8_fewest 60 = .ok (.if_icmp .ne 8, 3) := by decide +kernel
theorem dX8_fewest_63 : decode cX8_fewest 63 = .ok (.iload 4, 2) := by decide +kernel
theorem dX8_fewest_65 : decode cX8_fewest 65 = .ok (.goto 11, 3) := by decide +kernel
theorem dX8_fewest_68 : decode cX8_fewest 68 = .ok (.aload_n 0, 1) := by decide +kernel
theorem dX8_fewest_69 : decode cX8_fewest 69 = .ok (.getfield 45, 3) := by decide +kernel
theorem dX8_fewest_72 : decode cX8_fewest 72 = .ok (.iload_n 2, 1) := by decide +kernel
theorem dX8_fewest_73 : decode cX8_fewest 73 = .ok (.invokevirtual 234, 3) := by decide +kernel
theorem dX8_fewest_76 : decode cX8_fewest 76 = .ok (.ireturn, 1) := by decide +kernel
set_option maxRecDepth 20000 in
theorem ggX8_cheapest_X0_personOf : GoodIn wsX8_cheapest wsX0_personOf := goodIn_r _ [10, 11, 12, 138, 139, 140, 141, 142, 143, 144, 145, 146, 147, 148, 149] (by decide +kernel) (by decide +kernel)
set_option maxRecDepth 20000 in
theorem gX8_cheapest_X0_personOf : GoodIn wsX8_cheapest (wsV RX8 110 RX0 yX0_personOf wsX0_personOf) := goodIn_app (goodIn_of _ (by decide +kernel)) ggX8_cheapest_X0_personOf
set_option maxRecDepth 20000 in
theorem ggX8_cheapest_X8_sheetOf : GoodIn wsX8_cheapest wsX8_sheetOf := goodIn_r _ [17, 18, 125, 126, 127, 128, 129, 130, 131, 132, 133] (by decide +kernel) (by decide +kernel)
set_option maxRecDepth 20000 in
theorem gX8_cheapest_X8_sheetOf : GoodIn wsX8_cheapest (wsV RX8 214 RX8 yX8_sheetOf wsX8_sheetOf) := goodIn_app (goodIn_of _ (by decide +kernel)) ggX8_cheapest_X8_sheetOf
set_option maxRecDepth 20000 in
theorem ggX8_cheapest_X8_within : GoodIn wsX8_cheapest wsX8_within := goodIn_r _ [21] (by decide +kernel) (by decide +kernel)
set_option maxRecDepth 20000 in
theorem gX8_cheapest_X8_within : GoodIn wsX8_cheapest (va_wsS RX8 63 yX8_within wsX8_within) := goodIn_app (goodIn_of _ (by decide +kernel)) ggX8_cheapest_X8_within
set_option maxRecDepth 20000 in
theorem ggX8_cheapest_X8_error : GoodIn wsX8_cheapest wsX8_error := goodIn_r _ [25, 26, 27, 19, 20, 16, 21, 125, 126, 127, 128, 129, 130, 131, 132, 133] (by decide +kernel) (by decide +kernel)
set_option maxRecDepth 20000 in
theorem gX8_cheapest_X8_error : GoodIn wsX8_cheapest (wsV RX8 68 RX8 yX8_error wsX8_error) := goodIn_app (goodIn_of _ (by decide +kernel)) ggX8_cheapest_X8_error
set_option maxRecDepth 20000 in
theorem ggX8_cheapest_X5_isMissing : GoodIn wsX8_cheapest wsX5_isMissing := goodIn_r _ [32, 33, 150, 151, 152] (by decide +kernel) (by decide +kernel)
set_option maxRecDepth 20000 in
theorem gX8_cheapest_X5_isMissing : GoodIn wsX8_cheapest (wsV RX8 218 RX5 yX5_isMissing wsX5_isMissing) := goodIn_app (goodIn_of _ (by decide +kernel)) ggX8_cheapest_X5_isMissing
set_option maxRecDepth 20000 in
theorem ggX8_cheapest_X0_judgeOn : GoodIn wsX8_cheapest wsX0_judgeOn := goodIn_r _ [37, 38, 39, 138, 139, 140, 141, 142, 143, 144, 145, 146, 147, 148, 149] (by decide +kernel) (by decide +kernel)
set_option maxRecDepth 20000 in
theorem gX8_cheapest_X0_judgeOn : GoodIn wsX8_cheapest (wsV RX8 80 RX0 yX0_judgeOn wsX0_judgeOn) := goodIn_app (goodIn_of _ (by decide +kernel)) ggX8_cheapest_X0_judgeOn
set_option maxRecDepth 20000 in
theorem ggX8_cheapest_X8_isContentByAny : GoodIn wsX8_cheapest wsX8_isContentByAny := goodIn_r _ [43, 44, 1, 45, 46, 47, 31, 48, 49, 50, 51, 52, 16, 53, 19, 20, 21, 54, 55, 56, 9, 57, 58, 59, 60, 61, 62, 63, 64, 65, 66, 67, 68, 69, 70, 71, 72, 73, 74, 75, 76, 77, 78, 79, 80, 81, 82, 83, 84, 85, 86, 87, 88, 89, 90, 91, 92, 93, 94, 95, 96, 97, 98, 99, 100, 101, 102, 103, 104, 105, 106, 107, 108, 109, 110, 111, 112, 113, 114, 115, 150, 151, 152, 125, 126, 127, 128, 129, 130, 131, 132, 133, 138, 139, 140, 141, 142, 143, 144, 145, 146, 147, 148, 149, 153, 154, 155, 156, 157, 158, 159] (by decide +kernel) (by decide +kernel)
set_option maxRecDepth 20000 in
theorem gX8_cheapest_X8_isContentByAny : GoodIn wsX8_cheapest (wsV RX8 237 RX8 yX8_isContentByAny wsX8_isContentByAny) := goodIn_app (goodIn_of _ (by decide +kernel)) ggX8_cheapest_X8_isContentByAny
set_option maxRecDepth 20000 in
theorem ggX8_cheapest_X0_bribeOf : GoodIn wsX8_cheapest wsX0_bribeOf := goodIn_r _ [119, 59, 120, 121, 122, 123, 64, 124, 69, 66, 67, 68, 82, 83, 84, 9, 85, 86, 87, 88, 89, 90, 91, 92, 93, 94, 95, 96, 97, 98, 99, 100, 101, 102, 103, 104, 105, 106, 107, 108, 109, 110, 111, 112, 113, 114, 115, 153, 154, 155, 156, 138, 139, 140, 141, 142, 143, 144, 145, 146, 147, 148, 149, 157, 158, 159] (by decide +kernel) (by decide +kernel)
set_option maxRecDepth 20000 in
theorem gX8_cheapest_X0_bribeOf : GoodIn wsX8_cheapest (wsV RX8 95 RX0 yX0_bribeOf wsX0_bribeOf) := goodIn_app (goodIn_of _ (by decide +kernel)) ggX8_cheapest_X0_bribeOf
theorem dX8_cheapest_0 : decode cX8_cheapest 0 = .ok (.aload_n 0, 1) := by decide +kernel
theorem dX8_cheapest_1 : decode cX8_cheapest 1 = .ok (.getfield 12, 3) := by decide +kernel
theorem dX8_cheapest_4 : decode cX8_cheapest 4 = .ok (.iload_n 1, 1) := by decide +kernel
theorem dX8_cheapest_5 : decode cX8_cheapest 5 = .ok (.invokevirtual 110, 3) := by decide +kernel
theorem dX8_cheapest_8 : decode cX8_cheapest 8 = .ok (.astore 4, 2) := by decide +kernel
theorem dX8_cheapest_10 : decode cX8_cheapest 10 = .ok (.aload_n 0, 1) := by decide +kernel
theorem dX8_cheapest_11 : decode cX8_cheapest 11 = .ok (.iload_n 2, 1) := by decide +kernel
theorem dX8_cheapest_12 : decode cX8_cheapest 12 = .ok (.invokevirtual 214, 3) := by decide +kernel
theorem dX8_cheapest_15 : decode cX8_cheapest 15 = .ok (.astore 5, 2) := by decide +kernel
theorem dX8_cheapest_17 : decode cX8_cheapest 17 = .ok (.aload 4, 2) := by decide +kernel
theorem dX8_cheapest_19 : decode cX8_cheapest 19 = .ok (.ifnull 17, 3) := by decide +kernel
theorem dX8_cheapest_22 : decode cX8_cheapest 22 = .ok (.aload 5, 2) := by decide +kernel
theorem dX8_cheapest_24 : decode cX8_cheapest 24 = .ok (.ifnull 12, 3) := by decide +kernel
theorem dX8_cheapest_27 : decode cX8_cheapest 27 = .ok (.iload_n 3, 1) := by decide +kernel
theorem dX8_cheapest_28 : decode cX8_cheapest 28 = .ok (.iconst 0, 1) := by decide +kernel
theorem dX8_cheapest_29 : decode cX8_cheapest 29 = .ok (.iconst 1, 1) := by decide +kernel
theorem dX8_cheapest_30 : decode cX8_cheapest 30 = .ok (.invokestatic 63, 3) := by decide +kernel
theorem dX8_cheapest_33 : decode cX8_cheapest 33 = .ok (.ifCond .ne 10, 3) := by decide +kernel
theorem dX8_cheapest_36 : decode cX8_cheapest 36 = .ok (.aload_n 0, 1) := by decide +kernel
theorem dX8_cheapest_37 : decode cX8_cheapest 37 = .ok (.ldc 67, 2) := by decide +kernel
theorem dX8_cheapest_39 : decode cX8_cheapest 39 = .ok (.invokevirtual 68, 3) := by decide +kernel
theorem dX8_cheapest_42 : decode cX8_cheapest 42 = .ok (.ireturn, 1) := by decide +kernel
theorem dX8_cheapest_43 : decode cX8_cheapest 43 = .ok (.aload 5, 2) := by decide +kernel
theorem dX8_cheapest_45 : decode cX8_cheapest 45 = .ok (.invokevirtual 218, 3) := by decide +kernel
theorem dX8_cheapest_48 : decode cX8_cheapest 48 = .ok (.ifCond .eq 10, 3) := by decide +kernel
theorem dX8_cheapest_51 : decode cX8_cheapest 51 = .ok (.aload_n 0, 1) := by decide +kernel
theorem dX8_cheapest_52 : decode cX8_cheapest 52 = .ok (.ldc 210, 2) := by decide +kernel
theorem dX8_cheapest_54 : decode cX8_cheapest 54 = .ok (.invokevirtual 68, 3) := by decide +kernel
theorem dX8_cheapest_57 : decode cX8_cheapest 57 = .ok (.ireturn, 1) := by decide +kernel
theorem dX8_cheapest_58 : decode cX8_cheapest 58 = .ok (.iconst 0, 1) := by decide +kernel
theorem dX8_cheapest_59 : decode cX8_cheapest 59 = .ok (.istore 6, 2) := by decide +kernel
theorem dX8_cheapest_61 : decode cX8_cheapest 61 = .ok (.iconst 0, 1) := by decide +kernel
theorem dX8_cheapest_62 : decode cX8_cheapest 62 = .ok (.istore 7, 2) := by decide +kernel
theorem dX8_cheapest_64 : decode cX8_cheapest 64 = .ok (.aload 4, 2) := by decide +kernel
theorem dX8_cheapest_66 : decode cX8_cheapest 66 = .ok (.getfield 114, 3) := by decide +kernel
theorem dX8_cheapest_69 : decode cX8_cheapest 69 = .ok (.istore 8, 2) := by decide +kernel
theorem dX8_cheapest_71 : decode cX8_cheapest 71 = .ok (.iload 8, 2) := by decide +kernel
theorem dX8_cheapest_73 : decode cX8_cheapest 73 = .ok (.aload_n 0, 1) := by decide +kernel
theorem dX8_cheapest_74 : decode cX8_cheapest 74 = .ok (.getfield 12, 3) := by decide +kernel
theorem dX8_cheapest_77 : decode cX8_cheapest 77 = .ok (.getfield 72, 3) := by decide +kernel
theorem dX8_cheapest_80 : decode cX8_cheapest 80 = .ok (.if_icmp .ge 59, 3) := by decide +kernel
theorem dX8_cheapest_83 : decode cX8_cheapest 83 = .ok (.aload_n 0, 1) := by decide +kernel
theorem dX8_cheapest_84 : decode cX8_cheapest 84 = .ok (.getfield 12, 3) := by decide +kernel
theorem dX8_cheapest_87 : decode cX8_cheapest 87 = .ok (.iload 8, 2) := by decide +kernel
theorem dX8_cheapest_89 : decode cX8_cheapest 89 = .ok (.invokevirtual 80, 3) := by decide +kernel
theorem dX8_cheapest_92 : decode cX8_cheapest 92 = .ok (.astore 9, 2) := by decide +kernel
theorem dX8_cheapest_94 : decode cX8_cheapest 94 = .ok (.aload 9, 2) := by decide +kernel
theorem dX8_cheapest_96 : decode cX8_cheapest 96 = .ok (.ifnull 37, 3) := by decide +kernel
theorem dX8_cheapest_99 : decode cX8_cheapest 99 = .ok (.aload_n 0, 1) := by decide +kernel
theorem dX8_cheapest_100 : decode cX8_cheapest 100 = .ok (.aload 9, 2) := by decide +kernel
theorem dX8_cheapest_102 : decode cX8_cheapest 102 = .ok (.aload 5, 2) := by decide +kernel
theorem dX8_cheapest_104 : decode cX8_cheapest 104 = .ok (.invokevirtual 237, 3) := by decide +kernel
theorem dX8_cheapest_107 : decode cX8_cheapest 107 = .ok (.ifCond .ne 26, 3) := by decide +kernel
theorem dX8_cheapest_110 : decode cX8_cheapest 110 = .ok (.iload 6, 2) := by decide +kernel
theorem dX8_cheapest_112 : decode cX8_cheapest 112 = .ok (.aload_n 0, 1) := by decide +kernel
theorem dX8_cheapest_113 : decode cX8_cheapest 113 = .ok (.getfield 12, 3) := by decide +kernel
theorem dX8_cheapest_116 : decode cX8_cheapest 116 = .ok (.aload 9, 2) := by decide +kernel
theorem dX8_cheapest_118 : decode cX8_cheapest 118 = .ok (.invokevirtual 95, 3) := by decide +kernel
theorem dX8_cheapest_121 : decode cX8_cheapest 121 = .ok (.iadd, 1) := by decide +kernel
theorem dX8_cheapest_122 : decode cX8_cheapest 122 = .ok (.istore 6, 2) := by decide +kernel
theorem dX8_cheapest_124 : decode cX8_cheapest 124 = .ok (.iload 7, 2) := by decide +kernel
theorem dX8_cheapest_126 : decode cX8_cheapest 126 = .ok (.iconst 1, 1) := by decide +kernel
theorem dX8_cheapest_127 : decode cX8_cheapest 127 = .ok (.iload 8, 2) := by decide +kernel
theorem dX8_cheapest_129 : decode cX8_cheapest 129 = .ok (.ishl, 1) := by decide +kernel
theorem dX8_cheapest_130 : decode cX8_cheapest 130 = .ok (.ior, 1) := by decide +kernel
theorem dX8_cheapest_131 : decode cX8_cheapest 131 = .ok (.istore 7, 2) := by decide +kernel
theorem dX8_cheapest_133 : decode cX8_cheapest 133 = .ok (.iinc 8 1, 3) := by decide +kernel
theorem dX8_cheapest_136 : decode cX8_cheapest 136 = .ok (.goto (-65), 3) := by decide +kernel
theorem dX8_cheapest_139 : decode cX8_cheapest 139 = .ok (.iload_n 3, 1) := by decide +kernel
theorem dX8_cheapest_140 : decode cX8_cheapest 140 = .ok (.ifCond .ne 8, 3) := by decide +kernel
theorem dX8_cheapest_143 : decode cX8_cheapest 143 = .ok (.iload 6, 2) := by decide +kernel
theorem dX8_cheapest_145 : decode cX8_cheapest 145 = .ok (.goto 5, 3) := by decide +kernel
theorem dX8_cheapest_148 : decode cX8_cheapest 148 = .ok (.iload 7, 2) := by decide +kernel
theorem dX8_cheapest_150 : decode cX8_cheapest 150 = .ok (.ireturn, 1) := by decide +kernel
set_option maxRecDepth 20000 in
theorem ggX8_odds_X0_personOf : GoodIn wsX8_odds wsX0_personOf := goodIn_r _ [9, 10, 11, 110, 111, 112, 113, 114, 115, 116, 117, 118, 119, 120, 121] (by decide +kernel) (by decide +kernel)
set_option maxRecDepth 20000 in
theorem gX8_odds_X0_personOf : GoodIn wsX8_odds (wsV RX8 110 RX0 yX0_personOf wsX0_personOf) := goodIn_app (goodIn_of _ (by decide +kernel)) ggX8_odds_X0_personOf
set_option maxRecDepth 20000 in
theorem ggX8_odds_X8_within : GoodIn wsX8_odds wsX8_within := goodIn_r _ [15] (by decide +kernel) (by decide +kernel)
set_option maxRecDepth 20000 in
theorem gX8_odds_X8_within : GoodIn wsX8_odds (va_wsS RX8 63 yX8_within wsX8_within) := goodIn_app (goodIn_of _ (by decide +kernel)) ggX8_odds_X8_within
set_option maxRecDepth 20000 in
theorem ggX8_odds_X8_error : GoodIn wsX8_odds wsX8_error := goodIn_r _ [19, 20, 21, 12, 13, 14, 15, 97, 98, 99, 100, 101, 102, 103, 104, 105] (by decide +kernel) (by decide +kernel)
set_option maxRecDepth 20000 in
theorem gX8_odds_X8_error : GoodIn wsX8_odds (wsV RX8 68 RX8 yX8_error wsX8_error) := goodIn_app (goodIn_of _ (by decide +kernel)) ggX8_odds_X8_error
set_option maxRecDepth 20000 in
theorem ggX8_odds_X0_judgeOn : GoodIn wsX8_odds wsX0_judgeOn := goodIn_r _ [25, 26, 27, 110, 111, 112, 113, 114, 115, 116, 117, 118, 119, 120, 121] (by decide +kernel) (by decide +kernel)
set_option maxRecDepth 20000 in
theorem gX8_odds_X0_judgeOn : GoodIn wsX8_odds (wsV RX8 80 RX0 yX0_judgeOn wsX0_judgeOn) := goodIn_app (goodIn_of _ (by decide +kernel)) ggX8_odds_X0_judgeOn
set_option maxRecDepth 20000 in
theorem ggX8_odds_X0_contentWords : GoodIn wsX8_odds wsX0_contentWords := goodIn_r _ [31, 32, 33, 34, 8, 35, 36, 37, 38, 39, 40, 41, 42, 43, 44, 45, 46, 47, 48, 49, 50, 51, 52, 53, 54, 55, 56, 57, 58, 59, 60, 61, 62, 63, 64, 65, 66, 67, 68, 69, 70, 71, 72, 73, 74, 75, 76, 77, 78, 79, 80, 81, 82, 83, 84, 85, 86, 87, 88, 89, 90, 91, 92, 93, 110, 111, 112, 113, 114, 115, 116, 117, 118, 119, 120, 121, 122, 123, 124, 125, 126, 127, 128] (by decide +kernel) (by decide +kernel)
set_option maxRecDepth 20000 in
theorem gX8_odds_X0_contentWords : GoodIn wsX8_odds (wsV RX8 204 RX0 yX0_contentWords wsX0_contentWords) := goodIn_app (goodIn_of _ (by decide +kernel)) ggX8_odds_X0_contentWords
set_option maxRecDepth 20000 in
theorem ggX8_odds_X8_sharedDivisor : GoodIn wsX8_odds wsX8_sharedDivisor := goodIn_r _ [96] (by decide +kernel) (by decide +kernel)
set_option maxRecDepth 20000 in
theorem gX8_odds_X8_sharedDivisor : GoodIn wsX8_odds (va_wsS RX8 243 yX8_sharedDivisor wsX8_sharedDivisor) := goodIn_app (goodIn_of _ (by decide +kernel)) ggX8_odds_X8_sharedDivisor
theorem dX8_odds_0 : decode cX8_odds 0 = .ok (.aload_n 0, 1) := by decide +kernel
theorem dX8_odds_1 : decode cX8_odds 1 = .ok (.getfield 12, 3) := by decide +kernel
theorem dX8_odds_4 : decode cX8_odds 4 = .ok (.iload_n 1, 1) := by decide +kernel
theorem dX8_odds_5 : decode cX8_odds 5 = .ok (.invokevirtual 110, 3) := by decide +kernel
theorem dX8_odds_8 : decode cX8_odds 8 = .ok (.astore 4, 2) := by decide +kernel
theorem dX8_odds_10 : decode cX8_odds 10 = .ok (.aload 4, 2) := by decide +kernel
theorem dX8_odds_12 : decode cX8_odds 12 = .ok (.ifnull 21, 3) := by decide +kernel
theorem dX8_odds_15 : decode cX8_odds 15 = .ok (.iload_n 2, 1) := by decide +kernel
theorem dX8_odds_16 : decode cX8_odds 16 = .ok (.iconst 0, 1) := by decide +kernel
theorem dX8_odds_17 : decode cX8_odds 17 = .ok (.iconst 4, 1) := by decide +kernel
theorem dX8_odds_18 : decode cX8_odds 18 = .ok (.invokestatic 63, 3) := by decide +kernel
theorem dX8_odds_21 : decode cX8_odds 21 = .ok (.ifCond .eq 12, 3) := by decide +kernel
theorem dX8_odds_24 : decode cX8_odds 24 = .ok (.iload_n 3, 1) := by decide +kernel
theorem dX8_odds_25 : decode cX8_odds 25 = .ok (.iconst 0, 1) := by decide +kernel
theorem dX8_odds_26 : decode cX8_odds 26 = .ok (.iconst 1, 1) := by decide +kernel
theorem dX8_odds_27 : decode cX8_odds 27 = .ok (.invokestatic 63, 3) := by decide +kernel
theorem dX8_odds_30 : decode cX8_odds 30 = .ok (.ifCond .ne 11, 3) := by decide +kernel
theorem dX8_odds_33 : decode cX8_odds 33 = .ok (.aload_n 0, 1) := by decide +kernel
theorem dX8_odds_34 : decode cX8_odds 34 = .ok (.ldc 67, 2) := by decide +kernel
theorem dX8_odds_36 : decode cX8_odds 36 = .ok (.invokevirtual 68, 3) := by decide +kernel
theorem dX8_odds_39 : decode cX8_odds 39 = .ok (.i2l, 1) := by decide +kernel
theorem dX8_odds_40 : decode cX8_odds 40 = .ok (.lreturn, 1) := by decide +kernel
theorem dX8_odds_41 : decode cX8_odds 41 = .ok (.lconst 1, 1) := by decide +kernel
theorem dX8_odds_42 : decode cX8_odds 42 = .ok (.lstore 5, 2) := by decide +kernel
theorem dX8_odds_44 : decode cX8_odds 44 = .ok (.lconst 1, 1) := by decide +kernel
theorem dX8_odds_45 : decode cX8_odds 45 = .ok (.lstore 7, 2) := by decide +kernel
theorem dX8_odds_47 : decode cX8_odds 47 = .ok (.iconst 0, 1) := by decide +kernel
theorem dX8_odds_48 : decode cX8_odds 48 = .ok (.istore 9, 2) := by decide +kernel
theorem dX8_odds_50 : decode cX8_odds 50 = .ok (.iload 9, 2) := by decide +kernel
theorem dX8_odds_52 : decode cX8_odds 52 = .ok (.iload_n 2, 1) := by decide +kernel
theorem dX8_odds_53 : decode cX8_odds 53 = .ok (.if_icmp .ge 54, 3) := by decide +kernel
theorem dX8_odds_56 : decode cX8_odds 56 = .ok (.aload_n 0, 1) := by decide +kernel
theorem dX8_odds_57 : decode cX8_odds 57 = .ok (.getfield 12, 3) := by decide +kernel
theorem dX8_odds_60 : decode cX8_odds 60 = .ok (.aload 4, 2) := by decide +kernel
theorem dX8_odds_62 : decode cX8_odds 62 = .ok (.getfield 114, 3) := by decide +kernel
theorem dX8_odds_65 : decode cX8_odds 65 = .ok (.iload 9, 2) := by decide +kernel
theorem dX8_odds_67 : decode cX8_odds 67 = .ok (.iadd, 1) := by decide +kernel
theorem dX8_odds_68 : decode cX8_odds 68 = .ok (.invokevirtual 80, 3) := by decide +kernel
theorem dX8_odds_71 : decode cX8_odds 71 = .ok (.astore 10, 2) := by decide +kernel
theorem dX8_odds_73 : decode cX8_odds 73 = .ok (.aload 10, 2) := by decide +kernel
theorem dX8_odds_75 : decode cX8_odds 75 = .ok (.ifnull 26, 3) := by decide +kernel
theorem dX8_odds_78 : decode cX8_odds 78 = .ok (.lload 5, 2) := by decide +kernel
theorem dX8_odds_80 : decode cX8_odds 80 = .ok (.aload_n 0, 1) := by decide +kernel
theorem dX8_odds_81 : decode cX8_odds 81 = .ok (.getfield 12, 3) := by decide +kernel
theorem dX8_odds_84 : decode cX8_odds 84 = .ok (.aload 10, 2) := by decide +kernel
theorem dX8_odds_86 : decode cX8_odds 86 = .ok (.invokevirtual 204, 3) := by decide +kernel
theorem dX8_odds_89 : decode cX8_odds 89 = .ok (.i2l, 1) := by decide +kernel
theorem dX8_odds_90 : decode cX8_odds 90 = .ok (.lmul, 1) := by decide +kernel
theorem dX8_odds_91 : decode cX8_odds 91 = .ok (.lstore 5, 2) := by decide +kernel
theorem dX8_odds_93 : decode cX8_odds 93 = .ok (.lload 7, 2) := by decide +kernel
theorem dX8_odds_95 : decode cX8_odds 95 = .ok (.ldc2_w 241, 3) := by decide +kernel
theorem dX8_odds_98 : decode cX8_odds 98 = .ok (.lmul, 1) := by decide +kernel
theorem dX8_odds_99 : decode cX8_odds 99 = .ok (.lstore 7, 2) := by decide +kernel
theorem dX8_odds_101 : decode cX8_odds 101 = .ok (.iinc 9 1, 3) := by decide +kernel
theorem dX8_odds_104 : decode cX8_odds 104 = .ok (.goto (-54), 3) := by decide +kernel
theorem dX8_odds_107 : decode cX8_odds 107 = .ok (.lload 7, 2) := by decide +kernel
theorem dX8_odds_109 : decode cX8_odds 109 = .ok (.lload 5, 2) := by decide +kernel
theorem dX8_odds_111 : decode cX8_odds 111 = .ok (.invokestatic 243, 3) := by decide +kernel
theorem dX8_odds_114 : decode cX8_odds 114 = .ok (.lstore 9, 2) := by decide +kernel
theorem dX8_odds_116 : decode cX8_odds 116 = .ok (.iload_n 3, 1) := by decide +kernel
theorem dX8_odds_117 : decode cX8_odds 117 = .ok (.ifCond .ne 8, 3) := by decide +kernel
theorem dX8_odds_120 : decode cX8_odds 120 = .ok (.lload 5, 2) := by decide +kernel
theorem dX8_odds_122 : decode cX8_odds 122 = .ok (.goto 5, 3) := by decide +kernel
theorem dX8_odds_125 : decode cX8_odds 125 = .ok (.lload 7, 2) := by decide +kernel
theorem dX8_odds_127 : decode cX8_odds 127 = .ok (.lstore 11, 2) := by decide +kernel
theorem dX8_odds_129 : decode cX8_odds 129 = .ok (.lload 9, 2) := by decide +kernel
theorem dX8_odds_131 : decode cX8_odds 131 = .ok (.lconst 1, 1) := by decide +kernel
theorem dX8_odds_132 : decode cX8_odds 132 = .ok (.lcmp, 1) := by decide +kernel
theorem dX8_odds_133 : decode cX8_odds 133 = .ok (.ifCond .le 11, 3) := by decide +kernel
theorem dX8_odds_136 : decode cX8_odds 136 = .ok (.lload 11, 2) := by decide +kernel
theorem dX8_odds_138 : decode cX8_odds 138 = .ok (.lload 9, 2) := by decide +kernel
theorem dX8_odds_140 : decode cX8_odds 140 = .ok (.ldiv, 1) := by decide +kernel
theorem dX8_odds_141 : decode cX8_odds 141 = .ok (.goto 5, 3) := by decide +kernel
theorem dX8_odds_144 : decode cX8_odds 144 = .ok (.lload 11, 2) := by decide +kernel
theorem dX8_odds_146 : decode cX8_odds 146 = .ok (.lreturn, 1) := by decide +kernel
set_option maxRecDepth 20000 in
theorem ggX8_fits_X8_sheetOf : GoodIn wsX8_fits wsX8_sheetOf := goodIn_r _ [7, 8, 105, 106, 107, 108, 109, 110, 111, 112, 113] (by decide +kernel) (by decide +kernel)
set_option maxRecDepth 20000 in
theorem gX8_fits_X8_sheetOf : GoodIn wsX8_fits (wsV RX8 214 RX8 yX8_sheetOf wsX8_sheetOf) := goodIn_app (goodIn_of _ (by decide +kernel)) ggX8_fits_X8_sheetOf
set_option maxRecDepth 20000 in
theorem ggX8_fits_X8_within : GoodIn wsX8_fits wsX8_within := goodIn_r _ [11] (by decide +kernel) (by decide +kernel)
set_option maxRecDepth 20000 in
theorem gX8_fits_X8_within : GoodIn wsX8_fits (va_wsS RX8 63 yX8_within wsX8_within) := goodIn_app (goodIn_of _ (by decide +kernel)) ggX8_fits_X8_within
set_option maxRecDepth 20000 in
theorem ggX8_fits_X8_error : GoodIn wsX8_fits wsX8_error := goodIn_r _ [15, 16, 17, 9, 10, 6, 11, 105, 106, 107, 108, 109, 110, 111, 112, 113] (by decide +kernel) (by decide +kernel)
set_option maxRecDepth 20000 in
theorem gX8_fits_X8_error : GoodIn wsX8_fits (wsV RX8 68 RX8 yX8_error wsX8_error) := goodIn_app (goodIn_of _ (by decide +kernel)) ggX8_fits_X8_error
set_option maxRecDepth 20000 in
theorem ggX8_fits_X5_isMissing : GoodIn wsX8_fits wsX5_isMissing := goodIn_r _ [22, 23, 114, 115, 116] (by decide +kernel) (by decide +kernel)
set_option maxRecDepth 20000 in
theorem gX8_fits_X5_isMissing : GoodIn wsX8_fits (wsV RX8 218 RX5 yX5_isMissing wsX5_isMissing) := goodIn_app (goodIn_of _ (by decide +kernel)) ggX8_fits_X5_isMissing
set_option maxRecDepth 20000 in
theorem ggX8_fits_X8_isToldBy : GoodIn wsX8_fits wsX8_isToldBy := goodIn_r _ [27, 28, 29, 30, 31, 32, 33, 34, 35, 36, 37, 38, 39, 21, 40, 41, 42, 43, 44, 45, 46, 47, 48, 49, 50, 51, 52, 53, 54, 55, 56, 57, 58, 59, 60, 61, 62, 63, 64, 65, 66, 67, 68, 69, 70, 71, 72, 73, 74, 75, 76, 77, 78, 79, 80, 81, 82, 83, 84, 85, 86, 87, 88, 89, 90, 91, 92, 93, 94, 95, 96, 97, 98, 99, 100, 101, 102, 103, 104, 114, 115, 116, 105, 106, 107, 108, 109, 110, 111, 112, 113, 117, 118, 119, 120, 121, 122, 123, 124, 125, 126, 127, 128, 129, 130, 131, 132, 133, 134, 135] (by decide +kernel) (by decide +kernel)
set_option maxRecDepth 20000 in
theorem gX8_fits_X8_isToldBy : GoodIn wsX8_fits (wsV RX8 247 RX8 yX8_isToldBy wsX8_isToldBy) := goodIn_app (goodIn_of _ (by decide +kernel)) ggX8_fits_X8_isToldBy
theorem dX8_fits_0 : decode cX8_fits 0 = .ok (.aload_n 0, 1) := by decide +kernel
theorem dX8_fits_1 : decode cX8_fits 1 = .ok (.iload_n 1, 1) := by decide +kernel
theorem dX8_fits_2 : decode cX8_fits 2 = .ok (.invokevirtual 214, 3) := by decide +kernel
theorem dX8_fits_5 : decode cX8_fits 5 = .ok (.astore_n 3, 1) := by decide +kernel
theorem dX8_fits_6 : decode cX8_fits 6 = .ok (.aload_n 3, 1) := by decide +kernel
theorem dX8_fits_7 : decode cX8_fits 7 = .ok (.ifnull 12, 3) := by decide +kernel
theorem dX8_fits_10 : decode cX8_fits 10 = .ok (.iload_n 2, 1) := by decide +kernel
theorem dX8_fits_11 : decode cX8_fits 11 = .ok (.iconst 0, 1) := by decide +kernel
theorem dX8_fits_12 : decode cX8_fits 12 = .ok (.iconst 1, 1) := by decide +kernel
theorem dX8_fits_13 : decode cX8_fits 13 = .ok (.invokestatic 63, 3) := by decide +kernel
theorem dX8_fits_16 : decode cX8_fits 16 = .ok (.ifCond .ne 10, 3) := by decide +kernel
theorem dX8_fits_19 : decode cX8_fits 19 = .ok (.aload_n 0, 1) := by decide +kernel
theorem dX8_fits_20 : decode cX8_fits 20 = .ok (.ldc 67, 2) := by decide +kernel
theorem dX8_fits_22 : decode cX8_fits 22 = .ok (.invokevirtual 68, 3) := by decide +kernel
theorem dX8_fits_25 : decode cX8_fits 25 = .ok (.ireturn, 1) := by decide +kernel
theorem dX8_fits_26 : decode cX8_fits 26 = .ok (.aload_n 3, 1) := by decide +kernel
theorem dX8_fits_27 : decode cX8_fits 27 = .ok (.invokevirtual 218, 3) := by decide +kernel
theorem dX8_fits_30 : decode cX8_fits 30 = .ok (.ifCond .eq 10, 3) := by decide +kernel
theorem dX8_fits_33 : decode cX8_fits 33 = .ok (.aload_n 0, 1) := by decide +kernel
theorem dX8_fits_34 : decode cX8_fits 34 = .ok (.ldc 210, 2) := by decide +kernel
theorem dX8_fits_36 : decode cX8_fits 36 = .ok (.invokevirtual 68, 3) := by decide +kernel
theorem dX8_fits_39 : decode cX8_fits 39 = .ok (.ireturn, 1) := by decide +kernel
theorem dX8_fits_40 : decode cX8_fits 40 = .ok (.iconst 0, 1) := by decide +kernel
theorem dX8_fits_41 : decode cX8_fits 41 = .ok (.istore 4, 2) := by decide +kernel
theorem dX8_fits_43 : decode cX8_fits 43 = .ok (.iconst (-1), 1) := by decide +kernel
theorem dX8_fits_44 : decode cX8_fits 44 = .ok (.istore 5, 2) := by decide +kernel
theorem dX8_fits_46 : decode cX8_fits 46 = .ok (.bipush 99, 2) := by decide +kernel
theorem dX8_fits_48 : decode cX8_fits 48 = .ok (.istore 6, 2) := by decide +kernel
theorem dX8_fits_50 : decode cX8_fits 50 = .ok (.iload 6, 2) := by decide +kernel
theorem dX8_fits_52 : decode cX8_fits 52 = .ok (.ifCond .lt 26, 3) := by decide +kernel
theorem dX8_fits_55 : decode cX8_fits 55 = .ok (.aload_n 0, 1) := by decide +kernel
theorem dX8_fits_56 : decode cX8_fits 56 = .ok (.aload_n 3, 1) := by decide +kernel
theorem dX8_fits_57 : decode cX8_fits 57 = .ok (.iload 6, 2) := by decide +kernel
theorem dX8_fits_59 : decode cX8_fits 59 = .ok (.invokevirtual 247, 3) := by decide +kernel
theorem dX8_fits_62 : decode cX8_fits 62 = .ok (.ifCond .eq 10, 3) := by decide +kernel
theorem dX8_fits_65 : decode cX8_fits 65 = .ok (.iinc 4 1, 3) := by decide +kernel
theorem dX8_fits_68 : decode cX8_fits 68 = .ok (.iload 6, 2) := by decide +kernel
theorem dX8_fits_70 : decode cX8_fits 70 = .ok (.istore 5, 2) := by decide +kernel
theorem dX8_fits_72 : decode cX8_fits 72 = .ok (.iinc 6 (-1), 3) := by decide +kernel
theorem dX8_fits_75 : decode cX8_fits 75 = .ok (.goto (-25), 3) := by decide +kernel
theorem dX8_fits_78 : decode cX8_fits 78 = .ok (.iload_n 2, 1) := by decide +kernel
theorem dX8_fits_79 : decode cX8_fits 79 = .ok (.ifCond .ne 6, 3) := by decide +kernel
theorem dX8_fits_82 : decode cX8_fits 82 = .ok (.iload 4, 2) := by decide +kernel
theorem dX8_fits_84 : decode cX8_fits 84 = .ok (.ireturn, 1) := by decide +kernel
theorem dX8_fits_85 : decode cX8_fits 85 = .ok (.iload 4, 2) := by decide +kernel
theorem dX8_fits_87 : decode cX8_fits 87 = .ok (.ifCond .ne 12, 3) := by decide +kernel
theorem dX8_fits_90 : decode cX8_fits 90 = .ok (.aload_n 0, 1) := by decide +kernel
theorem dX8_fits_91 : decode cX8_fits 91 = .ok (.ldc 210, 2) := by decide +kernel
theorem dX8_fits_93 : decode cX8_fits 93 = .ok (.invokevirtual 68, 3) := by decide +kernel
theorem dX8_fits_96 : decode cX8_fits 96 = .ok (.goto 5, 3) := by decide +kernel
theorem dX8_fits_99 : decode cX8_fits 99 = .ok (.iload 5, 2) := by decide +kernel
theorem dX8_fits_101 : decode cX8_fits 101 = .ok (.ireturn, 1) := by decide +kernel
set_option maxRecDepth 20000 in
theorem ggX8_voice_X0_judgeOn : GoodIn wsX8_voice wsX0_judgeOn := goodIn_r _ [10, 11, 12, 81, 82, 83, 84, 85, 86, 87, 88, 89, 90, 91, 92] (by decide +kernel) (by decide +kernel)
set_option maxRecDepth 20000 in
theorem gX8_voice_X0_judgeOn : GoodIn wsX8_voice (wsV RX8 80 RX0 yX0_judgeOn wsX0_judgeOn) := goodIn_app (goodIn_of _ (by decide +kernel)) ggX8_voice_X0_judgeOn
set_option maxRecDepth 20000 in
theorem ggX8_voice_X8_within : GoodIn wsX8_voice wsX8_within := goodIn_r _ [16] (by decide +kernel) (by decide +kernel)
set_option maxRecDepth 20000 in
theorem gX8_voice_X8_within : GoodIn wsX8_voice (va_wsS RX8 63 yX8_within wsX8_within) := goodIn_app (goodIn_of _ (by decide +kernel)) ggX8_voice_X8_within
set_option maxRecDepth 20000 in
theorem ggX8_voice_X8_error : GoodIn wsX8_voice wsX8_error := goodIn_r _ [20, 21, 22, 13, 14, 15, 16, 66, 67, 68, 69, 70, 71, 72, 73, 74] (by decide +kernel) (by decide +kernel)
set_option maxRecDepth 20000 in
theorem gX8_voice_X8_error : GoodIn wsX8_voice (wsV RX8 68 RX8 yX8_error wsX8_error) := goodIn_app (goodIn_of _ (by decide +kernel)) ggX8_voice_X8_error
set_option maxRecDepth 20000 in
theorem ggX8_voice_X7_sound : GoodIn wsX8_voice wsX7_sound := goodIn_r _ [27, 28, 29, 30, 31, 32, 33, 34, 35, 36, 37, 38, 26, 39, 40, 41, 42, 43, 44, 45, 46, 15, 47, 48, 49, 50, 51, 52, 53, 54, 55, 56, 57, 58, 59, 60, 61, 62, 63, 64, 65, 75, 76, 77, 78, 79, 80, 93, 94, 95, 96] (by decide +kernel) (by decide +kernel)
set_option maxRecDepth 20000 in
theorem gX8_voice_X7_sound : GoodIn wsX8_voice (wsV RX8 251 RX7 yX7_sound wsX7_sound) := goodIn_app (goodIn_of _ (by decide +kernel)) ggX8_voice_X7_sound
theorem dX8_voice_0 : decode cX8_voice 0 = .ok (.aload_n 0, 1) := by decide +kernel
theorem dX8_voice_1 : decode cX8_voice 1 = .ok (.getfield 12, 3) := by decide +kernel
theorem dX8_voice_4 : decode cX8_voice 4 = .ok (.iload_n 1, 1) := by decide +kernel
theorem dX8_voice_5 : decode cX8_voice 5 = .ok (.invokevirtual 80, 3) := by decide +kernel
theorem dX8_voice_8 : decode cX8_voice 8 = .ok (.astore 4, 2) := by decide +kernel
theorem dX8_voice_10 : decode cX8_voice 10 = .ok (.aload 4, 2) := by decide +kernel
theorem dX8_voice_12 : decode cX8_voice 12 = .ok (.ifnull 12, 3) := by decide +kernel
theorem dX8_voice_15 : decode cX8_voice 15 = .ok (.iload_n 2, 1) := by decide +kernel
theorem dX8_voice_16 : decode cX8_voice 16 = .ok (.iconst 0, 1) := by decide +kernel
theorem dX8_voice_17 : decode cX8_voice 17 = .ok (.iconst 3, 1) := by decide +kernel
theorem dX8_voice_18 : decode cX8_voice 18 = .ok (.invokestatic 63, 3) := by decide +kernel
theorem dX8_voice_21 : decode cX8_voice 21 = .ok (.ifCond .ne 10, 3) := by decide +kernel
theorem dX8_voice_24 : decode cX8_voice 24 = .ok (.aload_n 0, 1) := by decide +kernel
theorem dX8_voice_25 : decode cX8_voice 25 = .ok (.ldc 67, 2) := by decide +kernel
theorem dX8_voice_27 : decode cX8_voice 27 = .ok (.invokevirtual 68, 3) := by decide +kernel
theorem dX8_voice_30 : decode cX8_voice 30 = .ok (.ireturn, 1) := by decide +kernel
theorem dX8_voice_31 : decode cX8_voice 31 = .ok (.aload_n 0, 1) := by decide +kernel
theorem dX8_voice_32 : decode cX8_voice 32 = .ok (.getfield 38, 3) := by decide +kernel
theorem dX8_voice_35 : decode cX8_voice 35 = .ok (.aload 4, 2) := by decide +kernel
theorem dX8_voice_37 : decode cX8_voice 37 = .ok (.iload_n 2, 1) := by decide +kernel
theorem dX8_voice_38 : decode cX8_voice 38 = .ok (.iload_n 3, 1) := by decide +kernel
theorem dX8_voice_39 : decode cX8_voice 39 = .ok (.invokevirtual 251, 3) := by decide +kernel
theorem dX8_voice_42 : decode cX8_voice 42 = .ok (.istore 5, 2) := by decide +kernel
theorem dX8_voice_44 : decode cX8_voice 44 = .ok (.aload_n 0, 1) := by decide +kernel
theorem dX8_voice_45 : decode cX8_voice 45 = .ok (.getfield 38, 3) := by decide +kernel
theorem dX8_voice_48 : decode cX8_voice 48 = .ok (.getfield 255, 3) := by decide +kernel
theorem dX8_voice_51 : decode cX8_voice 51 = .ok (.ifCond .eq 13, 3) := by decide +kernel
theorem dX8_voice_54 : decode cX8_voice 54 = .ok (.aload_n 0, 1) := by decide +kernel
theorem dX8_voice_55 : decode cX8_voice 55 = .ok (.ldc_w 259, 3) := by decide +kernel
theorem dX8_voice_58 : decode cX8_voice 58 = .ok (.invokevirtual 68, 3) := by decide +kernel
theorem dX8_voice_61 : decode cX8_voice 61 = .ok (.goto 5, 3) := by decide +kernel
theorem dX8_voice_64 : decode cX8_voice 64 = .ok (.iload 5, 2) := by decide +kernel
theorem dX8_voice_66 : decode cX8_voice 66 = .ok (.ireturn, 1) := by decide +kernel
set_option maxRecDepth 20000 in
theorem ggX8_body_X8_within : GoodIn wsX8_body wsX8_within := goodIn_r _ [7] (by decide +kernel) (by decide +kernel)
set_option maxRecDepth 20000 in
theorem gX8_body_X8_within : GoodIn wsX8_body (va_wsS RX8 63 yX8_within wsX8_within) := goodIn_app (goodIn_of _ (by decide +kernel)) ggX8_body_X8_within
set_option maxRecDepth 20000 in
theorem ggX8_body_X7_bodyAt : GoodIn wsX8_body wsX7_bodyAt := goodIn_r _ [12, 13, 14, 30, 31, 32, 33, 34, 35] (by decide +kernel) (by decide +kernel)
set_option maxRecDepth 20000 in
theorem gX8_body_X7_bodyAt : GoodIn wsX8_body (wsV RX8 263 RX7 yX7_bodyAt wsX7_bodyAt) := goodIn_app (goodIn_of _ (by decide +kernel)) ggX8_body_X7_bodyAt
set_option maxRecDepth 20000 in
theorem ggX8_body_X8_error : GoodIn wsX8_body wsX8_error := goodIn_r _ [18, 19, 20, 4, 5, 6, 7, 21, 22, 23, 24, 25, 26, 27, 28, 29] (by decide +kernel) (by decide +kernel)
set_option maxRecDepth 20000 in
theorem gX8_body_X8_error : GoodIn wsX8_body (wsV RX8 68 RX8 yX8_error wsX8_error) := goodIn_app (goodIn_of _ (by decide +kernel)) ggX8_body_X8_error
theorem dX8_body_0 : decode cX8_body 0 = .ok (.iload_n 1, 1) := by decide +kernel
theorem dX8_body_1 : decode cX8_body 1 = .ok (.iconst 0, 1) := by decide +kernel
theorem dX8_body_2 : decode cX8_body 2 = .ok (.aload_n 0, 1) := by decide +kernel
theorem dX8_body_3 : decode cX8_body 3 = .ok (.getfield 38, 3) := by decide +kernel
theorem dX8_body_6 : decode cX8_body 6 = .ok (.getfield 260, 3) := by decide +kernel
theorem dX8_body_9 : decode cX8_body 9 = .ok (.iconst 1, 1) := by decide +kernel
theorem dX8_body_10 : decode cX8_body 10 = .ok (.isub, 1) := by decide +kernel
theorem dX8_body_11 : decode cX8_body 11 = .ok (.invokestatic 63, 3) := by decide +kernel
theorem dX8_body_14 : decode cX8_body 14 = .ok (.ifCond .eq 14, 3) := by decide +kernel
theorem dX8_body_17 : decode cX8_body 17 = .ok (.aload_n 0, 1) := by decide +kernel
theorem dX8_body_18 : decode cX8_body 18 = .ok (.getfield 38, 3) := by decide +kernel
theorem dX8_body_21 : decode cX8_body 21 = .ok (.iload_n 1, 1) := by decide +kernel
theorem dX8_body_22 : decode cX8_body 22 = .ok (.invokevirtual 263, 3) := by decide +kernel
theorem dX8_body_25 : decode cX8_body 25 = .ok (.goto 9, 3) := by decide +kernel
theorem dX8_body_28 : decode cX8_body 28 = .ok (.aload_n 0, 1) := by decide +kernel
theorem dX8_body_29 : decode cX8_body 29 = .ok (.ldc 210, 2) := by decide +kernel
theorem dX8_body_31 : decode cX8_body 31 = .ok (.invokevirtual 68, 3) := by decide +kernel
theorem dX8_body_34 : decode cX8_body 34 = .ok (.ireturn, 1) := by decide +kernel
set_option maxRecDepth 20000 in
theorem ggX8_sheet_X8_sheetOf : GoodIn wsX8_sheet wsX8_sheetOf := goodIn_r _ [7, 8, 37, 38, 39, 40, 41, 42, 43, 44, 45] (by decide +kernel) (by decide +kernel)
set_option maxRecDepth 20000 in
theorem gX8_sheet_X8_sheetOf : GoodIn wsX8_sheet (wsV RX8 214 RX8 yX8_sheetOf wsX8_sheetOf) := goodIn_app (goodIn_of _ (by decide +kernel)) ggX8_sheet_X8_sheetOf
set_option maxRecDepth 20000 in
theorem ggX8_sheet_X8_error : GoodIn wsX8_sheet wsX8_error := goodIn_r _ [12, 13, 14, 15, 16, 6, 17, 37, 38, 39, 40, 41, 42, 43, 44, 45] (by decide +kernel) (by decide +kernel)
set_option maxRecDepth 20000 in
theorem gX8_sheet_X8_error : GoodIn wsX8_sheet (wsV RX8 68 RX8 yX8_error wsX8_error) := goodIn_app (goodIn_of _ (by decide +kernel)) ggX8_sheet_X8_error
set_option maxRecDepth 20000 in
theorem ggX8_sheet_X5_renew : GoodIn wsX8_sheet wsX5_renew := goodIn_r _ [22, 23, 24, 25, 26, 27, 28, 29, 30, 31, 32, 33, 34, 35, 36, 46, 47, 48] (by decide +kernel) (by decide +kernel)
set_option maxRecDepth 20000 in
theorem gX8_sheet_X5_renew : GoodIn wsX8_sheet (wsV RX8 266 RX5 yX5_renew wsX5_renew) := goodIn_app (goodIn_of _ (by decide +kernel)) ggX8_sheet_X5_renew
theorem dX8_sheet_0 : decode cX8_sheet 0 = .ok (.aload_n 0, 1) := by decide +kernel
theorem dX8_sheet_1 : decode cX8_sheet 1 = .ok (.iload_n 1, 1) := by decide +kernel
theorem dX8_sheet_2 : decode cX8_sheet 2 = .ok (.invokevirtual 214, 3) := by decide +kernel
theorem dX8_sheet_5 : decode cX8_sheet 5 = .ok (.astore 4, 2) := by decide +kernel
theorem dX8_sheet_7 : decode cX8_sheet 7 = .ok (.aload 4, 2) := by decide +kernel
theorem dX8_sheet_9 : decode cX8_sheet 9 = .ok (.ifnull 25, 3) := by decide +kernel
theorem dX8_sheet_12 : decode cX8_sheet 12 = .ok (.iload_n 2, 1) := by decide +kernel
theorem dX8_sheet_13 : decode cX8_sheet 13 = .ok (.ifCond .eq 28, 3) := by decide +kernel
theorem dX8_sheet_16 : decode cX8_sheet 16 = .ok (.iload_n 2, 1) := by decide +kernel
theorem dX8_sheet_17 : decode cX8_sheet 17 = .ok (.bipush 8, 2) := by decide +kernel
theorem dX8_sheet_19 : decode cX8_sheet 19 = .ok (.if_icmp .eq 22, 3) := by decide +kernel
theorem dX8_sheet_22 : decode cX8_sheet 22 = .ok (.iload_n 2, 1) := by decide +kernel
theorem dX8_sheet_23 : decode cX8_sheet 23 = .ok (.bipush 16, 2) := by decide +kernel
theorem dX8_sheet_25 : decode cX8_sheet 25 = .ok (.if_icmp .eq 16, 3) := by decide +kernel
theorem dX8_sheet_28 : decode cX8_sheet 28 = .ok (.iload_n 2, 1) := by decide +kernel
theorem dX8_sheet_29 : decode cX8_sheet 29 = .ok (.bipush 32, 2) := by decide +kernel
theorem dX8_sheet_31 : decode cX8_sheet 31 = .ok (.if_icmp .eq 10, 3) := by decide +kernel
theorem dX8_sheet_34 : decode cX8_sheet 34 = .ok (.aload_n 0, 1) := by decide +kernel
theorem dX8_sheet_35 : decode cX8_sheet 35 = .ok (.ldc 67, 2) := by decide +kernel
theorem dX8_sheet_37 : decode cX8_sheet 37 = .ok (.invokevirtual 68, 3) := by decide +kernel
theorem dX8_sheet_40 : decode cX8_sheet 40 = .ok (.ireturn, 1) := by decide +kernel
theorem dX8_sheet_41 : decode cX8_sheet 41 = .ok (.iload_n 2, 1) := by decide +kernel
theorem dX8_sheet_42 : decode cX8_sheet 42 = .ok (.ifCond .ne 12, 3) := by decide +kernel
theorem dX8_sheet_45 : decode cX8_sheet 45 = .ok (.aload 4, 2) := by decide +kernel
theorem dX8_sheet_47 : decode cX8_sheet 47 = .ok (.iconst 0, 1) := by decide +kernel
theorem dX8_sheet_48 : decode cX8_sheet 48 = .ok (.iconst 0, 1) := by decide +kernel
theorem dX8_sheet_49 : decode cX8_sheet 49 = .ok (.invokevirtual 266, 3) := by decide +kernel
theorem dX8_sheet_52 : decode cX8_sheet 52 = .ok (.iconst 1, 1) := by decide +kernel
theorem dX8_sheet_53 : decode cX8_sheet 53 = .ok (.ireturn, 1) := by decide +kernel
theorem dX8_sheet_54 : decode cX8_sheet 54 = .ok (.iload_n 3, 1) := by decide +kernel
theorem dX8_sheet_55 : decode cX8_sheet 55 = .ok (.ifCond .ge 10, 3) := by decide +kernel
theorem dX8_sheet_58 : decode cX8_sheet 58 = .ok (.aload_n 0, 1) := by decide +kernel
theorem dX8_sheet_59 : decode cX8_sheet 59 = .ok (.ldc 143, 2) := by decide +kernel
theorem dX8_sheet_61 : decode cX8_sheet 61 = .ok (.invokevirtual 68, 3) := by decide +kernel
theorem dX8_sheet_64 : decode cX8_sheet 64 = .ok (.ireturn, 1) := by decide +kernel
theorem dX8_sheet_65 : decode cX8_sheet 65 = .ok (.iload_n 3, 1) := by decide +kernel
theorem dX8_sheet_66 : decode cX8_sheet 66 = .ok (.bipush 24, 2) := by decide +kernel
theorem dX8_sheet_68 : decode cX8_sheet 68 = .ok (.if_icmp .le 10, 3) := by decide +kernel
theorem dX8_sheet_71 : decode cX8_sheet 71 = .ok (.aload_n 0, 1) := by decide +kernel
theorem dX8_sheet_72 : decode cX8_sheet 72 = .ok (.ldc 67, 2) := by decide +kernel
theorem dX8_sheet_74 : decode cX8_sheet 74 = .ok (.invokevirtual 68, 3) := by decide +kernel
theorem dX8_sheet_77 : decode cX8_sheet 77 = .ok (.ireturn, 1) := by decide +kernel
theorem dX8_sheet_78 : decode cX8_sheet 78 = .ok (.aload 4, 2) := by decide +kernel
theorem dX8_sheet_80 : decode cX8_sheet 80 = .ok (.iload_n 2, 1) := by decide +kernel
theorem dX8_sheet_81 : decode cX8_sheet 81 = .ok (.iload_n 3, 1) := by decide +kernel
theorem dX8_sheet_82 : decode cX8_sheet 82 = .ok (.invokevirtual 266, 3) := by decide +kernel
theorem dX8_sheet_85 : decode cX8_sheet 85 = .ok (.iconst 1, 1) := by decide +kernel
theorem dX8_sheet_86 : decode cX8_sheet 86 = .ok (.ireturn, 1) := by decide +kernel
set_option maxRecDepth 20000 in
theorem ggX8_put_X8_sheetOf : GoodIn wsX8_put wsX8_sheetOf := goodIn_r _ [8, 9, 39, 40, 41, 42, 43, 44, 45, 46, 47] (by decide +kernel) (by decide +kernel)
set_option maxRecDepth 20000 in
theorem gX8_put_X8_sheetOf : GoodIn wsX8_put (wsV RX8 214 RX8 yX8_sheetOf wsX8_sheetOf) := goodIn_app (goodIn_of _ (by decide +kernel)) ggX8_put_X8_sheetOf
set_option maxRecDepth 20000 in
theorem ggX8_put_X8_error : GoodIn wsX8_put wsX8_error := goodIn_r _ [13, 14, 15, 16, 17, 7, 18, 39, 40, 41, 42, 43, 44, 45, 46, 47] (by decide +kernel) (by decide +kernel)
set_option maxRecDepth 20000 in
theorem gX8_put_X8_error : GoodIn wsX8_put (wsV RX8 68 RX8 yX8_error wsX8_error) := goodIn_app (goodIn_of _ (by decide +kernel)) ggX8_put_X8_error
set_option maxRecDepth 20000 in
theorem ggX8_put_X5_isMissing : GoodIn wsX8_put wsX5_isMissing := goodIn_r _ [23, 24, 36, 37, 38] (by decide +kernel) (by decide +kernel)
set_option maxRecDepth 20000 in
theorem gX8_put_X5_isMissing : GoodIn wsX8_put (wsV RX8 218 RX5 yX5_isMissing wsX5_isMissing) := goodIn_app (goodIn_of _ (by decide +kernel)) ggX8_put_X5_isMissing
set_option maxRecDepth 20000 in
theorem ggX8_put_X8_within : GoodIn wsX8_put wsX8_within := goodIn_r _ [18] (by decide +kernel) (by decide +kernel)
set_option maxRecDepth 20000 in
theorem gX8_put_X8_within : GoodIn wsX8_put (va_wsS RX8 63 yX8_within wsX8_within) := goodIn_app (goodIn_of _ (by decide +kernel)) ggX8_put_X8_within
set_option maxRecDepth 20000 in
theorem ggX8_put_X5_set : GoodIn wsX8_put wsX5_set := goodIn_r _ [28, 29, 30, 31, 32, 33, 22, 34, 24, 35, 36, 37, 38] (by decide +kernel) (by decide +kernel)
set_option maxRecDepth 20000 in
theorem gX8_put_X5_set : GoodIn wsX8_put (wsV RX8 270 RX5 yX5_set wsX5_set) := goodIn_app (goodIn_of _ (by decide +kernel)) ggX8_put_X5_set
theorem dX8_put_0 : decode cX8_put 0 = .ok (.aload_n 0, 1) := by decide +kernel
theorem dX8_put_1 : decode cX8_put 1 = .ok (.iload_n 1, 1) := by decide +kernel
theorem dX8_put_2 : decode cX8_put 2 = .ok (.invokevirtual 214, 3) := by decide +kernel
theorem dX8_put_5 : decode cX8_put 5 = .ok (.astore 4, 2) := by decide +kernel
theorem dX8_put_7 : decode cX8_put 7 = .ok (.aload 4, 2) := by decide +kernel
theorem dX8_put_9 : decode cX8_put 9 = .ok (.ifnonnull 10, 3) := by decide +kernel
theorem dX8_put_12 : decode cX8_put 12 = .ok (.aload_n 0, 1) := by decide +kernel
theorem dX8_put_13 : decode cX8_put 13 = .ok (.ldc 67, 2) := by decide +kernel
theorem dX8_put_15 : decode cX8_put 15 = .ok (.invokevirtual 68, 3) := by decide +kernel
theorem dX8_put_18 : decode cX8_put 18 = .ok (.ireturn, 1) := by decide +kernel
theorem dX8_put_19 : decode cX8_put 19 = .ok (.aload 4, 2) := by decide +kernel
theorem dX8_put_21 : decode cX8_put 21 = .ok (.invokevirtual 218, 3) := by decide +kernel
theorem dX8_put_24 : decode cX8_put 24 = .ok (.ifCond .eq 10, 3) := by decide +kernel
theorem dX8_put_27 : decode cX8_put 27 = .ok (.aload_n 0, 1) := by decide +kernel
theorem dX8_put_28 : decode cX8_put 28 = .ok (.ldc 210, 2) := by decide +kernel
theorem dX8_put_30 : decode cX8_put 30 = .ok (.invokevirtual 68, 3) := by decide +kernel
theorem dX8_put_33 : decode cX8_put 33 = .ok (.ireturn, 1) := by decide +kernel
theorem dX8_put_34 : decode cX8_put 34 = .ok (.iload_n 2, 1) := by decide +kernel
theorem dX8_put_35 : decode cX8_put 35 = .ok (.iconst 0, 1) := by decide +kernel
theorem dX8_put_36 : decode cX8_put 36 = .ok (.aload 4, 2) := by decide +kernel
theorem dX8_put_38 : decode cX8_put 38 = .ok (.getfield 224, 3) := by decide +kernel
theorem dX8_put_41 : decode cX8_put 41 = .ok (.iconst 1, 1) := by decide +kernel
theorem dX8_put_42 : decode cX8_put 42 = .ok (.isub, 1) := by decide +kernel
theorem dX8_put_43 : decode cX8_put 43 = .ok (.invokestatic 63, 3) := by decide +kernel
theorem dX8_put_46 : decode cX8_put 46 = .ok (.ifCond .ne 10, 3) := by decide +kernel
theorem dX8_put_49 : decode cX8_put 49 = .ok (.aload_n 0, 1) := by decide +kernel
theorem dX8_put_50 : decode cX8_put 50 = .ok (.ldc 67, 2) := by decide +kernel
theorem dX8_put_52 : decode cX8_put 52 = .ok (.invokevirtual 68, 3) := by decide +kernel
theorem dX8_put_55 : decode cX8_put 55 = .ok (.ireturn, 1) := by decide +kernel
theorem dX8_put_56 : decode cX8_put 56 = .ok (.aload 4, 2) := by decide +kernel
theorem dX8_put_58 : decode cX8_put 58 = .ok (.iload_n 2, 1) := by decide +kernel
theorem dX8_put_59 : decode cX8_put 59 = .ok (.iload_n 3, 1) := by decide +kernel
theorem dX8_put_60 : decode cX8_put 60 = .ok (.invokevirtual 270, 3) := by decide +kernel
theorem dX8_put_63 : decode cX8_put 63 = .ok (.iconst 1, 1) := by decide +kernel
theorem dX8_put_64 : decode cX8_put 64 = .ok (.ireturn, 1) := by decide +kernel
set_option maxRecDepth 20000 in
theorem ggX8_move_X8_sheetOf : GoodIn wsX8_move wsX8_sheetOf := goodIn_r _ [14, 15, 39, 40, 41, 42, 43, 44, 45, 46, 47] (by decide +kernel) (by decide +kernel)
set_option maxRecDepth 20000 in
theorem gX8_move_X8_sheetOf : GoodIn wsX8_move (wsV RX8 214 RX8 yX8_sheetOf wsX8_sheetOf) := goodIn_app (goodIn_of _ (by decide +kernel)) ggX8_move_X8_sheetOf
set_option maxRecDepth 20000 in
theorem ggX8_move_X8_error : GoodIn wsX8_move wsX8_error := goodIn_r _ [19, 20, 21, 22, 23, 13, 24, 39, 40, 41, 42, 43, 44, 45, 46, 47] (by decide +kernel) (by decide +kernel)
set_option maxRecDepth 20000 in
theorem gX8_move_X8_error : GoodIn wsX8_move (wsV RX8 68 RX8 yX8_error wsX8_error) := goodIn_app (goodIn_of _ (by decide +kernel)) ggX8_move_X8_error
set_option maxRecDepth 20000 in
theorem ggX8_move_X5_isMissing : GoodIn wsX8_move wsX5_isMissing := goodIn_r _ [29, 30, 36, 37, 38] (by decide +kernel) (by decide +kernel)
set_option maxRecDepth 20000 in
theorem gX8_move_X5_isMissing : GoodIn wsX8_move (wsV RX8 218 RX5 yX5_isMissing wsX5_isMissing) := goodIn_app (goodIn_of _ (by decide +kernel)) ggX8_move_X5_isMissing
set_option maxRecDepth 20000 in
theorem ggX8_move_X5_holds : GoodIn wsX8_move wsX5_holds := goodIn_r _ [34, 35, 36, 37, 38] (by decide +kernel) (by decide +kernel)
set_option maxRecDepth 20000 in
theorem gX8_move_X5_holds : GoodIn wsX8_move (wsV RX8 276 RX5 yX5_holds wsX5_holds) := goodIn_app (goodIn_of _ (by decide +kernel)) ggX8_move_X5_holds
theorem dX8_move_0 : decode cX8_move 0 = .ok (.aload_n 0, 1) := by decide +kernel
theorem dX8_move_1 : decode cX8_move 1 = .ok (.iload_n 1, 1) := by decide +kernel
theorem dX8_move_2 : decode cX8_move 2 = .ok (.invokevirtual 214, 3) := by decide +kernel
theorem dX8_move_5 : decode cX8_move 5 = .ok (.astore 6, 2) := by decide +kernel
theorem dX8_move_7 : decode cX8_move 7 = .ok (.aload_n 0, 1) := by decide +kernel
theorem dX8_move_8 : decode cX8_move 8 = .ok (.iload_n 3, 1) := by decide +kernel
theorem dX8_move_9 : decode cX8_move 9 = .ok (.invokevirtual 214, 3) := by decide +kernel
theorem dX8_move_12 : decode cX8_move 12 = .ok (.astore 7, 2) := by decide +kernel
theorem dX8_move_14 : decode cX8_move 14 = .ok (.aload 6, 2) := by decide +kernel
theorem dX8_move_16 : decode cX8_move 16 = .ok (.ifnull 8, 3) := by decide +kernel
theorem dX8_move_19 : decode cX8_move 19 = .ok (.aload 7, 2) := by decide +kernel
theorem dX8_move_21 : decode cX8_move 21 = .ok (.ifnonnull 10, 3) := by decide +kernel
theorem dX8_move_24 : decode cX8_move 24 = .ok (.aload_n 0, 1) := by decide +kernel
theorem dX8_move_25 : decode cX8_move 25 = .ok (.ldc 67, 2) := by decide +kernel
theorem dX8_move_27 : decode cX8_move 27 = .ok (.invokevirtual 68, 3) := by decide +kernel
theorem dX8_move_30 : decode cX8_move 30 = .ok (.ireturn, 1) := by decide +kernel
theorem dX8_move_31 : decode cX8_move 31 = .ok (.aload 6, 2) := by decide +kernel
theorem dX8_move_33 : decode cX8_move 33 = .ok (.invokevirtual 218, 3) := by decide +kernel
theorem dX8_move_36 : decode cX8_move 36 = .ok (.ifCond .ne 11, 3) := by decide +kernel
theorem dX8_move_39 : decode cX8_move 39 = .ok (.aload 7, 2) := by decide +kernel
theorem dX8_move_41 : decode cX8_move 41 = .ok (.invokevirtual 218, 3) := by decide +kernel
theorem dX8_move_44 : decode cX8_move 44 = .ok (.ifCond .eq 10, 3) := by decide +kernel
theorem dX8_move_47 : decode cX8_move 47 = .ok (.aload_n 0, 1) := by decide +kernel
theorem dX8_move_48 : decode cX8_move 48 = .ok (.ldc 210, 2) := by decide +kernel
theorem dX8_move_50 : decode cX8_move 50 = .ok (.invokevirtual 68, 3) := by decide +kernel
theorem dX8_move_53 : decode cX8_move 53 = .ok (.ireturn, 1) := by decide +kernel
theorem dX8_move_54 : decode cX8_move 54 = .ok (.aload 6, 2) := by decide +kernel
theorem dX8_move_56 : decode cX8_move 56 = .ok (.getfield 273, 3) := by decide +kernel
theorem dX8_move_59 : decode cX8_move 59 = .ok (.aload 7, 2) := by decide +kernel
theorem dX8_move_61 : decode cX8_move 61 = .ok (.getfield 273, 3) := by decide +kernel
theorem dX8_move_64 : decode cX8_move 64 = .ok (.if_icmp .eq 10, 3) := by decide +kernel
theorem dX8_move_67 : decode cX8_move 67 = .ok (.aload_n 0, 1) := by decide +kernel
theorem dX8_move_68 : decode cX8_move 68 = .ok (.ldc 103, 2) := by decide +kernel
theorem dX8_move_70 : decode cX8_move 70 = .ok (.invokevirtual 68, 3) := by decide +kernel
theorem dX8_move_73 : decode cX8_move 73 = .ok (.ireturn, 1) := by decide +kernel
theorem dX8_move_74 : decode cX8_move 74 = .ok (.aload 6, 2) := by decide +kernel
theorem dX8_move_76 : decode cX8_move 76 = .ok (.iload_n 2, 1) := by decide +kernel
theorem dX8_move_77 : decode cX8_move 77 = .ok (.iload 5, 2) := by decide +kernel
theorem dX8_move_79 : decode cX8_move 79 = .ok (.invokevirtual 276, 3) := by decide +kernel
theorem dX8_move_82 : decode cX8_move 82 = .ok (.ifCond .eq 15, 3) := by decide +kernel
theorem dX8_move_85 : decode cX8_move 85 = .ok (.aload 7, 2) := by decide +kernel
theorem dX8_move_87 : decode cX8_move 87 = .ok (.iload 4, 2) := by decide +kernel
theorem dX8_move_89 : decode cX8_move 89 = .ok (.iload 5, 2) := by decide +kernel
theorem dX8_move_91 : decode cX8_move 91 = .ok (.invokevirtual 276, 3) := by decide +kernel
theorem dX8_move_94 : decode cX8_move 94 = .ok (.ifCond .ne 10, 3) := by decide +kernel
theorem dX8_move_97 : decode cX8_move 97 = .ok (.aload_n 0, 1) := by decide +kernel
theorem dX8_move_98 : decode cX8_move 98 = .ok (.ldc 67, 2) := by decide +kernel
theorem dX8_move_100 : decode cX8_move 100 = .ok (.invokevirtual 68, 3) := by decide +kernel
theorem dX8_move_103 : decode cX8_move 103 = .ok (.ireturn, 1) := by decide +kernel
theorem dX8_move_104 : decode cX8_move 104 = .ok (.aload 6, 2) := by decide +kernel
theorem dX8_move_106 : decode cX8_move 106 = .ok (.getfield 279, 3) := by decide +kernel
theorem dX8_move_109 : decode cX8_move 109 = .ok (.iload_n 2, 1) := by decide +kernel
theorem dX8_move_110 : decode cX8_move 110 = .ok (.aload 7, 2) := by decide +kernel
theorem dX8_move_112 : decode cX8_move 112 = .ok (.getfield 279, 3) := by decide +kernel
theorem dX8_move_115 : decode cX8_move 115 = .ok (.iload 4, 2) := by decide +kernel
theorem dX8_move_117 : decode cX8_move 117 = .ok (.iload 5, 2) := by decide +kernel
theorem dX8_move_119 : decode cX8_move 119 = .ok (.invokestatic 282, 3) := by decide +kernel
theorem dX8_move_122 : decode cX8_move 122 = .ok (.iload 5, 2) := by decide +kernel
theorem dX8_move_124 : decode cX8_move 124 = .ok (.ireturn, 1) := by decide +kernel
set_option maxRecDepth 20000 in
theorem ggX8_carries_X8_sheetOf : GoodIn wsX8_carries wsX8_sheetOf := goodIn_r _ [11, 12, 44, 45, 46, 47, 48, 49, 50, 51, 52] (by decide +kernel) (by decide +kernel)
set_option maxRecDepth 20000 in
theorem gX8_carries_X8_sheetOf : GoodIn wsX8_carries (wsV RX8 214 RX8 yX8_sheetOf wsX8_sheetOf) := goodIn_app (goodIn_of _ (by decide +kernel)) ggX8_carries_X8_sheetOf
set_option maxRecDepth 20000 in
theorem ggX8_carries_X8_error : GoodIn wsX8_carries wsX8_error := goodIn_r _ [16, 17, 18, 19, 20, 10, 21, 44, 45, 46, 47, 48, 49, 50, 51, 52] (by decide +kernel) (by decide +kernel)
set_option maxRecDepth 20000 in
theorem gX8_carries_X8_error : GoodIn wsX8_carries (wsV RX8 68 RX8 yX8_error wsX8_error) := goodIn_app (goodIn_of _ (by decide +kernel)) ggX8_carries_X8_error
set_option maxRecDepth 20000 in
theorem ggX8_carries_X5_isMissing : GoodIn wsX8_carries wsX5_isMissing := goodIn_r _ [26, 27, 41, 42, 43] (by decide +kernel) (by decide +kernel)
set_option maxRecDepth 20000 in
theorem gX8_carries_X5_isMissing : GoodIn wsX8_carries (wsV RX8 218 RX5 yX5_isMissing wsX5_isMissing) := goodIn_app (goodIn_of _ (by decide +kernel)) ggX8_carries_X5_isMissing
set_option maxRecDepth 20000 in
theorem ggX8_carries_X0_personOf : GoodIn wsX8_carries wsX0_personOf := goodIn_r _ [32, 33, 34, 53, 54, 55, 56, 57, 58, 59, 60, 61, 62, 63, 64] (by decide +kernel) (by decide +kernel)
set_option maxRecDepth 20000 in
theorem gX8_carries_X0_personOf : GoodIn wsX8_carries (wsV RX8 110 RX0 yX0_personOf wsX0_personOf) := goodIn_app (goodIn_of _ (by decide +kernel)) ggX8_carries_X0_personOf
set_option maxRecDepth 20000 in
theorem ggX8_carries_X5_get : GoodIn wsX8_carries wsX5_get := goodIn_r _ [38, 39, 40, 41, 42, 43] (by decide +kernel) (by decide +kernel)
set_option maxRecDepth 20000 in
theorem gX8_carries_X5_get : GoodIn wsX8_carries (wsV RX8 227 RX5 yX5_get wsX5_get) := goodIn_app (goodIn_of _ (by decide +kernel)) ggX8_carries_X5_get
set_option maxRecDepth 20000 in
theorem ggX8_carries_X8_within : GoodIn wsX8_carries wsX8_within := goodIn_r _ [21] (by decide +kernel) (by decide +kernel)
set_option maxRecDepth 20000 in
theorem gX8_carries_X8_within : GoodIn wsX8_carries (va_wsS RX8 63 yX8_within wsX8_within) := goodIn_app (goodIn_of _ (by decide +kernel)) ggX8_carries_X8_within
theorem dX8_carries_0 : decode cX8_carries 0 = .ok (.aload_n 0, 1) := by decide +kernel
theorem dX8_carries_1 : decode cX8_carries 1 = .ok (.iload_n 1, 1) := by decide +kernel
theorem dX8_carries_2 : decode cX8_carries 2 = .ok (.invokevirtual 214, 3) := by decide +kernel
theorem dX8_carries_5 : decode cX8_carries 5 = .ok (.astore_n 2, 1) := by decide +kernel
theorem dX8_carries_6 : decode cX8_carries 6 = .ok (.aload_n 2, 1) := by decide +kernel
theorem dX8_carries_7 : decode cX8_carries 7 = .ok (.ifnonnull 10, 3) := by decide +kernel
theorem dX8_carries_10 : decode cX8_carries 10 = .ok (.aload_n 0, 1) := by decide +kernel
theorem dX8_carries_11 : decode cX8_carries 11 = .ok (.ldc 67, 2) := by decide +kernel
theorem dX8_carries_13 : decode cX8_carries 13 = .ok (.invokevirtual 68, 3) := by decide +kernel
theorem dX8_carries_16 : decode cX8_carries 16 = .ok (.ireturn, 1) := by decide +kernel
theorem dX8_carries_17 : decode cX8_carries 17 = .ok (.aload_n 2, 1) := by decide +kernel
theorem dX8_carries_18 : decode cX8_carries 18 = .ok (.invokevirtual 218, 3) := by decide +kernel
theorem dX8_carries_21 : decode cX8_carries 21 = .ok (.ifCond .eq 10, 3) := by decide +kernel
theorem dX8_carries_24 : decode cX8_carries 24 = .ok (.aload_n 0, 1) := by decide +kernel
theorem dX8_carries_25 : decode cX8_carries 25 = .ok (.ldc 210, 2) := by decide +kernel
theorem dX8_carries_27 : decode cX8_carries 27 = .ok (.invokevirtual 68, 3) := by decide +kernel
theorem dX8_carries_30 : decode cX8_carries 30 = .ok (.ireturn, 1) := by decide +kernel
theorem dX8_carries_31 : decode cX8_carries 31 = .ok (.iconst 0, 1) := by decide +kernel
theorem dX8_carries_32 : decode cX8_carries 32 = .ok (.istore_n 3, 1) := by decide +kernel
theorem dX8_carries_33 : decode cX8_carries 33 = .ok (.iload_n 3, 1) := by decide +kernel
theorem dX8_carries_34 : decode cX8_carries 34 = .ok (.aload_n 2, 1) := by decide +kernel
theorem dX8_carries_35 : decode cX8_carries 35 = .ok (.getfield 224, 3) := by decide +kernel
theorem dX8_carries_38 : decode cX8_carries 38 = .ok (.if_icmp .ge 55, 3) := by decide +kernel
theorem dX8_carries_41 : decode cX8_carries 41 = .ok (.aload_n 0, 1) := by decide +kernel
theorem dX8_carries_42 : decode cX8_carries 42 = .ok (.getfield 12, 3) := by decide +kernel
theorem dX8_carries_45 : decode cX8_carries 45 = .ok (.iload_n 3, 1) := by decide +kernel
theorem dX8_carries_46 : decode cX8_carries 46 = .ok (.invokevirtual 110, 3) := by decide +kernel
theorem dX8_carries_49 : decode cX8_carries 49 = .ok (.astore 4, 2) := by decide +kernel
theorem dX8_carries_51 : decode cX8_carries 51 = .ok (.aload 4, 2) := by decide +kernel
theorem dX8_carries_53 : decode cX8_carries 53 = .ok (.ifnull 22, 3) := by decide +kernel
theorem dX8_carries_56 : decode cX8_carries 56 = .ok (.aload_n 2, 1) := by decide +kernel
theorem dX8_carries_57 : decode cX8_carries 57 = .ok (.iload_n 3, 1) := by decide +kernel
theorem dX8_carries_58 : decode cX8_carries 58 = .ok (.invokevirtual 227, 3) := by decide +kernel
theorem dX8_carries_61 : decode cX8_carries 61 = .ok (.iconst 0, 1) := by decide +kernel
theorem dX8_carries_62 : decode cX8_carries 62 = .ok (.aload_n 0, 1) := by decide +kernel
theorem dX8_carries_63 : decode cX8_carries 63 = .ok (.getfield 12, 3) := by decide +kernel
theorem dX8_carries_66 : decode cX8_carries 66 = .ok (.getfield 72, 3) := by decide +kernel
theorem dX8_carries_69 : decode cX8_carries 69 = .ok (.invokestatic 63, 3) := by decide +kernel
theorem dX8_carries_72 : decode cX8_carries 72 = .ok (.ifCond .ne 5, 3) := by decide +kernel
theorem dX8_carries_75 : decode cX8_carries 75 = .ok (.iload_n 3, 1) := by decide +kernel
theorem dX8_carries_76 : decode cX8_carries 76 = .ok (.ireturn, 1) := by decide +kernel
theorem dX8_carries_77 : decode cX8_carries 77 = .ok (.aload 4, 2) := by decide +kernel
theorem dX8_carries_79 : decode cX8_carries 79 = .ok (.aload_n 2, 1) := by decide +kernel
theorem dX8_carries_80 : decode cX8_carries 80 = .ok (.iload_n 3, 1) := by decide +kernel
theorem dX8_carries_81 : decode cX8_carries 81 = .ok (.invokevirtual 227, 3) := by decide +kernel
theorem dX8_carries_84 : decode cX8_carries 84 = .ok (.putfield 114, 3) := by decide +kernel
theorem dX8_carries_87 : decode cX8_carries 87 = .ok (.iinc 3 1, 3) := by decide +kernel
theorem dX8_carries_90 : decode cX8_carries 90 = .ok (.goto (-57), 3) := by decide +kernel
theorem dX8_carries_93 : decode cX8_carries 93 = .ok (.aload_n 2, 1) := by decide +kernel
theorem dX8_carries_94 : decode cX8_carries 94 = .ok (.getfield 224, 3) := by decide +kernel
theorem dX8_carries_97 : decode cX8_carries 97 = .ok (.ireturn, 1) := by decide +kernel
set_option maxRecDepth 20000 in
theorem ggX8_judge_X8_sheetOf : GoodIn wsX8_judge wsX8_sheetOf := goodIn_r _ [10, 11, 43, 44, 45, 46, 47, 48, 49, 50, 51] (by decide +kernel) (by decide +kernel)
set_option maxRecDepth 20000 in
theorem gX8_judge_X8_sheetOf : GoodIn wsX8_judge (wsV RX8 214 RX8 yX8_sheetOf wsX8_sheetOf) := goodIn_app (goodIn_of _ (by decide +kernel)) ggX8_judge_X8_sheetOf
set_option maxRecDepth 20000 in
theorem ggX8_judge_X8_error : GoodIn wsX8_judge wsX8_error := goodIn_r _ [15, 16, 17, 18, 19, 9, 20, 43, 44, 45, 46, 47, 48, 49, 50, 51] (by decide +kernel) (by decide +kernel)
set_option maxRecDepth 20000 in
theorem gX8_judge_X8_error : GoodIn wsX8_judge (wsV RX8 68 RX8 yX8_error wsX8_error) := goodIn_app (goodIn_of _ (by decide +kernel)) ggX8_judge_X8_error
set_option maxRecDepth 20000 in
theorem ggX8_judge_X5_isMissing : GoodIn wsX8_judge wsX5_isMissing := goodIn_r _ [25, 26, 40, 41, 42] (by decide +kernel) (by decide +kernel)
set_option maxRecDepth 20000 in
theorem gX8_judge_X5_isMissing : GoodIn wsX8_judge (wsV RX8 218 RX5 yX5_isMissing wsX5_isMissing) := goodIn_app (goodIn_of _ (by decide +kernel)) ggX8_judge_X5_isMissing
set_option maxRecDepth 20000 in
theorem ggX8_judge_X0_personOf : GoodIn wsX8_judge wsX0_personOf := goodIn_r _ [31, 32, 33, 56, 57, 58, 59, 60, 61, 62, 63, 64, 65, 66, 67] (by decide +kernel) (by decide +kernel)
set_option maxRecDepth 20000 in
theorem gX8_judge_X0_personOf : GoodIn wsX8_judge (wsV RX8 110 RX0 yX0_personOf wsX0_personOf) := goodIn_app (goodIn_of _ (by decide +kernel)) ggX8_judge_X0_personOf
set_option maxRecDepth 20000 in
theorem ggX8_judge_X5_get : GoodIn wsX8_judge wsX5_get := goodIn_r _ [37, 38, 39, 40, 41, 42] (by decide +kernel) (by decide +kernel)
set_option maxRecDepth 20000 in
theorem gX8_judge_X5_get : GoodIn wsX8_judge (wsV RX8 227 RX5 yX5_get wsX5_get) := goodIn_app (goodIn_of _ (by decide +kernel)) ggX8_judge_X5_get
theorem dX8_judge_0 : decode cX8_judge 0 = .ok (.aload_n 0, 1) := by decide +kernel
theorem dX8_judge_1 : decode cX8_judge 1 = .ok (.iload_n 1, 1) := by decide +kernel
theorem dX8_judge_2 : decode cX8_judge 2 = .ok (.invokevirtual 214, 3) := by decide +kernel
theorem dX8_judge_5 : decode cX8_judge 5 = .ok (.astore_n 2, 1) := by decide +kernel
theorem dX8_judge_6 : decode cX8_judge 6 = .ok (.aload_n 2, 1) := by decide +kernel
theorem dX8_judge_7 : decode cX8_judge 7 = .ok (.ifnonnull 10, 3) := by decide +kernel
theorem dX8_judge_10 : decode cX8_judge 10 = .ok (.aload_n 0, 1) := by decide +kernel
theorem dX8_judge_11 : decode cX8_judge 11 = .ok (.ldc 67, 2) := by decide +kernel
theorem dX8_judge_13 : decode cX8_judge 13 = .ok (.invokevirtual 68, 3) := by decide +kernel
theorem dX8_judge_16 : decode cX8_judge 16 = .ok (.ireturn, 1) := by decide +kernel
theorem dX8_judge_17 : decode cX8_judge 17 = .ok (.aload_n 2, 1) := by decide +kernel
theorem dX8_judge_18 : decode cX8_judge 18 = .ok (.invokevirtual 218, 3) := by decide +kernel
theorem dX8_judge_21 : decode cX8_judge 21 = .ok (.ifCond .eq 10, 3) := by decide +kernel
theorem dX8_judge_24 : decode cX8_judge 24 = .ok (.aload_n 0, 1) := by decide +kernel
theorem dX8_judge_25 : decode cX8_judge 25 = .ok (.ldc 210, 2) := by decide +kernel
theorem dX8_judge_27 : decode cX8_judge 27 = .ok (.invokevirtual 68, 3) := by decide +kernel
theorem dX8_judge_30 : decode cX8_judge 30 = .ok (.ireturn, 1) := by decide +kernel
theorem dX8_judge_31 : decode cX8_judge 31 = .ok (.iconst 0, 1) := by decide +kernel
theorem dX8_judge_32 : decode cX8_judge 32 = .ok (.istore_n 3, 1) := by decide +kernel
theorem dX8_judge_33 : decode cX8_judge 33 = .ok (.iload_n 3, 1) := by decide +kernel
theorem dX8_judge_34 : decode cX8_judge 34 = .ok (.aload_n 2, 1) := by decide +kernel
theorem dX8_judge_35 : decode cX8_judge 35 = .ok (.getfield 224, 3) := by decide +kernel
theorem dX8_judge_38 : decode cX8_judge 38 = .ok (.if_icmp .ge 39, 3) := by decide +kernel
theorem dX8_judge_41 : decode cX8_judge 41 = .ok (.aload_n 0, 1) := by decide +kernel
theorem dX8_judge_42 : decode cX8_judge 42 = .ok (.getfield 12, 3) := by decide +kernel
theorem dX8_judge_45 : decode cX8_judge 45 = .ok (.iload_n 3, 1) := by decide +kernel
theorem dX8_judge_46 : decode cX8_judge 46 = .ok (.invokevirtual 110, 3) := by decide +kernel
theorem dX8_judge_49 : decode cX8_judge 49 = .ok (.astore 4, 2) := by decide +kernel
theorem dX8_judge_51 : decode cX8_judge 51 = .ok (.aload 4, 2) := by decide +kernel
theorem dX8_judge_53 : decode cX8_judge 53 = .ok (.ifnull 16, 3) := by decide +kernel
theorem dX8_judge_56 : decode cX8_judge 56 = .ok (.aload 4, 2) := by decide +kernel
theorem dX8_judge_58 : decode cX8_judge 58 = .ok (.getfield 114, 3) := by decide +kernel
theorem dX8_judge_61 : decode cX8_judge 61 = .ok (.aload_n 2, 1) := by decide +kernel
theorem dX8_judge_62 : decode cX8_judge 62 = .ok (.iload_n 3, 1) := by decide +kernel
theorem dX8_judge_63 : decode cX8_judge 63 = .ok (.invokevirtual 227, 3) := by decide +kernel
theorem dX8_judge_66 : decode cX8_judge 66 = .ok (.if_icmp .eq 5, 3) := by decide +kernel
theorem dX8_judge_69 : decode cX8_judge 69 = .ok (.iload_n 3, 1) := by decide +kernel
theorem dX8_judge_70 : decode cX8_judge 70 = .ok (.ireturn, 1) := by decide +kernel
theorem dX8_judge_71 : decode cX8_judge 71 = .ok (.iinc 3 1, 3) := by decide +kernel
theorem dX8_judge_74 : decode cX8_judge 74 = .ok (.goto (-41), 3) := by decide +kernel
theorem dX8_judge_77 : decode cX8_judge 77 = .ok (.aload_n 2, 1) := by decide +kernel
theorem dX8_judge_78 : decode cX8_judge 78 = .ok (.getfield 224, 3) := by decide +kernel
theorem dX8_judge_81 : decode cX8_judge 81 = .ok (.ireturn, 1) := by decide +kernel
set_option maxRecDepth 20000 in
theorem ggX8_image_X0_copyFrom : GoodIn wsX8_image wsX0_copyFrom := goodIn_r _ [8, 9, 10, 11, 12, 13, 14, 15, 16, 17, 18, 19, 20, 21, 22, 23, 24, 25, 26, 27, 28, 29, 30, 31, 32, 33, 34, 35, 36, 37, 38, 39, 40, 41, 42, 43, 44, 45, 46, 47, 48, 49, 59, 60, 61, 62, 63, 64, 65, 66, 67, 68, 69, 70, 71, 72, 73, 74, 75, 76, 77, 78, 79, 80, 81] (by decide +kernel) (by decide +kernel)
set_option maxRecDepth 20000 in
theorem gX8_image_X0_copyFrom : GoodIn wsX8_image (wsV RX8 211 RX0 yX0_copyFrom wsX0_copyFrom) := goodIn_app (goodIn_of _ (by decide +kernel)) ggX8_image_X0_copyFrom
theorem dX8_image_0 : decode cX8_image 0 = .ok (.aload_n 0, 1) := by decide +kernel
theorem dX8_image_1 : decode cX8_image 1 = .ok (.getfield 16, 3) := by decide +kernel
theorem dX8_image_4 : decode cX8_image 4 = .ok (.aload_n 0, 1) := by decide +kernel
theorem dX8_image_5 : decode cX8_image 5 = .ok (.getfield 12, 3) := by decide +kernel
theorem dX8_image_8 : decode cX8_image 8 = .ok (.invokevirtual 211, 3) := by decide +kernel
theorem dX8_image_11 : decode cX8_image 11 = .ok (.aload_n 0, 1) := by decide +kernel
theorem dX8_image_12 : decode cX8_image 12 = .ok (.dup, 1) := by decide +kernel
theorem dX8_image_13 : decode cX8_image 13 = .ok (.getfield 58, 3) := by decide +kernel
theorem dX8_image_16 : decode cX8_image 16 = .ok (.iconst 1, 1) := by decide +kernel
theorem dX8_image_17 : decode cX8_image 17 = .ok (.iadd, 1) := by decide +kernel
theorem dX8_image_18 : decode cX8_image 18 = .ok (.putfield 58, 3) := by decide +kernel
theorem dX8_image_21 : decode cX8_image 21 = .ok (.aload_n 0, 1) := by decide +kernel
theorem dX8_image_22 : decode cX8_image 22 = .ok (.getfield 58, 3) := by decide +kernel
theorem dX8_image_25 : decode cX8_image 25 = .ok (.ireturn, 1) := by decide +kernel
set_option maxRecDepth 20000 in
theorem ggX8_restore_X8_error : GoodIn wsX8_restore wsX8_error := goodIn_r _ [10, 11, 12, 13, 14, 9, 15, 62, 63, 64, 65, 66, 67, 68, 69, 70] (by decide +kernel) (by decide +kernel)
set_option maxRecDepth 20000 in
theorem gX8_restore_X8_error : GoodIn wsX8_restore (wsV RX8 68 RX8 yX8_error wsX8_error) := goodIn_app (goodIn_of _ (by decide +kernel)) ggX8_restore_X8_error
set_option maxRecDepth 20000 in
theorem ggX8_restore_X0_copyFrom : GoodIn wsX8_restore wsX0_copyFrom := goodIn_r _ [20, 21, 22, 23, 24, 25, 26, 27, 28, 29, 30, 31, 32, 33, 34, 35, 36, 37, 38, 39, 40, 41, 42, 43, 44, 45, 46, 47, 48, 49, 50, 51, 52, 53, 54, 55, 56, 57, 58, 59, 60, 61, 71, 72, 73, 74, 75, 76, 77, 78, 79, 80, 81, 82, 83, 84, 85, 86, 87, 88, 89, 90, 91, 92, 93] (by decide +kernel) (by decide +kernel)
set_option maxRecDepth 20000 in
theorem gX8_restore_X0_copyFrom : GoodIn wsX8_restore (wsV RX8 211 RX0 yX0_copyFrom wsX0_copyFrom) := goodIn_app (goodIn_of _ (by decide +kernel)) ggX8_restore_X0_copyFrom
theorem dX8_restore_0 : decode cX8_restore 0 = .ok (.aload_n 0, 1) := by decide +kernel
theorem dX8_restore_1 : decode cX8_restore 1 = .ok (.getfield 58, 3) := by decide +kernel
theorem dX8_restore_4 : decode cX8_restore 4 = .ok (.ifCond .ne 10, 3) := by decide +kernel
theorem dX8_restore_7 : decode cX8_restore 7 = .ok (.aload_n 0, 1) := by decide +kernel
theorem dX8_restore_8 : decode cX8_restore 8 = .ok (.ldc 210, 2) := by decide +kernel
theorem dX8_restore_10 : decode cX8_restore 10 = .ok (.invokevirtual 68, 3) := by decide +kernel
theorem dX8_restore_13 : decode cX8_restore 13 = .ok (.ireturn, 1) := by decide +kernel
theorem dX8_restore_14 : decode cX8_restore 14 = .ok (.aload_n 0, 1) := by decide +kernel
theorem dX8_restore_15 : decode cX8_restore 15 = .ok (.getfield 12, 3) := by decide +kernel
theorem dX8_restore_18 : decode cX8_restore 18 = .ok (.aload_n 0, 1) := by decide +kernel
theorem dX8_restore_19 : decode cX8_restore 19 = .ok (.getfield 16, 3) := by decide +kernel
theorem dX8_restore_22 : decode cX8_restore 22 = .ok (.invokevirtual 211, 3) := by decide +kernel
theorem dX8_restore_25 : decode cX8_restore 25 = .ok (.aload_n 0, 1) := by decide +kernel
theorem dX8_restore_26 : decode cX8_restore 26 = .ok (.getfield 12, 3) := by decide +kernel
theorem dX8_restore_29 : decode cX8_restore 29 = .ok (.getfield 191, 3) := by decide +kernel
theorem dX8_restore_32 : decode cX8_restore 32 = .ok (.ireturn, 1) := by decide +kernel
set_option maxRecDepth 20000 in
theorem ggX8_tell_X8_error : GoodIn wsX8_tell wsX8_error := goodIn_r _ [9, 10, 11, 12, 13, 8, 14, 15, 16, 17, 18, 19, 20, 21, 22, 23] (by decide +kernel) (by decide +kernel)
set_option maxRecDepth 20000 in
theorem gX8_tell_X8_error : GoodIn wsX8_tell (wsV RX8 68 RX8 yX8_error wsX8_error) := goodIn_app (goodIn_of _ (by decide +kernel)) ggX8_tell_X8_error
theorem dX8_tell_0 : decode cX8_tell 0 = .ok (.aload_n 0, 1) := by decide +kernel
theorem dX8_tell_1 : decode cX8_tell 1 = .ok (.getfield 12, 3) := by decide +kernel
theorem dX8_tell_4 : decode cX8_tell 4 = .ok (.getfield 288, 3) := by decide +kernel
theorem dX8_tell_7 : decode cX8_tell 7 = .ok (.bipush 24, 2) := by decide +kernel
theorem dX8_tell_9 : decode cX8_tell 9 = .ok (.if_icmp .ge 21, 3) := by decide +kernel
theorem dX8_tell_12 : decode cX8_tell 12 = .ok (.aload_n 0, 1) := by decide +kernel
theorem dX8_tell_13 : decode cX8_tell 13 = .ok (.getfield 12, 3) := by decide +kernel
theorem dX8_tell_16 : decode cX8_tell 16 = .ok (.getfield 288, 3) := by decide +kernel
theorem dX8_tell_19 : decode cX8_tell 19 = .ok (.aload_n 0, 1) := by decide +kernel
theorem dX8_tell_20 : decode cX8_tell 20 = .ok (.getfield 12, 3) := by decide +kernel
theorem dX8_tell_23 : decode cX8_tell 23 = .ok (.getfield 291, 3) := by decide +kernel
theorem dX8_tell_26 : decode cX8_tell 26 = .ok (.arraylength, 1) := by decide +kernel
theorem dX8_tell_27 : decode cX8_tell 27 = .ok (.if_icmp .lt 10, 3) := by decide +kernel
theorem dX8_tell_30 : decode cX8_tell 30 = .ok (.aload_n 0, 1) := by decide +kernel
theorem dX8_tell_31 : decode cX8_tell 31 = .ok (.ldc 75, 2) := by decide +kernel
theorem dX8_tell_33 : decode cX8_tell 33 = .ok (.invokevirtual 68, 3) := by decide +kernel
theorem dX8_tell_36 : decode cX8_tell 36 = .ok (.ireturn, 1) := by decide +kernel
theorem dX8_tell_37 : decode cX8_tell 37 = .ok (.aload_n 0, 1) := by decide +kernel
theorem dX8_tell_38 : decode cX8_tell 38 = .ok (.getfield 12, 3) := by decide +kernel
theorem dX8_tell_41 : decode cX8_tell 41 = .ok (.getfield 291, 3) := by decide +kernel
theorem dX8_tell_44 : decode cX8_tell 44 = .ok (.aload_n 0, 1) := by decide +kernel
theorem dX8_tell_45 : decode cX8_tell 45 = .ok (.getfield 12, 3) := by decide +kernel
theorem dX8_tell_48 : decode cX8_tell 48 = .ok (.getfield 288, 3) := by decide +kernel
theorem dX8_tell_51 : decode cX8_tell 51 = .ok (.iload_n 1, 1) := by decide +kernel
theorem dX8_tell_52 : decode cX8_tell 52 = .ok (.iastore, 1) := by decide +kernel
theorem dX8_tell_53 : decode cX8_tell 53 = .ok (.aload_n 0, 1) := by decide +kernel
theorem dX8_tell_54 : decode cX8_tell 54 = .ok (.getfield 12, 3) := by decide +kernel
theorem dX8_tell_57 : decode cX8_tell 57 = .ok (.dup, 1) := by decide +kernel
theorem dX8_tell_58 : decode cX8_tell 58 = .ok (.getfield 288, 3) := by decide +kernel
theorem dX8_tell_61 : decode cX8_tell 61 = .ok (.iconst 1, 1) := by decide +kernel
theorem dX8_tell_62 : decode cX8_tell 62 = .ok (.iadd, 1) := by decide +kernel
theorem dX8_tell_63 : decode cX8_tell 63 = .ok (.putfield 288, 3) := by decide +kernel
theorem dX8_tell_66 : decode cX8_tell 66 = .ok (.aload_n 0, 1) := by decide +kernel
theorem dX8_tell_67 : decode cX8_tell 67 = .ok (.getfield 12, 3) := by decide +kernel
theorem dX8_tell_70 : decode cX8_tell 70 = .ok (.getfield 288, 3) := by decide +kernel
theorem dX8_tell_73 : decode cX8_tell 73 = .ok (.ireturn, 1) := by decide +kernel
set_option maxRecDepth 20000 in
theorem ggX8_check_X0_personOf : GoodIn wsX8_check wsX0_personOf := goodIn_r _ [13, 14, 15, 25, 26, 27, 28, 29, 30, 31, 32, 33, 34, 35, 36] (by decide +kernel) (by decide +kernel)
set_option maxRecDepth 20000 in
theorem gX8_check_X0_personOf : GoodIn wsX8_check (wsV RX8 110 RX0 yX0_personOf wsX0_personOf) := goodIn_app (goodIn_of _ (by decide +kernel)) ggX8_check_X0_personOf
theorem dX8_check_0 : decode cX8_check 0 = .ok (.aload_n 0, 1) := by decide +kernel
theorem dX8_check_1 : decode cX8_check 1 = .ok (.getfield 12, 3) := by decide +kernel
theorem dX8_check_4 : decode cX8_check 4 = .ok (.getfield 288, 3) := by decide +kernel
theorem dX8_check_7 : decode cX8_check 7 = .ok (.aload_n 0, 1) := by decide +kernel
theorem dX8_check_8 : decode cX8_check 8 = .ok (.getfield 12, 3) := by decide +kernel
theorem dX8_check_11 : decode cX8_check 11 = .ok (.getfield 291, 3) := by decide +kernel
theorem dX8_check_14 : decode cX8_check 14 = .ok (.arraylength, 1) := by decide +kernel
theorem dX8_check_15 : decode cX8_check 15 = .ok (.invokestatic 149, 3) := by decide +kernel
theorem dX8_check_18 : decode cX8_check 18 = .ok (.istore_n 1, 1) := by decide +kernel
theorem dX8_check_19 : decode cX8_check 19 = .ok (.aload_n 0, 1) := by decide +kernel
theorem dX8_check_20 : decode cX8_check 20 = .ok (.getfield 12, 3) := by decide +kernel
theorem dX8_check_23 : decode cX8_check 23 = .ok (.iconst 0, 1) := by decide +kernel
theorem dX8_check_24 : decode cX8_check 24 = .ok (.putfield 288, 3) := by decide +kernel
theorem dX8_check_27 : decode cX8_check 27 = .ok (.iconst 0, 1) := by decide +kernel
theorem dX8_check_28 : decode cX8_check 28 = .ok (.istore_n 2, 1) := by decide +kernel
theorem dX8_check_29 : decode cX8_check 29 = .ok (.iload_n 2, 1) := by decide +kernel
theorem dX8_check_30 : decode cX8_check 30 = .ok (.iload_n 1, 1) := by decide +kernel
theorem dX8_check_31 : decode cX8_check 31 = .ok (.if_icmp .ge 42, 3) := by decide +kernel
theorem dX8_check_34 : decode cX8_check 34 = .ok (.aload_n 0, 1) := by decide +kernel
theorem dX8_check_35 : decode cX8_check 35 = .ok (.getfield 12, 3) := by decide +kernel
theorem dX8_check_38 : decode cX8_check 38 = .ok (.iload_n 2, 1) := by decide +kernel
theorem dX8_check_39 : decode cX8_check 39 = .ok (.invokevirtual 110, 3) := by decide +kernel
theorem dX8_check_42 : decode cX8_check 42 = .ok (.astore_n 3, 1) := by decide +kernel
theorem dX8_check_43 : decode cX8_check 43 = .ok (.aload_n 3, 1) := by decide +kernel
theorem dX8_check_44 : decode cX8_check 44 = .ok (.ifnull 19, 3) := by decide +kernel
theorem dX8_check_47 : decode cX8_check 47 = .ok (.aload_n 3, 1) := by decide +kernel
theorem dX8_check_48 : decode cX8_check 48 = .ok (.getfield 119, 3) := by decide +kernel
theorem dX8_check_51 : decode cX8_check 51 = .ok (.aload_n 0, 1) := by decide +kernel
theorem dX8_check_52 : decode cX8_check 52 = .ok (.getfield 12, 3) := by decide +kernel
theorem dX8_check_55 : decode cX8_check 55 = .ok (.getfield 291, 3) := by decide +kernel
theorem dX8_check_58 : decode cX8_check 58 = .ok (.iload_n 2, 1) := by decide +kernel
theorem dX8_check_59 : decode cX8_check 59 = .ok (.iaload, 1) := by decide +kernel
theorem dX8_check_60 : decode cX8_check 60 = .ok (.if_icmp .eq 7, 3) := by decide +kernel
theorem dX8_check_63 : decode cX8_check 63 = .ok (.iconst 1, 1) := by decide +kernel
theorem dX8_check_64 : decode cX8_check 64 = .ok (.iload_n 2, 1) := by decide +kernel
theorem dX8_check_65 : decode cX8_check 65 = .ok (.iadd, 1) := by decide +kernel
theorem dX8_check_66 : decode cX8_check 66 = .ok (.ireturn, 1) := by decide +kernel
theorem dX8_check_67 : decode cX8_check 67 = .ok (.iinc 2 1, 3) := by decide +kernel
theorem dX8_check_70 : decode cX8_check 70 = .ok (.goto (-41), 3) := by decide +kernel
theorem dX8_check_73 : decode cX8_check 73 = .ok (.iconst 0, 1) := by decide +kernel
theorem dX8_check_74 : decode cX8_check 74 = .ok (.ireturn, 1) := by decide +kernel
set_option maxRecDepth 20000 in
theorem ggX8_count_X8_error : GoodIn wsX8_count wsX8_error := goodIn_r _ [15, 16, 17, 18, 19, 14, 20, 21, 22, 23, 24, 25, 26, 27, 28, 29] (by decide +kernel) (by decide +kernel)
set_option maxRecDepth 20000 in
theorem gX8_count_X8_error : GoodIn wsX8_count (wsV RX8 68 RX8 yX8_error wsX8_error) := goodIn_app (goodIn_of _ (by decide +kernel)) ggX8_count_X8_error
theorem dX8_count_0 : decode cX8_count 0 = .ok (.iload_n 1, 1) := by decide +kernel
theorem dX8_count_1 : decode cX8_count 1 = .ok (.tableswitch 99 0 6 #[43, 51, 59, 67, 75, 83, 91], 43) := by decide +kernel
theorem dX8_count_44 : decode cX8_count 44 = .ok (.aload_n 0, 1) := by decide +kernel
theorem dX8_count_45 : decode cX8_count 45 = .ok (.getfield 12, 3) := by decide +kernel
theorem dX8_count_48 : decode cX8_count 48 = .ok (.getfield 72, 3) := by decide +kernel
theorem dX8_count_51 : decode cX8_count 51 = .ok (.ireturn, 1) := by decide +kernel
theorem dX8_count_52 : decode cX8_count 52 = .ok (.aload_n 0, 1) := by decide +kernel
theorem dX8_count_53 : decode cX8_count 53 = .ok (.getfield 12, 3) := by decide +kernel
theorem dX8_count_56 : decode cX8_count 56 = .ok (.getfield 104, 3) := by decide +kernel
theorem dX8_count_59 : decode cX8_count 59 = .ok (.ireturn, 1) := by decide +kernel
theorem dX8_count_60 : decode cX8_count 60 = .ok (.aload_n 0, 1) := by decide +kernel
theorem dX8_count_61 : decode cX8_count 61 = .ok (.getfield 12, 3) := by decide +kernel
theorem dX8_count_64 : decode cX8_count 64 = .ok (.getfield 191, 3) := by decide +kernel
theorem dX8_count_67 : decode cX8_count 67 = .ok (.ireturn, 1) := by decide +kernel
theorem dX8_count_68 : decode cX8_count 68 = .ok (.aload_n 0, 1) := by decide +kernel
theorem dX8_count_69 : decode cX8_count 69 = .ok (.getfield 12, 3) := by decide +kernel
theorem dX8_count_72 : decode cX8_count 72 = .ok (.getfield 154, 3) := by decide +kernel
theorem dX8_count_75 : decode cX8_count 75 = .ok (.ireturn, 1) := by decide +kernel
theorem dX8_count_76 : decode cX8_count 76 = .ok (.aload_n 0, 1) := by decide +kernel
theorem dX8_count_77 : decode cX8_count 77 = .ok (.getfield 12, 3) := by decide +kernel
theorem dX8_count_80 : decode cX8_count 80 = .ok (.getfield 288, 3) := by decide +kernel
theorem dX8_count_83 : decode cX8_count 83 = .ok (.ireturn, 1) := by decide +kernel
theorem dX8_count_84 : decode cX8_count 84 = .ok (.aload_n 0, 1) := by decide +kernel
theorem dX8_count_85 : decode cX8_count 85 = .ok (.getfield 38, 3) := by decide +kernel
theorem dX8_count_88 : decode cX8_count 88 = .ok (.getfield 260, 3) := by decide +kernel
theorem dX8_count_91 : decode cX8_count 91 = .ok (.ireturn, 1) := by decide +kernel
theorem dX8_count_92 : decode cX8_count 92 = .ok (.aload_n 0, 1) := by decide +kernel
theorem dX8_count_93 : decode cX8_count 93 = .ok (.getfield 12, 3) := by decide +kernel
theorem dX8_count_96 : decode cX8_count 96 = .ok (.getfield 201, 3) := by decide +kernel
theorem dX8_count_99 : decode cX8_count 99 = .ok (.ireturn, 1) := by decide +kernel
theorem dX8_count_100 : decode cX8_count 100 = .ok (.aload_n 0, 1) := by decide +kernel
theorem dX8_count_101 : decode cX8_count 101 = .ok (.ldc 67, 2) := by decide +kernel
theorem dX8_count_103 : decode cX8_count 103 = .ok (.invokevirtual 68, 3) := by decide +kernel
theorem dX8_count_106 : decode cX8_count 106 = .ok (.ireturn, 1) := by decide +kernel
set_option maxRecDepth 20000 in
theorem ggX8_told_X8_within : GoodIn wsX8_told wsX8_within := goodIn_r _ [6] (by decide +kernel) (by decide +kernel)
set_option maxRecDepth 20000 in
theorem gX8_told_X8_within : GoodIn wsX8_told (va_wsS RX8 63 yX8_within wsX8_within) := goodIn_app (goodIn_of _ (by decide +kernel)) ggX8_told_X8_within
set_option maxRecDepth 20000 in
theorem ggX8_told_X8_error : GoodIn wsX8_told wsX8_error := goodIn_r _ [10, 11, 1, 3, 4, 5, 6, 12, 13, 14, 15, 16, 17, 18, 19, 20] (by decide +kernel) (by decide +kernel)
set_option maxRecDepth 20000 in
theorem gX8_told_X8_error : GoodIn wsX8_told (wsV RX8 68 RX8 yX8_error wsX8_error) := goodIn_app (goodIn_of _ (by decide +kernel)) ggX8_told_X8_error
theorem dX8_told_0 : decode cX8_told 0 = .ok (.iload_n 1, 1) := by decide +kernel
theorem dX8_told_1 : decode cX8_told 1 = .ok (.iconst 1, 1) := by decide +kernel
theorem dX8_told_2 : decode cX8_told 2 = .ok (.bipush 6, 2) := by decide +kernel
theorem dX8_told_4 : decode cX8_told 4 = .ok (.invokestatic 63, 3) := by decide +kernel
theorem dX8_told_7 : decode cX8_told 7 = .ok (.ifCond .eq 12, 3) := by decide +kernel
theorem dX8_told_10 : decode cX8_told 10 = .ok (.aload_n 0, 1) := by decide +kernel
theorem dX8_told_11 : decode cX8_told 11 = .ok (.getfield 55, 3) := by decide +kernel
theorem dX8_told_14 : decode cX8_told 14 = .ok (.iload_n 1, 1) := by decide +kernel
theorem dX8_told_15 : decode cX8_told 15 = .ok (.iaload, 1) := by decide +kernel
theorem dX8_told_16 : decode cX8_told 16 = .ok (.goto 9, 3) := by decide +kernel
theorem dX8_told_19 : decode cX8_told 19 = .ok (.aload_n 0, 1) := by decide +kernel
theorem dX8_told_20 : decode cX8_told 20 = .ok (.ldc 67, 2) := by decide +kernel
theorem dX8_told_22 : decode cX8_told 22 = .ok (.invokevirtual 68, 3) := by decide +kernel
theorem dX8_told_25 : decode cX8_told 25 = .ok (.ireturn, 1) := by decide +kernel
theorem dX8_within_0 : decode cX8_within 0 = .ok (.iload_n 0, 1) := by decide +kernel
theorem dX8_within_1 : decode cX8_within 1 = .ok (.iload_n 1, 1) := by decide +kernel
theorem dX8_within_2 : decode cX8_within 2 = .ok (.if_icmp .lt 12, 3) := by decide +kernel
theorem dX8_within_5 : decode cX8_within 5 = .ok (.iload_n 0, 1) := by decide +kernel
theorem dX8_within_6 : decode cX8_within 6 = .ok (.iload_n 2, 1) := by decide +kernel
theorem dX8_within_7 : decode cX8_within 7 = .ok (.if_icmp .gt 7, 3) := by decide +kernel
theorem dX8_within_10 : decode cX8_within 10 = .ok (.iconst 1, 1) := by decide +kernel
theorem dX8_within_11 : decode cX8_within 11 = .ok (.goto 4, 3) := by decide +kernel
theorem dX8_within_14 : decode cX8_within 14 = .ok (.iconst 0, 1) := by decide +kernel
theorem dX8_within_15 : decode cX8_within 15 = .ok (.ireturn, 1) := by decide +kernel
set_option maxRecDepth 20000 in
theorem ggX8_isWord_X8_within : GoodIn wsX8_isWord wsX8_within := goodIn_r _ [4] (by decide +kernel) (by decide +kernel)
set_option maxRecDepth 20000 in
theorem gX8_isWord_X8_within : GoodIn wsX8_isWord (va_wsS RX8 63 yX8_within wsX8_within) := goodIn_app (goodIn_of _ (by decide +kernel)) ggX8_isWord_X8_within
theorem dX8_isWord_0 : decode cX8_isWord 0 = .ok (.iload_n 0, 1) := by decide +kernel
theorem dX8_isWord_1 : decode cX8_isWord 1 = .ok (.iconst 0, 1) := by decide +kernel
theorem dX8_isWord_2 : decode cX8_isWord 2 = .ok (.bipush 99, 2) := by decide +kernel
theorem dX8_isWord_4 : decode cX8_isWord 4 = .ok (.invokestatic 63, 3) := by decide +kernel
theorem dX8_isWord_7 : decode cX8_isWord 7 = .ok (.ireturn, 1) := by decide +kernel
set_option maxRecDepth 20000 in
theorem ggX8_error_X8_within : GoodIn wsX8_error wsX8_within := goodIn_r _ [6] (by decide +kernel) (by decide +kernel)
set_option maxRecDepth 20000 in
theorem gX8_error_X8_within : GoodIn wsX8_error (va_wsS RX8 63 yX8_within wsX8_within) := goodIn_app (goodIn_of _ (by decide +kernel)) ggX8_error_X8_within
theorem dX8_error_0 : decode cX8_error 0 = .ok (.ldc_w 294, 3) := by decide +kernel
theorem dX8_error_3 : decode cX8_error 3 = .ok (.iload_n 1, 1) := by decide +kernel
theorem dX8_error_4 : decode cX8_error 4 = .ok (.isub, 1) := by decide +kernel
theorem dX8_error_5 : decode cX8_error 5 = .ok (.istore_n 2, 1) := by decide +kernel
theorem dX8_error_6 : decode cX8_error 6 = .ok (.iload_n 2, 1) := by decide +kernel
theorem dX8_error_7 : decode cX8_error 7 = .ok (.iconst 1, 1) := by decide +kernel
theorem dX8_error_8 : decode cX8_error 8 = .ok (.bipush 6, 2) := by decide +kernel
theorem dX8_error_10 : decode cX8_error 10 = .ok (.invokestatic 63, 3) := by decide +kernel
theorem dX8_error_13 : decode cX8_error 13 = .ok (.ifCond .eq 13, 3) := by decide +kernel
theorem dX8_error_16 : decode cX8_error 16 = .ok (.aload_n 0, 1) := by decide +kernel
theorem dX8_error_17 : decode cX8_error 17 = .ok (.getfield 55, 3) := by decide +kernel
theorem dX8_error_20 : decode cX8_error 20 = .ok (.iload_n 2, 1) := by decide +kernel
theorem dX8_error_21 : decode cX8_error 21 = .ok (.dup2, 1) := by decide +kernel
theorem dX8_error_22 : decode cX8_error 22 = .ok (.iaload, 1) := by decide +kernel
theorem dX8_error_23 : decode cX8_error 23 = .ok (.iconst 1, 1) := by decide +kernel
theorem dX8_error_24 : decode cX8_error 24 = .ok (.iadd, 1) := by decide +kernel
theorem dX8_error_25 : decode cX8_error 25 = .ok (.iastore, 1) := by decide +kernel
theorem dX8_error_26 : decode cX8_error 26 = .ok (.iload_n 1, 1) := by decide +kernel
theorem dX8_error_27 : decode cX8_error 27 = .ok (.ireturn, 1) := by decide +kernel
theorem dX8_sheetOf_0 : decode cX8_sheetOf 0 = .ok (.iload_n 1, 1) := by decide +kernel
theorem dX8_sheetOf_1 : decode cX8_sheetOf 1 = .ok (.ifCond .lt 21, 3) := by decide +kernel
theorem dX8_sheetOf_4 : decode cX8_sheetOf 4 = .ok (.iload_n 1, 1) := by decide +kernel
theorem dX8_sheetOf_5 : decode cX8_sheetOf 5 = .ok (.aload_n 0, 1) := by decide +kernel
theorem dX8_sheetOf_6 : decode cX8_sheetOf 6 = .ok (.getfield 51, 3) := by decide +kernel
theorem dX8_sheetOf_9 : decode cX8_sheetOf 9 = .ok (.arraylength, 1) := by decide +kernel
theorem dX8_sheetOf_10 : decode cX8_sheetOf 10 = .ok (.if_icmp .ge 12, 3) := by decide +kernel
theorem dX8_sheetOf_13 : decode cX8_sheetOf 13 = .ok (.aload_n 0, 1) := by decide +kernel
theorem dX8_sheetOf_14 : decode cX8_sheetOf 14 = .ok (.getfield 51, 3) := by decide +kernel
theorem dX8_sheetOf_17 : decode cX8_sheetOf 17 = .ok (.iload_n 1, 1) := by decide +kernel
theorem dX8_sheetOf_18 : decode cX8_sheetOf 18 = .ok (.aaload, 1) := by decide +kernel
theorem dX8_sheetOf_19 : decode cX8_sheetOf 19 = .ok (.goto 4, 3) := by decide +kernel
theorem dX8_sheetOf_22 : decode cX8_sheetOf 22 = .ok (.aconst_null, 1) := by decide +kernel
theorem dX8_sheetOf_23 : decode cX8_sheetOf 23 = .ok (.areturn, 1) := by decide +kernel
theorem dX8_kindAbove_0 : decode cX8_kindAbove 0 = .ok (.iload_n 0, 1) := by decide +kernel
theorem dX8_kindAbove_1 : decode cX8_kindAbove 1 = .ok (.ifCond .lt 19, 3) := by decide +kernel
theorem dX8_kindAbove_4 : decode cX8_kindAbove 4 = .ok (.iload_n 0, 1) := by decide +kernel
theorem dX8_kindAbove_5 : decode cX8_kindAbove 5 = .ok (.getstatic 295, 3) := by decide +kernel
theorem dX8_kindAbove_8 : decode cX8_kindAbove 8 = .ok (.arraylength, 1) := by decide +kernel
theorem dX8_kindAbove_9 : decode cX8_kindAbove 9 = .ok (.if_icmp .ge 11, 3) := by decide +kernel
theorem dX8_kindAbove_12 : decode cX8_kindAbove 12 = .ok (.getstatic 295, 3) := by decide +kernel
theorem dX8_kindAbove_15 : decode cX8_kindAbove 15 = .ok (.iload_n 0, 1) := by decide +kernel
theorem dX8_kindAbove_16 : decode cX8_kindAbove 16 = .ok (.iaload, 1) := by decide +kernel
theorem dX8_kindAbove_17 : decode cX8_kindAbove 17 = .ok (.goto 4, 3) := by decide +kernel
theorem dX8_kindAbove_20 : decode cX8_kindAbove 20 = .ok (.iconst 0, 1) := by decide +kernel
theorem dX8_kindAbove_21 : decode cX8_kindAbove 21 = .ok (.ireturn, 1) := by decide +kernel
set_option maxRecDepth 20000 in
theorem ggX8_isUnder_X8_kindAbove : GoodIn wsX8_isUnder wsX8_kindAbove := goodIn_r _ [4, 5] (by decide +kernel) (by decide +kernel)
set_option maxRecDepth 20000 in
theorem gX8_isUnder_X8_kindAbove : GoodIn wsX8_isUnder (va_wsS RX8 298 yX8_kindAbove wsX8_kindAbove) := goodIn_app (goodIn_of _ (by decide +kernel)) ggX8_isUnder_X8_kindAbove
theorem dX8_isUnder_0 : decode cX8_isUnder 0 = .ok (.iload_n 0, 1) := by decide +kernel
theorem dX8_isUnder_1 : decode cX8_isUnder 1 = .ok (.istore_n 2, 1) := by decide +kernel
theorem dX8_isUnder_2 : decode cX8_isUnder 2 = .ok (.iconst 0, 1) := by decide +kernel
theorem dX8_isUnder_3 : decode cX8_isUnder 3 = .ok (.istore_n 3, 1) := by decide +kernel
theorem dX8_isUnder_4 : decode cX8_isUnder 4 = .ok (.iload_n 3, 1) := by decide +kernel
theorem dX8_isUnder_5 : decode cX8_isUnder 5 = .ok (.bipush 7, 2) := by decide +kernel
theorem dX8_isUnder_7 : decode cX8_isUnder 7 = .ok (.if_icmp .ge 19, 3) := by decide +kernel
theorem dX8_isUnder_10 : decode cX8_isUnder 10 = .ok (.iload_n 2, 1) := by decide +kernel
theorem dX8_isUnder_11 : decode cX8_isUnder 11 = .ok (.iload_n 1, 1) := by decide +kernel
theorem dX8_isUnder_12 : decode cX8_isUnder 12 = .ok (.if_icmp .eq 14, 3) := by decide +kernel
theorem dX8_isUnder_15 : decode cX8_isUnder 15 = .ok (.iload_n 2, 1) := by decide +kernel
theorem dX8_isUnder_16 : decode cX8_isUnder 16 = .ok (.invokestatic 298, 3) := by decide +kernel
theorem dX8_isUnder_19 : decode cX8_isUnder 19 = .ok (.istore_n 2, 1) := by decide +kernel
theorem dX8_isUnder_20 : decode cX8_isUnder 20 = .ok (.iinc 3 1, 3) := by decide +kernel
theorem dX8_isUnder_23 : decode cX8_isUnder 23 = .ok (.goto (-19), 3) := by decide +kernel
theorem dX8_isUnder_26 : decode cX8_isUnder 26 = .ok (.iload_n 2, 1) := by decide +kernel
theorem dX8_isUnder_27 : decode cX8_isUnder 27 = .ok (.iload_n 1, 1) := by decide +kernel
theorem dX8_isUnder_28 : decode cX8_isUnder 28 = .ok (.if_icmp .ne 7, 3) := by decide +kernel
theorem dX8_isUnder_31 : decode cX8_isUnder 31 = .ok (.iconst 1, 1) := by decide +kernel
theorem dX8_isUnder_32 : decode cX8_isUnder 32 = .ok (.goto 4, 3) := by decide +kernel
theorem dX8_isUnder_35 : decode cX8_isUnder 35 = .ok (.iconst 0, 1) := by decide +kernel
theorem dX8_isUnder_36 : decode cX8_isUnder 36 = .ok (.ireturn, 1) := by decide +kernel
set_option maxRecDepth 20000 in
theorem ggX8_isContentByAny_X5_get : GoodIn wsX8_isContentByAny wsX5_get := goodIn_r _ [7, 8, 9, 80, 81, 82] (by decide +kernel) (by decide +kernel)
set_option maxRecDepth 20000 in
theorem gX8_isContentByAny_X5_get : GoodIn wsX8_isContentByAny (wsV RX8 227 RX5 yX5_get wsX5_get) := goodIn_app (goodIn_of _ (by decide +kernel)) ggX8_isContentByAny_X5_get
set_option maxRecDepth 20000 in
theorem ggX8_isContentByAny_X8_isWord : GoodIn wsX8_isContentByAny wsX8_isWord := goodIn_r _ [13, 14, 15, 12, 16] (by decide +kernel) (by decide +kernel)
set_option maxRecDepth 20000 in
theorem gX8_isContentByAny_X8_isWord : GoodIn wsX8_isContentByAny (va_wsS RX8 132 yX8_isWord wsX8_isWord) := goodIn_app (goodIn_of _ (by decide +kernel)) ggX8_isContentByAny_X8_isWord
set_option maxRecDepth 20000 in
theorem ggX8_isContentByAny_X0_isContent : GoodIn wsX8_isContentByAny wsX0_isContent := goodIn_r _ [21, 22, 23, 24, 25, 26, 27, 28, 29, 30, 31, 32, 33, 34, 35, 36, 37, 38, 39, 40, 41, 42, 43, 44, 45, 46, 47, 48, 20, 49, 50, 51, 52, 53, 54, 55, 56, 57, 58, 59, 60, 61, 62, 63, 64, 65, 66, 67, 68, 69, 70, 71, 72, 73, 74, 75, 76, 77, 78, 79, 92, 93, 94, 95, 96, 97, 98, 99, 100, 101, 102, 103, 104, 105, 106, 107, 108, 109, 110] (by decide +kernel) (by decide +kernel)
set_option maxRecDepth 20000 in
theorem gX8_isContentByAny_X0_isContent : GoodIn wsX8_isContentByAny (wsV RX8 136 RX0 yX0_isContent wsX0_isContent) := goodIn_app (goodIn_of _ (by decide +kernel)) ggX8_isContentByAny_X0_isContent
theorem dX8_isContentByAny_0 : decode cX8_isContentByAny 0 = .ok (.iconst 0, 1) := by decide +kernel
theorem dX8_isContentByAny_1 : decode cX8_isContentByAny 1 = .ok (.istore_n 3, 1) := by decide +kernel
theorem dX8_isContentByAny_2 : decode cX8_isContentByAny 2 = .ok (.iload_n 3, 1) := by decide +kernel
theorem dX8_isContentByAny_3 : decode cX8_isContentByAny 3 = .ok (.aload_n 2, 1) := by decide +kernel
theorem dX8_isContentByAny_4 : decode cX8_isContentByAny 4 = .ok (.getfield 224, 3) := by decide +kernel
theorem dX8_isContentByAny_7 : decode cX8_isContentByAny 7 = .ok (.if_icmp .ge 38, 3) := by decide +kernel
theorem dX8_isContentByAny_10 : decode cX8_isContentByAny 10 = .ok (.aload_n 2, 1) := by decide +kernel
theorem dX8_isContentByAny_11 : decode cX8_isContentByAny 11 = .ok (.iload_n 3, 1) := by decide +kernel
theorem dX8_isContentByAny_12 : decode cX8_isContentByAny 12 = .ok (.invokevirtual 227, 3) := by decide +kernel
theorem dX8_isContentByAny_15 : decode cX8_isContentByAny 15 = .ok (.invokestatic 132, 3) := by decide +kernel
theorem dX8_isContentByAny_18 : decode cX8_isContentByAny 18 = .ok (.ifCond .eq 21, 3) := by decide +kernel
theorem dX8_isContentByAny_21 : decode cX8_isContentByAny 21 = .ok (.aload_n 0, 1) := by decide +kernel
theorem dX8_isContentByAny_22 : decode cX8_isContentByAny 22 = .ok (.getfield 12, 3) := by decide +kernel
theorem dX8_isContentByAny_25 : decode cX8_isContentByAny 25 = .ok (.aload_n 1, 1) := by decide +kernel
theorem dX8_isContentByAny_26 : decode cX8_isContentByAny 26 = .ok (.aload_n 2, 1) := by decide +kernel
theorem dX8_isContentByAny_27 : decode cX8_isContentByAny 27 = .ok (.iload_n 3, 1) := by decide +kernel
theorem dX8_isContentByAny_28 : decode cX8_isContentByAny 28 = .ok (.invokevirtual 227, 3) := by decide +kernel
theorem dX8_isContentByAny_31 : decode cX8_isContentByAny 31 = .ok (.invokevirtual 136, 3) := by decide +kernel
theorem dX8_isContentByAny_34 : decode cX8_isContentByAny 34 = .ok (.ifCond .eq 5, 3) := by decide +kernel
theorem dX8_isContentByAny_37 : decode cX8_isContentByAny 37 = .ok (.iconst 1, 1) := by decide +kernel
theorem dX8_isContentByAny_38 : decode cX8_isContentByAny 38 = .ok (.ireturn, 1) := by decide +kernel
theorem dX8_isContentByAny_39 : decode cX8_isContentByAny 39 = .ok (.iinc 3 1, 3) := by decide +kernel
theorem dX8_isContentByAny_42 : decode cX8_isContentByAny 42 = .ok (.goto (-40), 3) := by decide +kernel
theorem dX8_isContentByAny_45 : decode cX8_isContentByAny 45 = .ok (.iconst 0, 1) := by decide +kernel
theorem dX8_isContentByAny_46 : decode cX8_isContentByAny 46 = .ok (.ireturn, 1) := by decide +kernel
set_option maxRecDepth 20000 in
theorem ggX8_isToldBy_X0_judgeOn : GoodIn wsX8_isToldBy wsX0_judgeOn := goodIn_r _ [7, 8, 9, 91, 92, 93, 94, 95, 96, 97, 98, 99, 100, 101, 102] (by decide +kernel) (by decide +kernel)
set_option maxRecDepth 20000 in
theorem gX8_isToldBy_X0_judgeOn : GoodIn wsX8_isToldBy (wsV RX8 80 RX0 yX0_judgeOn wsX0_judgeOn) := goodIn_app (goodIn_of _ (by decide +kernel)) ggX8_isToldBy_X0_judgeOn
set_option maxRecDepth 20000 in
theorem ggX8_isToldBy_X5_get : GoodIn wsX8_isToldBy wsX5_get := goodIn_r _ [14, 15, 16, 79, 80, 81] (by decide +kernel) (by decide +kernel)
set_option maxRecDepth 20000 in
theorem gX8_isToldBy_X5_get : GoodIn wsX8_isToldBy (wsV RX8 227 RX5 yX5_get wsX5_get) := goodIn_app (goodIn_of _ (by decide +kernel)) ggX8_isToldBy_X5_get
set_option maxRecDepth 20000 in
theorem ggX8_isToldBy_X0_isContent : GoodIn wsX8_isToldBy wsX0_isContent := goodIn_r _ [20, 21, 22, 23, 24, 25, 26, 27, 28, 29, 30, 31, 32, 33, 34, 35, 36, 37, 38, 39, 40, 41, 42, 43, 44, 45, 46, 47, 6, 48, 49, 50, 51, 52, 53, 54, 55, 56, 57, 58, 59, 60, 61, 62, 63, 64, 65, 66, 67, 68, 69, 70, 71, 72, 73, 74, 75, 76, 77, 78, 91, 92, 93, 94, 95, 96, 97, 98, 99, 100, 101, 102, 103, 104, 105, 106, 107, 108, 109] (by decide +kernel) (by decide +kernel)
set_option maxRecDepth 20000 in
theorem gX8_isToldBy_X0_isContent : GoodIn wsX8_isToldBy (wsV RX8 136 RX0 yX0_isContent wsX0_isContent) := goodIn_app (goodIn_of _ (by decide +kernel)) ggX8_isToldBy_X0_isContent
theorem dX8_isToldBy_0 : decode cX8_isToldBy 0 = .ok (.iconst 0, 1) := by decide +kernel
theorem dX8_isToldBy_1 : decode cX8_isToldBy 1 = .ok (.istore_n 3, 1) := by decide +kernel
theorem dX8_isToldBy_2 : decode cX8_isToldBy 2 = .ok (.iload_n 3, 1) := by decide +kernel
theorem dX8_isToldBy_3 : decode cX8_isToldBy 3 = .ok (.aload_n 1, 1) := by decide +kernel
theorem dX8_isToldBy_4 : decode cX8_isToldBy 4 = .ok (.getfield 224, 3) := by decide +kernel
theorem dX8_isToldBy_7 : decode cX8_isToldBy 7 = .ok (.if_icmp .ge 52, 3) := by decide +kernel
theorem dX8_isToldBy_10 : decode cX8_isToldBy 10 = .ok (.aload_n 0, 1) := by decide +kernel
theorem dX8_isToldBy_11 : decode cX8_isToldBy 11 = .ok (.getfield 12, 3) := by decide +kernel
theorem dX8_isToldBy_14 : decode cX8_isToldBy 14 = .ok (.iload_n 3, 1) := by decide +kernel
theorem dX8_isToldBy_15 : decode cX8_isToldBy 15 = .ok (.invokevirtual 80, 3) := by decide +kernel
theorem dX8_isToldBy_18 : decode cX8_isToldBy 18 = .ok (.astore 4, 2) := by decide +kernel
theorem dX8_isToldBy_20 : decode cX8_isToldBy 20 = .ok (.aload 4, 2) := by decide +kernel
theorem dX8_isToldBy_22 : decode cX8_isToldBy 22 = .ok (.ifnull 29, 3) := by decide +kernel
theorem dX8_isToldBy_25 : decode cX8_isToldBy 25 = .ok (.aload_n 1, 1) := by decide +kernel
theorem dX8_isToldBy_26 : decode cX8_isToldBy 26 = .ok (.iload_n 3, 1) := by decide +kernel
theorem dX8_isToldBy_27 : decode cX8_isToldBy 27 = .ok (.invokevirtual 227, 3) := by decide +kernel
theorem dX8_isToldBy_30 : decode cX8_isToldBy 30 = .ok (.aload_n 0, 1) := by decide +kernel
theorem dX8_isToldBy_31 : decode cX8_isToldBy 31 = .ok (.getfield 12, 3) := by decide +kernel
theorem dX8_isToldBy_34 : decode cX8_isToldBy 34 = .ok (.aload 4, 2) := by decide +kernel
theorem dX8_isToldBy_36 : decode cX8_isToldBy 36 = .ok (.iload_n 2, 1) := by decide +kernel
theorem dX8_isToldBy_37 : decode cX8_isToldBy 37 = .ok (.invokevirtual 136, 3) := by decide +kernel
theorem dX8_isToldBy_40 : decode cX8_isToldBy 40 = .ok (.ifCond .eq 7, 3) := by decide +kernel
theorem dX8_isToldBy_43 : decode cX8_isToldBy 43 = .ok (.iconst 1, 1) := by decide +kernel
theorem dX8_isToldBy_44 : decode cX8_isToldBy 44 = .ok (.goto 4, 3) := by decide +kernel
theorem dX8_isToldBy_47 : decode cX8_isToldBy 47 = .ok (.iconst 0, 1) := by decide +kernel
theorem dX8_isToldBy_48 : decode cX8_isToldBy 48 = .ok (.if_icmp .eq 5, 3) := by decide +kernel
theorem dX8_isToldBy_51 : decode cX8_isToldBy 51 = .ok (.iconst 0, 1) := by decide +kernel
theorem dX8_isToldBy_52 : decode cX8_isToldBy 52 = .ok (.ireturn, 1) := by decide +kernel
theorem dX8_isToldBy_53 : decode cX8_isToldBy 53 = .ok (.iinc 3 1, 3) := by decide +kernel
theorem dX8_isToldBy_56 : decode cX8_isToldBy 56 = .ok (.goto (-54), 3) := by decide +kernel
theorem dX8_isToldBy_59 : decode cX8_isToldBy 59 = .ok (.iconst 1, 1) := by decide +kernel
theorem dX8_isToldBy_60 : decode cX8_isToldBy 60 = .ok (.ireturn, 1) := by decide +kernel
theorem dX8_sharedDivisor_0 : decode cX8_sharedDivisor 0 = .ok (.lload_n 0, 1) := by decide +kernel
theorem dX8_sharedDivisor_1 : decode cX8_sharedDivisor 1 = .ok (.lstore 4, 2) := by decide +kernel
theorem dX8_sharedDivisor_3 : decode cX8_sharedDivisor 3 = .ok (.lload_n 2, 1) := by decide +kernel
theorem dX8_sharedDivisor_4 : decode cX8_sharedDivisor 4 = .ok (.lstore 6, 2) := by decide +kernel
theorem dX8_sharedDivisor_6 : decode cX8_sharedDivisor 6 = .ok (.iconst 0, 1) := by decide +kernel
theorem dX8_sharedDivisor_7 : decode cX8_sharedDivisor 7 = .ok (.istore 8, 2) := by decide +kernel
theorem dX8_sharedDivisor_9 : decode cX8_sharedDivisor 9 = .ok (.iload 8, 2) := by decide +kernel
theorem dX8_sharedDivisor_11 : decode cX8_sharedDivisor 11 = .ok (.sipush 128, 3) := by decide +kernel
theorem dX8_sharedDivisor_14 : decode cX8_sharedDivisor 14 = .ok (.if_icmp .ge 31, 3) := by decide +kernel
theorem dX8_sharedDivisor_17 : decode cX8_sharedDivisor 17 = .ok (.lload 6, 2) := by decide +kernel
theorem dX8_sharedDivisor_19 : decode cX8_sharedDivisor 19 = .ok (.lconst 0, 1) := by decide +kernel
theorem dX8_sharedDivisor_20 : decode cX8_sharedDivisor 20 = .ok (.lcmp, 1) := by decide +kernel
theorem dX8_sharedDivisor_21 : decode cX8_sharedDivisor 21 = .ok (.ifCond .eq 24, 3) := by decide +kernel
theorem dX8_sharedDivisor_24 : decode cX8_sharedDivisor 24 = .ok (.lload 4, 2) := by decide +kernel
theorem dX8_sharedDivisor_26 : decode cX8_sharedDivisor 26 = .ok (.lload 6, 2) := by decide +kernel
theorem dX8_sharedDivisor_28 : decode cX8_sharedDivisor 28 = .ok (.lrem, 1) := by decide +kernel
theorem dX8_sharedDivisor_29 : decode cX8_sharedDivisor 29 = .ok (.lstore 9, 2) := by decide +kernel
theorem dX8_sharedDivisor_31 : decode cX8_sharedDivisor 31 = .ok (.lload 6, 2) := by decide +kernel
theorem dX8_sharedDivisor_33 : decode cX8_sharedDivisor 33 = .ok (.lstore 4, 2) := by decide +kernel
theorem dX8_sharedDivisor_35 : decode cX8_sharedDivisor 35 = .ok (.lload 9, 2) := by decide +kernel
theorem dX8_sharedDivisor_37 : decode cX8_sharedDivisor 37 = .ok (.lstore 6, 2) := by decide +kernel
theorem dX8_sharedDivisor_39 : decode cX8_sharedDivisor 39 = .ok (.iinc 8 1, 3) := by decide +kernel
theorem dX8_sharedDivisor_42 : decode cX8_sharedDivisor 42 = .ok (.goto (-33), 3) := by decide +kernel
theorem dX8_sharedDivisor_45 : decode cX8_sharedDivisor 45 = .ok (.lload 4, 2) := by decide +kernel
theorem dX8_sharedDivisor_47 : decode cX8_sharedDivisor 47 = .ok (.lreturn, 1) := by decide +kernel
theorem dX9_init_0 : decode cX9_init 0 = .ok (.aload_n 0, 1) := by decide +kernel
theorem dX9_init_1 : decode cX9_init 1 = .ok (.invokespecial 3, 3) := by decide +kernel
theorem dX9_init_4 : decode cX9_init 4 = .ok (.aload_n 0, 1) := by decide +kernel
theorem dX9_init_5 : decode cX9_init 5 = .ok (.sipush 412, 3) := by decide +kernel
theorem dX9_init_8 : decode cX9_init 8 = .ok (.newarray .int, 2) := by decide +kernel
theorem dX9_init_10 : decode cX9_init 10 = .ok (.putfield 9, 3) := by decide +kernel
theorem dX9_init_13 : decode cX9_init 13 = .ok (.aload_n 0, 1) := by decide +kernel
theorem dX9_init_14 : decode cX9_init 14 = .ok (.sipush 412, 3) := by decide +kernel
theorem dX9_init_17 : decode cX9_init 17 = .ok (.newarray .int, 2) := by decide +kernel
theorem dX9_init_19 : decode cX9_init 19 = .ok (.putfield 13, 3) := by decide +kernel
theorem dX9_init_22 : decode cX9_init 22 = .ok (.aload_n 0, 1) := by decide +kernel
theorem dX9_init_23 : decode cX9_init 23 = .ok (.sipush 412, 3) := by decide +kernel
theorem dX9_init_26 : decode cX9_init 26 = .ok (.newarray .int, 2) := by decide +kernel
theorem dX9_init_28 : decode cX9_init 28 = .ok (.putfield 16, 3) := by decide +kernel
theorem dX9_init_31 : decode cX9_init 31 = .ok (.aload_n 0, 1) := by decide +kernel
theorem dX9_init_32 : decode cX9_init 32 = .ok (.bipush 7, 2) := by decide +kernel
theorem dX9_init_34 : decode cX9_init 34 = .ok (.newarray .int, 2) := by decide +kernel
theorem dX9_init_36 : decode cX9_init 36 = .ok (.putfield 19, 3) := by decide +kernel
theorem dX9_init_39 : decode cX9_init 39 = .ok (.aload_n 0, 1) := by decide +kernel
theorem dX9_init_40 : decode cX9_init 40 = .ok (.iconst 4, 1) := by decide +kernel
theorem dX9_init_41 : decode cX9_init 41 = .ok (.newarray .int, 2) := by decide +kernel
theorem dX9_init_43 : decode cX9_init 43 = .ok (.putfield 22, 3) := by decide +kernel
theorem dX9_init_46 : decode cX9_init 46 = .ok (.aload_n 0, 1) := by decide +kernel
theorem dX9_init_47 : decode cX9_init 47 = .ok (.iconst 4, 1) := by decide +kernel
theorem dX9_init_48 : decode cX9_init 48 = .ok (.newarray .int, 2) := by decide +kernel
theorem dX9_init_50 : decode cX9_init 50 = .ok (.putfield 25, 3) := by decide +kernel
theorem dX9_init_53 : decode cX9_init 53 = .ok (.aload_n 0, 1) := by decide +kernel
theorem dX9_init_54 : decode cX9_init 54 = .ok (.bipush 96, 2) := by decide +kernel
theorem dX9_init_56 : decode cX9_init 56 = .ok (.newarray .int, 2) := by decide +kernel
theorem dX9_init_58 : decode cX9_init 58 = .ok (.putfield 28, 3) := by decide +kernel
theorem dX9_init_61 : decode cX9_init 61 = .ok (.aload_n 0, 1) := by decide +kernel
theorem dX9_init_62 : decode cX9_init 62 = .ok (.bipush 60, 2) := by decide +kernel
theorem dX9_init_64 : decode cX9_init 64 = .ok (.newarray .int, 2) := by decide +kernel
theorem dX9_init_66 : decode cX9_init 66 = .ok (.putfield 31, 3) := by decide +kernel
theorem dX9_init_69 : decode cX9_init 69 = .ok (.aload_n 0, 1) := by decide +kernel
theorem dX9_init_70 : decode cX9_init 70 = .ok (.bipush 60, 2) := by decide +kernel
theorem dX9_init_72 : decode cX9_init 72 = .ok (.newarray .int, 2) := by decide +kernel
theorem dX9_init_74 : decode cX9_init 74 = .ok (.putfield 34, 3) := by decide +kernel
theorem dX9_init_77 : decode cX9_init 77 = .ok (.aload_n 0, 1) := by decide +kernel
theorem dX9_init_78 : decode cX9_init 78 = .ok (.iconst 3, 1) := by decide +kernel
theorem dX9_init_79 : decode cX9_init 79 = .ok (.newarray .int, 2) := by decide +kernel
theorem dX9_init_81 : decode cX9_init 81 = .ok (.putfield 37, 3) := by decide +kernel
theorem dX9_init_84 : decode cX9_init 84 = .ok (.aload_n 0, 1) := by decide +kernel
theorem dX9_init_85 : decode cX9_init 85 = .ok (.bipush 60, 2) := by decide +kernel
theorem dX9_init_87 : decode cX9_init 87 = .ok (.newarray .int, 2) := by decide +kernel
theorem dX9_init_89 : decode cX9_init 89 = .ok (.putfield 40, 3) := by decide +kernel
theorem dX9_init_92 : decode cX9_init 92 = .ok (.aload_n 0, 1) := by decide +kernel
theorem dX9_init_93 : decode cX9_init 93 = .ok (.bipush 100, 2) := by decide +kernel
theorem dX9_init_95 : decode cX9_init 95 = .ok (.newarray .int, 2) := by decide +kernel
theorem dX9_init_97 : decode cX9_init 97 = .ok (.putfield 43, 3) := by decide +kernel
theorem dX9_init_100 : decode cX9_init 100 = .ok (.aload_n 0, 1) := by decide +kernel
theorem dX9_init_101 : decode cX9_init 101 = .ok (.bipush 30, 2) := by decide +kernel
theorem dX9_init_103 : decode cX9_init 103 = .ok (.newarray .int, 2) := by decide +kernel
theorem dX9_init_105 : decode cX9_init 105 = .ok (.putfield 46, 3) := by decide +kernel
theorem dX9_init_108 : decode cX9_init 108 = .ok (.aload_n 0, 1) := by decide +kernel
theorem dX9_init_109 : decode cX9_init 109 = .ok (.getfield 9, 3) := by decide +kernel
theorem dX9_init_112 : decode cX9_init 112 = .ok (.iconst 1, 1) := by decide +kernel
theorem dX9_init_113 : decode cX9_init 113 = .ok (.iconst 1, 1) := by decide +kernel
theorem dX9_init_114 : decode cX9_init 114 = .ok (.iastore, 1) := by decide +kernel
theorem dX9_init_115 : decode cX9_init 115 = .ok (.return_, 1) := by decide +kernel
theorem dX9_error_0 : decode cX9_error 0 = .ok (.aload_n 0, 1) := by decide +kernel
theorem dX9_error_1 : decode cX9_error 1 = .ok (.getfield 19, 3) := by decide +kernel
theorem dX9_error_4 : decode cX9_error 4 = .ok (.ldc 49, 2) := by decide +kernel
theorem dX9_error_6 : decode cX9_error 6 = .ok (.iload_n 1, 1) := by decide +kernel
theorem dX9_error_7 : decode cX9_error 7 = .ok (.isub, 1) := by decide +kernel
theorem dX9_error_8 : decode cX9_error 8 = .ok (.dup2, 1) := by decide +kernel
theorem dX9_error_9 : decode cX9_error 9 = .ok (.iaload, 1) := by decide +kernel
theorem dX9_error_10 : decode cX9_error 10 = .ok (.iconst 1, 1) := by decide +kernel
theorem dX9_error_11 : decode cX9_error 11 = .ok (.iadd, 1) := by decide +kernel
theorem dX9_error_12 : decode cX9_error 12 = .ok (.iastore, 1) := by decide +kernel
theorem dX9_error_13 : decode cX9_error 13 = .ok (.iload_n 1, 1) := by decide +kernel
theorem dX9_error_14 : decode cX9_error 14 = .ok (.ireturn, 1) := by decide +kernel
theorem dX9_in_0 : decode cX9_in 0 = .ok (.iload_n 0, 1) := by decide +kernel
theorem dX9_in_1 : decode cX9_in 1 = .ok (.iload_n 1, 1) := by decide +kernel
theorem dX9_in_2 : decode cX9_in 2 = .ok (.if_icmp .lt 12, 3) := by decide +kernel
theorem dX9_in_5 : decode cX9_in 5 = .ok (.iload_n 0, 1) := by decide +kernel
theorem dX9_in_6 : decode cX9_in 6 = .ok (.iload_n 2, 1) := by decide +kernel
theorem dX9_in_7 : decode cX9_in 7 = .ok (.if_icmp .gt 7, 3) := by decide +kernel
theorem dX9_in_10 : decode cX9_in 10 = .ok (.iconst 1, 1) := by decide +kernel
theorem dX9_in_11 : decode cX9_in 11 = .ok (.goto 4, 3) := by decide +kernel
theorem dX9_in_14 : decode cX9_in 14 = .ok (.iconst 0, 1) := by decide +kernel
theorem dX9_in_15 : decode cX9_in 15 = .ok (.ireturn, 1) := by decide +kernel
theorem dX9_held_0 : decode cX9_held 0 = .ok (.iload_n 0, 1) := by decide +kernel
theorem dX9_held_1 : decode cX9_held 1 = .ok (.iload_n 1, 1) := by decide +kernel
theorem dX9_held_2 : decode cX9_held 2 = .ok (.if_icmp .ge 7, 3) := by decide +kernel
theorem dX9_held_5 : decode cX9_held 5 = .ok (.iload_n 1, 1) := by decide +kernel
theorem dX9_held_6 : decode cX9_held 6 = .ok (.goto 13, 3) := by decide +kernel
theorem dX9_held_9 : decode cX9_held 9 = .ok (.iload_n 0, 1) := by decide +kernel
theorem dX9_held_10 : decode cX9_held 10 = .ok (.iload_n 2, 1) := by decide +kernel
theorem dX9_held_11 : decode cX9_held 11 = .ok (.if_icmp .le 7, 3) := by decide +kernel
theorem dX9_held_14 : decode cX9_held 14 = .ok (.iload_n 2, 1) := by decide +kernel
theorem dX9_held_15 : decode cX9_held 15 = .ok (.goto 4, 3) := by decide +kernel
theorem dX9_held_18 : decode cX9_held 18 = .ok (.iload_n 0, 1) := by decide +kernel
theorem dX9_held_19 : decode cX9_held 19 = .ok (.ireturn, 1) := by decide +kernel
theorem dX9_copyAll_0 : decode cX9_copyAll 0 = .ok (.iconst 0, 1) := by decide +kernel
theorem dX9_copyAll_1 : decode cX9_copyAll 1 = .ok (.istore_n 2, 1) := by decide +kernel
theorem dX9_copyAll_2 : decode cX9_copyAll 2 = .ok (.iload_n 2, 1) := by decide +kernel
theorem dX9_copyAll_3 : decode cX9_copyAll 3 = .ok (.sipush 412, 3) := by decide +kernel
theorem dX9_copyAll_6 : decode cX9_copyAll 6 = .ok (.if_icmp .ge 15, 3) := by decide +kernel
theorem dX9_copyAll_9 : decode cX9_copyAll 9 = .ok (.aload_n 1, 1) := by decide +kernel
theorem dX9_copyAll_10 : decode cX9_copyAll 10 = .ok (.iload_n 2, 1) := by decide +kernel
theorem dX9_copyAll_11 : decode cX9_copyAll 11 = .ok (.aload_n 0, 1) := by decide +kernel
theorem dX9_copyAll_12 : decode cX9_copyAll 12 = .ok (.iload_n 2, 1) := by decide +kernel
theorem dX9_copyAll_13 : decode cX9_copyAll 13 = .ok (.iaload, 1) := by decide +kernel
theorem dX9_copyAll_14 : decode cX9_copyAll 14 = .ok (.iastore, 1) := by decide +kernel
theorem dX9_copyAll_15 : decode cX9_copyAll 15 = .ok (.iinc 2 1, 3) := by decide +kernel
theorem dX9_copyAll_18 : decode cX9_copyAll 18 = .ok (.goto (-16), 3) := by decide +kernel
theorem dX9_copyAll_21 : decode cX9_copyAll 21 = .ok (.return_, 1) := by decide +kernel
set_option maxRecDepth 20000 in
theorem ggX9_thinks_X9_copyAll : GoodIn wsX9_thinks wsX9_copyAll := goodIn_r _ [6] (by decide +kernel) (by decide +kernel)
set_option maxRecDepth 20000 in
theorem gX9_thinks_X9_copyAll : GoodIn wsX9_thinks (va_wsS RX9 50 yX9_copyAll wsX9_copyAll) := goodIn_app (goodIn_of _ (by decide +kernel)) ggX9_thinks_X9_copyAll
theorem dX9_thinks_0 : decode cX9_thinks 0 = .ok (.aload_n 0, 1) := by decide +kernel
theorem dX9_thinks_1 : decode cX9_thinks 1 = .ok (.getfield 9, 3) := by decide +kernel
theorem dX9_thinks_4 : decode cX9_thinks 4 = .ok (.aload_n 0, 1) := by decide +kernel

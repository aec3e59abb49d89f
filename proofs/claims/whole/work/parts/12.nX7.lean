theorem dX7_odds_8 : decode cX7_odds 8 = .ok (.ifCond .eq 31, 3) := by decide +kernel
theorem dX7_odds_11 : decode cX7_odds 11 = .ok (.iload_n 2, 1) := by decide +kernel
theorem dX7_odds_12 : decode cX7_odds 12 = .ok (.bipush 20, 2) := by decide +kernel
theorem dX7_odds_14 : decode cX7_odds 14 = .ok (.invokestatic 66, 3) := by decide +kernel
theorem dX7_odds_17 : decode cX7_odds 17 = .ok (.ifCond .eq 22, 3) := by decide +kernel
theorem dX7_odds_20 : decode cX7_odds 20 = .ok (.iload_n 3, 1) := by decide +kernel
theorem dX7_odds_21 : decode cX7_odds 21 = .ok (.iconst 1, 1) := by decide +kernel
theorem dX7_odds_22 : decode cX7_odds 22 = .ok (.invokestatic 66, 3) := by decide +kernel
theorem dX7_odds_25 : decode cX7_odds 25 = .ok (.ifCond .eq 14, 3) := by decide +kernel
theorem dX7_odds_28 : decode cX7_odds 28 = .ok (.aload_n 0, 1) := by decide +kernel
theorem dX7_odds_29 : decode cX7_odds 29 = .ok (.getfield 14, 3) := by decide +kernel
theorem dX7_odds_32 : decode cX7_odds 32 = .ok (.getfield 70, 3) := by decide +kernel
theorem dX7_odds_35 : decode cX7_odds 35 = .ok (.iconst 2, 1) := by decide +kernel
theorem dX7_odds_36 : decode cX7_odds 36 = .ok (.if_icmp .ge 7, 3) := by decide +kernel
theorem dX7_odds_39 : decode cX7_odds 39 = .ok (.ldc2_w 213, 3) := by decide +kernel
theorem dX7_odds_42 : decode cX7_odds 42 = .ok (.lreturn, 1) := by decide +kernel
theorem dX7_odds_43 : decode cX7_odds 43 = .ok (.aload_n 0, 1) := by decide +kernel
theorem dX7_odds_44 : decode cX7_odds 44 = .ok (.getfield 14, 3) := by decide +kernel
theorem dX7_odds_47 : decode cX7_odds 47 = .ok (.getfield 70, 3) := by decide +kernel
theorem dX7_odds_50 : decode cX7_odds 50 = .ok (.aload_n 0, 1) := by decide +kernel
theorem dX7_odds_51 : decode cX7_odds 51 = .ok (.getfield 14, 3) := by decide +kernel
theorem dX7_odds_54 : decode cX7_odds 54 = .ok (.getfield 70, 3) := by decide +kernel
theorem dX7_odds_57 : decode cX7_odds 57 = .ok (.iconst 1, 1) := by decide +kernel
theorem dX7_odds_58 : decode cX7_odds 58 = .ok (.isub, 1) := by decide +kernel
theorem dX7_odds_59 : decode cX7_odds 59 = .ok (.imul, 1) := by decide +kernel
theorem dX7_odds_60 : decode cX7_odds 60 = .ok (.iconst 2, 1) := by decide +kernel
theorem dX7_odds_61 : decode cX7_odds 61 = .ok (.idiv, 1) := by decide +kernel
theorem dX7_odds_62 : decode cX7_odds 62 = .ok (.istore 4, 2) := by decide +kernel
theorem dX7_odds_64 : decode cX7_odds 64 = .ok (.aload_n 0, 1) := by decide +kernel
theorem dX7_odds_65 : decode cX7_odds 65 = .ok (.getfield 24, 3) := by decide +kernel
theorem dX7_odds_68 : decode cX7_odds 68 = .ok (.aload_n 0, 1) := by decide +kernel
theorem dX7_odds_69 : decode cX7_odds 69 = .ok (.getfield 14, 3) := by decide +kernel
theorem dX7_odds_72 : decode cX7_odds 72 = .ok (.iload_n 1, 1) := by decide +kernel
theorem dX7_odds_73 : decode cX7_odds 73 = .ok (.iload_n 2, 1) := by decide +kernel
theorem dX7_odds_74 : decode cX7_odds 74 = .ok (.invokevirtual 215, 3) := by decide +kernel
theorem dX7_odds_77 : decode cX7_odds 77 = .ok (.iload 4, 2) := by decide +kernel
theorem dX7_odds_79 : decode cX7_odds 79 = .ok (.iload_n 3, 1) := by decide +kernel
theorem dX7_odds_80 : decode cX7_odds 80 = .ok (.invokestatic 218, 3) := by decide +kernel
theorem dX7_odds_83 : decode cX7_odds 83 = .ok (.lreturn, 1) := by decide +kernel
set_option maxRecDepth 20000 in
theorem ggX7_mean_X7_isWithin : GoodIn wsX7_mean wsX7_isWithin := goodIn_r _ [8] rfl (by decide +kernel)
set_option maxRecDepth 20000 in
theorem gX7_mean_X7_isWithin : GoodIn wsX7_mean (va_wsS RX7 66 yX7_isWithin wsX7_isWithin) := goodIn_app (goodIn_of _ (by decide +kernel)) ggX7_mean_X7_isWithin
set_option maxRecDepth 20000 in
theorem ggX7_mean_X1_goneOn : GoodIn wsX7_mean wsX1_goneOn := goodIn_r _ [13, 14, 15, 16, 17, 18, 19, 20, 21, 22, 23, 24, 25, 26, 27, 28, 29, 30, 31, 32, 33, 34, 35, 36, 37, 38, 39, 40, 41, 42, 43, 44, 45, 46, 47, 48, 49, 50, 51, 52, 53, 54, 55, 56, 57, 58, 59, 60, 61, 62, 63, 64, 65, 66, 67, 68, 69, 70, 71, 72, 73, 74, 75, 76, 77, 78, 79, 80, 81, 82, 83, 84, 85, 86, 87, 88, 89, 90, 91, 92, 93, 94, 95, 96, 97, 98, 99, 100, 101, 102, 103, 104, 105, 106, 107, 108, 109, 110, 111, 112, 113, 149, 135, 136, 137, 138, 139, 140, 141, 142, 143, 144, 145, 146, 147, 148, 150, 151, 152, 153, 154] rfl (by decide +kernel)
set_option maxRecDepth 20000 in
theorem gX7_mean_X1_goneOn : GoodIn wsX7_mean (wsV RX7 189 RX1 yX1_goneOn wsX1_goneOn) := goodIn_app (goodIn_of _ (by decide +kernel)) ggX7_mean_X1_goneOn
set_option maxRecDepth 20000 in
theorem ggX7_mean_X2_placesTogether : GoodIn wsX7_mean wsX2_placesTogether := goodIn_r _ [117, 20, 27, 135, 136, 137, 138, 139, 140, 141, 142, 143, 144, 145, 146, 147, 148] rfl (by decide +kernel)
set_option maxRecDepth 20000 in
theorem gX7_mean_X2_placesTogether : GoodIn wsX7_mean (wsV RX7 222 RX2 yX2_placesTogether wsX2_placesTogether) := goodIn_app (goodIn_of _ (by decide +kernel)) ggX7_mean_X2_placesTogether
set_option maxRecDepth 20000 in
theorem ggX7_mean_X7_partOfLowest : GoodIn wsX7_mean wsX7_partOfLowest := goodIn_r _ [120, 3, 121, 122, 7, 123] rfl (by decide +kernel)
set_option maxRecDepth 20000 in
theorem gX7_mean_X7_partOfLowest : GoodIn wsX7_mean (va_wsS RX7 218 yX7_partOfLowest wsX7_partOfLowest) := goodIn_app (goodIn_of _ (by decide +kernel)) ggX7_mean_X7_partOfLowest
theorem dX7_mean_0 : decode cX7_mean 0 = .ok (.iload_n 1, 1) := by decide +kernel
theorem dX7_mean_1 : decode cX7_mean 1 = .ok (.bipush 60, 2) := by decide +kernel
theorem dX7_mean_3 : decode cX7_mean 3 = .ok (.invokestatic 66, 3) := by decide +kernel
theorem dX7_mean_6 : decode cX7_mean 6 = .ok (.ifCond .eq 22, 3) := by decide +kernel
theorem dX7_mean_9 : decode cX7_mean 9 = .ok (.iload_n 2, 1) := by decide +kernel
theorem dX7_mean_10 : decode cX7_mean 10 = .ok (.iconst 1, 1) := by decide +kernel
theorem dX7_mean_11 : decode cX7_mean 11 = .ok (.invokestatic 66, 3) := by decide +kernel
theorem dX7_mean_14 : decode cX7_mean 14 = .ok (.ifCond .eq 14, 3) := by decide +kernel
theorem dX7_mean_17 : decode cX7_mean 17 = .ok (.aload_n 0, 1) := by decide +kernel
theorem dX7_mean_18 : decode cX7_mean 18 = .ok (.getfield 14, 3) := by decide +kernel
theorem dX7_mean_21 : decode cX7_mean 21 = .ok (.getfield 70, 3) := by decide +kernel
theorem dX7_mean_24 : decode cX7_mean 24 = .ok (.iconst 1, 1) := by decide +kernel
theorem dX7_mean_25 : decode cX7_mean 25 = .ok (.if_icmp .ge 7, 3) := by decide +kernel
theorem dX7_mean_28 : decode cX7_mean 28 = .ok (.ldc2_w 213, 3) := by decide +kernel
theorem dX7_mean_31 : decode cX7_mean 31 = .ok (.lreturn, 1) := by decide +kernel
theorem dX7_mean_32 : decode cX7_mean 32 = .ok (.aload_n 0, 1) := by decide +kernel
theorem dX7_mean_33 : decode cX7_mean 33 = .ok (.getfield 24, 3) := by decide +kernel
theorem dX7_mean_36 : decode cX7_mean 36 = .ok (.aload_n 0, 1) := by decide +kernel
theorem dX7_mean_37 : decode cX7_mean 37 = .ok (.getfield 14, 3) := by decide +kernel
theorem dX7_mean_40 : decode cX7_mean 40 = .ok (.iload_n 1, 1) := by decide +kernel
theorem dX7_mean_41 : decode cX7_mean 41 = .ok (.invokevirtual 189, 3) := by decide +kernel
theorem dX7_mean_44 : decode cX7_mean 44 = .ok (.invokevirtual 222, 3) := by decide +kernel
theorem dX7_mean_47 : decode cX7_mean 47 = .ok (.aload_n 0, 1) := by decide +kernel
theorem dX7_mean_48 : decode cX7_mean 48 = .ok (.getfield 14, 3) := by decide +kernel
theorem dX7_mean_51 : decode cX7_mean 51 = .ok (.getfield 70, 3) := by decide +kernel
theorem dX7_mean_54 : decode cX7_mean 54 = .ok (.iload_n 2, 1) := by decide +kernel
theorem dX7_mean_55 : decode cX7_mean 55 = .ok (.invokestatic 218, 3) := by decide +kernel
theorem dX7_mean_58 : decode cX7_mean 58 = .ok (.lreturn, 1) := by decide +kernel
set_option maxRecDepth 20000 in
theorem ggX7_plan_X7_isPlanRow : GoodIn wsX7_plan wsX7_isPlanRow := goodIn_r _ [7, 8, 9, 10, 11, 12, 13, 14, 15, 16, 17, 18, 19, 28, 29, 30, 31, 32, 33, 34, 35, 36, 37, 38, 49, 50, 51, 52, 53, 54, 55, 56, 57, 58, 59, 60, 61, 62] rfl (by decide +kernel)
set_option maxRecDepth 20000 in
theorem gX7_plan_X7_isPlanRow : GoodIn wsX7_plan (wsV RX7 228 RX7 yX7_isPlanRow wsX7_isPlanRow) := goodIn_app (goodIn_of _ (by decide +kernel)) ggX7_plan_X7_isPlanRow
set_option maxRecDepth 20000 in
theorem ggX7_plan_X5_addPlan : GoodIn wsX7_plan wsX5_addPlan := goodIn_r _ [24, 25, 26, 27, 39, 40, 41, 42, 43, 44, 45, 46, 47, 48] rfl (by decide +kernel)
set_option maxRecDepth 20000 in
theorem gX7_plan_X5_addPlan : GoodIn wsX7_plan (wsV RX7 231 RX5 yX5_addPlan wsX5_addPlan) := goodIn_app (goodIn_of _ (by decide +kernel)) ggX7_plan_X5_addPlan
theorem dX7_plan_0 : decode cX7_plan 0 = .ok (.iload_n 1, 1) := by decide +kernel
theorem dX7_plan_1 : decode cX7_plan 1 = .ok (.iconst (-1), 1) := by decide +kernel
theorem dX7_plan_2 : decode cX7_plan 2 = .ok (.if_icmp .ne 13, 3) := by decide +kernel
theorem dX7_plan_5 : decode cX7_plan 5 = .ok (.aload_n 0, 1) := by decide +kernel
theorem dX7_plan_6 : decode cX7_plan 6 = .ok (.getfield 31, 3) := by decide +kernel
theorem dX7_plan_9 : decode cX7_plan 9 = .ok (.iconst 0, 1) := by decide +kernel
theorem dX7_plan_10 : decode cX7_plan 10 = .ok (.putfield 225, 3) := by decide +kernel
theorem dX7_plan_13 : decode cX7_plan 13 = .ok (.iconst 0, 1) := by decide +kernel
theorem dX7_plan_14 : decode cX7_plan 14 = .ok (.ireturn, 1) := by decide +kernel
theorem dX7_plan_15 : decode cX7_plan 15 = .ok (.aload_n 0, 1) := by decide +kernel
theorem dX7_plan_16 : decode cX7_plan 16 = .ok (.iload_n 1, 1) := by decide +kernel
theorem dX7_plan_17 : decode cX7_plan 17 = .ok (.iload_n 2, 1) := by decide +kernel
theorem dX7_plan_18 : decode cX7_plan 18 = .ok (.invokevirtual 228, 3) := by decide +kernel
theorem dX7_plan_21 : decode cX7_plan 21 = .ok (.ifCond .ne 5, 3) := by decide +kernel
theorem dX7_plan_24 : decode cX7_plan 24 = .ok (.iconst (-1), 1) := by decide +kernel
theorem dX7_plan_25 : decode cX7_plan 25 = .ok (.ireturn, 1) := by decide +kernel
theorem dX7_plan_26 : decode cX7_plan 26 = .ok (.aload_n 0, 1) := by decide +kernel
theorem dX7_plan_27 : decode cX7_plan 27 = .ok (.getfield 31, 3) := by decide +kernel
theorem dX7_plan_30 : decode cX7_plan 30 = .ok (.getfield 225, 3) := by decide +kernel
theorem dX7_plan_33 : decode cX7_plan 33 = .ok (.bipush 10, 2) := by decide +kernel
theorem dX7_plan_35 : decode cX7_plan 35 = .ok (.if_icmp .lt 6, 3) := by decide +kernel
theorem dX7_plan_38 : decode cX7_plan 38 = .ok (.bipush (-4), 2) := by decide +kernel
theorem dX7_plan_40 : decode cX7_plan 40 = .ok (.ireturn, 1) := by decide +kernel
theorem dX7_plan_41 : decode cX7_plan 41 = .ok (.aload_n 0, 1) := by decide +kernel
theorem dX7_plan_42 : decode cX7_plan 42 = .ok (.getfield 31, 3) := by decide +kernel
theorem dX7_plan_45 : decode cX7_plan 45 = .ok (.iload_n 1, 1) := by decide +kernel
theorem dX7_plan_46 : decode cX7_plan 46 = .ok (.iload_n 2, 1) := by decide +kernel
theorem dX7_plan_47 : decode cX7_plan 47 = .ok (.invokevirtual 231, 3) := by decide +kernel
theorem dX7_plan_50 : decode cX7_plan 50 = .ok (.ireturn, 1) := by decide +kernel
set_option maxRecDepth 20000 in
theorem ggX7_ends_X7_isWithin : GoodIn wsX7_ends wsX7_isWithin := goodIn_r _ [8] rfl (by decide +kernel)
set_option maxRecDepth 20000 in
theorem gX7_ends_X7_isWithin : GoodIn wsX7_ends (va_wsS RX7 66 yX7_isWithin wsX7_isWithin) := goodIn_app (goodIn_of _ (by decide +kernel)) ggX7_ends_X7_isWithin
set_option maxRecDepth 20000 in
theorem ggX7_ends_X1_endOf : GoodIn wsX7_ends wsX1_endOf := goodIn_r _ [13, 14, 15, 16, 17, 18, 19, 20, 21, 22, 23, 24, 25, 26, 27, 28, 29, 30, 31, 32, 33, 34, 35, 36, 37, 38, 39, 40, 41, 42, 43, 44, 45, 46, 47, 48, 49, 50, 51, 52, 53, 54, 55, 56, 57, 58, 59, 60, 61, 62, 63, 64, 65, 66, 67, 68, 69, 70, 71, 72, 73, 74, 75, 76, 77, 78, 79, 80, 81, 82, 83, 84, 85, 86, 87, 88, 89, 90, 91, 92, 93, 94, 95, 96, 97, 98, 99, 100, 101, 102, 103, 104, 105, 106, 107, 108, 109, 110, 111, 112, 113, 114, 115, 145, 146, 147, 148, 149, 150, 151, 152, 153, 154, 155, 131, 132, 133, 134, 135, 136, 137, 138, 139, 140, 141, 142, 143, 144, 156, 157, 158, 159, 160] rfl (by decide +kernel)
set_option maxRecDepth 20000 in
theorem gX7_ends_X1_endOf : GoodIn wsX7_ends (wsV RX7 234 RX1 yX1_endOf wsX1_endOf) := goodIn_app (goodIn_of _ (by decide +kernel)) ggX7_ends_X1_endOf
set_option maxRecDepth 20000 in
theorem ggX7_ends_X2_placesTogether : GoodIn wsX7_ends wsX2_placesTogether := goodIn_r _ [119, 25, 32, 131, 132, 133, 134, 135, 136, 137, 138, 139, 140, 141, 142, 143, 144] rfl (by decide +kernel)
set_option maxRecDepth 20000 in
theorem gX7_ends_X2_placesTogether : GoodIn wsX7_ends (wsV RX7 222 RX2 yX2_placesTogether wsX2_placesTogether) := goodIn_app (goodIn_of _ (by decide +kernel)) ggX7_ends_X2_placesTogether
theorem dX7_ends_0 : decode cX7_ends 0 = .ok (.iload_n 1, 1) := by decide +kernel
theorem dX7_ends_1 : decode cX7_ends 1 = .ok (.iconst 1, 1) := by decide +kernel
theorem dX7_ends_2 : decode cX7_ends 2 = .ok (.invokestatic 66, 3) := by decide +kernel
theorem dX7_ends_5 : decode cX7_ends 5 = .ok (.ifCond .ne 5, 3) := by decide +kernel
theorem dX7_ends_8 : decode cX7_ends 8 = .ok (.iconst (-1), 1) := by decide +kernel
theorem dX7_ends_9 : decode cX7_ends 9 = .ok (.ireturn, 1) := by decide +kernel
theorem dX7_ends_10 : decode cX7_ends 10 = .ok (.aload_n 0, 1) := by decide +kernel
theorem dX7_ends_11 : decode cX7_ends 11 = .ok (.getfield 24, 3) := by decide +kernel
theorem dX7_ends_14 : decode cX7_ends 14 = .ok (.aload_n 0, 1) := by decide +kernel
theorem dX7_ends_15 : decode cX7_ends 15 = .ok (.getfield 14, 3) := by decide +kernel
theorem dX7_ends_18 : decode cX7_ends 18 = .ok (.aload_n 0, 1) := by decide +kernel
theorem dX7_ends_19 : decode cX7_ends 19 = .ok (.getfield 31, 3) := by decide +kernel
theorem dX7_ends_22 : decode cX7_ends 22 = .ok (.invokevirtual 234, 3) := by decide +kernel
theorem dX7_ends_25 : decode cX7_ends 25 = .ok (.astore_n 2, 1) := by decide +kernel
theorem dX7_ends_26 : decode cX7_ends 26 = .ok (.iload_n 1, 1) := by decide +kernel
theorem dX7_ends_27 : decode cX7_ends 27 = .ok (.ifCond .ne 10, 3) := by decide +kernel
theorem dX7_ends_30 : decode cX7_ends 30 = .ok (.aload_n 2, 1) := by decide +kernel
theorem dX7_ends_31 : decode cX7_ends 31 = .ok (.getfield 171, 3) := by decide +kernel
theorem dX7_ends_34 : decode cX7_ends 34 = .ok (.goto 7, 3) := by decide +kernel
theorem dX7_ends_37 : decode cX7_ends 37 = .ok (.aload_n 2, 1) := by decide +kernel
theorem dX7_ends_38 : decode cX7_ends 38 = .ok (.invokevirtual 222, 3) := by decide +kernel
theorem dX7_ends_41 : decode cX7_ends 41 = .ok (.ireturn, 1) := by decide +kernel
set_option maxRecDepth 20000 in
theorem ggX7_book_X2_isPerson : GoodIn wsX7_book wsX2_isPerson := goodIn_r _ [8, 9, 43, 44, 45, 46, 47, 48, 49, 50, 51, 52, 53, 54, 55, 56] rfl (by decide +kernel)
set_option maxRecDepth 20000 in
theorem gX7_book_X2_isPerson : GoodIn wsX7_book (wsV RX7 78 RX2 yX2_isPerson wsX2_isPerson) := goodIn_app (goodIn_of _ (by decide +kernel)) ggX7_book_X2_isPerson
set_option maxRecDepth 20000 in
theorem ggX7_book_X7_isWithin : GoodIn wsX7_book wsX7_isWithin := goodIn_r _ [13] rfl (by decide +kernel)
set_option maxRecDepth 20000 in
theorem gX7_book_X7_isWithin : GoodIn wsX7_book (va_wsS RX7 66 yX7_isWithin wsX7_isWithin) := goodIn_app (goodIn_of _ (by decide +kernel)) ggX7_book_X7_isWithin
set_option maxRecDepth 20000 in
theorem ggX7_book_X5_addBook : GoodIn wsX7_book wsX5_addBook := goodIn_r _ [18, 19, 20, 21, 33, 34, 35, 36, 37, 38, 39, 40, 41, 42] rfl (by decide +kernel)
set_option maxRecDepth 20000 in
theorem gX7_book_X5_addBook : GoodIn wsX7_book (wsV RX7 241 RX5 yX5_addBook wsX5_addBook) := goodIn_app (goodIn_of _ (by decide +kernel)) ggX7_book_X5_addBook
theorem dX7_book_0 : decode cX7_book 0 = .ok (.iload_n 1, 1) := by decide +kernel
theorem dX7_book_1 : decode cX7_book 1 = .ok (.iconst (-1), 1) := by decide +kernel
theorem dX7_book_2 : decode cX7_book 2 = .ok (.if_icmp .ne 13, 3) := by decide +kernel
theorem dX7_book_5 : decode cX7_book 5 = .ok (.aload_n 0, 1) := by decide +kernel
theorem dX7_book_6 : decode cX7_book 6 = .ok (.getfield 31, 3) := by decide +kernel
theorem dX7_book_9 : decode cX7_book 9 = .ok (.iconst 0, 1) := by decide +kernel
theorem dX7_book_10 : decode cX7_book 10 = .ok (.putfield 238, 3) := by decide +kernel
theorem dX7_book_13 : decode cX7_book 13 = .ok (.iconst 0, 1) := by decide +kernel
theorem dX7_book_14 : decode cX7_book 14 = .ok (.ireturn, 1) := by decide +kernel
theorem dX7_book_15 : decode cX7_book 15 = .ok (.aload_n 0, 1) := by decide +kernel
theorem dX7_book_16 : decode cX7_book 16 = .ok (.getfield 14, 3) := by decide +kernel
theorem dX7_book_19 : decode cX7_book 19 = .ok (.iload_n 1, 1) := by decide +kernel
theorem dX7_book_20 : decode cX7_book 20 = .ok (.invokevirtual 78, 3) := by decide +kernel
theorem dX7_book_23 : decode cX7_book 23 = .ok (.ifCond .ne 5, 3) := by decide +kernel
theorem dX7_book_26 : decode cX7_book 26 = .ok (.iconst (-1), 1) := by decide +kernel
theorem dX7_book_27 : decode cX7_book 27 = .ok (.ireturn, 1) := by decide +kernel
theorem dX7_book_28 : decode cX7_book 28 = .ok (.iload_n 2, 1) := by decide +kernel
theorem dX7_book_29 : decode cX7_book 29 = .ok (.bipush 99, 2) := by decide +kernel
theorem dX7_book_31 : decode cX7_book 31 = .ok (.invokestatic 66, 3) := by decide +kernel
theorem dX7_book_34 : decode cX7_book 34 = .ok (.ifCond .ne 6, 3) := by decide +kernel
theorem dX7_book_37 : decode cX7_book 37 = .ok (.bipush (-2), 2) := by decide +kernel
theorem dX7_book_39 : decode cX7_book 39 = .ok (.ireturn, 1) := by decide +kernel
theorem dX7_book_40 : decode cX7_book 40 = .ok (.aload_n 0, 1) := by decide +kernel
theorem dX7_book_41 : decode cX7_book 41 = .ok (.getfield 31, 3) := by decide +kernel
theorem dX7_book_44 : decode cX7_book 44 = .ok (.getfield 238, 3) := by decide +kernel
theorem dX7_book_47 : decode cX7_book 47 = .ok (.bipush 8, 2) := by decide +kernel
theorem dX7_book_49 : decode cX7_book 49 = .ok (.if_icmp .lt 6, 3) := by decide +kernel
theorem dX7_book_52 : decode cX7_book 52 = .ok (.bipush (-4), 2) := by decide +kernel
theorem dX7_book_54 : decode cX7_book 54 = .ok (.ireturn, 1) := by decide +kernel
theorem dX7_book_55 : decode cX7_book 55 = .ok (.aload_n 0, 1) := by decide +kernel
theorem dX7_book_56 : decode cX7_book 56 = .ok (.getfield 31, 3) := by decide +kernel
theorem dX7_book_59 : decode cX7_book 59 = .ok (.iload_n 1, 1) := by decide +kernel
theorem dX7_book_60 : decode cX7_book 60 = .ok (.iload_n 2, 1) := by decide +kernel
theorem dX7_book_61 : decode cX7_book 61 = .ok (.invokevirtual 241, 3) := by decide +kernel
theorem dX7_book_64 : decode cX7_book 64 = .ok (.ireturn, 1) := by decide +kernel
set_option maxRecDepth 20000 in
theorem ggX7_looked_X5_firstOtherwise : GoodIn wsX7_looked wsX5_firstOtherwise := goodIn_r _ [7, 8, 9, 10, 11, 23, 24, 25, 26, 27, 28, 29, 30, 31, 32, 33, 34, 35, 36, 37, 38, 39, 40, 41, 42, 43, 44, 45, 46] rfl (by decide +kernel)
set_option maxRecDepth 20000 in
theorem gX7_looked_X5_firstOtherwise : GoodIn wsX7_looked (wsV RX7 244 RX5 yX5_firstOtherwise wsX5_firstOtherwise) := goodIn_app (goodIn_of _ (by decide +kernel)) ggX7_looked_X5_firstOtherwise
theorem dX7_looked_0 : decode cX7_looked 0 = .ok (.aload_n 0, 1) := by decide +kernel
theorem dX7_looked_1 : decode cX7_looked 1 = .ok (.getfield 31, 3) := by decide +kernel
theorem dX7_looked_4 : decode cX7_looked 4 = .ok (.aload_n 0, 1) := by decide +kernel
theorem dX7_looked_5 : decode cX7_looked 5 = .ok (.getfield 14, 3) := by decide +kernel
theorem dX7_looked_8 : decode cX7_looked 8 = .ok (.invokevirtual 244, 3) := by decide +kernel
theorem dX7_looked_11 : decode cX7_looked 11 = .ok (.ireturn, 1) := by decide +kernel
set_option maxRecDepth 20000 in
theorem ggX7_judge_X7_isTape : GoodIn wsX7_judge wsX7_isTape := goodIn_r _ [6, 7, 8, 5, 9] rfl (by decide +kernel)
set_option maxRecDepth 20000 in
theorem gX7_judge_X7_isTape : GoodIn wsX7_judge (va_wsS RX7 248 yX7_isTape wsX7_isTape) := goodIn_app (goodIn_of _ (by decide +kernel)) ggX7_judge_X7_isTape
set_option maxRecDepth 20000 in
theorem ggX7_judge_X7_judged : GoodIn wsX7_judge wsX7_judged := goodIn_r _ [13, 14, 15, 16, 17, 18, 19, 20, 21, 22, 23, 24, 25, 26, 27, 28, 29, 33, 34, 35, 36, 37, 38, 39, 40, 41, 42, 43, 44, 45, 46, 30, 31, 32] rfl (by decide +kernel)
set_option maxRecDepth 20000 in
theorem gX7_judge_X7_judged : GoodIn wsX7_judge (wsV RX7 254 RX7 yX7_judged wsX7_judged) := goodIn_app (goodIn_of _ (by decide +kernel)) ggX7_judge_X7_judged
theorem dX7_judge_0 : decode cX7_judge 0 = .ok (.iload_n 1, 1) := by decide +kernel
theorem dX7_judge_1 : decode cX7_judge 1 = .ok (.invokestatic 248, 3) := by decide +kernel
theorem dX7_judge_4 : decode cX7_judge 4 = .ok (.ifCond .ne 5, 3) := by decide +kernel
theorem dX7_judge_7 : decode cX7_judge 7 = .ok (.iconst (-1), 1) := by decide +kernel
theorem dX7_judge_8 : decode cX7_judge 8 = .ok (.ireturn, 1) := by decide +kernel
theorem dX7_judge_9 : decode cX7_judge 9 = .ok (.aload_n 0, 1) := by decide +kernel
theorem dX7_judge_10 : decode cX7_judge 10 = .ok (.getfield 60, 3) := by decide +kernel
theorem dX7_judge_13 : decode cX7_judge 13 = .ok (.iload_n 1, 1) := by decide +kernel
theorem dX7_judge_14 : decode cX7_judge 14 = .ok (.aaload, 1) := by decide +kernel
theorem dX7_judge_15 : decode cX7_judge 15 = .ok (.astore_n 3, 1) := by decide +kernel
theorem dX7_judge_16 : decode cX7_judge 16 = .ok (.aload_n 3, 1) := by decide +kernel
theorem dX7_judge_17 : decode cX7_judge 17 = .ok (.getfield 251, 3) := by decide +kernel
theorem dX7_judge_20 : decode cX7_judge 20 = .ok (.iconst (-1), 1) := by decide +kernel
theorem dX7_judge_21 : decode cX7_judge 21 = .ok (.if_icmp .eq 13, 3) := by decide +kernel
theorem dX7_judge_24 : decode cX7_judge 24 = .ok (.aload_n 3, 1) := by decide +kernel
theorem dX7_judge_25 : decode cX7_judge 25 = .ok (.getfield 251, 3) := by decide +kernel
theorem dX7_judge_28 : decode cX7_judge 28 = .ok (.ifCond .eq 6, 3) := by decide +kernel
theorem dX7_judge_31 : decode cX7_judge 31 = .ok (.bipush (-12), 2) := by decide +kernel
theorem dX7_judge_33 : decode cX7_judge 33 = .ok (.ireturn, 1) := by decide +kernel
theorem dX7_judge_34 : decode cX7_judge 34 = .ok (.aload_n 0, 1) := by decide +kernel
theorem dX7_judge_35 : decode cX7_judge 35 = .ok (.aload_n 3, 1) := by decide +kernel
theorem dX7_judge_36 : decode cX7_judge 36 = .ok (.iload_n 2, 1) := by decide +kernel
theorem dX7_judge_37 : decode cX7_judge 37 = .ok (.invokevirtual 254, 3) := by decide +kernel
theorem dX7_judge_40 : decode cX7_judge 40 = .ok (.ireturn, 1) := by decide +kernel
set_option maxRecDepth 20000 in
theorem ggX7_image_X2_become : GoodIn wsX7_image wsX2_become := goodIn_r _ [11, 12, 13, 14, 15, 16, 17, 18, 19, 20, 21, 22, 23, 24, 25, 26, 27, 55, 56, 57, 58, 59, 60, 61, 62, 63, 64, 65, 66, 67, 68] rfl (by decide +kernel)
set_option maxRecDepth 20000 in
theorem gX7_image_X2_become : GoodIn wsX7_image (wsV RX7 258 RX2 yX2_become wsX2_become) := goodIn_app (goodIn_of _ (by decide +kernel)) ggX7_image_X2_become
set_option maxRecDepth 20000 in
theorem ggX7_image_X5_become : GoodIn wsX7_image wsX5_become := goodIn_r _ [32, 33, 34, 35, 15, 16, 17, 36, 37, 38, 39, 40, 41, 42, 43, 69, 70, 71, 72, 73, 74, 75, 76, 77, 78] rfl (by decide +kernel)
set_option maxRecDepth 20000 in
theorem gX7_image_X5_become : GoodIn wsX7_image (wsV RX7 262 RX5 yX5_become wsX5_become) := goodIn_app (goodIn_of _ (by decide +kernel)) ggX7_image_X5_become
theorem dX7_image_0 : decode cX7_image 0 = .ok (.aload_n 0, 1) := by decide +kernel
theorem dX7_image_1 : decode cX7_image 1 = .ok (.getfield 18, 3) := by decide +kernel
theorem dX7_image_4 : decode cX7_image 4 = .ok (.aload_n 0, 1) := by decide +kernel
theorem dX7_image_5 : decode cX7_image 5 = .ok (.getfield 14, 3) := by decide +kernel
theorem dX7_image_8 : decode cX7_image 8 = .ok (.invokevirtual 258, 3) := by decide +kernel
theorem dX7_image_11 : decode cX7_image 11 = .ok (.aload_n 0, 1) := by decide +kernel
theorem dX7_image_12 : decode cX7_image 12 = .ok (.getfield 35, 3) := by decide +kernel
theorem dX7_image_15 : decode cX7_image 15 = .ok (.aload_n 0, 1) := by decide +kernel
theorem dX7_image_16 : decode cX7_image 16 = .ok (.getfield 31, 3) := by decide +kernel
theorem dX7_image_19 : decode cX7_image 19 = .ok (.invokevirtual 262, 3) := by decide +kernel
theorem dX7_image_22 : decode cX7_image 22 = .ok (.aload_n 0, 1) := by decide +kernel
theorem dX7_image_23 : decode cX7_image 23 = .ok (.iconst 1, 1) := by decide +kernel
theorem dX7_image_24 : decode cX7_image 24 = .ok (.putfield 265, 3) := by decide +kernel
theorem dX7_image_27 : decode cX7_image 27 = .ok (.aload_n 0, 1) := by decide +kernel
theorem dX7_image_28 : decode cX7_image 28 = .ok (.getfield 14, 3) := by decide +kernel
theorem dX7_image_31 : decode cX7_image 31 = .ok (.getfield 70, 3) := by decide +kernel
theorem dX7_image_34 : decode cX7_image 34 = .ok (.ireturn, 1) := by decide +kernel
set_option maxRecDepth 20000 in
theorem ggX7_undo_X2_become : GoodIn wsX7_undo wsX2_become := goodIn_r _ [11, 12, 13, 14, 15, 16, 17, 18, 19, 20, 21, 22, 23, 24, 25, 26, 27, 55, 56, 57, 58, 59, 60, 61, 62, 63, 64, 65, 66, 67, 68] rfl (by decide +kernel)
set_option maxRecDepth 20000 in
theorem gX7_undo_X2_become : GoodIn wsX7_undo (wsV RX7 258 RX2 yX2_become wsX2_become) := goodIn_app (goodIn_of _ (by decide +kernel)) ggX7_undo_X2_become
set_option maxRecDepth 20000 in
theorem ggX7_undo_X5_become : GoodIn wsX7_undo wsX5_become := goodIn_r _ [32, 33, 34, 35, 15, 16, 17, 36, 37, 38, 39, 40, 41, 42, 43, 69, 70, 71, 72, 73, 74, 75, 76, 77, 78] rfl (by decide +kernel)
set_option maxRecDepth 20000 in
theorem gX7_undo_X5_become : GoodIn wsX7_undo (wsV RX7 262 RX5 yX5_become wsX5_become) := goodIn_app (goodIn_of _ (by decide +kernel)) ggX7_undo_X5_become
theorem dX7_undo_0 : decode cX7_undo 0 = .ok (.aload_n 0, 1) := by decide +kernel
theorem dX7_undo_1 : decode cX7_undo 1 = .ok (.getfield 265, 3) := by decide +kernel
theorem dX7_undo_4 : decode cX7_undo 4 = .ok (.ifCond .ne 6, 3) := by decide +kernel
theorem dX7_undo_7 : decode cX7_undo 7 = .ok (.bipush (-3), 2) := by decide +kernel
theorem dX7_undo_9 : decode cX7_undo 9 = .ok (.ireturn, 1) := by decide +kernel
theorem dX7_undo_10 : decode cX7_undo 10 = .ok (.aload_n 0, 1) := by decide +kernel
theorem dX7_undo_11 : decode cX7_undo 11 = .ok (.getfield 14, 3) := by decide +kernel
theorem dX7_undo_14 : decode cX7_undo 14 = .ok (.aload_n 0, 1) := by decide +kernel
theorem dX7_undo_15 : decode cX7_undo 15 = .ok (.getfield 18, 3) := by decide +kernel
theorem dX7_undo_18 : decode cX7_undo 18 = .ok (.invokevirtual 258, 3) := by decide +kernel
theorem dX7_undo_21 : decode cX7_undo 21 = .ok (.aload_n 0, 1) := by decide +kernel
theorem dX7_undo_22 : decode cX7_undo 22 = .ok (.getfield 31, 3) := by decide +kernel
theorem dX7_undo_25 : decode cX7_undo 25 = .ok (.aload_n 0, 1) := by decide +kernel
theorem dX7_undo_26 : decode cX7_undo 26 = .ok (.getfield 35, 3) := by decide +kernel
theorem dX7_undo_29 : decode cX7_undo 29 = .ok (.invokevirtual 262, 3) := by decide +kernel
theorem dX7_undo_32 : decode cX7_undo 32 = .ok (.aload_n 0, 1) := by decide +kernel
theorem dX7_undo_33 : decode cX7_undo 33 = .ok (.getfield 14, 3) := by decide +kernel
theorem dX7_undo_36 : decode cX7_undo 36 = .ok (.getfield 70, 3) := by decide +kernel
theorem dX7_undo_39 : decode cX7_undo 39 = .ok (.ireturn, 1) := by decide +kernel
set_option maxRecDepth 20000 in
theorem ggX7_act_X0_forget : GoodIn wsX7_act wsX0_forget := goodIn_r _ [7, 8, 51, 52, 53, 54, 55] rfl (by decide +kernel)
set_option maxRecDepth 20000 in
theorem gX7_act_X0_forget : GoodIn wsX7_act (wsV RX7 269 RX0 yX0_forget wsX0_forget) := goodIn_app (goodIn_of _ (by decide +kernel)) ggX7_act_X0_forget
set_option maxRecDepth 20000 in
theorem ggX7_act_X2_isPerson : GoodIn wsX7_act wsX2_isPerson := goodIn_r _ [13, 14, 56, 57, 58, 59, 60, 61, 62, 63, 64, 65, 66, 67, 68, 69] rfl (by decide +kernel)
set_option maxRecDepth 20000 in
theorem gX7_act_X2_isPerson : GoodIn wsX7_act (wsV RX7 78 RX2 yX2_isPerson wsX2_isPerson) := goodIn_app (goodIn_of _ (by decide +kernel)) ggX7_act_X2_isPerson
set_option maxRecDepth 20000 in
theorem ggX7_act_X7_isWithin : GoodIn wsX7_act wsX7_isWithin := goodIn_r _ [18] rfl (by decide +kernel)
set_option maxRecDepth 20000 in
theorem gX7_act_X7_isWithin : GoodIn wsX7_act (va_wsS RX7 66 yX7_isWithin wsX7_isWithin) := goodIn_app (goodIn_of _ (by decide +kernel)) ggX7_act_X7_isWithin
set_option maxRecDepth 20000 in
theorem ggX7_act_X0_start : GoodIn wsX7_act wsX0_start := goodIn_r _ [22, 23, 24, 25, 26, 27, 28, 29, 30, 6, 31, 32, 33, 34, 35, 36, 37, 38, 8, 39, 51, 52, 53, 54, 55, 56, 57, 58, 59, 60, 61, 62, 63, 64, 65, 66, 67, 68, 69] rfl (by decide +kernel)
set_option maxRecDepth 20000 in
theorem gX7_act_X0_start : GoodIn wsX7_act (wsV RX7 272 RX0 yX0_start wsX0_start) := goodIn_app (goodIn_of _ (by decide +kernel)) ggX7_act_X0_start
theorem dX7_act_0 : decode cX7_act 0 = .ok (.aload_n 0, 1) := by decide +kernel
theorem dX7_act_1 : decode cX7_act 1 = .ok (.getfield 54, 3) := by decide +kernel
theorem dX7_act_4 : decode cX7_act 4 = .ok (.invokevirtual 269, 3) := by decide +kernel
theorem dX7_act_7 : decode cX7_act 7 = .ok (.aload_n 0, 1) := by decide +kernel
theorem dX7_act_8 : decode cX7_act 8 = .ok (.getfield 14, 3) := by decide +kernel
theorem dX7_act_11 : decode cX7_act 11 = .ok (.iload_n 1, 1) := by decide +kernel
theorem dX7_act_12 : decode cX7_act 12 = .ok (.invokevirtual 78, 3) := by decide +kernel
theorem dX7_act_15 : decode cX7_act 15 = .ok (.ifCond .eq 11, 3) := by decide +kernel
theorem dX7_act_18 : decode cX7_act 18 = .ok (.iload_n 2, 1) := by decide +kernel
theorem dX7_act_19 : decode cX7_act 19 = .ok (.iconst 2, 1) := by decide +kernel
theorem dX7_act_20 : decode cX7_act 20 = .ok (.invokestatic 66, 3) := by decide +kernel
theorem dX7_act_23 : decode cX7_act 23 = .ok (.ifCond .ne 5, 3) := by decide +kernel
theorem dX7_act_26 : decode cX7_act 26 = .ok (.iconst 0, 1) := by decide +kernel
theorem dX7_act_27 : decode cX7_act 27 = .ok (.ireturn, 1) := by decide +kernel
theorem dX7_act_28 : decode cX7_act 28 = .ok (.aload_n 0, 1) := by decide +kernel
theorem dX7_act_29 : decode cX7_act 29 = .ok (.getfield 54, 3) := by decide +kernel
theorem dX7_act_32 : decode cX7_act 32 = .ok (.aload_n 0, 1) := by decide +kernel
theorem dX7_act_33 : decode cX7_act 33 = .ok (.getfield 14, 3) := by decide +kernel
theorem dX7_act_36 : decode cX7_act 36 = .ok (.iload_n 1, 1) := by decide +kernel
theorem dX7_act_37 : decode cX7_act 37 = .ok (.iload_n 2, 1) := by decide +kernel
theorem dX7_act_38 : decode cX7_act 38 = .ok (.iload_n 3, 1) := by decide +kernel
theorem dX7_act_39 : decode cX7_act 39 = .ok (.invokevirtual 272, 3) := by decide +kernel
theorem dX7_act_42 : decode cX7_act 42 = .ok (.ireturn, 1) := by decide +kernel
set_option maxRecDepth 20000 in
theorem ggX7_trace_X0_kept : GoodIn wsX7_trace wsX0_kept := goodIn_r _ [7, 8, 9, 10, 11, 12, 28, 29, 30, 31, 32] rfl (by decide +kernel)
set_option maxRecDepth 20000 in
theorem gX7_trace_X0_kept : GoodIn wsX7_trace (wsV RX7 276 RX0 yX0_kept wsX0_kept) := goodIn_app (goodIn_of _ (by decide +kernel)) ggX7_trace_X0_kept
set_option maxRecDepth 20000 in
theorem ggX7_trace_X7_isWithin : GoodIn wsX7_trace wsX7_isWithin := goodIn_r _ [16] rfl (by decide +kernel)
set_option maxRecDepth 20000 in
theorem gX7_trace_X7_isWithin : GoodIn wsX7_trace (va_wsS RX7 66 yX7_isWithin wsX7_isWithin) := goodIn_app (goodIn_of _ (by decide +kernel)) ggX7_trace_X7_isWithin
theorem dX7_trace_0 : decode cX7_trace 0 = .ok (.iload_n 1, 1) := by decide +kernel
theorem dX7_trace_1 : decode cX7_trace 1 = .ok (.aload_n 0, 1) := by decide +kernel
theorem dX7_trace_2 : decode cX7_trace 2 = .ok (.getfield 54, 3) := by decide +kernel
theorem dX7_trace_5 : decode cX7_trace 5 = .ok (.invokevirtual 276, 3) := by decide +kernel
theorem dX7_trace_8 : decode cX7_trace 8 = .ok (.iconst 1, 1) := by decide +kernel
theorem dX7_trace_9 : decode cX7_trace 9 = .ok (.isub, 1) := by decide +kernel
theorem dX7_trace_10 : decode cX7_trace 10 = .ok (.invokestatic 66, 3) := by decide +kernel
theorem dX7_trace_13 : decode cX7_trace 13 = .ok (.ifCond .eq 15, 3) := by decide +kernel
theorem dX7_trace_16 : decode cX7_trace 16 = .ok (.aload_n 0, 1) := by decide +kernel
theorem dX7_trace_17 : decode cX7_trace 17 = .ok (.getfield 54, 3) := by decide +kernel
theorem dX7_trace_20 : decode cX7_trace 20 = .ok (.getfield 279, 3) := by decide +kernel
theorem dX7_trace_23 : decode cX7_trace 23 = .ok (.iload_n 1, 1) := by decide +kernel
theorem dX7_trace_24 : decode cX7_trace 24 = .ok (.iaload, 1) := by decide +kernel
theorem dX7_trace_25 : decode cX7_trace 25 = .ok (.goto 4, 3) := by decide +kernel
theorem dX7_trace_28 : decode cX7_trace 28 = .ok (.iconst (-1), 1) := by decide +kernel
theorem dX7_trace_29 : decode cX7_trace 29 = .ok (.ireturn, 1) := by decide +kernel
set_option maxRecDepth 20000 in
theorem ggX7_taken_X7_isWithin : GoodIn wsX7_taken wsX7_isWithin := goodIn_r _ [6] rfl (by decide +kernel)
set_option maxRecDepth 20000 in
theorem gX7_taken_X7_isWithin : GoodIn wsX7_taken (va_wsS RX7 66 yX7_isWithin wsX7_isWithin) := goodIn_app (goodIn_of _ (by decide +kernel)) ggX7_taken_X7_isWithin
set_option maxRecDepth 20000 in
theorem ggX7_taken_X2_isPerson : GoodIn wsX7_taken wsX2_isPerson := goodIn_r _ [11, 12, 28, 29, 30, 31, 32, 33, 34, 35, 36, 37, 38, 39, 40, 41] rfl (by decide +kernel)
set_option maxRecDepth 20000 in
theorem gX7_taken_X2_isPerson : GoodIn wsX7_taken (wsV RX7 78 RX2 yX2_isPerson wsX2_isPerson) := goodIn_app (goodIn_of _ (by decide +kernel)) ggX7_taken_X2_isPerson
set_option maxRecDepth 20000 in
theorem ggX7_taken_X7_isKindOrUnder : GoodIn wsX7_taken wsX7_isKindOrUnder := goodIn_r _ [15, 16, 3, 4, 5, 6] rfl (by decide +kernel)
set_option maxRecDepth 20000 in
theorem gX7_taken_X7_isKindOrUnder : GoodIn wsX7_taken (va_wsS RX7 282 yX7_isKindOrUnder wsX7_isKindOrUnder) := goodIn_app (goodIn_of _ (by decide +kernel)) ggX7_taken_X7_isKindOrUnder
theorem dX7_taken_0 : decode cX7_taken 0 = .ok (.iload_n 2, 1) := by decide +kernel
theorem dX7_taken_1 : decode cX7_taken 1 = .ok (.bipush 6, 2) := by decide +kernel
theorem dX7_taken_3 : decode cX7_taken 3 = .ok (.invokestatic 66, 3) := by decide +kernel
theorem dX7_taken_6 : decode cX7_taken 6 = .ok (.ifCond .ne 6, 3) := by decide +kernel
theorem dX7_taken_9 : decode cX7_taken 9 = .ok (.bipush (-2), 2) := by decide +kernel
theorem dX7_taken_11 : decode cX7_taken 11 = .ok (.ireturn, 1) := by decide +kernel
theorem dX7_taken_12 : decode cX7_taken 12 = .ok (.aload_n 0, 1) := by decide +kernel
theorem dX7_taken_13 : decode cX7_taken 13 = .ok (.getfield 14, 3) := by decide +kernel
theorem dX7_taken_16 : decode cX7_taken 16 = .ok (.iload_n 1, 1) := by decide +kernel
theorem dX7_taken_17 : decode cX7_taken 17 = .ok (.invokevirtual 78, 3) := by decide +kernel
theorem dX7_taken_20 : decode cX7_taken 20 = .ok (.ifCond .ne 6, 3) := by decide +kernel
theorem dX7_taken_23 : decode cX7_taken 23 = .ok (.bipush (-11), 2) := by decide +kernel
theorem dX7_taken_25 : decode cX7_taken 25 = .ok (.ireturn, 1) := by decide +kernel
theorem dX7_taken_26 : decode cX7_taken 26 = .ok (.aload_n 0, 1) := by decide +kernel
theorem dX7_taken_27 : decode cX7_taken 27 = .ok (.getfield 14, 3) := by decide +kernel
theorem dX7_taken_30 : decode cX7_taken 30 = .ok (.getfield 82, 3) := by decide +kernel
theorem dX7_taken_33 : decode cX7_taken 33 = .ok (.iload_n 1, 1) := by decide +kernel
theorem dX7_taken_34 : decode cX7_taken 34 = .ok (.iaload, 1) := by decide +kernel
theorem dX7_taken_35 : decode cX7_taken 35 = .ok (.iload_n 2, 1) := by decide +kernel
theorem dX7_taken_36 : decode cX7_taken 36 = .ok (.invokestatic 282, 3) := by decide +kernel
theorem dX7_taken_39 : decode cX7_taken 39 = .ok (.ifCond .eq 15, 3) := by decide +kernel
theorem dX7_taken_42 : decode cX7_taken 42 = .ok (.aload_n 0, 1) := by decide +kernel
theorem dX7_taken_43 : decode cX7_taken 43 = .ok (.getfield 14, 3) := by decide +kernel
theorem dX7_taken_46 : decode cX7_taken 46 = .ok (.getfield 82, 3) := by decide +kernel
theorem dX7_taken_49 : decode cX7_taken 49 = .ok (.iload_n 1, 1) := by decide +kernel
theorem dX7_taken_50 : decode cX7_taken 50 = .ok (.iaload, 1) := by decide +kernel
theorem dX7_taken_51 : decode cX7_taken 51 = .ok (.goto 5, 3) := by decide +kernel
theorem dX7_taken_54 : decode cX7_taken 54 = .ok (.bipush (-12), 2) := by decide +kernel
theorem dX7_taken_56 : decode cX7_taken 56 = .ok (.ireturn, 1) := by decide +kernel
theorem dX7_count_0 : decode cX7_count 0 = .ok (.iload_n 1, 1) := by decide +kernel
theorem dX7_count_1 : decode cX7_count 1 = .ok (.tableswitch 108 0 7 #[47, 55, 63, 68, 76, 84, 92, 100], 47) := by decide +kernel
theorem dX7_count_48 : decode cX7_count 48 = .ok (.aload_n 0, 1) := by decide +kernel
theorem dX7_count_49 : decode cX7_count 49 = .ok (.getfield 14, 3) := by decide +kernel
theorem dX7_count_52 : decode cX7_count 52 = .ok (.getfield 70, 3) := by decide +kernel
theorem dX7_count_55 : decode cX7_count 55 = .ok (.ireturn, 1) := by decide +kernel
theorem dX7_count_56 : decode cX7_count 56 = .ok (.aload_n 0, 1) := by decide +kernel
theorem dX7_count_57 : decode cX7_count 57 = .ok (.getfield 14, 3) := by decide +kernel
theorem dX7_count_60 : decode cX7_count 60 = .ok (.getfield 99, 3) := by decide +kernel
theorem dX7_count_63 : decode cX7_count 63 = .ok (.ireturn, 1) := by decide +kernel
theorem dX7_count_64 : decode cX7_count 64 = .ok (.aload_n 0, 1) := by decide +kernel
theorem dX7_count_65 : decode cX7_count 65 = .ok (.getfield 153, 3) := by decide +kernel
theorem dX7_count_68 : decode cX7_count 68 = .ok (.ireturn, 1) := by decide +kernel
theorem dX7_count_69 : decode cX7_count 69 = .ok (.aload_n 0, 1) := by decide +kernel
theorem dX7_count_70 : decode cX7_count 70 = .ok (.getfield 31, 3) := by decide +kernel
theorem dX7_count_73 : decode cX7_count 73 = .ok (.getfield 203, 3) := by decide +kernel
theorem dX7_count_76 : decode cX7_count 76 = .ok (.ireturn, 1) := by decide +kernel
theorem dX7_count_77 : decode cX7_count 77 = .ok (.aload_n 0, 1) := by decide +kernel
theorem dX7_count_78 : decode cX7_count 78 = .ok (.getfield 31, 3) := by decide +kernel
theorem dX7_count_81 : decode cX7_count 81 = .ok (.getfield 225, 3) := by decide +kernel
theorem dX7_count_84 : decode cX7_count 84 = .ok (.ireturn, 1) := by decide +kernel
theorem dX7_count_85 : decode cX7_count 85 = .ok (.aload_n 0, 1) := by decide +kernel
theorem dX7_count_86 : decode cX7_count 86 = .ok (.getfield 31, 3) := by decide +kernel
theorem dX7_count_89 : decode cX7_count 89 = .ok (.getfield 238, 3) := by decide +kernel
theorem dX7_count_92 : decode cX7_count 92 = .ok (.ireturn, 1) := by decide +kernel
theorem dX7_count_93 : decode cX7_count 93 = .ok (.aload_n 0, 1) := by decide +kernel
theorem dX7_count_94 : decode cX7_count 94 = .ok (.getfield 47, 3) := by decide +kernel
theorem dX7_count_97 : decode cX7_count 97 = .ok (.getfield 148, 3) := by decide +kernel
theorem dX7_count_100 : decode cX7_count 100 = .ok (.ireturn, 1) := by decide +kernel
theorem dX7_count_101 : decode cX7_count 101 = .ok (.aload_n 0, 1) := by decide +kernel
theorem dX7_count_102 : decode cX7_count 102 = .ok (.getfield 54, 3) := by decide +kernel
theorem dX7_count_105 : decode cX7_count 105 = .ok (.getfield 285, 3) := by decide +kernel
theorem dX7_count_108 : decode cX7_count 108 = .ok (.ireturn, 1) := by decide +kernel
theorem dX7_count_109 : decode cX7_count 109 = .ok (.bipush (-2), 2) := by decide +kernel
theorem dX7_count_111 : decode cX7_count 111 = .ok (.ireturn, 1) := by decide +kernel
set_option maxRecDepth 20000 in
theorem ggX7_tape_X7_isTape : GoodIn wsX7_tape wsX7_isTape := goodIn_r _ [5, 6, 7, 4, 8] rfl (by decide +kernel)
set_option maxRecDepth 20000 in
theorem gX7_tape_X7_isTape : GoodIn wsX7_tape (va_wsS RX7 248 yX7_isTape wsX7_isTape) := goodIn_app (goodIn_of _ (by decide +kernel)) ggX7_tape_X7_isTape
set_option maxRecDepth 20000 in
theorem ggX7_tape_X6_become : GoodIn wsX7_tape wsX6_become := goodIn_r _ [13, 14, 15, 16, 28, 29, 30] rfl (by decide +kernel)
set_option maxRecDepth 20000 in
theorem gX7_tape_X6_become : GoodIn wsX7_tape (wsV RX7 288 RX6 yX6_become wsX6_become) := goodIn_app (goodIn_of _ (by decide +kernel)) ggX7_tape_X6_become
set_option maxRecDepth 20000 in
theorem ggX7_tape_X7_isWithin : GoodIn wsX7_tape wsX7_isWithin := goodIn_r _ [8] rfl (by decide +kernel)
set_option maxRecDepth 20000 in
theorem gX7_tape_X7_isWithin : GoodIn wsX7_tape (va_wsS RX7 66 yX7_isWithin wsX7_isWithin) := goodIn_app (goodIn_of _ (by decide +kernel)) ggX7_tape_X7_isWithin
theorem dX7_tape_0 : decode cX7_tape 0 = .ok (.iload_n 1, 1) := by decide +kernel
theorem dX7_tape_1 : decode cX7_tape 1 = .ok (.invokestatic 248, 3) := by decide +kernel
theorem dX7_tape_4 : decode cX7_tape 4 = .ok (.ifCond .ne 5, 3) := by decide +kernel
theorem dX7_tape_7 : decode cX7_tape 7 = .ok (.iconst (-1), 1) := by decide +kernel
theorem dX7_tape_8 : decode cX7_tape 8 = .ok (.ireturn, 1) := by decide +kernel
theorem dX7_tape_9 : decode cX7_tape 9 = .ok (.iload_n 2, 1) := by decide +kernel
theorem dX7_tape_10 : decode cX7_tape 10 = .ok (.iconst (-1), 1) := by decide +kernel
theorem dX7_tape_11 : decode cX7_tape 11 = .ok (.if_icmp .ne 16, 3) := by decide +kernel
theorem dX7_tape_14 : decode cX7_tape 14 = .ok (.aload_n 0, 1) := by decide +kernel
theorem dX7_tape_15 : decode cX7_tape 15 = .ok (.getfield 60, 3) := by decide +kernel
theorem dX7_tape_18 : decode cX7_tape 18 = .ok (.iload_n 1, 1) := by decide +kernel
theorem dX7_tape_19 : decode cX7_tape 19 = .ok (.aaload, 1) := by decide +kernel
theorem dX7_tape_20 : decode cX7_tape 20 = .ok (.iconst (-1), 1) := by decide +kernel
theorem dX7_tape_21 : decode cX7_tape 21 = .ok (.iconst 0, 1) := by decide +kernel
theorem dX7_tape_22 : decode cX7_tape 22 = .ok (.invokevirtual 288, 3) := by decide +kernel
theorem dX7_tape_25 : decode cX7_tape 25 = .ok (.iconst 1, 1) := by decide +kernel
theorem dX7_tape_26 : decode cX7_tape 26 = .ok (.ireturn, 1) := by decide +kernel
theorem dX7_tape_27 : decode cX7_tape 27 = .ok (.iload_n 2, 1) := by decide +kernel
theorem dX7_tape_28 : decode cX7_tape 28 = .ok (.iconst 4, 1) := by decide +kernel
theorem dX7_tape_29 : decode cX7_tape 29 = .ok (.invokestatic 66, 3) := by decide +kernel
theorem dX7_tape_32 : decode cX7_tape 32 = .ok (.ifCond .eq 9, 3) := by decide +kernel
theorem dX7_tape_35 : decode cX7_tape 35 = .ok (.iload_n 3, 1) := by decide +kernel
theorem dX7_tape_36 : decode cX7_tape 36 = .ok (.bipush 60, 2) := by decide +kernel
theorem dX7_tape_38 : decode cX7_tape 38 = .ok (.if_icmp .le 6, 3) := by decide +kernel
theorem dX7_tape_41 : decode cX7_tape 41 = .ok (.bipush (-2), 2) := by decide +kernel
theorem dX7_tape_43 : decode cX7_tape 43 = .ok (.ireturn, 1) := by decide +kernel
theorem dX7_tape_44 : decode cX7_tape 44 = .ok (.iload_n 3, 1) := by decide +kernel
theorem dX7_tape_45 : decode cX7_tape 45 = .ok (.ifCond .ge 6, 3) := by decide +kernel
theorem dX7_tape_48 : decode cX7_tape 48 = .ok (.bipush (-14), 2) := by decide +kernel
theorem dX7_tape_50 : decode cX7_tape 50 = .ok (.ireturn, 1) := by decide +kernel
theorem dX7_tape_51 : decode cX7_tape 51 = .ok (.aload_n 0, 1) := by decide +kernel
theorem dX7_tape_52 : decode cX7_tape 52 = .ok (.getfield 60, 3) := by decide +kernel
theorem dX7_tape_55 : decode cX7_tape 55 = .ok (.iload_n 1, 1) := by decide +kernel
theorem dX7_tape_56 : decode cX7_tape 56 = .ok (.aaload, 1) := by decide +kernel
theorem dX7_tape_57 : decode cX7_tape 57 = .ok (.iload_n 2, 1) := by decide +kernel
theorem dX7_tape_58 : decode cX7_tape 58 = .ok (.iload_n 3, 1) := by decide +kernel
theorem dX7_tape_59 : decode cX7_tape 59 = .ok (.invokevirtual 288, 3) := by decide +kernel
theorem dX7_tape_62 : decode cX7_tape 62 = .ok (.iconst 1, 1) := by decide +kernel
theorem dX7_tape_63 : decode cX7_tape 63 = .ok (.ireturn, 1) := by decide +kernel
set_option maxRecDepth 20000 in
theorem ggX7_item_X7_isTape : GoodIn wsX7_item wsX7_isTape := goodIn_r _ [8, 9, 10, 7, 11] rfl (by decide +kernel)
set_option maxRecDepth 20000 in
theorem gX7_item_X7_isTape : GoodIn wsX7_item (va_wsS RX7 248 yX7_isTape wsX7_isTape) := goodIn_app (goodIn_of _ (by decide +kernel)) ggX7_item_X7_isTape
set_option maxRecDepth 20000 in
theorem ggX7_item_X7_isWithin : GoodIn wsX7_item wsX7_isWithin := goodIn_r _ [11] rfl (by decide +kernel)
set_option maxRecDepth 20000 in
theorem gX7_item_X7_isWithin : GoodIn wsX7_item (va_wsS RX7 66 yX7_isWithin wsX7_isWithin) := goodIn_app (goodIn_of _ (by decide +kernel)) ggX7_item_X7_isWithin
set_option maxRecDepth 20000 in
theorem ggX7_item_X7_asItem : GoodIn wsX7_item wsX7_asItem := goodIn_r _ [14] rfl (by decide +kernel)
set_option maxRecDepth 20000 in
theorem gX7_item_X7_asItem : GoodIn wsX7_item (va_wsS RX7 298 yX7_asItem wsX7_asItem) := goodIn_app (goodIn_of _ (by decide +kernel)) ggX7_item_X7_asItem
theorem dX7_item_0 : decode cX7_item 0 = .ok (.iload_n 1, 1) := by decide +kernel
theorem dX7_item_1 : decode cX7_item 1 = .ok (.invokestatic 248, 3) := by decide +kernel
theorem dX7_item_4 : decode cX7_item 4 = .ok (.ifCond .ne 5, 3) := by decide +kernel
theorem dX7_item_7 : decode cX7_item 7 = .ok (.iconst (-1), 1) := by decide +kernel
theorem dX7_item_8 : decode cX7_item 8 = .ok (.ireturn, 1) := by decide +kernel
theorem dX7_item_9 : decode cX7_item 9 = .ok (.aload_n 0, 1) := by decide +kernel
theorem dX7_item_10 : decode cX7_item 10 = .ok (.getfield 60, 3) := by decide +kernel
theorem dX7_item_13 : decode cX7_item 13 = .ok (.iload_n 1, 1) := by decide +kernel
theorem dX7_item_14 : decode cX7_item 14 = .ok (.aaload, 1) := by decide +kernel
theorem dX7_item_15 : decode cX7_item 15 = .ok (.astore 5, 2) := by decide +kernel
theorem dX7_item_17 : decode cX7_item 17 = .ok (.aload 5, 2) := by decide +kernel
theorem dX7_item_19 : decode cX7_item 19 = .ok (.getfield 251, 3) := by decide +kernel
theorem dX7_item_22 : decode cX7_item 22 = .ok (.iconst (-1), 1) := by decide +kernel
theorem dX7_item_23 : decode cX7_item 23 = .ok (.if_icmp .ne 6, 3) := by decide +kernel
theorem dX7_item_26 : decode cX7_item 26 = .ok (.bipush (-11), 2) := by decide +kernel
theorem dX7_item_28 : decode cX7_item 28 = .ok (.ireturn, 1) := by decide +kernel
theorem dX7_item_29 : decode cX7_item 29 = .ok (.iload_n 2, 1) := by decide +kernel
theorem dX7_item_30 : decode cX7_item 30 = .ok (.aload 5, 2) := by decide +kernel
theorem dX7_item_32 : decode cX7_item 32 = .ok (.getfield 291, 3) := by decide +kernel
theorem dX7_item_35 : decode cX7_item 35 = .ok (.iconst 1, 1) := by decide +kernel
theorem dX7_item_36 : decode cX7_item 36 = .ok (.isub, 1) := by decide +kernel
theorem dX7_item_37 : decode cX7_item 37 = .ok (.invokestatic 66, 3) := by decide +kernel
theorem dX7_item_40 : decode cX7_item 40 = .ok (.ifCond .ne 6, 3) := by decide +kernel
theorem dX7_item_43 : decode cX7_item 43 = .ok (.bipush (-13), 2) := by decide +kernel
theorem dX7_item_45 : decode cX7_item 45 = .ok (.ireturn, 1) := by decide +kernel
theorem dX7_item_46 : decode cX7_item 46 = .ok (.aload 5, 2) := by decide +kernel
theorem dX7_item_48 : decode cX7_item 48 = .ok (.getfield 294, 3) := by decide +kernel
theorem dX7_item_51 : decode cX7_item 51 = .ok (.iload_n 2, 1) := by decide +kernel
theorem dX7_item_52 : decode cX7_item 52 = .ok (.aload 5, 2) := by decide +kernel
theorem dX7_item_54 : decode cX7_item 54 = .ok (.getfield 251, 3) := by decide +kernel
theorem dX7_item_57 : decode cX7_item 57 = .ok (.lload_n 3, 1) := by decide +kernel
theorem dX7_item_58 : decode cX7_item 58 = .ok (.invokestatic 298, 3) := by decide +kernel
theorem dX7_item_61 : decode cX7_item 61 = .ok (.lastore, 1) := by decide +kernel
theorem dX7_item_62 : decode cX7_item 62 = .ok (.iconst 1, 1) := by decide +kernel
theorem dX7_item_63 : decode cX7_item 63 = .ok (.ireturn, 1) := by decide +kernel
set_option maxRecDepth 20000 in
theorem ggX7_read_X7_isTape : GoodIn wsX7_read wsX7_isTape := goodIn_r _ [8, 9, 10, 7, 11] rfl (by decide +kernel)
set_option maxRecDepth 20000 in
theorem gX7_read_X7_isTape : GoodIn wsX7_read (va_wsS RX7 248 yX7_isTape wsX7_isTape) := goodIn_app (goodIn_of _ (by decide +kernel)) ggX7_read_X7_isTape
set_option maxRecDepth 20000 in
theorem ggX7_read_X7_isWithin : GoodIn wsX7_read wsX7_isWithin := goodIn_r _ [11] rfl (by decide +kernel)
set_option maxRecDepth 20000 in
theorem gX7_read_X7_isWithin : GoodIn wsX7_read (va_wsS RX7 66 yX7_isWithin wsX7_isWithin) := goodIn_app (goodIn_of _ (by decide +kernel)) ggX7_read_X7_isWithin
theorem dX7_read_0 : decode cX7_read 0 = .ok (.iload_n 1, 1) := by decide +kernel
theorem dX7_read_1 : decode cX7_read 1 = .ok (.invokestatic 248, 3) := by decide +kernel
theorem dX7_read_4 : decode cX7_read 4 = .ok (.ifCond .eq 21, 3) := by decide +kernel
theorem dX7_read_7 : decode cX7_read 7 = .ok (.iload_n 2, 1) := by decide +kernel
theorem dX7_read_8 : decode cX7_read 8 = .ok (.aload_n 0, 1) := by decide +kernel
theorem dX7_read_9 : decode cX7_read 9 = .ok (.getfield 60, 3) := by decide +kernel
theorem dX7_read_12 : decode cX7_read 12 = .ok (.iload_n 1, 1) := by decide +kernel
theorem dX7_read_13 : decode cX7_read 13 = .ok (.aaload, 1) := by decide +kernel
theorem dX7_read_14 : decode cX7_read 14 = .ok (.getfield 291, 3) := by decide +kernel
theorem dX7_read_17 : decode cX7_read 17 = .ok (.iconst 1, 1) := by decide +kernel
theorem dX7_read_18 : decode cX7_read 18 = .ok (.isub, 1) := by decide +kernel
theorem dX7_read_19 : decode cX7_read 19 = .ok (.invokestatic 66, 3) := by decide +kernel
theorem dX7_read_22 : decode cX7_read 22 = .ok (.ifCond .ne 7, 3) := by decide +kernel
theorem dX7_read_25 : decode cX7_read 25 = .ok (.ldc2_w 213, 3) := by decide +kernel
theorem dX7_read_28 : decode cX7_read 28 = .ok (.lreturn, 1) := by decide +kernel
theorem dX7_read_29 : decode cX7_read 29 = .ok (.aload_n 0, 1) := by decide +kernel
theorem dX7_read_30 : decode cX7_read 30 = .ok (.getfield 60, 3) := by decide +kernel
theorem dX7_read_33 : decode cX7_read 33 = .ok (.iload_n 1, 1) := by decide +kernel
theorem dX7_read_34 : decode cX7_read 34 = .ok (.aaload, 1) := by decide +kernel
theorem dX7_read_35 : decode cX7_read 35 = .ok (.getfield 294, 3) := by decide +kernel
theorem dX7_read_38 : decode cX7_read 38 = .ok (.iload_n 2, 1) := by decide +kernel
theorem dX7_read_39 : decode cX7_read 39 = .ok (.laload, 1) := by decide +kernel
theorem dX7_read_40 : decode cX7_read 40 = .ok (.lreturn, 1) := by decide +kernel
set_option maxRecDepth 20000 in
theorem ggX7_shift_X7_isTape : GoodIn wsX7_shift wsX7_isTape := goodIn_r _ [11, 12, 13, 10, 14] rfl (by decide +kernel)
set_option maxRecDepth 20000 in
theorem gX7_shift_X7_isTape : GoodIn wsX7_shift (va_wsS RX7 248 yX7_isTape wsX7_isTape) := goodIn_app (goodIn_of _ (by decide +kernel)) ggX7_shift_X7_isTape
set_option maxRecDepth 20000 in
theorem ggX7_shift_X6_hasRoom : GoodIn wsX7_shift wsX6_hasRoom := goodIn_r _ [19, 20, 32, 33, 34] rfl (by decide +kernel)
set_option maxRecDepth 20000 in
theorem gX7_shift_X6_hasRoom : GoodIn wsX7_shift (wsV RX7 302 RX6 yX6_hasRoom wsX6_hasRoom) := goodIn_app (goodIn_of _ (by decide +kernel)) ggX7_shift_X6_hasRoom
theorem dX7_shift_0 : decode cX7_shift 0 = .ok (.iload_n 1, 1) := by decide +kernel
theorem dX7_shift_1 : decode cX7_shift 1 = .ok (.invokestatic 248, 3) := by decide +kernel
theorem dX7_shift_4 : decode cX7_shift 4 = .ok (.ifCond .eq 10, 3) := by decide +kernel
theorem dX7_shift_7 : decode cX7_shift 7 = .ok (.iload_n 3, 1) := by decide +kernel
theorem dX7_shift_8 : decode cX7_shift 8 = .ok (.invokestatic 248, 3) := by decide +kernel
theorem dX7_shift_11 : decode cX7_shift 11 = .ok (.ifCond .ne 5, 3) := by decide +kernel
theorem dX7_shift_14 : decode cX7_shift 14 = .ok (.iconst (-1), 1) := by decide +kernel
theorem dX7_shift_15 : decode cX7_shift 15 = .ok (.ireturn, 1) := by decide +kernel
theorem dX7_shift_16 : decode cX7_shift 16 = .ok (.aload_n 0, 1) := by decide +kernel
theorem dX7_shift_17 : decode cX7_shift 17 = .ok (.getfield 60, 3) := by decide +kernel
theorem dX7_shift_20 : decode cX7_shift 20 = .ok (.iload_n 1, 1) := by decide +kernel
theorem dX7_shift_21 : decode cX7_shift 21 = .ok (.aaload, 1) := by decide +kernel
theorem dX7_shift_22 : decode cX7_shift 22 = .ok (.astore 6, 2) := by decide +kernel
theorem dX7_shift_24 : decode cX7_shift 24 = .ok (.aload_n 0, 1) := by decide +kernel
theorem dX7_shift_25 : decode cX7_shift 25 = .ok (.getfield 60, 3) := by decide +kernel
theorem dX7_shift_28 : decode cX7_shift 28 = .ok (.iload_n 3, 1) := by decide +kernel
theorem dX7_shift_29 : decode cX7_shift 29 = .ok (.aaload, 1) := by decide +kernel
theorem dX7_shift_30 : decode cX7_shift 30 = .ok (.astore 7, 2) := by decide +kernel
theorem dX7_shift_32 : decode cX7_shift 32 = .ok (.aload 6, 2) := by decide +kernel
theorem dX7_shift_34 : decode cX7_shift 34 = .ok (.getfield 251, 3) := by decide +kernel
theorem dX7_shift_37 : decode cX7_shift 37 = .ok (.iconst (-1), 1) := by decide +kernel
theorem dX7_shift_38 : decode cX7_shift 38 = .ok (.if_icmp .eq 12, 3) := by decide +kernel
theorem dX7_shift_41 : decode cX7_shift 41 = .ok (.aload 7, 2) := by decide +kernel
theorem dX7_shift_43 : decode cX7_shift 43 = .ok (.getfield 251, 3) := by decide +kernel
theorem dX7_shift_46 : decode cX7_shift 46 = .ok (.iconst (-1), 1) := by decide +kernel
theorem dX7_shift_47 : decode cX7_shift 47 = .ok (.if_icmp .ne 6, 3) := by decide +kernel
theorem dX7_shift_50 : decode cX7_shift 50 = .ok (.bipush (-11), 2) := by decide +kernel
theorem dX7_shift_52 : decode cX7_shift 52 = .ok (.ireturn, 1) := by decide +kernel
theorem dX7_shift_53 : decode cX7_shift 53 = .ok (.aload 6, 2) := by decide +kernel
theorem dX7_shift_55 : decode cX7_shift 55 = .ok (.getfield 251, 3) := by decide +kernel
theorem dX7_shift_58 : decode cX7_shift 58 = .ok (.aload 7, 2) := by decide +kernel
theorem dX7_shift_60 : decode cX7_shift 60 = .ok (.getfield 251, 3) := by decide +kernel
theorem dX7_shift_63 : decode cX7_shift 63 = .ok (.if_icmp .eq 6, 3) := by decide +kernel
theorem dX7_shift_66 : decode cX7_shift 66 = .ok (.bipush (-12), 2) := by decide +kernel
theorem dX7_shift_68 : decode cX7_shift 68 = .ok (.ireturn, 1) := by decide +kernel
theorem dX7_shift_69 : decode cX7_shift 69 = .ok (.iload 5, 2) := by decide +kernel
theorem dX7_shift_71 : decode cX7_shift 71 = .ok (.ifCond .lt 26, 3) := by decide +kernel
theorem dX7_shift_74 : decode cX7_shift 74 = .ok (.aload 6, 2) := by decide +kernel
theorem dX7_shift_76 : decode cX7_shift 76 = .ok (.iload_n 2, 1) := by decide +kernel
theorem dX7_shift_77 : decode cX7_shift 77 = .ok (.iload 5, 2) := by decide +kernel
theorem dX7_shift_79 : decode cX7_shift 79 = .ok (.invokevirtual 302, 3) := by decide +kernel
theorem dX7_shift_82 : decode cX7_shift 82 = .ok (.ifCond .eq 15, 3) := by decide +kernel
theorem dX7_shift_85 : decode cX7_shift 85 = .ok (.aload 7, 2) := by decide +kernel
theorem dX7_shift_87 : decode cX7_shift 87 = .ok (.iload 4, 2) := by decide +kernel
theorem dX7_shift_89 : decode cX7_shift 89 = .ok (.iload 5, 2) := by decide +kernel
theorem dX7_shift_91 : decode cX7_shift 91 = .ok (.invokevirtual 302, 3) := by decide +kernel
theorem dX7_shift_94 : decode cX7_shift 94 = .ok (.ifCond .ne 6, 3) := by decide +kernel
theorem dX7_shift_97 : decode cX7_shift 97 = .ok (.bipush (-13), 2) := by decide +kernel
theorem dX7_shift_99 : decode cX7_shift 99 = .ok (.ireturn, 1) := by decide +kernel
theorem dX7_shift_100 : decode cX7_shift 100 = .ok (.aload 6, 2) := by decide +kernel
theorem dX7_shift_102 : decode cX7_shift 102 = .ok (.getfield 294, 3) := by decide +kernel
theorem dX7_shift_105 : decode cX7_shift 105 = .ok (.iload_n 2, 1) := by decide +kernel
theorem dX7_shift_106 : decode cX7_shift 106 = .ok (.aload 7, 2) := by decide +kernel
theorem dX7_shift_108 : decode cX7_shift 108 = .ok (.getfield 294, 3) := by decide +kernel
theorem dX7_shift_111 : decode cX7_shift 111 = .ok (.iload 4, 2) := by decide +kernel
theorem dX7_shift_113 : decode cX7_shift 113 = .ok (.iload 5, 2) := by decide +kernel
theorem dX7_shift_115 : decode cX7_shift 115 = .ok (.invokestatic 305, 3) := by decide +kernel
theorem dX7_shift_118 : decode cX7_shift 118 = .ok (.iload 5, 2) := by decide +kernel
theorem dX7_shift_120 : decode cX7_shift 120 = .ok (.ireturn, 1) := by decide +kernel
theorem dX7_isWithin_0 : decode cX7_isWithin 0 = .ok (.iload_n 0, 1) := by decide +kernel
theorem dX7_isWithin_1 : decode cX7_isWithin 1 = .ok (.ifCond .lt 12, 3) := by decide +kernel
theorem dX7_isWithin_4 : decode cX7_isWithin 4 = .ok (.iload_n 0, 1) := by decide +kernel
theorem dX7_isWithin_5 : decode cX7_isWithin 5 = .ok (.iload_n 1, 1) := by decide +kernel
theorem dX7_isWithin_6 : decode cX7_isWithin 6 = .ok (.if_icmp .gt 7, 3) := by decide +kernel
theorem dX7_isWithin_9 : decode cX7_isWithin 9 = .ok (.iconst 1, 1) := by decide +kernel
theorem dX7_isWithin_10 : decode cX7_isWithin 10 = .ok (.goto 4, 3) := by decide +kernel
theorem dX7_isWithin_13 : decode cX7_isWithin 13 = .ok (.iconst 0, 1) := by decide +kernel
theorem dX7_isWithin_14 : decode cX7_isWithin 14 = .ok (.ireturn, 1) := by decide +kernel
set_option maxRecDepth 20000 in
theorem ggX7_isTape_X7_isWithin : GoodIn wsX7_isTape wsX7_isWithin := goodIn_r _ [4] rfl (by decide +kernel)
set_option maxRecDepth 20000 in
theorem gX7_isTape_X7_isWithin : GoodIn wsX7_isTape (va_wsS RX7 66 yX7_isWithin wsX7_isWithin) := goodIn_app (goodIn_of _ (by decide +kernel)) ggX7_isTape_X7_isWithin
theorem dX7_isTape_0 : decode cX7_isTape 0 = .ok (.iload_n 0, 1) := by decide +kernel
theorem dX7_isTape_1 : decode cX7_isTape 1 = .ok (.iconst 5, 1) := by decide +kernel
theorem dX7_isTape_2 : decode cX7_isTape 2 = .ok (.invokestatic 66, 3) := by decide +kernel
theorem dX7_isTape_5 : decode cX7_isTape 5 = .ok (.ireturn, 1) := by decide +kernel
set_option maxRecDepth 20000 in
theorem ggX7_isPlanRow_X2_isLeaf : GoodIn wsX7_isPlanRow wsX2_isLeaf := goodIn_r _ [6, 7, 24, 25, 26, 27, 28, 29, 30, 31, 32, 33, 34, 35, 36, 37] rfl (by decide +kernel)
set_option maxRecDepth 20000 in
theorem gX7_isPlanRow_X2_isLeaf : GoodIn wsX7_isPlanRow (wsV RX7 105 RX2 yX2_isLeaf wsX2_isLeaf) := goodIn_app (goodIn_of _ (by decide +kernel)) ggX7_isPlanRow_X2_isLeaf
set_option maxRecDepth 20000 in
theorem ggX7_isPlanRow_X2_isPerson : GoodIn wsX7_isPlanRow wsX2_isPerson := goodIn_r _ [11, 12, 24, 25, 26, 27, 28, 29, 30, 31, 32, 33, 34, 35, 36, 37] rfl (by decide +kernel)
set_option maxRecDepth 20000 in
theorem gX7_isPlanRow_X2_isPerson : GoodIn wsX7_isPlanRow (wsV RX7 78 RX2 yX2_isPerson wsX2_isPerson) := goodIn_app (goodIn_of _ (by decide +kernel)) ggX7_isPlanRow_X2_isPerson
theorem dX7_isPlanRow_0 : decode cX7_isPlanRow 0 = .ok (.iload_n 1, 1) := by decide +kernel
theorem dX7_isPlanRow_1 : decode cX7_isPlanRow 1 = .ok (.tableswitch 60 0 3 #[31, 33, 42, 51], 31) := by decide +kernel
theorem dX7_isPlanRow_32 : decode cX7_isPlanRow 32 = .ok (.iconst 1, 1) := by decide +kernel
theorem dX7_isPlanRow_33 : decode cX7_isPlanRow 33 = .ok (.ireturn, 1) := by decide +kernel
theorem dX7_isPlanRow_34 : decode cX7_isPlanRow 34 = .ok (.aload_n 0, 1) := by decide +kernel
theorem dX7_isPlanRow_35 : decode cX7_isPlanRow 35 = .ok (.getfield 14, 3) := by decide +kernel
theorem dX7_isPlanRow_38 : decode cX7_isPlanRow 38 = .ok (.iload_n 2, 1) := by decide +kernel
theorem dX7_isPlanRow_39 : decode cX7_isPlanRow 39 = .ok (.invokevirtual 105, 3) := by decide +kernel
theorem dX7_isPlanRow_42 : decode cX7_isPlanRow 42 = .ok (.ireturn, 1) := by decide +kernel
theorem dX7_isPlanRow_43 : decode cX7_isPlanRow 43 = .ok (.aload_n 0, 1) := by decide +kernel
theorem dX7_isPlanRow_44 : decode cX7_isPlanRow 44 = .ok (.getfield 14, 3) := by decide +kernel
theorem dX7_isPlanRow_47 : decode cX7_isPlanRow 47 = .ok (.iload_n 2, 1) := by decide +kernel
theorem dX7_isPlanRow_48 : decode cX7_isPlanRow 48 = .ok (.invokevirtual 105, 3) := by decide +kernel
theorem dX7_isPlanRow_51 : decode cX7_isPlanRow 51 = .ok (.ireturn, 1) := by decide +kernel
theorem dX7_isPlanRow_52 : decode cX7_isPlanRow 52 = .ok (.aload_n 0, 1) := by decide +kernel
theorem dX7_isPlanRow_53 : decode cX7_isPlanRow 53 = .ok (.getfield 14, 3) := by decide +kernel
theorem dX7_isPlanRow_56 : decode cX7_isPlanRow 56 = .ok (.iload_n 2, 1) := by decide +kernel
theorem dX7_isPlanRow_57 : decode cX7_isPlanRow 57 = .ok (.invokevirtual 78, 3) := by decide +kernel
theorem dX7_isPlanRow_60 : decode cX7_isPlanRow 60 = .ok (.ireturn, 1) := by decide +kernel
theorem dX7_isPlanRow_61 : decode cX7_isPlanRow 61 = .ok (.iconst 0, 1) := by decide +kernel
theorem dX7_isPlanRow_62 : decode cX7_isPlanRow 62 = .ok (.ireturn, 1) := by decide +kernel
theorem dX7_judged_0 : decode cX7_judged 0 = .ok (.iconst 0, 1) := by decide +kernel
theorem dX7_judged_1 : decode cX7_judged 1 = .ok (.istore_n 3, 1) := by decide +kernel
theorem dX7_judged_2 : decode cX7_judged 2 = .ok (.iload_n 3, 1) := by decide +kernel
theorem dX7_judged_3 : decode cX7_judged 3 = .ok (.aload_n 0, 1) := by decide +kernel
theorem dX7_judged_4 : decode cX7_judged 4 = .ok (.getfield 14, 3) := by decide +kernel
theorem dX7_judged_7 : decode cX7_judged 7 = .ok (.getfield 70, 3) := by decide +kernel
theorem dX7_judged_10 : decode cX7_judged 10 = .ok (.if_icmp .ge 52, 3) := by decide +kernel
theorem dX7_judged_13 : decode cX7_judged 13 = .ok (.iload_n 2, 1) := by decide +kernel
theorem dX7_judged_14 : decode cX7_judged 14 = .ok (.ifCond .lt 13, 3) := by decide +kernel
theorem dX7_judged_17 : decode cX7_judged 17 = .ok (.iload_n 2, 1) := by decide +kernel
theorem dX7_judged_18 : decode cX7_judged 18 = .ok (.aload_n 1, 1) := by decide +kernel
theorem dX7_judged_19 : decode cX7_judged 19 = .ok (.getfield 291, 3) := by decide +kernel
theorem dX7_judged_22 : decode cX7_judged 22 = .ok (.iload_n 3, 1) := by decide +kernel
theorem dX7_judged_23 : decode cX7_judged 23 = .ok (.isub, 1) := by decide +kernel
theorem dX7_judged_24 : decode cX7_judged 24 = .ok (.if_icmp .lt 8, 3) := by decide +kernel
theorem dX7_judged_27 : decode cX7_judged 27 = .ok (.bipush 100, 2) := by decide +kernel
theorem dX7_judged_29 : decode cX7_judged 29 = .ok (.iload_n 3, 1) := by decide +kernel
theorem dX7_judged_30 : decode cX7_judged 30 = .ok (.iadd, 1) := by decide +kernel
theorem dX7_judged_31 : decode cX7_judged 31 = .ok (.ireturn, 1) := by decide +kernel
theorem dX7_judged_32 : decode cX7_judged 32 = .ok (.aload_n 1, 1) := by decide +kernel
theorem dX7_judged_33 : decode cX7_judged 33 = .ok (.getfield 294, 3) := by decide +kernel
theorem dX7_judged_36 : decode cX7_judged 36 = .ok (.iload_n 2, 1) := by decide +kernel
theorem dX7_judged_37 : decode cX7_judged 37 = .ok (.iload_n 3, 1) := by decide +kernel
theorem dX7_judged_38 : decode cX7_judged 38 = .ok (.iadd, 1) := by decide +kernel
theorem dX7_judged_39 : decode cX7_judged 39 = .ok (.laload, 1) := by decide +kernel
theorem dX7_judged_40 : decode cX7_judged 40 = .ok (.aload_n 0, 1) := by decide +kernel
theorem dX7_judged_41 : decode cX7_judged 41 = .ok (.getfield 14, 3) := by decide +kernel
theorem dX7_judged_44 : decode cX7_judged 44 = .ok (.getfield 89, 3) := by decide +kernel
theorem dX7_judged_47 : decode cX7_judged 47 = .ok (.iload_n 3, 1) := by decide +kernel
theorem dX7_judged_48 : decode cX7_judged 48 = .ok (.iaload, 1) := by decide +kernel
theorem dX7_judged_49 : decode cX7_judged 49 = .ok (.i2l, 1) := by decide +kernel
theorem dX7_judged_50 : decode cX7_judged 50 = .ok (.lcmp, 1) := by decide +kernel
theorem dX7_judged_51 : decode cX7_judged 51 = .ok (.ifCond .eq 5, 3) := by decide +kernel
theorem dX7_judged_54 : decode cX7_judged 54 = .ok (.iload_n 3, 1) := by decide +kernel
theorem dX7_judged_55 : decode cX7_judged 55 = .ok (.ireturn, 1) := by decide +kernel
theorem dX7_judged_56 : decode cX7_judged 56 = .ok (.iinc 3 1, 3) := by decide +kernel
theorem dX7_judged_59 : decode cX7_judged 59 = .ok (.goto (-57), 3) := by decide +kernel
theorem dX7_judged_62 : decode cX7_judged 62 = .ok (.bipush (-5), 2) := by decide +kernel
theorem dX7_judged_64 : decode cX7_judged 64 = .ok (.ireturn, 1) := by decide +kernel
set_option maxRecDepth 20000 in
theorem ggX7_isKindOrUnder_X7_isWithin : GoodIn wsX7_isKindOrUnder wsX7_isWithin := goodIn_r _ [5] rfl (by decide +kernel)
set_option maxRecDepth 20000 in
theorem gX7_isKindOrUnder_X7_isWithin : GoodIn wsX7_isKindOrUnder (va_wsS RX7 66 yX7_isWithin wsX7_isWithin) := goodIn_app (goodIn_of _ (by decide +kernel)) ggX7_isKindOrUnder_X7_isWithin
theorem dX7_isKindOrUnder_0 : decode cX7_isKindOrUnder 0 = .ok (.iload_n 0, 1) := by decide +kernel
theorem dX7_isKindOrUnder_1 : decode cX7_isKindOrUnder 1 = .ok (.istore_n 2, 1) := by decide +kernel
theorem dX7_isKindOrUnder_2 : decode cX7_isKindOrUnder 2 = .ok (.iconst 0, 1) := by decide +kernel
theorem dX7_isKindOrUnder_3 : decode cX7_isKindOrUnder 3 = .ok (.istore_n 3, 1) := by decide +kernel
theorem dX7_isKindOrUnder_4 : decode cX7_isKindOrUnder 4 = .ok (.iload_n 3, 1) := by decide +kernel
theorem dX7_isKindOrUnder_5 : decode cX7_isKindOrUnder 5 = .ok (.bipush 6, 2) := by decide +kernel
theorem dX7_isKindOrUnder_7 : decode cX7_isKindOrUnder 7 = .ok (.if_icmp .gt 31, 3) := by decide +kernel
theorem dX7_isKindOrUnder_10 : decode cX7_isKindOrUnder 10 = .ok (.iload_n 2, 1) := by decide +kernel
theorem dX7_isKindOrUnder_11 : decode cX7_isKindOrUnder 11 = .ok (.bipush 6, 2) := by decide +kernel
theorem dX7_isKindOrUnder_13 : decode cX7_isKindOrUnder 13 = .ok (.invokestatic 66, 3) := by decide +kernel
theorem dX7_isKindOrUnder_16 : decode cX7_isKindOrUnder 16 = .ok (.ifCond .eq 22, 3) := by decide +kernel
theorem dX7_isKindOrUnder_19 : decode cX7_isKindOrUnder 19 = .ok (.iload_n 2, 1) := by decide +kernel
theorem dX7_isKindOrUnder_20 : decode cX7_isKindOrUnder 20 = .ok (.iload_n 1, 1) := by decide +kernel
theorem dX7_isKindOrUnder_21 : decode cX7_isKindOrUnder 21 = .ok (.if_icmp .ne 5, 3) := by decide +kernel
theorem dX7_isKindOrUnder_24 : decode cX7_isKindOrUnder 24 = .ok (.iconst 1, 1) := by decide +kernel
theorem dX7_isKindOrUnder_25 : decode cX7_isKindOrUnder 25 = .ok (.ireturn, 1) := by decide +kernel
theorem dX7_isKindOrUnder_26 : decode cX7_isKindOrUnder 26 = .ok (.getstatic 311, 3) := by decide +kernel
theorem dX7_isKindOrUnder_29 : decode cX7_isKindOrUnder 29 = .ok (.iload_n 2, 1) := by decide +kernel
theorem dX7_isKindOrUnder_30 : decode cX7_isKindOrUnder 30 = .ok (.iaload, 1) := by decide +kernel
theorem dX7_isKindOrUnder_31 : decode cX7_isKindOrUnder 31 = .ok (.istore_n 2, 1) := by decide +kernel
theorem dX7_isKindOrUnder_32 : decode cX7_isKindOrUnder 32 = .ok (.iinc 3 1, 3) := by decide +kernel
theorem dX7_isKindOrUnder_35 : decode cX7_isKindOrUnder 35 = .ok (.goto (-31), 3) := by decide +kernel
theorem dX7_isKindOrUnder_38 : decode cX7_isKindOrUnder 38 = .ok (.iconst 0, 1) := by decide +kernel
theorem dX7_isKindOrUnder_39 : decode cX7_isKindOrUnder 39 = .ok (.ireturn, 1) := by decide +kernel
theorem dX7_asItem_0 : decode cX7_asItem 0 = .ok (.iload_n 0, 1) := by decide +kernel
theorem dX7_asItem_1 : decode cX7_asItem 1 = .ok (.tableswitch 61 0 4 #[35, 40, 45, 61, 49], 35) := by decide +kernel
theorem dX7_asItem_36 : decode cX7_asItem 36 = .ok (.lload_n 1, 1) := by decide +kernel
theorem dX7_asItem_37 : decode cX7_asItem 37 = .ok (.l2i, 1) := by decide +kernel
theorem dX7_asItem_38 : decode cX7_asItem 38 = .ok (.i2b, 1) := by decide +kernel
theorem dX7_asItem_39 : decode cX7_asItem 39 = .ok (.i2l, 1) := by decide +kernel
theorem dX7_asItem_40 : decode cX7_asItem 40 = .ok (.lreturn, 1) := by decide +kernel
theorem dX7_asItem_41 : decode cX7_asItem 41 = .ok (.lload_n 1, 1) := by decide +kernel
theorem dX7_asItem_42 : decode cX7_asItem 42 = .ok (.l2i, 1) := by decide +kernel
theorem dX7_asItem_43 : decode cX7_asItem 43 = .ok (.i2s, 1) := by decide +kernel
theorem dX7_asItem_44 : decode cX7_asItem 44 = .ok (.i2l, 1) := by decide +kernel
theorem dX7_asItem_45 : decode cX7_asItem 45 = .ok (.lreturn, 1) := by decide +kernel
theorem dX7_asItem_46 : decode cX7_asItem 46 = .ok (.lload_n 1, 1) := by decide +kernel
theorem dX7_asItem_47 : decode cX7_asItem 47 = .ok (.l2i, 1) := by decide +kernel
theorem dX7_asItem_48 : decode cX7_asItem 48 = .ok (.i2l, 1) := by decide +kernel
theorem dX7_asItem_49 : decode cX7_asItem 49 = .ok (.lreturn, 1) := by decide +kernel
theorem dX7_asItem_50 : decode cX7_asItem 50 = .ok (.lload_n 1, 1) := by decide +kernel
theorem dX7_asItem_51 : decode cX7_asItem 51 = .ok (.lconst 0, 1) := by decide +kernel
theorem dX7_asItem_52 : decode cX7_asItem 52 = .ok (.lcmp, 1) := by decide +kernel
theorem dX7_asItem_53 : decode cX7_asItem 53 = .ok (.ifCond .eq 7, 3) := by decide +kernel
theorem dX7_asItem_56 : decode cX7_asItem 56 = .ok (.lconst 1, 1) := by decide +kernel
theorem dX7_asItem_57 : decode cX7_asItem 57 = .ok (.goto 4, 3) := by decide +kernel
theorem dX7_asItem_60 : decode cX7_asItem 60 = .ok (.lconst 0, 1) := by decide +kernel
theorem dX7_asItem_61 : decode cX7_asItem 61 = .ok (.lreturn, 1) := by decide +kernel
theorem dX7_asItem_62 : decode cX7_asItem 62 = .ok (.lload_n 1, 1) := by decide +kernel
theorem dX7_asItem_63 : decode cX7_asItem 63 = .ok (.lreturn, 1) := by decide +kernel
set_option maxRecDepth 20000 in
theorem ggX7_partOfLowest_X7_greatestShared : GoodIn wsX7_partOfLowest wsX7_greatestShared := goodIn_r _ [5] rfl (by decide +kernel)
set_option maxRecDepth 20000 in
theorem gX7_partOfLowest_X7_greatestShared : GoodIn wsX7_partOfLowest (va_wsS RX7 314 yX7_greatestShared wsX7_greatestShared) := goodIn_app (goodIn_of _ (by decide +kernel)) ggX7_partOfLowest_X7_greatestShared
theorem dX7_partOfLowest_0 : decode cX7_partOfLowest 0 = .ok (.iload_n 0, 1) := by decide +kernel
theorem dX7_partOfLowest_1 : decode cX7_partOfLowest 1 = .ok (.iload_n 1, 1) := by decide +kernel
theorem dX7_partOfLowest_2 : decode cX7_partOfLowest 2 = .ok (.invokestatic 314, 3) := by decide +kernel
theorem dX7_partOfLowest_5 : decode cX7_partOfLowest 5 = .ok (.istore_n 3, 1) := by decide +kernel
theorem dX7_partOfLowest_6 : decode cX7_partOfLowest 6 = .ok (.iload_n 3, 1) := by decide +kernel
theorem dX7_partOfLowest_7 : decode cX7_partOfLowest 7 = .ok (.iconst 1, 1) := by decide +kernel
theorem dX7_partOfLowest_8 : decode cX7_partOfLowest 8 = .ok (.if_icmp .ge 7, 3) := by decide +kernel
theorem dX7_partOfLowest_11 : decode cX7_partOfLowest 11 = .ok (.ldc2_w 213, 3) := by decide +kernel
theorem dX7_partOfLowest_14 : decode cX7_partOfLowest 14 = .ok (.lreturn, 1) := by decide +kernel
theorem dX7_partOfLowest_15 : decode cX7_partOfLowest 15 = .ok (.iload_n 2, 1) := by decide +kernel
theorem dX7_partOfLowest_16 : decode cX7_partOfLowest 16 = .ok (.ifCond .ne 10, 3) := by decide +kernel
theorem dX7_partOfLowest_19 : decode cX7_partOfLowest 19 = .ok (.iload_n 0, 1) := by decide +kernel
theorem dX7_partOfLowest_20 : decode cX7_partOfLowest 20 = .ok (.iload_n 3, 1) := by decide +kernel
theorem dX7_partOfLowest_21 : decode cX7_partOfLowest 21 = .ok (.idiv, 1) := by decide +kernel
theorem dX7_partOfLowest_22 : decode cX7_partOfLowest 22 = .ok (.i2l, 1) := by decide +kernel
theorem dX7_partOfLowest_23 : decode cX7_partOfLowest 23 = .ok (.goto 7, 3) := by decide +kernel
theorem dX7_partOfLowest_26 : decode cX7_partOfLowest 26 = .ok (.iload_n 1, 1) := by decide +kernel
theorem dX7_partOfLowest_27 : decode cX7_partOfLowest 27 = .ok (.iload_n 3, 1) := by decide +kernel
theorem dX7_partOfLowest_28 : decode cX7_partOfLowest 28 = .ok (.idiv, 1) := by decide +kernel
theorem dX7_partOfLowest_29 : decode cX7_partOfLowest 29 = .ok (.i2l, 1) := by decide +kernel
theorem dX7_partOfLowest_30 : decode cX7_partOfLowest 30 = .ok (.lreturn, 1) := by decide +kernel
theorem dX7_greatestShared_0 : decode cX7_greatestShared 0 = .ok (.iload_n 1, 1) := by decide +kernel
theorem dX7_greatestShared_1 : decode cX7_greatestShared 1 = .ok (.istore_n 2, 1) := by decide +kernel
theorem dX7_greatestShared_2 : decode cX7_greatestShared 2 = .ok (.iload_n 0, 1) := by decide +kernel
theorem dX7_greatestShared_3 : decode cX7_greatestShared 3 = .ok (.istore_n 3, 1) := by decide +kernel
theorem dX7_greatestShared_4 : decode cX7_greatestShared 4 = .ok (.iconst 0, 1) := by decide +kernel
theorem dX7_greatestShared_5 : decode cX7_greatestShared 5 = .ok (.istore 4, 2) := by decide +kernel
theorem dX7_greatestShared_7 : decode cX7_greatestShared 7 = .ok (.iload 4, 2) := by decide +kernel
theorem dX7_greatestShared_9 : decode cX7_greatestShared 9 = .ok (.iload_n 0, 1) := by decide +kernel
theorem dX7_greatestShared_10 : decode cX7_greatestShared 10 = .ok (.if_icmp .gt 23, 3) := by decide +kernel
theorem dX7_greatestShared_13 : decode cX7_greatestShared 13 = .ok (.iload_n 3, 1) := by decide +kernel
theorem dX7_greatestShared_14 : decode cX7_greatestShared 14 = .ok (.ifCond .le 19, 3) := by decide +kernel
theorem dX7_greatestShared_17 : decode cX7_greatestShared 17 = .ok (.iload_n 2, 1) := by decide +kernel
theorem dX7_greatestShared_18 : decode cX7_greatestShared 18 = .ok (.iload_n 3, 1) := by decide +kernel
theorem dX7_greatestShared_19 : decode cX7_greatestShared 19 = .ok (.irem, 1) := by decide +kernel
theorem dX7_greatestShared_20 : decode cX7_greatestShared 20 = .ok (.istore 5, 2) := by decide +kernel
theorem dX7_greatestShared_22 : decode cX7_greatestShared 22 = .ok (.iload_n 3, 1) := by decide +kernel
theorem dX7_greatestShared_23 : decode cX7_greatestShared 23 = .ok (.istore_n 2, 1) := by decide +kernel
theorem dX7_greatestShared_24 : decode cX7_greatestShared 24 = .ok (.iload 5, 2) := by decide +kernel
theorem dX7_greatestShared_26 : decode cX7_greatestShared 26 = .ok (.istore_n 3, 1) := by decide +kernel
theorem dX7_greatestShared_27 : decode cX7_greatestShared 27 = .ok (.iinc 4 1, 3) := by decide +kernel
theorem dX7_greatestShared_30 : decode cX7_greatestShared 30 = .ok (.goto (-23), 3) := by decide +kernel
theorem dX7_greatestShared_33 : decode cX7_greatestShared 33 = .ok (.iload_n 2, 1) := by decide +kernel
theorem dX7_greatestShared_34 : decode cX7_greatestShared 34 = .ok (.ireturn, 1) := by decide +kernel


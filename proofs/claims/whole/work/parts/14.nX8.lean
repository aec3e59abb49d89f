theorem dX8_free_11 : decode cX8_free 11 = .ok (.iload_n 1, 1) := by decide +kernel
theorem dX8_free_12 : decode cX8_free 12 = .ok (.invokevirtual 133, 3) := by decide +kernel
theorem dX8_free_15 : decode cX8_free 15 = .ok (.ifCond .ne 6, 3) := by decide +kernel
theorem dX8_free_18 : decode cX8_free 18 = .ok (.bipush (-3), 2) := by decide +kernel
theorem dX8_free_20 : decode cX8_free 20 = .ok (.ireturn, 1) := by decide +kernel
theorem dX8_free_21 : decode cX8_free 21 = .ok (.aload_n 0, 1) := by decide +kernel
theorem dX8_free_22 : decode cX8_free 22 = .ok (.iload_n 1, 1) := by decide +kernel
theorem dX8_free_23 : decode cX8_free 23 = .ok (.iconst 2, 1) := by decide +kernel
theorem dX8_free_24 : decode cX8_free 24 = .ok (.invokevirtual 87, 3) := by decide +kernel
theorem dX8_free_27 : decode cX8_free 27 = .ok (.istore_n 2, 1) := by decide +kernel
theorem dX8_free_28 : decode cX8_free 28 = .ok (.aload_n 0, 1) := by decide +kernel
theorem dX8_free_29 : decode cX8_free 29 = .ok (.iload_n 1, 1) := by decide +kernel
theorem dX8_free_30 : decode cX8_free 30 = .ok (.iconst (-1), 1) := by decide +kernel
theorem dX8_free_31 : decode cX8_free 31 = .ok (.iconst (-1), 1) := by decide +kernel
theorem dX8_free_32 : decode cX8_free 32 = .ok (.invokevirtual 105, 3) := by decide +kernel
theorem dX8_free_35 : decode cX8_free 35 = .ok (.iload_n 2, 1) := by decide +kernel
theorem dX8_free_36 : decode cX8_free 36 = .ok (.ireturn, 1) := by decide +kernel
set_option maxRecDepth 20000 in
theorem ggX8_walk_X8_isOne : GoodIn wsX8_walk wsX8_isOne := goodIn_r _ [5, 6, 7, 8, 4, 9, 18, 19, 20, 21, 22, 23, 24, 25, 26, 27, 28, 29, 30, 31, 32, 33, 34, 35, 36, 37, 38, 39, 40, 41, 42, 43, 44, 45, 46] rfl (by decide +kernel)
set_option maxRecDepth 20000 in
theorem gX8_walk_X8_isOne : GoodIn wsX8_walk (wsV RX8 94 RX8 yX8_isOne wsX8_isOne) := goodIn_app (goodIn_of _ (by decide +kernel)) ggX8_walk_X8_isOne
set_option maxRecDepth 20000 in
theorem ggX8_walk_X8_isIn : GoodIn wsX8_walk wsX8_isIn := goodIn_r _ [9] rfl (by decide +kernel)
set_option maxRecDepth 20000 in
theorem gX8_walk_X8_isIn : GoodIn wsX8_walk (va_wsS RX8 79 yX8_isIn wsX8_isIn) := goodIn_app (goodIn_of _ (by decide +kernel)) ggX8_walk_X8_isIn
set_option maxRecDepth 20000 in
theorem ggX8_walk_X8_change : GoodIn wsX8_walk wsX8_change := goodIn_r _ [13, 6, 14, 15, 16, 4, 17, 18, 19, 20, 21, 22, 23, 24, 25, 26, 27, 28, 29, 30, 31, 32, 33, 34, 35, 36, 37, 38, 39, 40, 41, 42, 43, 44, 45, 46] rfl (by decide +kernel)
set_option maxRecDepth 20000 in
theorem gX8_walk_X8_change : GoodIn wsX8_walk (wsV RX8 90 RX8 yX8_change wsX8_change) := goodIn_app (goodIn_of _ (by decide +kernel)) ggX8_walk_X8_change
theorem dX8_walk_0 : decode cX8_walk 0 = .ok (.aload_n 0, 1) := by decide +kernel
theorem dX8_walk_1 : decode cX8_walk 1 = .ok (.iload_n 1, 1) := by decide +kernel
theorem dX8_walk_2 : decode cX8_walk 2 = .ok (.invokevirtual 94, 3) := by decide +kernel
theorem dX8_walk_5 : decode cX8_walk 5 = .ok (.ifCond .ne 5, 3) := by decide +kernel
theorem dX8_walk_8 : decode cX8_walk 8 = .ok (.iconst (-1), 1) := by decide +kernel
theorem dX8_walk_9 : decode cX8_walk 9 = .ok (.ireturn, 1) := by decide +kernel
theorem dX8_walk_10 : decode cX8_walk 10 = .ok (.iload_n 2, 1) := by decide +kernel
theorem dX8_walk_11 : decode cX8_walk 11 = .ok (.iconst 0, 1) := by decide +kernel
theorem dX8_walk_12 : decode cX8_walk 12 = .ok (.bipush 99, 2) := by decide +kernel
theorem dX8_walk_14 : decode cX8_walk 14 = .ok (.invokestatic 79, 3) := by decide +kernel
theorem dX8_walk_17 : decode cX8_walk 17 = .ok (.ifCond .eq 13, 3) := by decide +kernel
theorem dX8_walk_20 : decode cX8_walk 20 = .ok (.aload_n 0, 1) := by decide +kernel
theorem dX8_walk_21 : decode cX8_walk 21 = .ok (.iload_n 1, 1) := by decide +kernel
theorem dX8_walk_22 : decode cX8_walk 22 = .ok (.iconst 2, 1) := by decide +kernel
theorem dX8_walk_23 : decode cX8_walk 23 = .ok (.iload_n 2, 1) := by decide +kernel
theorem dX8_walk_24 : decode cX8_walk 24 = .ok (.invokevirtual 90, 3) := by decide +kernel
theorem dX8_walk_27 : decode cX8_walk 27 = .ok (.goto 5, 3) := by decide +kernel
theorem dX8_walk_30 : decode cX8_walk 30 = .ok (.bipush (-2), 2) := by decide +kernel
theorem dX8_walk_32 : decode cX8_walk 32 = .ok (.ireturn, 1) := by decide +kernel
set_option maxRecDepth 20000 in
theorem ggX8_row_X8_isOne : GoodIn wsX8_row wsX8_isOne := goodIn_r _ [5, 6, 7, 8, 4, 9, 18, 19, 20, 21, 22, 23, 24, 25, 26, 27, 28, 29, 30, 31, 32, 33, 34, 35, 36, 37, 38, 39, 40, 41, 42, 43, 44, 45, 46] rfl (by decide +kernel)
set_option maxRecDepth 20000 in
theorem gX8_row_X8_isOne : GoodIn wsX8_row (wsV RX8 94 RX8 yX8_isOne wsX8_isOne) := goodIn_app (goodIn_of _ (by decide +kernel)) ggX8_row_X8_isOne
set_option maxRecDepth 20000 in
theorem ggX8_row_X8_isIn : GoodIn wsX8_row wsX8_isIn := goodIn_r _ [9] rfl (by decide +kernel)
set_option maxRecDepth 20000 in
theorem gX8_row_X8_isIn : GoodIn wsX8_row (va_wsS RX8 79 yX8_isIn wsX8_isIn) := goodIn_app (goodIn_of _ (by decide +kernel)) ggX8_row_X8_isIn
set_option maxRecDepth 20000 in
theorem ggX8_row_X8_number : GoodIn wsX8_row wsX8_number := goodIn_r _ [13, 6, 18, 19, 20, 21, 22, 23, 24, 25, 26, 27, 28, 29, 30, 31, 32, 33, 34, 35, 36, 37, 38, 39, 40, 41, 42, 43, 44, 45, 46] rfl (by decide +kernel)
set_option maxRecDepth 20000 in
theorem gX8_row_X8_number : GoodIn wsX8_row (wsV RX8 83 RX8 yX8_number wsX8_number) := goodIn_app (goodIn_of _ (by decide +kernel)) ggX8_row_X8_number
set_option maxRecDepth 20000 in
theorem ggX8_row_X8_change : GoodIn wsX8_row wsX8_change := goodIn_r _ [17, 6, 10, 11, 12, 4, 13, 18, 19, 20, 21, 22, 23, 24, 25, 26, 27, 28, 29, 30, 31, 32, 33, 34, 35, 36, 37, 38, 39, 40, 41, 42, 43, 44, 45, 46] rfl (by decide +kernel)
set_option maxRecDepth 20000 in
theorem gX8_row_X8_change : GoodIn wsX8_row (wsV RX8 90 RX8 yX8_change wsX8_change) := goodIn_app (goodIn_of _ (by decide +kernel)) ggX8_row_X8_change
theorem dX8_row_0 : decode cX8_row 0 = .ok (.aload_n 0, 1) := by decide +kernel
theorem dX8_row_1 : decode cX8_row 1 = .ok (.iload_n 1, 1) := by decide +kernel
theorem dX8_row_2 : decode cX8_row 2 = .ok (.invokevirtual 94, 3) := by decide +kernel
theorem dX8_row_5 : decode cX8_row 5 = .ok (.ifCond .eq 12, 3) := by decide +kernel
theorem dX8_row_8 : decode cX8_row 8 = .ok (.iload_n 2, 1) := by decide +kernel
theorem dX8_row_9 : decode cX8_row 9 = .ok (.iconst 0, 1) := by decide +kernel
theorem dX8_row_10 : decode cX8_row 10 = .ok (.iconst 3, 1) := by decide +kernel
theorem dX8_row_11 : decode cX8_row 11 = .ok (.invokestatic 79, 3) := by decide +kernel
theorem dX8_row_14 : decode cX8_row 14 = .ok (.ifCond .ne 5, 3) := by decide +kernel
theorem dX8_row_17 : decode cX8_row 17 = .ok (.iconst (-1), 1) := by decide +kernel
theorem dX8_row_18 : decode cX8_row 18 = .ok (.ireturn, 1) := by decide +kernel
theorem dX8_row_19 : decode cX8_row 19 = .ok (.iload_n 3, 1) := by decide +kernel
theorem dX8_row_20 : decode cX8_row 20 = .ok (.iconst 0, 1) := by decide +kernel
theorem dX8_row_21 : decode cX8_row 21 = .ok (.bipush 9, 2) := by decide +kernel
theorem dX8_row_23 : decode cX8_row 23 = .ok (.invokestatic 79, 3) := by decide +kernel
theorem dX8_row_26 : decode cX8_row 26 = .ok (.ifCond .ne 6, 3) := by decide +kernel
theorem dX8_row_29 : decode cX8_row 29 = .ok (.bipush (-2), 2) := by decide +kernel
theorem dX8_row_31 : decode cX8_row 31 = .ok (.ireturn, 1) := by decide +kernel
theorem dX8_row_32 : decode cX8_row 32 = .ok (.aload_n 0, 1) := by decide +kernel
theorem dX8_row_33 : decode cX8_row 33 = .ok (.iload_n 1, 1) := by decide +kernel
theorem dX8_row_34 : decode cX8_row 34 = .ok (.iconst 0, 1) := by decide +kernel
theorem dX8_row_35 : decode cX8_row 35 = .ok (.invokevirtual 83, 3) := by decide +kernel
theorem dX8_row_38 : decode cX8_row 38 = .ok (.bipush 6, 2) := by decide +kernel
theorem dX8_row_40 : decode cX8_row 40 = .ok (.if_icmp .ne 15, 3) := by decide +kernel
theorem dX8_row_43 : decode cX8_row 43 = .ok (.aload_n 0, 1) := by decide +kernel
theorem dX8_row_44 : decode cX8_row 44 = .ok (.iload_n 1, 1) := by decide +kernel
theorem dX8_row_45 : decode cX8_row 45 = .ok (.iconst 3, 1) := by decide +kernel
theorem dX8_row_46 : decode cX8_row 46 = .ok (.iload_n 2, 1) := by decide +kernel
theorem dX8_row_47 : decode cX8_row 47 = .ok (.iadd, 1) := by decide +kernel
theorem dX8_row_48 : decode cX8_row 48 = .ok (.iload_n 3, 1) := by decide +kernel
theorem dX8_row_49 : decode cX8_row 49 = .ok (.invokevirtual 90, 3) := by decide +kernel
theorem dX8_row_52 : decode cX8_row 52 = .ok (.goto 5, 3) := by decide +kernel
theorem dX8_row_55 : decode cX8_row 55 = .ok (.bipush (-3), 2) := by decide +kernel
theorem dX8_row_57 : decode cX8_row 57 = .ok (.ireturn, 1) := by decide +kernel
set_option maxRecDepth 20000 in
theorem ggX8_feed_X8_isIn : GoodIn wsX8_feed wsX8_isIn := goodIn_r _ [6] rfl (by decide +kernel)
set_option maxRecDepth 20000 in
theorem gX8_feed_X8_isIn : GoodIn wsX8_feed (va_wsS RX8 79 yX8_isIn wsX8_isIn) := goodIn_app (goodIn_of _ (by decide +kernel)) ggX8_feed_X8_isIn
theorem dX8_feed_0 : decode cX8_feed 0 = .ok (.iload_n 1, 1) := by decide +kernel
theorem dX8_feed_1 : decode cX8_feed 1 = .ok (.iconst 0, 1) := by decide +kernel
theorem dX8_feed_2 : decode cX8_feed 2 = .ok (.bipush 127, 2) := by decide +kernel
theorem dX8_feed_4 : decode cX8_feed 4 = .ok (.invokestatic 79, 3) := by decide +kernel
theorem dX8_feed_7 : decode cX8_feed 7 = .ok (.ifCond .ne 6, 3) := by decide +kernel
theorem dX8_feed_10 : decode cX8_feed 10 = .ok (.bipush (-2), 2) := by decide +kernel
theorem dX8_feed_12 : decode cX8_feed 12 = .ok (.ireturn, 1) := by decide +kernel
theorem dX8_feed_13 : decode cX8_feed 13 = .ok (.aload_n 0, 1) := by decide +kernel
theorem dX8_feed_14 : decode cX8_feed 14 = .ok (.getfield 142, 3) := by decide +kernel
theorem dX8_feed_17 : decode cX8_feed 17 = .ok (.bipush 100, 2) := by decide +kernel
theorem dX8_feed_19 : decode cX8_feed 19 = .ok (.if_icmp .ne 6, 3) := by decide +kernel
theorem dX8_feed_22 : decode cX8_feed 22 = .ok (.bipush (-4), 2) := by decide +kernel
theorem dX8_feed_24 : decode cX8_feed 24 = .ok (.ireturn, 1) := by decide +kernel
theorem dX8_feed_25 : decode cX8_feed 25 = .ok (.aload_n 0, 1) := by decide +kernel
theorem dX8_feed_26 : decode cX8_feed 26 = .ok (.getfield 21, 3) := by decide +kernel
theorem dX8_feed_29 : decode cX8_feed 29 = .ok (.aload_n 0, 1) := by decide +kernel
theorem dX8_feed_30 : decode cX8_feed 30 = .ok (.getfield 142, 3) := by decide +kernel
theorem dX8_feed_33 : decode cX8_feed 33 = .ok (.iload_n 1, 1) := by decide +kernel
theorem dX8_feed_34 : decode cX8_feed 34 = .ok (.iastore, 1) := by decide +kernel
theorem dX8_feed_35 : decode cX8_feed 35 = .ok (.aload_n 0, 1) := by decide +kernel
theorem dX8_feed_36 : decode cX8_feed 36 = .ok (.dup, 1) := by decide +kernel
theorem dX8_feed_37 : decode cX8_feed 37 = .ok (.getfield 142, 3) := by decide +kernel
theorem dX8_feed_40 : decode cX8_feed 40 = .ok (.iconst 1, 1) := by decide +kernel
theorem dX8_feed_41 : decode cX8_feed 41 = .ok (.iadd, 1) := by decide +kernel
theorem dX8_feed_42 : decode cX8_feed 42 = .ok (.putfield 142, 3) := by decide +kernel
theorem dX8_feed_45 : decode cX8_feed 45 = .ok (.aload_n 0, 1) := by decide +kernel
theorem dX8_feed_46 : decode cX8_feed 46 = .ok (.getfield 142, 3) := by decide +kernel
theorem dX8_feed_49 : decode cX8_feed 49 = .ok (.ireturn, 1) := by decide +kernel
theorem dX8_isAt_0 : decode cX8_isAt 0 = .ok (.aload_n 0, 1) := by decide +kernel
theorem dX8_isAt_1 : decode cX8_isAt 1 = .ok (.getfield 146, 3) := by decide +kernel
theorem dX8_isAt_4 : decode cX8_isAt 4 = .ok (.ifCond .eq 31, 3) := by decide +kernel
theorem dX8_isAt_7 : decode cX8_isAt 7 = .ok (.aload_n 0, 1) := by decide +kernel
theorem dX8_isAt_8 : decode cX8_isAt 8 = .ok (.getfield 149, 3) := by decide +kernel
theorem dX8_isAt_11 : decode cX8_isAt 11 = .ok (.aload_n 0, 1) := by decide +kernel
theorem dX8_isAt_12 : decode cX8_isAt 12 = .ok (.getfield 152, 3) := by decide +kernel
theorem dX8_isAt_15 : decode cX8_isAt 15 = .ok (.if_icmp .ge 20, 3) := by decide +kernel
theorem dX8_isAt_18 : decode cX8_isAt 18 = .ok (.aload_n 0, 1) := by decide +kernel
theorem dX8_isAt_19 : decode cX8_isAt 19 = .ok (.getfield 30, 3) := by decide +kernel
theorem dX8_isAt_22 : decode cX8_isAt 22 = .ok (.aload_n 0, 1) := by decide +kernel
theorem dX8_isAt_23 : decode cX8_isAt 23 = .ok (.getfield 149, 3) := by decide +kernel
theorem dX8_isAt_26 : decode cX8_isAt 26 = .ok (.iaload, 1) := by decide +kernel
theorem dX8_isAt_27 : decode cX8_isAt 27 = .ok (.iload_n 1, 1) := by decide +kernel
theorem dX8_isAt_28 : decode cX8_isAt 28 = .ok (.if_icmp .ne 7, 3) := by decide +kernel
theorem dX8_isAt_31 : decode cX8_isAt 31 = .ok (.iconst 1, 1) := by decide +kernel
theorem dX8_isAt_32 : decode cX8_isAt 32 = .ok (.goto 4, 3) := by decide +kernel
theorem dX8_isAt_35 : decode cX8_isAt 35 = .ok (.iconst 0, 1) := by decide +kernel
theorem dX8_isAt_36 : decode cX8_isAt 36 = .ok (.ireturn, 1) := by decide +kernel
set_option maxRecDepth 20000 in
theorem ggX8_takes_X8_isAt : GoodIn wsX8_takes wsX8_isAt := goodIn_r _ [7, 2, 1, 8, 9, 10, 11, 12, 13, 14, 15, 16, 17, 18, 19, 20, 21, 22, 23, 24, 25, 26, 27, 28, 29, 30, 31, 32, 33, 34, 35, 36, 37, 38] rfl (by decide +kernel)
set_option maxRecDepth 20000 in
theorem gX8_takes_X8_isAt : GoodIn wsX8_takes (wsV RX8 155 RX8 yX8_isAt wsX8_isAt) := goodIn_app (goodIn_of _ (by decide +kernel)) ggX8_takes_X8_isAt
theorem dX8_takes_0 : decode cX8_takes 0 = .ok (.aload_n 0, 1) := by decide +kernel
theorem dX8_takes_1 : decode cX8_takes 1 = .ok (.iload_n 1, 1) := by decide +kernel
theorem dX8_takes_2 : decode cX8_takes 2 = .ok (.invokevirtual 155, 3) := by decide +kernel
theorem dX8_takes_5 : decode cX8_takes 5 = .ok (.ifCond .eq 16, 3) := by decide +kernel
theorem dX8_takes_8 : decode cX8_takes 8 = .ok (.aload_n 0, 1) := by decide +kernel
theorem dX8_takes_9 : decode cX8_takes 9 = .ok (.dup, 1) := by decide +kernel
theorem dX8_takes_10 : decode cX8_takes 10 = .ok (.getfield 149, 3) := by decide +kernel
theorem dX8_takes_13 : decode cX8_takes 13 = .ok (.iconst 1, 1) := by decide +kernel
theorem dX8_takes_14 : decode cX8_takes 14 = .ok (.iadd, 1) := by decide +kernel
theorem dX8_takes_15 : decode cX8_takes 15 = .ok (.putfield 149, 3) := by decide +kernel
theorem dX8_takes_18 : decode cX8_takes 18 = .ok (.goto 8, 3) := by decide +kernel
theorem dX8_takes_21 : decode cX8_takes 21 = .ok (.aload_n 0, 1) := by decide +kernel
theorem dX8_takes_22 : decode cX8_takes 22 = .ok (.iconst 0, 1) := by decide +kernel
theorem dX8_takes_23 : decode cX8_takes 23 = .ok (.putfield 146, 3) := by decide +kernel
theorem dX8_takes_26 : decode cX8_takes 26 = .ok (.return_, 1) := by decide +kernel
theorem dX8_isDigit_0 : decode cX8_isDigit 0 = .ok (.aload_n 0, 1) := by decide +kernel
theorem dX8_isDigit_1 : decode cX8_isDigit 1 = .ok (.getfield 146, 3) := by decide +kernel
theorem dX8_isDigit_4 : decode cX8_isDigit 4 = .ok (.ifCond .eq 46, 3) := by decide +kernel
theorem dX8_isDigit_7 : decode cX8_isDigit 7 = .ok (.aload_n 0, 1) := by decide +kernel
theorem dX8_isDigit_8 : decode cX8_isDigit 8 = .ok (.getfield 149, 3) := by decide +kernel
theorem dX8_isDigit_11 : decode cX8_isDigit 11 = .ok (.aload_n 0, 1) := by decide +kernel
theorem dX8_isDigit_12 : decode cX8_isDigit 12 = .ok (.getfield 152, 3) := by decide +kernel
theorem dX8_isDigit_15 : decode cX8_isDigit 15 = .ok (.if_icmp .ge 35, 3) := by decide +kernel
theorem dX8_isDigit_18 : decode cX8_isDigit 18 = .ok (.aload_n 0, 1) := by decide +kernel
theorem dX8_isDigit_19 : decode cX8_isDigit 19 = .ok (.getfield 30, 3) := by decide +kernel
theorem dX8_isDigit_22 : decode cX8_isDigit 22 = .ok (.aload_n 0, 1) := by decide +kernel
theorem dX8_isDigit_23 : decode cX8_isDigit 23 = .ok (.getfield 149, 3) := by decide +kernel
theorem dX8_isDigit_26 : decode cX8_isDigit 26 = .ok (.iaload, 1) := by decide +kernel
theorem dX8_isDigit_27 : decode cX8_isDigit 27 = .ok (.bipush 48, 2) := by decide +kernel
theorem dX8_isDigit_29 : decode cX8_isDigit 29 = .ok (.if_icmp .lt 21, 3) := by decide +kernel
theorem dX8_isDigit_32 : decode cX8_isDigit 32 = .ok (.aload_n 0, 1) := by decide +kernel
theorem dX8_isDigit_33 : decode cX8_isDigit 33 = .ok (.getfield 30, 3) := by decide +kernel
theorem dX8_isDigit_36 : decode cX8_isDigit 36 = .ok (.aload_n 0, 1) := by decide +kernel
theorem dX8_isDigit_37 : decode cX8_isDigit 37 = .ok (.getfield 149, 3) := by decide +kernel
theorem dX8_isDigit_40 : decode cX8_isDigit 40 = .ok (.iaload, 1) := by decide +kernel
theorem dX8_isDigit_41 : decode cX8_isDigit 41 = .ok (.bipush 57, 2) := by decide +kernel
theorem dX8_isDigit_43 : decode cX8_isDigit 43 = .ok (.if_icmp .gt 7, 3) := by decide +kernel
theorem dX8_isDigit_46 : decode cX8_isDigit 46 = .ok (.iconst 1, 1) := by decide +kernel
theorem dX8_isDigit_47 : decode cX8_isDigit 47 = .ok (.goto 4, 3) := by decide +kernel
theorem dX8_isDigit_50 : decode cX8_isDigit 50 = .ok (.iconst 0, 1) := by decide +kernel
theorem dX8_isDigit_51 : decode cX8_isDigit 51 = .ok (.ireturn, 1) := by decide +kernel
set_option maxRecDepth 20000 in
theorem ggX8_number__X8_isDigit : GoodIn wsX8_number_ wsX8_isDigit := goodIn_r _ [8, 1, 3, 9, 2, 10, 11, 12, 13, 14, 15, 16, 17, 18, 19, 20, 21, 22, 23, 24, 25, 26, 27, 28, 29, 30, 31, 32, 33, 34, 35, 36, 37, 38] rfl (by decide +kernel)
set_option maxRecDepth 20000 in
theorem gX8_number__X8_isDigit : GoodIn wsX8_number_ (wsV RX8 158 RX8 yX8_isDigit wsX8_isDigit) := goodIn_app (goodIn_of _ (by decide +kernel)) ggX8_number__X8_isDigit
theorem dX8_number__0 : decode cX8_number_ 0 = .ok (.aload_n 0, 1) := by decide +kernel
theorem dX8_number__1 : decode cX8_number_ 1 = .ok (.invokevirtual 158, 3) := by decide +kernel
theorem dX8_number__4 : decode cX8_number_ 4 = .ok (.ifCond .ne 10, 3) := by decide +kernel
theorem dX8_number__7 : decode cX8_number_ 7 = .ok (.aload_n 0, 1) := by decide +kernel
theorem dX8_number__8 : decode cX8_number_ 8 = .ok (.iconst 0, 1) := by decide +kernel
theorem dX8_number__9 : decode cX8_number_ 9 = .ok (.putfield 146, 3) := by decide +kernel
theorem dX8_number__12 : decode cX8_number_ 12 = .ok (.iconst 0, 1) := by decide +kernel
theorem dX8_number__13 : decode cX8_number_ 13 = .ok (.ireturn, 1) := by decide +kernel
theorem dX8_number__14 : decode cX8_number_ 14 = .ok (.aload_n 0, 1) := by decide +kernel
theorem dX8_number__15 : decode cX8_number_ 15 = .ok (.getfield 30, 3) := by decide +kernel
theorem dX8_number__18 : decode cX8_number_ 18 = .ok (.aload_n 0, 1) := by decide +kernel
theorem dX8_number__19 : decode cX8_number_ 19 = .ok (.getfield 149, 3) := by decide +kernel
theorem dX8_number__22 : decode cX8_number_ 22 = .ok (.iaload, 1) := by decide +kernel
theorem dX8_number__23 : decode cX8_number_ 23 = .ok (.bipush 48, 2) := by decide +kernel
theorem dX8_number__25 : decode cX8_number_ 25 = .ok (.isub, 1) := by decide +kernel
theorem dX8_number__26 : decode cX8_number_ 26 = .ok (.istore_n 1, 1) := by decide +kernel
theorem dX8_number__27 : decode cX8_number_ 27 = .ok (.aload_n 0, 1) := by decide +kernel
theorem dX8_number__28 : decode cX8_number_ 28 = .ok (.dup, 1) := by decide +kernel
theorem dX8_number__29 : decode cX8_number_ 29 = .ok (.getfield 149, 3) := by decide +kernel
theorem dX8_number__32 : decode cX8_number_ 32 = .ok (.iconst 1, 1) := by decide +kernel
theorem dX8_number__33 : decode cX8_number_ 33 = .ok (.iadd, 1) := by decide +kernel
theorem dX8_number__34 : decode cX8_number_ 34 = .ok (.putfield 149, 3) := by decide +kernel
theorem dX8_number__37 : decode cX8_number_ 37 = .ok (.aload_n 0, 1) := by decide +kernel
theorem dX8_number__38 : decode cX8_number_ 38 = .ok (.invokevirtual 158, 3) := by decide +kernel
theorem dX8_number__41 : decode cX8_number_ 41 = .ok (.ifCond .eq 31, 3) := by decide +kernel
theorem dX8_number__44 : decode cX8_number_ 44 = .ok (.bipush 10, 2) := by decide +kernel
theorem dX8_number__46 : decode cX8_number_ 46 = .ok (.iload_n 1, 1) := by decide +kernel
theorem dX8_number__47 : decode cX8_number_ 47 = .ok (.imul, 1) := by decide +kernel
theorem dX8_number__48 : decode cX8_number_ 48 = .ok (.aload_n 0, 1) := by decide +kernel
theorem dX8_number__49 : decode cX8_number_ 49 = .ok (.getfield 30, 3) := by decide +kernel
theorem dX8_number__52 : decode cX8_number_ 52 = .ok (.aload_n 0, 1) := by decide +kernel
theorem dX8_number__53 : decode cX8_number_ 53 = .ok (.getfield 149, 3) := by decide +kernel
theorem dX8_number__56 : decode cX8_number_ 56 = .ok (.iaload, 1) := by decide +kernel
theorem dX8_number__57 : decode cX8_number_ 57 = .ok (.iadd, 1) := by decide +kernel
theorem dX8_number__58 : decode cX8_number_ 58 = .ok (.bipush 48, 2) := by decide +kernel
theorem dX8_number__60 : decode cX8_number_ 60 = .ok (.isub, 1) := by decide +kernel
theorem dX8_number__61 : decode cX8_number_ 61 = .ok (.istore_n 1, 1) := by decide +kernel
theorem dX8_number__62 : decode cX8_number_ 62 = .ok (.aload_n 0, 1) := by decide +kernel
theorem dX8_number__63 : decode cX8_number_ 63 = .ok (.dup, 1) := by decide +kernel
theorem dX8_number__64 : decode cX8_number_ 64 = .ok (.getfield 149, 3) := by decide +kernel
theorem dX8_number__67 : decode cX8_number_ 67 = .ok (.iconst 1, 1) := by decide +kernel
theorem dX8_number__68 : decode cX8_number_ 68 = .ok (.iadd, 1) := by decide +kernel
theorem dX8_number__69 : decode cX8_number_ 69 = .ok (.putfield 149, 3) := by decide +kernel
theorem dX8_number__72 : decode cX8_number_ 72 = .ok (.iload_n 1, 1) := by decide +kernel
theorem dX8_number__73 : decode cX8_number_ 73 = .ok (.ireturn, 1) := by decide +kernel
set_option maxRecDepth 20000 in
theorem ggX8_test_X8_isAt : GoodIn wsX8_test wsX8_isAt := goodIn_r _ [9, 2, 3, 10, 11, 24, 25, 26, 27, 28, 29, 30, 31, 32, 33, 34, 35, 36, 37, 38, 39, 40, 41, 42, 43, 44, 45, 46, 47, 48, 49, 50, 51, 52] rfl (by decide +kernel)
set_option maxRecDepth 20000 in
theorem gX8_test_X8_isAt : GoodIn wsX8_test (wsV RX8 155 RX8 yX8_isAt wsX8_isAt) := goodIn_app (goodIn_of _ (by decide +kernel)) ggX8_test_X8_isAt
set_option maxRecDepth 20000 in
theorem ggX8_test_X8_takes : GoodIn wsX8_test wsX8_takes := goodIn_r _ [15, 3, 2, 5, 6, 7, 8, 9, 10, 11, 24, 25, 26, 27, 28, 29, 30, 31, 32, 33, 34, 35, 36, 37, 38, 39, 40, 41, 42, 43, 44, 45, 46, 47, 48, 49, 50, 51, 52] rfl (by decide +kernel)
set_option maxRecDepth 20000 in
theorem gX8_test_X8_takes : GoodIn wsX8_test (wsV RX8 162 RX8 yX8_takes wsX8_takes) := goodIn_app (goodIn_of _ (by decide +kernel)) ggX8_test_X8_takes
set_option maxRecDepth 20000 in
theorem ggX8_test_X8_number_ : GoodIn wsX8_test wsX8_number_ := goodIn_r _ [19, 2, 11, 3, 20, 21, 22, 8, 23, 10, 24, 25, 26, 27, 28, 29, 30, 31, 32, 33, 34, 35, 36, 37, 38, 39, 40, 41, 42, 43, 44, 45, 46, 47, 48, 49, 50, 51, 52] rfl (by decide +kernel)
set_option maxRecDepth 20000 in
theorem gX8_test_X8_number_ : GoodIn wsX8_test (wsV RX8 166 RX8 yX8_number_ wsX8_number_) := goodIn_app (goodIn_of _ (by decide +kernel)) ggX8_test_X8_number_
theorem dX8_test_0 : decode cX8_test 0 = .ok (.iconst (-1), 1) := by decide +kernel
theorem dX8_test_1 : decode cX8_test 1 = .ok (.istore_n 1, 1) := by decide +kernel
theorem dX8_test_2 : decode cX8_test 2 = .ok (.iconst 0, 1) := by decide +kernel
theorem dX8_test_3 : decode cX8_test 3 = .ok (.istore_n 2, 1) := by decide +kernel
theorem dX8_test_4 : decode cX8_test 4 = .ok (.iload_n 2, 1) := by decide +kernel
theorem dX8_test_5 : decode cX8_test 5 = .ok (.bipush 6, 2) := by decide +kernel
theorem dX8_test_7 : decode cX8_test 7 = .ok (.if_icmp .ge 28, 3) := by decide +kernel
theorem dX8_test_10 : decode cX8_test 10 = .ok (.aload_n 0, 1) := by decide +kernel
theorem dX8_test_11 : decode cX8_test 11 = .ok (.aload_n 0, 1) := by decide +kernel
theorem dX8_test_12 : decode cX8_test 12 = .ok (.getfield 36, 3) := by decide +kernel
theorem dX8_test_15 : decode cX8_test 15 = .ok (.iload_n 2, 1) := by decide +kernel
theorem dX8_test_16 : decode cX8_test 16 = .ok (.caload, 1) := by decide +kernel
theorem dX8_test_17 : decode cX8_test 17 = .ok (.invokevirtual 155, 3) := by decide +kernel
theorem dX8_test_20 : decode cX8_test 20 = .ok (.ifCond .eq 7, 3) := by decide +kernel
theorem dX8_test_23 : decode cX8_test 23 = .ok (.iload_n 2, 1) := by decide +kernel
theorem dX8_test_24 : decode cX8_test 24 = .ok (.goto 4, 3) := by decide +kernel
theorem dX8_test_27 : decode cX8_test 27 = .ok (.iload_n 1, 1) := by decide +kernel
theorem dX8_test_28 : decode cX8_test 28 = .ok (.istore_n 1, 1) := by decide +kernel
theorem dX8_test_29 : decode cX8_test 29 = .ok (.iinc 2 1, 3) := by decide +kernel
theorem dX8_test_32 : decode cX8_test 32 = .ok (.goto (-28), 3) := by decide +kernel
theorem dX8_test_35 : decode cX8_test 35 = .ok (.iload_n 1, 1) := by decide +kernel
theorem dX8_test_36 : decode cX8_test 36 = .ok (.iconst (-1), 1) := by decide +kernel
theorem dX8_test_37 : decode cX8_test 37 = .ok (.if_icmp .ne 10, 3) := by decide +kernel
theorem dX8_test_40 : decode cX8_test 40 = .ok (.aload_n 0, 1) := by decide +kernel
theorem dX8_test_41 : decode cX8_test 41 = .ok (.iconst 0, 1) := by decide +kernel
theorem dX8_test_42 : decode cX8_test 42 = .ok (.putfield 146, 3) := by decide +kernel
theorem dX8_test_45 : decode cX8_test 45 = .ok (.iconst 0, 1) := by decide +kernel
theorem dX8_test_46 : decode cX8_test 46 = .ok (.ireturn, 1) := by decide +kernel
theorem dX8_test_47 : decode cX8_test 47 = .ok (.aload_n 0, 1) := by decide +kernel
theorem dX8_test_48 : decode cX8_test 48 = .ok (.dup, 1) := by decide +kernel
theorem dX8_test_49 : decode cX8_test 49 = .ok (.getfield 149, 3) := by decide +kernel
theorem dX8_test_52 : decode cX8_test 52 = .ok (.iconst 1, 1) := by decide +kernel
theorem dX8_test_53 : decode cX8_test 53 = .ok (.iadd, 1) := by decide +kernel
theorem dX8_test_54 : decode cX8_test 54 = .ok (.putfield 149, 3) := by decide +kernel
theorem dX8_test_57 : decode cX8_test 57 = .ok (.aload_n 0, 1) := by decide +kernel
theorem dX8_test_58 : decode cX8_test 58 = .ok (.bipush 60, 2) := by decide +kernel
theorem dX8_test_60 : decode cX8_test 60 = .ok (.invokevirtual 155, 3) := by decide +kernel
theorem dX8_test_63 : decode cX8_test 63 = .ok (.ifCond .eq 7, 3) := by decide +kernel
theorem dX8_test_66 : decode cX8_test 66 = .ok (.iconst (-1), 1) := by decide +kernel
theorem dX8_test_67 : decode cX8_test 67 = .ok (.goto 17, 3) := by decide +kernel
theorem dX8_test_70 : decode cX8_test 70 = .ok (.aload_n 0, 1) := by decide +kernel
theorem dX8_test_71 : decode cX8_test 71 = .ok (.bipush 62, 2) := by decide +kernel
theorem dX8_test_73 : decode cX8_test 73 = .ok (.invokevirtual 155, 3) := by decide +kernel
theorem dX8_test_76 : decode cX8_test 76 = .ok (.ifCond .eq 7, 3) := by decide +kernel
theorem dX8_test_79 : decode cX8_test 79 = .ok (.iconst 1, 1) := by decide +kernel
theorem dX8_test_80 : decode cX8_test 80 = .ok (.goto 4, 3) := by decide +kernel
theorem dX8_test_83 : decode cX8_test 83 = .ok (.iconst 0, 1) := by decide +kernel
theorem dX8_test_84 : decode cX8_test 84 = .ok (.istore_n 2, 1) := by decide +kernel
theorem dX8_test_85 : decode cX8_test 85 = .ok (.aload_n 0, 1) := by decide +kernel
theorem dX8_test_86 : decode cX8_test 86 = .ok (.iload_n 2, 1) := by decide +kernel
theorem dX8_test_87 : decode cX8_test 87 = .ok (.ifCond .ge 8, 3) := by decide +kernel
theorem dX8_test_90 : decode cX8_test 90 = .ok (.bipush 60, 2) := by decide +kernel
theorem dX8_test_92 : decode cX8_test 92 = .ok (.goto 14, 3) := by decide +kernel
theorem dX8_test_95 : decode cX8_test 95 = .ok (.iload_n 2, 1) := by decide +kernel
theorem dX8_test_96 : decode cX8_test 96 = .ok (.ifCond .le 8, 3) := by decide +kernel
theorem dX8_test_99 : decode cX8_test 99 = .ok (.bipush 62, 2) := by decide +kernel
theorem dX8_test_101 : decode cX8_test 101 = .ok (.goto 5, 3) := by decide +kernel
theorem dX8_test_104 : decode cX8_test 104 = .ok (.bipush 61, 2) := by decide +kernel
theorem dX8_test_106 : decode cX8_test 106 = .ok (.invokevirtual 162, 3) := by decide +kernel
theorem dX8_test_109 : decode cX8_test 109 = .ok (.aload_n 0, 1) := by decide +kernel
theorem dX8_test_110 : decode cX8_test 110 = .ok (.invokevirtual 166, 3) := by decide +kernel
theorem dX8_test_113 : decode cX8_test 113 = .ok (.istore_n 3, 1) := by decide +kernel
theorem dX8_test_114 : decode cX8_test 114 = .ok (.iload_n 2, 1) := by decide +kernel
theorem dX8_test_115 : decode cX8_test 115 = .ok (.ifCond .ge 21, 3) := by decide +kernel
theorem dX8_test_118 : decode cX8_test 118 = .ok (.aload_n 0, 1) := by decide +kernel
theorem dX8_test_119 : decode cX8_test 119 = .ok (.getfield 33, 3) := by decide +kernel
theorem dX8_test_122 : decode cX8_test 122 = .ok (.iload_n 1, 1) := by decide +kernel
theorem dX8_test_123 : decode cX8_test 123 = .ok (.iaload, 1) := by decide +kernel
theorem dX8_test_124 : decode cX8_test 124 = .ok (.iload_n 3, 1) := by decide +kernel
theorem dX8_test_125 : decode cX8_test 125 = .ok (.if_icmp .ge 7, 3) := by decide +kernel
theorem dX8_test_128 : decode cX8_test 128 = .ok (.iconst 1, 1) := by decide +kernel
theorem dX8_test_129 : decode cX8_test 129 = .ok (.goto 44, 3) := by decide +kernel
theorem dX8_test_132 : decode cX8_test 132 = .ok (.iconst 0, 1) := by decide +kernel
theorem dX8_test_133 : decode cX8_test 133 = .ok (.goto 40, 3) := by decide +kernel
theorem dX8_test_136 : decode cX8_test 136 = .ok (.iload_n 2, 1) := by decide +kernel
theorem dX8_test_137 : decode cX8_test 137 = .ok (.ifCond .le 21, 3) := by decide +kernel
theorem dX8_test_140 : decode cX8_test 140 = .ok (.aload_n 0, 1) := by decide +kernel
theorem dX8_test_141 : decode cX8_test 141 = .ok (.getfield 33, 3) := by decide +kernel
theorem dX8_test_144 : decode cX8_test 144 = .ok (.iload_n 1, 1) := by decide +kernel
theorem dX8_test_145 : decode cX8_test 145 = .ok (.iaload, 1) := by decide +kernel
theorem dX8_test_146 : decode cX8_test 146 = .ok (.iload_n 3, 1) := by decide +kernel
theorem dX8_test_147 : decode cX8_test 147 = .ok (.if_icmp .le 7, 3) := by decide +kernel
theorem dX8_test_150 : decode cX8_test 150 = .ok (.iconst 1, 1) := by decide +kernel
theorem dX8_test_151 : decode cX8_test 151 = .ok (.goto 22, 3) := by decide +kernel
theorem dX8_test_154 : decode cX8_test 154 = .ok (.iconst 0, 1) := by decide +kernel
theorem dX8_test_155 : decode cX8_test 155 = .ok (.goto 18, 3) := by decide +kernel
theorem dX8_test_158 : decode cX8_test 158 = .ok (.aload_n 0, 1) := by decide +kernel
theorem dX8_test_159 : decode cX8_test 159 = .ok (.getfield 33, 3) := by decide +kernel
theorem dX8_test_162 : decode cX8_test 162 = .ok (.iload_n 1, 1) := by decide +kernel
theorem dX8_test_163 : decode cX8_test 163 = .ok (.iaload, 1) := by decide +kernel
theorem dX8_test_164 : decode cX8_test 164 = .ok (.iload_n 3, 1) := by decide +kernel
theorem dX8_test_165 : decode cX8_test 165 = .ok (.if_icmp .ne 7, 3) := by decide +kernel
theorem dX8_test_168 : decode cX8_test 168 = .ok (.iconst 1, 1) := by decide +kernel
theorem dX8_test_169 : decode cX8_test 169 = .ok (.goto 4, 3) := by decide +kernel
theorem dX8_test_172 : decode cX8_test 172 = .ok (.iconst 0, 1) := by decide +kernel
theorem dX8_test_173 : decode cX8_test 173 = .ok (.ireturn, 1) := by decide +kernel
set_option maxRecDepth 20000 in
theorem ggX8_factor_X8_isAt : GoodIn wsX8_factor wsX8_isAt := goodIn_r _ [7, 8, 2, 9, 10, 40, 41, 42, 43, 44, 45, 46, 47, 48, 49, 50, 51, 52, 53, 54, 55, 56, 57, 58, 59, 60, 61, 62, 63, 64, 65, 66, 67, 68] rfl (by decide +kernel)
set_option maxRecDepth 20000 in
theorem gX8_factor_X8_isAt : GoodIn wsX8_factor (wsV RX8 155 RX8 yX8_isAt wsX8_isAt) := goodIn_app (goodIn_of _ (by decide +kernel)) ggX8_factor_X8_isAt
set_option maxRecDepth 20000 in
theorem ggX8_factor_X8_factor : GoodIn wsX8_factor wsX8_factor := goodIn_r _ [0, 1, 2, 3, 4, 5, 6, 7, 8, 9, 10, 11, 12, 13, 14, 15, 16, 17, 18, 19, 20, 21, 22, 23, 24, 25, 26, 27, 28, 29, 30, 31, 32, 33, 34, 35, 36, 37, 38, 39, 40, 41, 42, 43, 44, 45, 46, 47, 48, 49, 50, 51, 52, 53, 54, 55, 56, 57, 58, 59, 60, 61, 62, 63, 64, 65, 66, 67, 68] rfl (by decide +kernel)
set_option maxRecDepth 20000 in
theorem gX8_factor_X8_factor : GoodIn wsX8_factor (wsV RX8 172 RX8 yX8_factor wsX8_factor) := goodIn_app (goodIn_of _ (by decide +kernel)) ggX8_factor_X8_factor
set_option maxRecDepth 20000 in
theorem ggX8_factor_X8_any : GoodIn wsX8_factor wsX8_any := goodIn_r _ [35, 2, 36, 37, 38, 6, 3, 4, 5, 7, 8, 9, 10, 39, 11, 12, 13, 0, 1, 14, 15, 16, 17, 18, 19, 20, 21, 22, 23, 24, 25, 26, 27, 28, 29, 30, 31, 32, 33, 34, 40, 41, 42, 43, 44, 45, 46, 47, 48, 49, 50, 51, 52, 53, 54, 55, 56, 57, 58, 59, 60, 61, 62, 63, 64, 65, 66, 67, 68] rfl (by decide +kernel)
set_option maxRecDepth 20000 in
theorem gX8_factor_X8_any : GoodIn wsX8_factor (wsV RX8 175 RX8 yX8_any wsX8_any) := goodIn_app (goodIn_of _ (by decide +kernel)) ggX8_factor_X8_any
set_option maxRecDepth 20000 in
theorem ggX8_factor_X8_takes : GoodIn wsX8_factor wsX8_takes := goodIn_r _ [20, 2, 8, 3, 4, 5, 6, 7, 9, 10, 40, 41, 42, 43, 44, 45, 46, 47, 48, 49, 50, 51, 52, 53, 54, 55, 56, 57, 58, 59, 60, 61, 62, 63, 64, 65, 66, 67, 68] rfl (by decide +kernel)
set_option maxRecDepth 20000 in
theorem gX8_factor_X8_takes : GoodIn wsX8_factor (wsV RX8 162 RX8 yX8_takes wsX8_takes) := goodIn_app (goodIn_of _ (by decide +kernel)) ggX8_factor_X8_takes
set_option maxRecDepth 20000 in
theorem ggX8_factor_X8_test : GoodIn wsX8_factor wsX8_test := goodIn_r _ [24, 25, 8, 2, 26, 3, 4, 5, 6, 7, 9, 10, 17, 18, 19, 20, 27, 28, 29, 30, 31, 32, 33, 34, 40, 41, 42, 43, 44, 45, 46, 47, 48, 49, 50, 51, 52, 53, 54, 55, 56, 57, 58, 59, 60, 61, 62, 63, 64, 65, 66, 67, 68] rfl (by decide +kernel)
set_option maxRecDepth 20000 in
theorem gX8_factor_X8_test : GoodIn wsX8_factor (wsV RX8 178 RX8 yX8_test wsX8_test) := goodIn_app (goodIn_of _ (by decide +kernel)) ggX8_factor_X8_test
theorem dX8_factor_0 : decode cX8_factor 0 = .ok (.aload_n 0, 1) := by decide +kernel
theorem dX8_factor_1 : decode cX8_factor 1 = .ok (.getfield 169, 3) := by decide +kernel
theorem dX8_factor_4 : decode cX8_factor 4 = .ok (.iconst 4, 1) := by decide +kernel
theorem dX8_factor_5 : decode cX8_factor 5 = .ok (.if_icmp .ge 58, 3) := by decide +kernel
theorem dX8_factor_8 : decode cX8_factor 8 = .ok (.aload_n 0, 1) := by decide +kernel
theorem dX8_factor_9 : decode cX8_factor 9 = .ok (.bipush 33, 2) := by decide +kernel
theorem dX8_factor_11 : decode cX8_factor 11 = .ok (.invokevirtual 155, 3) := by decide +kernel
theorem dX8_factor_14 : decode cX8_factor 14 = .ok (.ifCond .eq 49, 3) := by decide +kernel
theorem dX8_factor_17 : decode cX8_factor 17 = .ok (.aload_n 0, 1) := by decide +kernel
theorem dX8_factor_18 : decode cX8_factor 18 = .ok (.dup, 1) := by decide +kernel
theorem dX8_factor_19 : decode cX8_factor 19 = .ok (.getfield 149, 3) := by decide +kernel
theorem dX8_factor_22 : decode cX8_factor 22 = .ok (.iconst 1, 1) := by decide +kernel
theorem dX8_factor_23 : decode cX8_factor 23 = .ok (.iadd, 1) := by decide +kernel
theorem dX8_factor_24 : decode cX8_factor 24 = .ok (.putfield 149, 3) := by decide +kernel
theorem dX8_factor_27 : decode cX8_factor 27 = .ok (.aload_n 0, 1) := by decide +kernel
theorem dX8_factor_28 : decode cX8_factor 28 = .ok (.dup, 1) := by decide +kernel
theorem dX8_factor_29 : decode cX8_factor 29 = .ok (.getfield 169, 3) := by decide +kernel
theorem dX8_factor_32 : decode cX8_factor 32 = .ok (.iconst 1, 1) := by decide +kernel
theorem dX8_factor_33 : decode cX8_factor 33 = .ok (.iadd, 1) := by decide +kernel
theorem dX8_factor_34 : decode cX8_factor 34 = .ok (.putfield 169, 3) := by decide +kernel
theorem dX8_factor_37 : decode cX8_factor 37 = .ok (.aload_n 0, 1) := by decide +kernel
theorem dX8_factor_38 : decode cX8_factor 38 = .ok (.invokevirtual 172, 3) := by decide +kernel
theorem dX8_factor_41 : decode cX8_factor 41 = .ok (.ifCond .ne 7, 3) := by decide +kernel
theorem dX8_factor_44 : decode cX8_factor 44 = .ok (.iconst 1, 1) := by decide +kernel
theorem dX8_factor_45 : decode cX8_factor 45 = .ok (.goto 4, 3) := by decide +kernel
theorem dX8_factor_48 : decode cX8_factor 48 = .ok (.iconst 0, 1) := by decide +kernel
theorem dX8_factor_49 : decode cX8_factor 49 = .ok (.istore_n 1, 1) := by decide +kernel
theorem dX8_factor_50 : decode cX8_factor 50 = .ok (.aload_n 0, 1) := by decide +kernel
theorem dX8_factor_51 : decode cX8_factor 51 = .ok (.dup, 1) := by decide +kernel
theorem dX8_factor_52 : decode cX8_factor 52 = .ok (.getfield 169, 3) := by decide +kernel
theorem dX8_factor_55 : decode cX8_factor 55 = .ok (.iconst 1, 1) := by decide +kernel
theorem dX8_factor_56 : decode cX8_factor 56 = .ok (.isub, 1) := by decide +kernel
theorem dX8_factor_57 : decode cX8_factor 57 = .ok (.putfield 169, 3) := by decide +kernel
theorem dX8_factor_60 : decode cX8_factor 60 = .ok (.goto 69, 3) := by decide +kernel
theorem dX8_factor_63 : decode cX8_factor 63 = .ok (.aload_n 0, 1) := by decide +kernel
theorem dX8_factor_64 : decode cX8_factor 64 = .ok (.getfield 169, 3) := by decide +kernel
theorem dX8_factor_67 : decode cX8_factor 67 = .ok (.iconst 4, 1) := by decide +kernel
theorem dX8_factor_68 : decode cX8_factor 68 = .ok (.if_icmp .ge 56, 3) := by decide +kernel
theorem dX8_factor_71 : decode cX8_factor 71 = .ok (.aload_n 0, 1) := by decide +kernel
theorem dX8_factor_72 : decode cX8_factor 72 = .ok (.bipush 40, 2) := by decide +kernel
theorem dX8_factor_74 : decode cX8_factor 74 = .ok (.invokevirtual 155, 3) := by decide +kernel
theorem dX8_factor_77 : decode cX8_factor 77 = .ok (.ifCond .eq 47, 3) := by decide +kernel
theorem dX8_factor_80 : decode cX8_factor 80 = .ok (.aload_n 0, 1) := by decide +kernel
theorem dX8_factor_81 : decode cX8_factor 81 = .ok (.dup, 1) := by decide +kernel
theorem dX8_factor_82 : decode cX8_factor 82 = .ok (.getfield 149, 3) := by decide +kernel
theorem dX8_factor_85 : decode cX8_factor 85 = .ok (.iconst 1, 1) := by decide +kernel
theorem dX8_factor_86 : decode cX8_factor 86 = .ok (.iadd, 1) := by decide +kernel
theorem dX8_factor_87 : decode cX8_factor 87 = .ok (.putfield 149, 3) := by decide +kernel
theorem dX8_factor_90 : decode cX8_factor 90 = .ok (.aload_n 0, 1) := by decide +kernel
theorem dX8_factor_91 : decode cX8_factor 91 = .ok (.dup, 1) := by decide +kernel
theorem dX8_factor_92 : decode cX8_factor 92 = .ok (.getfield 169, 3) := by decide +kernel
theorem dX8_factor_95 : decode cX8_factor 95 = .ok (.iconst 1, 1) := by decide +kernel
theorem dX8_factor_96 : decode cX8_factor 96 = .ok (.iadd, 1) := by decide +kernel
theorem dX8_factor_97 : decode cX8_factor 97 = .ok (.putfield 169, 3) := by decide +kernel
theorem dX8_factor_100 : decode cX8_factor 100 = .ok (.aload_n 0, 1) := by decide +kernel
theorem dX8_factor_101 : decode cX8_factor 101 = .ok (.invokevirtual 175, 3) := by decide +kernel
theorem dX8_factor_104 : decode cX8_factor 104 = .ok (.istore_n 1, 1) := by decide +kernel
theorem dX8_factor_105 : decode cX8_factor 105 = .ok (.aload_n 0, 1) := by decide +kernel
theorem dX8_factor_106 : decode cX8_factor 106 = .ok (.dup, 1) := by decide +kernel
theorem dX8_factor_107 : decode cX8_factor 107 = .ok (.getfield 169, 3) := by decide +kernel
theorem dX8_factor_110 : decode cX8_factor 110 = .ok (.iconst 1, 1) := by decide +kernel
theorem dX8_factor_111 : decode cX8_factor 111 = .ok (.isub, 1) := by decide +kernel
theorem dX8_factor_112 : decode cX8_factor 112 = .ok (.putfield 169, 3) := by decide +kernel
theorem dX8_factor_115 : decode cX8_factor 115 = .ok (.aload_n 0, 1) := by decide +kernel
theorem dX8_factor_116 : decode cX8_factor 116 = .ok (.bipush 41, 2) := by decide +kernel
theorem dX8_factor_118 : decode cX8_factor 118 = .ok (.invokevirtual 162, 3) := by decide +kernel
theorem dX8_factor_121 : decode cX8_factor 121 = .ok (.goto 8, 3) := by decide +kernel
theorem dX8_factor_124 : decode cX8_factor 124 = .ok (.aload_n 0, 1) := by decide +kernel
theorem dX8_factor_125 : decode cX8_factor 125 = .ok (.invokevirtual 178, 3) := by decide +kernel
theorem dX8_factor_128 : decode cX8_factor 128 = .ok (.istore_n 1, 1) := by decide +kernel
theorem dX8_factor_129 : decode cX8_factor 129 = .ok (.iload_n 1, 1) := by decide +kernel
theorem dX8_factor_130 : decode cX8_factor 130 = .ok (.ireturn, 1) := by decide +kernel
set_option maxRecDepth 20000 in
theorem ggX8_both_X8_factor : GoodIn wsX8_both wsX8_factor := goodIn_r _ [17, 18, 1, 6, 7, 8, 5, 9, 10, 11, 12, 2, 3, 4, 19, 20, 21, 22, 23, 24, 25, 26, 27, 28, 29, 30, 31, 32, 33, 34, 35, 36, 37, 38, 39, 13, 14, 15, 16, 0, 40, 41, 42, 43, 44, 45, 46, 47, 48, 49, 50, 51, 52, 53, 54, 55, 56, 57, 58, 59, 60, 61, 62, 63, 64, 65, 66, 67, 68] rfl (by decide +kernel)
set_option maxRecDepth 20000 in
theorem gX8_both_X8_factor : GoodIn wsX8_both (wsV RX8 172 RX8 yX8_factor wsX8_factor) := goodIn_app (goodIn_of _ (by decide +kernel)) ggX8_both_X8_factor
set_option maxRecDepth 20000 in
theorem ggX8_both_X8_isAt : GoodIn wsX8_both wsX8_isAt := goodIn_r _ [9, 10, 1, 11, 12, 40, 41, 42, 43, 44, 45, 46, 47, 48, 49, 50, 51, 52, 53, 54, 55, 56, 57, 58, 59, 60, 61, 62, 63, 64, 65, 66, 67, 68] rfl (by decide +kernel)
set_option maxRecDepth 20000 in
theorem gX8_both_X8_isAt : GoodIn wsX8_both (wsV RX8 155 RX8 yX8_isAt wsX8_isAt) := goodIn_app (goodIn_of _ (by decide +kernel)) ggX8_both_X8_isAt
theorem dX8_both_0 : decode cX8_both 0 = .ok (.aload_n 0, 1) := by decide +kernel
theorem dX8_both_1 : decode cX8_both 1 = .ok (.invokevirtual 172, 3) := by decide +kernel
theorem dX8_both_4 : decode cX8_both 4 = .ok (.istore_n 1, 1) := by decide +kernel
theorem dX8_both_5 : decode cX8_both 5 = .ok (.aload_n 0, 1) := by decide +kernel
theorem dX8_both_6 : decode cX8_both 6 = .ok (.bipush 38, 2) := by decide +kernel
theorem dX8_both_8 : decode cX8_both 8 = .ok (.invokevirtual 155, 3) := by decide +kernel
theorem dX8_both_11 : decode cX8_both 11 = .ok (.ifCond .eq 35, 3) := by decide +kernel
theorem dX8_both_14 : decode cX8_both 14 = .ok (.aload_n 0, 1) := by decide +kernel
theorem dX8_both_15 : decode cX8_both 15 = .ok (.dup, 1) := by decide +kernel
theorem dX8_both_16 : decode cX8_both 16 = .ok (.getfield 149, 3) := by decide +kernel
theorem dX8_both_19 : decode cX8_both 19 = .ok (.iconst 1, 1) := by decide +kernel
theorem dX8_both_20 : decode cX8_both 20 = .ok (.iadd, 1) := by decide +kernel
theorem dX8_both_21 : decode cX8_both 21 = .ok (.putfield 149, 3) := by decide +kernel
theorem dX8_both_24 : decode cX8_both 24 = .ok (.aload_n 0, 1) := by decide +kernel
theorem dX8_both_25 : decode cX8_both 25 = .ok (.invokevirtual 172, 3) := by decide +kernel
theorem dX8_both_28 : decode cX8_both 28 = .ok (.istore_n 2, 1) := by decide +kernel
theorem dX8_both_29 : decode cX8_both 29 = .ok (.iload_n 1, 1) := by decide +kernel
theorem dX8_both_30 : decode cX8_both 30 = .ok (.ifCond .eq 11, 3) := by decide +kernel
theorem dX8_both_33 : decode cX8_both 33 = .ok (.iload_n 2, 1) := by decide +kernel
theorem dX8_both_34 : decode cX8_both 34 = .ok (.ifCond .eq 7, 3) := by decide +kernel
theorem dX8_both_37 : decode cX8_both 37 = .ok (.iconst 1, 1) := by decide +kernel
theorem dX8_both_38 : decode cX8_both 38 = .ok (.goto 4, 3) := by decide +kernel
theorem dX8_both_41 : decode cX8_both 41 = .ok (.iconst 0, 1) := by decide +kernel
theorem dX8_both_42 : decode cX8_both 42 = .ok (.istore_n 1, 1) := by decide +kernel
theorem dX8_both_43 : decode cX8_both 43 = .ok (.goto (-38), 3) := by decide +kernel
theorem dX8_both_46 : decode cX8_both 46 = .ok (.iload_n 1, 1) := by decide +kernel
theorem dX8_both_47 : decode cX8_both 47 = .ok (.ireturn, 1) := by decide +kernel
set_option maxRecDepth 20000 in
theorem ggX8_any_X8_both : GoodIn wsX8_any wsX8_both := goodIn_r _ [13, 1, 14, 15, 16, 5, 6, 7, 8, 9, 10, 11, 12, 0, 2, 3, 4, 17, 18, 19, 20, 21, 22, 23, 24, 25, 26, 27, 28, 29, 30, 31, 32, 33, 34, 35, 36, 37, 38, 39, 40, 41, 42, 43, 44, 45, 46, 47, 48, 49, 50, 51, 52, 53, 54, 55, 56, 57, 58, 59, 60, 61, 62, 63, 64, 65, 66, 67, 68] rfl (by decide +kernel)
set_option maxRecDepth 20000 in
theorem gX8_any_X8_both : GoodIn wsX8_any (wsV RX8 181 RX8 yX8_both wsX8_both) := goodIn_app (goodIn_of _ (by decide +kernel)) ggX8_any_X8_both
set_option maxRecDepth 20000 in
theorem ggX8_any_X8_isAt : GoodIn wsX8_any wsX8_isAt := goodIn_r _ [9, 10, 1, 11, 12, 40, 41, 42, 43, 44, 45, 46, 47, 48, 49, 50, 51, 52, 53, 54, 55, 56, 57, 58, 59, 60, 61, 62, 63, 64, 65, 66, 67, 68] rfl (by decide +kernel)
set_option maxRecDepth 20000 in
theorem gX8_any_X8_isAt : GoodIn wsX8_any (wsV RX8 155 RX8 yX8_isAt wsX8_isAt) := goodIn_app (goodIn_of _ (by decide +kernel)) ggX8_any_X8_isAt
theorem dX8_any_0 : decode cX8_any 0 = .ok (.aload_n 0, 1) := by decide +kernel
theorem dX8_any_1 : decode cX8_any 1 = .ok (.invokevirtual 181, 3) := by decide +kernel
theorem dX8_any_4 : decode cX8_any 4 = .ok (.istore_n 1, 1) := by decide +kernel
theorem dX8_any_5 : decode cX8_any 5 = .ok (.aload_n 0, 1) := by decide +kernel
theorem dX8_any_6 : decode cX8_any 6 = .ok (.bipush 124, 2) := by decide +kernel
theorem dX8_any_8 : decode cX8_any 8 = .ok (.invokevirtual 155, 3) := by decide +kernel
theorem dX8_any_11 : decode cX8_any 11 = .ok (.ifCond .eq 35, 3) := by decide +kernel
theorem dX8_any_14 : decode cX8_any 14 = .ok (.aload_n 0, 1) := by decide +kernel
theorem dX8_any_15 : decode cX8_any 15 = .ok (.dup, 1) := by decide +kernel
theorem dX8_any_16 : decode cX8_any 16 = .ok (.getfield 149, 3) := by decide +kernel
theorem dX8_any_19 : decode cX8_any 19 = .ok (.iconst 1, 1) := by decide +kernel
theorem dX8_any_20 : decode cX8_any 20 = .ok (.iadd, 1) := by decide +kernel
theorem dX8_any_21 : decode cX8_any 21 = .ok (.putfield 149, 3) := by decide +kernel
theorem dX8_any_24 : decode cX8_any 24 = .ok (.aload_n 0, 1) := by decide +kernel
theorem dX8_any_25 : decode cX8_any 25 = .ok (.invokevirtual 181, 3) := by decide +kernel
theorem dX8_any_28 : decode cX8_any 28 = .ok (.istore_n 2, 1) := by decide +kernel
theorem dX8_any_29 : decode cX8_any 29 = .ok (.iload_n 1, 1) := by decide +kernel
theorem dX8_any_30 : decode cX8_any 30 = .ok (.ifCond .ne 7, 3) := by decide +kernel
theorem dX8_any_33 : decode cX8_any 33 = .ok (.iload_n 2, 1) := by decide +kernel
theorem dX8_any_34 : decode cX8_any 34 = .ok (.ifCond .eq 7, 3) := by decide +kernel
theorem dX8_any_37 : decode cX8_any 37 = .ok (.iconst 1, 1) := by decide +kernel
theorem dX8_any_38 : decode cX8_any 38 = .ok (.goto 4, 3) := by decide +kernel
theorem dX8_any_41 : decode cX8_any 41 = .ok (.iconst 0, 1) := by decide +kernel
theorem dX8_any_42 : decode cX8_any 42 = .ok (.istore_n 1, 1) := by decide +kernel
theorem dX8_any_43 : decode cX8_any 43 = .ok (.goto (-38), 3) := by decide +kernel
theorem dX8_any_46 : decode cX8_any 46 = .ok (.iload_n 1, 1) := by decide +kernel
theorem dX8_any_47 : decode cX8_any 47 = .ok (.ireturn, 1) := by decide +kernel
set_option maxRecDepth 20000 in
theorem ggX8_clause_X8_isAt : GoodIn wsX8_clause wsX8_isAt := goodIn_r _ [11, 2, 12, 13, 14, 45, 46, 47, 48, 49, 50, 51, 52, 53, 54, 55, 56, 57, 58, 59, 60, 61, 62, 63, 64, 65, 66, 67, 68, 69, 70, 71, 72, 73] rfl (by decide +kernel)
set_option maxRecDepth 20000 in
theorem gX8_clause_X8_isAt : GoodIn wsX8_clause (wsV RX8 155 RX8 yX8_isAt wsX8_isAt) := goodIn_app (goodIn_of _ (by decide +kernel)) ggX8_clause_X8_isAt
set_option maxRecDepth 20000 in
theorem ggX8_clause_X8_takes : GoodIn wsX8_clause wsX8_takes := goodIn_r _ [18, 12, 2, 7, 8, 9, 10, 11, 13, 14, 45, 46, 47, 48, 49, 50, 51, 52, 53, 54, 55, 56, 57, 58, 59, 60, 61, 62, 63, 64, 65, 66, 67, 68, 69, 70, 71, 72, 73] rfl (by decide +kernel)
set_option maxRecDepth 20000 in
theorem gX8_clause_X8_takes : GoodIn wsX8_clause (wsV RX8 162 RX8 yX8_takes wsX8_takes) := goodIn_app (goodIn_of _ (by decide +kernel)) ggX8_clause_X8_takes
set_option maxRecDepth 20000 in
theorem ggX8_clause_X8_number_ : GoodIn wsX8_clause wsX8_number_ := goodIn_r _ [22, 2, 14, 12, 23, 24, 25, 10, 26, 13, 45, 46, 47, 48, 49, 50, 51, 52, 53, 54, 55, 56, 57, 58, 59, 60, 61, 62, 63, 64, 65, 66, 67, 68, 69, 70, 71, 72, 73] rfl (by decide +kernel)
set_option maxRecDepth 20000 in
theorem gX8_clause_X8_number_ : GoodIn wsX8_clause (wsV RX8 166 RX8 yX8_number_ wsX8_number_) := goodIn_app (goodIn_of _ (by decide +kernel)) ggX8_clause_X8_number_
set_option maxRecDepth 20000 in
theorem ggX8_clause_X8_any : GoodIn wsX8_clause wsX8_any := goodIn_r _ [30, 12, 31, 32, 33, 10, 7, 8, 9, 11, 2, 13, 14, 34, 35, 36, 37, 38, 5, 27, 28, 29, 15, 16, 17, 18, 39, 40, 41, 42, 43, 44, 19, 20, 21, 22, 23, 24, 25, 26, 45, 46, 47, 48, 49, 50, 51, 52, 53, 54, 55, 56, 57, 58, 59, 60, 61, 62, 63, 64, 65, 66, 67, 68, 69, 70, 71, 72, 73] rfl (by decide +kernel)
set_option maxRecDepth 20000 in
theorem gX8_clause_X8_any : GoodIn wsX8_clause (wsV RX8 175 RX8 yX8_any wsX8_any) := goodIn_app (goodIn_of _ (by decide +kernel)) ggX8_clause_X8_any
theorem dX8_clause_0 : decode cX8_clause 0 = .ok (.iconst (-1), 1) := by decide +kernel
theorem dX8_clause_1 : decode cX8_clause 1 = .ok (.istore_n 1, 1) := by decide +kernel
theorem dX8_clause_2 : decode cX8_clause 2 = .ok (.iconst 0, 1) := by decide +kernel
theorem dX8_clause_3 : decode cX8_clause 3 = .ok (.istore_n 2, 1) := by decide +kernel
theorem dX8_clause_4 : decode cX8_clause 4 = .ok (.iload_n 2, 1) := by decide +kernel
theorem dX8_clause_5 : decode cX8_clause 5 = .ok (.iconst 3, 1) := by decide +kernel
theorem dX8_clause_6 : decode cX8_clause 6 = .ok (.if_icmp .ge 28, 3) := by decide +kernel
theorem dX8_clause_9 : decode cX8_clause 9 = .ok (.aload_n 0, 1) := by decide +kernel
theorem dX8_clause_10 : decode cX8_clause 10 = .ok (.aload_n 0, 1) := by decide +kernel
theorem dX8_clause_11 : decode cX8_clause 11 = .ok (.getfield 40, 3) := by decide +kernel
theorem dX8_clause_14 : decode cX8_clause 14 = .ok (.iload_n 2, 1) := by decide +kernel
theorem dX8_clause_15 : decode cX8_clause 15 = .ok (.caload, 1) := by decide +kernel
theorem dX8_clause_16 : decode cX8_clause 16 = .ok (.invokevirtual 155, 3) := by decide +kernel
theorem dX8_clause_19 : decode cX8_clause 19 = .ok (.ifCond .eq 7, 3) := by decide +kernel
theorem dX8_clause_22 : decode cX8_clause 22 = .ok (.iload_n 2, 1) := by decide +kernel
theorem dX8_clause_23 : decode cX8_clause 23 = .ok (.goto 4, 3) := by decide +kernel
theorem dX8_clause_26 : decode cX8_clause 26 = .ok (.iload_n 1, 1) := by decide +kernel
theorem dX8_clause_27 : decode cX8_clause 27 = .ok (.istore_n 1, 1) := by decide +kernel
theorem dX8_clause_28 : decode cX8_clause 28 = .ok (.iinc 2 1, 3) := by decide +kernel
theorem dX8_clause_31 : decode cX8_clause 31 = .ok (.goto (-27), 3) := by decide +kernel
theorem dX8_clause_34 : decode cX8_clause 34 = .ok (.iload_n 1, 1) := by decide +kernel
theorem dX8_clause_35 : decode cX8_clause 35 = .ok (.iconst (-1), 1) := by decide +kernel
theorem dX8_clause_36 : decode cX8_clause 36 = .ok (.if_icmp .ne 9, 3) := by decide +kernel
theorem dX8_clause_39 : decode cX8_clause 39 = .ok (.aload_n 0, 1) := by decide +kernel
theorem dX8_clause_40 : decode cX8_clause 40 = .ok (.iconst 0, 1) := by decide +kernel
theorem dX8_clause_41 : decode cX8_clause 41 = .ok (.putfield 146, 3) := by decide +kernel
theorem dX8_clause_44 : decode cX8_clause 44 = .ok (.return_, 1) := by decide +kernel
theorem dX8_clause_45 : decode cX8_clause 45 = .ok (.iconst 0, 1) := by decide +kernel
theorem dX8_clause_46 : decode cX8_clause 46 = .ok (.istore_n 2, 1) := by decide +kernel
theorem dX8_clause_47 : decode cX8_clause 47 = .ok (.iload_n 2, 1) := by decide +kernel
theorem dX8_clause_48 : decode cX8_clause 48 = .ok (.iconst 5, 1) := by decide +kernel
theorem dX8_clause_49 : decode cX8_clause 49 = .ok (.if_icmp .ge 36, 3) := by decide +kernel
theorem dX8_clause_52 : decode cX8_clause 52 = .ok (.aload_n 0, 1) := by decide +kernel
theorem dX8_clause_53 : decode cX8_clause 53 = .ok (.getfield 43, 3) := by decide +kernel
theorem dX8_clause_56 : decode cX8_clause 56 = .ok (.iconst 5, 1) := by decide +kernel
theorem dX8_clause_57 : decode cX8_clause 57 = .ok (.iload_n 1, 1) := by decide +kernel
theorem dX8_clause_58 : decode cX8_clause 58 = .ok (.imul, 1) := by decide +kernel
theorem dX8_clause_59 : decode cX8_clause 59 = .ok (.iload_n 2, 1) := by decide +kernel
theorem dX8_clause_60 : decode cX8_clause 60 = .ok (.iadd, 1) := by decide +kernel
theorem dX8_clause_61 : decode cX8_clause 61 = .ok (.caload, 1) := by decide +kernel
theorem dX8_clause_62 : decode cX8_clause 62 = .ok (.ifCond .eq 23, 3) := by decide +kernel
theorem dX8_clause_65 : decode cX8_clause 65 = .ok (.aload_n 0, 1) := by decide +kernel
theorem dX8_clause_66 : decode cX8_clause 66 = .ok (.aload_n 0, 1) := by decide +kernel
theorem dX8_clause_67 : decode cX8_clause 67 = .ok (.getfield 43, 3) := by decide +kernel
theorem dX8_clause_70 : decode cX8_clause 70 = .ok (.iconst 5, 1) := by decide +kernel
theorem dX8_clause_71 : decode cX8_clause 71 = .ok (.iload_n 1, 1) := by decide +kernel
theorem dX8_clause_72 : decode cX8_clause 72 = .ok (.imul, 1) := by decide +kernel
theorem dX8_clause_73 : decode cX8_clause 73 = .ok (.iload_n 2, 1) := by decide +kernel
theorem dX8_clause_74 : decode cX8_clause 74 = .ok (.iadd, 1) := by decide +kernel
theorem dX8_clause_75 : decode cX8_clause 75 = .ok (.caload, 1) := by decide +kernel
theorem dX8_clause_76 : decode cX8_clause 76 = .ok (.invokevirtual 162, 3) := by decide +kernel
theorem dX8_clause_79 : decode cX8_clause 79 = .ok (.iinc 2 1, 3) := by decide +kernel
theorem dX8_clause_82 : decode cX8_clause 82 = .ok (.goto (-35), 3) := by decide +kernel
theorem dX8_clause_85 : decode cX8_clause 85 = .ok (.aload_n 0, 1) := by decide +kernel
theorem dX8_clause_86 : decode cX8_clause 86 = .ok (.bipush 32, 2) := by decide +kernel
theorem dX8_clause_88 : decode cX8_clause 88 = .ok (.invokevirtual 162, 3) := by decide +kernel
theorem dX8_clause_91 : decode cX8_clause 91 = .ok (.aload_n 0, 1) := by decide +kernel
theorem dX8_clause_92 : decode cX8_clause 92 = .ok (.invokevirtual 166, 3) := by decide +kernel
theorem dX8_clause_95 : decode cX8_clause 95 = .ok (.istore_n 2, 1) := by decide +kernel
theorem dX8_clause_96 : decode cX8_clause 96 = .ok (.iload_n 1, 1) := by decide +kernel
theorem dX8_clause_97 : decode cX8_clause 97 = .ok (.iconst 2, 1) := by decide +kernel
theorem dX8_clause_98 : decode cX8_clause 98 = .ok (.if_icmp .ne 9, 3) := by decide +kernel
theorem dX8_clause_101 : decode cX8_clause 101 = .ok (.aload_n 0, 1) := by decide +kernel
theorem dX8_clause_102 : decode cX8_clause 102 = .ok (.iload_n 2, 1) := by decide +kernel
theorem dX8_clause_103 : decode cX8_clause 103 = .ok (.putfield 184, 3) := by decide +kernel
theorem dX8_clause_106 : decode cX8_clause 106 = .ok (.return_, 1) := by decide +kernel
theorem dX8_clause_107 : decode cX8_clause 107 = .ok (.aload_n 0, 1) := by decide +kernel
theorem dX8_clause_108 : decode cX8_clause 108 = .ok (.bipush 32, 2) := by decide +kernel
theorem dX8_clause_110 : decode cX8_clause 110 = .ok (.invokevirtual 162, 3) := by decide +kernel
theorem dX8_clause_113 : decode cX8_clause 113 = .ok (.aload_n 0, 1) := by decide +kernel
theorem dX8_clause_114 : decode cX8_clause 114 = .ok (.iconst 0, 1) := by decide +kernel
theorem dX8_clause_115 : decode cX8_clause 115 = .ok (.putfield 169, 3) := by decide +kernel
theorem dX8_clause_118 : decode cX8_clause 118 = .ok (.aload_n 0, 1) := by decide +kernel
theorem dX8_clause_119 : decode cX8_clause 119 = .ok (.invokevirtual 175, 3) := by decide +kernel
theorem dX8_clause_122 : decode cX8_clause 122 = .ok (.istore_n 3, 1) := by decide +kernel
theorem dX8_clause_123 : decode cX8_clause 123 = .ok (.aload_n 0, 1) := by decide +kernel
theorem dX8_clause_124 : decode cX8_clause 124 = .ok (.dup, 1) := by decide +kernel
theorem dX8_clause_125 : decode cX8_clause 125 = .ok (.getfield 187, 3) := by decide +kernel
theorem dX8_clause_128 : decode cX8_clause 128 = .ok (.iload_n 3, 1) := by decide +kernel
theorem dX8_clause_129 : decode cX8_clause 129 = .ok (.ifCond .ne 7, 3) := by decide +kernel
theorem dX8_clause_132 : decode cX8_clause 132 = .ok (.iconst 0, 1) := by decide +kernel
theorem dX8_clause_133 : decode cX8_clause 133 = .ok (.goto 13, 3) := by decide +kernel
theorem dX8_clause_136 : decode cX8_clause 136 = .ok (.iload_n 1, 1) := by decide +kernel
theorem dX8_clause_137 : decode cX8_clause 137 = .ok (.ifCond .ne 7, 3) := by decide +kernel
theorem dX8_clause_140 : decode cX8_clause 140 = .ok (.iload_n 2, 1) := by decide +kernel
theorem dX8_clause_141 : decode cX8_clause 141 = .ok (.goto 5, 3) := by decide +kernel
theorem dX8_clause_144 : decode cX8_clause 144 = .ok (.iload_n 2, 1) := by decide +kernel
theorem dX8_clause_145 : decode cX8_clause 145 = .ok (.ineg, 1) := by decide +kernel
theorem dX8_clause_146 : decode cX8_clause 146 = .ok (.iadd, 1) := by decide +kernel
theorem dX8_clause_147 : decode cX8_clause 147 = .ok (.putfield 187, 3) := by decide +kernel
theorem dX8_clause_150 : decode cX8_clause 150 = .ok (.return_, 1) := by decide +kernel
set_option maxRecDepth 20000 in
theorem ggX8_readAll_X8_clause : GoodIn wsX8_readAll wsX8_clause := goodIn_r _ [10, 11, 2, 12, 4, 13, 3, 14, 15, 16, 9, 17, 1, 5, 18, 19, 20, 21, 22, 23, 24, 25, 26, 27, 28, 29, 30, 31, 32, 33, 34, 35, 36, 37, 38, 39, 40, 41, 42, 43, 44, 45, 46, 47, 48, 49, 50, 51, 52, 53, 54, 55, 56, 57, 58, 59, 60, 61, 62, 63, 64, 65, 66, 67, 68, 69, 70, 71, 72, 73, 74, 75, 76, 77] rfl (by decide +kernel)
set_option maxRecDepth 20000 in
theorem gX8_readAll_X8_clause : GoodIn wsX8_readAll (wsV RX8 190 RX8 yX8_clause wsX8_clause) := goodIn_app (goodIn_of _ (by decide +kernel)) ggX8_readAll_X8_clause
set_option maxRecDepth 20000 in
theorem ggX8_readAll_X8_isAt : GoodIn wsX8_readAll wsX8_isAt := goodIn_r _ [17, 2, 1, 5, 18, 49, 50, 51, 52, 53, 54, 55, 56, 57, 58, 59, 60, 61, 62, 63, 64, 65, 66, 67, 68, 69, 70, 71, 72, 73, 74, 75, 76, 77] rfl (by decide +kernel)
set_option maxRecDepth 20000 in
theorem gX8_readAll_X8_isAt : GoodIn wsX8_readAll (wsV RX8 155 RX8 yX8_isAt wsX8_isAt) := goodIn_app (goodIn_of _ (by decide +kernel)) ggX8_readAll_X8_isAt
theorem dX8_readAll_0 : decode cX8_readAll 0 = .ok (.aload_n 0, 1) := by decide +kernel
theorem dX8_readAll_1 : decode cX8_readAll 1 = .ok (.iconst 0, 1) := by decide +kernel
theorem dX8_readAll_2 : decode cX8_readAll 2 = .ok (.putfield 149, 3) := by decide +kernel
theorem dX8_readAll_5 : decode cX8_readAll 5 = .ok (.aload_n 0, 1) := by decide +kernel
theorem dX8_readAll_6 : decode cX8_readAll 6 = .ok (.iconst 1, 1) := by decide +kernel
theorem dX8_readAll_7 : decode cX8_readAll 7 = .ok (.putfield 146, 3) := by decide +kernel
theorem dX8_readAll_10 : decode cX8_readAll 10 = .ok (.aload_n 0, 1) := by decide +kernel
theorem dX8_readAll_11 : decode cX8_readAll 11 = .ok (.iconst 0, 1) := by decide +kernel
theorem dX8_readAll_12 : decode cX8_readAll 12 = .ok (.putfield 187, 3) := by decide +kernel
theorem dX8_readAll_15 : decode cX8_readAll 15 = .ok (.aload_n 0, 1) := by decide +kernel
theorem dX8_readAll_16 : decode cX8_readAll 16 = .ok (.bipush 6, 2) := by decide +kernel
theorem dX8_readAll_18 : decode cX8_readAll 18 = .ok (.putfield 184, 3) := by decide +kernel
theorem dX8_readAll_21 : decode cX8_readAll 21 = .ok (.iconst 1, 1) := by decide +kernel
theorem dX8_readAll_22 : decode cX8_readAll 22 = .ok (.istore_n 1, 1) := by decide +kernel
theorem dX8_readAll_23 : decode cX8_readAll 23 = .ok (.aload_n 0, 1) := by decide +kernel
theorem dX8_readAll_24 : decode cX8_readAll 24 = .ok (.invokevirtual 190, 3) := by decide +kernel
theorem dX8_readAll_27 : decode cX8_readAll 27 = .ok (.iload_n 1, 1) := by decide +kernel
theorem dX8_readAll_28 : decode cX8_readAll 28 = .ok (.bipush 10, 2) := by decide +kernel
theorem dX8_readAll_30 : decode cX8_readAll 30 = .ok (.if_icmp .ge 32, 3) := by decide +kernel
theorem dX8_readAll_33 : decode cX8_readAll 33 = .ok (.aload_n 0, 1) := by decide +kernel
theorem dX8_readAll_34 : decode cX8_readAll 34 = .ok (.bipush 59, 2) := by decide +kernel
theorem dX8_readAll_36 : decode cX8_readAll 36 = .ok (.invokevirtual 155, 3) := by decide +kernel
theorem dX8_readAll_39 : decode cX8_readAll 39 = .ok (.ifCond .eq 23, 3) := by decide +kernel
theorem dX8_readAll_42 : decode cX8_readAll 42 = .ok (.aload_n 0, 1) := by decide +kernel
theorem dX8_readAll_43 : decode cX8_readAll 43 = .ok (.dup, 1) := by decide +kernel
theorem dX8_readAll_44 : decode cX8_readAll 44 = .ok (.getfield 149, 3) := by decide +kernel
theorem dX8_readAll_47 : decode cX8_readAll 47 = .ok (.iconst 1, 1) := by decide +kernel
theorem dX8_readAll_48 : decode cX8_readAll 48 = .ok (.iadd, 1) := by decide +kernel
theorem dX8_readAll_49 : decode cX8_readAll 49 = .ok (.putfield 149, 3) := by decide +kernel
theorem dX8_readAll_52 : decode cX8_readAll 52 = .ok (.aload_n 0, 1) := by decide +kernel
theorem dX8_readAll_53 : decode cX8_readAll 53 = .ok (.invokevirtual 190, 3) := by decide +kernel
theorem dX8_readAll_56 : decode cX8_readAll 56 = .ok (.iinc 1 1, 3) := by decide +kernel
theorem dX8_readAll_59 : decode cX8_readAll 59 = .ok (.goto (-32), 3) := by decide +kernel
theorem dX8_readAll_62 : decode cX8_readAll 62 = .ok (.aload_n 0, 1) := by decide +kernel
theorem dX8_readAll_63 : decode cX8_readAll 63 = .ok (.getfield 146, 3) := by decide +kernel
theorem dX8_readAll_66 : decode cX8_readAll 66 = .ok (.ifCond .eq 18, 3) := by decide +kernel
theorem dX8_readAll_69 : decode cX8_readAll 69 = .ok (.aload_n 0, 1) := by decide +kernel
theorem dX8_readAll_70 : decode cX8_readAll 70 = .ok (.getfield 149, 3) := by decide +kernel
theorem dX8_readAll_73 : decode cX8_readAll 73 = .ok (.aload_n 0, 1) := by decide +kernel
theorem dX8_readAll_74 : decode cX8_readAll 74 = .ok (.getfield 152, 3) := by decide +kernel
theorem dX8_readAll_77 : decode cX8_readAll 77 = .ok (.if_icmp .ne 7, 3) := by decide +kernel
theorem dX8_readAll_80 : decode cX8_readAll 80 = .ok (.iconst 1, 1) := by decide +kernel
theorem dX8_readAll_81 : decode cX8_readAll 81 = .ok (.goto 4, 3) := by decide +kernel
theorem dX8_readAll_84 : decode cX8_readAll 84 = .ok (.iconst 0, 1) := by decide +kernel
theorem dX8_readAll_85 : decode cX8_readAll 85 = .ok (.ireturn, 1) := by decide +kernel
set_option maxRecDepth 20000 in
theorem ggX8_readFor_X8_number : GoodIn wsX8_readFor wsX8_number := goodIn_r _ [13, 2, 72, 73, 74, 75, 76, 77, 78, 79, 80, 81, 82, 83, 84, 85, 86, 87, 88, 89, 90, 91, 92, 93, 94, 95, 96, 97, 98, 99, 100] rfl (by decide +kernel)
set_option maxRecDepth 20000 in
theorem gX8_readFor_X8_number : GoodIn wsX8_readFor (wsV RX8 83 RX8 yX8_number wsX8_number) := goodIn_app (goodIn_of _ (by decide +kernel)) ggX8_readFor_X8_number
set_option maxRecDepth 20000 in
theorem ggX8_readFor_X8_leavesOf : GoodIn wsX8_readFor wsX8_leavesOf := goodIn_r _ [17, 2, 18, 19, 20, 12, 21, 22, 23, 24, 25, 72, 73, 74, 75, 76, 77, 78, 79, 80, 81, 82, 83, 84, 85, 86, 87, 88, 89, 90, 91, 92, 93, 94, 95, 96, 97, 98, 99, 100] rfl (by decide +kernel)
set_option maxRecDepth 20000 in
theorem gX8_readFor_X8_leavesOf : GoodIn wsX8_readFor (wsV RX8 98 RX8 yX8_leavesOf wsX8_leavesOf) := goodIn_app (goodIn_of _ (by decide +kernel)) ggX8_readFor_X8_leavesOf
set_option maxRecDepth 20000 in
theorem ggX8_readFor_X8_readAll : GoodIn wsX8_readFor wsX8_readAll := goodIn_r _ [29, 30, 31, 3, 4, 6, 32, 33, 34, 12, 35, 36, 37, 38, 39, 40, 41, 42, 7, 43, 44, 45, 46, 47, 48, 49, 50, 51, 52, 53, 54, 55, 56, 57, 58, 59, 60, 61, 62, 63, 64, 65, 66, 67, 68, 69, 70, 71, 1, 72, 73, 74, 75, 76, 77, 78, 79, 80, 81, 82, 83, 84, 85, 86, 87, 88, 89, 90, 91, 92, 93, 94, 95, 96, 97, 98, 99, 100] rfl (by decide +kernel)
set_option maxRecDepth 20000 in
theorem gX8_readFor_X8_readAll : GoodIn wsX8_readFor (wsV RX8 193 RX8 yX8_readAll wsX8_readAll) := goodIn_app (goodIn_of _ (by decide +kernel)) ggX8_readFor_X8_readAll
theorem dX8_readFor_0 : decode cX8_readFor 0 = .ok (.aload_n 0, 1) := by decide +kernel
theorem dX8_readFor_1 : decode cX8_readFor 1 = .ok (.getfield 33, 3) := by decide +kernel
theorem dX8_readFor_4 : decode cX8_readFor 4 = .ok (.iconst 0, 1) := by decide +kernel
theorem dX8_readFor_5 : decode cX8_readFor 5 = .ok (.iload_n 1, 1) := by decide +kernel
theorem dX8_readFor_6 : decode cX8_readFor 6 = .ok (.iastore, 1) := by decide +kernel
theorem dX8_readFor_7 : decode cX8_readFor 7 = .ok (.aload_n 0, 1) := by decide +kernel
theorem dX8_readFor_8 : decode cX8_readFor 8 = .ok (.getfield 33, 3) := by decide +kernel
theorem dX8_readFor_11 : decode cX8_readFor 11 = .ok (.iconst 1, 1) := by decide +kernel
theorem dX8_readFor_12 : decode cX8_readFor 12 = .ok (.aload_n 0, 1) := by decide +kernel
theorem dX8_readFor_13 : decode cX8_readFor 13 = .ok (.iload_n 1, 1) := by decide +kernel
theorem dX8_readFor_14 : decode cX8_readFor 14 = .ok (.iconst 0, 1) := by decide +kernel
theorem dX8_readFor_15 : decode cX8_readFor 15 = .ok (.invokevirtual 83, 3) := by decide +kernel
theorem dX8_readFor_18 : decode cX8_readFor 18 = .ok (.iastore, 1) := by decide +kernel
theorem dX8_readFor_19 : decode cX8_readFor 19 = .ok (.aload_n 0, 1) := by decide +kernel
theorem dX8_readFor_20 : decode cX8_readFor 20 = .ok (.getfield 33, 3) := by decide +kernel
theorem dX8_readFor_23 : decode cX8_readFor 23 = .ok (.iconst 2, 1) := by decide +kernel
theorem dX8_readFor_24 : decode cX8_readFor 24 = .ok (.aload_n 0, 1) := by decide +kernel
theorem dX8_readFor_25 : decode cX8_readFor 25 = .ok (.iload_n 1, 1) := by decide +kernel
theorem dX8_readFor_26 : decode cX8_readFor 26 = .ok (.iconst 1, 1) := by decide +kernel
theorem dX8_readFor_27 : decode cX8_readFor 27 = .ok (.invokevirtual 83, 3) := by decide +kernel
theorem dX8_readFor_30 : decode cX8_readFor 30 = .ok (.iastore, 1) := by decide +kernel
theorem dX8_readFor_31 : decode cX8_readFor 31 = .ok (.aload_n 0, 1) := by decide +kernel
theorem dX8_readFor_32 : decode cX8_readFor 32 = .ok (.getfield 33, 3) := by decide +kernel
theorem dX8_readFor_35 : decode cX8_readFor 35 = .ok (.iconst 3, 1) := by decide +kernel
theorem dX8_readFor_36 : decode cX8_readFor 36 = .ok (.aload_n 0, 1) := by decide +kernel
theorem dX8_readFor_37 : decode cX8_readFor 37 = .ok (.iload_n 1, 1) := by decide +kernel
theorem dX8_readFor_38 : decode cX8_readFor 38 = .ok (.iconst 2, 1) := by decide +kernel
theorem dX8_readFor_39 : decode cX8_readFor 39 = .ok (.invokevirtual 83, 3) := by decide +kernel
theorem dX8_readFor_42 : decode cX8_readFor 42 = .ok (.bipush 10, 2) := by decide +kernel
theorem dX8_readFor_44 : decode cX8_readFor 44 = .ok (.idiv, 1) := by decide +kernel
theorem dX8_readFor_45 : decode cX8_readFor 45 = .ok (.iastore, 1) := by decide +kernel
theorem dX8_readFor_46 : decode cX8_readFor 46 = .ok (.aload_n 0, 1) := by decide +kernel
theorem dX8_readFor_47 : decode cX8_readFor 47 = .ok (.getfield 33, 3) := by decide +kernel
theorem dX8_readFor_50 : decode cX8_readFor 50 = .ok (.iconst 4, 1) := by decide +kernel
theorem dX8_readFor_51 : decode cX8_readFor 51 = .ok (.aload_n 0, 1) := by decide +kernel
theorem dX8_readFor_52 : decode cX8_readFor 52 = .ok (.iload_n 1, 1) := by decide +kernel
theorem dX8_readFor_53 : decode cX8_readFor 53 = .ok (.invokevirtual 98, 3) := by decide +kernel
theorem dX8_readFor_56 : decode cX8_readFor 56 = .ok (.iastore, 1) := by decide +kernel
theorem dX8_readFor_57 : decode cX8_readFor 57 = .ok (.aload_n 0, 1) := by decide +kernel
theorem dX8_readFor_58 : decode cX8_readFor 58 = .ok (.getfield 33, 3) := by decide +kernel
theorem dX8_readFor_61 : decode cX8_readFor 61 = .ok (.iconst 5, 1) := by decide +kernel
theorem dX8_readFor_62 : decode cX8_readFor 62 = .ok (.aload_n 0, 1) := by decide +kernel
theorem dX8_readFor_63 : decode cX8_readFor 63 = .ok (.getfield 9, 3) := by decide +kernel
theorem dX8_readFor_66 : decode cX8_readFor 66 = .ok (.bipush 57, 2) := by decide +kernel
theorem dX8_readFor_68 : decode cX8_readFor 68 = .ok (.iaload, 1) := by decide +kernel
theorem dX8_readFor_69 : decode cX8_readFor 69 = .ok (.bipush 10, 2) := by decide +kernel
theorem dX8_readFor_71 : decode cX8_readFor 71 = .ok (.irem, 1) := by decide +kernel
theorem dX8_readFor_72 : decode cX8_readFor 72 = .ok (.iastore, 1) := by decide +kernel
theorem dX8_readFor_73 : decode cX8_readFor 73 = .ok (.aload_n 0, 1) := by decide +kernel
theorem dX8_readFor_74 : decode cX8_readFor 74 = .ok (.getfield 9, 3) := by decide +kernel
theorem dX8_readFor_77 : decode cX8_readFor 77 = .ok (.bipush 58, 2) := by decide +kernel
theorem dX8_readFor_79 : decode cX8_readFor 79 = .ok (.iaload, 1) := by decide +kernel
theorem dX8_readFor_80 : decode cX8_readFor 80 = .ok (.ifCond .ne 15, 3) := by decide +kernel
theorem dX8_readFor_83 : decode cX8_readFor 83 = .ok (.aload_n 0, 1) := by decide +kernel
theorem dX8_readFor_84 : decode cX8_readFor 84 = .ok (.iconst 0, 1) := by decide +kernel
theorem dX8_readFor_85 : decode cX8_readFor 85 = .ok (.putfield 187, 3) := by decide +kernel
theorem dX8_readFor_88 : decode cX8_readFor 88 = .ok (.aload_n 0, 1) := by decide +kernel
theorem dX8_readFor_89 : decode cX8_readFor 89 = .ok (.bipush 6, 2) := by decide +kernel
theorem dX8_readFor_91 : decode cX8_readFor 91 = .ok (.putfield 184, 3) := by decide +kernel
theorem dX8_readFor_94 : decode cX8_readFor 94 = .ok (.return_, 1) := by decide +kernel
theorem dX8_readFor_95 : decode cX8_readFor 95 = .ok (.aload_n 0, 1) := by decide +kernel
theorem dX8_readFor_96 : decode cX8_readFor 96 = .ok (.getfield 9, 3) := by decide +kernel
theorem dX8_readFor_99 : decode cX8_readFor 99 = .ok (.bipush 58, 2) := by decide +kernel
theorem dX8_readFor_101 : decode cX8_readFor 101 = .ok (.iaload, 1) := by decide +kernel
theorem dX8_readFor_102 : decode cX8_readFor 102 = .ok (.iconst 1, 1) := by decide +kernel
theorem dX8_readFor_103 : decode cX8_readFor 103 = .ok (.isub, 1) := by decide +kernel
theorem dX8_readFor_104 : decode cX8_readFor 104 = .ok (.istore_n 2, 1) := by decide +kernel
theorem dX8_readFor_105 : decode cX8_readFor 105 = .ok (.aload_n 0, 1) := by decide +kernel
theorem dX8_readFor_106 : decode cX8_readFor 106 = .ok (.aload_n 0, 1) := by decide +kernel
theorem dX8_readFor_107 : decode cX8_readFor 107 = .ok (.getfield 27, 3) := by decide +kernel
theorem dX8_readFor_110 : decode cX8_readFor 110 = .ok (.iload_n 2, 1) := by decide +kernel
theorem dX8_readFor_111 : decode cX8_readFor 111 = .ok (.iaload, 1) := by decide +kernel
theorem dX8_readFor_112 : decode cX8_readFor 112 = .ok (.putfield 152, 3) := by decide +kernel
theorem dX8_readFor_115 : decode cX8_readFor 115 = .ok (.iconst 0, 1) := by decide +kernel
theorem dX8_readFor_116 : decode cX8_readFor 116 = .ok (.istore_n 3, 1) := by decide +kernel
theorem dX8_readFor_117 : decode cX8_readFor 117 = .ok (.iload_n 3, 1) := by decide +kernel
theorem dX8_readFor_118 : decode cX8_readFor 118 = .ok (.aload_n 0, 1) := by decide +kernel
theorem dX8_readFor_119 : decode cX8_readFor 119 = .ok (.getfield 152, 3) := by decide +kernel
theorem dX8_readFor_122 : decode cX8_readFor 122 = .ok (.if_icmp .ge 26, 3) := by decide +kernel
theorem dX8_readFor_125 : decode cX8_readFor 125 = .ok (.aload_n 0, 1) := by decide +kernel
theorem dX8_readFor_126 : decode cX8_readFor 126 = .ok (.getfield 30, 3) := by decide +kernel
theorem dX8_readFor_129 : decode cX8_readFor 129 = .ok (.iload_n 3, 1) := by decide +kernel
theorem dX8_readFor_130 : decode cX8_readFor 130 = .ok (.aload_n 0, 1) := by decide +kernel
theorem dX8_readFor_131 : decode cX8_readFor 131 = .ok (.getfield 24, 3) := by decide +kernel
theorem dX8_readFor_134 : decode cX8_readFor 134 = .ok (.bipush 100, 2) := by decide +kernel
theorem dX8_readFor_136 : decode cX8_readFor 136 = .ok (.iload_n 2, 1) := by decide +kernel
theorem dX8_readFor_137 : decode cX8_readFor 137 = .ok (.imul, 1) := by decide +kernel
theorem dX8_readFor_138 : decode cX8_readFor 138 = .ok (.iload_n 3, 1) := by decide +kernel
theorem dX8_readFor_139 : decode cX8_readFor 139 = .ok (.iadd, 1) := by decide +kernel
theorem dX8_readFor_140 : decode cX8_readFor 140 = .ok (.iaload, 1) := by decide +kernel
theorem dX8_readFor_141 : decode cX8_readFor 141 = .ok (.iastore, 1) := by decide +kernel
theorem dX8_readFor_142 : decode cX8_readFor 142 = .ok (.iinc 3 1, 3) := by decide +kernel
theorem dX8_readFor_145 : decode cX8_readFor 145 = .ok (.goto (-28), 3) := by decide +kernel
theorem dX8_readFor_148 : decode cX8_readFor 148 = .ok (.aload_n 0, 1) := by decide +kernel
theorem dX8_readFor_149 : decode cX8_readFor 149 = .ok (.invokevirtual 193, 3) := by decide +kernel
theorem dX8_readFor_152 : decode cX8_readFor 152 = .ok (.pop, 1) := by decide +kernel
theorem dX8_readFor_153 : decode cX8_readFor 153 = .ok (.return_, 1) := by decide +kernel
set_option maxRecDepth 20000 in
theorem ggX8_library_X8_readAll : GoodIn wsX8_library wsX8_readAll := goodIn_r _ [14, 6, 15, 16, 17, 3, 18, 19, 20, 13, 21, 22, 23, 24, 25, 26, 27, 28, 4, 29, 30, 31, 32, 33, 34, 35, 36, 37, 38, 39, 40, 41, 42, 43, 44, 45, 46, 47, 48, 49, 50, 51, 52, 53, 54, 55, 56, 57, 58, 59, 60, 61, 62, 63, 64, 65, 66, 67, 68, 69, 70, 71, 72, 73, 74, 75, 76, 77, 78, 79, 80, 81, 82, 83, 84, 85, 86, 87] rfl (by decide +kernel)
set_option maxRecDepth 20000 in
theorem gX8_library_X8_readAll : GoodIn wsX8_library (wsV RX8 193 RX8 yX8_readAll wsX8_readAll) := goodIn_app (goodIn_of _ (by decide +kernel)) ggX8_library_X8_readAll
theorem dX8_library_0 : decode cX8_library 0 = .ok (.aload_n 0, 1) := by decide +kernel
theorem dX8_library_1 : decode cX8_library 1 = .ok (.getfield 196, 3) := by decide +kernel
theorem dX8_library_4 : decode cX8_library 4 = .ok (.bipush 6, 2) := by decide +kernel
theorem dX8_library_6 : decode cX8_library 6 = .ok (.if_icmp .ne 6, 3) := by decide +kernel
theorem dX8_library_9 : decode cX8_library 9 = .ok (.bipush (-4), 2) := by decide +kernel
theorem dX8_library_11 : decode cX8_library 11 = .ok (.ireturn, 1) := by decide +kernel
theorem dX8_library_12 : decode cX8_library 12 = .ok (.aload_n 0, 1) := by decide +kernel
theorem dX8_library_13 : decode cX8_library 13 = .ok (.aload_n 0, 1) := by decide +kernel
theorem dX8_library_14 : decode cX8_library 14 = .ok (.getfield 142, 3) := by decide +kernel
theorem dX8_library_17 : decode cX8_library 17 = .ok (.putfield 152, 3) := by decide +kernel
theorem dX8_library_20 : decode cX8_library 20 = .ok (.iconst 0, 1) := by decide +kernel
theorem dX8_library_21 : decode cX8_library 21 = .ok (.istore_n 1, 1) := by decide +kernel
theorem dX8_library_22 : decode cX8_library 22 = .ok (.iload_n 1, 1) := by decide +kernel
theorem dX8_library_23 : decode cX8_library 23 = .ok (.aload_n 0, 1) := by decide +kernel
theorem dX8_library_24 : decode cX8_library 24 = .ok (.getfield 152, 3) := by decide +kernel
theorem dX8_library_27 : decode cX8_library 27 = .ok (.if_icmp .ge 21, 3) := by decide +kernel
theorem dX8_library_30 : decode cX8_library 30 = .ok (.aload_n 0, 1) := by decide +kernel
theorem dX8_library_31 : decode cX8_library 31 = .ok (.getfield 30, 3) := by decide +kernel
theorem dX8_library_34 : decode cX8_library 34 = .ok (.iload_n 1, 1) := by decide +kernel
theorem dX8_library_35 : decode cX8_library 35 = .ok (.aload_n 0, 1) := by decide +kernel
theorem dX8_library_36 : decode cX8_library 36 = .ok (.getfield 21, 3) := by decide +kernel
theorem dX8_library_39 : decode cX8_library 39 = .ok (.iload_n 1, 1) := by decide +kernel
theorem dX8_library_40 : decode cX8_library 40 = .ok (.iaload, 1) := by decide +kernel
theorem dX8_library_41 : decode cX8_library 41 = .ok (.iastore, 1) := by decide +kernel
theorem dX8_library_42 : decode cX8_library 42 = .ok (.iinc 1 1, 3) := by decide +kernel
theorem dX8_library_45 : decode cX8_library 45 = .ok (.goto (-23), 3) := by decide +kernel
theorem dX8_library_48 : decode cX8_library 48 = .ok (.aload_n 0, 1) := by decide +kernel
theorem dX8_library_49 : decode cX8_library 49 = .ok (.iconst 0, 1) := by decide +kernel
theorem dX8_library_50 : decode cX8_library 50 = .ok (.putfield 142, 3) := by decide +kernel
theorem dX8_library_53 : decode cX8_library 53 = .ok (.aload_n 0, 1) := by decide +kernel
theorem dX8_library_54 : decode cX8_library 54 = .ok (.invokevirtual 193, 3) := by decide +kernel
theorem dX8_library_57 : decode cX8_library 57 = .ok (.ifCond .ne 11, 3) := by decide +kernel
theorem dX8_library_60 : decode cX8_library 60 = .ok (.bipush (-10), 2) := by decide +kernel
theorem dX8_library_62 : decode cX8_library 62 = .ok (.aload_n 0, 1) := by decide +kernel
theorem dX8_library_63 : decode cX8_library 63 = .ok (.getfield 149, 3) := by decide +kernel
theorem dX8_library_66 : decode cX8_library 66 = .ok (.isub, 1) := by decide +kernel
theorem dX8_library_67 : decode cX8_library 67 = .ok (.ireturn, 1) := by decide +kernel
theorem dX8_library_68 : decode cX8_library 68 = .ok (.iconst 0, 1) := by decide +kernel
theorem dX8_library_69 : decode cX8_library 69 = .ok (.istore_n 1, 1) := by decide +kernel
theorem dX8_library_70 : decode cX8_library 70 = .ok (.iload_n 1, 1) := by decide +kernel
theorem dX8_library_71 : decode cX8_library 71 = .ok (.aload_n 0, 1) := by decide +kernel
theorem dX8_library_72 : decode cX8_library 72 = .ok (.getfield 152, 3) := by decide +kernel
theorem dX8_library_75 : decode cX8_library 75 = .ok (.if_icmp .ge 29, 3) := by decide +kernel
theorem dX8_library_78 : decode cX8_library 78 = .ok (.aload_n 0, 1) := by decide +kernel
theorem dX8_library_79 : decode cX8_library 79 = .ok (.getfield 24, 3) := by decide +kernel
theorem dX8_library_82 : decode cX8_library 82 = .ok (.bipush 100, 2) := by decide +kernel
theorem dX8_library_84 : decode cX8_library 84 = .ok (.aload_n 0, 1) := by decide +kernel
theorem dX8_library_85 : decode cX8_library 85 = .ok (.getfield 196, 3) := by decide +kernel
theorem dX8_library_88 : decode cX8_library 88 = .ok (.imul, 1) := by decide +kernel
theorem dX8_library_89 : decode cX8_library 89 = .ok (.iload_n 1, 1) := by decide +kernel
theorem dX8_library_90 : decode cX8_library 90 = .ok (.iadd, 1) := by decide +kernel
theorem dX8_library_91 : decode cX8_library 91 = .ok (.aload_n 0, 1) := by decide +kernel
theorem dX8_library_92 : decode cX8_library 92 = .ok (.getfield 30, 3) := by decide +kernel
theorem dX8_library_95 : decode cX8_library 95 = .ok (.iload_n 1, 1) := by decide +kernel
theorem dX8_library_96 : decode cX8_library 96 = .ok (.iaload, 1) := by decide +kernel
theorem dX8_library_97 : decode cX8_library 97 = .ok (.iastore, 1) := by decide +kernel
theorem dX8_library_98 : decode cX8_library 98 = .ok (.iinc 1 1, 3) := by decide +kernel
theorem dX8_library_101 : decode cX8_library 101 = .ok (.goto (-31), 3) := by decide +kernel
theorem dX8_library_104 : decode cX8_library 104 = .ok (.aload_n 0, 1) := by decide +kernel
theorem dX8_library_105 : decode cX8_library 105 = .ok (.getfield 27, 3) := by decide +kernel
theorem dX8_library_108 : decode cX8_library 108 = .ok (.aload_n 0, 1) := by decide +kernel
theorem dX8_library_109 : decode cX8_library 109 = .ok (.getfield 196, 3) := by decide +kernel
theorem dX8_library_112 : decode cX8_library 112 = .ok (.aload_n 0, 1) := by decide +kernel
theorem dX8_library_113 : decode cX8_library 113 = .ok (.getfield 152, 3) := by decide +kernel
theorem dX8_library_116 : decode cX8_library 116 = .ok (.iastore, 1) := by decide +kernel
theorem dX8_library_117 : decode cX8_library 117 = .ok (.aload_n 0, 1) := by decide +kernel
theorem dX8_library_118 : decode cX8_library 118 = .ok (.dup, 1) := by decide +kernel
theorem dX8_library_119 : decode cX8_library 119 = .ok (.getfield 196, 3) := by decide +kernel
theorem dX8_library_122 : decode cX8_library 122 = .ok (.iconst 1, 1) := by decide +kernel
theorem dX8_library_123 : decode cX8_library 123 = .ok (.iadd, 1) := by decide +kernel
theorem dX8_library_124 : decode cX8_library 124 = .ok (.putfield 196, 3) := by decide +kernel
theorem dX8_library_127 : decode cX8_library 127 = .ok (.aload_n 0, 1) := by decide +kernel
theorem dX8_library_128 : decode cX8_library 128 = .ok (.getfield 9, 3) := by decide +kernel
theorem dX8_library_131 : decode cX8_library 131 = .ok (.bipush 58, 2) := by decide +kernel
theorem dX8_library_133 : decode cX8_library 133 = .ok (.aload_n 0, 1) := by decide +kernel
theorem dX8_library_134 : decode cX8_library 134 = .ok (.getfield 196, 3) := by decide +kernel
theorem dX8_library_137 : decode cX8_library 137 = .ok (.iastore, 1) := by decide +kernel
theorem dX8_library_138 : decode cX8_library 138 = .ok (.aload_n 0, 1) := by decide +kernel
theorem dX8_library_139 : decode cX8_library 139 = .ok (.getfield 196, 3) := by decide +kernel
theorem dX8_library_142 : decode cX8_library 142 = .ok (.iconst 1, 1) := by decide +kernel
theorem dX8_library_143 : decode cX8_library 143 = .ok (.isub, 1) := by decide +kernel
theorem dX8_library_144 : decode cX8_library 144 = .ok (.ireturn, 1) := by decide +kernel
set_option maxRecDepth 20000 in
theorem ggX8_leavesOf_X8_isHeld : GoodIn wsX8_leavesOf wsX8_isHeld := goodIn_r _ [6, 7, 8, 9, 5, 10, 1, 11, 12, 13, 14, 15, 16, 17, 18, 19, 20, 21, 22, 23, 24, 25, 26, 27, 28, 29, 30, 31, 32, 33, 34, 35, 36, 37, 38, 39] rfl (by decide +kernel)
set_option maxRecDepth 20000 in
theorem gX8_leavesOf_X8_isHeld : GoodIn wsX8_leavesOf (wsV RX8 133 RX8 yX8_isHeld wsX8_isHeld) := goodIn_app (goodIn_of _ (by decide +kernel)) ggX8_leavesOf_X8_isHeld
set_option maxRecDepth 20000 in
theorem ggX8_leavesOf_X8_holder : GoodIn wsX8_leavesOf wsX8_holder := goodIn_r _ [10, 1, 11, 12, 13, 14, 15, 16, 17, 18, 19, 20, 21, 22, 23, 24, 25, 26, 27, 28, 29, 30, 31, 32, 33, 34, 35, 36, 37, 38, 39] rfl (by decide +kernel)
set_option maxRecDepth 20000 in
theorem gX8_leavesOf_X8_holder : GoodIn wsX8_leavesOf (wsV RX8 87 RX8 yX8_holder wsX8_holder) := goodIn_app (goodIn_of _ (by decide +kernel)) ggX8_leavesOf_X8_holder
theorem dX8_leavesOf_0 : decode cX8_leavesOf 0 = .ok (.iconst 0, 1) := by decide +kernel
theorem dX8_leavesOf_1 : decode cX8_leavesOf 1 = .ok (.istore_n 2, 1) := by decide +kernel
theorem dX8_leavesOf_2 : decode cX8_leavesOf 2 = .ok (.iconst 0, 1) := by decide +kernel
theorem dX8_leavesOf_3 : decode cX8_leavesOf 3 = .ok (.istore_n 3, 1) := by decide +kernel
theorem dX8_leavesOf_4 : decode cX8_leavesOf 4 = .ok (.iload_n 3, 1) := by decide +kernel
theorem dX8_leavesOf_5 : decode cX8_leavesOf 5 = .ok (.aload_n 0, 1) := by decide +kernel
theorem dX8_leavesOf_6 : decode cX8_leavesOf 6 = .ok (.getfield 9, 3) := by decide +kernel
theorem dX8_leavesOf_9 : decode cX8_leavesOf 9 = .ok (.bipush 55, 2) := by decide +kernel
theorem dX8_leavesOf_11 : decode cX8_leavesOf 11 = .ok (.iaload, 1) := by decide +kernel
theorem dX8_leavesOf_12 : decode cX8_leavesOf 12 = .ok (.if_icmp .ge 45, 3) := by decide +kernel
theorem dX8_leavesOf_15 : decode cX8_leavesOf 15 = .ok (.iload_n 2, 1) := by decide +kernel
theorem dX8_leavesOf_16 : decode cX8_leavesOf 16 = .ok (.aload_n 0, 1) := by decide +kernel
theorem dX8_leavesOf_17 : decode cX8_leavesOf 17 = .ok (.iload_n 3, 1) := by decide +kernel
theorem dX8_leavesOf_18 : decode cX8_leavesOf 18 = .ok (.invokevirtual 133, 3) := by decide +kernel
theorem dX8_leavesOf_21 : decode cX8_leavesOf 21 = .ok (.ifCond .eq 27, 3) := by decide +kernel
theorem dX8_leavesOf_24 : decode cX8_leavesOf 24 = .ok (.aload_n 0, 1) := by decide +kernel
theorem dX8_leavesOf_25 : decode cX8_leavesOf 25 = .ok (.iload_n 3, 1) := by decide +kernel
theorem dX8_leavesOf_26 : decode cX8_leavesOf 26 = .ok (.iconst 1, 1) := by decide +kernel
theorem dX8_leavesOf_27 : decode cX8_leavesOf 27 = .ok (.invokevirtual 87, 3) := by decide +kernel
theorem dX8_leavesOf_30 : decode cX8_leavesOf 30 = .ok (.iload_n 1, 1) := by decide +kernel
theorem dX8_leavesOf_31 : decode cX8_leavesOf 31 = .ok (.if_icmp .eq 13, 3) := by decide +kernel
theorem dX8_leavesOf_34 : decode cX8_leavesOf 34 = .ok (.aload_n 0, 1) := by decide +kernel
theorem dX8_leavesOf_35 : decode cX8_leavesOf 35 = .ok (.iload_n 3, 1) := by decide +kernel
theorem dX8_leavesOf_36 : decode cX8_leavesOf 36 = .ok (.iconst 2, 1) := by decide +kernel

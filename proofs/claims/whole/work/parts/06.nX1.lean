set_option maxRecDepth 20000 in
theorem ggX1_init_X2_init : GoodIn wsX1_init wsX2_init := goodIn_r _ [9, 10, 2, 3, 11, 12, 13, 14, 15, 16, 17, 18, 19, 20, 21, 22, 23, 24, 25, 26, 27, 28, 29, 30, 31, 32, 33, 34] rfl (by decide +kernel)
set_option maxRecDepth 20000 in
theorem gX1_init_X2_init_n11 : GoodIn wsX1_init (wsX2_init) := ggX1_init_X2_init
theorem dX1_init_0 : decode cX1_init 0 = .ok (.aload_n 0, 1) := by decide +kernel
theorem dX1_init_1 : decode cX1_init 1 = .ok (.invokespecial 3, 3) := by decide +kernel
theorem dX1_init_4 : decode cX1_init 4 = .ok (.aload_n 0, 1) := by decide +kernel
theorem dX1_init_5 : decode cX1_init 5 = .ok (.new 9, 3) := by decide +kernel
theorem dX1_init_8 : decode cX1_init 8 = .ok (.dup, 1) := by decide +kernel
theorem dX1_init_9 : decode cX1_init 9 = .ok (.invokespecial 11, 3) := by decide +kernel
theorem dX1_init_12 : decode cX1_init 12 = .ok (.putfield 12, 3) := by decide +kernel
theorem dX1_init_15 : decode cX1_init 15 = .ok (.return_, 1) := by decide +kernel
set_option maxRecDepth 20000 in
theorem ggX1_goneOn_X2_become : GoodIn wsX1_goneOn wsX2_become := goodIn_r _ [6, 7, 8, 9, 10, 11, 12, 13, 14, 15, 16, 17, 18, 19, 20, 21, 22, 102, 103, 104, 105, 106, 107, 108, 109, 110, 111, 112, 113, 114, 115] rfl (by decide +kernel)
set_option maxRecDepth 20000 in
theorem gX1_goneOn_X2_become : GoodIn wsX1_goneOn (wsV RX1 18 RX2 yX2_become wsX2_become) := goodIn_app (goodIn_of _ (by decide +kernel)) ggX1_goneOn_X2_become
set_option maxRecDepth 20000 in
theorem ggX1_goneOn_X2_goOn : GoodIn wsX1_goneOn wsX2_goOn := goodIn_r _ [26, 27, 28, 29, 5, 30, 7, 31, 14, 32, 33, 34, 35, 36, 37, 38, 16, 21, 39, 40, 41, 42, 22, 13, 8, 15, 43, 44, 45, 46, 47, 48, 49, 50, 18, 19, 51, 52, 53, 54, 55, 56, 57, 58, 59, 60, 61, 62, 63, 64, 65, 66, 67, 68, 69, 70, 71, 72, 73, 74, 75, 76, 77, 78, 79, 80, 81, 82, 83, 17, 84, 85, 86, 87, 20, 88, 89, 90, 91, 92, 93, 94, 95, 96, 97, 98, 99, 100, 102, 103, 104, 105, 106, 107, 108, 109, 110, 111, 112, 113, 114, 115, 116, 117, 118, 119, 120] rfl (by decide +kernel)
set_option maxRecDepth 20000 in
theorem gX1_goneOn_X2_goOn : GoodIn wsX1_goneOn (wsV RX1 22 RX2 yX2_goOn wsX2_goOn) := goodIn_app (goodIn_of _ (by decide +kernel)) ggX1_goneOn_X2_goOn
theorem dX1_goneOn_0 : decode cX1_goneOn 0 = .ok (.aload_n 0, 1) := by decide +kernel
theorem dX1_goneOn_1 : decode cX1_goneOn 1 = .ok (.getfield 12, 3) := by decide +kernel
theorem dX1_goneOn_4 : decode cX1_goneOn 4 = .ok (.aload_n 1, 1) := by decide +kernel
theorem dX1_goneOn_5 : decode cX1_goneOn 5 = .ok (.invokevirtual 18, 3) := by decide +kernel
theorem dX1_goneOn_8 : decode cX1_goneOn 8 = .ok (.aload_n 0, 1) := by decide +kernel
theorem dX1_goneOn_9 : decode cX1_goneOn 9 = .ok (.getfield 12, 3) := by decide +kernel
theorem dX1_goneOn_12 : decode cX1_goneOn 12 = .ok (.iload_n 2, 1) := by decide +kernel
theorem dX1_goneOn_13 : decode cX1_goneOn 13 = .ok (.invokevirtual 22, 3) := by decide +kernel
theorem dX1_goneOn_16 : decode cX1_goneOn 16 = .ok (.aload_n 0, 1) := by decide +kernel
theorem dX1_goneOn_17 : decode cX1_goneOn 17 = .ok (.getfield 12, 3) := by decide +kernel
theorem dX1_goneOn_20 : decode cX1_goneOn 20 = .ok (.areturn, 1) := by decide +kernel
set_option maxRecDepth 20000 in
theorem ggX1_lastsOf_X2_isHeld : GoodIn wsX1_lastsOf wsX2_isHeld := goodIn_r _ [6, 7, 104, 105, 106, 107, 108, 109, 110, 111, 112, 113, 114, 115, 116, 117] rfl (by decide +kernel)
set_option maxRecDepth 20000 in
theorem gX1_lastsOf_X2_isHeld : GoodIn wsX1_lastsOf (wsV RX1 26 RX2 yX2_isHeld wsX2_isHeld) := goodIn_app (goodIn_of _ (by decide +kernel)) ggX1_lastsOf_X2_isHeld
set_option maxRecDepth 20000 in
theorem ggX1_lastsOf_X2_become : GoodIn wsX1_lastsOf wsX2_become := goodIn_r _ [11, 12, 13, 14, 15, 16, 17, 18, 19, 20, 21, 22, 7, 23, 24, 25, 26, 104, 105, 106, 107, 108, 109, 110, 111, 112, 113, 114, 115, 116, 117] rfl (by decide +kernel)
set_option maxRecDepth 20000 in
theorem gX1_lastsOf_X2_become : GoodIn wsX1_lastsOf (wsV RX1 18 RX2 yX2_become wsX2_become) := goodIn_app (goodIn_of _ (by decide +kernel)) ggX1_lastsOf_X2_become
set_option maxRecDepth 20000 in
theorem ggX1_lastsOf_X1_trialLasts : GoodIn wsX1_lastsOf wsX1_trialLasts := goodIn_r _ [31, 1, 32, 33, 34, 5, 35, 12, 36, 19, 37, 38, 39, 40, 41, 42, 43, 21, 25, 44, 45, 46, 47, 26, 18, 13, 20, 48, 49, 50, 51, 52, 53, 54, 55, 7, 23, 56, 57, 58, 59, 60, 61, 62, 63, 64, 65, 66, 67, 68, 69, 70, 71, 72, 73, 74, 75, 76, 77, 78, 3, 4, 6, 79, 80, 81, 82, 83, 84, 85, 22, 86, 87, 88, 89, 24, 90, 91, 92, 93, 94, 95, 96, 97, 98, 99, 100, 101, 102, 2, 103, 104, 105, 106, 107, 108, 109, 110, 111, 112, 113, 114, 115, 116, 117, 118, 119, 120, 121, 122] rfl (by decide +kernel)
set_option maxRecDepth 20000 in
theorem gX1_lastsOf_X1_trialLasts : GoodIn wsX1_lastsOf (wsV RX1 30 RX1 yX1_trialLasts wsX1_trialLasts) := goodIn_app (goodIn_of _ (by decide +kernel)) ggX1_lastsOf_X1_trialLasts
theorem dX1_lastsOf_0 : decode cX1_lastsOf 0 = .ok (.aload_n 1, 1) := by decide +kernel
theorem dX1_lastsOf_1 : decode cX1_lastsOf 1 = .ok (.iload_n 2, 1) := by decide +kernel
theorem dX1_lastsOf_2 : decode cX1_lastsOf 2 = .ok (.invokevirtual 26, 3) := by decide +kernel
theorem dX1_lastsOf_5 : decode cX1_lastsOf 5 = .ok (.ifCond .ne 6, 3) := by decide +kernel
theorem dX1_lastsOf_8 : decode cX1_lastsOf 8 = .ok (.bipush (-5), 2) := by decide +kernel
theorem dX1_lastsOf_10 : decode cX1_lastsOf 10 = .ok (.ireturn, 1) := by decide +kernel
theorem dX1_lastsOf_11 : decode cX1_lastsOf 11 = .ok (.aload_n 0, 1) := by decide +kernel
theorem dX1_lastsOf_12 : decode cX1_lastsOf 12 = .ok (.getfield 12, 3) := by decide +kernel
theorem dX1_lastsOf_15 : decode cX1_lastsOf 15 = .ok (.aload_n 1, 1) := by decide +kernel
theorem dX1_lastsOf_16 : decode cX1_lastsOf 16 = .ok (.invokevirtual 18, 3) := by decide +kernel
theorem dX1_lastsOf_19 : decode cX1_lastsOf 19 = .ok (.aload_n 0, 1) := by decide +kernel
theorem dX1_lastsOf_20 : decode cX1_lastsOf 20 = .ok (.iload_n 2, 1) := by decide +kernel
theorem dX1_lastsOf_21 : decode cX1_lastsOf 21 = .ok (.invokevirtual 30, 3) := by decide +kernel
theorem dX1_lastsOf_24 : decode cX1_lastsOf 24 = .ok (.istore_n 3, 1) := by decide +kernel
theorem dX1_lastsOf_25 : decode cX1_lastsOf 25 = .ok (.iload_n 3, 1) := by decide +kernel
theorem dX1_lastsOf_26 : decode cX1_lastsOf 26 = .ok (.bipush 61, 2) := by decide +kernel
theorem dX1_lastsOf_28 : decode cX1_lastsOf 28 = .ok (.if_icmp .ne 8, 3) := by decide +kernel
theorem dX1_lastsOf_31 : decode cX1_lastsOf 31 = .ok (.bipush (-5), 2) := by decide +kernel
theorem dX1_lastsOf_33 : decode cX1_lastsOf 33 = .ok (.goto 4, 3) := by decide +kernel
theorem dX1_lastsOf_36 : decode cX1_lastsOf 36 = .ok (.iload_n 3, 1) := by decide +kernel
theorem dX1_lastsOf_37 : decode cX1_lastsOf 37 = .ok (.ireturn, 1) := by decide +kernel
set_option maxRecDepth 20000 in
theorem ggX1_trialLasts_X2_goOne : GoodIn wsX1_trialLasts wsX2_goOne := goodIn_r _ [6, 7, 8, 9, 10, 11, 12, 13, 14, 15, 16, 17, 18, 19, 20, 21, 5, 22, 23, 24, 25, 26, 27, 28, 29, 30, 31, 32, 33, 34, 35, 36, 37, 38, 39, 40, 41, 42, 43, 44, 45, 46, 47, 48, 49, 50, 51, 52, 53, 54, 55, 56, 57, 58, 59, 60, 61, 62, 63, 64, 65, 66, 67, 68, 69, 70, 71, 72, 73, 74, 75, 76, 77, 78, 79, 80, 81, 82, 83, 84, 85, 86, 87, 88, 91, 92, 93, 94, 95, 96, 97, 98, 99, 100, 101, 102, 103, 104, 105, 106, 107, 108, 109] rfl (by decide +kernel)
set_option maxRecDepth 20000 in
theorem gX1_trialLasts_X2_goOne : GoodIn wsX1_trialLasts (wsV RX1 34 RX2 yX2_goOne wsX2_goOne) := goodIn_app (goodIn_of _ (by decide +kernel)) ggX1_trialLasts_X2_goOne
set_option maxRecDepth 20000 in
theorem ggX1_trialLasts_X2_isHeld : GoodIn wsX1_trialLasts wsX2_isHeld := goodIn_r _ [62, 35, 91, 92, 93, 94, 95, 96, 97, 98, 99, 100, 101, 102, 103, 104] rfl (by decide +kernel)
set_option maxRecDepth 20000 in
theorem gX1_trialLasts_X2_isHeld : GoodIn wsX1_trialLasts (wsV RX1 26 RX2 yX2_isHeld wsX2_isHeld) := goodIn_app (goodIn_of _ (by decide +kernel)) ggX1_trialLasts_X2_isHeld
theorem dX1_trialLasts_0 : decode cX1_trialLasts 0 = .ok (.iconst 1, 1) := by decide +kernel
theorem dX1_trialLasts_1 : decode cX1_trialLasts 1 = .ok (.istore_n 2, 1) := by decide +kernel
theorem dX1_trialLasts_2 : decode cX1_trialLasts 2 = .ok (.iload_n 2, 1) := by decide +kernel
theorem dX1_trialLasts_3 : decode cX1_trialLasts 3 = .ok (.bipush 60, 2) := by decide +kernel
theorem dX1_trialLasts_5 : decode cX1_trialLasts 5 = .ok (.if_icmp .gt 29, 3) := by decide +kernel
theorem dX1_trialLasts_8 : decode cX1_trialLasts 8 = .ok (.aload_n 0, 1) := by decide +kernel
theorem dX1_trialLasts_9 : decode cX1_trialLasts 9 = .ok (.getfield 12, 3) := by decide +kernel
theorem dX1_trialLasts_12 : decode cX1_trialLasts 12 = .ok (.invokevirtual 34, 3) := by decide +kernel
theorem dX1_trialLasts_15 : decode cX1_trialLasts 15 = .ok (.aload_n 0, 1) := by decide +kernel
theorem dX1_trialLasts_16 : decode cX1_trialLasts 16 = .ok (.getfield 12, 3) := by decide +kernel
theorem dX1_trialLasts_19 : decode cX1_trialLasts 19 = .ok (.iload_n 1, 1) := by decide +kernel
theorem dX1_trialLasts_20 : decode cX1_trialLasts 20 = .ok (.invokevirtual 26, 3) := by decide +kernel
theorem dX1_trialLasts_23 : decode cX1_trialLasts 23 = .ok (.ifCond .ne 5, 3) := by decide +kernel
theorem dX1_trialLasts_26 : decode cX1_trialLasts 26 = .ok (.iload_n 2, 1) := by decide +kernel
theorem dX1_trialLasts_27 : decode cX1_trialLasts 27 = .ok (.ireturn, 1) := by decide +kernel
theorem dX1_trialLasts_28 : decode cX1_trialLasts 28 = .ok (.iinc 2 1, 3) := by decide +kernel
theorem dX1_trialLasts_31 : decode cX1_trialLasts 31 = .ok (.goto (-29), 3) := by decide +kernel
theorem dX1_trialLasts_34 : decode cX1_trialLasts 34 = .ok (.bipush 61, 2) := by decide +kernel
theorem dX1_trialLasts_36 : decode cX1_trialLasts 36 = .ok (.ireturn, 1) := by decide +kernel
set_option maxRecDepth 20000 in
theorem ggX1_meetingOf_X2_become : GoodIn wsX1_meetingOf wsX2_become := goodIn_r _ [7, 8, 9, 10, 11, 12, 13, 14, 15, 16, 17, 18, 19, 20, 21, 22, 23, 99, 100, 101, 102, 103, 104, 105, 106, 107, 108, 109, 110, 111, 112] rfl (by decide +kernel)
set_option maxRecDepth 20000 in
theorem gX1_meetingOf_X2_become : GoodIn wsX1_meetingOf (wsV RX1 18 RX2 yX2_become wsX2_become) := goodIn_app (goodIn_of _ (by decide +kernel)) ggX1_meetingOf_X2_become
set_option maxRecDepth 20000 in
theorem ggX1_meetingOf_X2_goOne : GoodIn wsX1_meetingOf wsX2_goOne := goodIn_r _ [27, 8, 28, 15, 29, 30, 31, 32, 33, 34, 35, 17, 22, 36, 37, 38, 6, 39, 23, 14, 9, 16, 40, 41, 42, 43, 44, 45, 46, 47, 19, 20, 48, 49, 50, 51, 52, 53, 54, 55, 56, 57, 58, 59, 60, 61, 62, 63, 64, 65, 66, 67, 68, 69, 70, 71, 72, 73, 74, 75, 76, 77, 78, 79, 80, 18, 81, 82, 83, 84, 21, 85, 86, 87, 88, 89, 90, 91, 92, 93, 94, 95, 96, 97, 99, 100, 101, 102, 103, 104, 105, 106, 107, 108, 109, 110, 111, 112, 113, 114, 115, 116, 117] rfl (by decide +kernel)
set_option maxRecDepth 20000 in
theorem gX1_meetingOf_X2_goOne : GoodIn wsX1_meetingOf (wsV RX1 34 RX2 yX2_goOne wsX2_goOne) := goodIn_app (goodIn_of _ (by decide +kernel)) ggX1_meetingOf_X2_goOne
theorem dX1_meetingOf_0 : decode cX1_meetingOf 0 = .ok (.aload_n 0, 1) := by decide +kernel
theorem dX1_meetingOf_1 : decode cX1_meetingOf 1 = .ok (.getfield 12, 3) := by decide +kernel
theorem dX1_meetingOf_4 : decode cX1_meetingOf 4 = .ok (.aload_n 1, 1) := by decide +kernel
theorem dX1_meetingOf_5 : decode cX1_meetingOf 5 = .ok (.invokevirtual 18, 3) := by decide +kernel
theorem dX1_meetingOf_8 : decode cX1_meetingOf 8 = .ok (.iconst 0, 1) := by decide +kernel
theorem dX1_meetingOf_9 : decode cX1_meetingOf 9 = .ok (.istore 4, 2) := by decide +kernel
theorem dX1_meetingOf_11 : decode cX1_meetingOf 11 = .ok (.iload 4, 2) := by decide +kernel
theorem dX1_meetingOf_13 : decode cX1_meetingOf 13 = .ok (.bipush 60, 2) := by decide +kernel
theorem dX1_meetingOf_15 : decode cX1_meetingOf 15 = .ok (.if_icmp .gt 40, 3) := by decide +kernel
theorem dX1_meetingOf_18 : decode cX1_meetingOf 18 = .ok (.aload_n 0, 1) := by decide +kernel
theorem dX1_meetingOf_19 : decode cX1_meetingOf 19 = .ok (.getfield 12, 3) := by decide +kernel
theorem dX1_meetingOf_22 : decode cX1_meetingOf 22 = .ok (.getfield 37, 3) := by decide +kernel
theorem dX1_meetingOf_25 : decode cX1_meetingOf 25 = .ok (.iload_n 2, 1) := by decide +kernel
theorem dX1_meetingOf_26 : decode cX1_meetingOf 26 = .ok (.iaload, 1) := by decide +kernel
theorem dX1_meetingOf_27 : decode cX1_meetingOf 27 = .ok (.aload_n 0, 1) := by decide +kernel
theorem dX1_meetingOf_28 : decode cX1_meetingOf 28 = .ok (.getfield 12, 3) := by decide +kernel
theorem dX1_meetingOf_31 : decode cX1_meetingOf 31 = .ok (.getfield 37, 3) := by decide +kernel
theorem dX1_meetingOf_34 : decode cX1_meetingOf 34 = .ok (.iload_n 3, 1) := by decide +kernel
theorem dX1_meetingOf_35 : decode cX1_meetingOf 35 = .ok (.iaload, 1) := by decide +kernel
theorem dX1_meetingOf_36 : decode cX1_meetingOf 36 = .ok (.if_icmp .ne 6, 3) := by decide +kernel
theorem dX1_meetingOf_39 : decode cX1_meetingOf 39 = .ok (.iload 4, 2) := by decide +kernel
theorem dX1_meetingOf_41 : decode cX1_meetingOf 41 = .ok (.ireturn, 1) := by decide +kernel
theorem dX1_meetingOf_42 : decode cX1_meetingOf 42 = .ok (.aload_n 0, 1) := by decide +kernel
theorem dX1_meetingOf_43 : decode cX1_meetingOf 43 = .ok (.getfield 12, 3) := by decide +kernel
theorem dX1_meetingOf_46 : decode cX1_meetingOf 46 = .ok (.invokevirtual 34, 3) := by decide +kernel
theorem dX1_meetingOf_49 : decode cX1_meetingOf 49 = .ok (.iinc 4 1, 3) := by decide +kernel
theorem dX1_meetingOf_52 : decode cX1_meetingOf 52 = .ok (.goto (-41), 3) := by decide +kernel
theorem dX1_meetingOf_55 : decode cX1_meetingOf 55 = .ok (.bipush (-5), 2) := by decide +kernel
theorem dX1_meetingOf_57 : decode cX1_meetingOf 57 = .ok (.ireturn, 1) := by decide +kernel
set_option maxRecDepth 20000 in
theorem ggX1_partnerOf_X2_isHeld : GoodIn wsX1_partnerOf wsX2_isHeld := goodIn_r _ [8, 9, 107, 108, 109, 110, 111, 112, 113, 114, 115, 116, 117, 118, 119, 120] rfl (by decide +kernel)
set_option maxRecDepth 20000 in
theorem gX1_partnerOf_X2_isHeld : GoodIn wsX1_partnerOf (wsV RX1 26 RX2 yX2_isHeld wsX2_isHeld) := goodIn_app (goodIn_of _ (by decide +kernel)) ggX1_partnerOf_X2_isHeld
set_option maxRecDepth 20000 in
theorem ggX1_partnerOf_X2_become : GoodIn wsX1_partnerOf wsX2_become := goodIn_r _ [13, 14, 15, 16, 17, 18, 19, 20, 21, 22, 23, 24, 9, 25, 26, 27, 28, 107, 108, 109, 110, 111, 112, 113, 114, 115, 116, 117, 118, 119, 120] rfl (by decide +kernel)
set_option maxRecDepth 20000 in
theorem gX1_partnerOf_X2_become : GoodIn wsX1_partnerOf (wsV RX1 18 RX2 yX2_become wsX2_become) := goodIn_app (goodIn_of _ (by decide +kernel)) ggX1_partnerOf_X2_become
set_option maxRecDepth 20000 in
theorem ggX1_partnerOf_X1_trialLasts : GoodIn wsX1_partnerOf wsX1_trialLasts := goodIn_r _ [33, 1, 34, 35, 36, 7, 37, 14, 38, 21, 39, 40, 41, 42, 43, 44, 45, 23, 27, 46, 47, 48, 49, 28, 20, 15, 22, 50, 51, 52, 53, 54, 55, 56, 57, 9, 25, 58, 59, 60, 61, 62, 63, 64, 65, 66, 67, 68, 69, 70, 71, 72, 73, 74, 75, 76, 77, 78, 79, 80, 5, 6, 8, 81, 82, 83, 84, 85, 86, 87, 24, 88, 89, 90, 91, 26, 92, 93, 94, 95, 96, 97, 98, 99, 100, 101, 102, 103, 104, 4, 106, 107, 108, 109, 110, 111, 112, 113, 114, 115, 116, 117, 118, 119, 120, 121, 122, 123, 124, 125] rfl (by decide +kernel)
set_option maxRecDepth 20000 in
theorem gX1_partnerOf_X1_trialLasts : GoodIn wsX1_partnerOf (wsV RX1 30 RX1 yX1_trialLasts wsX1_trialLasts) := goodIn_app (goodIn_of _ (by decide +kernel)) ggX1_partnerOf_X1_trialLasts
set_option maxRecDepth 20000 in
theorem ggX1_partnerOf_X2_isHolder : GoodIn wsX1_partnerOf wsX2_isHolder := goodIn_r _ [57, 9, 25, 107, 108, 109, 110, 111, 112, 113, 114, 115, 116, 117, 118, 119, 120] rfl (by decide +kernel)
set_option maxRecDepth 20000 in
theorem gX1_partnerOf_X2_isHolder : GoodIn wsX1_partnerOf (wsV RX1 45 RX2 yX2_isHolder wsX2_isHolder) := goodIn_app (goodIn_of _ (by decide +kernel)) ggX1_partnerOf_X2_isHolder
theorem dX1_partnerOf_0 : decode cX1_partnerOf 0 = .ok (.aload_n 1, 1) := by decide +kernel
theorem dX1_partnerOf_1 : decode cX1_partnerOf 1 = .ok (.iload_n 2, 1) := by decide +kernel
theorem dX1_partnerOf_2 : decode cX1_partnerOf 2 = .ok (.invokevirtual 26, 3) := by decide +kernel
theorem dX1_partnerOf_5 : decode cX1_partnerOf 5 = .ok (.ifCond .ne 6, 3) := by decide +kernel
theorem dX1_partnerOf_8 : decode cX1_partnerOf 8 = .ok (.bipush (-5), 2) := by decide +kernel
theorem dX1_partnerOf_10 : decode cX1_partnerOf 10 = .ok (.ireturn, 1) := by decide +kernel
theorem dX1_partnerOf_11 : decode cX1_partnerOf 11 = .ok (.aload_n 0, 1) := by decide +kernel
theorem dX1_partnerOf_12 : decode cX1_partnerOf 12 = .ok (.getfield 12, 3) := by decide +kernel
theorem dX1_partnerOf_15 : decode cX1_partnerOf 15 = .ok (.aload_n 1, 1) := by decide +kernel
theorem dX1_partnerOf_16 : decode cX1_partnerOf 16 = .ok (.invokevirtual 18, 3) := by decide +kernel
theorem dX1_partnerOf_19 : decode cX1_partnerOf 19 = .ok (.aload_n 0, 1) := by decide +kernel
theorem dX1_partnerOf_20 : decode cX1_partnerOf 20 = .ok (.iload_n 2, 1) := by decide +kernel
theorem dX1_partnerOf_21 : decode cX1_partnerOf 21 = .ok (.invokevirtual 30, 3) := by decide +kernel
theorem dX1_partnerOf_24 : decode cX1_partnerOf 24 = .ok (.istore_n 3, 1) := by decide +kernel
theorem dX1_partnerOf_25 : decode cX1_partnerOf 25 = .ok (.bipush (-5), 2) := by decide +kernel
theorem dX1_partnerOf_27 : decode cX1_partnerOf 27 = .ok (.istore 4, 2) := by decide +kernel
theorem dX1_partnerOf_29 : decode cX1_partnerOf 29 = .ok (.iconst 0, 1) := by decide +kernel
theorem dX1_partnerOf_30 : decode cX1_partnerOf 30 = .ok (.istore 5, 2) := by decide +kernel
theorem dX1_partnerOf_32 : decode cX1_partnerOf 32 = .ok (.iload 5, 2) := by decide +kernel
theorem dX1_partnerOf_34 : decode cX1_partnerOf 34 = .ok (.aload_n 1, 1) := by decide +kernel
theorem dX1_partnerOf_35 : decode cX1_partnerOf 35 = .ok (.getfield 41, 3) := by decide +kernel
theorem dX1_partnerOf_38 : decode cX1_partnerOf 38 = .ok (.if_icmp .ge 67, 3) := by decide +kernel
theorem dX1_partnerOf_41 : decode cX1_partnerOf 41 = .ok (.iload_n 3, 1) := by decide +kernel
theorem dX1_partnerOf_42 : decode cX1_partnerOf 42 = .ok (.bipush 61, 2) := by decide +kernel
theorem dX1_partnerOf_44 : decode cX1_partnerOf 44 = .ok (.if_icmp .ge 61, 3) := by decide +kernel
theorem dX1_partnerOf_47 : decode cX1_partnerOf 47 = .ok (.aload_n 1, 1) := by decide +kernel
theorem dX1_partnerOf_48 : decode cX1_partnerOf 48 = .ok (.iload_n 2, 1) := by decide +kernel
theorem dX1_partnerOf_49 : decode cX1_partnerOf 49 = .ok (.iload 5, 2) := by decide +kernel
theorem dX1_partnerOf_51 : decode cX1_partnerOf 51 = .ok (.invokevirtual 45, 3) := by decide +kernel
theorem dX1_partnerOf_54 : decode cX1_partnerOf 54 = .ok (.ifCond .eq 6, 3) := by decide +kernel
theorem dX1_partnerOf_57 : decode cX1_partnerOf 57 = .ok (.goto 42, 3) := by decide +kernel
theorem dX1_partnerOf_60 : decode cX1_partnerOf 60 = .ok (.aload_n 0, 1) := by decide +kernel
theorem dX1_partnerOf_61 : decode cX1_partnerOf 61 = .ok (.getfield 12, 3) := by decide +kernel
theorem dX1_partnerOf_64 : decode cX1_partnerOf 64 = .ok (.aload_n 1, 1) := by decide +kernel
theorem dX1_partnerOf_65 : decode cX1_partnerOf 65 = .ok (.invokevirtual 18, 3) := by decide +kernel
theorem dX1_partnerOf_68 : decode cX1_partnerOf 68 = .ok (.aload_n 0, 1) := by decide +kernel
theorem dX1_partnerOf_69 : decode cX1_partnerOf 69 = .ok (.getfield 12, 3) := by decide +kernel
theorem dX1_partnerOf_72 : decode cX1_partnerOf 72 = .ok (.getfield 49, 3) := by decide +kernel
theorem dX1_partnerOf_75 : decode cX1_partnerOf 75 = .ok (.iload_n 2, 1) := by decide +kernel
theorem dX1_partnerOf_76 : decode cX1_partnerOf 76 = .ok (.iload 5, 2) := by decide +kernel
theorem dX1_partnerOf_78 : decode cX1_partnerOf 78 = .ok (.iastore, 1) := by decide +kernel
theorem dX1_partnerOf_79 : decode cX1_partnerOf 79 = .ok (.aload_n 0, 1) := by decide +kernel
theorem dX1_partnerOf_80 : decode cX1_partnerOf 80 = .ok (.iload_n 2, 1) := by decide +kernel
theorem dX1_partnerOf_81 : decode cX1_partnerOf 81 = .ok (.invokevirtual 30, 3) := by decide +kernel
theorem dX1_partnerOf_84 : decode cX1_partnerOf 84 = .ok (.istore 6, 2) := by decide +kernel
theorem dX1_partnerOf_86 : decode cX1_partnerOf 86 = .ok (.iload 6, 2) := by decide +kernel
theorem dX1_partnerOf_88 : decode cX1_partnerOf 88 = .ok (.iload_n 3, 1) := by decide +kernel
theorem dX1_partnerOf_89 : decode cX1_partnerOf 89 = .ok (.if_icmp .le 10, 3) := by decide +kernel
theorem dX1_partnerOf_92 : decode cX1_partnerOf 92 = .ok (.iload 6, 2) := by decide +kernel
theorem dX1_partnerOf_94 : decode cX1_partnerOf 94 = .ok (.istore_n 3, 1) := by decide +kernel
theorem dX1_partnerOf_95 : decode cX1_partnerOf 95 = .ok (.iload 5, 2) := by decide +kernel
theorem dX1_partnerOf_97 : decode cX1_partnerOf 97 = .ok (.istore 4, 2) := by decide +kernel
theorem dX1_partnerOf_99 : decode cX1_partnerOf 99 = .ok (.iinc 5 1, 3) := by decide +kernel
theorem dX1_partnerOf_102 : decode cX1_partnerOf 102 = .ok (.goto (-70), 3) := by decide +kernel
theorem dX1_partnerOf_105 : decode cX1_partnerOf 105 = .ok (.iload 4, 2) := by decide +kernel
theorem dX1_partnerOf_107 : decode cX1_partnerOf 107 = .ok (.ireturn, 1) := by decide +kernel
set_option maxRecDepth 20000 in
theorem ggX1_changeOf_X2_become : GoodIn wsX1_changeOf wsX2_become := goodIn_r _ [8, 9, 10, 11, 12, 13, 14, 15, 16, 17, 18, 19, 20, 21, 22, 23, 24, 108, 109, 110, 111, 112, 113, 114, 115, 116, 117, 118, 119, 120, 121] rfl (by decide +kernel)
set_option maxRecDepth 20000 in
theorem gX1_changeOf_X2_become : GoodIn wsX1_changeOf (wsV RX1 18 RX2 yX2_become wsX2_become) := goodIn_app (goodIn_of _ (by decide +kernel)) ggX1_changeOf_X2_become
set_option maxRecDepth 20000 in
theorem ggX1_changeOf_X2_goOn : GoodIn wsX1_changeOf wsX2_goOn := goodIn_r _ [28, 29, 30, 31, 7, 32, 9, 33, 16, 34, 35, 36, 37, 38, 39, 40, 18, 23, 41, 42, 43, 44, 24, 15, 10, 17, 45, 46, 47, 48, 49, 50, 51, 52, 20, 21, 53, 54, 55, 56, 57, 58, 59, 60, 61, 62, 63, 64, 65, 66, 67, 68, 69, 70, 71, 72, 73, 74, 75, 76, 77, 78, 79, 80, 81, 82, 83, 84, 85, 19, 86, 87, 88, 89, 22, 90, 91, 92, 93, 94, 95, 96, 97, 98, 99, 100, 101, 102, 108, 109, 110, 111, 112, 113, 114, 115, 116, 117, 118, 119, 120, 121, 122, 123, 124, 125, 126] rfl (by decide +kernel)
set_option maxRecDepth 20000 in
theorem gX1_changeOf_X2_goOn : GoodIn wsX1_changeOf (wsV RX1 22 RX2 yX2_goOn wsX2_goOn) := goodIn_app (goodIn_of _ (by decide +kernel)) ggX1_changeOf_X2_goOn
set_option maxRecDepth 20000 in
theorem ggX1_changeOf_X2_changePlaces : GoodIn wsX1_changeOf wsX2_changePlaces := goodIn_r _ [106, 16, 108, 109, 110, 111, 112, 113, 114, 115, 116, 117, 118, 119, 120, 121] rfl (by decide +kernel)
set_option maxRecDepth 20000 in
theorem gX1_changeOf_X2_changePlaces : GoodIn wsX1_changeOf (wsV RX1 55 RX2 yX2_changePlaces wsX2_changePlaces) := goodIn_app (goodIn_of _ (by decide +kernel)) ggX1_changeOf_X2_changePlaces
theorem dX1_changeOf_0 : decode cX1_changeOf 0 = .ok (.aload_n 0, 1) := by decide +kernel
theorem dX1_changeOf_1 : decode cX1_changeOf 1 = .ok (.getfield 12, 3) := by decide +kernel
theorem dX1_changeOf_4 : decode cX1_changeOf 4 = .ok (.aload_n 1, 1) := by decide +kernel
theorem dX1_changeOf_5 : decode cX1_changeOf 5 = .ok (.invokevirtual 18, 3) := by decide +kernel
theorem dX1_changeOf_8 : decode cX1_changeOf 8 = .ok (.aload_n 0, 1) := by decide +kernel
theorem dX1_changeOf_9 : decode cX1_changeOf 9 = .ok (.getfield 12, 3) := by decide +kernel
theorem dX1_changeOf_12 : decode cX1_changeOf 12 = .ok (.iload_n 2, 1) := by decide +kernel
theorem dX1_changeOf_13 : decode cX1_changeOf 13 = .ok (.invokevirtual 22, 3) := by decide +kernel
theorem dX1_changeOf_16 : decode cX1_changeOf 16 = .ok (.aload_n 0, 1) := by decide +kernel
theorem dX1_changeOf_17 : decode cX1_changeOf 17 = .ok (.getfield 12, 3) := by decide +kernel
theorem dX1_changeOf_20 : decode cX1_changeOf 20 = .ok (.getfield 52, 3) := by decide +kernel
theorem dX1_changeOf_23 : decode cX1_changeOf 23 = .ok (.istore_n 3, 1) := by decide +kernel
theorem dX1_changeOf_24 : decode cX1_changeOf 24 = .ok (.bipush (-5), 2) := by decide +kernel
theorem dX1_changeOf_26 : decode cX1_changeOf 26 = .ok (.istore 4, 2) := by decide +kernel
theorem dX1_changeOf_28 : decode cX1_changeOf 28 = .ok (.iconst 0, 1) := by decide +kernel
theorem dX1_changeOf_29 : decode cX1_changeOf 29 = .ok (.istore 5, 2) := by decide +kernel
theorem dX1_changeOf_31 : decode cX1_changeOf 31 = .ok (.iload 5, 2) := by decide +kernel
theorem dX1_changeOf_33 : decode cX1_changeOf 33 = .ok (.aload_n 1, 1) := by decide +kernel
theorem dX1_changeOf_34 : decode cX1_changeOf 34 = .ok (.getfield 41, 3) := by decide +kernel
theorem dX1_changeOf_37 : decode cX1_changeOf 37 = .ok (.if_icmp .ge 86, 3) := by decide +kernel
theorem dX1_changeOf_40 : decode cX1_changeOf 40 = .ok (.iload 5, 2) := by decide +kernel
theorem dX1_changeOf_42 : decode cX1_changeOf 42 = .ok (.iconst 1, 1) := by decide +kernel
theorem dX1_changeOf_43 : decode cX1_changeOf 43 = .ok (.iadd, 1) := by decide +kernel
theorem dX1_changeOf_44 : decode cX1_changeOf 44 = .ok (.istore 6, 2) := by decide +kernel
theorem dX1_changeOf_46 : decode cX1_changeOf 46 = .ok (.iload 6, 2) := by decide +kernel
theorem dX1_changeOf_48 : decode cX1_changeOf 48 = .ok (.aload_n 1, 1) := by decide +kernel
theorem dX1_changeOf_49 : decode cX1_changeOf 49 = .ok (.getfield 41, 3) := by decide +kernel
theorem dX1_changeOf_52 : decode cX1_changeOf 52 = .ok (.if_icmp .ge 65, 3) := by decide +kernel
theorem dX1_changeOf_55 : decode cX1_changeOf 55 = .ok (.aload_n 0, 1) := by decide +kernel
theorem dX1_changeOf_56 : decode cX1_changeOf 56 = .ok (.getfield 12, 3) := by decide +kernel
theorem dX1_changeOf_59 : decode cX1_changeOf 59 = .ok (.aload_n 1, 1) := by decide +kernel
theorem dX1_changeOf_60 : decode cX1_changeOf 60 = .ok (.invokevirtual 18, 3) := by decide +kernel
theorem dX1_changeOf_63 : decode cX1_changeOf 63 = .ok (.aload_n 0, 1) := by decide +kernel
theorem dX1_changeOf_64 : decode cX1_changeOf 64 = .ok (.getfield 12, 3) := by decide +kernel
theorem dX1_changeOf_67 : decode cX1_changeOf 67 = .ok (.iload 5, 2) := by decide +kernel
theorem dX1_changeOf_69 : decode cX1_changeOf 69 = .ok (.iload 6, 2) := by decide +kernel
theorem dX1_changeOf_71 : decode cX1_changeOf 71 = .ok (.invokevirtual 55, 3) := by decide +kernel
theorem dX1_changeOf_74 : decode cX1_changeOf 74 = .ok (.aload_n 0, 1) := by decide +kernel
theorem dX1_changeOf_75 : decode cX1_changeOf 75 = .ok (.getfield 12, 3) := by decide +kernel
theorem dX1_changeOf_78 : decode cX1_changeOf 78 = .ok (.iload_n 2, 1) := by decide +kernel
theorem dX1_changeOf_79 : decode cX1_changeOf 79 = .ok (.invokevirtual 22, 3) := by decide +kernel
theorem dX1_changeOf_82 : decode cX1_changeOf 82 = .ok (.aload_n 0, 1) := by decide +kernel
theorem dX1_changeOf_83 : decode cX1_changeOf 83 = .ok (.getfield 12, 3) := by decide +kernel
theorem dX1_changeOf_86 : decode cX1_changeOf 86 = .ok (.getfield 52, 3) := by decide +kernel
theorem dX1_changeOf_89 : decode cX1_changeOf 89 = .ok (.iload_n 3, 1) := by decide +kernel
theorem dX1_changeOf_90 : decode cX1_changeOf 90 = .ok (.if_icmp .ge 21, 3) := by decide +kernel
theorem dX1_changeOf_93 : decode cX1_changeOf 93 = .ok (.aload_n 0, 1) := by decide +kernel
theorem dX1_changeOf_94 : decode cX1_changeOf 94 = .ok (.getfield 12, 3) := by decide +kernel
theorem dX1_changeOf_97 : decode cX1_changeOf 97 = .ok (.getfield 52, 3) := by decide +kernel
theorem dX1_changeOf_100 : decode cX1_changeOf 100 = .ok (.istore_n 3, 1) := by decide +kernel
theorem dX1_changeOf_101 : decode cX1_changeOf 101 = .ok (.iload 5, 2) := by decide +kernel
theorem dX1_changeOf_103 : decode cX1_changeOf 103 = .ok (.bipush 10, 2) := by decide +kernel
theorem dX1_changeOf_105 : decode cX1_changeOf 105 = .ok (.imul, 1) := by decide +kernel
theorem dX1_changeOf_106 : decode cX1_changeOf 106 = .ok (.iload 6, 2) := by decide +kernel
theorem dX1_changeOf_108 : decode cX1_changeOf 108 = .ok (.iadd, 1) := by decide +kernel
theorem dX1_changeOf_109 : decode cX1_changeOf 109 = .ok (.istore 4, 2) := by decide +kernel
theorem dX1_changeOf_111 : decode cX1_changeOf 111 = .ok (.iinc 6 1, 3) := by decide +kernel
theorem dX1_changeOf_114 : decode cX1_changeOf 114 = .ok (.goto (-68), 3) := by decide +kernel
theorem dX1_changeOf_117 : decode cX1_changeOf 117 = .ok (.iinc 5 1, 3) := by decide +kernel
theorem dX1_changeOf_120 : decode cX1_changeOf 120 = .ok (.goto (-89), 3) := by decide +kernel
theorem dX1_changeOf_123 : decode cX1_changeOf 123 = .ok (.iload 4, 2) := by decide +kernel
theorem dX1_changeOf_125 : decode cX1_changeOf 125 = .ok (.ireturn, 1) := by decide +kernel
set_option maxRecDepth 20000 in
theorem ggX1_spareOf_X2_heldBits : GoodIn wsX1_spareOf wsX2_heldBits := goodIn_r _ [6, 7, 8, 9, 10, 5, 11, 12, 122, 123, 124, 125, 126, 127, 128, 129, 130, 131, 132, 133, 134, 135] rfl (by decide +kernel)
set_option maxRecDepth 20000 in
theorem gX1_spareOf_X2_heldBits : GoodIn wsX1_spareOf (wsV RX1 59 RX2 yX2_heldBits wsX2_heldBits) := goodIn_app (goodIn_of _ (by decide +kernel)) ggX1_spareOf_X2_heldBits
set_option maxRecDepth 20000 in
theorem ggX1_spareOf_J6_bitCount_0f7a4 : GoodIn wsX1_spareOf wsJ6_bitCount_0f7a4 := goodIn_r _ [16, 17, 18, 19] rfl (by decide +kernel)
set_option maxRecDepth 20000 in
theorem gX1_spareOf_J6_bitCount_0f7a4 : GoodIn wsX1_spareOf (va_wsS RX1 63 yJ6_bitCount_0f7a4 wsJ6_bitCount_0f7a4) := goodIn_app (goodIn_of _ (by decide +kernel)) ggX1_spareOf_J6_bitCount_0f7a4
set_option maxRecDepth 20000 in
theorem ggX1_spareOf_X1_dropsByThese : GoodIn wsX1_spareOf wsX1_dropsByThese := goodIn_r _ [24, 25, 1, 26, 27, 28, 5, 29, 30, 31, 32, 33, 34, 35, 36, 37, 38, 7, 39, 12, 40, 41, 42, 43, 44, 45, 46, 47, 48, 49, 50, 51, 52, 53, 54, 55, 56, 57, 58, 59, 60, 61, 62, 63, 64, 65, 66, 67, 68, 69, 70, 71, 72, 73, 74, 75, 76, 77, 78, 79, 80, 81, 82, 83, 84, 85, 86, 87, 88, 89, 90, 91, 92, 93, 94, 95, 96, 97, 98, 99, 100, 101, 102, 103, 104, 105, 8, 9, 10, 11, 106, 107, 108, 109, 110, 111, 112, 113, 114, 115, 116, 117, 118, 119, 120, 121, 136, 122, 123, 124, 125, 126, 127, 128, 129, 130, 131, 132, 133, 134, 135, 137, 138, 139, 140, 141] rfl (by decide +kernel)
set_option maxRecDepth 20000 in
theorem gX1_spareOf_X1_dropsByThese : GoodIn wsX1_spareOf (wsV RX1 68 RX1 yX1_dropsByThese wsX1_dropsByThese) := goodIn_app (goodIn_of _ (by decide +kernel)) ggX1_spareOf_X1_dropsByThese
theorem dX1_spareOf_0 : decode cX1_spareOf 0 = .ok (.aload_n 1, 1) := by decide +kernel
theorem dX1_spareOf_1 : decode cX1_spareOf 1 = .ok (.invokevirtual 59, 3) := by decide +kernel
theorem dX1_spareOf_4 : decode cX1_spareOf 4 = .ok (.istore_n 3, 1) := by decide +kernel
theorem dX1_spareOf_5 : decode cX1_spareOf 5 = .ok (.iconst 1, 1) := by decide +kernel
theorem dX1_spareOf_6 : decode cX1_spareOf 6 = .ok (.istore 4, 2) := by decide +kernel
theorem dX1_spareOf_8 : decode cX1_spareOf 8 = .ok (.iload 4, 2) := by decide +kernel
theorem dX1_spareOf_10 : decode cX1_spareOf 10 = .ok (.iconst 4, 1) := by decide +kernel
theorem dX1_spareOf_11 : decode cX1_spareOf 11 = .ok (.if_icmp .gt 73, 3) := by decide +kernel
theorem dX1_spareOf_14 : decode cX1_spareOf 14 = .ok (.iconst 1, 1) := by decide +kernel
theorem dX1_spareOf_15 : decode cX1_spareOf 15 = .ok (.istore 5, 2) := by decide +kernel
theorem dX1_spareOf_17 : decode cX1_spareOf 17 = .ok (.iload 5, 2) := by decide +kernel
theorem dX1_spareOf_19 : decode cX1_spareOf 19 = .ok (.iload_n 3, 1) := by decide +kernel
theorem dX1_spareOf_20 : decode cX1_spareOf 20 = .ok (.if_icmp .gt 58, 3) := by decide +kernel
theorem dX1_spareOf_23 : decode cX1_spareOf 23 = .ok (.iload 5, 2) := by decide +kernel
theorem dX1_spareOf_25 : decode cX1_spareOf 25 = .ok (.invokestatic 63, 3) := by decide +kernel
theorem dX1_spareOf_28 : decode cX1_spareOf 28 = .ok (.iload 4, 2) := by decide +kernel
theorem dX1_spareOf_30 : decode cX1_spareOf 30 = .ok (.if_icmp .ne 16, 3) := by decide +kernel
theorem dX1_spareOf_33 : decode cX1_spareOf 33 = .ok (.iload 5, 2) := by decide +kernel
theorem dX1_spareOf_35 : decode cX1_spareOf 35 = .ok (.iload_n 3, 1) := by decide +kernel
theorem dX1_spareOf_36 : decode cX1_spareOf 36 = .ok (.iand, 1) := by decide +kernel
theorem dX1_spareOf_37 : decode cX1_spareOf 37 = .ok (.iload 5, 2) := by decide +kernel
theorem dX1_spareOf_39 : decode cX1_spareOf 39 = .ok (.if_icmp .ne 7, 3) := by decide +kernel
theorem dX1_spareOf_42 : decode cX1_spareOf 42 = .ok (.iconst 1, 1) := by decide +kernel
theorem dX1_spareOf_43 : decode cX1_spareOf 43 = .ok (.goto 4, 3) := by decide +kernel
theorem dX1_spareOf_46 : decode cX1_spareOf 46 = .ok (.iconst 0, 1) := by decide +kernel
theorem dX1_spareOf_47 : decode cX1_spareOf 47 = .ok (.istore 6, 2) := by decide +kernel
theorem dX1_spareOf_49 : decode cX1_spareOf 49 = .ok (.iload 6, 2) := by decide +kernel
theorem dX1_spareOf_51 : decode cX1_spareOf 51 = .ok (.ifCond .eq 21, 3) := by decide +kernel
theorem dX1_spareOf_54 : decode cX1_spareOf 54 = .ok (.aload_n 0, 1) := by decide +kernel
theorem dX1_spareOf_55 : decode cX1_spareOf 55 = .ok (.aload_n 1, 1) := by decide +kernel
theorem dX1_spareOf_56 : decode cX1_spareOf 56 = .ok (.iload 5, 2) := by decide +kernel
theorem dX1_spareOf_58 : decode cX1_spareOf 58 = .ok (.iload_n 2, 1) := by decide +kernel
theorem dX1_spareOf_59 : decode cX1_spareOf 59 = .ok (.invokevirtual 68, 3) := by decide +kernel
theorem dX1_spareOf_62 : decode cX1_spareOf 62 = .ok (.aload_n 1, 1) := by decide +kernel
theorem dX1_spareOf_63 : decode cX1_spareOf 63 = .ok (.getfield 52, 3) := by decide +kernel
theorem dX1_spareOf_66 : decode cX1_spareOf 66 = .ok (.if_icmp .le 6, 3) := by decide +kernel
theorem dX1_spareOf_69 : decode cX1_spareOf 69 = .ok (.iload 5, 2) := by decide +kernel
theorem dX1_spareOf_71 : decode cX1_spareOf 71 = .ok (.ireturn, 1) := by decide +kernel
theorem dX1_spareOf_72 : decode cX1_spareOf 72 = .ok (.iinc 5 1, 3) := by decide +kernel
theorem dX1_spareOf_75 : decode cX1_spareOf 75 = .ok (.goto (-58), 3) := by decide +kernel
theorem dX1_spareOf_78 : decode cX1_spareOf 78 = .ok (.iinc 4 1, 3) := by decide +kernel
theorem dX1_spareOf_81 : decode cX1_spareOf 81 = .ok (.goto (-73), 3) := by decide +kernel
theorem dX1_spareOf_84 : decode cX1_spareOf 84 = .ok (.bipush (-5), 2) := by decide +kernel
theorem dX1_spareOf_86 : decode cX1_spareOf 86 = .ok (.ireturn, 1) := by decide +kernel
set_option maxRecDepth 20000 in
theorem ggX1_dropsByThese_X2_become : GoodIn wsX1_dropsByThese wsX2_become := goodIn_r _ [7, 8, 9, 10, 11, 12, 13, 14, 15, 16, 17, 18, 19, 20, 21, 22, 23, 107, 108, 109, 110, 111, 112, 113, 114, 115, 116, 117, 118, 119, 120] rfl (by decide +kernel)
set_option maxRecDepth 20000 in
theorem gX1_dropsByThese_X2_become : GoodIn wsX1_dropsByThese (wsV RX1 18 RX2 yX2_become wsX2_become) := goodIn_app (goodIn_of _ (by decide +kernel)) ggX1_dropsByThese_X2_become
set_option maxRecDepth 20000 in
theorem ggX1_dropsByThese_X2_letGoAllBut : GoodIn wsX1_dropsByThese wsX2_letGoAllBut := goodIn_r _ [27, 17, 28, 29, 30, 6, 31, 32, 33, 34, 35, 19, 20, 107, 108, 109, 110, 111, 112, 113, 114, 115, 116, 117, 118, 119, 120] rfl (by decide +kernel)
set_option maxRecDepth 20000 in
theorem gX1_dropsByThese_X2_letGoAllBut : GoodIn wsX1_dropsByThese (wsV RX1 72 RX2 yX2_letGoAllBut wsX2_letGoAllBut) := goodIn_app (goodIn_of _ (by decide +kernel)) ggX1_dropsByThese_X2_letGoAllBut
set_option maxRecDepth 20000 in
theorem ggX1_dropsByThese_X2_goOn : GoodIn wsX1_dropsByThese wsX2_goOn := goodIn_r _ [39, 40, 41, 42, 6, 43, 8, 44, 15, 45, 46, 47, 48, 49, 50, 51, 17, 22, 52, 53, 54, 55, 23, 14, 9, 16, 56, 57, 58, 59, 60, 61, 62, 63, 19, 20, 64, 65, 66, 67, 68, 69, 70, 71, 72, 73, 74, 75, 76, 77, 78, 79, 80, 81, 82, 83, 84, 85, 86, 87, 88, 89, 90, 91, 92, 93, 94, 95, 96, 18, 97, 98, 99, 100, 21, 101, 102, 103, 104, 105, 28, 29, 30, 31, 32, 33, 34, 35, 107, 108, 109, 110, 111, 112, 113, 114, 115, 116, 117, 118, 119, 120, 121, 122, 123, 124, 125] rfl (by decide +kernel)
set_option maxRecDepth 20000 in
theorem gX1_dropsByThese_X2_goOn : GoodIn wsX1_dropsByThese (wsV RX1 22 RX2 yX2_goOn wsX2_goOn) := goodIn_app (goodIn_of _ (by decide +kernel)) ggX1_dropsByThese_X2_goOn
theorem dX1_dropsByThese_0 : decode cX1_dropsByThese 0 = .ok (.aload_n 0, 1) := by decide +kernel
theorem dX1_dropsByThese_1 : decode cX1_dropsByThese 1 = .ok (.getfield 12, 3) := by decide +kernel
theorem dX1_dropsByThese_4 : decode cX1_dropsByThese 4 = .ok (.aload_n 1, 1) := by decide +kernel
theorem dX1_dropsByThese_5 : decode cX1_dropsByThese 5 = .ok (.invokevirtual 18, 3) := by decide +kernel
theorem dX1_dropsByThese_8 : decode cX1_dropsByThese 8 = .ok (.aload_n 0, 1) := by decide +kernel
theorem dX1_dropsByThese_9 : decode cX1_dropsByThese 9 = .ok (.getfield 12, 3) := by decide +kernel
theorem dX1_dropsByThese_12 : decode cX1_dropsByThese 12 = .ok (.iload_n 2, 1) := by decide +kernel
theorem dX1_dropsByThese_13 : decode cX1_dropsByThese 13 = .ok (.invokevirtual 72, 3) := by decide +kernel
theorem dX1_dropsByThese_16 : decode cX1_dropsByThese 16 = .ok (.aload_n 0, 1) := by decide +kernel
theorem dX1_dropsByThese_17 : decode cX1_dropsByThese 17 = .ok (.getfield 12, 3) := by decide +kernel
theorem dX1_dropsByThese_20 : decode cX1_dropsByThese 20 = .ok (.iload_n 3, 1) := by decide +kernel
theorem dX1_dropsByThese_21 : decode cX1_dropsByThese 21 = .ok (.invokevirtual 22, 3) := by decide +kernel
theorem dX1_dropsByThese_24 : decode cX1_dropsByThese 24 = .ok (.aload_n 0, 1) := by decide +kernel
theorem dX1_dropsByThese_25 : decode cX1_dropsByThese 25 = .ok (.getfield 12, 3) := by decide +kernel
theorem dX1_dropsByThese_28 : decode cX1_dropsByThese 28 = .ok (.getfield 52, 3) := by decide +kernel
theorem dX1_dropsByThese_31 : decode cX1_dropsByThese 31 = .ok (.ireturn, 1) := by decide +kernel
set_option maxRecDepth 20000 in
theorem ggX1_isTrialAsSeen_X5_lastSeenStep : GoodIn wsX1_isTrialAsSeen wsX5_lastSeenStep := goodIn_r _ [6, 7, 8, 9, 10, 11, 12, 105, 106, 107, 108, 109, 110, 111, 112, 113, 114] rfl (by decide +kernel)
set_option maxRecDepth 20000 in
theorem gX1_isTrialAsSeen_X5_lastSeenStep : GoodIn wsX1_isTrialAsSeen (wsV RX1 75 RX5 yX5_lastSeenStep wsX5_lastSeenStep) := goodIn_app (goodIn_of _ (by decide +kernel)) ggX1_isTrialAsSeen_X5_lastSeenStep
set_option maxRecDepth 20000 in
theorem ggX1_isTrialAsSeen_X2_goOne : GoodIn wsX1_isTrialAsSeen wsX2_goOne := goodIn_r _ [17, 18, 19, 20, 21, 22, 11, 23, 24, 10, 12, 25, 26, 27, 28, 29, 16, 30, 31, 32, 33, 34, 35, 36, 37, 38, 39, 40, 41, 42, 43, 44, 45, 46, 47, 48, 49, 50, 51, 52, 53, 54, 55, 56, 57, 58, 59, 60, 61, 62, 63, 64, 65, 66, 67, 68, 69, 70, 71, 72, 73, 74, 75, 76, 77, 78, 79, 80, 81, 82, 83, 84, 85, 86, 87, 88, 89, 90, 91, 92, 93, 94, 95, 96, 115, 116, 117, 118, 119, 120, 121, 122, 123, 124, 125, 126, 127, 128, 129, 130, 131, 132, 133] rfl (by decide +kernel)
set_option maxRecDepth 20000 in
theorem gX1_isTrialAsSeen_X2_goOne : GoodIn wsX1_isTrialAsSeen (wsV RX1 34 RX2 yX2_goOne wsX2_goOne) := goodIn_app (goodIn_of _ (by decide +kernel)) ggX1_isTrialAsSeen_X2_goOne
set_option maxRecDepth 20000 in
theorem ggX1_isTrialAsSeen_X5_isSeenSo : GoodIn wsX1_isTrialAsSeen wsX5_isSeenSo := goodIn_r _ [100, 7, 8, 101, 102, 103, 64, 65, 16, 66, 67, 68, 69, 70, 43, 71, 72, 73, 74, 20, 44, 75, 76, 11, 77, 78, 105, 106, 107, 108, 109, 110, 111, 112, 113, 114, 115, 116, 117, 118, 119, 120, 121, 122, 123, 124, 125, 126, 127, 128] rfl (by decide +kernel)
set_option maxRecDepth 20000 in
theorem gX1_isTrialAsSeen_X5_isSeenSo : GoodIn wsX1_isTrialAsSeen (wsV RX1 80 RX5 yX5_isSeenSo wsX5_isSeenSo) := goodIn_app (goodIn_of _ (by decide +kernel)) ggX1_isTrialAsSeen_X5_isSeenSo
theorem dX1_isTrialAsSeen_0 : decode cX1_isTrialAsSeen 0 = .ok (.aload_n 1, 1) := by decide +kernel
theorem dX1_isTrialAsSeen_1 : decode cX1_isTrialAsSeen 1 = .ok (.invokevirtual 75, 3) := by decide +kernel
theorem dX1_isTrialAsSeen_4 : decode cX1_isTrialAsSeen 4 = .ok (.istore_n 2, 1) := by decide +kernel
theorem dX1_isTrialAsSeen_5 : decode cX1_isTrialAsSeen 5 = .ok (.iconst 0, 1) := by decide +kernel
theorem dX1_isTrialAsSeen_6 : decode cX1_isTrialAsSeen 6 = .ok (.istore_n 3, 1) := by decide +kernel
theorem dX1_isTrialAsSeen_7 : decode cX1_isTrialAsSeen 7 = .ok (.iload_n 3, 1) := by decide +kernel
theorem dX1_isTrialAsSeen_8 : decode cX1_isTrialAsSeen 8 = .ok (.iload_n 2, 1) := by decide +kernel
theorem dX1_isTrialAsSeen_9 : decode cX1_isTrialAsSeen 9 = .ok (.if_icmp .gt 34, 3) := by decide +kernel
theorem dX1_isTrialAsSeen_12 : decode cX1_isTrialAsSeen 12 = .ok (.iload_n 3, 1) := by decide +kernel
theorem dX1_isTrialAsSeen_13 : decode cX1_isTrialAsSeen 13 = .ok (.ifCond .le 10, 3) := by decide +kernel
theorem dX1_isTrialAsSeen_16 : decode cX1_isTrialAsSeen 16 = .ok (.aload_n 0, 1) := by decide +kernel
theorem dX1_isTrialAsSeen_17 : decode cX1_isTrialAsSeen 17 = .ok (.getfield 12, 3) := by decide +kernel
theorem dX1_isTrialAsSeen_20 : decode cX1_isTrialAsSeen 20 = .ok (.invokevirtual 34, 3) := by decide +kernel
theorem dX1_isTrialAsSeen_23 : decode cX1_isTrialAsSeen 23 = .ok (.aload_n 1, 1) := by decide +kernel
theorem dX1_isTrialAsSeen_24 : decode cX1_isTrialAsSeen 24 = .ok (.aload_n 0, 1) := by decide +kernel
theorem dX1_isTrialAsSeen_25 : decode cX1_isTrialAsSeen 25 = .ok (.getfield 12, 3) := by decide +kernel
theorem dX1_isTrialAsSeen_28 : decode cX1_isTrialAsSeen 28 = .ok (.iload_n 3, 1) := by decide +kernel
theorem dX1_isTrialAsSeen_29 : decode cX1_isTrialAsSeen 29 = .ok (.invokevirtual 80, 3) := by decide +kernel
theorem dX1_isTrialAsSeen_32 : decode cX1_isTrialAsSeen 32 = .ok (.ifCond .ne 5, 3) := by decide +kernel
theorem dX1_isTrialAsSeen_35 : decode cX1_isTrialAsSeen 35 = .ok (.iconst 0, 1) := by decide +kernel
theorem dX1_isTrialAsSeen_36 : decode cX1_isTrialAsSeen 36 = .ok (.ireturn, 1) := by decide +kernel
theorem dX1_isTrialAsSeen_37 : decode cX1_isTrialAsSeen 37 = .ok (.iinc 3 1, 3) := by decide +kernel
theorem dX1_isTrialAsSeen_40 : decode cX1_isTrialAsSeen 40 = .ok (.goto (-33), 3) := by decide +kernel
theorem dX1_isTrialAsSeen_43 : decode cX1_isTrialAsSeen 43 = .ok (.iconst 1, 1) := by decide +kernel
theorem dX1_isTrialAsSeen_44 : decode cX1_isTrialAsSeen 44 = .ok (.ireturn, 1) := by decide +kernel
set_option maxRecDepth 20000 in
theorem ggX1_lengthsOf_X2_become : GoodIn wsX1_lengthsOf wsX2_become := goodIn_r _ [7, 8, 9, 10, 11, 12, 13, 14, 15, 16, 17, 18, 19, 20, 21, 22, 23, 119, 120, 121, 122, 123, 124, 125, 126, 127, 128, 129, 130, 131, 132] rfl (by decide +kernel)
set_option maxRecDepth 20000 in
theorem gX1_lengthsOf_X2_become : GoodIn wsX1_lengthsOf (wsV RX1 18 RX2 yX2_become wsX2_become) := goodIn_app (goodIn_of _ (by decide +kernel)) ggX1_lengthsOf_X2_become
set_option maxRecDepth 20000 in
theorem ggX1_lengthsOf_X1_isTrialAsSeen : GoodIn wsX1_lengthsOf wsX1_isTrialAsSeen := goodIn_r _ [28, 1, 29, 30, 31, 32, 33, 34, 35, 36, 37, 38, 39, 40, 41, 42, 6, 43, 8, 44, 15, 45, 46, 47, 48, 17, 22, 49, 50, 51, 52, 23, 14, 9, 16, 53, 54, 55, 56, 57, 58, 59, 60, 19, 20, 61, 62, 63, 64, 65, 66, 67, 68, 69, 70, 71, 72, 73, 74, 75, 76, 77, 78, 79, 80, 81, 82, 83, 84, 85, 86, 87, 88, 89, 90, 91, 92, 93, 18, 94, 95, 96, 97, 21, 98, 99, 100, 101, 102, 103, 104, 105, 106, 107, 108, 109, 110, 111, 112, 113, 114, 115, 116, 117, 118, 133, 134, 135, 136, 137, 138, 139, 140, 141, 142, 119, 120, 121, 122, 123, 124, 125, 126, 127, 128, 129, 130, 131, 132, 143, 144, 145, 146, 147] rfl (by decide +kernel)
set_option maxRecDepth 20000 in
theorem gX1_lengthsOf_X1_isTrialAsSeen : GoodIn wsX1_lengthsOf (wsV RX1 87 RX1 yX1_isTrialAsSeen wsX1_isTrialAsSeen) := goodIn_app (goodIn_of _ (by decide +kernel)) ggX1_lengthsOf_X1_isTrialAsSeen
theorem dX1_lengthsOf_0 : decode cX1_lengthsOf 0 = .ok (.iconst 0, 1) := by decide +kernel
theorem dX1_lengthsOf_1 : decode cX1_lengthsOf 1 = .ok (.istore 5, 2) := by decide +kernel
theorem dX1_lengthsOf_3 : decode cX1_lengthsOf 3 = .ok (.iconst 1, 1) := by decide +kernel
theorem dX1_lengthsOf_4 : decode cX1_lengthsOf 4 = .ok (.istore 6, 2) := by decide +kernel
theorem dX1_lengthsOf_6 : decode cX1_lengthsOf 6 = .ok (.iload 6, 2) := by decide +kernel
theorem dX1_lengthsOf_8 : decode cX1_lengthsOf 8 = .ok (.bipush 40, 2) := by decide +kernel
theorem dX1_lengthsOf_10 : decode cX1_lengthsOf 10 = .ok (.if_icmp .gt 47, 3) := by decide +kernel
theorem dX1_lengthsOf_13 : decode cX1_lengthsOf 13 = .ok (.aload_n 0, 1) := by decide +kernel
theorem dX1_lengthsOf_14 : decode cX1_lengthsOf 14 = .ok (.getfield 12, 3) := by decide +kernel
theorem dX1_lengthsOf_17 : decode cX1_lengthsOf 17 = .ok (.aload_n 1, 1) := by decide +kernel
theorem dX1_lengthsOf_18 : decode cX1_lengthsOf 18 = .ok (.invokevirtual 18, 3) := by decide +kernel
theorem dX1_lengthsOf_21 : decode cX1_lengthsOf 21 = .ok (.aload_n 0, 1) := by decide +kernel
theorem dX1_lengthsOf_22 : decode cX1_lengthsOf 22 = .ok (.getfield 12, 3) := by decide +kernel
theorem dX1_lengthsOf_25 : decode cX1_lengthsOf 25 = .ok (.getfield 84, 3) := by decide +kernel
theorem dX1_lengthsOf_28 : decode cX1_lengthsOf 28 = .ok (.iload_n 3, 1) := by decide +kernel
theorem dX1_lengthsOf_29 : decode cX1_lengthsOf 29 = .ok (.iload 6, 2) := by decide +kernel
theorem dX1_lengthsOf_31 : decode cX1_lengthsOf 31 = .ok (.iastore, 1) := by decide +kernel
theorem dX1_lengthsOf_32 : decode cX1_lengthsOf 32 = .ok (.aload_n 0, 1) := by decide +kernel
theorem dX1_lengthsOf_33 : decode cX1_lengthsOf 33 = .ok (.aload_n 2, 1) := by decide +kernel
theorem dX1_lengthsOf_34 : decode cX1_lengthsOf 34 = .ok (.invokevirtual 87, 3) := by decide +kernel
theorem dX1_lengthsOf_37 : decode cX1_lengthsOf 37 = .ok (.ifCond .eq 14, 3) := by decide +kernel
theorem dX1_lengthsOf_40 : decode cX1_lengthsOf 40 = .ok (.iload 4, 2) := by decide +kernel
theorem dX1_lengthsOf_42 : decode cX1_lengthsOf 42 = .ok (.ifCond .eq 6, 3) := by decide +kernel
theorem dX1_lengthsOf_45 : decode cX1_lengthsOf 45 = .ok (.iload 6, 2) := by decide +kernel
theorem dX1_lengthsOf_47 : decode cX1_lengthsOf 47 = .ok (.ireturn, 1) := by decide +kernel
theorem dX1_lengthsOf_48 : decode cX1_lengthsOf 48 = .ok (.iinc 5 1, 3) := by decide +kernel
theorem dX1_lengthsOf_51 : decode cX1_lengthsOf 51 = .ok (.iinc 6 1, 3) := by decide +kernel
theorem dX1_lengthsOf_54 : decode cX1_lengthsOf 54 = .ok (.goto (-48), 3) := by decide +kernel
theorem dX1_lengthsOf_57 : decode cX1_lengthsOf 57 = .ok (.iload 4, 2) := by decide +kernel
theorem dX1_lengthsOf_59 : decode cX1_lengthsOf 59 = .ok (.ifCond .eq 8, 3) := by decide +kernel
theorem dX1_lengthsOf_62 : decode cX1_lengthsOf 62 = .ok (.bipush (-5), 2) := by decide +kernel
theorem dX1_lengthsOf_64 : decode cX1_lengthsOf 64 = .ok (.goto 5, 3) := by decide +kernel
theorem dX1_lengthsOf_67 : decode cX1_lengthsOf 67 = .ok (.iload 5, 2) := by decide +kernel
theorem dX1_lengthsOf_69 : decode cX1_lengthsOf 69 = .ok (.ireturn, 1) := by decide +kernel
set_option maxRecDepth 20000 in
theorem ggX1_numbersOf_X2_become : GoodIn wsX1_numbersOf wsX2_become := goodIn_r _ [7, 8, 9, 10, 11, 12, 13, 14, 15, 16, 17, 18, 19, 20, 21, 22, 23, 119, 120, 121, 122, 123, 124, 125, 126, 127, 128, 129, 130, 131, 132] rfl (by decide +kernel)
set_option maxRecDepth 20000 in
theorem gX1_numbersOf_X2_become : GoodIn wsX1_numbersOf (wsV RX1 18 RX2 yX2_become wsX2_become) := goodIn_app (goodIn_of _ (by decide +kernel)) ggX1_numbersOf_X2_become
set_option maxRecDepth 20000 in
theorem ggX1_numbersOf_X1_isTrialAsSeen : GoodIn wsX1_numbersOf wsX1_isTrialAsSeen := goodIn_r _ [28, 1, 29, 30, 31, 32, 33, 34, 35, 36, 37, 38, 39, 40, 41, 42, 6, 43, 8, 44, 15, 45, 46, 47, 48, 17, 22, 49, 50, 51, 52, 23, 14, 9, 16, 53, 54, 55, 56, 57, 58, 59, 60, 19, 20, 61, 62, 63, 64, 65, 66, 67, 68, 69, 70, 71, 72, 73, 74, 75, 76, 77, 78, 79, 80, 81, 82, 83, 84, 85, 86, 87, 88, 89, 90, 91, 92, 93, 18, 94, 95, 96, 97, 21, 98, 99, 100, 101, 102, 103, 104, 105, 106, 107, 108, 109, 110, 111, 112, 113, 114, 115, 116, 117, 118, 133, 134, 135, 136, 137, 138, 139, 140, 141, 142, 119, 120, 121, 122, 123, 124, 125, 126, 127, 128, 129, 130, 131, 132, 143, 144, 145, 146, 147] rfl (by decide +kernel)
set_option maxRecDepth 20000 in
theorem gX1_numbersOf_X1_isTrialAsSeen : GoodIn wsX1_numbersOf (wsV RX1 87 RX1 yX1_isTrialAsSeen wsX1_isTrialAsSeen) := goodIn_app (goodIn_of _ (by decide +kernel)) ggX1_numbersOf_X1_isTrialAsSeen
theorem dX1_numbersOf_0 : decode cX1_numbersOf 0 = .ok (.iconst 0, 1) := by decide +kernel
theorem dX1_numbersOf_1 : decode cX1_numbersOf 1 = .ok (.istore 5, 2) := by decide +kernel
theorem dX1_numbersOf_3 : decode cX1_numbersOf 3 = .ok (.iconst 0, 1) := by decide +kernel
theorem dX1_numbersOf_4 : decode cX1_numbersOf 4 = .ok (.istore 6, 2) := by decide +kernel
theorem dX1_numbersOf_6 : decode cX1_numbersOf 6 = .ok (.iload 6, 2) := by decide +kernel
theorem dX1_numbersOf_8 : decode cX1_numbersOf 8 = .ok (.bipush 9, 2) := by decide +kernel
theorem dX1_numbersOf_10 : decode cX1_numbersOf 10 = .ok (.if_icmp .gt 47, 3) := by decide +kernel
theorem dX1_numbersOf_13 : decode cX1_numbersOf 13 = .ok (.aload_n 0, 1) := by decide +kernel
theorem dX1_numbersOf_14 : decode cX1_numbersOf 14 = .ok (.getfield 12, 3) := by decide +kernel
theorem dX1_numbersOf_17 : decode cX1_numbersOf 17 = .ok (.aload_n 1, 1) := by decide +kernel
theorem dX1_numbersOf_18 : decode cX1_numbersOf 18 = .ok (.invokevirtual 18, 3) := by decide +kernel
theorem dX1_numbersOf_21 : decode cX1_numbersOf 21 = .ok (.aload_n 0, 1) := by decide +kernel
theorem dX1_numbersOf_22 : decode cX1_numbersOf 22 = .ok (.getfield 12, 3) := by decide +kernel
theorem dX1_numbersOf_25 : decode cX1_numbersOf 25 = .ok (.getfield 91, 3) := by decide +kernel
theorem dX1_numbersOf_28 : decode cX1_numbersOf 28 = .ok (.iload_n 3, 1) := by decide +kernel
theorem dX1_numbersOf_29 : decode cX1_numbersOf 29 = .ok (.iload 6, 2) := by decide +kernel
theorem dX1_numbersOf_31 : decode cX1_numbersOf 31 = .ok (.iastore, 1) := by decide +kernel
theorem dX1_numbersOf_32 : decode cX1_numbersOf 32 = .ok (.aload_n 0, 1) := by decide +kernel
theorem dX1_numbersOf_33 : decode cX1_numbersOf 33 = .ok (.aload_n 2, 1) := by decide +kernel
theorem dX1_numbersOf_34 : decode cX1_numbersOf 34 = .ok (.invokevirtual 87, 3) := by decide +kernel
theorem dX1_numbersOf_37 : decode cX1_numbersOf 37 = .ok (.ifCond .eq 14, 3) := by decide +kernel
theorem dX1_numbersOf_40 : decode cX1_numbersOf 40 = .ok (.iload 4, 2) := by decide +kernel
theorem dX1_numbersOf_42 : decode cX1_numbersOf 42 = .ok (.ifCond .eq 6, 3) := by decide +kernel
theorem dX1_numbersOf_45 : decode cX1_numbersOf 45 = .ok (.iload 6, 2) := by decide +kernel
theorem dX1_numbersOf_47 : decode cX1_numbersOf 47 = .ok (.ireturn, 1) := by decide +kernel
theorem dX1_numbersOf_48 : decode cX1_numbersOf 48 = .ok (.iinc 5 1, 3) := by decide +kernel
theorem dX1_numbersOf_51 : decode cX1_numbersOf 51 = .ok (.iinc 6 1, 3) := by decide +kernel
theorem dX1_numbersOf_54 : decode cX1_numbersOf 54 = .ok (.goto (-48), 3) := by decide +kernel
theorem dX1_numbersOf_57 : decode cX1_numbersOf 57 = .ok (.iload 4, 2) := by decide +kernel
theorem dX1_numbersOf_59 : decode cX1_numbersOf 59 = .ok (.ifCond .eq 8, 3) := by decide +kernel
theorem dX1_numbersOf_62 : decode cX1_numbersOf 62 = .ok (.bipush (-5), 2) := by decide +kernel
theorem dX1_numbersOf_64 : decode cX1_numbersOf 64 = .ok (.goto 5, 3) := by decide +kernel
theorem dX1_numbersOf_67 : decode cX1_numbersOf 67 = .ok (.iload 5, 2) := by decide +kernel
theorem dX1_numbersOf_69 : decode cX1_numbersOf 69 = .ok (.ireturn, 1) := by decide +kernel
set_option maxRecDepth 20000 in
theorem ggX1_pairsThatHold_X2_become : GoodIn wsX1_pairsThatHold wsX2_become := goodIn_r _ [7, 8, 9, 10, 11, 12, 13, 14, 15, 16, 17, 18, 19, 20, 21, 22, 23, 104, 105, 106, 107, 108, 109, 110, 111, 112, 113, 114, 115, 116, 117] rfl (by decide +kernel)
set_option maxRecDepth 20000 in
theorem gX1_pairsThatHold_X2_become : GoodIn wsX1_pairsThatHold (wsV RX1 18 RX2 yX2_become wsX2_become) := goodIn_app (goodIn_of _ (by decide +kernel)) ggX1_pairsThatHold_X2_become
set_option maxRecDepth 20000 in
theorem ggX1_pairsThatHold_X2_give : GoodIn wsX1_pairsThatHold wsX2_give := goodIn_r _ [27, 19, 20, 104, 105, 106, 107, 108, 109, 110, 111, 112, 113, 114, 115, 116, 117] rfl (by decide +kernel)
set_option maxRecDepth 20000 in
theorem gX1_pairsThatHold_X2_give : GoodIn wsX1_pairsThatHold (wsV RX1 94 RX2 yX2_give wsX2_give) := goodIn_app (goodIn_of _ (by decide +kernel)) ggX1_pairsThatHold_X2_give
set_option maxRecDepth 20000 in
theorem ggX1_pairsThatHold_X2_goOn : GoodIn wsX1_pairsThatHold wsX2_goOn := goodIn_r _ [31, 32, 33, 34, 6, 35, 8, 36, 15, 37, 38, 39, 40, 41, 42, 43, 17, 22, 44, 45, 46, 47, 23, 14, 9, 16, 48, 49, 50, 51, 52, 53, 54, 55, 19, 20, 56, 57, 58, 59, 60, 61, 62, 63, 64, 65, 66, 67, 68, 69, 70, 71, 72, 73, 74, 75, 76, 77, 78, 79, 80, 81, 82, 83, 84, 85, 86, 87, 88, 18, 89, 90, 91, 92, 21, 93, 94, 95, 96, 97, 98, 99, 100, 101, 102, 25, 26, 27, 104, 105, 106, 107, 108, 109, 110, 111, 112, 113, 114, 115, 116, 117, 119, 120, 121, 122, 123] rfl (by decide +kernel)
set_option maxRecDepth 20000 in
theorem gX1_pairsThatHold_X2_goOn : GoodIn wsX1_pairsThatHold (wsV RX1 22 RX2 yX2_goOn wsX2_goOn) := goodIn_app (goodIn_of _ (by decide +kernel)) ggX1_pairsThatHold_X2_goOn
set_option maxRecDepth 20000 in
theorem ggX1_pairsThatHold_X2_isHeld : GoodIn wsX1_pairsThatHold wsX2_isHeld := goodIn_r _ [81, 19, 104, 105, 106, 107, 108, 109, 110, 111, 112, 113, 114, 115, 116, 117] rfl (by decide +kernel)
set_option maxRecDepth 20000 in
theorem gX1_pairsThatHold_X2_isHeld : GoodIn wsX1_pairsThatHold (wsV RX1 26 RX2 yX2_isHeld wsX2_isHeld) := goodIn_app (goodIn_of _ (by decide +kernel)) ggX1_pairsThatHold_X2_isHeld
theorem dX1_pairsThatHold_0 : decode cX1_pairsThatHold 0 = .ok (.iconst 0, 1) := by decide +kernel
theorem dX1_pairsThatHold_1 : decode cX1_pairsThatHold 1 = .ok (.istore 4, 2) := by decide +kernel
theorem dX1_pairsThatHold_3 : decode cX1_pairsThatHold 3 = .ok (.iconst 0, 1) := by decide +kernel
theorem dX1_pairsThatHold_4 : decode cX1_pairsThatHold 4 = .ok (.istore 5, 2) := by decide +kernel
theorem dX1_pairsThatHold_6 : decode cX1_pairsThatHold 6 = .ok (.iload 5, 2) := by decide +kernel
theorem dX1_pairsThatHold_8 : decode cX1_pairsThatHold 8 = .ok (.aload_n 1, 1) := by decide +kernel
theorem dX1_pairsThatHold_9 : decode cX1_pairsThatHold 9 = .ok (.getfield 41, 3) := by decide +kernel
theorem dX1_pairsThatHold_12 : decode cX1_pairsThatHold 12 = .ok (.if_icmp .ge 72, 3) := by decide +kernel
theorem dX1_pairsThatHold_15 : decode cX1_pairsThatHold 15 = .ok (.iload 5, 2) := by decide +kernel
theorem dX1_pairsThatHold_17 : decode cX1_pairsThatHold 17 = .ok (.iconst 1, 1) := by decide +kernel
theorem dX1_pairsThatHold_18 : decode cX1_pairsThatHold 18 = .ok (.iadd, 1) := by decide +kernel
theorem dX1_pairsThatHold_19 : decode cX1_pairsThatHold 19 = .ok (.istore 6, 2) := by decide +kernel
theorem dX1_pairsThatHold_21 : decode cX1_pairsThatHold 21 = .ok (.iload 6, 2) := by decide +kernel
theorem dX1_pairsThatHold_23 : decode cX1_pairsThatHold 23 = .ok (.aload_n 1, 1) := by decide +kernel
theorem dX1_pairsThatHold_24 : decode cX1_pairsThatHold 24 = .ok (.getfield 41, 3) := by decide +kernel
theorem dX1_pairsThatHold_27 : decode cX1_pairsThatHold 27 = .ok (.if_icmp .ge 51, 3) := by decide +kernel
theorem dX1_pairsThatHold_30 : decode cX1_pairsThatHold 30 = .ok (.aload_n 0, 1) := by decide +kernel
theorem dX1_pairsThatHold_31 : decode cX1_pairsThatHold 31 = .ok (.getfield 12, 3) := by decide +kernel
theorem dX1_pairsThatHold_34 : decode cX1_pairsThatHold 34 = .ok (.aload_n 1, 1) := by decide +kernel
theorem dX1_pairsThatHold_35 : decode cX1_pairsThatHold 35 = .ok (.invokevirtual 18, 3) := by decide +kernel
theorem dX1_pairsThatHold_38 : decode cX1_pairsThatHold 38 = .ok (.aload_n 0, 1) := by decide +kernel
theorem dX1_pairsThatHold_39 : decode cX1_pairsThatHold 39 = .ok (.getfield 12, 3) := by decide +kernel
theorem dX1_pairsThatHold_42 : decode cX1_pairsThatHold 42 = .ok (.iload_n 2, 1) := by decide +kernel
theorem dX1_pairsThatHold_43 : decode cX1_pairsThatHold 43 = .ok (.iload 5, 2) := by decide +kernel
theorem dX1_pairsThatHold_45 : decode cX1_pairsThatHold 45 = .ok (.iload 6, 2) := by decide +kernel
theorem dX1_pairsThatHold_47 : decode cX1_pairsThatHold 47 = .ok (.invokevirtual 94, 3) := by decide +kernel
theorem dX1_pairsThatHold_50 : decode cX1_pairsThatHold 50 = .ok (.aload_n 0, 1) := by decide +kernel
theorem dX1_pairsThatHold_51 : decode cX1_pairsThatHold 51 = .ok (.getfield 12, 3) := by decide +kernel
theorem dX1_pairsThatHold_54 : decode cX1_pairsThatHold 54 = .ok (.iload_n 3, 1) := by decide +kernel
theorem dX1_pairsThatHold_55 : decode cX1_pairsThatHold 55 = .ok (.invokevirtual 22, 3) := by decide +kernel
theorem dX1_pairsThatHold_58 : decode cX1_pairsThatHold 58 = .ok (.aload_n 0, 1) := by decide +kernel
theorem dX1_pairsThatHold_59 : decode cX1_pairsThatHold 59 = .ok (.getfield 12, 3) := by decide +kernel
theorem dX1_pairsThatHold_62 : decode cX1_pairsThatHold 62 = .ok (.iload_n 2, 1) := by decide +kernel
theorem dX1_pairsThatHold_63 : decode cX1_pairsThatHold 63 = .ok (.invokevirtual 26, 3) := by decide +kernel
theorem dX1_pairsThatHold_66 : decode cX1_pairsThatHold 66 = .ok (.ifCond .eq 6, 3) := by decide +kernel
theorem dX1_pairsThatHold_69 : decode cX1_pairsThatHold 69 = .ok (.iinc 4 1, 3) := by decide +kernel
theorem dX1_pairsThatHold_72 : decode cX1_pairsThatHold 72 = .ok (.iinc 6 1, 3) := by decide +kernel
theorem dX1_pairsThatHold_75 : decode cX1_pairsThatHold 75 = .ok (.goto (-54), 3) := by decide +kernel
theorem dX1_pairsThatHold_78 : decode cX1_pairsThatHold 78 = .ok (.iinc 5 1, 3) := by decide +kernel
theorem dX1_pairsThatHold_81 : decode cX1_pairsThatHold 81 = .ok (.goto (-75), 3) := by decide +kernel
theorem dX1_pairsThatHold_84 : decode cX1_pairsThatHold 84 = .ok (.iload 4, 2) := by decide +kernel
theorem dX1_pairsThatHold_86 : decode cX1_pairsThatHold 86 = .ok (.ireturn, 1) := by decide +kernel
set_option maxRecDepth 20000 in
theorem ggX1_endOf_X2_become : GoodIn wsX1_endOf wsX2_become := goodIn_r _ [11, 12, 13, 14, 15, 16, 17, 18, 19, 20, 21, 22, 23, 24, 25, 26, 27, 114, 115, 116, 117, 118, 119, 120, 121, 122, 123, 124, 125, 126, 127] rfl (by decide +kernel)
set_option maxRecDepth 20000 in
theorem gX1_endOf_X2_become : GoodIn wsX1_endOf (wsV RX1 18 RX2 yX2_become wsX2_become) := goodIn_app (goodIn_of _ (by decide +kernel)) ggX1_endOf_X2_become
set_option maxRecDepth 20000 in
theorem ggX1_endOf_X2_goOne : GoodIn wsX1_endOf wsX2_goOne := goodIn_r _ [31, 12, 32, 19, 33, 34, 35, 36, 37, 38, 39, 21, 26, 40, 41, 42, 10, 43, 27, 18, 13, 20, 44, 45, 46, 47, 48, 49, 50, 51, 23, 24, 52, 53, 54, 55, 56, 57, 58, 59, 60, 61, 62, 63, 64, 65, 66, 67, 68, 69, 70, 71, 72, 73, 74, 75, 76, 77, 78, 79, 80, 81, 82, 83, 84, 22, 85, 86, 87, 88, 25, 89, 90, 91, 92, 93, 94, 95, 96, 97, 98, 99, 100, 101, 114, 115, 116, 117, 118, 119, 120, 121, 122, 123, 124, 125, 126, 127, 128, 129, 130, 131, 132] rfl (by decide +kernel)
set_option maxRecDepth 20000 in
theorem gX1_endOf_X2_goOne : GoodIn wsX1_endOf (wsV RX1 34 RX2 yX2_goOne wsX2_goOne) := goodIn_app (goodIn_of _ (by decide +kernel)) ggX1_endOf_X2_goOne
set_option maxRecDepth 20000 in
theorem ggX1_endOf_X2_letGo : GoodIn wsX1_endOf wsX2_letGo := goodIn_r _ [97, 98, 99, 100, 10, 101, 23, 24, 114, 115, 116, 117, 118, 119, 120, 121, 122, 123, 124, 125, 126, 127] rfl (by decide +kernel)
set_option maxRecDepth 20000 in
theorem gX1_endOf_X2_letGo : GoodIn wsX1_endOf (wsV RX1 107 RX2 yX2_letGo wsX2_letGo) := goodIn_app (goodIn_of _ (by decide +kernel)) ggX1_endOf_X2_letGo
theorem dX1_endOf_0 : decode cX1_endOf 0 = .ok (.aload_n 0, 1) := by decide +kernel
theorem dX1_endOf_1 : decode cX1_endOf 1 = .ok (.getfield 12, 3) := by decide +kernel
theorem dX1_endOf_4 : decode cX1_endOf 4 = .ok (.aload_n 1, 1) := by decide +kernel
theorem dX1_endOf_5 : decode cX1_endOf 5 = .ok (.invokevirtual 18, 3) := by decide +kernel
theorem dX1_endOf_8 : decode cX1_endOf 8 = .ok (.iconst 0, 1) := by decide +kernel
theorem dX1_endOf_9 : decode cX1_endOf 9 = .ok (.istore_n 3, 1) := by decide +kernel
theorem dX1_endOf_10 : decode cX1_endOf 10 = .ok (.iload_n 3, 1) := by decide +kernel
theorem dX1_endOf_11 : decode cX1_endOf 11 = .ok (.aload_n 2, 1) := by decide +kernel
theorem dX1_endOf_12 : decode cX1_endOf 12 = .ok (.getfield 98, 3) := by decide +kernel
theorem dX1_endOf_15 : decode cX1_endOf 15 = .ok (.if_icmp .ge 99, 3) := by decide +kernel
theorem dX1_endOf_18 : decode cX1_endOf 18 = .ok (.aload_n 2, 1) := by decide +kernel
theorem dX1_endOf_19 : decode cX1_endOf 19 = .ok (.getfield 101, 3) := by decide +kernel
theorem dX1_endOf_22 : decode cX1_endOf 22 = .ok (.iload_n 3, 1) := by decide +kernel
theorem dX1_endOf_23 : decode cX1_endOf 23 = .ok (.iaload, 1) := by decide +kernel
theorem dX1_endOf_24 : decode cX1_endOf 24 = .ok (.istore 4, 2) := by decide +kernel
theorem dX1_endOf_26 : decode cX1_endOf 26 = .ok (.aload_n 2, 1) := by decide +kernel
theorem dX1_endOf_27 : decode cX1_endOf 27 = .ok (.getfield 104, 3) := by decide +kernel
theorem dX1_endOf_30 : decode cX1_endOf 30 = .ok (.iload_n 3, 1) := by decide +kernel
theorem dX1_endOf_31 : decode cX1_endOf 31 = .ok (.iaload, 1) := by decide +kernel
theorem dX1_endOf_32 : decode cX1_endOf 32 = .ok (.tableswitch 65 0 2 #[28, 38, 50], 28) := by decide +kernel
theorem dX1_endOf_60 : decode cX1_endOf 60 = .ok (.aload_n 0, 1) := by decide +kernel
theorem dX1_endOf_61 : decode cX1_endOf 61 = .ok (.getfield 12, 3) := by decide +kernel
theorem dX1_endOf_64 : decode cX1_endOf 64 = .ok (.invokevirtual 34, 3) := by decide +kernel
theorem dX1_endOf_67 : decode cX1_endOf 67 = .ok (.goto 41, 3) := by decide +kernel
theorem dX1_endOf_70 : decode cX1_endOf 70 = .ok (.aload_n 0, 1) := by decide +kernel
theorem dX1_endOf_71 : decode cX1_endOf 71 = .ok (.getfield 12, 3) := by decide +kernel
theorem dX1_endOf_74 : decode cX1_endOf 74 = .ok (.iload 4, 2) := by decide +kernel
theorem dX1_endOf_76 : decode cX1_endOf 76 = .ok (.invokevirtual 107, 3) := by decide +kernel
theorem dX1_endOf_79 : decode cX1_endOf 79 = .ok (.goto 29, 3) := by decide +kernel
theorem dX1_endOf_82 : decode cX1_endOf 82 = .ok (.aload_n 0, 1) := by decide +kernel
theorem dX1_endOf_83 : decode cX1_endOf 83 = .ok (.getfield 12, 3) := by decide +kernel
theorem dX1_endOf_86 : decode cX1_endOf 86 = .ok (.getfield 84, 3) := by decide +kernel
theorem dX1_endOf_89 : decode cX1_endOf 89 = .ok (.iload 4, 2) := by decide +kernel
theorem dX1_endOf_91 : decode cX1_endOf 91 = .ok (.bipush 40, 2) := by decide +kernel
theorem dX1_endOf_93 : decode cX1_endOf 93 = .ok (.iastore, 1) := by decide +kernel
theorem dX1_endOf_94 : decode cX1_endOf 94 = .ok (.goto 14, 3) := by decide +kernel
theorem dX1_endOf_97 : decode cX1_endOf 97 = .ok (.aload_n 0, 1) := by decide +kernel
theorem dX1_endOf_98 : decode cX1_endOf 98 = .ok (.getfield 12, 3) := by decide +kernel
theorem dX1_endOf_101 : decode cX1_endOf 101 = .ok (.getfield 37, 3) := by decide +kernel
theorem dX1_endOf_104 : decode cX1_endOf 104 = .ok (.iload 4, 2) := by decide +kernel
theorem dX1_endOf_106 : decode cX1_endOf 106 = .ok (.iconst 0, 1) := by decide +kernel
theorem dX1_endOf_107 : decode cX1_endOf 107 = .ok (.iastore, 1) := by decide +kernel
theorem dX1_endOf_108 : decode cX1_endOf 108 = .ok (.iinc 3 1, 3) := by decide +kernel
theorem dX1_endOf_111 : decode cX1_endOf 111 = .ok (.goto (-101), 3) := by decide +kernel
theorem dX1_endOf_114 : decode cX1_endOf 114 = .ok (.aload_n 0, 1) := by decide +kernel
theorem dX1_endOf_115 : decode cX1_endOf 115 = .ok (.getfield 12, 3) := by decide +kernel
theorem dX1_endOf_118 : decode cX1_endOf 118 = .ok (.areturn, 1) := by decide +kernel

theorem dX8_leavesOf_37 : decode cX8_leavesOf 37 = .ok (.invokevirtual 87, 3) := by decide +kernel
theorem dX8_leavesOf_40 : decode cX8_leavesOf 40 = .ok (.iload_n 1, 1) := by decide +kernel
theorem dX8_leavesOf_41 : decode cX8_leavesOf 41 = .ok (.if_icmp .ne 7, 3) := by decide +kernel
theorem dX8_leavesOf_44 : decode cX8_leavesOf 44 = .ok (.iconst 1, 1) := by decide +kernel
theorem dX8_leavesOf_45 : decode cX8_leavesOf 45 = .ok (.goto 4, 3) := by decide +kernel
theorem dX8_leavesOf_48 : decode cX8_leavesOf 48 = .ok (.iconst 0, 1) := by decide +kernel
theorem dX8_leavesOf_49 : decode cX8_leavesOf 49 = .ok (.iadd, 1) := by decide +kernel
theorem dX8_leavesOf_50 : decode cX8_leavesOf 50 = .ok (.istore_n 2, 1) := by decide +kernel
theorem dX8_leavesOf_51 : decode cX8_leavesOf 51 = .ok (.iinc 3 1, 3) := by decide +kernel
theorem dX8_leavesOf_54 : decode cX8_leavesOf 54 = .ok (.goto (-50), 3) := by decide +kernel
theorem dX8_leavesOf_57 : decode cX8_leavesOf 57 = .ok (.iload_n 2, 1) := by decide +kernel
theorem dX8_leavesOf_58 : decode cX8_leavesOf 58 = .ok (.ireturn, 1) := by decide +kernel
set_option maxRecDepth 20000 in
theorem ggX8_drift_X8_readFor : GoodIn wsX8_drift wsX8_readFor := goodIn_r _ [7, 8, 2, 1, 9, 10, 11, 12, 13, 14, 15, 16, 6, 17, 18, 19, 20, 21, 22, 23, 24, 25, 26, 27, 28, 29, 30, 31, 32, 33, 34, 35, 36, 37, 38, 39, 40, 41, 42, 43, 44, 45, 46, 47, 48, 49, 50, 51, 52, 53, 54, 55, 56, 57, 58, 59, 60, 61, 62, 63, 64, 65, 66, 67, 68, 69, 70, 71, 72, 73, 74, 75, 76, 77, 78, 79, 80, 81, 82, 83, 84, 85, 86, 87, 88, 89, 90, 91, 92, 93, 94, 95, 96, 97, 98, 99, 100, 101, 102, 103, 104] rfl (by decide +kernel)
set_option maxRecDepth 20000 in
theorem gX8_drift_X8_readFor : GoodIn wsX8_drift (wsV RX8 199 RX8 yX8_readFor wsX8_readFor) := goodIn_app (goodIn_of _ (by decide +kernel)) ggX8_drift_X8_readFor
set_option maxRecDepth 20000 in
theorem ggX8_drift_X8_leavesOf : GoodIn wsX8_drift wsX8_leavesOf := goodIn_r _ [21, 2, 22, 23, 24, 6, 25, 26, 27, 28, 29, 76, 77, 78, 79, 80, 81, 82, 83, 84, 85, 86, 87, 88, 89, 90, 91, 92, 93, 94, 95, 96, 97, 98, 99, 100, 101, 102, 103, 104] rfl (by decide +kernel)
set_option maxRecDepth 20000 in
theorem gX8_drift_X8_leavesOf : GoodIn wsX8_drift (wsV RX8 98 RX8 yX8_leavesOf wsX8_leavesOf) := goodIn_app (goodIn_of _ (by decide +kernel)) ggX8_drift_X8_leavesOf
set_option maxRecDepth 20000 in
theorem ggX8_drift_X8_number : GoodIn wsX8_drift wsX8_number := goodIn_r _ [17, 2, 76, 77, 78, 79, 80, 81, 82, 83, 84, 85, 86, 87, 88, 89, 90, 91, 92, 93, 94, 95, 96, 97, 98, 99, 100, 101, 102, 103, 104] rfl (by decide +kernel)
set_option maxRecDepth 20000 in
theorem gX8_drift_X8_number : GoodIn wsX8_drift (wsV RX8 83 RX8 yX8_number wsX8_number) := goodIn_app (goodIn_of _ (by decide +kernel)) ggX8_drift_X8_number
theorem dX8_drift_0 : decode cX8_drift 0 = .ok (.aload_n 0, 1) := by decide +kernel
theorem dX8_drift_1 : decode cX8_drift 1 = .ok (.iload_n 1, 1) := by decide +kernel
theorem dX8_drift_2 : decode cX8_drift 2 = .ok (.invokevirtual 199, 3) := by decide +kernel
theorem dX8_drift_5 : decode cX8_drift 5 = .ok (.aload_n 0, 1) := by decide +kernel
theorem dX8_drift_6 : decode cX8_drift 6 = .ok (.getfield 187, 3) := by decide +kernel
theorem dX8_drift_9 : decode cX8_drift 9 = .ok (.aload_n 0, 1) := by decide +kernel
theorem dX8_drift_10 : decode cX8_drift 10 = .ok (.iload_n 1, 1) := by decide +kernel
theorem dX8_drift_11 : decode cX8_drift 11 = .ok (.invokevirtual 98, 3) := by decide +kernel
theorem dX8_drift_14 : decode cX8_drift 14 = .ok (.ifCond .le 12, 3) := by decide +kernel
theorem dX8_drift_17 : decode cX8_drift 17 = .ok (.aload_n 0, 1) := by decide +kernel
theorem dX8_drift_18 : decode cX8_drift 18 = .ok (.iload_n 1, 1) := by decide +kernel
theorem dX8_drift_19 : decode cX8_drift 19 = .ok (.iconst 1, 1) := by decide +kernel
theorem dX8_drift_20 : decode cX8_drift 20 = .ok (.invokevirtual 83, 3) := by decide +kernel
theorem dX8_drift_23 : decode cX8_drift 23 = .ok (.goto 4, 3) := by decide +kernel
theorem dX8_drift_26 : decode cX8_drift 26 = .ok (.iconst 0, 1) := by decide +kernel
theorem dX8_drift_27 : decode cX8_drift 27 = .ok (.iadd, 1) := by decide +kernel
theorem dX8_drift_28 : decode cX8_drift 28 = .ok (.istore_n 2, 1) := by decide +kernel
theorem dX8_drift_29 : decode cX8_drift 29 = .ok (.aload_n 0, 1) := by decide +kernel
theorem dX8_drift_30 : decode cX8_drift 30 = .ok (.getfield 9, 3) := by decide +kernel
theorem dX8_drift_33 : decode cX8_drift 33 = .ok (.bipush 57, 2) := by decide +kernel
theorem dX8_drift_35 : decode cX8_drift 35 = .ok (.iaload, 1) := by decide +kernel
theorem dX8_drift_36 : decode cX8_drift 36 = .ok (.bipush 8, 2) := by decide +kernel
theorem dX8_drift_38 : decode cX8_drift 38 = .ok (.irem, 1) := by decide +kernel
theorem dX8_drift_39 : decode cX8_drift 39 = .ok (.iconst 4, 1) := by decide +kernel
theorem dX8_drift_40 : decode cX8_drift 40 = .ok (.if_icmp .lt 11, 3) := by decide +kernel
theorem dX8_drift_43 : decode cX8_drift 43 = .ok (.aload_n 0, 1) := by decide +kernel
theorem dX8_drift_44 : decode cX8_drift 44 = .ok (.getfield 187, 3) := by decide +kernel
theorem dX8_drift_47 : decode cX8_drift 47 = .ok (.ineg, 1) := by decide +kernel
theorem dX8_drift_48 : decode cX8_drift 48 = .ok (.goto 7, 3) := by decide +kernel
theorem dX8_drift_51 : decode cX8_drift 51 = .ok (.aload_n 0, 1) := by decide +kernel
theorem dX8_drift_52 : decode cX8_drift 52 = .ok (.getfield 187, 3) := by decide +kernel
theorem dX8_drift_55 : decode cX8_drift 55 = .ok (.istore_n 3, 1) := by decide +kernel
theorem dX8_drift_56 : decode cX8_drift 56 = .ok (.aload_n 0, 1) := by decide +kernel
theorem dX8_drift_57 : decode cX8_drift 57 = .ok (.iload_n 1, 1) := by decide +kernel
theorem dX8_drift_58 : decode cX8_drift 58 = .ok (.iconst 0, 1) := by decide +kernel
theorem dX8_drift_59 : decode cX8_drift 59 = .ok (.invokevirtual 83, 3) := by decide +kernel
theorem dX8_drift_62 : decode cX8_drift 62 = .ok (.tableswitch 101 1 6 #[38, 40, 47, 49, 67, 80], 38) := by decide +kernel
theorem dX8_drift_100 : decode cX8_drift 100 = .ok (.iload_n 2, 1) := by decide +kernel
theorem dX8_drift_101 : decode cX8_drift 101 = .ok (.ireturn, 1) := by decide +kernel
theorem dX8_drift_102 : decode cX8_drift 102 = .ok (.aload_n 0, 1) := by decide +kernel
theorem dX8_drift_103 : decode cX8_drift 103 = .ok (.getfield 187, 3) := by decide +kernel
theorem dX8_drift_106 : decode cX8_drift 106 = .ok (.iconst 2, 1) := by decide +kernel
theorem dX8_drift_107 : decode cX8_drift 107 = .ok (.idiv, 1) := by decide +kernel
theorem dX8_drift_108 : decode cX8_drift 108 = .ok (.ireturn, 1) := by decide +kernel
theorem dX8_drift_109 : decode cX8_drift 109 = .ok (.iload_n 3, 1) := by decide +kernel
theorem dX8_drift_110 : decode cX8_drift 110 = .ok (.ireturn, 1) := by decide +kernel
theorem dX8_drift_111 : decode cX8_drift 111 = .ok (.aload_n 0, 1) := by decide +kernel
theorem dX8_drift_112 : decode cX8_drift 112 = .ok (.getfield 9, 3) := by decide +kernel
theorem dX8_drift_115 : decode cX8_drift 115 = .ok (.bipush 57, 2) := by decide +kernel
theorem dX8_drift_117 : decode cX8_drift 117 = .ok (.iaload, 1) := by decide +kernel
theorem dX8_drift_118 : decode cX8_drift 118 = .ok (.iconst 2, 1) := by decide +kernel
theorem dX8_drift_119 : decode cX8_drift 119 = .ok (.irem, 1) := by decide +kernel
theorem dX8_drift_120 : decode cX8_drift 120 = .ok (.ifCond .ne 7, 3) := by decide +kernel
theorem dX8_drift_123 : decode cX8_drift 123 = .ok (.iconst 0, 1) := by decide +kernel
theorem dX8_drift_124 : decode cX8_drift 124 = .ok (.goto 4, 3) := by decide +kernel
theorem dX8_drift_127 : decode cX8_drift 127 = .ok (.iload_n 2, 1) := by decide +kernel
theorem dX8_drift_128 : decode cX8_drift 128 = .ok (.ireturn, 1) := by decide +kernel
theorem dX8_drift_129 : decode cX8_drift 129 = .ok (.aload_n 0, 1) := by decide +kernel
theorem dX8_drift_130 : decode cX8_drift 130 = .ok (.getfield 187, 3) := by decide +kernel
theorem dX8_drift_133 : decode cX8_drift 133 = .ok (.iconst 2, 1) := by decide +kernel
theorem dX8_drift_134 : decode cX8_drift 134 = .ok (.idiv, 1) := by decide +kernel
theorem dX8_drift_135 : decode cX8_drift 135 = .ok (.aload_n 0, 1) := by decide +kernel
theorem dX8_drift_136 : decode cX8_drift 136 = .ok (.iload_n 1, 1) := by decide +kernel
theorem dX8_drift_137 : decode cX8_drift 137 = .ok (.invokevirtual 98, 3) := by decide +kernel
theorem dX8_drift_140 : decode cX8_drift 140 = .ok (.iadd, 1) := by decide +kernel
theorem dX8_drift_141 : decode cX8_drift 141 = .ok (.ireturn, 1) := by decide +kernel
theorem dX8_drift_142 : decode cX8_drift 142 = .ok (.iload_n 3, 1) := by decide +kernel
theorem dX8_drift_143 : decode cX8_drift 143 = .ok (.aload_n 0, 1) := by decide +kernel
theorem dX8_drift_144 : decode cX8_drift 144 = .ok (.iload_n 1, 1) := by decide +kernel
theorem dX8_drift_145 : decode cX8_drift 145 = .ok (.iconst 3, 1) := by decide +kernel
theorem dX8_drift_146 : decode cX8_drift 146 = .ok (.aload_n 0, 1) := by decide +kernel
theorem dX8_drift_147 : decode cX8_drift 147 = .ok (.getfield 9, 3) := by decide +kernel
theorem dX8_drift_150 : decode cX8_drift 150 = .ok (.bipush 57, 2) := by decide +kernel
theorem dX8_drift_152 : decode cX8_drift 152 = .ok (.iaload, 1) := by decide +kernel
theorem dX8_drift_153 : decode cX8_drift 153 = .ok (.iconst 4, 1) := by decide +kernel
theorem dX8_drift_154 : decode cX8_drift 154 = .ok (.irem, 1) := by decide +kernel
theorem dX8_drift_155 : decode cX8_drift 155 = .ok (.iadd, 1) := by decide +kernel
theorem dX8_drift_156 : decode cX8_drift 156 = .ok (.invokevirtual 83, 3) := by decide +kernel
theorem dX8_drift_159 : decode cX8_drift 159 = .ok (.iadd, 1) := by decide +kernel
theorem dX8_drift_160 : decode cX8_drift 160 = .ok (.iconst 4, 1) := by decide +kernel
theorem dX8_drift_161 : decode cX8_drift 161 = .ok (.isub, 1) := by decide +kernel
theorem dX8_drift_162 : decode cX8_drift 162 = .ok (.ireturn, 1) := by decide +kernel
theorem dX8_drift_163 : decode cX8_drift 163 = .ok (.aload_n 0, 1) := by decide +kernel
theorem dX8_drift_164 : decode cX8_drift 164 = .ok (.getfield 187, 3) := by decide +kernel
theorem dX8_drift_167 : decode cX8_drift 167 = .ok (.ireturn, 1) := by decide +kernel
set_option maxRecDepth 20000 in
theorem ggX8_bearNow_X8_readFor : GoodIn wsX8_bearNow wsX8_readFor := goodIn_r _ [6, 7, 8, 9, 1, 10, 11, 12, 13, 14, 15, 16, 5, 17, 18, 19, 20, 21, 22, 23, 24, 25, 26, 27, 28, 29, 30, 31, 32, 33, 34, 35, 36, 37, 38, 39, 40, 41, 42, 43, 44, 45, 46, 47, 48, 49, 50, 51, 52, 53, 54, 55, 56, 57, 58, 59, 60, 61, 62, 63, 64, 65, 66, 67, 68, 69, 70, 71, 72, 73, 74, 75, 76, 77, 78, 79, 80, 81, 82, 83, 84, 85, 86, 87, 88, 89, 90, 91, 92, 93, 94, 95, 96, 97, 98, 99, 100, 101, 102, 103, 104] rfl (by decide +kernel)
set_option maxRecDepth 20000 in
theorem gX8_bearNow_X8_readFor : GoodIn wsX8_bearNow (wsV RX8 199 RX8 yX8_readFor wsX8_readFor) := goodIn_app (goodIn_of _ (by decide +kernel)) ggX8_bearNow_X8_readFor
theorem dX8_bearNow_0 : decode cX8_bearNow 0 = .ok (.aload_n 0, 1) := by decide +kernel
theorem dX8_bearNow_1 : decode cX8_bearNow 1 = .ok (.iconst 0, 1) := by decide +kernel
theorem dX8_bearNow_2 : decode cX8_bearNow 2 = .ok (.invokevirtual 199, 3) := by decide +kernel
theorem dX8_bearNow_5 : decode cX8_bearNow 5 = .ok (.aload_n 0, 1) := by decide +kernel
theorem dX8_bearNow_6 : decode cX8_bearNow 6 = .ok (.getfield 184, 3) := by decide +kernel
theorem dX8_bearNow_9 : decode cX8_bearNow 9 = .ok (.ireturn, 1) := by decide +kernel
set_option maxRecDepth 20000 in
theorem ggX8_draws_X8_isTaut : GoodIn wsX8_draws wsX8_isTaut := goodIn_r _ [6, 7, 8, 9, 5, 10, 11, 12, 13, 14, 1, 15, 16, 17, 18, 19, 20, 21, 22, 23, 24, 25, 26, 27, 28, 29, 30, 39, 40, 41, 42, 43, 44, 45, 46, 47, 48, 49, 50, 51, 52, 53, 54, 55, 56, 57, 58, 59, 60, 61, 62, 63, 64, 65, 66, 67] rfl (by decide +kernel)
set_option maxRecDepth 20000 in
theorem gX8_draws_X8_isTaut : GoodIn wsX8_draws (wsV RX8 139 RX8 yX8_isTaut wsX8_isTaut) := goodIn_app (goodIn_of _ (by decide +kernel)) ggX8_draws_X8_isTaut
set_option maxRecDepth 20000 in
theorem ggX8_draws_X8_gapOf : GoodIn wsX8_draws wsX8_gapOf := goodIn_r _ [18, 19, 20, 21, 22, 11, 12, 13, 5, 14, 1, 23, 24, 25, 26, 27, 28, 29, 30, 39, 40, 41, 42, 43, 44, 45, 46, 47, 48, 49, 50, 51, 52, 53, 54, 55, 56, 57, 58, 59, 60, 61, 62, 63, 64, 65, 66, 67] rfl (by decide +kernel)
set_option maxRecDepth 20000 in
theorem gX8_draws_X8_gapOf : GoodIn wsX8_draws (wsV RX8 136 RX8 yX8_gapOf wsX8_gapOf) := goodIn_app (goodIn_of _ (by decide +kernel)) ggX8_draws_X8_gapOf
set_option maxRecDepth 20000 in
theorem ggX8_draws_X8_holds : GoodIn wsX8_draws wsX8_holds := goodIn_r _ [34, 1, 39, 40, 41, 42, 43, 44, 45, 46, 47, 48, 49, 50, 51, 52, 53, 54, 55, 56, 57, 58, 59, 60, 61, 62, 63, 64, 65, 66, 67] rfl (by decide +kernel)
set_option maxRecDepth 20000 in
theorem gX8_draws_X8_holds : GoodIn wsX8_draws (wsV RX8 105 RX8 yX8_holds wsX8_holds) := goodIn_app (goodIn_of _ (by decide +kernel)) ggX8_draws_X8_holds
set_option maxRecDepth 20000 in
theorem ggX8_draws_X8_holder : GoodIn wsX8_draws wsX8_holder := goodIn_r _ [14, 1, 39, 40, 41, 42, 43, 44, 45, 46, 47, 48, 49, 50, 51, 52, 53, 54, 55, 56, 57, 58, 59, 60, 61, 62, 63, 64, 65, 66, 67] rfl (by decide +kernel)
set_option maxRecDepth 20000 in
theorem gX8_draws_X8_holder : GoodIn wsX8_draws (wsV RX8 87 RX8 yX8_holder wsX8_holder) := goodIn_app (goodIn_of _ (by decide +kernel)) ggX8_draws_X8_holder
set_option maxRecDepth 20000 in
theorem ggX8_draws_X8_number : GoodIn wsX8_draws wsX8_number := goodIn_r _ [26, 1, 39, 40, 41, 42, 43, 44, 45, 46, 47, 48, 49, 50, 51, 52, 53, 54, 55, 56, 57, 58, 59, 60, 61, 62, 63, 64, 65, 66, 67] rfl (by decide +kernel)
set_option maxRecDepth 20000 in
theorem gX8_draws_X8_number : GoodIn wsX8_draws (wsV RX8 83 RX8 yX8_number wsX8_number) := goodIn_app (goodIn_of _ (by decide +kernel)) ggX8_draws_X8_number
set_option maxRecDepth 20000 in
theorem ggX8_draws_X8_change : GoodIn wsX8_draws wsX8_change := goodIn_r _ [38, 1, 23, 24, 25, 5, 26, 39, 40, 41, 42, 43, 44, 45, 46, 47, 48, 49, 50, 51, 52, 53, 54, 55, 56, 57, 58, 59, 60, 61, 62, 63, 64, 65, 66, 67] rfl (by decide +kernel)
set_option maxRecDepth 20000 in
theorem gX8_draws_X8_change : GoodIn wsX8_draws (wsV RX8 90 RX8 yX8_change wsX8_change) := goodIn_app (goodIn_of _ (by decide +kernel)) ggX8_draws_X8_change
theorem dX8_draws_0 : decode cX8_draws 0 = .ok (.aload_n 0, 1) := by decide +kernel
theorem dX8_draws_1 : decode cX8_draws 1 = .ok (.iload_n 1, 1) := by decide +kernel
theorem dX8_draws_2 : decode cX8_draws 2 = .ok (.invokevirtual 139, 3) := by decide +kernel
theorem dX8_draws_5 : decode cX8_draws 5 = .ok (.ifCond .ne 4, 3) := by decide +kernel
theorem dX8_draws_8 : decode cX8_draws 8 = .ok (.return_, 1) := by decide +kernel
theorem dX8_draws_9 : decode cX8_draws 9 = .ok (.aload_n 0, 1) := by decide +kernel
theorem dX8_draws_10 : decode cX8_draws 10 = .ok (.iload_n 1, 1) := by decide +kernel
theorem dX8_draws_11 : decode cX8_draws 11 = .ok (.invokevirtual 136, 3) := by decide +kernel
theorem dX8_draws_14 : decode cX8_draws 14 = .ok (.iload_n 2, 1) := by decide +kernel
theorem dX8_draws_15 : decode cX8_draws 15 = .ok (.if_icmp .le 22, 3) := by decide +kernel
theorem dX8_draws_18 : decode cX8_draws 18 = .ok (.aload_n 0, 1) := by decide +kernel
theorem dX8_draws_19 : decode cX8_draws 19 = .ok (.iload_n 1, 1) := by decide +kernel
theorem dX8_draws_20 : decode cX8_draws 20 = .ok (.iconst (-1), 1) := by decide +kernel
theorem dX8_draws_21 : decode cX8_draws 21 = .ok (.iconst (-1), 1) := by decide +kernel
theorem dX8_draws_22 : decode cX8_draws 22 = .ok (.invokevirtual 105, 3) := by decide +kernel
theorem dX8_draws_25 : decode cX8_draws 25 = .ok (.aload_n 0, 1) := by decide +kernel
theorem dX8_draws_26 : decode cX8_draws 26 = .ok (.getfield 9, 3) := by decide +kernel
theorem dX8_draws_29 : decode cX8_draws 29 = .ok (.bipush 56, 2) := by decide +kernel
theorem dX8_draws_31 : decode cX8_draws 31 = .ok (.dup2, 1) := by decide +kernel
theorem dX8_draws_32 : decode cX8_draws 32 = .ok (.iaload, 1) := by decide +kernel
theorem dX8_draws_33 : decode cX8_draws 33 = .ok (.iconst 1, 1) := by decide +kernel
theorem dX8_draws_34 : decode cX8_draws 34 = .ok (.iadd, 1) := by decide +kernel
theorem dX8_draws_35 : decode cX8_draws 35 = .ok (.iastore, 1) := by decide +kernel
theorem dX8_draws_36 : decode cX8_draws 36 = .ok (.return_, 1) := by decide +kernel
theorem dX8_draws_37 : decode cX8_draws 37 = .ok (.aload_n 0, 1) := by decide +kernel
theorem dX8_draws_38 : decode cX8_draws 38 = .ok (.iload_n 1, 1) := by decide +kernel
theorem dX8_draws_39 : decode cX8_draws 39 = .ok (.iconst 1, 1) := by decide +kernel
theorem dX8_draws_40 : decode cX8_draws 40 = .ok (.invokevirtual 87, 3) := by decide +kernel
theorem dX8_draws_43 : decode cX8_draws 43 = .ok (.istore_n 3, 1) := by decide +kernel
theorem dX8_draws_44 : decode cX8_draws 44 = .ok (.aload_n 0, 1) := by decide +kernel
theorem dX8_draws_45 : decode cX8_draws 45 = .ok (.iload_n 1, 1) := by decide +kernel
theorem dX8_draws_46 : decode cX8_draws 46 = .ok (.iconst 2, 1) := by decide +kernel
theorem dX8_draws_47 : decode cX8_draws 47 = .ok (.invokevirtual 87, 3) := by decide +kernel
theorem dX8_draws_50 : decode cX8_draws 50 = .ok (.istore 4, 2) := by decide +kernel
theorem dX8_draws_52 : decode cX8_draws 52 = .ok (.aload_n 0, 1) := by decide +kernel
theorem dX8_draws_53 : decode cX8_draws 53 = .ok (.iload_n 3, 1) := by decide +kernel
theorem dX8_draws_54 : decode cX8_draws 54 = .ok (.iconst 2, 1) := by decide +kernel
theorem dX8_draws_55 : decode cX8_draws 55 = .ok (.invokevirtual 83, 3) := by decide +kernel
theorem dX8_draws_58 : decode cX8_draws 58 = .ok (.aload_n 0, 1) := by decide +kernel
theorem dX8_draws_59 : decode cX8_draws 59 = .ok (.iload 4, 2) := by decide +kernel
theorem dX8_draws_61 : decode cX8_draws 61 = .ok (.iconst 2, 1) := by decide +kernel
theorem dX8_draws_62 : decode cX8_draws 62 = .ok (.invokevirtual 83, 3) := by decide +kernel
theorem dX8_draws_65 : decode cX8_draws 65 = .ok (.if_icmp .ge 7, 3) := by decide +kernel
theorem dX8_draws_68 : decode cX8_draws 68 = .ok (.iconst 1, 1) := by decide +kernel
theorem dX8_draws_69 : decode cX8_draws 69 = .ok (.goto 4, 3) := by decide +kernel
theorem dX8_draws_72 : decode cX8_draws 72 = .ok (.iconst (-1), 1) := by decide +kernel
theorem dX8_draws_73 : decode cX8_draws 73 = .ok (.istore 5, 2) := by decide +kernel
theorem dX8_draws_75 : decode cX8_draws 75 = .ok (.aload_n 0, 1) := by decide +kernel
theorem dX8_draws_76 : decode cX8_draws 76 = .ok (.iload_n 3, 1) := by decide +kernel
theorem dX8_draws_77 : decode cX8_draws 77 = .ok (.iconst 2, 1) := by decide +kernel
theorem dX8_draws_78 : decode cX8_draws 78 = .ok (.aload_n 0, 1) := by decide +kernel
theorem dX8_draws_79 : decode cX8_draws 79 = .ok (.iload_n 3, 1) := by decide +kernel
theorem dX8_draws_80 : decode cX8_draws 80 = .ok (.iconst 2, 1) := by decide +kernel
theorem dX8_draws_81 : decode cX8_draws 81 = .ok (.invokevirtual 83, 3) := by decide +kernel
theorem dX8_draws_84 : decode cX8_draws 84 = .ok (.iload 5, 2) := by decide +kernel
theorem dX8_draws_86 : decode cX8_draws 86 = .ok (.iadd, 1) := by decide +kernel
theorem dX8_draws_87 : decode cX8_draws 87 = .ok (.invokevirtual 90, 3) := by decide +kernel
theorem dX8_draws_90 : decode cX8_draws 90 = .ok (.pop, 1) := by decide +kernel
theorem dX8_draws_91 : decode cX8_draws 91 = .ok (.aload_n 0, 1) := by decide +kernel
theorem dX8_draws_92 : decode cX8_draws 92 = .ok (.iload 4, 2) := by decide +kernel
theorem dX8_draws_94 : decode cX8_draws 94 = .ok (.iconst 2, 1) := by decide +kernel
theorem dX8_draws_95 : decode cX8_draws 95 = .ok (.aload_n 0, 1) := by decide +kernel
theorem dX8_draws_96 : decode cX8_draws 96 = .ok (.iload 4, 2) := by decide +kernel
theorem dX8_draws_98 : decode cX8_draws 98 = .ok (.iconst 2, 1) := by decide +kernel
theorem dX8_draws_99 : decode cX8_draws 99 = .ok (.invokevirtual 83, 3) := by decide +kernel
theorem dX8_draws_102 : decode cX8_draws 102 = .ok (.iload 5, 2) := by decide +kernel
theorem dX8_draws_104 : decode cX8_draws 104 = .ok (.isub, 1) := by decide +kernel
theorem dX8_draws_105 : decode cX8_draws 105 = .ok (.invokevirtual 90, 3) := by decide +kernel
theorem dX8_draws_108 : decode cX8_draws 108 = .ok (.pop, 1) := by decide +kernel
theorem dX8_draws_109 : decode cX8_draws 109 = .ok (.return_, 1) := by decide +kernel
set_option maxRecDepth 20000 in
theorem ggX8_step_X8_bearNow : GoodIn wsX8_step wsX8_bearNow := goodIn_r _ [14, 15, 16, 17, 18, 13, 19, 20, 1, 21, 22, 23, 24, 25, 26, 27, 28, 29, 30, 31, 32, 33, 34, 35, 36, 37, 38, 39, 40, 41, 42, 43, 44, 45, 46, 47, 48, 49, 50, 51, 52, 53, 54, 55, 56, 57, 58, 59, 60, 61, 62, 63, 64, 65, 66, 67, 68, 69, 70, 71, 72, 73, 74, 75, 76, 77, 78, 79, 80, 81, 82, 83, 84, 85, 86, 87, 119, 120, 121, 122, 123, 124, 125, 126, 127, 128, 129, 130, 131, 132, 133, 134, 135, 136, 137, 138, 139, 140, 141, 142, 143, 144, 145, 146, 147] rfl (by decide +kernel)
set_option maxRecDepth 20000 in
theorem gX8_step_X8_bearNow : GoodIn wsX8_step (wsV RX8 202 RX8 yX8_bearNow wsX8_bearNow) := goodIn_app (goodIn_of _ (by decide +kernel)) ggX8_step_X8_bearNow
set_option maxRecDepth 20000 in
theorem ggX8_step_X8_drift : GoodIn wsX8_step wsX8_drift := goodIn_r _ [91, 21, 1, 16, 17, 18, 13, 19, 20, 15, 22, 23, 24, 25, 26, 27, 28, 29, 30, 31, 32, 33, 34, 35, 36, 37, 38, 39, 40, 41, 42, 43, 44, 45, 46, 47, 48, 49, 50, 51, 52, 53, 54, 55, 56, 57, 58, 59, 60, 61, 62, 63, 64, 65, 66, 67, 68, 69, 70, 71, 72, 73, 74, 75, 76, 77, 78, 79, 80, 81, 82, 83, 84, 85, 86, 87, 119, 120, 121, 122, 123, 124, 125, 126, 127, 128, 129, 130, 131, 132, 133, 134, 135, 136, 137, 138, 139, 140, 141, 142, 143, 144, 145, 146, 147] rfl (by decide +kernel)
set_option maxRecDepth 20000 in
theorem gX8_step_X8_drift : GoodIn wsX8_step (wsV RX8 102 RX8 yX8_drift wsX8_drift) := goodIn_app (goodIn_of _ (by decide +kernel)) ggX8_step_X8_drift
set_option maxRecDepth 20000 in
theorem ggX8_step_X8_number : GoodIn wsX8_step wsX8_number := goodIn_r _ [29, 1, 119, 120, 121, 122, 123, 124, 125, 126, 127, 128, 129, 130, 131, 132, 133, 134, 135, 136, 137, 138, 139, 140, 141, 142, 143, 144, 145, 146, 147] rfl (by decide +kernel)
set_option maxRecDepth 20000 in
theorem gX8_step_X8_number : GoodIn wsX8_step (wsV RX8 83 RX8 yX8_number wsX8_number) := goodIn_app (goodIn_of _ (by decide +kernel)) ggX8_step_X8_number
set_option maxRecDepth 20000 in
theorem ggX8_step_X8_change : GoodIn wsX8_step wsX8_change := goodIn_r _ [95, 1, 26, 27, 28, 13, 29, 119, 120, 121, 122, 123, 124, 125, 126, 127, 128, 129, 130, 131, 132, 133, 134, 135, 136, 137, 138, 139, 140, 141, 142, 143, 144, 145, 146, 147] rfl (by decide +kernel)
set_option maxRecDepth 20000 in
theorem gX8_step_X8_change : GoodIn wsX8_step (wsV RX8 90 RX8 yX8_change wsX8_change) := goodIn_app (goodIn_of _ (by decide +kernel)) ggX8_step_X8_change
set_option maxRecDepth 20000 in
theorem ggX8_step_X8_draws : GoodIn wsX8_step wsX8_draws := goodIn_r _ [99, 1, 100, 101, 102, 13, 103, 34, 35, 36, 37, 38, 39, 40, 41, 104, 105, 106, 107, 108, 109, 5, 110, 26, 27, 28, 29, 111, 112, 113, 114, 115, 116, 117, 118, 92, 93, 94, 95, 119, 120, 121, 122, 123, 124, 125, 126, 127, 128, 129, 130, 131, 132, 133, 134, 135, 136, 137, 138, 139, 140, 141, 142, 143, 144, 145, 146, 147] rfl (by decide +kernel)
set_option maxRecDepth 20000 in
theorem gX8_step_X8_draws : GoodIn wsX8_step (wsV RX8 211 RX8 yX8_draws wsX8_draws) := goodIn_app (goodIn_of _ (by decide +kernel)) ggX8_step_X8_draws
theorem dX8_step_0 : decode cX8_step 0 = .ok (.aload_n 0, 1) := by decide +kernel
theorem dX8_step_1 : decode cX8_step 1 = .ok (.invokevirtual 202, 3) := by decide +kernel
theorem dX8_step_4 : decode cX8_step 4 = .ok (.istore_n 1, 1) := by decide +kernel
theorem dX8_step_5 : decode cX8_step 5 = .ok (.iconst 0, 1) := by decide +kernel
theorem dX8_step_6 : decode cX8_step 6 = .ok (.istore_n 2, 1) := by decide +kernel
theorem dX8_step_7 : decode cX8_step 7 = .ok (.iload_n 2, 1) := by decide +kernel
theorem dX8_step_8 : decode cX8_step 8 = .ok (.aload_n 0, 1) := by decide +kernel
theorem dX8_step_9 : decode cX8_step 9 = .ok (.getfield 9, 3) := by decide +kernel
theorem dX8_step_12 : decode cX8_step 12 = .ok (.bipush 54, 2) := by decide +kernel
theorem dX8_step_14 : decode cX8_step 14 = .ok (.iaload, 1) := by decide +kernel
theorem dX8_step_15 : decode cX8_step 15 = .ok (.if_icmp .ge 20, 3) := by decide +kernel
theorem dX8_step_18 : decode cX8_step 18 = .ok (.aload_n 0, 1) := by decide +kernel
theorem dX8_step_19 : decode cX8_step 19 = .ok (.getfield 46, 3) := by decide +kernel
theorem dX8_step_22 : decode cX8_step 22 = .ok (.iload_n 2, 1) := by decide +kernel
theorem dX8_step_23 : decode cX8_step 23 = .ok (.aload_n 0, 1) := by decide +kernel
theorem dX8_step_24 : decode cX8_step 24 = .ok (.iload_n 2, 1) := by decide +kernel
theorem dX8_step_25 : decode cX8_step 25 = .ok (.invokevirtual 102, 3) := by decide +kernel
theorem dX8_step_28 : decode cX8_step 28 = .ok (.iastore, 1) := by decide +kernel
theorem dX8_step_29 : decode cX8_step 29 = .ok (.iinc 2 1, 3) := by decide +kernel
theorem dX8_step_32 : decode cX8_step 32 = .ok (.goto (-25), 3) := by decide +kernel
theorem dX8_step_35 : decode cX8_step 35 = .ok (.iconst 0, 1) := by decide +kernel
theorem dX8_step_36 : decode cX8_step 36 = .ok (.istore_n 2, 1) := by decide +kernel
theorem dX8_step_37 : decode cX8_step 37 = .ok (.iload_n 2, 1) := by decide +kernel
theorem dX8_step_38 : decode cX8_step 38 = .ok (.aload_n 0, 1) := by decide +kernel
theorem dX8_step_39 : decode cX8_step 39 = .ok (.getfield 9, 3) := by decide +kernel
theorem dX8_step_42 : decode cX8_step 42 = .ok (.bipush 54, 2) := by decide +kernel
theorem dX8_step_44 : decode cX8_step 44 = .ok (.iaload, 1) := by decide +kernel
theorem dX8_step_45 : decode cX8_step 45 = .ok (.if_icmp .ge 38, 3) := by decide +kernel
theorem dX8_step_48 : decode cX8_step 48 = .ok (.aload_n 0, 1) := by decide +kernel
theorem dX8_step_49 : decode cX8_step 49 = .ok (.iload_n 2, 1) := by decide +kernel
theorem dX8_step_50 : decode cX8_step 50 = .ok (.iconst 2, 1) := by decide +kernel
theorem dX8_step_51 : decode cX8_step 51 = .ok (.iconst 0, 1) := by decide +kernel
theorem dX8_step_52 : decode cX8_step 52 = .ok (.bipush 99, 2) := by decide +kernel
theorem dX8_step_54 : decode cX8_step 54 = .ok (.aload_n 0, 1) := by decide +kernel
theorem dX8_step_55 : decode cX8_step 55 = .ok (.iload_n 2, 1) := by decide +kernel
theorem dX8_step_56 : decode cX8_step 56 = .ok (.iconst 2, 1) := by decide +kernel
theorem dX8_step_57 : decode cX8_step 57 = .ok (.invokevirtual 83, 3) := by decide +kernel
theorem dX8_step_60 : decode cX8_step 60 = .ok (.aload_n 0, 1) := by decide +kernel
theorem dX8_step_61 : decode cX8_step 61 = .ok (.getfield 46, 3) := by decide +kernel
theorem dX8_step_64 : decode cX8_step 64 = .ok (.iload_n 2, 1) := by decide +kernel
theorem dX8_step_65 : decode cX8_step 65 = .ok (.iaload, 1) := by decide +kernel
theorem dX8_step_66 : decode cX8_step 66 = .ok (.iadd, 1) := by decide +kernel
theorem dX8_step_67 : decode cX8_step 67 = .ok (.invokestatic 205, 3) := by decide +kernel
theorem dX8_step_70 : decode cX8_step 70 = .ok (.invokestatic 208, 3) := by decide +kernel
theorem dX8_step_73 : decode cX8_step 73 = .ok (.invokevirtual 90, 3) := by decide +kernel
theorem dX8_step_76 : decode cX8_step 76 = .ok (.pop, 1) := by decide +kernel
theorem dX8_step_77 : decode cX8_step 77 = .ok (.iinc 2 1, 3) := by decide +kernel
theorem dX8_step_80 : decode cX8_step 80 = .ok (.goto (-43), 3) := by decide +kernel
theorem dX8_step_83 : decode cX8_step 83 = .ok (.iconst 0, 1) := by decide +kernel
theorem dX8_step_84 : decode cX8_step 84 = .ok (.istore_n 2, 1) := by decide +kernel
theorem dX8_step_85 : decode cX8_step 85 = .ok (.iload_n 2, 1) := by decide +kernel
theorem dX8_step_86 : decode cX8_step 86 = .ok (.aload_n 0, 1) := by decide +kernel
theorem dX8_step_87 : decode cX8_step 87 = .ok (.getfield 9, 3) := by decide +kernel
theorem dX8_step_90 : decode cX8_step 90 = .ok (.bipush 55, 2) := by decide +kernel
theorem dX8_step_92 : decode cX8_step 92 = .ok (.iaload, 1) := by decide +kernel
theorem dX8_step_93 : decode cX8_step 93 = .ok (.if_icmp .ge 15, 3) := by decide +kernel
theorem dX8_step_96 : decode cX8_step 96 = .ok (.aload_n 0, 1) := by decide +kernel
theorem dX8_step_97 : decode cX8_step 97 = .ok (.iload_n 2, 1) := by decide +kernel
theorem dX8_step_98 : decode cX8_step 98 = .ok (.iload_n 1, 1) := by decide +kernel
theorem dX8_step_99 : decode cX8_step 99 = .ok (.invokevirtual 211, 3) := by decide +kernel
theorem dX8_step_102 : decode cX8_step 102 = .ok (.iinc 2 1, 3) := by decide +kernel
theorem dX8_step_105 : decode cX8_step 105 = .ok (.goto (-20), 3) := by decide +kernel
theorem dX8_step_108 : decode cX8_step 108 = .ok (.aload_n 0, 1) := by decide +kernel
theorem dX8_step_109 : decode cX8_step 109 = .ok (.getfield 9, 3) := by decide +kernel
theorem dX8_step_112 : decode cX8_step 112 = .ok (.bipush 57, 2) := by decide +kernel
theorem dX8_step_114 : decode cX8_step 114 = .ok (.dup2, 1) := by decide +kernel
theorem dX8_step_115 : decode cX8_step 115 = .ok (.iaload, 1) := by decide +kernel
theorem dX8_step_116 : decode cX8_step 116 = .ok (.iconst 1, 1) := by decide +kernel
theorem dX8_step_117 : decode cX8_step 117 = .ok (.iadd, 1) := by decide +kernel
theorem dX8_step_118 : decode cX8_step 118 = .ok (.iastore, 1) := by decide +kernel
theorem dX8_step_119 : decode cX8_step 119 = .ok (.return_, 1) := by decide +kernel
set_option maxRecDepth 20000 in
theorem ggX8_steps_X8_step : GoodIn wsX8_steps wsX8_step := goodIn_r _ [5, 6, 7, 8, 9, 10, 11, 12, 13, 14, 15, 16, 17, 4, 18, 19, 20, 21, 22, 23, 24, 25, 26, 27, 28, 29, 30, 31, 32, 33, 34, 35, 36, 37, 38, 39, 40, 41, 42, 43, 44, 45, 46, 47, 48, 49, 50, 51, 52, 53, 54, 55, 56, 57, 58, 59, 60, 61, 62, 63, 64, 65, 66, 67, 68, 69, 70, 71, 72, 73, 74, 75, 76, 77, 78, 79, 80, 81, 82, 83, 84, 85, 86, 87, 88, 89, 90, 91, 92, 93, 94, 95, 96, 97, 98, 99, 100, 101, 102, 103, 104, 105, 106, 107, 108, 109, 110, 111, 112, 113, 114, 115, 116, 117, 118, 119, 120, 121, 122, 123, 124, 125, 126, 127, 128, 129, 130, 131, 132, 133, 134, 135, 136, 137, 138, 139, 140, 141, 142, 143, 144, 145, 146, 147, 148, 149, 150, 151] rfl (by decide +kernel)
set_option maxRecDepth 20000 in
theorem gX8_steps_X8_step : GoodIn wsX8_steps (wsV RX8 215 RX8 yX8_step wsX8_step) := goodIn_app (goodIn_of _ (by decide +kernel)) ggX8_steps_X8_step
theorem dX8_steps_0 : decode cX8_steps 0 = .ok (.iconst 0, 1) := by decide +kernel
theorem dX8_steps_1 : decode cX8_steps 1 = .ok (.istore_n 2, 1) := by decide +kernel
theorem dX8_steps_2 : decode cX8_steps 2 = .ok (.iload_n 2, 1) := by decide +kernel
theorem dX8_steps_3 : decode cX8_steps 3 = .ok (.iload_n 1, 1) := by decide +kernel
theorem dX8_steps_4 : decode cX8_steps 4 = .ok (.if_icmp .ge 13, 3) := by decide +kernel
theorem dX8_steps_7 : decode cX8_steps 7 = .ok (.aload_n 0, 1) := by decide +kernel
theorem dX8_steps_8 : decode cX8_steps 8 = .ok (.invokevirtual 215, 3) := by decide +kernel
theorem dX8_steps_11 : decode cX8_steps 11 = .ok (.iinc 2 1, 3) := by decide +kernel
theorem dX8_steps_14 : decode cX8_steps 14 = .ok (.goto (-12), 3) := by decide +kernel
theorem dX8_steps_17 : decode cX8_steps 17 = .ok (.return_, 1) := by decide +kernel
set_option maxRecDepth 20000 in
theorem ggX8_tauts_X8_isTaut : GoodIn wsX8_tauts wsX8_isTaut := goodIn_r _ [6, 7, 8, 9, 5, 10, 11, 12, 13, 14, 1, 15, 16, 17, 18, 19, 20, 21, 22, 23, 24, 25, 26, 27, 28, 29, 30, 31, 32, 33, 34, 35, 36, 37, 38, 39, 40, 41, 42, 43, 44, 45, 46, 47, 48, 49, 50, 51, 52, 53, 54, 55, 56, 57, 58, 59] rfl (by decide +kernel)
set_option maxRecDepth 20000 in
theorem gX8_tauts_X8_isTaut : GoodIn wsX8_tauts (wsV RX8 139 RX8 yX8_isTaut wsX8_isTaut) := goodIn_app (goodIn_of _ (by decide +kernel)) ggX8_tauts_X8_isTaut
theorem dX8_tauts_0 : decode cX8_tauts 0 = .ok (.iconst 0, 1) := by decide +kernel
theorem dX8_tauts_1 : decode cX8_tauts 1 = .ok (.istore_n 1, 1) := by decide +kernel
theorem dX8_tauts_2 : decode cX8_tauts 2 = .ok (.iconst 0, 1) := by decide +kernel
theorem dX8_tauts_3 : decode cX8_tauts 3 = .ok (.istore_n 2, 1) := by decide +kernel
theorem dX8_tauts_4 : decode cX8_tauts 4 = .ok (.iload_n 2, 1) := by decide +kernel
theorem dX8_tauts_5 : decode cX8_tauts 5 = .ok (.aload_n 0, 1) := by decide +kernel
theorem dX8_tauts_6 : decode cX8_tauts 6 = .ok (.getfield 9, 3) := by decide +kernel
theorem dX8_tauts_9 : decode cX8_tauts 9 = .ok (.bipush 55, 2) := by decide +kernel
theorem dX8_tauts_11 : decode cX8_tauts 11 = .ok (.iaload, 1) := by decide +kernel
theorem dX8_tauts_12 : decode cX8_tauts 12 = .ok (.if_icmp .ge 27, 3) := by decide +kernel
theorem dX8_tauts_15 : decode cX8_tauts 15 = .ok (.iload_n 1, 1) := by decide +kernel
theorem dX8_tauts_16 : decode cX8_tauts 16 = .ok (.aload_n 0, 1) := by decide +kernel
theorem dX8_tauts_17 : decode cX8_tauts 17 = .ok (.iload_n 2, 1) := by decide +kernel
theorem dX8_tauts_18 : decode cX8_tauts 18 = .ok (.invokevirtual 139, 3) := by decide +kernel
theorem dX8_tauts_21 : decode cX8_tauts 21 = .ok (.ifCond .eq 9, 3) := by decide +kernel
theorem dX8_tauts_24 : decode cX8_tauts 24 = .ok (.iconst 1, 1) := by decide +kernel
theorem dX8_tauts_25 : decode cX8_tauts 25 = .ok (.iload_n 2, 1) := by decide +kernel
theorem dX8_tauts_26 : decode cX8_tauts 26 = .ok (.ishl, 1) := by decide +kernel
theorem dX8_tauts_27 : decode cX8_tauts 27 = .ok (.goto 4, 3) := by decide +kernel
theorem dX8_tauts_30 : decode cX8_tauts 30 = .ok (.iconst 0, 1) := by decide +kernel
theorem dX8_tauts_31 : decode cX8_tauts 31 = .ok (.ior, 1) := by decide +kernel
theorem dX8_tauts_32 : decode cX8_tauts 32 = .ok (.istore_n 1, 1) := by decide +kernel
theorem dX8_tauts_33 : decode cX8_tauts 33 = .ok (.iinc 2 1, 3) := by decide +kernel
theorem dX8_tauts_36 : decode cX8_tauts 36 = .ok (.goto (-32), 3) := by decide +kernel
theorem dX8_tauts_39 : decode cX8_tauts 39 = .ok (.iload_n 1, 1) := by decide +kernel
theorem dX8_tauts_40 : decode cX8_tauts 40 = .ok (.ireturn, 1) := by decide +kernel
set_option maxRecDepth 20000 in
theorem ggX8_helds_X8_isHeld : GoodIn wsX8_helds wsX8_isHeld := goodIn_r _ [6, 7, 8, 9, 5, 10, 1, 11, 12, 13, 14, 15, 16, 17, 18, 19, 20, 21, 22, 23, 24, 25, 26, 27, 28, 29, 30, 31, 32, 33, 34, 35, 36, 37, 38, 39] rfl (by decide +kernel)
set_option maxRecDepth 20000 in
theorem gX8_helds_X8_isHeld : GoodIn wsX8_helds (wsV RX8 133 RX8 yX8_isHeld wsX8_isHeld) := goodIn_app (goodIn_of _ (by decide +kernel)) ggX8_helds_X8_isHeld
theorem dX8_helds_0 : decode cX8_helds 0 = .ok (.iconst 0, 1) := by decide +kernel
theorem dX8_helds_1 : decode cX8_helds 1 = .ok (.istore_n 1, 1) := by decide +kernel
theorem dX8_helds_2 : decode cX8_helds 2 = .ok (.iconst 0, 1) := by decide +kernel
theorem dX8_helds_3 : decode cX8_helds 3 = .ok (.istore_n 2, 1) := by decide +kernel
theorem dX8_helds_4 : decode cX8_helds 4 = .ok (.iload_n 2, 1) := by decide +kernel
theorem dX8_helds_5 : decode cX8_helds 5 = .ok (.aload_n 0, 1) := by decide +kernel
theorem dX8_helds_6 : decode cX8_helds 6 = .ok (.getfield 9, 3) := by decide +kernel
theorem dX8_helds_9 : decode cX8_helds 9 = .ok (.bipush 55, 2) := by decide +kernel
theorem dX8_helds_11 : decode cX8_helds 11 = .ok (.iaload, 1) := by decide +kernel
theorem dX8_helds_12 : decode cX8_helds 12 = .ok (.if_icmp .ge 27, 3) := by decide +kernel
theorem dX8_helds_15 : decode cX8_helds 15 = .ok (.iload_n 1, 1) := by decide +kernel
theorem dX8_helds_16 : decode cX8_helds 16 = .ok (.aload_n 0, 1) := by decide +kernel
theorem dX8_helds_17 : decode cX8_helds 17 = .ok (.iload_n 2, 1) := by decide +kernel
theorem dX8_helds_18 : decode cX8_helds 18 = .ok (.invokevirtual 133, 3) := by decide +kernel
theorem dX8_helds_21 : decode cX8_helds 21 = .ok (.ifCond .eq 9, 3) := by decide +kernel
theorem dX8_helds_24 : decode cX8_helds 24 = .ok (.iconst 1, 1) := by decide +kernel
theorem dX8_helds_25 : decode cX8_helds 25 = .ok (.iload_n 2, 1) := by decide +kernel
theorem dX8_helds_26 : decode cX8_helds 26 = .ok (.ishl, 1) := by decide +kernel
theorem dX8_helds_27 : decode cX8_helds 27 = .ok (.goto 4, 3) := by decide +kernel
theorem dX8_helds_30 : decode cX8_helds 30 = .ok (.iconst 0, 1) := by decide +kernel
theorem dX8_helds_31 : decode cX8_helds 31 = .ok (.ior, 1) := by decide +kernel
theorem dX8_helds_32 : decode cX8_helds 32 = .ok (.istore_n 1, 1) := by decide +kernel
theorem dX8_helds_33 : decode cX8_helds 33 = .ok (.iinc 2 1, 3) := by decide +kernel
theorem dX8_helds_36 : decode cX8_helds 36 = .ok (.goto (-32), 3) := by decide +kernel
theorem dX8_helds_39 : decode cX8_helds 39 = .ok (.iload_n 1, 1) := by decide +kernel
theorem dX8_helds_40 : decode cX8_helds 40 = .ok (.ireturn, 1) := by decide +kernel
set_option maxRecDepth 20000 in
theorem ggX8_lasts_X8_isHeld : GoodIn wsX8_lasts wsX8_isHeld := goodIn_r _ [7, 8, 9, 10, 6, 11, 1, 127, 128, 129, 130, 131, 132, 133, 134, 135, 136, 137, 138, 139, 140, 141, 142, 143, 144, 145, 146, 147, 148, 149, 150, 151, 152, 153, 154, 155] rfl (by decide +kernel)
set_option maxRecDepth 20000 in
theorem gX8_lasts_X8_isHeld : GoodIn wsX8_lasts (wsV RX8 133 RX8 yX8_isHeld wsX8_isHeld) := goodIn_app (goodIn_of _ (by decide +kernel)) ggX8_lasts_X8_isHeld
set_option maxRecDepth 20000 in
theorem ggX8_lasts_X8_move : GoodIn wsX8_lasts wsX8_move := goodIn_r _ [14] rfl (by decide +kernel)
set_option maxRecDepth 20000 in
theorem gX8_lasts_X8_move : GoodIn wsX8_lasts (va_wsS RX8 75 yX8_move wsX8_move) := goodIn_app (goodIn_of _ (by decide +kernel)) ggX8_lasts_X8_move
set_option maxRecDepth 20000 in
theorem ggX8_lasts_X8_step : GoodIn wsX8_lasts wsX8_step := goodIn_r _ [18, 1, 19, 20, 21, 22, 23, 24, 25, 26, 27, 28, 29, 6, 30, 31, 32, 33, 34, 35, 36, 37, 38, 39, 40, 41, 42, 43, 44, 45, 46, 47, 48, 49, 3, 4, 5, 7, 8, 9, 10, 11, 50, 51, 52, 53, 54, 55, 56, 57, 58, 59, 60, 61, 62, 63, 64, 65, 66, 67, 68, 69, 70, 71, 72, 73, 74, 75, 76, 77, 78, 79, 80, 81, 82, 83, 84, 85, 86, 87, 88, 89, 90, 91, 92, 93, 94, 95, 96, 97, 98, 99, 100, 101, 102, 103, 104, 105, 106, 107, 108, 109, 110, 111, 112, 113, 114, 115, 116, 117, 118, 119, 120, 121, 122, 123, 124, 125, 126, 127, 128, 129, 130, 131, 132, 133, 134, 135, 136, 137, 138, 139, 140, 141, 142, 143, 144, 145, 146, 147, 148, 149, 150, 151, 152, 153, 154, 155] rfl (by decide +kernel)
set_option maxRecDepth 20000 in
theorem gX8_lasts_X8_step : GoodIn wsX8_lasts (wsV RX8 215 RX8 yX8_step wsX8_step) := goodIn_app (goodIn_of _ (by decide +kernel)) ggX8_lasts_X8_step
theorem dX8_lasts_0 : decode cX8_lasts 0 = .ok (.aload_n 0, 1) := by decide +kernel
theorem dX8_lasts_1 : decode cX8_lasts 1 = .ok (.iload_n 1, 1) := by decide +kernel
theorem dX8_lasts_2 : decode cX8_lasts 2 = .ok (.invokevirtual 133, 3) := by decide +kernel
theorem dX8_lasts_5 : decode cX8_lasts 5 = .ok (.ifCond .ne 6, 3) := by decide +kernel
theorem dX8_lasts_8 : decode cX8_lasts 8 = .ok (.bipush (-5), 2) := by decide +kernel
theorem dX8_lasts_10 : decode cX8_lasts 10 = .ok (.ireturn, 1) := by decide +kernel
theorem dX8_lasts_11 : decode cX8_lasts 11 = .ok (.aload_n 0, 1) := by decide +kernel
theorem dX8_lasts_12 : decode cX8_lasts 12 = .ok (.getfield 9, 3) := by decide +kernel
theorem dX8_lasts_15 : decode cX8_lasts 15 = .ok (.aload_n 0, 1) := by decide +kernel
theorem dX8_lasts_16 : decode cX8_lasts 16 = .ok (.getfield 15, 3) := by decide +kernel
theorem dX8_lasts_19 : decode cX8_lasts 19 = .ok (.invokestatic 75, 3) := by decide +kernel
theorem dX8_lasts_22 : decode cX8_lasts 22 = .ok (.bipush (-5), 2) := by decide +kernel
theorem dX8_lasts_24 : decode cX8_lasts 24 = .ok (.istore_n 2, 1) := by decide +kernel
theorem dX8_lasts_25 : decode cX8_lasts 25 = .ok (.iconst 0, 1) := by decide +kernel
theorem dX8_lasts_26 : decode cX8_lasts 26 = .ok (.istore_n 3, 1) := by decide +kernel
theorem dX8_lasts_27 : decode cX8_lasts 27 = .ok (.iload_n 3, 1) := by decide +kernel
theorem dX8_lasts_28 : decode cX8_lasts 28 = .ok (.bipush 60, 2) := by decide +kernel
theorem dX8_lasts_30 : decode cX8_lasts 30 = .ok (.if_icmp .gt 34, 3) := by decide +kernel
theorem dX8_lasts_33 : decode cX8_lasts 33 = .ok (.iload_n 2, 1) := by decide +kernel
theorem dX8_lasts_34 : decode cX8_lasts 34 = .ok (.bipush (-5), 2) := by decide +kernel
theorem dX8_lasts_36 : decode cX8_lasts 36 = .ok (.if_icmp .ne 28, 3) := by decide +kernel
theorem dX8_lasts_39 : decode cX8_lasts 39 = .ok (.aload_n 0, 1) := by decide +kernel
theorem dX8_lasts_40 : decode cX8_lasts 40 = .ok (.iload_n 1, 1) := by decide +kernel
theorem dX8_lasts_41 : decode cX8_lasts 41 = .ok (.invokevirtual 133, 3) := by decide +kernel
theorem dX8_lasts_44 : decode cX8_lasts 44 = .ok (.ifCond .eq 8, 3) := by decide +kernel
theorem dX8_lasts_47 : decode cX8_lasts 47 = .ok (.bipush (-5), 2) := by decide +kernel
theorem dX8_lasts_49 : decode cX8_lasts 49 = .ok (.goto 4, 3) := by decide +kernel
theorem dX8_lasts_52 : decode cX8_lasts 52 = .ok (.iload_n 3, 1) := by decide +kernel
theorem dX8_lasts_53 : decode cX8_lasts 53 = .ok (.istore_n 2, 1) := by decide +kernel
theorem dX8_lasts_54 : decode cX8_lasts 54 = .ok (.aload_n 0, 1) := by decide +kernel
theorem dX8_lasts_55 : decode cX8_lasts 55 = .ok (.invokevirtual 215, 3) := by decide +kernel
theorem dX8_lasts_58 : decode cX8_lasts 58 = .ok (.iinc 3 1, 3) := by decide +kernel
theorem dX8_lasts_61 : decode cX8_lasts 61 = .ok (.goto (-34), 3) := by decide +kernel
theorem dX8_lasts_64 : decode cX8_lasts 64 = .ok (.aload_n 0, 1) := by decide +kernel
theorem dX8_lasts_65 : decode cX8_lasts 65 = .ok (.getfield 15, 3) := by decide +kernel
theorem dX8_lasts_68 : decode cX8_lasts 68 = .ok (.aload_n 0, 1) := by decide +kernel
theorem dX8_lasts_69 : decode cX8_lasts 69 = .ok (.getfield 9, 3) := by decide +kernel
theorem dX8_lasts_72 : decode cX8_lasts 72 = .ok (.invokestatic 75, 3) := by decide +kernel
theorem dX8_lasts_75 : decode cX8_lasts 75 = .ok (.iload_n 2, 1) := by decide +kernel
theorem dX8_lasts_76 : decode cX8_lasts 76 = .ok (.ireturn, 1) := by decide +kernel
theorem dX8_late_0 : decode cX8_late 0 = .ok (.iload_n 0, 1) := by decide +kernel
theorem dX8_late_1 : decode cX8_late 1 = .ok (.bipush (-5), 2) := by decide +kernel
theorem dX8_late_3 : decode cX8_late 3 = .ok (.if_icmp .ne 9, 3) := by decide +kernel
theorem dX8_late_6 : decode cX8_late 6 = .ok (.sipush 1000, 3) := by decide +kernel
theorem dX8_late_9 : decode cX8_late 9 = .ok (.goto 4, 3) := by decide +kernel
theorem dX8_late_12 : decode cX8_late 12 = .ok (.iload_n 0, 1) := by decide +kernel
theorem dX8_late_13 : decode cX8_late 13 = .ok (.ireturn, 1) := by decide +kernel
set_option maxRecDepth 20000 in
theorem ggX8_partner_X8_isHeld : GoodIn wsX8_partner wsX8_isHeld := goodIn_r _ [10, 11, 12, 13, 9, 14, 1, 134, 135, 136, 137, 138, 139, 140, 141, 142, 143, 144, 145, 146, 147, 148, 149, 150, 151, 152, 153, 154, 155, 156, 157, 158, 159, 160, 161, 162] rfl (by decide +kernel)
set_option maxRecDepth 20000 in
theorem gX8_partner_X8_isHeld : GoodIn wsX8_partner (wsV RX8 133 RX8 yX8_isHeld wsX8_isHeld) := goodIn_app (goodIn_of _ (by decide +kernel)) ggX8_partner_X8_isHeld
set_option maxRecDepth 20000 in
theorem ggX8_partner_X8_holder : GoodIn wsX8_partner wsX8_holder := goodIn_r _ [14, 1, 134, 135, 136, 137, 138, 139, 140, 141, 142, 143, 144, 145, 146, 147, 148, 149, 150, 151, 152, 153, 154, 155, 156, 157, 158, 159, 160, 161, 162] rfl (by decide +kernel)
set_option maxRecDepth 20000 in
theorem gX8_partner_X8_holder : GoodIn wsX8_partner (wsV RX8 87 RX8 yX8_holder wsX8_holder) := goodIn_app (goodIn_of _ (by decide +kernel)) ggX8_partner_X8_holder
set_option maxRecDepth 20000 in
theorem ggX8_partner_X8_lasts : GoodIn wsX8_partner wsX8_lasts := goodIn_r _ [18, 1, 19, 6, 7, 8, 9, 10, 11, 12, 13, 14, 20, 21, 22, 23, 24, 25, 26, 27, 28, 29, 4, 30, 2, 3, 5, 31, 32, 33, 34, 35, 36, 37, 38, 39, 40, 41, 42, 43, 44, 45, 46, 47, 48, 49, 50, 51, 52, 53, 54, 55, 56, 57, 58, 59, 60, 61, 62, 63, 64, 65, 66, 67, 68, 69, 70, 71, 72, 73, 74, 75, 76, 77, 78, 79, 80, 81, 82, 83, 84, 85, 86, 87, 88, 89, 90, 91, 92, 93, 94, 95, 96, 97, 98, 99, 100, 101, 102, 103, 104, 105, 106, 107, 108, 109, 110, 111, 112, 113, 114, 115, 116, 117, 118, 119, 120, 121, 122, 123, 124, 125, 126, 127, 128, 129, 130, 134, 135, 136, 137, 138, 139, 140, 141, 142, 143, 144, 145, 146, 147, 148, 149, 150, 151, 152, 153, 154, 155, 156, 157, 158, 159, 160, 161, 162] rfl (by decide +kernel)
set_option maxRecDepth 20000 in
theorem gX8_partner_X8_lasts : GoodIn wsX8_partner (wsV RX8 118 RX8 yX8_lasts wsX8_lasts) := goodIn_app (goodIn_of _ (by decide +kernel)) ggX8_partner_X8_lasts
set_option maxRecDepth 20000 in
theorem ggX8_partner_X8_late : GoodIn wsX8_partner wsX8_late := goodIn_r _ [133] rfl (by decide +kernel)
set_option maxRecDepth 20000 in
theorem gX8_partner_X8_late : GoodIn wsX8_partner (va_wsS RX8 218 yX8_late wsX8_late) := goodIn_app (goodIn_of _ (by decide +kernel)) ggX8_partner_X8_late
set_option maxRecDepth 20000 in
theorem ggX8_partner_X8_holds : GoodIn wsX8_partner wsX8_holds := goodIn_r _ [130, 1, 134, 135, 136, 137, 138, 139, 140, 141, 142, 143, 144, 145, 146, 147, 148, 149, 150, 151, 152, 153, 154, 155, 156, 157, 158, 159, 160, 161, 162] rfl (by decide +kernel)
set_option maxRecDepth 20000 in
theorem gX8_partner_X8_holds : GoodIn wsX8_partner (wsV RX8 105 RX8 yX8_holds wsX8_holds) := goodIn_app (goodIn_of _ (by decide +kernel)) ggX8_partner_X8_holds
theorem dX8_partner_0 : decode cX8_partner 0 = .ok (.aload_n 0, 1) := by decide +kernel
theorem dX8_partner_1 : decode cX8_partner 1 = .ok (.iload_n 1, 1) := by decide +kernel
theorem dX8_partner_2 : decode cX8_partner 2 = .ok (.invokevirtual 133, 3) := by decide +kernel
theorem dX8_partner_5 : decode cX8_partner 5 = .ok (.ifCond .ne 6, 3) := by decide +kernel
theorem dX8_partner_8 : decode cX8_partner 8 = .ok (.bipush (-5), 2) := by decide +kernel
theorem dX8_partner_10 : decode cX8_partner 10 = .ok (.ireturn, 1) := by decide +kernel
theorem dX8_partner_11 : decode cX8_partner 11 = .ok (.aload_n 0, 1) := by decide +kernel
theorem dX8_partner_12 : decode cX8_partner 12 = .ok (.iload_n 1, 1) := by decide +kernel
theorem dX8_partner_13 : decode cX8_partner 13 = .ok (.iconst 1, 1) := by decide +kernel
theorem dX8_partner_14 : decode cX8_partner 14 = .ok (.invokevirtual 87, 3) := by decide +kernel
theorem dX8_partner_17 : decode cX8_partner 17 = .ok (.istore_n 2, 1) := by decide +kernel
theorem dX8_partner_18 : decode cX8_partner 18 = .ok (.aload_n 0, 1) := by decide +kernel
theorem dX8_partner_19 : decode cX8_partner 19 = .ok (.iload_n 1, 1) := by decide +kernel
theorem dX8_partner_20 : decode cX8_partner 20 = .ok (.iconst 2, 1) := by decide +kernel
theorem dX8_partner_21 : decode cX8_partner 21 = .ok (.invokevirtual 87, 3) := by decide +kernel
theorem dX8_partner_24 : decode cX8_partner 24 = .ok (.istore_n 3, 1) := by decide +kernel
theorem dX8_partner_25 : decode cX8_partner 25 = .ok (.aload_n 0, 1) := by decide +kernel
theorem dX8_partner_26 : decode cX8_partner 26 = .ok (.iload_n 1, 1) := by decide +kernel
theorem dX8_partner_27 : decode cX8_partner 27 = .ok (.invokevirtual 118, 3) := by decide +kernel
theorem dX8_partner_30 : decode cX8_partner 30 = .ok (.invokestatic 218, 3) := by decide +kernel
theorem dX8_partner_33 : decode cX8_partner 33 = .ok (.istore 4, 2) := by decide +kernel
theorem dX8_partner_35 : decode cX8_partner 35 = .ok (.bipush (-5), 2) := by decide +kernel
theorem dX8_partner_37 : decode cX8_partner 37 = .ok (.istore 5, 2) := by decide +kernel
theorem dX8_partner_39 : decode cX8_partner 39 = .ok (.iconst 0, 1) := by decide +kernel
theorem dX8_partner_40 : decode cX8_partner 40 = .ok (.istore 6, 2) := by decide +kernel
theorem dX8_partner_42 : decode cX8_partner 42 = .ok (.iload 6, 2) := by decide +kernel
theorem dX8_partner_44 : decode cX8_partner 44 = .ok (.aload_n 0, 1) := by decide +kernel
theorem dX8_partner_45 : decode cX8_partner 45 = .ok (.getfield 9, 3) := by decide +kernel
theorem dX8_partner_48 : decode cX8_partner 48 = .ok (.bipush 54, 2) := by decide +kernel
theorem dX8_partner_50 : decode cX8_partner 50 = .ok (.iaload, 1) := by decide +kernel
theorem dX8_partner_51 : decode cX8_partner 51 = .ok (.if_icmp .ge 64, 3) := by decide +kernel
theorem dX8_partner_54 : decode cX8_partner 54 = .ok (.iload 6, 2) := by decide +kernel
theorem dX8_partner_56 : decode cX8_partner 56 = .ok (.iload_n 2, 1) := by decide +kernel
theorem dX8_partner_57 : decode cX8_partner 57 = .ok (.if_icmp .eq 52, 3) := by decide +kernel
theorem dX8_partner_60 : decode cX8_partner 60 = .ok (.iload 6, 2) := by decide +kernel
theorem dX8_partner_62 : decode cX8_partner 62 = .ok (.iload_n 3, 1) := by decide +kernel
theorem dX8_partner_63 : decode cX8_partner 63 = .ok (.if_icmp .eq 46, 3) := by decide +kernel
theorem dX8_partner_66 : decode cX8_partner 66 = .ok (.aload_n 0, 1) := by decide +kernel
theorem dX8_partner_67 : decode cX8_partner 67 = .ok (.iload_n 1, 1) := by decide +kernel
theorem dX8_partner_68 : decode cX8_partner 68 = .ok (.iload_n 2, 1) := by decide +kernel
theorem dX8_partner_69 : decode cX8_partner 69 = .ok (.iload 6, 2) := by decide +kernel
theorem dX8_partner_71 : decode cX8_partner 71 = .ok (.invokevirtual 105, 3) := by decide +kernel
theorem dX8_partner_74 : decode cX8_partner 74 = .ok (.aload_n 0, 1) := by decide +kernel
theorem dX8_partner_75 : decode cX8_partner 75 = .ok (.iload_n 1, 1) := by decide +kernel
theorem dX8_partner_76 : decode cX8_partner 76 = .ok (.invokevirtual 118, 3) := by decide +kernel
theorem dX8_partner_79 : decode cX8_partner 79 = .ok (.invokestatic 218, 3) := by decide +kernel
theorem dX8_partner_82 : decode cX8_partner 82 = .ok (.istore 7, 2) := by decide +kernel
theorem dX8_partner_84 : decode cX8_partner 84 = .ok (.iload 7, 2) := by decide +kernel
theorem dX8_partner_86 : decode cX8_partner 86 = .ok (.iload 4, 2) := by decide +kernel
theorem dX8_partner_88 : decode cX8_partner 88 = .ok (.if_icmp .le 8, 3) := by decide +kernel
theorem dX8_partner_91 : decode cX8_partner 91 = .ok (.iload 6, 2) := by decide +kernel
theorem dX8_partner_93 : decode cX8_partner 93 = .ok (.goto 5, 3) := by decide +kernel
theorem dX8_partner_96 : decode cX8_partner 96 = .ok (.iload 5, 2) := by decide +kernel
theorem dX8_partner_98 : decode cX8_partner 98 = .ok (.istore 5, 2) := by decide +kernel
theorem dX8_partner_100 : decode cX8_partner 100 = .ok (.iload 7, 2) := by decide +kernel
theorem dX8_partner_102 : decode cX8_partner 102 = .ok (.iload 4, 2) := by decide +kernel
theorem dX8_partner_104 : decode cX8_partner 104 = .ok (.invokestatic 208, 3) := by decide +kernel
theorem dX8_partner_107 : decode cX8_partner 107 = .ok (.istore 4, 2) := by decide +kernel
theorem dX8_partner_109 : decode cX8_partner 109 = .ok (.iinc 6 1, 3) := by decide +kernel
theorem dX8_partner_112 : decode cX8_partner 112 = .ok (.goto (-70), 3) := by decide +kernel
theorem dX8_partner_115 : decode cX8_partner 115 = .ok (.aload_n 0, 1) := by decide +kernel
theorem dX8_partner_116 : decode cX8_partner 116 = .ok (.iload_n 1, 1) := by decide +kernel
theorem dX8_partner_117 : decode cX8_partner 117 = .ok (.iload_n 2, 1) := by decide +kernel
theorem dX8_partner_118 : decode cX8_partner 118 = .ok (.iload_n 3, 1) := by decide +kernel
theorem dX8_partner_119 : decode cX8_partner 119 = .ok (.invokevirtual 105, 3) := by decide +kernel
theorem dX8_partner_122 : decode cX8_partner 122 = .ok (.iload 5, 2) := by decide +kernel
theorem dX8_partner_124 : decode cX8_partner 124 = .ok (.ireturn, 1) := by decide +kernel
set_option maxRecDepth 20000 in
theorem ggX8_told_X8_bearNow : GoodIn wsX8_told wsX8_bearNow := goodIn_r _ [6, 7, 8, 9, 10, 5, 11, 12, 1, 13, 14, 15, 16, 17, 18, 19, 20, 21, 22, 23, 24, 25, 26, 27, 28, 29, 30, 31, 32, 33, 34, 35, 36, 37, 38, 39, 40, 41, 42, 43, 44, 45, 46, 47, 48, 49, 50, 51, 52, 53, 54, 55, 56, 57, 58, 59, 60, 61, 62, 63, 64, 65, 66, 67, 68, 69, 70, 71, 72, 73, 74, 75, 76, 77, 78, 79, 104, 105, 106, 107, 108, 109, 110, 111, 112, 113, 114, 115, 116, 117, 118, 119, 120, 121, 122, 123, 124, 125, 126, 127, 128, 129, 130, 131, 132] rfl (by decide +kernel)
set_option maxRecDepth 20000 in
theorem gX8_told_X8_bearNow : GoodIn wsX8_told (wsV RX8 202 RX8 yX8_bearNow wsX8_bearNow) := goodIn_app (goodIn_of _ (by decide +kernel)) ggX8_told_X8_bearNow
set_option maxRecDepth 20000 in
theorem ggX8_told_X8_tauts : GoodIn wsX8_told wsX8_tauts := goodIn_r _ [83, 1, 84, 85, 86, 5, 87, 26, 27, 28, 29, 30, 31, 32, 33, 88, 89, 90, 91, 92, 93, 94, 95, 18, 19, 20, 21, 96, 97, 98, 99, 104, 105, 106, 107, 108, 109, 110, 111, 112, 113, 114, 115, 116, 117, 118, 119, 120, 121, 122, 123, 124, 125, 126, 127, 128, 129, 130, 131, 132] rfl (by decide +kernel)
set_option maxRecDepth 20000 in
theorem gX8_told_X8_tauts : GoodIn wsX8_told (wsV RX8 221 RX8 yX8_tauts wsX8_tauts) := goodIn_app (goodIn_of _ (by decide +kernel)) ggX8_told_X8_tauts
set_option maxRecDepth 20000 in
theorem ggX8_told_X8_helds : GoodIn wsX8_told wsX8_helds := goodIn_r _ [103, 1, 26, 27, 28, 5, 29, 30, 31, 32, 33, 104, 105, 106, 107, 108, 109, 110, 111, 112, 113, 114, 115, 116, 117, 118, 119, 120, 121, 122, 123, 124, 125, 126, 127, 128, 129, 130, 131, 132] rfl (by decide +kernel)
set_option maxRecDepth 20000 in
theorem gX8_told_X8_helds : GoodIn wsX8_told (wsV RX8 224 RX8 yX8_helds wsX8_helds) := goodIn_app (goodIn_of _ (by decide +kernel)) ggX8_told_X8_helds
theorem dX8_told_0 : decode cX8_told 0 = .ok (.iload_n 1, 1) := by decide +kernel
theorem dX8_told_1 : decode cX8_told 1 = .ok (.tableswitch 66 0 4 #[35, 43, 48, 56, 61], 35) := by decide +kernel
theorem dX8_told_36 : decode cX8_told 36 = .ok (.aload_n 0, 1) := by decide +kernel
theorem dX8_told_37 : decode cX8_told 37 = .ok (.getfield 9, 3) := by decide +kernel
theorem dX8_told_40 : decode cX8_told 40 = .ok (.bipush 57, 2) := by decide +kernel
theorem dX8_told_42 : decode cX8_told 42 = .ok (.iaload, 1) := by decide +kernel
theorem dX8_told_43 : decode cX8_told 43 = .ok (.ireturn, 1) := by decide +kernel
theorem dX8_told_44 : decode cX8_told 44 = .ok (.aload_n 0, 1) := by decide +kernel
theorem dX8_told_45 : decode cX8_told 45 = .ok (.invokevirtual 202, 3) := by decide +kernel
theorem dX8_told_48 : decode cX8_told 48 = .ok (.ireturn, 1) := by decide +kernel
theorem dX8_told_49 : decode cX8_told 49 = .ok (.aload_n 0, 1) := by decide +kernel
theorem dX8_told_50 : decode cX8_told 50 = .ok (.getfield 9, 3) := by decide +kernel
theorem dX8_told_53 : decode cX8_told 53 = .ok (.bipush 56, 2) := by decide +kernel
theorem dX8_told_55 : decode cX8_told 55 = .ok (.iaload, 1) := by decide +kernel
theorem dX8_told_56 : decode cX8_told 56 = .ok (.ireturn, 1) := by decide +kernel
theorem dX8_told_57 : decode cX8_told 57 = .ok (.aload_n 0, 1) := by decide +kernel
theorem dX8_told_58 : decode cX8_told 58 = .ok (.invokevirtual 221, 3) := by decide +kernel
theorem dX8_told_61 : decode cX8_told 61 = .ok (.ireturn, 1) := by decide +kernel
theorem dX8_told_62 : decode cX8_told 62 = .ok (.aload_n 0, 1) := by decide +kernel
theorem dX8_told_63 : decode cX8_told 63 = .ok (.invokevirtual 224, 3) := by decide +kernel
theorem dX8_told_66 : decode cX8_told 66 = .ok (.ireturn, 1) := by decide +kernel
theorem dX8_told_67 : decode cX8_told 67 = .ok (.iconst (-1), 1) := by decide +kernel
theorem dX8_told_68 : decode cX8_told 68 = .ok (.ireturn, 1) := by decide +kernel
set_option maxRecDepth 20000 in
theorem ggX8_pass_X8_isIn : GoodIn wsX8_pass wsX8_isIn := goodIn_r _ [9] rfl (by decide +kernel)
set_option maxRecDepth 20000 in
theorem gX8_pass_X8_isIn : GoodIn wsX8_pass (va_wsS RX8 79 yX8_isIn wsX8_isIn) := goodIn_app (goodIn_of _ (by decide +kernel)) ggX8_pass_X8_isIn
set_option maxRecDepth 20000 in
theorem ggX8_pass_X8_steps : GoodIn wsX8_pass wsX8_steps := goodIn_r _ [13, 14, 15, 16, 8, 17, 1, 18, 2, 3, 4, 5, 19, 20, 21, 22, 23, 24, 25, 26, 27, 28, 29, 30, 31, 32, 33, 34, 35, 36, 37, 38, 39, 40, 41, 42, 43, 44, 45, 46, 47, 48, 49, 50, 51, 52, 53, 54, 55, 56, 57, 58, 59, 60, 61, 62, 63, 64, 65, 66, 67, 68, 69, 70, 71, 72, 73, 74, 75, 76, 77, 78, 79, 80, 81, 82, 83, 84, 85, 86, 87, 88, 89, 90, 91, 92, 93, 94, 95, 96, 97, 98, 99, 100, 101, 102, 103, 104, 105, 106, 107, 108, 109, 110, 111, 112, 113, 114, 115, 116, 117, 118, 119, 120, 121, 122, 123, 124, 125, 126, 127, 128, 129, 130, 131, 132, 133, 134, 135, 136, 137, 138, 139, 140, 141, 142, 143, 144, 145, 146, 147, 148, 149, 150, 151, 152, 153, 154, 155, 156, 157, 158] rfl (by decide +kernel)
set_option maxRecDepth 20000 in
theorem gX8_pass_X8_steps : GoodIn wsX8_pass (wsV RX8 227 RX8 yX8_steps wsX8_steps) := goodIn_app (goodIn_of _ (by decide +kernel)) ggX8_pass_X8_steps
theorem dX8_pass_0 : decode cX8_pass 0 = .ok (.iload_n 1, 1) := by decide +kernel
theorem dX8_pass_1 : decode cX8_pass 1 = .ok (.iconst 0, 1) := by decide +kernel
theorem dX8_pass_2 : decode cX8_pass 2 = .ok (.bipush 60, 2) := by decide +kernel
theorem dX8_pass_4 : decode cX8_pass 4 = .ok (.invokestatic 79, 3) := by decide +kernel
theorem dX8_pass_7 : decode cX8_pass 7 = .ok (.ifCond .ne 6, 3) := by decide +kernel
theorem dX8_pass_10 : decode cX8_pass 10 = .ok (.bipush (-2), 2) := by decide +kernel
theorem dX8_pass_12 : decode cX8_pass 12 = .ok (.ireturn, 1) := by decide +kernel
theorem dX8_pass_13 : decode cX8_pass 13 = .ok (.aload_n 0, 1) := by decide +kernel
theorem dX8_pass_14 : decode cX8_pass 14 = .ok (.getfield 9, 3) := by decide +kernel
theorem dX8_pass_17 : decode cX8_pass 17 = .ok (.bipush 57, 2) := by decide +kernel
theorem dX8_pass_19 : decode cX8_pass 19 = .ok (.iaload, 1) := by decide +kernel
theorem dX8_pass_20 : decode cX8_pass 20 = .ok (.iload_n 1, 1) := by decide +kernel
theorem dX8_pass_21 : decode cX8_pass 21 = .ok (.iadd, 1) := by decide +kernel
theorem dX8_pass_22 : decode cX8_pass 22 = .ok (.sipush 9999, 3) := by decide +kernel
theorem dX8_pass_25 : decode cX8_pass 25 = .ok (.if_icmp .le 6, 3) := by decide +kernel
theorem dX8_pass_28 : decode cX8_pass 28 = .ok (.bipush (-3), 2) := by decide +kernel
theorem dX8_pass_30 : decode cX8_pass 30 = .ok (.ireturn, 1) := by decide +kernel
theorem dX8_pass_31 : decode cX8_pass 31 = .ok (.aload_n 0, 1) := by decide +kernel
theorem dX8_pass_32 : decode cX8_pass 32 = .ok (.iload_n 1, 1) := by decide +kernel
theorem dX8_pass_33 : decode cX8_pass 33 = .ok (.invokevirtual 227, 3) := by decide +kernel
theorem dX8_pass_36 : decode cX8_pass 36 = .ok (.aload_n 0, 1) := by decide +kernel
theorem dX8_pass_37 : decode cX8_pass 37 = .ok (.getfield 9, 3) := by decide +kernel
theorem dX8_pass_40 : decode cX8_pass 40 = .ok (.bipush 56, 2) := by decide +kernel
theorem dX8_pass_42 : decode cX8_pass 42 = .ok (.sipush 9999, 3) := by decide +kernel
theorem dX8_pass_45 : decode cX8_pass 45 = .ok (.aload_n 0, 1) := by decide +kernel
theorem dX8_pass_46 : decode cX8_pass 46 = .ok (.getfield 9, 3) := by decide +kernel
theorem dX8_pass_49 : decode cX8_pass 49 = .ok (.bipush 56, 2) := by decide +kernel
theorem dX8_pass_51 : decode cX8_pass 51 = .ok (.iaload, 1) := by decide +kernel
theorem dX8_pass_52 : decode cX8_pass 52 = .ok (.invokestatic 205, 3) := by decide +kernel
theorem dX8_pass_55 : decode cX8_pass 55 = .ok (.iastore, 1) := by decide +kernel
theorem dX8_pass_56 : decode cX8_pass 56 = .ok (.aload_n 0, 1) := by decide +kernel
theorem dX8_pass_57 : decode cX8_pass 57 = .ok (.getfield 9, 3) := by decide +kernel
theorem dX8_pass_60 : decode cX8_pass 60 = .ok (.bipush 57, 2) := by decide +kernel
theorem dX8_pass_62 : decode cX8_pass 62 = .ok (.iaload, 1) := by decide +kernel
theorem dX8_pass_63 : decode cX8_pass 63 = .ok (.ireturn, 1) := by decide +kernel
set_option maxRecDepth 20000 in
theorem ggX8_on_X8_isIn : GoodIn wsX8_on wsX8_isIn := goodIn_r _ [6] rfl (by decide +kernel)
set_option maxRecDepth 20000 in
theorem gX8_on_X8_isIn : GoodIn wsX8_on (va_wsS RX8 79 yX8_isIn wsX8_isIn) := goodIn_app (goodIn_of _ (by decide +kernel)) ggX8_on_X8_isIn
set_option maxRecDepth 20000 in
theorem ggX8_on_X8_isOne : GoodIn wsX8_on wsX8_isOne := goodIn_r _ [10, 1, 3, 4, 5, 6, 146, 147, 148, 149, 150, 151, 152, 153, 154, 155, 156, 157, 158, 159, 160, 161, 162, 163, 164, 165, 166, 167, 168, 169, 170, 171, 172, 173, 174] rfl (by decide +kernel)
set_option maxRecDepth 20000 in
theorem gX8_on_X8_isOne : GoodIn wsX8_on (wsV RX8 94 RX8 yX8_isOne wsX8_isOne) := goodIn_app (goodIn_of _ (by decide +kernel)) ggX8_on_X8_isOne
set_option maxRecDepth 20000 in
theorem ggX8_on_X8_move : GoodIn wsX8_on wsX8_move := goodIn_r _ [13] rfl (by decide +kernel)
set_option maxRecDepth 20000 in
theorem gX8_on_X8_move : GoodIn wsX8_on (va_wsS RX8 75 yX8_move wsX8_move) := goodIn_app (goodIn_of _ (by decide +kernel)) ggX8_on_X8_move
set_option maxRecDepth 20000 in
theorem ggX8_on_X8_steps : GoodIn wsX8_on wsX8_steps := goodIn_r _ [17, 18, 19, 20, 5, 21, 1, 22, 23, 24, 25, 26, 27, 28, 29, 30, 31, 32, 33, 34, 35, 36, 37, 38, 39, 40, 41, 42, 43, 44, 45, 46, 47, 48, 49, 50, 51, 52, 53, 54, 55, 56, 57, 58, 59, 60, 61, 62, 63, 64, 65, 66, 67, 68, 69, 70, 71, 72, 73, 74, 75, 76, 77, 78, 79, 80, 81, 82, 83, 84, 85, 86, 87, 88, 89, 90, 91, 92, 93, 94, 95, 96, 97, 98, 99, 100, 101, 102, 103, 104, 105, 106, 107, 108, 109, 110, 111, 112, 113, 114, 115, 116, 117, 118, 119, 120, 121, 122, 123, 124, 125, 126, 127, 128, 129, 130, 131, 132, 133, 134, 135, 136, 137, 146, 147, 148, 149, 150, 151, 152, 153, 154, 155, 156, 157, 158, 159, 160, 161, 162, 163, 164, 165, 166, 167, 168, 169, 170, 171, 172, 173, 174] rfl (by decide +kernel)
set_option maxRecDepth 20000 in
theorem gX8_on_X8_steps : GoodIn wsX8_on (wsV RX8 227 RX8 yX8_steps wsX8_steps) := goodIn_app (goodIn_of _ (by decide +kernel)) ggX8_on_X8_steps
set_option maxRecDepth 20000 in
theorem ggX8_on_X8_tauts : GoodIn wsX8_on wsX8_tauts := goodIn_r _ [141, 1, 119, 120, 121, 5, 122, 53, 54, 55, 56, 57, 58, 59, 60, 123, 124, 125, 126, 127, 128, 25, 129, 45, 46, 47, 48, 130, 131, 132, 133, 146, 147, 148, 149, 150, 151, 152, 153, 154, 155, 156, 157, 158, 159, 160, 161, 162, 163, 164, 165, 166, 167, 168, 169, 170, 171, 172, 173, 174] rfl (by decide +kernel)
set_option maxRecDepth 20000 in
theorem gX8_on_X8_tauts : GoodIn wsX8_on (wsV RX8 221 RX8 yX8_tauts wsX8_tauts) := goodIn_app (goodIn_of _ (by decide +kernel)) ggX8_on_X8_tauts
set_option maxRecDepth 20000 in
theorem ggX8_on_X8_helds : GoodIn wsX8_on wsX8_helds := goodIn_r _ [145, 1, 53, 54, 55, 5, 56, 57, 58, 59, 60, 146, 147, 148, 149, 150, 151, 152, 153, 154, 155, 156, 157, 158, 159, 160, 161, 162, 163, 164, 165, 166, 167, 168, 169, 170, 171, 172, 173, 174] rfl (by decide +kernel)
set_option maxRecDepth 20000 in
theorem gX8_on_X8_helds : GoodIn wsX8_on (wsV RX8 224 RX8 yX8_helds wsX8_helds) := goodIn_app (goodIn_of _ (by decide +kernel)) ggX8_on_X8_helds
set_option maxRecDepth 20000 in
theorem ggX8_on_X8_number : GoodIn wsX8_on wsX8_number := goodIn_r _ [48, 1, 146, 147, 148, 149, 150, 151, 152, 153, 154, 155, 156, 157, 158, 159, 160, 161, 162, 163, 164, 165, 166, 167, 168, 169, 170, 171, 172, 173, 174] rfl (by decide +kernel)
set_option maxRecDepth 20000 in
theorem gX8_on_X8_number : GoodIn wsX8_on (wsV RX8 83 RX8 yX8_number wsX8_number) := goodIn_app (goodIn_of _ (by decide +kernel)) ggX8_on_X8_number
theorem dX8_on_0 : decode cX8_on 0 = .ok (.iload_n 2, 1) := by decide +kernel
theorem dX8_on_1 : decode cX8_on 1 = .ok (.iconst 0, 1) := by decide +kernel
theorem dX8_on_2 : decode cX8_on 2 = .ok (.iconst 2, 1) := by decide +kernel
theorem dX8_on_3 : decode cX8_on 3 = .ok (.invokestatic 79, 3) := by decide +kernel
theorem dX8_on_6 : decode cX8_on 6 = .ok (.ifCond .ne 16, 3) := by decide +kernel
theorem dX8_on_9 : decode cX8_on 9 = .ok (.aload_n 0, 1) := by decide +kernel
theorem dX8_on_10 : decode cX8_on 10 = .ok (.iload_n 2, 1) := by decide +kernel
theorem dX8_on_11 : decode cX8_on 11 = .ok (.bipush 10, 2) := by decide +kernel
theorem dX8_on_13 : decode cX8_on 13 = .ok (.isub, 1) := by decide +kernel
theorem dX8_on_14 : decode cX8_on 14 = .ok (.invokevirtual 94, 3) := by decide +kernel
theorem dX8_on_17 : decode cX8_on 17 = .ok (.ifCond .ne 5, 3) := by decide +kernel
theorem dX8_on_20 : decode cX8_on 20 = .ok (.iconst (-1), 1) := by decide +kernel
theorem dX8_on_21 : decode cX8_on 21 = .ok (.ireturn, 1) := by decide +kernel
theorem dX8_on_22 : decode cX8_on 22 = .ok (.iload_n 1, 1) := by decide +kernel
theorem dX8_on_23 : decode cX8_on 23 = .ok (.iconst 0, 1) := by decide +kernel
theorem dX8_on_24 : decode cX8_on 24 = .ok (.bipush 60, 2) := by decide +kernel
theorem dX8_on_26 : decode cX8_on 26 = .ok (.invokestatic 79, 3) := by decide +kernel
theorem dX8_on_29 : decode cX8_on 29 = .ok (.ifCond .ne 6, 3) := by decide +kernel
theorem dX8_on_32 : decode cX8_on 32 = .ok (.bipush (-2), 2) := by decide +kernel
theorem dX8_on_34 : decode cX8_on 34 = .ok (.ireturn, 1) := by decide +kernel
theorem dX8_on_35 : decode cX8_on 35 = .ok (.aload_n 0, 1) := by decide +kernel
theorem dX8_on_36 : decode cX8_on 36 = .ok (.getfield 9, 3) := by decide +kernel
theorem dX8_on_39 : decode cX8_on 39 = .ok (.aload_n 0, 1) := by decide +kernel
theorem dX8_on_40 : decode cX8_on 40 = .ok (.getfield 15, 3) := by decide +kernel
theorem dX8_on_43 : decode cX8_on 43 = .ok (.invokestatic 75, 3) := by decide +kernel
theorem dX8_on_46 : decode cX8_on 46 = .ok (.aload_n 0, 1) := by decide +kernel
theorem dX8_on_47 : decode cX8_on 47 = .ok (.iload_n 1, 1) := by decide +kernel
theorem dX8_on_48 : decode cX8_on 48 = .ok (.invokevirtual 227, 3) := by decide +kernel
theorem dX8_on_51 : decode cX8_on 51 = .ok (.iload_n 2, 1) := by decide +kernel
theorem dX8_on_52 : decode cX8_on 52 = .ok (.ifCond .ne 13, 3) := by decide +kernel
theorem dX8_on_55 : decode cX8_on 55 = .ok (.aload_n 0, 1) := by decide +kernel
theorem dX8_on_56 : decode cX8_on 56 = .ok (.getfield 9, 3) := by decide +kernel
theorem dX8_on_59 : decode cX8_on 59 = .ok (.bipush 56, 2) := by decide +kernel
theorem dX8_on_61 : decode cX8_on 61 = .ok (.iaload, 1) := by decide +kernel
theorem dX8_on_62 : decode cX8_on 62 = .ok (.goto 36, 3) := by decide +kernel
theorem dX8_on_65 : decode cX8_on 65 = .ok (.iload_n 2, 1) := by decide +kernel
theorem dX8_on_66 : decode cX8_on 66 = .ok (.iconst 1, 1) := by decide +kernel
theorem dX8_on_67 : decode cX8_on 67 = .ok (.if_icmp .ne 10, 3) := by decide +kernel
theorem dX8_on_70 : decode cX8_on 70 = .ok (.aload_n 0, 1) := by decide +kernel
theorem dX8_on_71 : decode cX8_on 71 = .ok (.invokevirtual 221, 3) := by decide +kernel
theorem dX8_on_74 : decode cX8_on 74 = .ok (.goto 24, 3) := by decide +kernel
theorem dX8_on_77 : decode cX8_on 77 = .ok (.iload_n 2, 1) := by decide +kernel
theorem dX8_on_78 : decode cX8_on 78 = .ok (.iconst 2, 1) := by decide +kernel
theorem dX8_on_79 : decode cX8_on 79 = .ok (.if_icmp .ne 10, 3) := by decide +kernel
theorem dX8_on_82 : decode cX8_on 82 = .ok (.aload_n 0, 1) := by decide +kernel
theorem dX8_on_83 : decode cX8_on 83 = .ok (.invokevirtual 224, 3) := by decide +kernel
theorem dX8_on_86 : decode cX8_on 86 = .ok (.goto 12, 3) := by decide +kernel
theorem dX8_on_89 : decode cX8_on 89 = .ok (.aload_n 0, 1) := by decide +kernel
theorem dX8_on_90 : decode cX8_on 90 = .ok (.iload_n 2, 1) := by decide +kernel
theorem dX8_on_91 : decode cX8_on 91 = .ok (.bipush 10, 2) := by decide +kernel
theorem dX8_on_93 : decode cX8_on 93 = .ok (.isub, 1) := by decide +kernel
theorem dX8_on_94 : decode cX8_on 94 = .ok (.iconst 2, 1) := by decide +kernel
theorem dX8_on_95 : decode cX8_on 95 = .ok (.invokevirtual 83, 3) := by decide +kernel
theorem dX8_on_98 : decode cX8_on 98 = .ok (.istore_n 3, 1) := by decide +kernel
theorem dX8_on_99 : decode cX8_on 99 = .ok (.aload_n 0, 1) := by decide +kernel
theorem dX8_on_100 : decode cX8_on 100 = .ok (.getfield 15, 3) := by decide +kernel
theorem dX8_on_103 : decode cX8_on 103 = .ok (.aload_n 0, 1) := by decide +kernel
theorem dX8_on_104 : decode cX8_on 104 = .ok (.getfield 9, 3) := by decide +kernel
theorem dX8_on_107 : decode cX8_on 107 = .ok (.invokestatic 75, 3) := by decide +kernel
theorem dX8_on_110 : decode cX8_on 110 = .ok (.iload_n 3, 1) := by decide +kernel
theorem dX8_on_111 : decode cX8_on 111 = .ok (.ireturn, 1) := by decide +kernel
set_option maxRecDepth 20000 in
theorem ggX8_meets_X8_isOne : GoodIn wsX8_meets wsX8_isOne := goodIn_r _ [7, 1, 8, 9, 6, 10, 134, 135, 136, 137, 138, 139, 140, 141, 142, 143, 144, 145, 146, 147, 148, 149, 150, 151, 152, 153, 154, 155, 156, 157, 158, 159, 160, 161, 162] rfl (by decide +kernel)
set_option maxRecDepth 20000 in
theorem gX8_meets_X8_isOne : GoodIn wsX8_meets (wsV RX8 94 RX8 yX8_isOne wsX8_isOne) := goodIn_app (goodIn_of _ (by decide +kernel)) ggX8_meets_X8_isOne
set_option maxRecDepth 20000 in
theorem ggX8_meets_X8_move : GoodIn wsX8_meets wsX8_move := goodIn_r _ [13] rfl (by decide +kernel)
set_option maxRecDepth 20000 in
theorem gX8_meets_X8_move : GoodIn wsX8_meets (va_wsS RX8 75 yX8_move wsX8_move) := goodIn_app (goodIn_of _ (by decide +kernel)) ggX8_meets_X8_move
set_option maxRecDepth 20000 in
theorem ggX8_meets_X8_number : GoodIn wsX8_meets wsX8_number := goodIn_r _ [17, 1, 134, 135, 136, 137, 138, 139, 140, 141, 142, 143, 144, 145, 146, 147, 148, 149, 150, 151, 152, 153, 154, 155, 156, 157, 158, 159, 160, 161, 162] rfl (by decide +kernel)
set_option maxRecDepth 20000 in
theorem gX8_meets_X8_number : GoodIn wsX8_meets (wsV RX8 83 RX8 yX8_number wsX8_number) := goodIn_app (goodIn_of _ (by decide +kernel)) ggX8_meets_X8_number
set_option maxRecDepth 20000 in
theorem ggX8_meets_X8_step : GoodIn wsX8_meets wsX8_step := goodIn_r _ [21, 1, 22, 23, 24, 25, 26, 27, 28, 29, 30, 31, 32, 6, 33, 34, 35, 36, 37, 38, 39, 40, 41, 42, 43, 44, 14, 15, 16, 17, 45, 46, 47, 48, 49, 50, 51, 52, 53, 54, 55, 56, 57, 58, 59, 60, 61, 62, 63, 64, 65, 66, 67, 68, 69, 70, 71, 72, 73, 74, 75, 76, 77, 78, 79, 80, 81, 82, 83, 84, 85, 86, 87, 88, 89, 90, 91, 92, 93, 94, 95, 96, 97, 98, 99, 100, 101, 102, 103, 104, 105, 106, 107, 108, 109, 110, 111, 112, 113, 114, 115, 116, 117, 118, 119, 120, 121, 122, 123, 124, 125, 126, 127, 128, 129, 130, 131, 132, 133, 134, 135, 136, 137, 138, 139, 140, 141, 142, 143, 144, 145, 146, 147, 148, 149, 150, 151, 152, 153, 154, 155, 156, 157, 158, 159, 160, 161, 162] rfl (by decide +kernel)
set_option maxRecDepth 20000 in
theorem gX8_meets_X8_step : GoodIn wsX8_meets (wsV RX8 215 RX8 yX8_step wsX8_step) := goodIn_app (goodIn_of _ (by decide +kernel)) ggX8_meets_X8_step
theorem dX8_meets_0 : decode cX8_meets 0 = .ok (.aload_n 0, 1) := by decide +kernel
theorem dX8_meets_1 : decode cX8_meets 1 = .ok (.iload_n 1, 1) := by decide +kernel
theorem dX8_meets_2 : decode cX8_meets 2 = .ok (.invokevirtual 94, 3) := by decide +kernel
theorem dX8_meets_5 : decode cX8_meets 5 = .ok (.ifCond .eq 11, 3) := by decide +kernel
theorem dX8_meets_8 : decode cX8_meets 8 = .ok (.aload_n 0, 1) := by decide +kernel
theorem dX8_meets_9 : decode cX8_meets 9 = .ok (.iload_n 2, 1) := by decide +kernel
theorem dX8_meets_10 : decode cX8_meets 10 = .ok (.invokevirtual 94, 3) := by decide +kernel
theorem dX8_meets_13 : decode cX8_meets 13 = .ok (.ifCond .ne 5, 3) := by decide +kernel
theorem dX8_meets_16 : decode cX8_meets 16 = .ok (.iconst (-1), 1) := by decide +kernel
theorem dX8_meets_17 : decode cX8_meets 17 = .ok (.ireturn, 1) := by decide +kernel
theorem dX8_meets_18 : decode cX8_meets 18 = .ok (.iload_n 1, 1) := by decide +kernel
theorem dX8_meets_19 : decode cX8_meets 19 = .ok (.iload_n 2, 1) := by decide +kernel
theorem dX8_meets_20 : decode cX8_meets 20 = .ok (.if_icmp .ne 6, 3) := by decide +kernel
theorem dX8_meets_23 : decode cX8_meets 23 = .ok (.bipush (-2), 2) := by decide +kernel
theorem dX8_meets_25 : decode cX8_meets 25 = .ok (.ireturn, 1) := by decide +kernel
theorem dX8_meets_26 : decode cX8_meets 26 = .ok (.aload_n 0, 1) := by decide +kernel
theorem dX8_meets_27 : decode cX8_meets 27 = .ok (.getfield 9, 3) := by decide +kernel
theorem dX8_meets_30 : decode cX8_meets 30 = .ok (.aload_n 0, 1) := by decide +kernel
theorem dX8_meets_31 : decode cX8_meets 31 = .ok (.getfield 15, 3) := by decide +kernel
theorem dX8_meets_34 : decode cX8_meets 34 = .ok (.invokestatic 75, 3) := by decide +kernel
theorem dX8_meets_37 : decode cX8_meets 37 = .ok (.bipush (-5), 2) := by decide +kernel
theorem dX8_meets_39 : decode cX8_meets 39 = .ok (.istore_n 3, 1) := by decide +kernel
theorem dX8_meets_40 : decode cX8_meets 40 = .ok (.iconst 0, 1) := by decide +kernel
theorem dX8_meets_41 : decode cX8_meets 41 = .ok (.istore 4, 2) := by decide +kernel
theorem dX8_meets_43 : decode cX8_meets 43 = .ok (.iload 4, 2) := by decide +kernel
theorem dX8_meets_45 : decode cX8_meets 45 = .ok (.bipush 60, 2) := by decide +kernel
theorem dX8_meets_47 : decode cX8_meets 47 = .ok (.if_icmp .gt 42, 3) := by decide +kernel
theorem dX8_meets_50 : decode cX8_meets 50 = .ok (.iload_n 3, 1) := by decide +kernel
theorem dX8_meets_51 : decode cX8_meets 51 = .ok (.bipush (-5), 2) := by decide +kernel
theorem dX8_meets_53 : decode cX8_meets 53 = .ok (.if_icmp .ne 36, 3) := by decide +kernel
theorem dX8_meets_56 : decode cX8_meets 56 = .ok (.aload_n 0, 1) := by decide +kernel
theorem dX8_meets_57 : decode cX8_meets 57 = .ok (.iload_n 1, 1) := by decide +kernel
theorem dX8_meets_58 : decode cX8_meets 58 = .ok (.iconst 2, 1) := by decide +kernel
theorem dX8_meets_59 : decode cX8_meets 59 = .ok (.invokevirtual 83, 3) := by decide +kernel
theorem dX8_meets_62 : decode cX8_meets 62 = .ok (.aload_n 0, 1) := by decide +kernel
theorem dX8_meets_63 : decode cX8_meets 63 = .ok (.iload_n 2, 1) := by decide +kernel
theorem dX8_meets_64 : decode cX8_meets 64 = .ok (.iconst 2, 1) := by decide +kernel
theorem dX8_meets_65 : decode cX8_meets 65 = .ok (.invokevirtual 83, 3) := by decide +kernel
theorem dX8_meets_68 : decode cX8_meets 68 = .ok (.if_icmp .ne 8, 3) := by decide +kernel
theorem dX8_meets_71 : decode cX8_meets 71 = .ok (.iload 4, 2) := by decide +kernel
theorem dX8_meets_73 : decode cX8_meets 73 = .ok (.goto 5, 3) := by decide +kernel
theorem dX8_meets_76 : decode cX8_meets 76 = .ok (.bipush (-5), 2) := by decide +kernel
theorem dX8_meets_78 : decode cX8_meets 78 = .ok (.istore_n 3, 1) := by decide +kernel
theorem dX8_meets_79 : decode cX8_meets 79 = .ok (.aload_n 0, 1) := by decide +kernel
theorem dX8_meets_80 : decode cX8_meets 80 = .ok (.invokevirtual 215, 3) := by decide +kernel
theorem dX8_meets_83 : decode cX8_meets 83 = .ok (.iinc 4 1, 3) := by decide +kernel
theorem dX8_meets_86 : decode cX8_meets 86 = .ok (.goto (-43), 3) := by decide +kernel
theorem dX8_meets_89 : decode cX8_meets 89 = .ok (.aload_n 0, 1) := by decide +kernel
theorem dX8_meets_90 : decode cX8_meets 90 = .ok (.getfield 15, 3) := by decide +kernel
theorem dX8_meets_93 : decode cX8_meets 93 = .ok (.aload_n 0, 1) := by decide +kernel
theorem dX8_meets_94 : decode cX8_meets 94 = .ok (.getfield 9, 3) := by decide +kernel
theorem dX8_meets_97 : decode cX8_meets 97 = .ok (.invokestatic 75, 3) := by decide +kernel
theorem dX8_meets_100 : decode cX8_meets 100 = .ok (.iload_n 3, 1) := by decide +kernel
theorem dX8_meets_101 : decode cX8_meets 101 = .ok (.ireturn, 1) := by decide +kernel
set_option maxRecDepth 20000 in
theorem ggX8_swap_X8_number : GoodIn wsX8_swap wsX8_number := goodIn_r _ [5, 6, 11, 12, 13, 14, 15, 16, 17, 18, 19, 20, 21, 22, 23, 24, 25, 26, 27, 28, 29, 30, 31, 32, 33, 34, 35, 36, 37, 38, 39] rfl (by decide +kernel)
set_option maxRecDepth 20000 in
theorem gX8_swap_X8_number : GoodIn wsX8_swap (wsV RX8 83 RX8 yX8_number wsX8_number) := goodIn_app (goodIn_of _ (by decide +kernel)) ggX8_swap_X8_number
set_option maxRecDepth 20000 in
theorem ggX8_swap_X8_change : GoodIn wsX8_swap wsX8_change := goodIn_r _ [10, 6, 1, 2, 3, 4, 5, 11, 12, 13, 14, 15, 16, 17, 18, 19, 20, 21, 22, 23, 24, 25, 26, 27, 28, 29, 30, 31, 32, 33, 34, 35, 36, 37, 38, 39] rfl (by decide +kernel)
set_option maxRecDepth 20000 in
theorem gX8_swap_X8_change : GoodIn wsX8_swap (wsV RX8 90 RX8 yX8_change wsX8_change) := goodIn_app (goodIn_of _ (by decide +kernel)) ggX8_swap_X8_change
theorem dX8_swap_0 : decode cX8_swap 0 = .ok (.aload_n 0, 1) := by decide +kernel
theorem dX8_swap_1 : decode cX8_swap 1 = .ok (.iload_n 1, 1) := by decide +kernel
theorem dX8_swap_2 : decode cX8_swap 2 = .ok (.iconst 2, 1) := by decide +kernel
theorem dX8_swap_3 : decode cX8_swap 3 = .ok (.aload_n 0, 1) := by decide +kernel
theorem dX8_swap_4 : decode cX8_swap 4 = .ok (.iload_n 2, 1) := by decide +kernel
theorem dX8_swap_5 : decode cX8_swap 5 = .ok (.iconst 2, 1) := by decide +kernel
theorem dX8_swap_6 : decode cX8_swap 6 = .ok (.invokevirtual 83, 3) := by decide +kernel
theorem dX8_swap_9 : decode cX8_swap 9 = .ok (.invokevirtual 90, 3) := by decide +kernel
theorem dX8_swap_12 : decode cX8_swap 12 = .ok (.istore_n 3, 1) := by decide +kernel
theorem dX8_swap_13 : decode cX8_swap 13 = .ok (.aload_n 0, 1) := by decide +kernel
theorem dX8_swap_14 : decode cX8_swap 14 = .ok (.iload_n 2, 1) := by decide +kernel
theorem dX8_swap_15 : decode cX8_swap 15 = .ok (.iconst 2, 1) := by decide +kernel
theorem dX8_swap_16 : decode cX8_swap 16 = .ok (.iload_n 3, 1) := by decide +kernel
theorem dX8_swap_17 : decode cX8_swap 17 = .ok (.invokevirtual 90, 3) := by decide +kernel
theorem dX8_swap_20 : decode cX8_swap 20 = .ok (.pop, 1) := by decide +kernel
theorem dX8_swap_21 : decode cX8_swap 21 = .ok (.return_, 1) := by decide +kernel
set_option maxRecDepth 20000 in
theorem ggX8_changeOf_X8_on : GoodIn wsX8_changeOf wsX8_on := goodIn_r _ [10, 1, 11, 12, 13, 9, 14, 15, 16, 17, 18, 19, 20, 21, 22, 23, 24, 25, 26, 27, 28, 29, 30, 2, 3, 4, 5, 31, 32, 33, 34, 35, 36, 37, 38, 39, 40, 41, 42, 43, 44, 45, 46, 47, 48, 49, 50, 51, 52, 53, 54, 55, 56, 57, 58, 59, 60, 61, 62, 63, 64, 65, 66, 67, 68, 69, 70, 71, 72, 73, 74, 75, 76, 77, 78, 79, 80, 81, 82, 83, 84, 85, 86, 87, 88, 89, 90, 91, 92, 93, 94, 95, 96, 97, 98, 99, 100, 101, 102, 103, 104, 105, 106, 107, 108, 109, 110, 111, 112, 113, 114, 115, 116, 117, 118, 119, 120, 121, 122, 123, 124, 125, 126, 127, 128, 129, 130, 131, 132, 133, 134, 135, 136, 137, 138, 139, 140, 141, 142, 143, 144, 145, 146, 147, 148, 149, 154, 155, 156, 157, 158, 159, 160, 161, 162, 163, 164, 165, 166, 167, 168, 169, 170, 171, 172, 173, 174, 175, 176, 177, 178, 179, 180, 181, 182] rfl (by decide +kernel)
set_option maxRecDepth 20000 in
theorem gX8_changeOf_X8_on : GoodIn wsX8_changeOf (wsV RX8 230 RX8 yX8_on wsX8_on) := goodIn_app (goodIn_of _ (by decide +kernel)) ggX8_changeOf_X8_on
set_option maxRecDepth 20000 in
theorem ggX8_changeOf_X8_swap : GoodIn wsX8_changeOf wsX8_swap := goodIn_r _ [153, 49, 50, 51, 9, 52, 1, 115, 116, 117, 118, 154, 155, 156, 157, 158, 159, 160, 161, 162, 163, 164, 165, 166, 167, 168, 169, 170, 171, 172, 173, 174, 175, 176, 177, 178, 179, 180, 181, 182] rfl (by decide +kernel)
set_option maxRecDepth 20000 in
theorem gX8_changeOf_X8_swap : GoodIn wsX8_changeOf (wsV RX8 233 RX8 yX8_swap wsX8_swap) := goodIn_app (goodIn_of _ (by decide +kernel)) ggX8_changeOf_X8_swap
theorem dX8_changeOf_0 : decode cX8_changeOf 0 = .ok (.aload_n 0, 1) := by decide +kernel
theorem dX8_changeOf_1 : decode cX8_changeOf 1 = .ok (.iload_n 1, 1) := by decide +kernel
theorem dX8_changeOf_2 : decode cX8_changeOf 2 = .ok (.iconst 0, 1) := by decide +kernel
theorem dX8_changeOf_3 : decode cX8_changeOf 3 = .ok (.invokevirtual 230, 3) := by decide +kernel
theorem dX8_changeOf_6 : decode cX8_changeOf 6 = .ok (.istore_n 2, 1) := by decide +kernel
theorem dX8_changeOf_7 : decode cX8_changeOf 7 = .ok (.bipush (-5), 2) := by decide +kernel
theorem dX8_changeOf_9 : decode cX8_changeOf 9 = .ok (.istore_n 3, 1) := by decide +kernel
theorem dX8_changeOf_10 : decode cX8_changeOf 10 = .ok (.iconst 0, 1) := by decide +kernel
theorem dX8_changeOf_11 : decode cX8_changeOf 11 = .ok (.istore 4, 2) := by decide +kernel
theorem dX8_changeOf_13 : decode cX8_changeOf 13 = .ok (.iload 4, 2) := by decide +kernel
theorem dX8_changeOf_15 : decode cX8_changeOf 15 = .ok (.aload_n 0, 1) := by decide +kernel
theorem dX8_changeOf_16 : decode cX8_changeOf 16 = .ok (.getfield 9, 3) := by decide +kernel
theorem dX8_changeOf_19 : decode cX8_changeOf 19 = .ok (.bipush 54, 2) := by decide +kernel
theorem dX8_changeOf_21 : decode cX8_changeOf 21 = .ok (.iaload, 1) := by decide +kernel
theorem dX8_changeOf_22 : decode cX8_changeOf 22 = .ok (.if_icmp .ge 83, 3) := by decide +kernel
theorem dX8_changeOf_25 : decode cX8_changeOf 25 = .ok (.iload 4, 2) := by decide +kernel
theorem dX8_changeOf_27 : decode cX8_changeOf 27 = .ok (.iconst 1, 1) := by decide +kernel
theorem dX8_changeOf_28 : decode cX8_changeOf 28 = .ok (.iadd, 1) := by decide +kernel
theorem dX8_changeOf_29 : decode cX8_changeOf 29 = .ok (.istore 5, 2) := by decide +kernel
theorem dX8_changeOf_31 : decode cX8_changeOf 31 = .ok (.iload 5, 2) := by decide +kernel
theorem dX8_changeOf_33 : decode cX8_changeOf 33 = .ok (.aload_n 0, 1) := by decide +kernel
theorem dX8_changeOf_34 : decode cX8_changeOf 34 = .ok (.getfield 9, 3) := by decide +kernel
theorem dX8_changeOf_37 : decode cX8_changeOf 37 = .ok (.bipush 54, 2) := by decide +kernel
theorem dX8_changeOf_39 : decode cX8_changeOf 39 = .ok (.iaload, 1) := by decide +kernel
theorem dX8_changeOf_40 : decode cX8_changeOf 40 = .ok (.if_icmp .ge 59, 3) := by decide +kernel
theorem dX8_changeOf_43 : decode cX8_changeOf 43 = .ok (.aload_n 0, 1) := by decide +kernel
theorem dX8_changeOf_44 : decode cX8_changeOf 44 = .ok (.iload 4, 2) := by decide +kernel
theorem dX8_changeOf_46 : decode cX8_changeOf 46 = .ok (.iload 5, 2) := by decide +kernel
theorem dX8_changeOf_48 : decode cX8_changeOf 48 = .ok (.invokevirtual 233, 3) := by decide +kernel
theorem dX8_changeOf_51 : decode cX8_changeOf 51 = .ok (.aload_n 0, 1) := by decide +kernel
theorem dX8_changeOf_52 : decode cX8_changeOf 52 = .ok (.iload_n 1, 1) := by decide +kernel
theorem dX8_changeOf_53 : decode cX8_changeOf 53 = .ok (.iconst 0, 1) := by decide +kernel
theorem dX8_changeOf_54 : decode cX8_changeOf 54 = .ok (.invokevirtual 230, 3) := by decide +kernel
theorem dX8_changeOf_57 : decode cX8_changeOf 57 = .ok (.istore 6, 2) := by decide +kernel
theorem dX8_changeOf_59 : decode cX8_changeOf 59 = .ok (.aload_n 0, 1) := by decide +kernel
theorem dX8_changeOf_60 : decode cX8_changeOf 60 = .ok (.iload 4, 2) := by decide +kernel
theorem dX8_changeOf_62 : decode cX8_changeOf 62 = .ok (.iload 5, 2) := by decide +kernel
theorem dX8_changeOf_64 : decode cX8_changeOf 64 = .ok (.invokevirtual 233, 3) := by decide +kernel
theorem dX8_changeOf_67 : decode cX8_changeOf 67 = .ok (.iload 6, 2) := by decide +kernel
theorem dX8_changeOf_69 : decode cX8_changeOf 69 = .ok (.iload_n 2, 1) := by decide +kernel
theorem dX8_changeOf_70 : decode cX8_changeOf 70 = .ok (.if_icmp .ge 14, 3) := by decide +kernel
theorem dX8_changeOf_73 : decode cX8_changeOf 73 = .ok (.bipush 10, 2) := by decide +kernel
theorem dX8_changeOf_75 : decode cX8_changeOf 75 = .ok (.iload 4, 2) := by decide +kernel
theorem dX8_changeOf_77 : decode cX8_changeOf 77 = .ok (.imul, 1) := by decide +kernel
theorem dX8_changeOf_78 : decode cX8_changeOf 78 = .ok (.iload 5, 2) := by decide +kernel
theorem dX8_changeOf_80 : decode cX8_changeOf 80 = .ok (.iadd, 1) := by decide +kernel
theorem dX8_changeOf_81 : decode cX8_changeOf 81 = .ok (.goto 4, 3) := by decide +kernel
theorem dX8_changeOf_84 : decode cX8_changeOf 84 = .ok (.iload_n 3, 1) := by decide +kernel
theorem dX8_changeOf_85 : decode cX8_changeOf 85 = .ok (.istore_n 3, 1) := by decide +kernel
theorem dX8_changeOf_86 : decode cX8_changeOf 86 = .ok (.iload 6, 2) := by decide +kernel
theorem dX8_changeOf_88 : decode cX8_changeOf 88 = .ok (.iload_n 2, 1) := by decide +kernel
theorem dX8_changeOf_89 : decode cX8_changeOf 89 = .ok (.invokestatic 205, 3) := by decide +kernel
theorem dX8_changeOf_92 : decode cX8_changeOf 92 = .ok (.istore_n 2, 1) := by decide +kernel
theorem dX8_changeOf_93 : decode cX8_changeOf 93 = .ok (.iinc 5 1, 3) := by decide +kernel
theorem dX8_changeOf_96 : decode cX8_changeOf 96 = .ok (.goto (-65), 3) := by decide +kernel
theorem dX8_changeOf_99 : decode cX8_changeOf 99 = .ok (.iinc 4 1, 3) := by decide +kernel
theorem dX8_changeOf_102 : decode cX8_changeOf 102 = .ok (.goto (-89), 3) := by decide +kernel
theorem dX8_changeOf_105 : decode cX8_changeOf 105 = .ok (.iload_n 3, 1) := by decide +kernel
theorem dX8_changeOf_106 : decode cX8_changeOf 106 = .ok (.ireturn, 1) := by decide +kernel
theorem dX8_many_0 : decode cX8_many 0 = .ok (.iconst 0, 1) := by decide +kernel
theorem dX8_many_1 : decode cX8_many 1 = .ok (.istore_n 1, 1) := by decide +kernel
theorem dX8_many_2 : decode cX8_many 2 = .ok (.iconst 0, 1) := by decide +kernel
theorem dX8_many_3 : decode cX8_many 3 = .ok (.istore_n 2, 1) := by decide +kernel
theorem dX8_many_4 : decode cX8_many 4 = .ok (.iload_n 2, 1) := by decide +kernel
theorem dX8_many_5 : decode cX8_many 5 = .ok (.iconst 4, 1) := by decide +kernel
theorem dX8_many_6 : decode cX8_many 6 = .ok (.if_icmp .ge 17, 3) := by decide +kernel
theorem dX8_many_9 : decode cX8_many 9 = .ok (.iload_n 1, 1) := by decide +kernel
theorem dX8_many_10 : decode cX8_many 10 = .ok (.iload_n 0, 1) := by decide +kernel
theorem dX8_many_11 : decode cX8_many 11 = .ok (.iload_n 2, 1) := by decide +kernel
theorem dX8_many_12 : decode cX8_many 12 = .ok (.ishr, 1) := by decide +kernel
theorem dX8_many_13 : decode cX8_many 13 = .ok (.iconst 1, 1) := by decide +kernel
theorem dX8_many_14 : decode cX8_many 14 = .ok (.iand, 1) := by decide +kernel
theorem dX8_many_15 : decode cX8_many 15 = .ok (.iadd, 1) := by decide +kernel
theorem dX8_many_16 : decode cX8_many 16 = .ok (.istore_n 1, 1) := by decide +kernel
theorem dX8_many_17 : decode cX8_many 17 = .ok (.iinc 2 1, 3) := by decide +kernel
theorem dX8_many_20 : decode cX8_many 20 = .ok (.goto (-16), 3) := by decide +kernel
theorem dX8_many_23 : decode cX8_many 23 = .ok (.iload_n 1, 1) := by decide +kernel
theorem dX8_many_24 : decode cX8_many 24 = .ok (.ireturn, 1) := by decide +kernel
set_option maxRecDepth 20000 in
theorem ggX8_spare_X8_helds : GoodIn wsX8_spare wsX8_helds := goodIn_r _ [7, 1, 8, 9, 10, 6, 11, 12, 13, 14, 15, 138, 139, 140, 141, 142, 143, 144, 145, 146, 147, 148, 149, 150, 151, 152, 153, 154, 155, 156, 157, 158, 159, 160, 161, 162, 163, 164, 165, 166] rfl (by decide +kernel)
set_option maxRecDepth 20000 in
theorem gX8_spare_X8_helds : GoodIn wsX8_spare (wsV RX8 224 RX8 yX8_helds wsX8_helds) := goodIn_app (goodIn_of _ (by decide +kernel)) ggX8_spare_X8_helds
set_option maxRecDepth 20000 in
theorem ggX8_spare_X8_many : GoodIn wsX8_spare wsX8_many := goodIn_r _ [18] rfl (by decide +kernel)
set_option maxRecDepth 20000 in
theorem gX8_spare_X8_many : GoodIn wsX8_spare (va_wsS RX8 236 yX8_many wsX8_many) := goodIn_app (goodIn_of _ (by decide +kernel)) ggX8_spare_X8_many
set_option maxRecDepth 20000 in
theorem ggX8_spare_X8_move : GoodIn wsX8_spare wsX8_move := goodIn_r _ [21] rfl (by decide +kernel)
set_option maxRecDepth 20000 in
theorem gX8_spare_X8_move : GoodIn wsX8_spare (va_wsS RX8 75 yX8_move wsX8_move) := goodIn_app (goodIn_of _ (by decide +kernel)) ggX8_spare_X8_move
set_option maxRecDepth 20000 in
theorem ggX8_spare_X8_holds : GoodIn wsX8_spare wsX8_holds := goodIn_r _ [25, 1, 138, 139, 140, 141, 142, 143, 144, 145, 146, 147, 148, 149, 150, 151, 152, 153, 154, 155, 156, 157, 158, 159, 160, 161, 162, 163, 164, 165, 166] rfl (by decide +kernel)
set_option maxRecDepth 20000 in
theorem gX8_spare_X8_holds : GoodIn wsX8_spare (wsV RX8 105 RX8 yX8_holds wsX8_holds) := goodIn_app (goodIn_of _ (by decide +kernel)) ggX8_spare_X8_holds
set_option maxRecDepth 20000 in
theorem ggX8_spare_X8_steps : GoodIn wsX8_spare wsX8_steps := goodIn_r _ [29, 30, 31, 32, 6, 33, 1, 34, 35, 36, 37, 38, 39, 40, 41, 42, 43, 44, 45, 46, 47, 48, 49, 50, 51, 52, 53, 54, 55, 56, 57, 58, 59, 60, 61, 62, 63, 64, 8, 9, 10, 11, 12, 13, 14, 15, 65, 66, 67, 68, 69, 70, 71, 72, 73, 74, 75, 76, 77, 78, 79, 80, 81, 82, 83, 84, 85, 86, 87, 88, 89, 90, 91, 92, 93, 94, 95, 96, 97, 98, 99, 100, 101, 102, 103, 104, 105, 106, 107, 108, 109, 110, 111, 112, 113, 114, 115, 116, 117, 118, 119, 120, 121, 122, 123, 124, 125, 126, 127, 128, 129, 130, 131, 132, 133, 134, 135, 136, 137, 22, 23, 24, 25, 138, 139, 140, 141, 142, 143, 144, 145, 146, 147, 148, 149, 150, 151, 152, 153, 154, 155, 156, 157, 158, 159, 160, 161, 162, 163, 164, 165, 166] rfl (by decide +kernel)
set_option maxRecDepth 20000 in
theorem gX8_spare_X8_steps : GoodIn wsX8_spare (wsV RX8 227 RX8 yX8_steps wsX8_steps) := goodIn_app (goodIn_of _ (by decide +kernel)) ggX8_spare_X8_steps
theorem dX8_spare_0 : decode cX8_spare 0 = .ok (.aload_n 0, 1) := by decide +kernel
theorem dX8_spare_1 : decode cX8_spare 1 = .ok (.invokevirtual 224, 3) := by decide +kernel
theorem dX8_spare_4 : decode cX8_spare 4 = .ok (.istore_n 2, 1) := by decide +kernel
theorem dX8_spare_5 : decode cX8_spare 5 = .ok (.bipush (-5), 2) := by decide +kernel
theorem dX8_spare_7 : decode cX8_spare 7 = .ok (.istore_n 3, 1) := by decide +kernel
theorem dX8_spare_8 : decode cX8_spare 8 = .ok (.iconst 0, 1) := by decide +kernel
theorem dX8_spare_9 : decode cX8_spare 9 = .ok (.istore 4, 2) := by decide +kernel
theorem dX8_spare_11 : decode cX8_spare 11 = .ok (.iload 4, 2) := by decide +kernel
theorem dX8_spare_13 : decode cX8_spare 13 = .ok (.bipush 16, 2) := by decide +kernel

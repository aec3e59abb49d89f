set_option maxRecDepth 20000 in
theorem ggX7_init_X2_init : GoodIn wsX7_init wsX2_init := goodIn_r _ [35, 36, 2, 3, 37, 38, 39, 40, 41, 42, 43, 44, 45, 46, 85, 86, 87, 88, 89, 90, 91, 92, 93, 94, 95, 96, 97, 98] rfl (by decide +kernel)
set_option maxRecDepth 20000 in
theorem gX7_init_X2_init_n13 : GoodIn wsX7_init (wsX2_init) := ggX7_init_X2_init
set_option maxRecDepth 20000 in
theorem ggX7_init_X1_init : GoodIn wsX7_init wsX1_init := goodIn_r _ [48, 49, 2, 3, 50, 5, 6, 51, 34, 35, 36, 37, 38, 39, 40, 41, 42, 43, 44, 45, 46, 85, 86, 87, 88, 89, 90, 91, 92, 93, 94, 95, 96, 97, 98, 110] rfl (by decide +kernel)
set_option maxRecDepth 20000 in
theorem gX7_init_X1_init_n23 : GoodIn wsX7_init (wsX1_init) := ggX7_init_X1_init
set_option maxRecDepth 20000 in
theorem ggX7_init_X5_init : GoodIn wsX7_init wsX5_init := goodIn_r _ [53, 54, 2, 3, 37, 55, 56, 57, 58, 59, 60, 61, 62, 111, 112, 113, 114, 115, 116, 117, 118, 119, 120] rfl (by decide +kernel)
set_option maxRecDepth 20000 in
theorem gX7_init_X5_init_n30 : GoodIn wsX7_init (wsX5_init) := ggX7_init_X5_init
set_option maxRecDepth 20000 in
theorem ggX7_init_X4_init : GoodIn wsX7_init wsX4_init := goodIn_r _ [64, 65, 2, 3, 66, 67, 121, 122, 123, 124] rfl (by decide +kernel)
set_option maxRecDepth 20000 in
theorem gX7_init_X4_init_n46 : GoodIn wsX7_init (wsX4_init) := ggX7_init_X4_init
set_option maxRecDepth 20000 in
theorem ggX7_init_X0_init : GoodIn wsX7_init wsX0_init := goodIn_r _ [69, 70, 2, 3, 37, 71, 125, 126, 127, 128, 129] rfl (by decide +kernel)
set_option maxRecDepth 20000 in
theorem gX7_init_X0_init_n53 : GoodIn wsX7_init (wsX0_init) := ggX7_init_X0_init
set_option maxRecDepth 20000 in
theorem ggX7_init_X3_init : GoodIn wsX7_init wsX3_init := goodIn_r _ [73, 74, 2, 3, 37, 75, 76, 77, 78, 130, 131, 132, 133, 134] rfl (by decide +kernel)
set_option maxRecDepth 20000 in
theorem gX7_init_X3_init_n64 : GoodIn wsX7_init (wsX3_init) := ggX7_init_X3_init
set_option maxRecDepth 20000 in
theorem ggX7_init_X6_init : GoodIn wsX7_init wsX6_init := goodIn_r _ [80, 81, 2, 3, 82, 83, 84, 135, 136, 137] rfl (by decide +kernel)
set_option maxRecDepth 20000 in
theorem gX7_init_X6_init_n65 : GoodIn wsX7_init (wsX6_init) := ggX7_init_X6_init
theorem dX7_init_0 : decode cX7_init 0 = .ok (.aload_n 0, 1) := by decide +kernel
theorem dX7_init_1 : decode cX7_init 1 = .ok (.invokespecial 5, 3) := by decide +kernel
theorem dX7_init_4 : decode cX7_init 4 = .ok (.aload_n 0, 1) := by decide +kernel
theorem dX7_init_5 : decode cX7_init 5 = .ok (.new 11, 3) := by decide +kernel
theorem dX7_init_8 : decode cX7_init 8 = .ok (.dup, 1) := by decide +kernel
theorem dX7_init_9 : decode cX7_init 9 = .ok (.invokespecial 13, 3) := by decide +kernel
theorem dX7_init_12 : decode cX7_init 12 = .ok (.putfield 14, 3) := by decide +kernel
theorem dX7_init_15 : decode cX7_init 15 = .ok (.aload_n 0, 1) := by decide +kernel
theorem dX7_init_16 : decode cX7_init 16 = .ok (.new 11, 3) := by decide +kernel
theorem dX7_init_19 : decode cX7_init 19 = .ok (.dup, 1) := by decide +kernel
theorem dX7_init_20 : decode cX7_init 20 = .ok (.invokespecial 13, 3) := by decide +kernel
theorem dX7_init_23 : decode cX7_init 23 = .ok (.putfield 18, 3) := by decide +kernel
theorem dX7_init_26 : decode cX7_init 26 = .ok (.aload_n 0, 1) := by decide +kernel
theorem dX7_init_27 : decode cX7_init 27 = .ok (.new 21, 3) := by decide +kernel
theorem dX7_init_30 : decode cX7_init 30 = .ok (.dup, 1) := by decide +kernel
theorem dX7_init_31 : decode cX7_init 31 = .ok (.invokespecial 23, 3) := by decide +kernel
theorem dX7_init_34 : decode cX7_init 34 = .ok (.putfield 24, 3) := by decide +kernel
theorem dX7_init_37 : decode cX7_init 37 = .ok (.aload_n 0, 1) := by decide +kernel
theorem dX7_init_38 : decode cX7_init 38 = .ok (.new 28, 3) := by decide +kernel
theorem dX7_init_41 : decode cX7_init 41 = .ok (.dup, 1) := by decide +kernel
theorem dX7_init_42 : decode cX7_init 42 = .ok (.invokespecial 30, 3) := by decide +kernel
theorem dX7_init_45 : decode cX7_init 45 = .ok (.putfield 31, 3) := by decide +kernel
theorem dX7_init_48 : decode cX7_init 48 = .ok (.aload_n 0, 1) := by decide +kernel
theorem dX7_init_49 : decode cX7_init 49 = .ok (.new 28, 3) := by decide +kernel
theorem dX7_init_52 : decode cX7_init 52 = .ok (.dup, 1) := by decide +kernel
theorem dX7_init_53 : decode cX7_init 53 = .ok (.invokespecial 30, 3) := by decide +kernel
theorem dX7_init_56 : decode cX7_init 56 = .ok (.putfield 35, 3) := by decide +kernel
theorem dX7_init_59 : decode cX7_init 59 = .ok (.aload_n 0, 1) := by decide +kernel
theorem dX7_init_60 : decode cX7_init 60 = .ok (.bipush 6, 2) := by decide +kernel
theorem dX7_init_62 : decode cX7_init 62 = .ok (.anewarray 38, 3) := by decide +kernel
theorem dX7_init_65 : decode cX7_init 65 = .ok (.putfield 40, 3) := by decide +kernel
theorem dX7_init_68 : decode cX7_init 68 = .ok (.aload_n 0, 1) := by decide +kernel
theorem dX7_init_69 : decode cX7_init 69 = .ok (.new 44, 3) := by decide +kernel
theorem dX7_init_72 : decode cX7_init 72 = .ok (.dup, 1) := by decide +kernel
theorem dX7_init_73 : decode cX7_init 73 = .ok (.invokespecial 46, 3) := by decide +kernel
theorem dX7_init_76 : decode cX7_init 76 = .ok (.putfield 47, 3) := by decide +kernel
theorem dX7_init_79 : decode cX7_init 79 = .ok (.aload_n 0, 1) := by decide +kernel
theorem dX7_init_80 : decode cX7_init 80 = .ok (.new 51, 3) := by decide +kernel
theorem dX7_init_83 : decode cX7_init 83 = .ok (.dup, 1) := by decide +kernel
theorem dX7_init_84 : decode cX7_init 84 = .ok (.invokespecial 53, 3) := by decide +kernel
theorem dX7_init_87 : decode cX7_init 87 = .ok (.putfield 54, 3) := by decide +kernel
theorem dX7_init_90 : decode cX7_init 90 = .ok (.aload_n 0, 1) := by decide +kernel
theorem dX7_init_91 : decode cX7_init 91 = .ok (.bipush 6, 2) := by decide +kernel
theorem dX7_init_93 : decode cX7_init 93 = .ok (.anewarray 58, 3) := by decide +kernel
theorem dX7_init_96 : decode cX7_init 96 = .ok (.putfield 60, 3) := by decide +kernel
theorem dX7_init_99 : decode cX7_init 99 = .ok (.iconst 0, 1) := by decide +kernel
theorem dX7_init_100 : decode cX7_init 100 = .ok (.istore_n 1, 1) := by decide +kernel
theorem dX7_init_101 : decode cX7_init 101 = .ok (.iload_n 1, 1) := by decide +kernel
theorem dX7_init_102 : decode cX7_init 102 = .ok (.bipush 6, 2) := by decide +kernel
theorem dX7_init_104 : decode cX7_init 104 = .ok (.if_icmp .ge 22, 3) := by decide +kernel
theorem dX7_init_107 : decode cX7_init 107 = .ok (.aload_n 0, 1) := by decide +kernel
theorem dX7_init_108 : decode cX7_init 108 = .ok (.getfield 40, 3) := by decide +kernel
theorem dX7_init_111 : decode cX7_init 111 = .ok (.iload_n 1, 1) := by decide +kernel
theorem dX7_init_112 : decode cX7_init 112 = .ok (.new 38, 3) := by decide +kernel
theorem dX7_init_115 : decode cX7_init 115 = .ok (.dup, 1) := by decide +kernel
theorem dX7_init_116 : decode cX7_init 116 = .ok (.invokespecial 64, 3) := by decide +kernel
theorem dX7_init_119 : decode cX7_init 119 = .ok (.aastore, 1) := by decide +kernel
theorem dX7_init_120 : decode cX7_init 120 = .ok (.iinc 1 1, 3) := by decide +kernel
theorem dX7_init_123 : decode cX7_init 123 = .ok (.goto (-22), 3) := by decide +kernel
theorem dX7_init_126 : decode cX7_init 126 = .ok (.iconst 0, 1) := by decide +kernel
theorem dX7_init_127 : decode cX7_init 127 = .ok (.istore_n 1, 1) := by decide +kernel
theorem dX7_init_128 : decode cX7_init 128 = .ok (.iload_n 1, 1) := by decide +kernel
theorem dX7_init_129 : decode cX7_init 129 = .ok (.bipush 6, 2) := by decide +kernel
theorem dX7_init_131 : decode cX7_init 131 = .ok (.if_icmp .ge 22, 3) := by decide +kernel
theorem dX7_init_134 : decode cX7_init 134 = .ok (.aload_n 0, 1) := by decide +kernel
theorem dX7_init_135 : decode cX7_init 135 = .ok (.getfield 60, 3) := by decide +kernel
theorem dX7_init_138 : decode cX7_init 138 = .ok (.iload_n 1, 1) := by decide +kernel
theorem dX7_init_139 : decode cX7_init 139 = .ok (.new 58, 3) := by decide +kernel
theorem dX7_init_142 : decode cX7_init 142 = .ok (.dup, 1) := by decide +kernel
theorem dX7_init_143 : decode cX7_init 143 = .ok (.invokespecial 65, 3) := by decide +kernel
theorem dX7_init_146 : decode cX7_init 146 = .ok (.aastore, 1) := by decide +kernel
theorem dX7_init_147 : decode cX7_init 147 = .ok (.iinc 1 1, 3) := by decide +kernel
theorem dX7_init_150 : decode cX7_init 150 = .ok (.goto (-22), 3) := by decide +kernel
theorem dX7_init_153 : decode cX7_init 153 = .ok (.return_, 1) := by decide +kernel
set_option maxRecDepth 20000 in
theorem ggX7_one_X7_isWithin : GoodIn wsX7_one wsX7_isWithin := goodIn_r _ [6] rfl (by decide +kernel)
set_option maxRecDepth 20000 in
theorem gX7_one_X7_isWithin : GoodIn wsX7_one (va_wsS RX7 66 yX7_isWithin wsX7_isWithin) := goodIn_app (goodIn_of _ (by decide +kernel)) ggX7_one_X7_isWithin
set_option maxRecDepth 20000 in
theorem ggX7_one_X2_addPerson : GoodIn wsX7_one wsX2_addPerson := goodIn_r _ [11, 12, 13, 14, 15, 27, 28, 29, 30, 31, 32, 33, 34, 35, 36, 37, 38, 39, 40] rfl (by decide +kernel)
set_option maxRecDepth 20000 in
theorem gX7_one_X2_addPerson : GoodIn wsX7_one (wsV RX7 74 RX2 yX2_addPerson wsX2_addPerson) := goodIn_app (goodIn_of _ (by decide +kernel)) ggX7_one_X2_addPerson
theorem dX7_one_0 : decode cX7_one 0 = .ok (.iload_n 1, 1) := by decide +kernel
theorem dX7_one_1 : decode cX7_one 1 = .ok (.bipush 6, 2) := by decide +kernel
theorem dX7_one_3 : decode cX7_one 3 = .ok (.invokestatic 66, 3) := by decide +kernel
theorem dX7_one_6 : decode cX7_one 6 = .ok (.ifCond .ne 5, 3) := by decide +kernel
theorem dX7_one_9 : decode cX7_one 9 = .ok (.iconst (-1), 1) := by decide +kernel
theorem dX7_one_10 : decode cX7_one 10 = .ok (.ireturn, 1) := by decide +kernel
theorem dX7_one_11 : decode cX7_one 11 = .ok (.iload_n 2, 1) := by decide +kernel
theorem dX7_one_12 : decode cX7_one 12 = .ok (.bipush 9, 2) := by decide +kernel
theorem dX7_one_14 : decode cX7_one 14 = .ok (.invokestatic 66, 3) := by decide +kernel
theorem dX7_one_17 : decode cX7_one 17 = .ok (.ifCond .eq 12, 3) := by decide +kernel
theorem dX7_one_20 : decode cX7_one 20 = .ok (.iload_n 3, 1) := by decide +kernel
theorem dX7_one_21 : decode cX7_one 21 = .ok (.bipush 99, 2) := by decide +kernel
theorem dX7_one_23 : decode cX7_one 23 = .ok (.invokestatic 66, 3) := by decide +kernel
theorem dX7_one_26 : decode cX7_one 26 = .ok (.ifCond .ne 6, 3) := by decide +kernel
theorem dX7_one_29 : decode cX7_one 29 = .ok (.bipush (-2), 2) := by decide +kernel
theorem dX7_one_31 : decode cX7_one 31 = .ok (.ireturn, 1) := by decide +kernel
theorem dX7_one_32 : decode cX7_one 32 = .ok (.aload_n 0, 1) := by decide +kernel
theorem dX7_one_33 : decode cX7_one 33 = .ok (.getfield 14, 3) := by decide +kernel
theorem dX7_one_36 : decode cX7_one 36 = .ok (.getfield 70, 3) := by decide +kernel
theorem dX7_one_39 : decode cX7_one 39 = .ok (.bipush 6, 2) := by decide +kernel
theorem dX7_one_41 : decode cX7_one 41 = .ok (.if_icmp .lt 6, 3) := by decide +kernel
theorem dX7_one_44 : decode cX7_one 44 = .ok (.bipush (-4), 2) := by decide +kernel
theorem dX7_one_46 : decode cX7_one 46 = .ok (.ireturn, 1) := by decide +kernel
theorem dX7_one_47 : decode cX7_one 47 = .ok (.aload_n 0, 1) := by decide +kernel
theorem dX7_one_48 : decode cX7_one 48 = .ok (.getfield 14, 3) := by decide +kernel
theorem dX7_one_51 : decode cX7_one 51 = .ok (.iload_n 1, 1) := by decide +kernel
theorem dX7_one_52 : decode cX7_one 52 = .ok (.iload_n 2, 1) := by decide +kernel
theorem dX7_one_53 : decode cX7_one 53 = .ok (.iload_n 3, 1) := by decide +kernel
theorem dX7_one_54 : decode cX7_one 54 = .ok (.invokevirtual 74, 3) := by decide +kernel
theorem dX7_one_57 : decode cX7_one 57 = .ok (.ireturn, 1) := by decide +kernel
set_option maxRecDepth 20000 in
theorem ggX7_of_X2_isPerson : GoodIn wsX7_of wsX2_isPerson := goodIn_r _ [9, 10, 62, 63, 64, 65, 66, 67, 68, 69, 70, 71, 72, 73, 74, 75] rfl (by decide +kernel)
set_option maxRecDepth 20000 in
theorem gX7_of_X2_isPerson : GoodIn wsX7_of (wsV RX7 78 RX2 yX2_isPerson wsX2_isPerson) := goodIn_app (goodIn_of _ (by decide +kernel)) ggX7_of_X2_isPerson
set_option maxRecDepth 20000 in
theorem ggX7_of_X2_holdsHowMany : GoodIn wsX7_of wsX2_holdsHowMany := goodIn_r _ [14, 15, 16, 17, 18, 8, 19, 20, 21, 62, 63, 64, 65, 66, 67, 68, 69, 70, 71, 72, 73, 74, 75] rfl (by decide +kernel)
set_option maxRecDepth 20000 in
theorem gX7_of_X2_holdsHowMany : GoodIn wsX7_of (wsV RX7 92 RX2 yX2_holdsHowMany wsX2_holdsHowMany) := goodIn_app (goodIn_of _ (by decide +kernel)) ggX7_of_X2_holdsHowMany
set_option maxRecDepth 20000 in
theorem ggX7_of_X2_driftOf : GoodIn wsX7_of wsX2_driftOf := goodIn_r _ [25, 26, 27, 28, 29, 30, 31, 12, 13, 8, 14, 15, 16, 17, 18, 19, 20, 21, 32, 33, 34, 35, 36, 37, 38, 39, 40, 41, 42, 43, 44, 45, 46, 47, 48, 49, 50, 62, 63, 64, 65, 66, 67, 68, 69, 70, 71, 72, 73, 74, 75, 76, 77, 78, 79, 80] rfl (by decide +kernel)
set_option maxRecDepth 20000 in
theorem gX7_of_X2_driftOf : GoodIn wsX7_of (wsV RX7 96 RX2 yX2_driftOf wsX2_driftOf) := goodIn_app (goodIn_of _ (by decide +kernel)) ggX7_of_X2_driftOf
theorem dX7_of_0 : decode cX7_of 0 = .ok (.aload_n 0, 1) := by decide +kernel
theorem dX7_of_1 : decode cX7_of 1 = .ok (.getfield 14, 3) := by decide +kernel
theorem dX7_of_4 : decode cX7_of 4 = .ok (.iload_n 1, 1) := by decide +kernel
theorem dX7_of_5 : decode cX7_of 5 = .ok (.invokevirtual 78, 3) := by decide +kernel
theorem dX7_of_8 : decode cX7_of 8 = .ok (.ifCond .ne 7, 3) := by decide +kernel
theorem dX7_of_11 : decode cX7_of 11 = .ok (.sipush (-10001), 3) := by decide +kernel
theorem dX7_of_14 : decode cX7_of 14 = .ok (.ireturn, 1) := by decide +kernel
theorem dX7_of_15 : decode cX7_of 15 = .ok (.iload_n 2, 1) := by decide +kernel
theorem dX7_of_16 : decode cX7_of 16 = .ok (.tableswitch 84 0 4 #[36, 46, 56, 66, 75], 36) := by decide +kernel
theorem dX7_of_52 : decode cX7_of 52 = .ok (.aload_n 0, 1) := by decide +kernel
theorem dX7_of_53 : decode cX7_of 53 = .ok (.getfield 14, 3) := by decide +kernel
theorem dX7_of_56 : decode cX7_of 56 = .ok (.getfield 82, 3) := by decide +kernel
theorem dX7_of_59 : decode cX7_of 59 = .ok (.iload_n 1, 1) := by decide +kernel
theorem dX7_of_60 : decode cX7_of 60 = .ok (.iaload, 1) := by decide +kernel
theorem dX7_of_61 : decode cX7_of 61 = .ok (.ireturn, 1) := by decide +kernel
theorem dX7_of_62 : decode cX7_of 62 = .ok (.aload_n 0, 1) := by decide +kernel
theorem dX7_of_63 : decode cX7_of 63 = .ok (.getfield 14, 3) := by decide +kernel
theorem dX7_of_66 : decode cX7_of 66 = .ok (.getfield 86, 3) := by decide +kernel
theorem dX7_of_69 : decode cX7_of 69 = .ok (.iload_n 1, 1) := by decide +kernel
theorem dX7_of_70 : decode cX7_of 70 = .ok (.iaload, 1) := by decide +kernel
theorem dX7_of_71 : decode cX7_of 71 = .ok (.ireturn, 1) := by decide +kernel
theorem dX7_of_72 : decode cX7_of 72 = .ok (.aload_n 0, 1) := by decide +kernel
theorem dX7_of_73 : decode cX7_of 73 = .ok (.getfield 14, 3) := by decide +kernel
theorem dX7_of_76 : decode cX7_of 76 = .ok (.getfield 89, 3) := by decide +kernel
theorem dX7_of_79 : decode cX7_of 79 = .ok (.iload_n 1, 1) := by decide +kernel
theorem dX7_of_80 : decode cX7_of 80 = .ok (.iaload, 1) := by decide +kernel
theorem dX7_of_81 : decode cX7_of 81 = .ok (.ireturn, 1) := by decide +kernel
theorem dX7_of_82 : decode cX7_of 82 = .ok (.aload_n 0, 1) := by decide +kernel
theorem dX7_of_83 : decode cX7_of 83 = .ok (.getfield 14, 3) := by decide +kernel
theorem dX7_of_86 : decode cX7_of 86 = .ok (.iload_n 1, 1) := by decide +kernel
theorem dX7_of_87 : decode cX7_of 87 = .ok (.invokevirtual 92, 3) := by decide +kernel
theorem dX7_of_90 : decode cX7_of 90 = .ok (.ireturn, 1) := by decide +kernel
theorem dX7_of_91 : decode cX7_of 91 = .ok (.aload_n 0, 1) := by decide +kernel
theorem dX7_of_92 : decode cX7_of 92 = .ok (.getfield 14, 3) := by decide +kernel
theorem dX7_of_95 : decode cX7_of 95 = .ok (.iload_n 1, 1) := by decide +kernel
theorem dX7_of_96 : decode cX7_of 96 = .ok (.invokevirtual 96, 3) := by decide +kernel
theorem dX7_of_99 : decode cX7_of 99 = .ok (.ireturn, 1) := by decide +kernel
theorem dX7_of_100 : decode cX7_of 100 = .ok (.sipush (-10001), 3) := by decide +kernel
theorem dX7_of_103 : decode cX7_of 103 = .ok (.ireturn, 1) := by decide +kernel
set_option maxRecDepth 20000 in
theorem ggX7_leaf_X2_addLeaf : GoodIn wsX7_leaf wsX2_addLeaf := goodIn_r _ [7, 8, 9, 10, 11, 12, 6, 13, 14, 15, 16, 17, 18, 19, 31, 32, 33, 34, 35, 36, 37, 38, 39, 40, 41, 42, 43, 44] rfl (by decide +kernel)
set_option maxRecDepth 20000 in
theorem gX7_leaf_X2_addLeaf : GoodIn wsX7_leaf (wsV RX7 102 RX2 yX2_addLeaf wsX2_addLeaf) := goodIn_app (goodIn_of _ (by decide +kernel)) ggX7_leaf_X2_addLeaf
theorem dX7_leaf_0 : decode cX7_leaf 0 = .ok (.iload_n 1, 1) := by decide +kernel
theorem dX7_leaf_1 : decode cX7_leaf 1 = .ok (.iconst 1, 1) := by decide +kernel
theorem dX7_leaf_2 : decode cX7_leaf 2 = .ok (.if_icmp .lt 9, 3) := by decide +kernel
theorem dX7_leaf_5 : decode cX7_leaf 5 = .ok (.iload_n 1, 1) := by decide +kernel
theorem dX7_leaf_6 : decode cX7_leaf 6 = .ok (.bipush 40, 2) := by decide +kernel
theorem dX7_leaf_8 : decode cX7_leaf 8 = .ok (.if_icmp .le 6, 3) := by decide +kernel
theorem dX7_leaf_11 : decode cX7_leaf 11 = .ok (.bipush (-2), 2) := by decide +kernel
theorem dX7_leaf_13 : decode cX7_leaf 13 = .ok (.ireturn, 1) := by decide +kernel
theorem dX7_leaf_14 : decode cX7_leaf 14 = .ok (.aload_n 0, 1) := by decide +kernel
theorem dX7_leaf_15 : decode cX7_leaf 15 = .ok (.getfield 14, 3) := by decide +kernel
theorem dX7_leaf_18 : decode cX7_leaf 18 = .ok (.getfield 99, 3) := by decide +kernel
theorem dX7_leaf_21 : decode cX7_leaf 21 = .ok (.iconst 4, 1) := by decide +kernel
theorem dX7_leaf_22 : decode cX7_leaf 22 = .ok (.if_icmp .lt 6, 3) := by decide +kernel
theorem dX7_leaf_25 : decode cX7_leaf 25 = .ok (.bipush (-4), 2) := by decide +kernel
theorem dX7_leaf_27 : decode cX7_leaf 27 = .ok (.ireturn, 1) := by decide +kernel
theorem dX7_leaf_28 : decode cX7_leaf 28 = .ok (.aload_n 0, 1) := by decide +kernel
theorem dX7_leaf_29 : decode cX7_leaf 29 = .ok (.getfield 14, 3) := by decide +kernel
theorem dX7_leaf_32 : decode cX7_leaf 32 = .ok (.iload_n 1, 1) := by decide +kernel
theorem dX7_leaf_33 : decode cX7_leaf 33 = .ok (.invokevirtual 102, 3) := by decide +kernel
theorem dX7_leaf_36 : decode cX7_leaf 36 = .ok (.ireturn, 1) := by decide +kernel
set_option maxRecDepth 20000 in
theorem ggX7_sheet_X2_isLeaf : GoodIn wsX7_sheet wsX2_isLeaf := goodIn_r _ [11, 12, 159, 160, 161, 162, 163, 164, 165, 166, 167, 168, 169, 170, 171, 172] rfl (by decide +kernel)
set_option maxRecDepth 20000 in
theorem gX7_sheet_X2_isLeaf : GoodIn wsX7_sheet (wsV RX7 105 RX2 yX2_isLeaf wsX2_isLeaf) := goodIn_app (goodIn_of _ (by decide +kernel)) ggX7_sheet_X2_isLeaf
set_option maxRecDepth 20000 in
theorem ggX7_sheet_X1_lastsOf : GoodIn wsX7_sheet wsX1_lastsOf := goodIn_r _ [17, 18, 19, 20, 21, 10, 22, 23, 24, 25, 26, 27, 28, 29, 30, 31, 32, 33, 34, 35, 36, 12, 37, 38, 39, 40, 41, 42, 43, 44, 16, 45, 46, 47, 48, 49, 50, 51, 52, 53, 54, 55, 56, 57, 58, 59, 60, 61, 62, 63, 64, 65, 66, 67, 68, 69, 70, 71, 72, 73, 74, 75, 76, 77, 78, 79, 80, 81, 82, 83, 84, 85, 86, 87, 88, 89, 90, 91, 92, 93, 94, 95, 96, 97, 98, 99, 100, 101, 102, 103, 104, 105, 106, 107, 108, 109, 110, 111, 112, 113, 114, 115, 116, 173, 159, 160, 161, 162, 163, 164, 165, 166, 167, 168, 169, 170, 171, 172, 174, 175, 176, 177, 178] rfl (by decide +kernel)
set_option maxRecDepth 20000 in
theorem gX7_sheet_X1_lastsOf : GoodIn wsX7_sheet (wsV RX7 117 RX1 yX1_lastsOf wsX1_lastsOf) := goodIn_app (goodIn_of _ (by decide +kernel)) ggX7_sheet_X1_lastsOf
set_option maxRecDepth 20000 in
theorem ggX7_sheet_X1_partnerOf : GoodIn wsX7_sheet wsX1_partnerOf := goodIn_r _ [120, 18, 121, 122, 19, 20, 21, 10, 22, 23, 24, 25, 26, 27, 28, 29, 30, 31, 32, 33, 34, 35, 36, 12, 37, 38, 39, 40, 41, 42, 43, 44, 16, 45, 46, 47, 48, 49, 50, 51, 52, 53, 54, 55, 56, 57, 58, 59, 60, 61, 62, 63, 64, 65, 66, 67, 68, 69, 70, 71, 72, 73, 74, 75, 76, 77, 78, 79, 80, 81, 82, 83, 84, 85, 86, 87, 88, 89, 90, 91, 92, 93, 94, 95, 96, 97, 98, 99, 100, 101, 102, 103, 104, 105, 106, 107, 108, 109, 110, 111, 112, 113, 114, 115, 116, 123, 173, 159, 160, 161, 162, 163, 164, 165, 166, 167, 168, 169, 170, 171, 172, 174, 175, 176, 177, 178] rfl (by decide +kernel)
set_option maxRecDepth 20000 in
theorem gX7_sheet_X1_partnerOf : GoodIn wsX7_sheet (wsV RX7 121 RX1 yX1_partnerOf wsX1_partnerOf) := goodIn_app (goodIn_of _ (by decide +kernel)) ggX7_sheet_X1_partnerOf
set_option maxRecDepth 20000 in
theorem ggX7_sheet_X1_lengthsOf : GoodIn wsX7_sheet wsX1_lengthsOf := goodIn_r _ [127, 18, 128, 24, 25, 26, 10, 27, 28, 29, 30, 31, 32, 33, 34, 35, 36, 12, 37, 23, 38, 39, 40, 41, 129, 130, 131, 16, 132, 133, 134, 135, 136, 137, 138, 139, 140, 56, 53, 57, 46, 47, 48, 49, 50, 51, 52, 54, 55, 58, 59, 60, 61, 62, 63, 64, 65, 66, 67, 68, 69, 70, 71, 72, 73, 74, 75, 76, 77, 78, 79, 80, 81, 82, 83, 84, 85, 86, 87, 88, 89, 90, 91, 92, 20, 21, 22, 93, 94, 95, 96, 97, 98, 99, 100, 101, 102, 103, 104, 105, 106, 107, 108, 109, 110, 111, 112, 113, 114, 115, 116, 141, 142, 143, 144, 145, 146, 147, 173, 159, 160, 161, 162, 163, 164, 165, 166, 167, 168, 169, 170, 171, 172, 179, 180, 181, 182, 183, 184, 185, 186, 187, 188, 174, 175, 176, 177, 178] rfl (by decide +kernel)
set_option maxRecDepth 20000 in
theorem gX7_sheet_X1_lengthsOf : GoodIn wsX7_sheet (wsV RX7 124 RX1 yX1_lengthsOf wsX1_lengthsOf) := goodIn_app (goodIn_of _ (by decide +kernel)) ggX7_sheet_X1_lengthsOf
theorem dX7_sheet_0 : decode cX7_sheet 0 = .ok (.aload_n 0, 1) := by decide +kernel
theorem dX7_sheet_1 : decode cX7_sheet 1 = .ok (.getfield 14, 3) := by decide +kernel
theorem dX7_sheet_4 : decode cX7_sheet 4 = .ok (.iload_n 1, 1) := by decide +kernel
theorem dX7_sheet_5 : decode cX7_sheet 5 = .ok (.invokevirtual 105, 3) := by decide +kernel
theorem dX7_sheet_8 : decode cX7_sheet 8 = .ok (.ifCond .ne 5, 3) := by decide +kernel
theorem dX7_sheet_11 : decode cX7_sheet 11 = .ok (.iconst (-1), 1) := by decide +kernel
theorem dX7_sheet_12 : decode cX7_sheet 12 = .ok (.ireturn, 1) := by decide +kernel
theorem dX7_sheet_13 : decode cX7_sheet 13 = .ok (.iload_n 2, 1) := by decide +kernel
theorem dX7_sheet_14 : decode cX7_sheet 14 = .ok (.tableswitch 134 0 6 #[42, 52, 62, 72, 85, 98, 116], 42) := by decide +kernel
theorem dX7_sheet_56 : decode cX7_sheet 56 = .ok (.aload_n 0, 1) := by decide +kernel
theorem dX7_sheet_57 : decode cX7_sheet 57 = .ok (.getfield 14, 3) := by decide +kernel
theorem dX7_sheet_60 : decode cX7_sheet 60 = .ok (.getfield 108, 3) := by decide +kernel
theorem dX7_sheet_63 : decode cX7_sheet 63 = .ok (.iload_n 1, 1) := by decide +kernel
theorem dX7_sheet_64 : decode cX7_sheet 64 = .ok (.iaload, 1) := by decide +kernel
theorem dX7_sheet_65 : decode cX7_sheet 65 = .ok (.ireturn, 1) := by decide +kernel
theorem dX7_sheet_66 : decode cX7_sheet 66 = .ok (.aload_n 0, 1) := by decide +kernel
theorem dX7_sheet_67 : decode cX7_sheet 67 = .ok (.getfield 14, 3) := by decide +kernel
theorem dX7_sheet_70 : decode cX7_sheet 70 = .ok (.getfield 111, 3) := by decide +kernel
theorem dX7_sheet_73 : decode cX7_sheet 73 = .ok (.iload_n 1, 1) := by decide +kernel
theorem dX7_sheet_74 : decode cX7_sheet 74 = .ok (.iaload, 1) := by decide +kernel
theorem dX7_sheet_75 : decode cX7_sheet 75 = .ok (.ireturn, 1) := by decide +kernel
theorem dX7_sheet_76 : decode cX7_sheet 76 = .ok (.aload_n 0, 1) := by decide +kernel
theorem dX7_sheet_77 : decode cX7_sheet 77 = .ok (.getfield 14, 3) := by decide +kernel
theorem dX7_sheet_80 : decode cX7_sheet 80 = .ok (.getfield 114, 3) := by decide +kernel
theorem dX7_sheet_83 : decode cX7_sheet 83 = .ok (.iload_n 1, 1) := by decide +kernel
theorem dX7_sheet_84 : decode cX7_sheet 84 = .ok (.iaload, 1) := by decide +kernel
theorem dX7_sheet_85 : decode cX7_sheet 85 = .ok (.ireturn, 1) := by decide +kernel
theorem dX7_sheet_86 : decode cX7_sheet 86 = .ok (.aload_n 0, 1) := by decide +kernel
theorem dX7_sheet_87 : decode cX7_sheet 87 = .ok (.getfield 24, 3) := by decide +kernel
theorem dX7_sheet_90 : decode cX7_sheet 90 = .ok (.aload_n 0, 1) := by decide +kernel
theorem dX7_sheet_91 : decode cX7_sheet 91 = .ok (.getfield 14, 3) := by decide +kernel
theorem dX7_sheet_94 : decode cX7_sheet 94 = .ok (.iload_n 1, 1) := by decide +kernel
theorem dX7_sheet_95 : decode cX7_sheet 95 = .ok (.invokevirtual 117, 3) := by decide +kernel
theorem dX7_sheet_98 : decode cX7_sheet 98 = .ok (.ireturn, 1) := by decide +kernel
theorem dX7_sheet_99 : decode cX7_sheet 99 = .ok (.aload_n 0, 1) := by decide +kernel
theorem dX7_sheet_100 : decode cX7_sheet 100 = .ok (.getfield 24, 3) := by decide +kernel
theorem dX7_sheet_103 : decode cX7_sheet 103 = .ok (.aload_n 0, 1) := by decide +kernel
theorem dX7_sheet_104 : decode cX7_sheet 104 = .ok (.getfield 14, 3) := by decide +kernel
theorem dX7_sheet_107 : decode cX7_sheet 107 = .ok (.iload_n 1, 1) := by decide +kernel
theorem dX7_sheet_108 : decode cX7_sheet 108 = .ok (.invokevirtual 121, 3) := by decide +kernel
theorem dX7_sheet_111 : decode cX7_sheet 111 = .ok (.ireturn, 1) := by decide +kernel
theorem dX7_sheet_112 : decode cX7_sheet 112 = .ok (.aload_n 0, 1) := by decide +kernel
theorem dX7_sheet_113 : decode cX7_sheet 113 = .ok (.getfield 24, 3) := by decide +kernel
theorem dX7_sheet_116 : decode cX7_sheet 116 = .ok (.aload_n 0, 1) := by decide +kernel
theorem dX7_sheet_117 : decode cX7_sheet 117 = .ok (.getfield 14, 3) := by decide +kernel
theorem dX7_sheet_120 : decode cX7_sheet 120 = .ok (.aload_n 0, 1) := by decide +kernel
theorem dX7_sheet_121 : decode cX7_sheet 121 = .ok (.getfield 31, 3) := by decide +kernel
theorem dX7_sheet_124 : decode cX7_sheet 124 = .ok (.iload_n 1, 1) := by decide +kernel
theorem dX7_sheet_125 : decode cX7_sheet 125 = .ok (.iconst 0, 1) := by decide +kernel
theorem dX7_sheet_126 : decode cX7_sheet 126 = .ok (.invokevirtual 124, 3) := by decide +kernel
theorem dX7_sheet_129 : decode cX7_sheet 129 = .ok (.ireturn, 1) := by decide +kernel
theorem dX7_sheet_130 : decode cX7_sheet 130 = .ok (.aload_n 0, 1) := by decide +kernel
theorem dX7_sheet_131 : decode cX7_sheet 131 = .ok (.getfield 24, 3) := by decide +kernel
theorem dX7_sheet_134 : decode cX7_sheet 134 = .ok (.aload_n 0, 1) := by decide +kernel
theorem dX7_sheet_135 : decode cX7_sheet 135 = .ok (.getfield 14, 3) := by decide +kernel
theorem dX7_sheet_138 : decode cX7_sheet 138 = .ok (.aload_n 0, 1) := by decide +kernel
theorem dX7_sheet_139 : decode cX7_sheet 139 = .ok (.getfield 31, 3) := by decide +kernel
theorem dX7_sheet_142 : decode cX7_sheet 142 = .ok (.iload_n 1, 1) := by decide +kernel
theorem dX7_sheet_143 : decode cX7_sheet 143 = .ok (.iconst 1, 1) := by decide +kernel
theorem dX7_sheet_144 : decode cX7_sheet 144 = .ok (.invokevirtual 124, 3) := by decide +kernel
theorem dX7_sheet_147 : decode cX7_sheet 147 = .ok (.ireturn, 1) := by decide +kernel
theorem dX7_sheet_148 : decode cX7_sheet 148 = .ok (.iconst (-1), 1) := by decide +kernel
theorem dX7_sheet_149 : decode cX7_sheet 149 = .ok (.ireturn, 1) := by decide +kernel
set_option maxRecDepth 20000 in
theorem ggX7_gap_X2_isLeaf : GoodIn wsX7_gap wsX2_isLeaf := goodIn_r _ [6, 7, 35, 36, 37, 38, 39, 40, 41, 42, 43, 44, 45, 46, 47, 48] rfl (by decide +kernel)
set_option maxRecDepth 20000 in
theorem gX7_gap_X2_isLeaf : GoodIn wsX7_gap (wsV RX7 105 RX2 yX2_isLeaf wsX2_isLeaf) := goodIn_app (goodIn_of _ (by decide +kernel)) ggX7_gap_X2_isLeaf
set_option maxRecDepth 20000 in
theorem ggX7_gap_X2_isHeld : GoodIn wsX7_gap wsX2_isHeld := goodIn_r _ [11, 12, 35, 36, 37, 38, 39, 40, 41, 42, 43, 44, 45, 46, 47, 48] rfl (by decide +kernel)
set_option maxRecDepth 20000 in
theorem gX7_gap_X2_isHeld : GoodIn wsX7_gap (wsV RX7 128 RX2 yX2_isHeld wsX2_isHeld) := goodIn_app (goodIn_of _ (by decide +kernel)) ggX7_gap_X2_isHeld
set_option maxRecDepth 20000 in
theorem ggX7_gap_X2_gapOf : GoodIn wsX7_gap wsX2_gapOf := goodIn_r _ [16, 17, 12, 18, 19, 20, 21, 22, 23, 35, 36, 37, 38, 39, 40, 41, 42, 43, 44, 45, 46, 47, 48] rfl (by decide +kernel)
set_option maxRecDepth 20000 in
theorem gX7_gap_X2_gapOf : GoodIn wsX7_gap (wsV RX7 131 RX2 yX2_gapOf wsX2_gapOf) := goodIn_app (goodIn_of _ (by decide +kernel)) ggX7_gap_X2_gapOf
theorem dX7_gap_0 : decode cX7_gap 0 = .ok (.aload_n 0, 1) := by decide +kernel
theorem dX7_gap_1 : decode cX7_gap 1 = .ok (.getfield 14, 3) := by decide +kernel
theorem dX7_gap_4 : decode cX7_gap 4 = .ok (.iload_n 1, 1) := by decide +kernel
theorem dX7_gap_5 : decode cX7_gap 5 = .ok (.invokevirtual 105, 3) := by decide +kernel
theorem dX7_gap_8 : decode cX7_gap 8 = .ok (.ifCond .ne 7, 3) := by decide +kernel
theorem dX7_gap_11 : decode cX7_gap 11 = .ok (.sipush (-10001), 3) := by decide +kernel
theorem dX7_gap_14 : decode cX7_gap 14 = .ok (.ireturn, 1) := by decide +kernel
theorem dX7_gap_15 : decode cX7_gap 15 = .ok (.aload_n 0, 1) := by decide +kernel
theorem dX7_gap_16 : decode cX7_gap 16 = .ok (.getfield 14, 3) := by decide +kernel
theorem dX7_gap_19 : decode cX7_gap 19 = .ok (.iload_n 1, 1) := by decide +kernel
theorem dX7_gap_20 : decode cX7_gap 20 = .ok (.invokevirtual 128, 3) := by decide +kernel
theorem dX7_gap_23 : decode cX7_gap 23 = .ok (.ifCond .ne 7, 3) := by decide +kernel
theorem dX7_gap_26 : decode cX7_gap 26 = .ok (.sipush (-10003), 3) := by decide +kernel
theorem dX7_gap_29 : decode cX7_gap 29 = .ok (.ireturn, 1) := by decide +kernel
theorem dX7_gap_30 : decode cX7_gap 30 = .ok (.aload_n 0, 1) := by decide +kernel
theorem dX7_gap_31 : decode cX7_gap 31 = .ok (.getfield 14, 3) := by decide +kernel
theorem dX7_gap_34 : decode cX7_gap 34 = .ok (.iload_n 1, 1) := by decide +kernel
theorem dX7_gap_35 : decode cX7_gap 35 = .ok (.invokevirtual 131, 3) := by decide +kernel
theorem dX7_gap_38 : decode cX7_gap 38 = .ok (.ireturn, 1) := by decide +kernel
set_option maxRecDepth 20000 in
theorem ggX7_hold_X2_isLeaf : GoodIn wsX7_hold wsX2_isLeaf := goodIn_r _ [6, 7, 48, 49, 50, 51, 52, 53, 54, 55, 56, 57, 58, 59, 60, 61] rfl (by decide +kernel)
set_option maxRecDepth 20000 in
theorem gX7_hold_X2_isLeaf : GoodIn wsX7_hold (wsV RX7 105 RX2 yX2_isLeaf wsX2_isLeaf) := goodIn_app (goodIn_of _ (by decide +kernel)) ggX7_hold_X2_isLeaf
set_option maxRecDepth 20000 in
theorem ggX7_hold_X2_isPerson : GoodIn wsX7_hold wsX2_isPerson := goodIn_r _ [11, 12, 48, 49, 50, 51, 52, 53, 54, 55, 56, 57, 58, 59, 60, 61] rfl (by decide +kernel)
set_option maxRecDepth 20000 in
theorem gX7_hold_X2_isPerson : GoodIn wsX7_hold (wsV RX7 78 RX2 yX2_isPerson wsX2_isPerson) := goodIn_app (goodIn_of _ (by decide +kernel)) ggX7_hold_X2_isPerson
set_option maxRecDepth 20000 in
theorem ggX7_hold_X2_give : GoodIn wsX7_hold wsX2_give := goodIn_r _ [16, 17, 18, 48, 49, 50, 51, 52, 53, 54, 55, 56, 57, 58, 59, 60, 61] rfl (by decide +kernel)
set_option maxRecDepth 20000 in
theorem gX7_hold_X2_give : GoodIn wsX7_hold (wsV RX7 134 RX2 yX2_give wsX2_give) := goodIn_app (goodIn_of _ (by decide +kernel)) ggX7_hold_X2_give
set_option maxRecDepth 20000 in
theorem ggX7_hold_X2_isTaut : GoodIn wsX7_hold wsX2_isTaut := goodIn_r _ [22, 23, 24, 25, 5, 26, 17, 27, 28, 29, 30, 31, 18, 32, 33, 34, 35, 36, 48, 49, 50, 51, 52, 53, 54, 55, 56, 57, 58, 59, 60, 61] rfl (by decide +kernel)
set_option maxRecDepth 20000 in
theorem gX7_hold_X2_isTaut : GoodIn wsX7_hold (wsV RX7 138 RX2 yX2_isTaut wsX2_isTaut) := goodIn_app (goodIn_of _ (by decide +kernel)) ggX7_hold_X2_isTaut
theorem dX7_hold_0 : decode cX7_hold 0 = .ok (.aload_n 0, 1) := by decide +kernel
theorem dX7_hold_1 : decode cX7_hold 1 = .ok (.getfield 14, 3) := by decide +kernel
theorem dX7_hold_4 : decode cX7_hold 4 = .ok (.iload_n 1, 1) := by decide +kernel
theorem dX7_hold_5 : decode cX7_hold 5 = .ok (.invokevirtual 105, 3) := by decide +kernel
theorem dX7_hold_8 : decode cX7_hold 8 = .ok (.ifCond .eq 25, 3) := by decide +kernel
theorem dX7_hold_11 : decode cX7_hold 11 = .ok (.aload_n 0, 1) := by decide +kernel
theorem dX7_hold_12 : decode cX7_hold 12 = .ok (.getfield 14, 3) := by decide +kernel
theorem dX7_hold_15 : decode cX7_hold 15 = .ok (.iload_n 2, 1) := by decide +kernel
theorem dX7_hold_16 : decode cX7_hold 16 = .ok (.invokevirtual 78, 3) := by decide +kernel
theorem dX7_hold_19 : decode cX7_hold 19 = .ok (.ifCond .eq 14, 3) := by decide +kernel
theorem dX7_hold_22 : decode cX7_hold 22 = .ok (.aload_n 0, 1) := by decide +kernel
theorem dX7_hold_23 : decode cX7_hold 23 = .ok (.getfield 14, 3) := by decide +kernel
theorem dX7_hold_26 : decode cX7_hold 26 = .ok (.iload_n 3, 1) := by decide +kernel
theorem dX7_hold_27 : decode cX7_hold 27 = .ok (.invokevirtual 78, 3) := by decide +kernel
theorem dX7_hold_30 : decode cX7_hold 30 = .ok (.ifCond .ne 5, 3) := by decide +kernel
theorem dX7_hold_33 : decode cX7_hold 33 = .ok (.iconst (-1), 1) := by decide +kernel
theorem dX7_hold_34 : decode cX7_hold 34 = .ok (.ireturn, 1) := by decide +kernel
theorem dX7_hold_35 : decode cX7_hold 35 = .ok (.iload_n 2, 1) := by decide +kernel
theorem dX7_hold_36 : decode cX7_hold 36 = .ok (.iload_n 3, 1) := by decide +kernel
theorem dX7_hold_37 : decode cX7_hold 37 = .ok (.if_icmp .ne 6, 3) := by decide +kernel
theorem dX7_hold_40 : decode cX7_hold 40 = .ok (.bipush (-2), 2) := by decide +kernel
theorem dX7_hold_42 : decode cX7_hold 42 = .ok (.ireturn, 1) := by decide +kernel
theorem dX7_hold_43 : decode cX7_hold 43 = .ok (.aload_n 0, 1) := by decide +kernel
theorem dX7_hold_44 : decode cX7_hold 44 = .ok (.getfield 14, 3) := by decide +kernel
theorem dX7_hold_47 : decode cX7_hold 47 = .ok (.iload_n 1, 1) := by decide +kernel
theorem dX7_hold_48 : decode cX7_hold 48 = .ok (.iload_n 2, 1) := by decide +kernel
theorem dX7_hold_49 : decode cX7_hold 49 = .ok (.iload_n 3, 1) := by decide +kernel
theorem dX7_hold_50 : decode cX7_hold 50 = .ok (.invokevirtual 134, 3) := by decide +kernel
theorem dX7_hold_53 : decode cX7_hold 53 = .ok (.aload_n 0, 1) := by decide +kernel
theorem dX7_hold_54 : decode cX7_hold 54 = .ok (.getfield 14, 3) := by decide +kernel
theorem dX7_hold_57 : decode cX7_hold 57 = .ok (.iload_n 1, 1) := by decide +kernel
theorem dX7_hold_58 : decode cX7_hold 58 = .ok (.invokevirtual 138, 3) := by decide +kernel
theorem dX7_hold_61 : decode cX7_hold 61 = .ok (.ifCond .eq 7, 3) := by decide +kernel
theorem dX7_hold_64 : decode cX7_hold 64 = .ok (.iconst 1, 1) := by decide +kernel
theorem dX7_hold_65 : decode cX7_hold 65 = .ok (.goto 4, 3) := by decide +kernel
theorem dX7_hold_68 : decode cX7_hold 68 = .ok (.iconst 0, 1) := by decide +kernel
theorem dX7_hold_69 : decode cX7_hold 69 = .ok (.ireturn, 1) := by decide +kernel
set_option maxRecDepth 20000 in
theorem ggX7_free_X2_isLeaf : GoodIn wsX7_free wsX2_isLeaf := goodIn_r _ [7, 8, 34, 35, 36, 37, 38, 39, 40, 41, 42, 43, 44, 45, 46, 47] rfl (by decide +kernel)
set_option maxRecDepth 20000 in
theorem gX7_free_X2_isLeaf : GoodIn wsX7_free (wsV RX7 105 RX2 yX2_isLeaf wsX2_isLeaf) := goodIn_app (goodIn_of _ (by decide +kernel)) ggX7_free_X2_isLeaf
set_option maxRecDepth 20000 in
theorem ggX7_free_X2_isHeld : GoodIn wsX7_free wsX2_isHeld := goodIn_r _ [12, 13, 34, 35, 36, 37, 38, 39, 40, 41, 42, 43, 44, 45, 46, 47] rfl (by decide +kernel)
set_option maxRecDepth 20000 in
theorem gX7_free_X2_isHeld : GoodIn wsX7_free (wsV RX7 128 RX2 yX2_isHeld wsX2_isHeld) := goodIn_app (goodIn_of _ (by decide +kernel)) ggX7_free_X2_isHeld
set_option maxRecDepth 20000 in
theorem ggX7_free_X2_letGo : GoodIn wsX7_free wsX2_letGo := goodIn_r _ [17, 18, 19, 20, 6, 21, 13, 22, 34, 35, 36, 37, 38, 39, 40, 41, 42, 43, 44, 45, 46, 47] rfl (by decide +kernel)
set_option maxRecDepth 20000 in
theorem gX7_free_X2_letGo : GoodIn wsX7_free (wsV RX7 141 RX2 yX2_letGo wsX2_letGo) := goodIn_app (goodIn_of _ (by decide +kernel)) ggX7_free_X2_letGo
theorem dX7_free_0 : decode cX7_free 0 = .ok (.aload_n 0, 1) := by decide +kernel
theorem dX7_free_1 : decode cX7_free 1 = .ok (.getfield 14, 3) := by decide +kernel
theorem dX7_free_4 : decode cX7_free 4 = .ok (.iload_n 1, 1) := by decide +kernel
theorem dX7_free_5 : decode cX7_free 5 = .ok (.invokevirtual 105, 3) := by decide +kernel
theorem dX7_free_8 : decode cX7_free 8 = .ok (.ifCond .ne 5, 3) := by decide +kernel
theorem dX7_free_11 : decode cX7_free 11 = .ok (.iconst (-1), 1) := by decide +kernel
theorem dX7_free_12 : decode cX7_free 12 = .ok (.ireturn, 1) := by decide +kernel
theorem dX7_free_13 : decode cX7_free 13 = .ok (.aload_n 0, 1) := by decide +kernel
theorem dX7_free_14 : decode cX7_free 14 = .ok (.getfield 14, 3) := by decide +kernel
theorem dX7_free_17 : decode cX7_free 17 = .ok (.iload_n 1, 1) := by decide +kernel
theorem dX7_free_18 : decode cX7_free 18 = .ok (.invokevirtual 128, 3) := by decide +kernel
theorem dX7_free_21 : decode cX7_free 21 = .ok (.ifCond .ne 6, 3) := by decide +kernel
theorem dX7_free_24 : decode cX7_free 24 = .ok (.bipush (-3), 2) := by decide +kernel
theorem dX7_free_26 : decode cX7_free 26 = .ok (.ireturn, 1) := by decide +kernel
theorem dX7_free_27 : decode cX7_free 27 = .ok (.aload_n 0, 1) := by decide +kernel
theorem dX7_free_28 : decode cX7_free 28 = .ok (.getfield 14, 3) := by decide +kernel
theorem dX7_free_31 : decode cX7_free 31 = .ok (.getfield 114, 3) := by decide +kernel
theorem dX7_free_34 : decode cX7_free 34 = .ok (.iload_n 1, 1) := by decide +kernel
theorem dX7_free_35 : decode cX7_free 35 = .ok (.iaload, 1) := by decide +kernel
theorem dX7_free_36 : decode cX7_free 36 = .ok (.istore_n 2, 1) := by decide +kernel
theorem dX7_free_37 : decode cX7_free 37 = .ok (.aload_n 0, 1) := by decide +kernel
theorem dX7_free_38 : decode cX7_free 38 = .ok (.getfield 14, 3) := by decide +kernel
theorem dX7_free_41 : decode cX7_free 41 = .ok (.iload_n 1, 1) := by decide +kernel
theorem dX7_free_42 : decode cX7_free 42 = .ok (.invokevirtual 141, 3) := by decide +kernel
theorem dX7_free_45 : decode cX7_free 45 = .ok (.iload_n 2, 1) := by decide +kernel
theorem dX7_free_46 : decode cX7_free 46 = .ok (.ireturn, 1) := by decide +kernel
set_option maxRecDepth 20000 in
theorem ggX7_walk_X2_isPerson : GoodIn wsX7_walk wsX2_isPerson := goodIn_r _ [7, 8, 24, 25, 26, 27, 28, 29, 30, 31, 32, 33, 34, 35, 36, 37] rfl (by decide +kernel)
set_option maxRecDepth 20000 in
theorem gX7_walk_X2_isPerson : GoodIn wsX7_walk (wsV RX7 78 RX2 yX2_isPerson wsX2_isPerson) := goodIn_app (goodIn_of _ (by decide +kernel)) ggX7_walk_X2_isPerson
set_option maxRecDepth 20000 in
theorem ggX7_walk_X7_isWithin : GoodIn wsX7_walk wsX7_isWithin := goodIn_r _ [12] rfl (by decide +kernel)
set_option maxRecDepth 20000 in
theorem gX7_walk_X7_isWithin : GoodIn wsX7_walk (va_wsS RX7 66 yX7_isWithin wsX7_isWithin) := goodIn_app (goodIn_of _ (by decide +kernel)) ggX7_walk_X7_isWithin
theorem dX7_walk_0 : decode cX7_walk 0 = .ok (.aload_n 0, 1) := by decide +kernel
theorem dX7_walk_1 : decode cX7_walk 1 = .ok (.getfield 14, 3) := by decide +kernel
theorem dX7_walk_4 : decode cX7_walk 4 = .ok (.iload_n 1, 1) := by decide +kernel
theorem dX7_walk_5 : decode cX7_walk 5 = .ok (.invokevirtual 78, 3) := by decide +kernel
theorem dX7_walk_8 : decode cX7_walk 8 = .ok (.ifCond .ne 5, 3) := by decide +kernel
theorem dX7_walk_11 : decode cX7_walk 11 = .ok (.iconst (-1), 1) := by decide +kernel
theorem dX7_walk_12 : decode cX7_walk 12 = .ok (.ireturn, 1) := by decide +kernel
theorem dX7_walk_13 : decode cX7_walk 13 = .ok (.iload_n 2, 1) := by decide +kernel
theorem dX7_walk_14 : decode cX7_walk 14 = .ok (.bipush 99, 2) := by decide +kernel
theorem dX7_walk_16 : decode cX7_walk 16 = .ok (.invokestatic 66, 3) := by decide +kernel
theorem dX7_walk_19 : decode cX7_walk 19 = .ok (.ifCond .ne 6, 3) := by decide +kernel
theorem dX7_walk_22 : decode cX7_walk 22 = .ok (.bipush (-2), 2) := by decide +kernel
theorem dX7_walk_24 : decode cX7_walk 24 = .ok (.ireturn, 1) := by decide +kernel
theorem dX7_walk_25 : decode cX7_walk 25 = .ok (.aload_n 0, 1) := by decide +kernel
theorem dX7_walk_26 : decode cX7_walk 26 = .ok (.getfield 14, 3) := by decide +kernel
theorem dX7_walk_29 : decode cX7_walk 29 = .ok (.getfield 89, 3) := by decide +kernel
theorem dX7_walk_32 : decode cX7_walk 32 = .ok (.iload_n 1, 1) := by decide +kernel
theorem dX7_walk_33 : decode cX7_walk 33 = .ok (.iaload, 1) := by decide +kernel
theorem dX7_walk_34 : decode cX7_walk 34 = .ok (.istore_n 3, 1) := by decide +kernel
theorem dX7_walk_35 : decode cX7_walk 35 = .ok (.aload_n 0, 1) := by decide +kernel
theorem dX7_walk_36 : decode cX7_walk 36 = .ok (.getfield 14, 3) := by decide +kernel
theorem dX7_walk_39 : decode cX7_walk 39 = .ok (.getfield 89, 3) := by decide +kernel
theorem dX7_walk_42 : decode cX7_walk 42 = .ok (.iload_n 1, 1) := by decide +kernel
theorem dX7_walk_43 : decode cX7_walk 43 = .ok (.iload_n 2, 1) := by decide +kernel
theorem dX7_walk_44 : decode cX7_walk 44 = .ok (.iastore, 1) := by decide +kernel
theorem dX7_walk_45 : decode cX7_walk 45 = .ok (.iload_n 3, 1) := by decide +kernel
theorem dX7_walk_46 : decode cX7_walk 46 = .ok (.ireturn, 1) := by decide +kernel
set_option maxRecDepth 20000 in
theorem ggX7_row_X2_isPerson : GoodIn wsX7_row wsX2_isPerson := goodIn_r _ [8, 9, 25, 26, 27, 28, 29, 30, 31, 32, 33, 34, 35, 36, 37, 38] rfl (by decide +kernel)
set_option maxRecDepth 20000 in
theorem gX7_row_X2_isPerson : GoodIn wsX7_row (wsV RX7 78 RX2 yX2_isPerson wsX2_isPerson) := goodIn_app (goodIn_of _ (by decide +kernel)) ggX7_row_X2_isPerson
set_option maxRecDepth 20000 in
theorem ggX7_row_X7_isWithin : GoodIn wsX7_row wsX7_isWithin := goodIn_r _ [13] rfl (by decide +kernel)
set_option maxRecDepth 20000 in
theorem gX7_row_X7_isWithin : GoodIn wsX7_row (va_wsS RX7 66 yX7_isWithin wsX7_isWithin) := goodIn_app (goodIn_of _ (by decide +kernel)) ggX7_row_X7_isWithin
theorem dX7_row_0 : decode cX7_row 0 = .ok (.aload_n 0, 1) := by decide +kernel
theorem dX7_row_1 : decode cX7_row 1 = .ok (.getfield 14, 3) := by decide +kernel
theorem dX7_row_4 : decode cX7_row 4 = .ok (.iload_n 1, 1) := by decide +kernel
theorem dX7_row_5 : decode cX7_row 5 = .ok (.invokevirtual 78, 3) := by decide +kernel
theorem dX7_row_8 : decode cX7_row 8 = .ok (.ifCond .eq 11, 3) := by decide +kernel
theorem dX7_row_11 : decode cX7_row 11 = .ok (.iload_n 2, 1) := by decide +kernel
theorem dX7_row_12 : decode cX7_row 12 = .ok (.iconst 3, 1) := by decide +kernel
theorem dX7_row_13 : decode cX7_row 13 = .ok (.invokestatic 66, 3) := by decide +kernel
theorem dX7_row_16 : decode cX7_row 16 = .ok (.ifCond .ne 5, 3) := by decide +kernel
theorem dX7_row_19 : decode cX7_row 19 = .ok (.iconst (-1), 1) := by decide +kernel
theorem dX7_row_20 : decode cX7_row 20 = .ok (.ireturn, 1) := by decide +kernel
theorem dX7_row_21 : decode cX7_row 21 = .ok (.iload_n 3, 1) := by decide +kernel
theorem dX7_row_22 : decode cX7_row 22 = .ok (.bipush 9, 2) := by decide +kernel
theorem dX7_row_24 : decode cX7_row 24 = .ok (.invokestatic 66, 3) := by decide +kernel
theorem dX7_row_27 : decode cX7_row 27 = .ok (.ifCond .ne 6, 3) := by decide +kernel
theorem dX7_row_30 : decode cX7_row 30 = .ok (.bipush (-2), 2) := by decide +kernel
theorem dX7_row_32 : decode cX7_row 32 = .ok (.ireturn, 1) := by decide +kernel
theorem dX7_row_33 : decode cX7_row 33 = .ok (.aload_n 0, 1) := by decide +kernel
theorem dX7_row_34 : decode cX7_row 34 = .ok (.getfield 14, 3) := by decide +kernel
theorem dX7_row_37 : decode cX7_row 37 = .ok (.getfield 82, 3) := by decide +kernel
theorem dX7_row_40 : decode cX7_row 40 = .ok (.iload_n 1, 1) := by decide +kernel
theorem dX7_row_41 : decode cX7_row 41 = .ok (.iaload, 1) := by decide +kernel
theorem dX7_row_42 : decode cX7_row 42 = .ok (.bipush 6, 2) := by decide +kernel
theorem dX7_row_44 : decode cX7_row 44 = .ok (.if_icmp .eq 6, 3) := by decide +kernel
theorem dX7_row_47 : decode cX7_row 47 = .ok (.bipush (-3), 2) := by decide +kernel
theorem dX7_row_49 : decode cX7_row 49 = .ok (.ireturn, 1) := by decide +kernel
theorem dX7_row_50 : decode cX7_row 50 = .ok (.aload_n 0, 1) := by decide +kernel
theorem dX7_row_51 : decode cX7_row 51 = .ok (.getfield 14, 3) := by decide +kernel
theorem dX7_row_54 : decode cX7_row 54 = .ok (.getfield 145, 3) := by decide +kernel
theorem dX7_row_57 : decode cX7_row 57 = .ok (.iload_n 1, 1) := by decide +kernel
theorem dX7_row_58 : decode cX7_row 58 = .ok (.iconst 4, 1) := by decide +kernel
theorem dX7_row_59 : decode cX7_row 59 = .ok (.imul, 1) := by decide +kernel
theorem dX7_row_60 : decode cX7_row 60 = .ok (.iload_n 2, 1) := by decide +kernel
theorem dX7_row_61 : decode cX7_row 61 = .ok (.iadd, 1) := by decide +kernel
theorem dX7_row_62 : decode cX7_row 62 = .ok (.iaload, 1) := by decide +kernel
theorem dX7_row_63 : decode cX7_row 63 = .ok (.istore 4, 2) := by decide +kernel
theorem dX7_row_65 : decode cX7_row 65 = .ok (.aload_n 0, 1) := by decide +kernel
theorem dX7_row_66 : decode cX7_row 66 = .ok (.getfield 14, 3) := by decide +kernel
theorem dX7_row_69 : decode cX7_row 69 = .ok (.getfield 145, 3) := by decide +kernel
theorem dX7_row_72 : decode cX7_row 72 = .ok (.iload_n 1, 1) := by decide +kernel
theorem dX7_row_73 : decode cX7_row 73 = .ok (.iconst 4, 1) := by decide +kernel
theorem dX7_row_74 : decode cX7_row 74 = .ok (.imul, 1) := by decide +kernel
theorem dX7_row_75 : decode cX7_row 75 = .ok (.iload_n 2, 1) := by decide +kernel
theorem dX7_row_76 : decode cX7_row 76 = .ok (.iadd, 1) := by decide +kernel
theorem dX7_row_77 : decode cX7_row 77 = .ok (.iload_n 3, 1) := by decide +kernel
theorem dX7_row_78 : decode cX7_row 78 = .ok (.iastore, 1) := by decide +kernel
theorem dX7_row_79 : decode cX7_row 79 = .ok (.iload 4, 2) := by decide +kernel
theorem dX7_row_81 : decode cX7_row 81 = .ok (.ireturn, 1) := by decide +kernel
set_option maxRecDepth 20000 in
theorem ggX7_feed_X7_isWithin : GoodIn wsX7_feed wsX7_isWithin := goodIn_r _ [6] rfl (by decide +kernel)
set_option maxRecDepth 20000 in
theorem gX7_feed_X7_isWithin : GoodIn wsX7_feed (va_wsS RX7 66 yX7_isWithin wsX7_isWithin) := goodIn_app (goodIn_of _ (by decide +kernel)) ggX7_feed_X7_isWithin
set_option maxRecDepth 20000 in
theorem ggX7_feed_X4_addSign : GoodIn wsX7_feed wsX4_addSign := goodIn_r _ [11, 12, 13, 25, 26, 27, 28] rfl (by decide +kernel)
set_option maxRecDepth 20000 in
theorem gX7_feed_X4_addSign : GoodIn wsX7_feed (wsV RX7 150 RX4 yX4_addSign wsX4_addSign) := goodIn_app (goodIn_of _ (by decide +kernel)) ggX7_feed_X4_addSign
theorem dX7_feed_0 : decode cX7_feed 0 = .ok (.iload_n 1, 1) := by decide +kernel
theorem dX7_feed_1 : decode cX7_feed 1 = .ok (.bipush 127, 2) := by decide +kernel
theorem dX7_feed_3 : decode cX7_feed 3 = .ok (.invokestatic 66, 3) := by decide +kernel
theorem dX7_feed_6 : decode cX7_feed 6 = .ok (.ifCond .ne 6, 3) := by decide +kernel
theorem dX7_feed_9 : decode cX7_feed 9 = .ok (.bipush (-2), 2) := by decide +kernel
theorem dX7_feed_11 : decode cX7_feed 11 = .ok (.ireturn, 1) := by decide +kernel
theorem dX7_feed_12 : decode cX7_feed 12 = .ok (.aload_n 0, 1) := by decide +kernel
theorem dX7_feed_13 : decode cX7_feed 13 = .ok (.getfield 47, 3) := by decide +kernel
theorem dX7_feed_16 : decode cX7_feed 16 = .ok (.getfield 148, 3) := by decide +kernel
theorem dX7_feed_19 : decode cX7_feed 19 = .ok (.bipush 100, 2) := by decide +kernel
theorem dX7_feed_21 : decode cX7_feed 21 = .ok (.if_icmp .lt 6, 3) := by decide +kernel
theorem dX7_feed_24 : decode cX7_feed 24 = .ok (.bipush (-4), 2) := by decide +kernel
theorem dX7_feed_26 : decode cX7_feed 26 = .ok (.ireturn, 1) := by decide +kernel
theorem dX7_feed_27 : decode cX7_feed 27 = .ok (.aload_n 0, 1) := by decide +kernel
theorem dX7_feed_28 : decode cX7_feed 28 = .ok (.getfield 47, 3) := by decide +kernel
theorem dX7_feed_31 : decode cX7_feed 31 = .ok (.iload_n 1, 1) := by decide +kernel
theorem dX7_feed_32 : decode cX7_feed 32 = .ok (.invokevirtual 150, 3) := by decide +kernel
theorem dX7_feed_35 : decode cX7_feed 35 = .ok (.ireturn, 1) := by decide +kernel
set_option maxRecDepth 20000 in
theorem ggX7_library_X4_readInto : GoodIn wsX7_library wsX4_readInto := goodIn_r _ [11, 12, 13, 14, 15, 16, 17, 18, 19, 20, 21, 22, 23, 24, 10, 25, 26, 27, 28, 29, 30, 31, 32, 33, 34, 35, 36, 37, 38, 39, 40, 41, 42, 43, 44, 45, 46, 47, 48, 49, 50, 51, 52, 53, 54, 55, 56, 57, 58, 59, 60, 61, 62, 63, 64, 65, 66, 67, 68, 69, 70, 71, 72, 73, 74, 75, 76, 77, 78, 79, 80, 81, 82, 83, 84, 85, 86, 87, 88, 89, 90, 91, 92, 93, 94, 95, 96, 97, 98, 99, 100, 101, 102, 103, 104, 105, 106, 107, 108, 109, 110, 111, 112, 113, 114, 115, 116, 117, 118, 119, 120, 121, 122, 123, 124, 125, 126, 127, 128, 129, 130, 131, 132, 133, 134, 135, 136, 137, 138, 139, 140, 141, 142, 143, 144, 145, 146, 147, 148, 149, 150, 151, 152, 153, 154, 155, 156, 157, 158, 159, 160, 161, 162, 163, 164, 165, 166, 167, 168, 169, 170, 171, 172, 173, 174, 175, 176, 177, 178, 179, 180, 192, 193, 194, 195, 210, 211, 212, 213, 214] rfl (by decide +kernel)
set_option maxRecDepth 20000 in
theorem gX7_library_X4_readInto : GoodIn wsX7_library (wsV RX7 156 RX4 yX4_readInto wsX4_readInto) := goodIn_app (goodIn_of _ (by decide +kernel)) ggX7_library_X4_readInto
theorem dX7_library_0 : decode cX7_library 0 = .ok (.aload_n 0, 1) := by decide +kernel
theorem dX7_library_1 : decode cX7_library 1 = .ok (.getfield 153, 3) := by decide +kernel
theorem dX7_library_4 : decode cX7_library 4 = .ok (.bipush 6, 2) := by decide +kernel
theorem dX7_library_6 : decode cX7_library 6 = .ok (.if_icmp .lt 6, 3) := by decide +kernel
theorem dX7_library_9 : decode cX7_library 9 = .ok (.bipush (-4), 2) := by decide +kernel
theorem dX7_library_11 : decode cX7_library 11 = .ok (.ireturn, 1) := by decide +kernel
theorem dX7_library_12 : decode cX7_library 12 = .ok (.aload_n 0, 1) := by decide +kernel
theorem dX7_library_13 : decode cX7_library 13 = .ok (.getfield 40, 3) := by decide +kernel
theorem dX7_library_16 : decode cX7_library 16 = .ok (.aload_n 0, 1) := by decide +kernel
theorem dX7_library_17 : decode cX7_library 17 = .ok (.getfield 153, 3) := by decide +kernel
theorem dX7_library_20 : decode cX7_library 20 = .ok (.aaload, 1) := by decide +kernel
theorem dX7_library_21 : decode cX7_library 21 = .ok (.astore_n 1, 1) := by decide +kernel
theorem dX7_library_22 : decode cX7_library 22 = .ok (.aload_n 0, 1) := by decide +kernel
theorem dX7_library_23 : decode cX7_library 23 = .ok (.getfield 47, 3) := by decide +kernel
theorem dX7_library_26 : decode cX7_library 26 = .ok (.aload_n 1, 1) := by decide +kernel
theorem dX7_library_27 : decode cX7_library 27 = .ok (.invokevirtual 156, 3) := by decide +kernel
theorem dX7_library_30 : decode cX7_library 30 = .ok (.istore_n 2, 1) := by decide +kernel
theorem dX7_library_31 : decode cX7_library 31 = .ok (.aload_n 0, 1) := by decide +kernel
theorem dX7_library_32 : decode cX7_library 32 = .ok (.getfield 47, 3) := by decide +kernel
theorem dX7_library_35 : decode cX7_library 35 = .ok (.iconst 0, 1) := by decide +kernel
theorem dX7_library_36 : decode cX7_library 36 = .ok (.putfield 148, 3) := by decide +kernel
theorem dX7_library_39 : decode cX7_library 39 = .ok (.iload_n 2, 1) := by decide +kernel
theorem dX7_library_40 : decode cX7_library 40 = .ok (.bipush (-5), 2) := by decide +kernel
theorem dX7_library_42 : decode cX7_library 42 = .ok (.if_icmp .eq 8, 3) := by decide +kernel
theorem dX7_library_45 : decode cX7_library 45 = .ok (.bipush (-10), 2) := by decide +kernel
theorem dX7_library_47 : decode cX7_library 47 = .ok (.iload_n 2, 1) := by decide +kernel
theorem dX7_library_48 : decode cX7_library 48 = .ok (.isub, 1) := by decide +kernel
theorem dX7_library_49 : decode cX7_library 49 = .ok (.ireturn, 1) := by decide +kernel
theorem dX7_library_50 : decode cX7_library 50 = .ok (.aload_n 0, 1) := by decide +kernel
theorem dX7_library_51 : decode cX7_library 51 = .ok (.getfield 14, 3) := by decide +kernel
theorem dX7_library_54 : decode cX7_library 54 = .ok (.aload_n 1, 1) := by decide +kernel
theorem dX7_library_55 : decode cX7_library 55 = .ok (.putfield 160, 3) := by decide +kernel
theorem dX7_library_58 : decode cX7_library 58 = .ok (.aload_n 0, 1) := by decide +kernel
theorem dX7_library_59 : decode cX7_library 59 = .ok (.dup, 1) := by decide +kernel
theorem dX7_library_60 : decode cX7_library 60 = .ok (.getfield 153, 3) := by decide +kernel
theorem dX7_library_63 : decode cX7_library 63 = .ok (.iconst 1, 1) := by decide +kernel
theorem dX7_library_64 : decode cX7_library 64 = .ok (.iadd, 1) := by decide +kernel
theorem dX7_library_65 : decode cX7_library 65 = .ok (.putfield 153, 3) := by decide +kernel
theorem dX7_library_68 : decode cX7_library 68 = .ok (.aload_n 0, 1) := by decide +kernel
theorem dX7_library_69 : decode cX7_library 69 = .ok (.getfield 153, 3) := by decide +kernel
theorem dX7_library_72 : decode cX7_library 72 = .ok (.iconst 1, 1) := by decide +kernel
theorem dX7_library_73 : decode cX7_library 73 = .ok (.isub, 1) := by decide +kernel
theorem dX7_library_74 : decode cX7_library 74 = .ok (.ireturn, 1) := by decide +kernel
set_option maxRecDepth 20000 in
theorem ggX7_told_X2_bear : GoodIn wsX7_told wsX2_bear := goodIn_r _ [8, 9, 10, 51, 52, 53, 54, 55, 56, 57, 58, 59, 60, 61, 62, 63, 64, 65, 66, 67, 68, 69] rfl (by decide +kernel)
set_option maxRecDepth 20000 in
theorem gX7_told_X2_bear : GoodIn wsX7_told (wsV RX7 167 RX2 yX2_bear wsX2_bear) := goodIn_app (goodIn_of _ (by decide +kernel)) ggX7_told_X2_bear
set_option maxRecDepth 20000 in
theorem ggX7_told_X2_tautBits : GoodIn wsX7_told wsX2_tautBits := goodIn_r _ [14, 15, 16, 17, 18, 7, 19, 20, 21, 22, 23, 24, 25, 26, 27, 28, 29, 30, 31, 32, 33, 34, 35, 51, 52, 53, 54, 55, 56, 57, 58, 59, 60, 61, 62, 63, 64] rfl (by decide +kernel)
set_option maxRecDepth 20000 in
theorem gX7_told_X2_tautBits : GoodIn wsX7_told (wsV RX7 174 RX2 yX2_tautBits wsX2_tautBits) := goodIn_app (goodIn_of _ (by decide +kernel)) ggX7_told_X2_tautBits
set_option maxRecDepth 20000 in
theorem ggX7_told_X2_heldBits : GoodIn wsX7_told wsX2_heldBits := goodIn_r _ [39, 15, 20, 21, 22, 7, 23, 24, 51, 52, 53, 54, 55, 56, 57, 58, 59, 60, 61, 62, 63, 64] rfl (by decide +kernel)
set_option maxRecDepth 20000 in
theorem gX7_told_X2_heldBits : GoodIn wsX7_told (wsV RX7 177 RX2 yX2_heldBits wsX2_heldBits) := goodIn_app (goodIn_of _ (by decide +kernel)) ggX7_told_X2_heldBits
theorem dX7_told_0 : decode cX7_told 0 = .ok (.iload_n 1, 1) := by decide +kernel
theorem dX7_told_1 : decode cX7_told 1 = .ok (.tableswitch 75 0 4 #[35, 43, 51, 59, 67], 35) := by decide +kernel
theorem dX7_told_36 : decode cX7_told 36 = .ok (.aload_n 0, 1) := by decide +kernel
theorem dX7_told_37 : decode cX7_told 37 = .ok (.getfield 14, 3) := by decide +kernel
theorem dX7_told_40 : decode cX7_told 40 = .ok (.getfield 164, 3) := by decide +kernel
theorem dX7_told_43 : decode cX7_told 43 = .ok (.ireturn, 1) := by decide +kernel
theorem dX7_told_44 : decode cX7_told 44 = .ok (.aload_n 0, 1) := by decide +kernel
theorem dX7_told_45 : decode cX7_told 45 = .ok (.getfield 14, 3) := by decide +kernel
theorem dX7_told_48 : decode cX7_told 48 = .ok (.invokevirtual 167, 3) := by decide +kernel
theorem dX7_told_51 : decode cX7_told 51 = .ok (.ireturn, 1) := by decide +kernel
theorem dX7_told_52 : decode cX7_told 52 = .ok (.aload_n 0, 1) := by decide +kernel
theorem dX7_told_53 : decode cX7_told 53 = .ok (.getfield 14, 3) := by decide +kernel
theorem dX7_told_56 : decode cX7_told 56 = .ok (.getfield 171, 3) := by decide +kernel
theorem dX7_told_59 : decode cX7_told 59 = .ok (.ireturn, 1) := by decide +kernel
theorem dX7_told_60 : decode cX7_told 60 = .ok (.aload_n 0, 1) := by decide +kernel
theorem dX7_told_61 : decode cX7_told 61 = .ok (.getfield 14, 3) := by decide +kernel
theorem dX7_told_64 : decode cX7_told 64 = .ok (.invokevirtual 174, 3) := by decide +kernel
theorem dX7_told_67 : decode cX7_told 67 = .ok (.ireturn, 1) := by decide +kernel
theorem dX7_told_68 : decode cX7_told 68 = .ok (.aload_n 0, 1) := by decide +kernel
theorem dX7_told_69 : decode cX7_told 69 = .ok (.getfield 14, 3) := by decide +kernel
theorem dX7_told_72 : decode cX7_told 72 = .ok (.invokevirtual 177, 3) := by decide +kernel
theorem dX7_told_75 : decode cX7_told 75 = .ok (.ireturn, 1) := by decide +kernel
theorem dX7_told_76 : decode cX7_told 76 = .ok (.iconst (-1), 1) := by decide +kernel
theorem dX7_told_77 : decode cX7_told 77 = .ok (.ireturn, 1) := by decide +kernel
set_option maxRecDepth 20000 in
theorem ggX7_pass_X7_isWithin : GoodIn wsX7_pass wsX7_isWithin := goodIn_r _ [11] rfl (by decide +kernel)
set_option maxRecDepth 20000 in
theorem gX7_pass_X7_isWithin : GoodIn wsX7_pass (va_wsS RX7 66 yX7_isWithin wsX7_isWithin) := goodIn_app (goodIn_of _ (by decide +kernel)) ggX7_pass_X7_isWithin
set_option maxRecDepth 20000 in
theorem ggX7_pass_X2_goOn : GoodIn wsX7_pass wsX2_goOn := goodIn_r _ [16, 17, 18, 19, 15, 20, 21, 22, 23, 24, 5, 6, 7, 25, 26, 27, 28, 29, 30, 31, 32, 33, 34, 35, 36, 37, 38, 39, 40, 41, 42, 43, 44, 45, 46, 47, 48, 49, 50, 51, 52, 53, 54, 55, 56, 57, 58, 59, 60, 61, 62, 63, 64, 65, 66, 67, 68, 69, 70, 71, 72, 73, 74, 75, 76, 77, 78, 79, 80, 81, 82, 83, 84, 85, 86, 87, 88, 89, 90, 91, 92, 93, 94, 95, 96, 97, 98, 99, 111, 112, 113, 114, 115, 116, 117, 118, 119, 120, 121, 122, 123, 124, 125, 126, 127, 128, 129] rfl (by decide +kernel)
set_option maxRecDepth 20000 in
theorem gX7_pass_X2_goOn : GoodIn wsX7_pass (wsV RX7 180 RX2 yX2_goOn wsX2_goOn) := goodIn_app (goodIn_of _ (by decide +kernel)) ggX7_pass_X2_goOn
theorem dX7_pass_0 : decode cX7_pass 0 = .ok (.iload_n 1, 1) := by decide +kernel
theorem dX7_pass_1 : decode cX7_pass 1 = .ok (.bipush 60, 2) := by decide +kernel
theorem dX7_pass_3 : decode cX7_pass 3 = .ok (.invokestatic 66, 3) := by decide +kernel
theorem dX7_pass_6 : decode cX7_pass 6 = .ok (.ifCond .ne 6, 3) := by decide +kernel
theorem dX7_pass_9 : decode cX7_pass 9 = .ok (.bipush (-2), 2) := by decide +kernel
theorem dX7_pass_11 : decode cX7_pass 11 = .ok (.ireturn, 1) := by decide +kernel
theorem dX7_pass_12 : decode cX7_pass 12 = .ok (.aload_n 0, 1) := by decide +kernel
theorem dX7_pass_13 : decode cX7_pass 13 = .ok (.getfield 14, 3) := by decide +kernel
theorem dX7_pass_16 : decode cX7_pass 16 = .ok (.getfield 164, 3) := by decide +kernel
theorem dX7_pass_19 : decode cX7_pass 19 = .ok (.iload_n 1, 1) := by decide +kernel
theorem dX7_pass_20 : decode cX7_pass 20 = .ok (.iadd, 1) := by decide +kernel
theorem dX7_pass_21 : decode cX7_pass 21 = .ok (.sipush 9999, 3) := by decide +kernel
theorem dX7_pass_24 : decode cX7_pass 24 = .ok (.if_icmp .le 6, 3) := by decide +kernel
theorem dX7_pass_27 : decode cX7_pass 27 = .ok (.bipush (-3), 2) := by decide +kernel
theorem dX7_pass_29 : decode cX7_pass 29 = .ok (.ireturn, 1) := by decide +kernel
theorem dX7_pass_30 : decode cX7_pass 30 = .ok (.aload_n 0, 1) := by decide +kernel
theorem dX7_pass_31 : decode cX7_pass 31 = .ok (.getfield 14, 3) := by decide +kernel
theorem dX7_pass_34 : decode cX7_pass 34 = .ok (.iload_n 1, 1) := by decide +kernel
theorem dX7_pass_35 : decode cX7_pass 35 = .ok (.invokevirtual 180, 3) := by decide +kernel
theorem dX7_pass_38 : decode cX7_pass 38 = .ok (.aload_n 0, 1) := by decide +kernel
theorem dX7_pass_39 : decode cX7_pass 39 = .ok (.getfield 14, 3) := by decide +kernel
theorem dX7_pass_42 : decode cX7_pass 42 = .ok (.aload_n 0, 1) := by decide +kernel
theorem dX7_pass_43 : decode cX7_pass 43 = .ok (.getfield 14, 3) := by decide +kernel
theorem dX7_pass_46 : decode cX7_pass 46 = .ok (.getfield 171, 3) := by decide +kernel
theorem dX7_pass_49 : decode cX7_pass 49 = .ok (.sipush 9999, 3) := by decide +kernel
theorem dX7_pass_52 : decode cX7_pass 52 = .ok (.invokestatic 183, 3) := by decide +kernel
theorem dX7_pass_55 : decode cX7_pass 55 = .ok (.putfield 171, 3) := by decide +kernel
theorem dX7_pass_58 : decode cX7_pass 58 = .ok (.aload_n 0, 1) := by decide +kernel
theorem dX7_pass_59 : decode cX7_pass 59 = .ok (.getfield 14, 3) := by decide +kernel
theorem dX7_pass_62 : decode cX7_pass 62 = .ok (.getfield 164, 3) := by decide +kernel
theorem dX7_pass_65 : decode cX7_pass 65 = .ok (.ireturn, 1) := by decide +kernel
set_option maxRecDepth 20000 in
theorem ggX7_on_X7_isWithin : GoodIn wsX7_on wsX7_isWithin := goodIn_r _ [8] rfl (by decide +kernel)
set_option maxRecDepth 20000 in
theorem gX7_on_X7_isWithin : GoodIn wsX7_on (va_wsS RX7 66 yX7_isWithin wsX7_isWithin) := goodIn_app (goodIn_of _ (by decide +kernel)) ggX7_on_X7_isWithin
set_option maxRecDepth 20000 in
theorem ggX7_on_X2_isPerson : GoodIn wsX7_on wsX2_isPerson := goodIn_r _ [13, 14, 137, 138, 139, 140, 141, 142, 143, 144, 145, 146, 147, 148, 149, 150] rfl (by decide +kernel)
set_option maxRecDepth 20000 in
theorem gX7_on_X2_isPerson : GoodIn wsX7_on (wsV RX7 78 RX2 yX2_isPerson wsX2_isPerson) := goodIn_app (goodIn_of _ (by decide +kernel)) ggX7_on_X2_isPerson
set_option maxRecDepth 20000 in
theorem ggX7_on_X1_goneOn : GoodIn wsX7_on wsX1_goneOn := goodIn_r _ [19, 20, 21, 22, 23, 12, 24, 14, 25, 26, 27, 28, 29, 30, 31, 32, 33, 34, 35, 36, 37, 38, 39, 40, 41, 42, 43, 44, 45, 46, 47, 48, 49, 50, 51, 52, 53, 54, 55, 56, 57, 58, 59, 60, 61, 62, 63, 64, 65, 66, 67, 68, 69, 70, 71, 72, 73, 74, 75, 76, 77, 78, 79, 80, 81, 82, 83, 84, 85, 86, 87, 88, 89, 90, 91, 92, 93, 94, 95, 96, 97, 98, 99, 100, 101, 102, 103, 104, 105, 106, 107, 108, 109, 110, 111, 112, 113, 114, 115, 116, 117, 151, 137, 138, 139, 140, 141, 142, 143, 144, 145, 146, 147, 148, 149, 150, 152, 153, 154, 155, 156] rfl (by decide +kernel)
set_option maxRecDepth 20000 in
theorem gX7_on_X1_goneOn : GoodIn wsX7_on (wsV RX7 189 RX1 yX1_goneOn wsX1_goneOn) := goodIn_app (goodIn_of _ (by decide +kernel)) ggX7_on_X1_goneOn
set_option maxRecDepth 20000 in
theorem ggX7_on_X2_tautBits : GoodIn wsX7_on wsX2_tautBits := goodIn_r _ [121, 33, 86, 87, 88, 12, 89, 90, 91, 92, 93, 35, 94, 95, 96, 97, 31, 36, 98, 99, 51, 100, 34, 137, 138, 139, 140, 141, 142, 143, 144, 145, 146, 147, 148, 149, 150] rfl (by decide +kernel)
set_option maxRecDepth 20000 in
theorem gX7_on_X2_tautBits : GoodIn wsX7_on (wsV RX7 174 RX2 yX2_tautBits wsX2_tautBits) := goodIn_app (goodIn_of _ (by decide +kernel)) ggX7_on_X2_tautBits
set_option maxRecDepth 20000 in
theorem ggX7_on_X2_heldBits : GoodIn wsX7_on wsX2_heldBits := goodIn_r _ [125, 33, 90, 91, 92, 12, 93, 35, 137, 138, 139, 140, 141, 142, 143, 144, 145, 146, 147, 148, 149, 150] rfl (by decide +kernel)
set_option maxRecDepth 20000 in
theorem gX7_on_X2_heldBits : GoodIn wsX7_on (wsV RX7 177 RX2 yX2_heldBits wsX2_heldBits) := goodIn_app (goodIn_of _ (by decide +kernel)) ggX7_on_X2_heldBits
theorem dX7_on_0 : decode cX7_on 0 = .ok (.iload_n 2, 1) := by decide +kernel
theorem dX7_on_1 : decode cX7_on 1 = .ok (.iconst 2, 1) := by decide +kernel
theorem dX7_on_2 : decode cX7_on 2 = .ok (.invokestatic 66, 3) := by decide +kernel
theorem dX7_on_5 : decode cX7_on 5 = .ok (.ifCond .ne 19, 3) := by decide +kernel
theorem dX7_on_8 : decode cX7_on 8 = .ok (.aload_n 0, 1) := by decide +kernel
theorem dX7_on_9 : decode cX7_on 9 = .ok (.getfield 14, 3) := by decide +kernel
theorem dX7_on_12 : decode cX7_on 12 = .ok (.iload_n 2, 1) := by decide +kernel
theorem dX7_on_13 : decode cX7_on 13 = .ok (.bipush 10, 2) := by decide +kernel
theorem dX7_on_15 : decode cX7_on 15 = .ok (.isub, 1) := by decide +kernel
theorem dX7_on_16 : decode cX7_on 16 = .ok (.invokevirtual 78, 3) := by decide +kernel
theorem dX7_on_19 : decode cX7_on 19 = .ok (.ifCond .ne 5, 3) := by decide +kernel
theorem dX7_on_22 : decode cX7_on 22 = .ok (.iconst (-1), 1) := by decide +kernel
theorem dX7_on_23 : decode cX7_on 23 = .ok (.ireturn, 1) := by decide +kernel
theorem dX7_on_24 : decode cX7_on 24 = .ok (.iload_n 1, 1) := by decide +kernel
theorem dX7_on_25 : decode cX7_on 25 = .ok (.bipush 60, 2) := by decide +kernel
theorem dX7_on_27 : decode cX7_on 27 = .ok (.invokestatic 66, 3) := by decide +kernel
theorem dX7_on_30 : decode cX7_on 30 = .ok (.ifCond .ne 6, 3) := by decide +kernel
theorem dX7_on_33 : decode cX7_on 33 = .ok (.bipush (-2), 2) := by decide +kernel
theorem dX7_on_35 : decode cX7_on 35 = .ok (.ireturn, 1) := by decide +kernel
theorem dX7_on_36 : decode cX7_on 36 = .ok (.aload_n 0, 1) := by decide +kernel
theorem dX7_on_37 : decode cX7_on 37 = .ok (.getfield 24, 3) := by decide +kernel
theorem dX7_on_40 : decode cX7_on 40 = .ok (.aload_n 0, 1) := by decide +kernel
theorem dX7_on_41 : decode cX7_on 41 = .ok (.getfield 14, 3) := by decide +kernel
theorem dX7_on_44 : decode cX7_on 44 = .ok (.iload_n 1, 1) := by decide +kernel
theorem dX7_on_45 : decode cX7_on 45 = .ok (.invokevirtual 189, 3) := by decide +kernel
theorem dX7_on_48 : decode cX7_on 48 = .ok (.astore_n 3, 1) := by decide +kernel
theorem dX7_on_49 : decode cX7_on 49 = .ok (.iload_n 2, 1) := by decide +kernel
theorem dX7_on_50 : decode cX7_on 50 = .ok (.tableswitch 41 0 2 #[26, 31, 36], 26) := by decide +kernel
theorem dX7_on_76 : decode cX7_on 76 = .ok (.aload_n 3, 1) := by decide +kernel
theorem dX7_on_77 : decode cX7_on 77 = .ok (.getfield 171, 3) := by decide +kernel
theorem dX7_on_80 : decode cX7_on 80 = .ok (.ireturn, 1) := by decide +kernel
theorem dX7_on_81 : decode cX7_on 81 = .ok (.aload_n 3, 1) := by decide +kernel
theorem dX7_on_82 : decode cX7_on 82 = .ok (.invokevirtual 174, 3) := by decide +kernel
theorem dX7_on_85 : decode cX7_on 85 = .ok (.ireturn, 1) := by decide +kernel
theorem dX7_on_86 : decode cX7_on 86 = .ok (.aload_n 3, 1) := by decide +kernel
theorem dX7_on_87 : decode cX7_on 87 = .ok (.invokevirtual 177, 3) := by decide +kernel
theorem dX7_on_90 : decode cX7_on 90 = .ok (.ireturn, 1) := by decide +kernel
theorem dX7_on_91 : decode cX7_on 91 = .ok (.aload_n 3, 1) := by decide +kernel
theorem dX7_on_92 : decode cX7_on 92 = .ok (.getfield 89, 3) := by decide +kernel
theorem dX7_on_95 : decode cX7_on 95 = .ok (.iload_n 2, 1) := by decide +kernel
theorem dX7_on_96 : decode cX7_on 96 = .ok (.bipush 10, 2) := by decide +kernel
theorem dX7_on_98 : decode cX7_on 98 = .ok (.isub, 1) := by decide +kernel
theorem dX7_on_99 : decode cX7_on 99 = .ok (.iaload, 1) := by decide +kernel
theorem dX7_on_100 : decode cX7_on 100 = .ok (.ireturn, 1) := by decide +kernel
set_option maxRecDepth 20000 in
theorem ggX7_meets_X2_isPerson : GoodIn wsX7_meets wsX2_isPerson := goodIn_r _ [7, 8, 120, 121, 122, 123, 124, 125, 126, 127, 128, 129, 130, 131, 132, 133] rfl (by decide +kernel)
set_option maxRecDepth 20000 in
theorem gX7_meets_X2_isPerson : GoodIn wsX7_meets (wsV RX7 78 RX2 yX2_isPerson wsX2_isPerson) := goodIn_app (goodIn_of _ (by decide +kernel)) ggX7_meets_X2_isPerson
set_option maxRecDepth 20000 in
theorem ggX7_meets_X1_meetingOf : GoodIn wsX7_meets wsX1_meetingOf := goodIn_r _ [13, 14, 15, 16, 17, 18, 6, 19, 8, 20, 21, 22, 23, 24, 25, 26, 27, 28, 29, 30, 31, 32, 33, 34, 35, 36, 37, 38, 39, 40, 41, 42, 43, 44, 45, 46, 47, 48, 49, 50, 51, 52, 53, 54, 55, 56, 57, 58, 59, 60, 61, 62, 63, 64, 65, 66, 67, 68, 69, 70, 71, 72, 73, 74, 75, 76, 77, 78, 79, 80, 81, 82, 83, 84, 85, 86, 87, 88, 89, 90, 91, 92, 93, 94, 95, 96, 97, 98, 99, 100, 101, 102, 103, 104, 105, 106, 107, 108, 134, 120, 121, 122, 123, 124, 125, 126, 127, 128, 129, 130, 131, 132, 133, 135, 136, 137, 138, 139] rfl (by decide +kernel)
set_option maxRecDepth 20000 in
theorem gX7_meets_X1_meetingOf : GoodIn wsX7_meets (wsV RX7 193 RX1 yX1_meetingOf wsX1_meetingOf) := goodIn_app (goodIn_of _ (by decide +kernel)) ggX7_meets_X1_meetingOf
theorem dX7_meets_0 : decode cX7_meets 0 = .ok (.aload_n 0, 1) := by decide +kernel
theorem dX7_meets_1 : decode cX7_meets 1 = .ok (.getfield 14, 3) := by decide +kernel
theorem dX7_meets_4 : decode cX7_meets 4 = .ok (.iload_n 1, 1) := by decide +kernel
theorem dX7_meets_5 : decode cX7_meets 5 = .ok (.invokevirtual 78, 3) := by decide +kernel
theorem dX7_meets_8 : decode cX7_meets 8 = .ok (.ifCond .eq 14, 3) := by decide +kernel
theorem dX7_meets_11 : decode cX7_meets 11 = .ok (.aload_n 0, 1) := by decide +kernel
theorem dX7_meets_12 : decode cX7_meets 12 = .ok (.getfield 14, 3) := by decide +kernel
theorem dX7_meets_15 : decode cX7_meets 15 = .ok (.iload_n 2, 1) := by decide +kernel
theorem dX7_meets_16 : decode cX7_meets 16 = .ok (.invokevirtual 78, 3) := by decide +kernel
theorem dX7_meets_19 : decode cX7_meets 19 = .ok (.ifCond .ne 5, 3) := by decide +kernel
theorem dX7_meets_22 : decode cX7_meets 22 = .ok (.iconst (-1), 1) := by decide +kernel
theorem dX7_meets_23 : decode cX7_meets 23 = .ok (.ireturn, 1) := by decide +kernel
theorem dX7_meets_24 : decode cX7_meets 24 = .ok (.iload_n 1, 1) := by decide +kernel
theorem dX7_meets_25 : decode cX7_meets 25 = .ok (.iload_n 2, 1) := by decide +kernel
theorem dX7_meets_26 : decode cX7_meets 26 = .ok (.if_icmp .ne 6, 3) := by decide +kernel
theorem dX7_meets_29 : decode cX7_meets 29 = .ok (.bipush (-2), 2) := by decide +kernel
theorem dX7_meets_31 : decode cX7_meets 31 = .ok (.ireturn, 1) := by decide +kernel
theorem dX7_meets_32 : decode cX7_meets 32 = .ok (.aload_n 0, 1) := by decide +kernel
theorem dX7_meets_33 : decode cX7_meets 33 = .ok (.getfield 24, 3) := by decide +kernel
theorem dX7_meets_36 : decode cX7_meets 36 = .ok (.aload_n 0, 1) := by decide +kernel
theorem dX7_meets_37 : decode cX7_meets 37 = .ok (.getfield 14, 3) := by decide +kernel
theorem dX7_meets_40 : decode cX7_meets 40 = .ok (.iload_n 1, 1) := by decide +kernel
theorem dX7_meets_41 : decode cX7_meets 41 = .ok (.iload_n 2, 1) := by decide +kernel
theorem dX7_meets_42 : decode cX7_meets 42 = .ok (.invokevirtual 193, 3) := by decide +kernel
theorem dX7_meets_45 : decode cX7_meets 45 = .ok (.ireturn, 1) := by decide +kernel
set_option maxRecDepth 20000 in
theorem ggX7_best_X7_isWithin : GoodIn wsX7_best wsX7_isWithin := goodIn_r _ [6] rfl (by decide +kernel)
set_option maxRecDepth 20000 in
theorem gX7_best_X7_isWithin : GoodIn wsX7_best (va_wsS RX7 66 yX7_isWithin wsX7_isWithin) := goodIn_app (goodIn_of _ (by decide +kernel)) ggX7_best_X7_isWithin
set_option maxRecDepth 20000 in
theorem ggX7_best_X1_changeOf : GoodIn wsX7_best wsX1_changeOf := goodIn_r _ [11, 12, 13, 14, 15, 16, 17, 18, 19, 20, 21, 22, 23, 24, 25, 26, 27, 28, 29, 30, 31, 32, 33, 34, 35, 36, 37, 38, 39, 40, 41, 42, 43, 44, 45, 46, 47, 48, 49, 50, 51, 52, 53, 54, 55, 56, 57, 58, 59, 60, 61, 62, 63, 64, 65, 66, 67, 68, 69, 70, 71, 72, 73, 74, 75, 76, 77, 78, 79, 80, 81, 82, 83, 84, 85, 86, 87, 88, 89, 90, 91, 92, 93, 94, 95, 96, 97, 98, 99, 100, 101, 102, 103, 104, 105, 106, 107, 108, 109, 110, 111, 112, 113, 114, 115, 116, 117, 152, 153, 154, 155, 156, 157, 158, 159, 160, 161, 162, 163, 164, 165, 166, 167, 168, 169, 170, 171] rfl (by decide +kernel)
set_option maxRecDepth 20000 in
theorem gX7_best_X1_changeOf : GoodIn wsX7_best (wsV RX7 197 RX1 yX1_changeOf wsX1_changeOf) := goodIn_app (goodIn_of _ (by decide +kernel)) ggX7_best_X1_changeOf
set_option maxRecDepth 20000 in
theorem ggX7_best_X1_spareOf : GoodIn wsX7_best wsX1_spareOf := goodIn_r _ [121, 13, 122, 123, 124, 18, 125, 29, 86, 87, 88, 89, 31, 126, 127, 128, 129, 130, 131, 132, 133, 134, 135, 10, 136, 12, 15, 16, 17, 19, 20, 21, 22, 23, 24, 25, 26, 27, 28, 30, 32, 33, 34, 35, 137, 138, 139, 140, 106, 107, 108, 109, 110, 111, 112, 113, 36, 37, 38, 39, 40, 41, 42, 43, 44, 45, 46, 47, 48, 49, 50, 51, 52, 53, 54, 55, 56, 57, 58, 59, 60, 61, 62, 63, 64, 65, 66, 67, 68, 69, 70, 71, 72, 73, 74, 75, 76, 77, 78, 79, 80, 81, 82, 83, 84, 85, 90, 91, 92, 93, 94, 95, 96, 97, 98, 99, 100, 101, 102, 103, 104, 105, 153, 154, 155, 156, 157, 158, 159, 160, 161, 162, 163, 164, 165, 166, 152, 167, 168, 169, 170, 171] rfl (by decide +kernel)
set_option maxRecDepth 20000 in
theorem gX7_best_X1_spareOf : GoodIn wsX7_best (wsV RX7 200 RX1 yX1_spareOf wsX1_spareOf) := goodIn_app (goodIn_of _ (by decide +kernel)) ggX7_best_X1_spareOf
theorem dX7_best_0 : decode cX7_best 0 = .ok (.iload_n 2, 1) := by decide +kernel
theorem dX7_best_1 : decode cX7_best 1 = .ok (.iconst 1, 1) := by decide +kernel
theorem dX7_best_2 : decode cX7_best 2 = .ok (.invokestatic 66, 3) := by decide +kernel
theorem dX7_best_5 : decode cX7_best 5 = .ok (.ifCond .ne 5, 3) := by decide +kernel
theorem dX7_best_8 : decode cX7_best 8 = .ok (.iconst (-1), 1) := by decide +kernel
theorem dX7_best_9 : decode cX7_best 9 = .ok (.ireturn, 1) := by decide +kernel
theorem dX7_best_10 : decode cX7_best 10 = .ok (.iload_n 1, 1) := by decide +kernel
theorem dX7_best_11 : decode cX7_best 11 = .ok (.iconst 1, 1) := by decide +kernel
theorem dX7_best_12 : decode cX7_best 12 = .ok (.if_icmp .lt 9, 3) := by decide +kernel
theorem dX7_best_15 : decode cX7_best 15 = .ok (.iload_n 1, 1) := by decide +kernel
theorem dX7_best_16 : decode cX7_best 16 = .ok (.bipush 20, 2) := by decide +kernel
theorem dX7_best_18 : decode cX7_best 18 = .ok (.if_icmp .le 6, 3) := by decide +kernel
theorem dX7_best_21 : decode cX7_best 21 = .ok (.bipush (-2), 2) := by decide +kernel
theorem dX7_best_23 : decode cX7_best 23 = .ok (.ireturn, 1) := by decide +kernel
theorem dX7_best_24 : decode cX7_best 24 = .ok (.iload_n 2, 1) := by decide +kernel
theorem dX7_best_25 : decode cX7_best 25 = .ok (.ifCond .ne 18, 3) := by decide +kernel
theorem dX7_best_28 : decode cX7_best 28 = .ok (.aload_n 0, 1) := by decide +kernel
theorem dX7_best_29 : decode cX7_best 29 = .ok (.getfield 24, 3) := by decide +kernel
theorem dX7_best_32 : decode cX7_best 32 = .ok (.aload_n 0, 1) := by decide +kernel
theorem dX7_best_33 : decode cX7_best 33 = .ok (.getfield 14, 3) := by decide +kernel
theorem dX7_best_36 : decode cX7_best 36 = .ok (.iload_n 1, 1) := by decide +kernel
theorem dX7_best_37 : decode cX7_best 37 = .ok (.invokevirtual 197, 3) := by decide +kernel
theorem dX7_best_40 : decode cX7_best 40 = .ok (.goto 15, 3) := by decide +kernel
theorem dX7_best_43 : decode cX7_best 43 = .ok (.aload_n 0, 1) := by decide +kernel
theorem dX7_best_44 : decode cX7_best 44 = .ok (.getfield 24, 3) := by decide +kernel
theorem dX7_best_47 : decode cX7_best 47 = .ok (.aload_n 0, 1) := by decide +kernel
theorem dX7_best_48 : decode cX7_best 48 = .ok (.getfield 14, 3) := by decide +kernel
theorem dX7_best_51 : decode cX7_best 51 = .ok (.iload_n 1, 1) := by decide +kernel
theorem dX7_best_52 : decode cX7_best 52 = .ok (.invokevirtual 200, 3) := by decide +kernel
theorem dX7_best_55 : decode cX7_best 55 = .ok (.ireturn, 1) := by decide +kernel
set_option maxRecDepth 20000 in
theorem ggX7_see_X2_isLeaf : GoodIn wsX7_see wsX2_isLeaf := goodIn_r _ [8, 9, 44, 45, 46, 47, 48, 49, 50, 51, 52, 53, 54, 55, 56, 57] rfl (by decide +kernel)
set_option maxRecDepth 20000 in
theorem gX7_see_X2_isLeaf : GoodIn wsX7_see (wsV RX7 105 RX2 yX2_isLeaf wsX2_isLeaf) := goodIn_app (goodIn_of _ (by decide +kernel)) ggX7_see_X2_isLeaf
set_option maxRecDepth 20000 in
theorem ggX7_see_X7_isWithin : GoodIn wsX7_see wsX7_isWithin := goodIn_r _ [13] rfl (by decide +kernel)
set_option maxRecDepth 20000 in
theorem gX7_see_X7_isWithin : GoodIn wsX7_see (va_wsS RX7 66 yX7_isWithin wsX7_isWithin) := goodIn_app (goodIn_of _ (by decide +kernel)) ggX7_see_X7_isWithin
set_option maxRecDepth 20000 in
theorem ggX7_see_X5_addSeen : GoodIn wsX7_see wsX5_addSeen := goodIn_r _ [18, 19, 20, 21, 22, 34, 35, 36, 37, 38, 39, 40, 41, 42, 43] rfl (by decide +kernel)
set_option maxRecDepth 20000 in
theorem gX7_see_X5_addSeen : GoodIn wsX7_see (wsV RX7 206 RX5 yX5_addSeen wsX5_addSeen) := goodIn_app (goodIn_of _ (by decide +kernel)) ggX7_see_X5_addSeen
theorem dX7_see_0 : decode cX7_see 0 = .ok (.iload_n 1, 1) := by decide +kernel
theorem dX7_see_1 : decode cX7_see 1 = .ok (.iconst (-1), 1) := by decide +kernel
theorem dX7_see_2 : decode cX7_see 2 = .ok (.if_icmp .ne 13, 3) := by decide +kernel
theorem dX7_see_5 : decode cX7_see 5 = .ok (.aload_n 0, 1) := by decide +kernel
theorem dX7_see_6 : decode cX7_see 6 = .ok (.getfield 31, 3) := by decide +kernel
theorem dX7_see_9 : decode cX7_see 9 = .ok (.iconst 0, 1) := by decide +kernel
theorem dX7_see_10 : decode cX7_see 10 = .ok (.putfield 203, 3) := by decide +kernel
theorem dX7_see_13 : decode cX7_see 13 = .ok (.iconst 0, 1) := by decide +kernel
theorem dX7_see_14 : decode cX7_see 14 = .ok (.ireturn, 1) := by decide +kernel
theorem dX7_see_15 : decode cX7_see 15 = .ok (.aload_n 0, 1) := by decide +kernel
theorem dX7_see_16 : decode cX7_see 16 = .ok (.getfield 14, 3) := by decide +kernel
theorem dX7_see_19 : decode cX7_see 19 = .ok (.iload_n 1, 1) := by decide +kernel
theorem dX7_see_20 : decode cX7_see 20 = .ok (.invokevirtual 105, 3) := by decide +kernel
theorem dX7_see_23 : decode cX7_see 23 = .ok (.ifCond .ne 5, 3) := by decide +kernel
theorem dX7_see_26 : decode cX7_see 26 = .ok (.iconst (-1), 1) := by decide +kernel
theorem dX7_see_27 : decode cX7_see 27 = .ok (.ireturn, 1) := by decide +kernel
theorem dX7_see_28 : decode cX7_see 28 = .ok (.iload_n 2, 1) := by decide +kernel
theorem dX7_see_29 : decode cX7_see 29 = .ok (.bipush 12, 2) := by decide +kernel
theorem dX7_see_31 : decode cX7_see 31 = .ok (.invokestatic 66, 3) := by decide +kernel
theorem dX7_see_34 : decode cX7_see 34 = .ok (.ifCond .ne 6, 3) := by decide +kernel
theorem dX7_see_37 : decode cX7_see 37 = .ok (.bipush (-2), 2) := by decide +kernel
theorem dX7_see_39 : decode cX7_see 39 = .ok (.ireturn, 1) := by decide +kernel
theorem dX7_see_40 : decode cX7_see 40 = .ok (.aload_n 0, 1) := by decide +kernel
theorem dX7_see_41 : decode cX7_see 41 = .ok (.getfield 31, 3) := by decide +kernel
theorem dX7_see_44 : decode cX7_see 44 = .ok (.getfield 203, 3) := by decide +kernel
theorem dX7_see_47 : decode cX7_see 47 = .ok (.iconst 5, 1) := by decide +kernel
theorem dX7_see_48 : decode cX7_see 48 = .ok (.if_icmp .lt 6, 3) := by decide +kernel
theorem dX7_see_51 : decode cX7_see 51 = .ok (.bipush (-4), 2) := by decide +kernel
theorem dX7_see_53 : decode cX7_see 53 = .ok (.ireturn, 1) := by decide +kernel
theorem dX7_see_54 : decode cX7_see 54 = .ok (.aload_n 0, 1) := by decide +kernel
theorem dX7_see_55 : decode cX7_see 55 = .ok (.getfield 31, 3) := by decide +kernel
theorem dX7_see_58 : decode cX7_see 58 = .ok (.iload_n 1, 1) := by decide +kernel
theorem dX7_see_59 : decode cX7_see 59 = .ok (.iload_n 2, 1) := by decide +kernel
theorem dX7_see_60 : decode cX7_see 60 = .ok (.iload_n 3, 1) := by decide +kernel
theorem dX7_see_61 : decode cX7_see 61 = .ok (.invokevirtual 206, 3) := by decide +kernel
theorem dX7_see_64 : decode cX7_see 64 = .ok (.ireturn, 1) := by decide +kernel
set_option maxRecDepth 20000 in
theorem ggX7_can_X2_isPerson : GoodIn wsX7_can wsX2_isPerson := goodIn_r _ [8, 9, 144, 145, 146, 147, 148, 149, 150, 151, 152, 153, 154, 155, 156, 157] rfl (by decide +kernel)
set_option maxRecDepth 20000 in
theorem gX7_can_X2_isPerson : GoodIn wsX7_can (wsV RX7 78 RX2 yX2_isPerson wsX2_isPerson) := goodIn_app (goodIn_of _ (by decide +kernel)) ggX7_can_X2_isPerson
set_option maxRecDepth 20000 in
theorem ggX7_can_X7_isWithin : GoodIn wsX7_can wsX7_isWithin := goodIn_r _ [13] rfl (by decide +kernel)
set_option maxRecDepth 20000 in
theorem gX7_can_X7_isWithin : GoodIn wsX7_can (va_wsS RX7 66 yX7_isWithin wsX7_isWithin) := goodIn_app (goodIn_of _ (by decide +kernel)) ggX7_can_X7_isWithin
set_option maxRecDepth 20000 in
theorem ggX7_can_X1_numbersOf : GoodIn wsX7_can wsX1_numbersOf := goodIn_r _ [18, 19, 20, 21, 22, 23, 7, 24, 9, 25, 26, 27, 28, 29, 30, 31, 32, 33, 34, 35, 36, 37, 38, 39, 40, 41, 42, 17, 43, 44, 45, 46, 47, 48, 49, 50, 51, 52, 53, 54, 55, 56, 57, 58, 59, 60, 61, 62, 63, 64, 65, 66, 67, 68, 69, 70, 71, 72, 73, 74, 75, 76, 77, 78, 79, 80, 81, 82, 83, 84, 85, 86, 87, 88, 89, 90, 91, 92, 93, 94, 95, 96, 97, 98, 99, 100, 101, 102, 103, 104, 105, 106, 107, 108, 109, 110, 111, 112, 113, 114, 115, 116, 117, 118, 119, 120, 121, 122, 123, 124, 125, 126, 127, 128, 129, 130, 131, 132, 158, 144, 145, 146, 147, 148, 149, 150, 151, 152, 153, 154, 155, 156, 157, 159, 160, 161, 162, 163, 164, 165, 166, 167, 168, 169, 170, 171, 172, 173] rfl (by decide +kernel)
set_option maxRecDepth 20000 in
theorem gX7_can_X1_numbersOf : GoodIn wsX7_can (wsV RX7 210 RX1 yX1_numbersOf wsX1_numbersOf) := goodIn_app (goodIn_of _ (by decide +kernel)) ggX7_can_X1_numbersOf
theorem dX7_can_0 : decode cX7_can 0 = .ok (.aload_n 0, 1) := by decide +kernel
theorem dX7_can_1 : decode cX7_can 1 = .ok (.getfield 14, 3) := by decide +kernel
theorem dX7_can_4 : decode cX7_can 4 = .ok (.iload_n 1, 1) := by decide +kernel
theorem dX7_can_5 : decode cX7_can 5 = .ok (.invokevirtual 78, 3) := by decide +kernel
theorem dX7_can_8 : decode cX7_can 8 = .ok (.ifCond .eq 11, 3) := by decide +kernel
theorem dX7_can_11 : decode cX7_can 11 = .ok (.iload_n 2, 1) := by decide +kernel
theorem dX7_can_12 : decode cX7_can 12 = .ok (.iconst 1, 1) := by decide +kernel
theorem dX7_can_13 : decode cX7_can 13 = .ok (.invokestatic 66, 3) := by decide +kernel
theorem dX7_can_16 : decode cX7_can 16 = .ok (.ifCond .ne 5, 3) := by decide +kernel
theorem dX7_can_19 : decode cX7_can 19 = .ok (.iconst (-1), 1) := by decide +kernel
theorem dX7_can_20 : decode cX7_can 20 = .ok (.ireturn, 1) := by decide +kernel
theorem dX7_can_21 : decode cX7_can 21 = .ok (.aload_n 0, 1) := by decide +kernel
theorem dX7_can_22 : decode cX7_can 22 = .ok (.getfield 24, 3) := by decide +kernel
theorem dX7_can_25 : decode cX7_can 25 = .ok (.aload_n 0, 1) := by decide +kernel
theorem dX7_can_26 : decode cX7_can 26 = .ok (.getfield 14, 3) := by decide +kernel
theorem dX7_can_29 : decode cX7_can 29 = .ok (.aload_n 0, 1) := by decide +kernel
theorem dX7_can_30 : decode cX7_can 30 = .ok (.getfield 31, 3) := by decide +kernel
theorem dX7_can_33 : decode cX7_can 33 = .ok (.iload_n 1, 1) := by decide +kernel
theorem dX7_can_34 : decode cX7_can 34 = .ok (.iload_n 2, 1) := by decide +kernel
theorem dX7_can_35 : decode cX7_can 35 = .ok (.iconst 1, 1) := by decide +kernel
theorem dX7_can_36 : decode cX7_can 36 = .ok (.if_icmp .ne 7, 3) := by decide +kernel
theorem dX7_can_39 : decode cX7_can 39 = .ok (.iconst 1, 1) := by decide +kernel
theorem dX7_can_40 : decode cX7_can 40 = .ok (.goto 4, 3) := by decide +kernel
theorem dX7_can_43 : decode cX7_can 43 = .ok (.iconst 0, 1) := by decide +kernel
theorem dX7_can_44 : decode cX7_can 44 = .ok (.invokevirtual 210, 3) := by decide +kernel
theorem dX7_can_47 : decode cX7_can 47 = .ok (.ireturn, 1) := by decide +kernel
set_option maxRecDepth 20000 in
theorem ggX7_odds_X2_isLeaf : GoodIn wsX7_odds wsX2_isLeaf := goodIn_r _ [9, 10, 138, 139, 140, 141, 142, 143, 144, 145, 146, 147, 148, 149, 150, 151] rfl (by decide +kernel)
set_option maxRecDepth 20000 in
theorem gX7_odds_X2_isLeaf : GoodIn wsX7_odds (wsV RX7 105 RX2 yX2_isLeaf wsX2_isLeaf) := goodIn_app (goodIn_of _ (by decide +kernel)) ggX7_odds_X2_isLeaf
set_option maxRecDepth 20000 in
theorem ggX7_odds_X7_isWithin : GoodIn wsX7_odds wsX7_isWithin := goodIn_r _ [14] rfl (by decide +kernel)
set_option maxRecDepth 20000 in
theorem gX7_odds_X7_isWithin : GoodIn wsX7_odds (va_wsS RX7 66 yX7_isWithin wsX7_isWithin) := goodIn_app (goodIn_of _ (by decide +kernel)) ggX7_odds_X7_isWithin
set_option maxRecDepth 20000 in
theorem ggX7_odds_X1_pairsThatHold : GoodIn wsX7_odds wsX1_pairsThatHold := goodIn_r _ [19, 20, 21, 22, 23, 24, 8, 25, 26, 27, 28, 29, 30, 31, 32, 33, 34, 10, 35, 36, 37, 38, 39, 40, 41, 42, 43, 44, 45, 46, 47, 48, 49, 50, 51, 52, 53, 54, 55, 56, 57, 58, 59, 60, 61, 62, 63, 64, 65, 66, 67, 68, 69, 70, 71, 72, 73, 74, 75, 76, 77, 78, 79, 80, 81, 82, 83, 84, 85, 86, 87, 88, 89, 90, 91, 92, 93, 94, 95, 96, 97, 98, 99, 100, 101, 102, 103, 104, 105, 106, 107, 108, 109, 110, 111, 112, 113, 114, 115, 116, 117, 118, 119, 120, 138, 139, 140, 141, 142, 143, 144, 145, 146, 147, 148, 149, 150, 151, 152, 153, 154, 155, 156, 157] rfl (by decide +kernel)
set_option maxRecDepth 20000 in
theorem gX7_odds_X1_pairsThatHold : GoodIn wsX7_odds (wsV RX7 215 RX1 yX1_pairsThatHold wsX1_pairsThatHold) := goodIn_app (goodIn_of _ (by decide +kernel)) ggX7_odds_X1_pairsThatHold
set_option maxRecDepth 20000 in
theorem ggX7_odds_X7_partOfLowest : GoodIn wsX7_odds wsX7_partOfLowest := goodIn_r _ [123, 3, 124, 125, 13, 126] rfl (by decide +kernel)
set_option maxRecDepth 20000 in
theorem gX7_odds_X7_partOfLowest : GoodIn wsX7_odds (va_wsS RX7 218 yX7_partOfLowest wsX7_partOfLowest) := goodIn_app (goodIn_of _ (by decide +kernel)) ggX7_odds_X7_partOfLowest
theorem dX7_odds_0 : decode cX7_odds 0 = .ok (.aload_n 0, 1) := by decide +kernel
theorem dX7_odds_1 : decode cX7_odds 1 = .ok (.getfield 14, 3) := by decide +kernel
theorem dX7_odds_4 : decode cX7_odds 4 = .ok (.iload_n 1, 1) := by decide +kernel
theorem dX7_odds_5 : decode cX7_odds 5 = .ok (.invokevirtual 105, 3) := by decide +kernel

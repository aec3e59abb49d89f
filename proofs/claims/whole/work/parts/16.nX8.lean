theorem dX8_spare_15 : decode cX8_spare 15 = .ok (.if_icmp .ge 130, 3) := by decide +kernel
theorem dX8_spare_18 : decode cX8_spare 18 = .ok (.iload 4, 2) := by decide +kernel
theorem dX8_spare_20 : decode cX8_spare 20 = .ok (.iload_n 2, 1) := by decide +kernel
theorem dX8_spare_21 : decode cX8_spare 21 = .ok (.iconst (-1), 1) := by decide +kernel
theorem dX8_spare_22 : decode cX8_spare 22 = .ok (.ixor, 1) := by decide +kernel
theorem dX8_spare_23 : decode cX8_spare 23 = .ok (.iand, 1) := by decide +kernel
theorem dX8_spare_24 : decode cX8_spare 24 = .ok (.ifCond .ne 115, 3) := by decide +kernel
theorem dX8_spare_27 : decode cX8_spare 27 = .ok (.iload_n 3, 1) := by decide +kernel
theorem dX8_spare_28 : decode cX8_spare 28 = .ok (.bipush (-5), 2) := by decide +kernel
theorem dX8_spare_30 : decode cX8_spare 30 = .ok (.if_icmp .eq 15, 3) := by decide +kernel
theorem dX8_spare_33 : decode cX8_spare 33 = .ok (.iload 4, 2) := by decide +kernel
theorem dX8_spare_35 : decode cX8_spare 35 = .ok (.invokestatic 236, 3) := by decide +kernel
theorem dX8_spare_38 : decode cX8_spare 38 = .ok (.iload_n 3, 1) := by decide +kernel
theorem dX8_spare_39 : decode cX8_spare 39 = .ok (.invokestatic 236, 3) := by decide +kernel
theorem dX8_spare_42 : decode cX8_spare 42 = .ok (.if_icmp .ge 97, 3) := by decide +kernel
theorem dX8_spare_45 : decode cX8_spare 45 = .ok (.aload_n 0, 1) := by decide +kernel
theorem dX8_spare_46 : decode cX8_spare 46 = .ok (.getfield 9, 3) := by decide +kernel
theorem dX8_spare_49 : decode cX8_spare 49 = .ok (.aload_n 0, 1) := by decide +kernel
theorem dX8_spare_50 : decode cX8_spare 50 = .ok (.getfield 15, 3) := by decide +kernel
theorem dX8_spare_53 : decode cX8_spare 53 = .ok (.invokestatic 75, 3) := by decide +kernel
theorem dX8_spare_56 : decode cX8_spare 56 = .ok (.iconst 0, 1) := by decide +kernel
theorem dX8_spare_57 : decode cX8_spare 57 = .ok (.istore 5, 2) := by decide +kernel
theorem dX8_spare_59 : decode cX8_spare 59 = .ok (.iload 5, 2) := by decide +kernel
theorem dX8_spare_61 : decode cX8_spare 61 = .ok (.aload_n 0, 1) := by decide +kernel
theorem dX8_spare_62 : decode cX8_spare 62 = .ok (.getfield 9, 3) := by decide +kernel
theorem dX8_spare_65 : decode cX8_spare 65 = .ok (.bipush 55, 2) := by decide +kernel
theorem dX8_spare_67 : decode cX8_spare 67 = .ok (.iaload, 1) := by decide +kernel
theorem dX8_spare_68 : decode cX8_spare 68 = .ok (.if_icmp .ge 27, 3) := by decide +kernel
theorem dX8_spare_71 : decode cX8_spare 71 = .ok (.iload 4, 2) := by decide +kernel
theorem dX8_spare_73 : decode cX8_spare 73 = .ok (.iload 5, 2) := by decide +kernel
theorem dX8_spare_75 : decode cX8_spare 75 = .ok (.ishr, 1) := by decide +kernel
theorem dX8_spare_76 : decode cX8_spare 76 = .ok (.iconst 1, 1) := by decide +kernel
theorem dX8_spare_77 : decode cX8_spare 77 = .ok (.iand, 1) := by decide +kernel
theorem dX8_spare_78 : decode cX8_spare 78 = .ok (.ifCond .ne 11, 3) := by decide +kernel
theorem dX8_spare_81 : decode cX8_spare 81 = .ok (.aload_n 0, 1) := by decide +kernel
theorem dX8_spare_82 : decode cX8_spare 82 = .ok (.iload 5, 2) := by decide +kernel
theorem dX8_spare_84 : decode cX8_spare 84 = .ok (.iconst (-1), 1) := by decide +kernel
theorem dX8_spare_85 : decode cX8_spare 85 = .ok (.iconst (-1), 1) := by decide +kernel
theorem dX8_spare_86 : decode cX8_spare 86 = .ok (.invokevirtual 105, 3) := by decide +kernel
theorem dX8_spare_89 : decode cX8_spare 89 = .ok (.iinc 5 1, 3) := by decide +kernel
theorem dX8_spare_92 : decode cX8_spare 92 = .ok (.goto (-33), 3) := by decide +kernel
theorem dX8_spare_95 : decode cX8_spare 95 = .ok (.aload_n 0, 1) := by decide +kernel
theorem dX8_spare_96 : decode cX8_spare 96 = .ok (.getfield 9, 3) := by decide +kernel
theorem dX8_spare_99 : decode cX8_spare 99 = .ok (.bipush 56, 2) := by decide +kernel
theorem dX8_spare_101 : decode cX8_spare 101 = .ok (.iaload, 1) := by decide +kernel
theorem dX8_spare_102 : decode cX8_spare 102 = .ok (.istore 5, 2) := by decide +kernel
theorem dX8_spare_104 : decode cX8_spare 104 = .ok (.aload_n 0, 1) := by decide +kernel
theorem dX8_spare_105 : decode cX8_spare 105 = .ok (.iload_n 1, 1) := by decide +kernel
theorem dX8_spare_106 : decode cX8_spare 106 = .ok (.invokevirtual 227, 3) := by decide +kernel
theorem dX8_spare_109 : decode cX8_spare 109 = .ok (.aload_n 0, 1) := by decide +kernel
theorem dX8_spare_110 : decode cX8_spare 110 = .ok (.getfield 9, 3) := by decide +kernel
theorem dX8_spare_113 : decode cX8_spare 113 = .ok (.bipush 56, 2) := by decide +kernel
theorem dX8_spare_115 : decode cX8_spare 115 = .ok (.iaload, 1) := by decide +kernel
theorem dX8_spare_116 : decode cX8_spare 116 = .ok (.iload 5, 2) := by decide +kernel
theorem dX8_spare_118 : decode cX8_spare 118 = .ok (.if_icmp .le 8, 3) := by decide +kernel
theorem dX8_spare_121 : decode cX8_spare 121 = .ok (.iload 4, 2) := by decide +kernel
theorem dX8_spare_123 : decode cX8_spare 123 = .ok (.goto 4, 3) := by decide +kernel
theorem dX8_spare_126 : decode cX8_spare 126 = .ok (.iload_n 3, 1) := by decide +kernel
theorem dX8_spare_127 : decode cX8_spare 127 = .ok (.istore_n 3, 1) := by decide +kernel
theorem dX8_spare_128 : decode cX8_spare 128 = .ok (.aload_n 0, 1) := by decide +kernel
theorem dX8_spare_129 : decode cX8_spare 129 = .ok (.getfield 15, 3) := by decide +kernel
theorem dX8_spare_132 : decode cX8_spare 132 = .ok (.aload_n 0, 1) := by decide +kernel
theorem dX8_spare_133 : decode cX8_spare 133 = .ok (.getfield 9, 3) := by decide +kernel
theorem dX8_spare_136 : decode cX8_spare 136 = .ok (.invokestatic 75, 3) := by decide +kernel
theorem dX8_spare_139 : decode cX8_spare 139 = .ok (.iinc 4 1, 3) := by decide +kernel
theorem dX8_spare_142 : decode cX8_spare 142 = .ok (.goto (-131), 3) := by decide +kernel
theorem dX8_spare_145 : decode cX8_spare 145 = .ok (.iload_n 3, 1) := by decide +kernel
theorem dX8_spare_146 : decode cX8_spare 146 = .ok (.ireturn, 1) := by decide +kernel
set_option maxRecDepth 20000 in
theorem ggX8_best_X8_isIn : GoodIn wsX8_best wsX8_isIn := goodIn_r _ [4] rfl (by decide +kernel)
set_option maxRecDepth 20000 in
theorem gX8_best_X8_isIn : GoodIn wsX8_best (va_wsS RX8 79 yX8_isIn wsX8_isIn) := goodIn_app (goodIn_of _ (by decide +kernel)) ggX8_best_X8_isIn
set_option maxRecDepth 20000 in
theorem ggX8_best_X8_changeOf : GoodIn wsX8_best wsX8_changeOf := goodIn_r _ [8, 9, 10, 11, 12, 13, 14, 15, 16, 3, 17, 18, 1, 2, 4, 19, 20, 21, 22, 23, 24, 25, 26, 27, 28, 29, 30, 31, 32, 33, 34, 35, 36, 37, 38, 39, 40, 41, 42, 43, 44, 45, 46, 47, 48, 49, 50, 51, 52, 53, 54, 55, 56, 57, 58, 59, 60, 61, 62, 63, 64, 65, 66, 67, 68, 69, 70, 71, 72, 73, 74, 75, 76, 77, 78, 79, 80, 81, 82, 83, 84, 85, 86, 87, 88, 89, 90, 91, 92, 93, 94, 95, 96, 97, 98, 99, 100, 101, 102, 103, 104, 105, 106, 107, 108, 109, 110, 111, 112, 113, 114, 115, 116, 117, 118, 119, 120, 121, 122, 123, 124, 125, 126, 127, 128, 129, 130, 131, 132, 133, 134, 135, 136, 137, 138, 139, 140, 141, 142, 143, 144, 145, 146, 147, 148, 149, 150, 151, 152, 153, 154, 155, 156, 157, 165, 166, 167, 168, 169, 170, 171, 172, 173, 174, 175, 176, 177, 178, 179, 180, 181, 182, 183, 184, 185, 186, 187, 188, 189, 190, 191, 192, 193] rfl (by decide +kernel)
set_option maxRecDepth 20000 in
theorem gX8_best_X8_changeOf : GoodIn wsX8_best (wsV RX8 239 RX8 yX8_changeOf wsX8_changeOf) := goodIn_app (goodIn_of _ (by decide +kernel)) ggX8_best_X8_changeOf
set_option maxRecDepth 20000 in
theorem ggX8_best_X8_spare : GoodIn wsX8_best wsX8_spare := goodIn_r _ [161, 9, 18, 150, 151, 152, 3, 153, 61, 62, 63, 64, 65, 66, 67, 68, 162, 163, 164, 23, 24, 25, 142, 143, 144, 145, 26, 27, 28, 29, 30, 31, 32, 33, 34, 10, 11, 12, 13, 35, 36, 37, 38, 39, 40, 41, 42, 43, 44, 45, 46, 47, 48, 49, 50, 51, 52, 53, 54, 55, 56, 57, 58, 59, 60, 69, 70, 71, 72, 73, 74, 75, 76, 77, 78, 79, 80, 81, 82, 83, 84, 85, 86, 87, 88, 89, 90, 91, 92, 93, 94, 95, 96, 97, 98, 99, 100, 101, 102, 103, 104, 105, 106, 107, 108, 109, 110, 111, 112, 113, 114, 115, 116, 117, 118, 119, 120, 121, 122, 123, 124, 125, 126, 127, 128, 129, 130, 131, 132, 133, 134, 135, 136, 137, 138, 139, 140, 141, 165, 166, 167, 168, 169, 170, 171, 172, 173, 174, 175, 176, 177, 178, 179, 180, 181, 182, 183, 184, 185, 186, 187, 188, 189, 190, 191, 192, 193] rfl (by decide +kernel)
set_option maxRecDepth 20000 in
theorem gX8_best_X8_spare : GoodIn wsX8_best (wsV RX8 242 RX8 yX8_spare wsX8_spare) := goodIn_app (goodIn_of _ (by decide +kernel)) ggX8_best_X8_spare
theorem dX8_best_0 : decode cX8_best 0 = .ok (.iload_n 2, 1) := by decide +kernel
theorem dX8_best_1 : decode cX8_best 1 = .ok (.iconst 0, 1) := by decide +kernel
theorem dX8_best_2 : decode cX8_best 2 = .ok (.iconst 1, 1) := by decide +kernel
theorem dX8_best_3 : decode cX8_best 3 = .ok (.invokestatic 79, 3) := by decide +kernel
theorem dX8_best_6 : decode cX8_best 6 = .ok (.ifCond .ne 5, 3) := by decide +kernel
theorem dX8_best_9 : decode cX8_best 9 = .ok (.iconst (-1), 1) := by decide +kernel
theorem dX8_best_10 : decode cX8_best 10 = .ok (.ireturn, 1) := by decide +kernel
theorem dX8_best_11 : decode cX8_best 11 = .ok (.iload_n 1, 1) := by decide +kernel
theorem dX8_best_12 : decode cX8_best 12 = .ok (.iconst 1, 1) := by decide +kernel
theorem dX8_best_13 : decode cX8_best 13 = .ok (.bipush 20, 2) := by decide +kernel
theorem dX8_best_15 : decode cX8_best 15 = .ok (.invokestatic 79, 3) := by decide +kernel
theorem dX8_best_18 : decode cX8_best 18 = .ok (.ifCond .ne 6, 3) := by decide +kernel
theorem dX8_best_21 : decode cX8_best 21 = .ok (.bipush (-2), 2) := by decide +kernel
theorem dX8_best_23 : decode cX8_best 23 = .ok (.ireturn, 1) := by decide +kernel
theorem dX8_best_24 : decode cX8_best 24 = .ok (.iload_n 2, 1) := by decide +kernel
theorem dX8_best_25 : decode cX8_best 25 = .ok (.ifCond .ne 11, 3) := by decide +kernel
theorem dX8_best_28 : decode cX8_best 28 = .ok (.aload_n 0, 1) := by decide +kernel
theorem dX8_best_29 : decode cX8_best 29 = .ok (.iload_n 1, 1) := by decide +kernel
theorem dX8_best_30 : decode cX8_best 30 = .ok (.invokevirtual 239, 3) := by decide +kernel
theorem dX8_best_33 : decode cX8_best 33 = .ok (.goto 8, 3) := by decide +kernel
theorem dX8_best_36 : decode cX8_best 36 = .ok (.aload_n 0, 1) := by decide +kernel
theorem dX8_best_37 : decode cX8_best 37 = .ok (.iload_n 1, 1) := by decide +kernel
theorem dX8_best_38 : decode cX8_best 38 = .ok (.invokevirtual 242, 3) := by decide +kernel
theorem dX8_best_41 : decode cX8_best 41 = .ok (.ireturn, 1) := by decide +kernel
set_option maxRecDepth 20000 in
theorem ggX8_see_X8_isLeaf : GoodIn wsX8_see wsX8_isLeaf := goodIn_r _ [6, 1, 7, 8, 5, 9, 10, 11, 12, 13, 14, 15, 16, 17, 18, 19, 20, 21, 22, 23, 24, 25, 26, 27, 28, 29, 30, 31, 32, 33, 34, 35, 36, 37, 38] rfl (by decide +kernel)
set_option maxRecDepth 20000 in
theorem gX8_see_X8_isLeaf : GoodIn wsX8_see (wsV RX8 109 RX8 yX8_isLeaf wsX8_isLeaf) := goodIn_app (goodIn_of _ (by decide +kernel)) ggX8_see_X8_isLeaf
set_option maxRecDepth 20000 in
theorem ggX8_see_X8_isIn : GoodIn wsX8_see wsX8_isIn := goodIn_r _ [9] rfl (by decide +kernel)
set_option maxRecDepth 20000 in
theorem gX8_see_X8_isIn : GoodIn wsX8_see (va_wsS RX8 79 yX8_isIn wsX8_isIn) := goodIn_app (goodIn_of _ (by decide +kernel)) ggX8_see_X8_isIn
theorem dX8_see_0 : decode cX8_see 0 = .ok (.iload_n 1, 1) := by decide +kernel
theorem dX8_see_1 : decode cX8_see 1 = .ok (.iconst (-1), 1) := by decide +kernel
theorem dX8_see_2 : decode cX8_see 2 = .ok (.if_icmp .ne 13, 3) := by decide +kernel
theorem dX8_see_5 : decode cX8_see 5 = .ok (.aload_n 0, 1) := by decide +kernel
theorem dX8_see_6 : decode cX8_see 6 = .ok (.getfield 9, 3) := by decide +kernel
theorem dX8_see_9 : decode cX8_see 9 = .ok (.bipush 59, 2) := by decide +kernel
theorem dX8_see_11 : decode cX8_see 11 = .ok (.iconst 0, 1) := by decide +kernel
theorem dX8_see_12 : decode cX8_see 12 = .ok (.iastore, 1) := by decide +kernel
theorem dX8_see_13 : decode cX8_see 13 = .ok (.iconst 0, 1) := by decide +kernel
theorem dX8_see_14 : decode cX8_see 14 = .ok (.ireturn, 1) := by decide +kernel
theorem dX8_see_15 : decode cX8_see 15 = .ok (.aload_n 0, 1) := by decide +kernel
theorem dX8_see_16 : decode cX8_see 16 = .ok (.iload_n 1, 1) := by decide +kernel
theorem dX8_see_17 : decode cX8_see 17 = .ok (.invokevirtual 109, 3) := by decide +kernel
theorem dX8_see_20 : decode cX8_see 20 = .ok (.ifCond .ne 5, 3) := by decide +kernel
theorem dX8_see_23 : decode cX8_see 23 = .ok (.iconst (-1), 1) := by decide +kernel
theorem dX8_see_24 : decode cX8_see 24 = .ok (.ireturn, 1) := by decide +kernel
theorem dX8_see_25 : decode cX8_see 25 = .ok (.iload_n 2, 1) := by decide +kernel
theorem dX8_see_26 : decode cX8_see 26 = .ok (.iconst 0, 1) := by decide +kernel
theorem dX8_see_27 : decode cX8_see 27 = .ok (.bipush 12, 2) := by decide +kernel
theorem dX8_see_29 : decode cX8_see 29 = .ok (.invokestatic 79, 3) := by decide +kernel
theorem dX8_see_32 : decode cX8_see 32 = .ok (.ifCond .ne 6, 3) := by decide +kernel
theorem dX8_see_35 : decode cX8_see 35 = .ok (.bipush (-2), 2) := by decide +kernel
theorem dX8_see_37 : decode cX8_see 37 = .ok (.ireturn, 1) := by decide +kernel
theorem dX8_see_38 : decode cX8_see 38 = .ok (.aload_n 0, 1) := by decide +kernel
theorem dX8_see_39 : decode cX8_see 39 = .ok (.getfield 9, 3) := by decide +kernel
theorem dX8_see_42 : decode cX8_see 42 = .ok (.bipush 59, 2) := by decide +kernel
theorem dX8_see_44 : decode cX8_see 44 = .ok (.iaload, 1) := by decide +kernel
theorem dX8_see_45 : decode cX8_see 45 = .ok (.iconst 5, 1) := by decide +kernel
theorem dX8_see_46 : decode cX8_see 46 = .ok (.if_icmp .ne 6, 3) := by decide +kernel
theorem dX8_see_49 : decode cX8_see 49 = .ok (.bipush (-4), 2) := by decide +kernel
theorem dX8_see_51 : decode cX8_see 51 = .ok (.ireturn, 1) := by decide +kernel
theorem dX8_see_52 : decode cX8_see 52 = .ok (.bipush 60, 2) := by decide +kernel
theorem dX8_see_54 : decode cX8_see 54 = .ok (.iconst 3, 1) := by decide +kernel
theorem dX8_see_55 : decode cX8_see 55 = .ok (.aload_n 0, 1) := by decide +kernel
theorem dX8_see_56 : decode cX8_see 56 = .ok (.getfield 9, 3) := by decide +kernel
theorem dX8_see_59 : decode cX8_see 59 = .ok (.bipush 59, 2) := by decide +kernel
theorem dX8_see_61 : decode cX8_see 61 = .ok (.iaload, 1) := by decide +kernel
theorem dX8_see_62 : decode cX8_see 62 = .ok (.imul, 1) := by decide +kernel
theorem dX8_see_63 : decode cX8_see 63 = .ok (.iadd, 1) := by decide +kernel
theorem dX8_see_64 : decode cX8_see 64 = .ok (.istore 4, 2) := by decide +kernel
theorem dX8_see_66 : decode cX8_see 66 = .ok (.aload_n 0, 1) := by decide +kernel
theorem dX8_see_67 : decode cX8_see 67 = .ok (.getfield 9, 3) := by decide +kernel
theorem dX8_see_70 : decode cX8_see 70 = .ok (.iload 4, 2) := by decide +kernel
theorem dX8_see_72 : decode cX8_see 72 = .ok (.iload_n 1, 1) := by decide +kernel
theorem dX8_see_73 : decode cX8_see 73 = .ok (.iastore, 1) := by decide +kernel
theorem dX8_see_74 : decode cX8_see 74 = .ok (.aload_n 0, 1) := by decide +kernel
theorem dX8_see_75 : decode cX8_see 75 = .ok (.getfield 9, 3) := by decide +kernel
theorem dX8_see_78 : decode cX8_see 78 = .ok (.iload 4, 2) := by decide +kernel
theorem dX8_see_80 : decode cX8_see 80 = .ok (.iconst 1, 1) := by decide +kernel
theorem dX8_see_81 : decode cX8_see 81 = .ok (.iadd, 1) := by decide +kernel
theorem dX8_see_82 : decode cX8_see 82 = .ok (.iload_n 2, 1) := by decide +kernel
theorem dX8_see_83 : decode cX8_see 83 = .ok (.iastore, 1) := by decide +kernel
theorem dX8_see_84 : decode cX8_see 84 = .ok (.aload_n 0, 1) := by decide +kernel
theorem dX8_see_85 : decode cX8_see 85 = .ok (.getfield 9, 3) := by decide +kernel
theorem dX8_see_88 : decode cX8_see 88 = .ok (.iload 4, 2) := by decide +kernel
theorem dX8_see_90 : decode cX8_see 90 = .ok (.iconst 2, 1) := by decide +kernel
theorem dX8_see_91 : decode cX8_see 91 = .ok (.iadd, 1) := by decide +kernel
theorem dX8_see_92 : decode cX8_see 92 = .ok (.iload_n 3, 1) := by decide +kernel
theorem dX8_see_93 : decode cX8_see 93 = .ok (.ifCond .eq 7, 3) := by decide +kernel
theorem dX8_see_96 : decode cX8_see 96 = .ok (.iconst 1, 1) := by decide +kernel
theorem dX8_see_97 : decode cX8_see 97 = .ok (.goto 4, 3) := by decide +kernel
theorem dX8_see_100 : decode cX8_see 100 = .ok (.iconst 0, 1) := by decide +kernel
theorem dX8_see_101 : decode cX8_see 101 = .ok (.iastore, 1) := by decide +kernel
theorem dX8_see_102 : decode cX8_see 102 = .ok (.aload_n 0, 1) := by decide +kernel
theorem dX8_see_103 : decode cX8_see 103 = .ok (.getfield 9, 3) := by decide +kernel
theorem dX8_see_106 : decode cX8_see 106 = .ok (.bipush 59, 2) := by decide +kernel
theorem dX8_see_108 : decode cX8_see 108 = .ok (.dup2, 1) := by decide +kernel
theorem dX8_see_109 : decode cX8_see 109 = .ok (.iaload, 1) := by decide +kernel
theorem dX8_see_110 : decode cX8_see 110 = .ok (.iconst 1, 1) := by decide +kernel
theorem dX8_see_111 : decode cX8_see 111 = .ok (.iadd, 1) := by decide +kernel
theorem dX8_see_112 : decode cX8_see 112 = .ok (.iastore, 1) := by decide +kernel
theorem dX8_see_113 : decode cX8_see 113 = .ok (.aload_n 0, 1) := by decide +kernel
theorem dX8_see_114 : decode cX8_see 114 = .ok (.getfield 9, 3) := by decide +kernel
theorem dX8_see_117 : decode cX8_see 117 = .ok (.bipush 59, 2) := by decide +kernel
theorem dX8_see_119 : decode cX8_see 119 = .ok (.iaload, 1) := by decide +kernel
theorem dX8_see_120 : decode cX8_see 120 = .ok (.ireturn, 1) := by decide +kernel
set_option maxRecDepth 20000 in
theorem ggX8_isAllSeen_X8_move : GoodIn wsX8_isAllSeen wsX8_move := goodIn_r _ [6] rfl (by decide +kernel)
set_option maxRecDepth 20000 in
theorem gX8_isAllSeen_X8_move : GoodIn wsX8_isAllSeen (va_wsS RX8 75 yX8_move wsX8_move) := goodIn_app (goodIn_of _ (by decide +kernel)) ggX8_isAllSeen_X8_move
set_option maxRecDepth 20000 in
theorem ggX8_isAllSeen_X8_isTaut : GoodIn wsX8_isAllSeen wsX8_isTaut := goodIn_r _ [10, 11, 12, 13, 5, 14, 15, 16, 17, 18, 1, 19, 20, 21, 22, 23, 24, 25, 26, 27, 28, 29, 30, 31, 32, 33, 34, 127, 128, 129, 130, 131, 132, 133, 134, 135, 136, 137, 138, 139, 140, 141, 142, 143, 144, 145, 146, 147, 148, 149, 150, 151, 152, 153, 154, 155] rfl (by decide +kernel)
set_option maxRecDepth 20000 in
theorem gX8_isAllSeen_X8_isTaut : GoodIn wsX8_isAllSeen (wsV RX8 139 RX8 yX8_isTaut wsX8_isTaut) := goodIn_app (goodIn_of _ (by decide +kernel)) ggX8_isAllSeen_X8_isTaut
set_option maxRecDepth 20000 in
theorem ggX8_isAllSeen_X8_step : GoodIn wsX8_isAllSeen wsX8_step := goodIn_r _ [38, 1, 39, 40, 41, 25, 42, 43, 44, 45, 46, 47, 48, 5, 49, 50, 51, 52, 53, 54, 55, 56, 57, 58, 59, 60, 27, 28, 29, 30, 61, 62, 63, 64, 11, 12, 13, 14, 15, 16, 17, 18, 65, 66, 67, 68, 69, 70, 71, 72, 73, 74, 75, 76, 77, 78, 79, 80, 81, 82, 83, 84, 85, 86, 87, 88, 89, 90, 91, 92, 93, 94, 95, 96, 97, 98, 99, 100, 101, 102, 103, 104, 105, 106, 107, 108, 109, 110, 111, 112, 113, 114, 115, 116, 117, 118, 119, 120, 121, 122, 7, 8, 9, 10, 19, 20, 21, 22, 23, 24, 26, 31, 32, 33, 34, 123, 124, 125, 126, 127, 128, 129, 130, 131, 132, 133, 134, 135, 136, 137, 138, 139, 140, 141, 142, 143, 144, 145, 146, 147, 148, 149, 150, 151, 152, 153, 154, 155] rfl (by decide +kernel)
set_option maxRecDepth 20000 in
theorem gX8_isAllSeen_X8_step : GoodIn wsX8_isAllSeen (wsV RX8 215 RX8 yX8_step wsX8_step) := goodIn_app (goodIn_of _ (by decide +kernel)) ggX8_isAllSeen_X8_step
theorem dX8_isAllSeen_0 : decode cX8_isAllSeen 0 = .ok (.aload_n 0, 1) := by decide +kernel
theorem dX8_isAllSeen_1 : decode cX8_isAllSeen 1 = .ok (.getfield 9, 3) := by decide +kernel
theorem dX8_isAllSeen_4 : decode cX8_isAllSeen 4 = .ok (.aload_n 0, 1) := by decide +kernel
theorem dX8_isAllSeen_5 : decode cX8_isAllSeen 5 = .ok (.getfield 15, 3) := by decide +kernel
theorem dX8_isAllSeen_8 : decode cX8_isAllSeen 8 = .ok (.invokestatic 75, 3) := by decide +kernel
theorem dX8_isAllSeen_11 : decode cX8_isAllSeen 11 = .ok (.iconst 1, 1) := by decide +kernel
theorem dX8_isAllSeen_12 : decode cX8_isAllSeen 12 = .ok (.istore_n 1, 1) := by decide +kernel
theorem dX8_isAllSeen_13 : decode cX8_isAllSeen 13 = .ok (.iconst 0, 1) := by decide +kernel
theorem dX8_isAllSeen_14 : decode cX8_isAllSeen 14 = .ok (.istore_n 2, 1) := by decide +kernel
theorem dX8_isAllSeen_15 : decode cX8_isAllSeen 15 = .ok (.iload_n 2, 1) := by decide +kernel
theorem dX8_isAllSeen_16 : decode cX8_isAllSeen 16 = .ok (.bipush 12, 2) := by decide +kernel
theorem dX8_isAllSeen_18 : decode cX8_isAllSeen 18 = .ok (.if_icmp .gt 99, 3) := by decide +kernel
theorem dX8_isAllSeen_21 : decode cX8_isAllSeen 21 = .ok (.iload_n 1, 1) := by decide +kernel
theorem dX8_isAllSeen_22 : decode cX8_isAllSeen 22 = .ok (.ifCond .eq 95, 3) := by decide +kernel
theorem dX8_isAllSeen_25 : decode cX8_isAllSeen 25 = .ok (.iconst 0, 1) := by decide +kernel
theorem dX8_isAllSeen_26 : decode cX8_isAllSeen 26 = .ok (.istore_n 3, 1) := by decide +kernel
theorem dX8_isAllSeen_27 : decode cX8_isAllSeen 27 = .ok (.iload_n 3, 1) := by decide +kernel
theorem dX8_isAllSeen_28 : decode cX8_isAllSeen 28 = .ok (.aload_n 0, 1) := by decide +kernel
theorem dX8_isAllSeen_29 : decode cX8_isAllSeen 29 = .ok (.getfield 9, 3) := by decide +kernel
theorem dX8_isAllSeen_32 : decode cX8_isAllSeen 32 = .ok (.bipush 59, 2) := by decide +kernel
theorem dX8_isAllSeen_34 : decode cX8_isAllSeen 34 = .ok (.iaload, 1) := by decide +kernel
theorem dX8_isAllSeen_35 : decode cX8_isAllSeen 35 = .ok (.if_icmp .ge 72, 3) := by decide +kernel
theorem dX8_isAllSeen_38 : decode cX8_isAllSeen 38 = .ok (.bipush 60, 2) := by decide +kernel
theorem dX8_isAllSeen_40 : decode cX8_isAllSeen 40 = .ok (.iconst 3, 1) := by decide +kernel
theorem dX8_isAllSeen_41 : decode cX8_isAllSeen 41 = .ok (.iload_n 3, 1) := by decide +kernel
theorem dX8_isAllSeen_42 : decode cX8_isAllSeen 42 = .ok (.imul, 1) := by decide +kernel
theorem dX8_isAllSeen_43 : decode cX8_isAllSeen 43 = .ok (.iadd, 1) := by decide +kernel
theorem dX8_isAllSeen_44 : decode cX8_isAllSeen 44 = .ok (.istore 4, 2) := by decide +kernel
theorem dX8_isAllSeen_46 : decode cX8_isAllSeen 46 = .ok (.iload_n 1, 1) := by decide +kernel
theorem dX8_isAllSeen_47 : decode cX8_isAllSeen 47 = .ok (.ifCond .eq 52, 3) := by decide +kernel
theorem dX8_isAllSeen_50 : decode cX8_isAllSeen 50 = .ok (.aload_n 0, 1) := by decide +kernel
theorem dX8_isAllSeen_51 : decode cX8_isAllSeen 51 = .ok (.getfield 9, 3) := by decide +kernel
theorem dX8_isAllSeen_54 : decode cX8_isAllSeen 54 = .ok (.iload 4, 2) := by decide +kernel
theorem dX8_isAllSeen_56 : decode cX8_isAllSeen 56 = .ok (.iconst 1, 1) := by decide +kernel
theorem dX8_isAllSeen_57 : decode cX8_isAllSeen 57 = .ok (.iadd, 1) := by decide +kernel
theorem dX8_isAllSeen_58 : decode cX8_isAllSeen 58 = .ok (.iaload, 1) := by decide +kernel
theorem dX8_isAllSeen_59 : decode cX8_isAllSeen 59 = .ok (.iload_n 2, 1) := by decide +kernel
theorem dX8_isAllSeen_60 : decode cX8_isAllSeen 60 = .ok (.if_icmp .ne 35, 3) := by decide +kernel
theorem dX8_isAllSeen_63 : decode cX8_isAllSeen 63 = .ok (.aload_n 0, 1) := by decide +kernel
theorem dX8_isAllSeen_64 : decode cX8_isAllSeen 64 = .ok (.aload_n 0, 1) := by decide +kernel
theorem dX8_isAllSeen_65 : decode cX8_isAllSeen 65 = .ok (.getfield 9, 3) := by decide +kernel
theorem dX8_isAllSeen_68 : decode cX8_isAllSeen 68 = .ok (.iload 4, 2) := by decide +kernel
theorem dX8_isAllSeen_70 : decode cX8_isAllSeen 70 = .ok (.iaload, 1) := by decide +kernel
theorem dX8_isAllSeen_71 : decode cX8_isAllSeen 71 = .ok (.invokevirtual 139, 3) := by decide +kernel
theorem dX8_isAllSeen_74 : decode cX8_isAllSeen 74 = .ok (.aload_n 0, 1) := by decide +kernel
theorem dX8_isAllSeen_75 : decode cX8_isAllSeen 75 = .ok (.getfield 9, 3) := by decide +kernel
theorem dX8_isAllSeen_78 : decode cX8_isAllSeen 78 = .ok (.iload 4, 2) := by decide +kernel
theorem dX8_isAllSeen_80 : decode cX8_isAllSeen 80 = .ok (.iconst 2, 1) := by decide +kernel
theorem dX8_isAllSeen_81 : decode cX8_isAllSeen 81 = .ok (.iadd, 1) := by decide +kernel
theorem dX8_isAllSeen_82 : decode cX8_isAllSeen 82 = .ok (.iaload, 1) := by decide +kernel
theorem dX8_isAllSeen_83 : decode cX8_isAllSeen 83 = .ok (.iconst 1, 1) := by decide +kernel
theorem dX8_isAllSeen_84 : decode cX8_isAllSeen 84 = .ok (.if_icmp .ne 7, 3) := by decide +kernel
theorem dX8_isAllSeen_87 : decode cX8_isAllSeen 87 = .ok (.iconst 1, 1) := by decide +kernel
theorem dX8_isAllSeen_88 : decode cX8_isAllSeen 88 = .ok (.goto 4, 3) := by decide +kernel
theorem dX8_isAllSeen_91 : decode cX8_isAllSeen 91 = .ok (.iconst 0, 1) := by decide +kernel
theorem dX8_isAllSeen_92 : decode cX8_isAllSeen 92 = .ok (.if_icmp .ne 7, 3) := by decide +kernel
theorem dX8_isAllSeen_95 : decode cX8_isAllSeen 95 = .ok (.iconst 1, 1) := by decide +kernel
theorem dX8_isAllSeen_96 : decode cX8_isAllSeen 96 = .ok (.goto 4, 3) := by decide +kernel
theorem dX8_isAllSeen_99 : decode cX8_isAllSeen 99 = .ok (.iconst 0, 1) := by decide +kernel
theorem dX8_isAllSeen_100 : decode cX8_isAllSeen 100 = .ok (.istore_n 1, 1) := by decide +kernel
theorem dX8_isAllSeen_101 : decode cX8_isAllSeen 101 = .ok (.iinc 3 1, 3) := by decide +kernel
theorem dX8_isAllSeen_104 : decode cX8_isAllSeen 104 = .ok (.goto (-77), 3) := by decide +kernel
theorem dX8_isAllSeen_107 : decode cX8_isAllSeen 107 = .ok (.aload_n 0, 1) := by decide +kernel
theorem dX8_isAllSeen_108 : decode cX8_isAllSeen 108 = .ok (.invokevirtual 215, 3) := by decide +kernel
theorem dX8_isAllSeen_111 : decode cX8_isAllSeen 111 = .ok (.iinc 2 1, 3) := by decide +kernel
theorem dX8_isAllSeen_114 : decode cX8_isAllSeen 114 = .ok (.goto (-99), 3) := by decide +kernel
theorem dX8_isAllSeen_117 : decode cX8_isAllSeen 117 = .ok (.aload_n 0, 1) := by decide +kernel
theorem dX8_isAllSeen_118 : decode cX8_isAllSeen 118 = .ok (.getfield 15, 3) := by decide +kernel
theorem dX8_isAllSeen_121 : decode cX8_isAllSeen 121 = .ok (.aload_n 0, 1) := by decide +kernel
theorem dX8_isAllSeen_122 : decode cX8_isAllSeen 122 = .ok (.getfield 9, 3) := by decide +kernel
theorem dX8_isAllSeen_125 : decode cX8_isAllSeen 125 = .ok (.invokestatic 75, 3) := by decide +kernel
theorem dX8_isAllSeen_128 : decode cX8_isAllSeen 128 = .ok (.iload_n 1, 1) := by decide +kernel
theorem dX8_isAllSeen_129 : decode cX8_isAllSeen 129 = .ok (.ireturn, 1) := by decide +kernel
set_option maxRecDepth 20000 in
theorem ggX8_fits_X8_isAllSeen : GoodIn wsX8_fits wsX8_isAllSeen := goodIn_r _ [6, 1, 7, 8, 9, 5, 10, 11, 12, 13, 14, 15, 16, 17, 18, 19, 20, 21, 22, 23, 24, 25, 26, 27, 28, 29, 30, 31, 32, 33, 34, 35, 36, 37, 38, 39, 40, 41, 42, 43, 44, 45, 46, 47, 48, 49, 50, 51, 52, 53, 54, 55, 56, 57, 58, 59, 60, 61, 62, 63, 64, 65, 66, 67, 68, 69, 70, 71, 72, 73, 74, 75, 76, 77, 78, 79, 80, 81, 82, 83, 84, 85, 86, 87, 88, 89, 90, 91, 92, 93, 94, 95, 96, 97, 98, 99, 100, 101, 102, 103, 104, 105, 106, 107, 108, 109, 110, 111, 112, 113, 114, 115, 116, 117, 118, 119, 120, 121, 122, 123, 124, 125, 126, 127, 128, 129, 130, 131, 132, 133, 134, 135, 136, 137, 138, 139, 140, 141, 142, 143, 144, 145, 146, 147, 148, 149, 150, 151, 152, 153, 154, 155, 156, 157, 158, 159] rfl (by decide +kernel)
set_option maxRecDepth 20000 in
theorem gX8_fits_X8_isAllSeen : GoodIn wsX8_fits (wsV RX8 245 RX8 yX8_isAllSeen wsX8_isAllSeen) := goodIn_app (goodIn_of _ (by decide +kernel)) ggX8_fits_X8_isAllSeen
theorem dX8_fits_0 : decode cX8_fits 0 = .ok (.aload_n 0, 1) := by decide +kernel
theorem dX8_fits_1 : decode cX8_fits 1 = .ok (.getfield 9, 3) := by decide +kernel
theorem dX8_fits_4 : decode cX8_fits 4 = .ok (.iload_n 1, 1) := by decide +kernel
theorem dX8_fits_5 : decode cX8_fits 5 = .ok (.iaload, 1) := by decide +kernel
theorem dX8_fits_6 : decode cX8_fits 6 = .ok (.istore 5, 2) := by decide +kernel
theorem dX8_fits_8 : decode cX8_fits 8 = .ok (.iconst 0, 1) := by decide +kernel
theorem dX8_fits_9 : decode cX8_fits 9 = .ok (.istore 6, 2) := by decide +kernel
theorem dX8_fits_11 : decode cX8_fits 11 = .ok (.bipush (-5), 2) := by decide +kernel
theorem dX8_fits_13 : decode cX8_fits 13 = .ok (.istore 7, 2) := by decide +kernel
theorem dX8_fits_15 : decode cX8_fits 15 = .ok (.iload_n 3, 1) := by decide +kernel
theorem dX8_fits_16 : decode cX8_fits 16 = .ok (.istore 8, 2) := by decide +kernel
theorem dX8_fits_18 : decode cX8_fits 18 = .ok (.iload 8, 2) := by decide +kernel
theorem dX8_fits_20 : decode cX8_fits 20 = .ok (.iload_n 2, 1) := by decide +kernel
theorem dX8_fits_21 : decode cX8_fits 21 = .ok (.if_icmp .lt 52, 3) := by decide +kernel
theorem dX8_fits_24 : decode cX8_fits 24 = .ok (.aload_n 0, 1) := by decide +kernel
theorem dX8_fits_25 : decode cX8_fits 25 = .ok (.getfield 9, 3) := by decide +kernel
theorem dX8_fits_28 : decode cX8_fits 28 = .ok (.iload_n 1, 1) := by decide +kernel
theorem dX8_fits_29 : decode cX8_fits 29 = .ok (.iload 8, 2) := by decide +kernel
theorem dX8_fits_31 : decode cX8_fits 31 = .ok (.iastore, 1) := by decide +kernel
theorem dX8_fits_32 : decode cX8_fits 32 = .ok (.aload_n 0, 1) := by decide +kernel
theorem dX8_fits_33 : decode cX8_fits 33 = .ok (.invokevirtual 245, 3) := by decide +kernel
theorem dX8_fits_36 : decode cX8_fits 36 = .ok (.istore 9, 2) := by decide +kernel
theorem dX8_fits_38 : decode cX8_fits 38 = .ok (.iload 6, 2) := by decide +kernel
theorem dX8_fits_40 : decode cX8_fits 40 = .ok (.iload 9, 2) := by decide +kernel
theorem dX8_fits_42 : decode cX8_fits 42 = .ok (.ifCond .eq 7, 3) := by decide +kernel
theorem dX8_fits_45 : decode cX8_fits 45 = .ok (.iconst 1, 1) := by decide +kernel
theorem dX8_fits_46 : decode cX8_fits 46 = .ok (.goto 4, 3) := by decide +kernel
theorem dX8_fits_49 : decode cX8_fits 49 = .ok (.iconst 0, 1) := by decide +kernel
theorem dX8_fits_50 : decode cX8_fits 50 = .ok (.iadd, 1) := by decide +kernel
theorem dX8_fits_51 : decode cX8_fits 51 = .ok (.istore 6, 2) := by decide +kernel
theorem dX8_fits_53 : decode cX8_fits 53 = .ok (.iload 9, 2) := by decide +kernel
theorem dX8_fits_55 : decode cX8_fits 55 = .ok (.ifCond .eq 8, 3) := by decide +kernel
theorem dX8_fits_58 : decode cX8_fits 58 = .ok (.iload 8, 2) := by decide +kernel
theorem dX8_fits_60 : decode cX8_fits 60 = .ok (.goto 5, 3) := by decide +kernel
theorem dX8_fits_63 : decode cX8_fits 63 = .ok (.iload 7, 2) := by decide +kernel
theorem dX8_fits_65 : decode cX8_fits 65 = .ok (.istore 7, 2) := by decide +kernel
theorem dX8_fits_67 : decode cX8_fits 67 = .ok (.iinc 8 (-1), 3) := by decide +kernel
theorem dX8_fits_70 : decode cX8_fits 70 = .ok (.goto (-52), 3) := by decide +kernel
theorem dX8_fits_73 : decode cX8_fits 73 = .ok (.aload_n 0, 1) := by decide +kernel
theorem dX8_fits_74 : decode cX8_fits 74 = .ok (.getfield 9, 3) := by decide +kernel
theorem dX8_fits_77 : decode cX8_fits 77 = .ok (.iload_n 1, 1) := by decide +kernel
theorem dX8_fits_78 : decode cX8_fits 78 = .ok (.iload 5, 2) := by decide +kernel
theorem dX8_fits_80 : decode cX8_fits 80 = .ok (.iastore, 1) := by decide +kernel
theorem dX8_fits_81 : decode cX8_fits 81 = .ok (.iload 4, 2) := by decide +kernel
theorem dX8_fits_83 : decode cX8_fits 83 = .ok (.ifCond .eq 8, 3) := by decide +kernel
theorem dX8_fits_86 : decode cX8_fits 86 = .ok (.iload 6, 2) := by decide +kernel
theorem dX8_fits_88 : decode cX8_fits 88 = .ok (.goto 5, 3) := by decide +kernel
theorem dX8_fits_91 : decode cX8_fits 91 = .ok (.iload 7, 2) := by decide +kernel
theorem dX8_fits_93 : decode cX8_fits 93 = .ok (.ireturn, 1) := by decide +kernel
set_option maxRecDepth 20000 in
theorem ggX8_can_X8_isOne : GoodIn wsX8_can wsX8_isOne := goodIn_r _ [5, 6, 7, 8, 4, 9, 142, 143, 144, 145, 146, 147, 148, 149, 150, 151, 152, 153, 154, 155, 156, 157, 158, 159, 160, 161, 162, 163, 164, 165, 166, 167, 168, 169, 170] rfl (by decide +kernel)
set_option maxRecDepth 20000 in
theorem gX8_can_X8_isOne : GoodIn wsX8_can (wsV RX8 94 RX8 yX8_isOne wsX8_isOne) := goodIn_app (goodIn_of _ (by decide +kernel)) ggX8_can_X8_isOne
set_option maxRecDepth 20000 in
theorem ggX8_can_X8_isIn : GoodIn wsX8_can wsX8_isIn := goodIn_r _ [9] rfl (by decide +kernel)
set_option maxRecDepth 20000 in
theorem gX8_can_X8_isIn : GoodIn wsX8_can (va_wsS RX8 79 yX8_isIn wsX8_isIn) := goodIn_app (goodIn_of _ (by decide +kernel)) ggX8_can_X8_isIn
set_option maxRecDepth 20000 in
theorem ggX8_can_X8_fits : GoodIn wsX8_can wsX8_fits := goodIn_r _ [13, 6, 14, 15, 16, 4, 17, 18, 19, 20, 21, 22, 23, 24, 25, 26, 27, 28, 29, 30, 31, 32, 33, 34, 35, 36, 37, 38, 39, 40, 41, 42, 43, 44, 45, 46, 47, 48, 49, 50, 51, 52, 53, 54, 55, 56, 57, 58, 59, 60, 61, 62, 63, 64, 65, 66, 67, 68, 69, 70, 71, 72, 73, 74, 75, 76, 77, 78, 79, 80, 81, 82, 83, 84, 85, 86, 87, 88, 89, 90, 91, 92, 93, 94, 95, 96, 97, 98, 99, 100, 101, 102, 103, 104, 105, 106, 107, 108, 109, 110, 111, 112, 113, 114, 115, 116, 117, 118, 119, 120, 121, 122, 123, 124, 125, 126, 127, 128, 129, 130, 131, 132, 133, 134, 135, 136, 137, 138, 139, 140, 141, 142, 143, 144, 145, 146, 147, 148, 149, 150, 151, 152, 153, 154, 155, 156, 157, 158, 159, 160, 161, 162, 163, 164, 165, 166, 167, 168, 169, 170] rfl (by decide +kernel)
set_option maxRecDepth 20000 in
theorem gX8_can_X8_fits : GoodIn wsX8_can (wsV RX8 124 RX8 yX8_fits wsX8_fits) := goodIn_app (goodIn_of _ (by decide +kernel)) ggX8_can_X8_fits
theorem dX8_can_0 : decode cX8_can 0 = .ok (.aload_n 0, 1) := by decide +kernel
theorem dX8_can_1 : decode cX8_can 1 = .ok (.iload_n 1, 1) := by decide +kernel
theorem dX8_can_2 : decode cX8_can 2 = .ok (.invokevirtual 94, 3) := by decide +kernel
theorem dX8_can_5 : decode cX8_can 5 = .ok (.ifCond .eq 37, 3) := by decide +kernel
theorem dX8_can_8 : decode cX8_can 8 = .ok (.iload_n 2, 1) := by decide +kernel
theorem dX8_can_9 : decode cX8_can 9 = .ok (.iconst 0, 1) := by decide +kernel
theorem dX8_can_10 : decode cX8_can 10 = .ok (.iconst 1, 1) := by decide +kernel
theorem dX8_can_11 : decode cX8_can 11 = .ok (.invokestatic 79, 3) := by decide +kernel
theorem dX8_can_14 : decode cX8_can 14 = .ok (.ifCond .eq 28, 3) := by decide +kernel
theorem dX8_can_17 : decode cX8_can 17 = .ok (.aload_n 0, 1) := by decide +kernel
theorem dX8_can_18 : decode cX8_can 18 = .ok (.bipush 7, 2) := by decide +kernel
theorem dX8_can_20 : decode cX8_can 20 = .ok (.iload_n 1, 1) := by decide +kernel
theorem dX8_can_21 : decode cX8_can 21 = .ok (.imul, 1) := by decide +kernel
theorem dX8_can_22 : decode cX8_can 22 = .ok (.iconst 1, 1) := by decide +kernel
theorem dX8_can_23 : decode cX8_can 23 = .ok (.iadd, 1) := by decide +kernel
theorem dX8_can_24 : decode cX8_can 24 = .ok (.iconst 0, 1) := by decide +kernel
theorem dX8_can_25 : decode cX8_can 25 = .ok (.bipush 9, 2) := by decide +kernel
theorem dX8_can_27 : decode cX8_can 27 = .ok (.iload_n 2, 1) := by decide +kernel
theorem dX8_can_28 : decode cX8_can 28 = .ok (.ifCond .ne 7, 3) := by decide +kernel
theorem dX8_can_31 : decode cX8_can 31 = .ok (.iconst 1, 1) := by decide +kernel
theorem dX8_can_32 : decode cX8_can 32 = .ok (.goto 4, 3) := by decide +kernel
theorem dX8_can_35 : decode cX8_can 35 = .ok (.iconst 0, 1) := by decide +kernel
theorem dX8_can_36 : decode cX8_can 36 = .ok (.invokevirtual 124, 3) := by decide +kernel
theorem dX8_can_39 : decode cX8_can 39 = .ok (.goto 4, 3) := by decide +kernel
theorem dX8_can_42 : decode cX8_can 42 = .ok (.iconst (-1), 1) := by decide +kernel
theorem dX8_can_43 : decode cX8_can 43 = .ok (.ireturn, 1) := by decide +kernel
theorem dX8_fraction_0 : decode cX8_fraction 0 = .ok (.lload_n 0, 1) := by decide +kernel
theorem dX8_fraction_1 : decode cX8_fraction 1 = .ok (.lstore 5, 2) := by decide +kernel
theorem dX8_fraction_3 : decode cX8_fraction 3 = .ok (.lload_n 2, 1) := by decide +kernel
theorem dX8_fraction_4 : decode cX8_fraction 4 = .ok (.lstore 7, 2) := by decide +kernel
theorem dX8_fraction_6 : decode cX8_fraction 6 = .ok (.lload 7, 2) := by decide +kernel
theorem dX8_fraction_8 : decode cX8_fraction 8 = .ok (.lconst 0, 1) := by decide +kernel
theorem dX8_fraction_9 : decode cX8_fraction 9 = .ok (.lcmp, 1) := by decide +kernel
theorem dX8_fraction_10 : decode cX8_fraction 10 = .ok (.ifCond .eq 21, 3) := by decide +kernel
theorem dX8_fraction_13 : decode cX8_fraction 13 = .ok (.lload 5, 2) := by decide +kernel
theorem dX8_fraction_15 : decode cX8_fraction 15 = .ok (.lload 7, 2) := by decide +kernel
theorem dX8_fraction_17 : decode cX8_fraction 17 = .ok (.lrem, 1) := by decide +kernel
theorem dX8_fraction_18 : decode cX8_fraction 18 = .ok (.lstore 9, 2) := by decide +kernel
theorem dX8_fraction_20 : decode cX8_fraction 20 = .ok (.lload 7, 2) := by decide +kernel
theorem dX8_fraction_22 : decode cX8_fraction 22 = .ok (.lstore 5, 2) := by decide +kernel
theorem dX8_fraction_24 : decode cX8_fraction 24 = .ok (.lload 9, 2) := by decide +kernel
theorem dX8_fraction_26 : decode cX8_fraction 26 = .ok (.lstore 7, 2) := by decide +kernel
theorem dX8_fraction_28 : decode cX8_fraction 28 = .ok (.goto (-22), 3) := by decide +kernel
theorem dX8_fraction_31 : decode cX8_fraction 31 = .ok (.iload 4, 2) := by decide +kernel
theorem dX8_fraction_33 : decode cX8_fraction 33 = .ok (.ifCond .ne 10, 3) := by decide +kernel
theorem dX8_fraction_36 : decode cX8_fraction 36 = .ok (.lload_n 0, 1) := by decide +kernel
theorem dX8_fraction_37 : decode cX8_fraction 37 = .ok (.lload 5, 2) := by decide +kernel
theorem dX8_fraction_39 : decode cX8_fraction 39 = .ok (.ldiv, 1) := by decide +kernel
theorem dX8_fraction_40 : decode cX8_fraction 40 = .ok (.goto 7, 3) := by decide +kernel
theorem dX8_fraction_43 : decode cX8_fraction 43 = .ok (.lload_n 2, 1) := by decide +kernel
theorem dX8_fraction_44 : decode cX8_fraction 44 = .ok (.lload 5, 2) := by decide +kernel
theorem dX8_fraction_46 : decode cX8_fraction 46 = .ok (.ldiv, 1) := by decide +kernel
theorem dX8_fraction_47 : decode cX8_fraction 47 = .ok (.lreturn, 1) := by decide +kernel
set_option maxRecDepth 20000 in
theorem ggX8_odds_X8_isLeaf : GoodIn wsX8_odds wsX8_isLeaf := goodIn_r _ [7, 1, 8, 9, 6, 10, 158, 159, 160, 161, 162, 163, 164, 165, 166, 167, 168, 169, 170, 171, 172, 173, 174, 175, 176, 177, 178, 179, 180, 181, 182, 183, 184, 185, 186] rfl (by decide +kernel)
set_option maxRecDepth 20000 in
theorem gX8_odds_X8_isLeaf : GoodIn wsX8_odds (wsV RX8 109 RX8 yX8_isLeaf wsX8_isLeaf) := goodIn_app (goodIn_of _ (by decide +kernel)) ggX8_odds_X8_isLeaf
set_option maxRecDepth 20000 in
theorem ggX8_odds_X8_isIn : GoodIn wsX8_odds wsX8_isIn := goodIn_r _ [10] rfl (by decide +kernel)
set_option maxRecDepth 20000 in
theorem gX8_odds_X8_isIn : GoodIn wsX8_odds (va_wsS RX8 79 yX8_isIn wsX8_isIn) := goodIn_app (goodIn_of _ (by decide +kernel)) ggX8_odds_X8_isIn
set_option maxRecDepth 20000 in
theorem ggX8_odds_X8_holder : GoodIn wsX8_odds wsX8_holder := goodIn_r _ [14, 1, 158, 159, 160, 161, 162, 163, 164, 165, 166, 167, 168, 169, 170, 171, 172, 173, 174, 175, 176, 177, 178, 179, 180, 181, 182, 183, 184, 185, 186] rfl (by decide +kernel)
set_option maxRecDepth 20000 in
theorem gX8_odds_X8_holder : GoodIn wsX8_odds (wsV RX8 87 RX8 yX8_holder wsX8_holder) := goodIn_app (goodIn_of _ (by decide +kernel)) ggX8_odds_X8_holder
set_option maxRecDepth 20000 in
theorem ggX8_odds_X8_holds : GoodIn wsX8_odds wsX8_holds := goodIn_r _ [18, 1, 158, 159, 160, 161, 162, 163, 164, 165, 166, 167, 168, 169, 170, 171, 172, 173, 174, 175, 176, 177, 178, 179, 180, 181, 182, 183, 184, 185, 186] rfl (by decide +kernel)
set_option maxRecDepth 20000 in
theorem gX8_odds_X8_holds : GoodIn wsX8_odds (wsV RX8 105 RX8 yX8_holds wsX8_holds) := goodIn_app (goodIn_of _ (by decide +kernel)) ggX8_odds_X8_holds
set_option maxRecDepth 20000 in
theorem ggX8_odds_X8_on : GoodIn wsX8_odds wsX8_on := goodIn_r _ [22, 1, 23, 8, 9, 6, 10, 24, 25, 26, 27, 28, 29, 30, 31, 32, 33, 34, 35, 36, 37, 38, 39, 40, 41, 42, 43, 44, 45, 46, 47, 48, 49, 50, 51, 52, 53, 54, 55, 56, 57, 58, 59, 60, 61, 62, 63, 64, 65, 66, 67, 68, 69, 70, 71, 72, 73, 11, 12, 13, 14, 74, 75, 76, 77, 78, 79, 80, 81, 82, 83, 84, 85, 86, 87, 88, 89, 90, 91, 92, 93, 94, 95, 96, 97, 98, 99, 100, 101, 102, 103, 104, 105, 106, 107, 108, 109, 110, 111, 112, 113, 114, 115, 116, 117, 118, 119, 120, 121, 122, 123, 124, 125, 126, 127, 128, 129, 130, 131, 132, 133, 134, 135, 136, 137, 138, 139, 140, 141, 142, 143, 144, 145, 146, 15, 16, 17, 18, 147, 148, 149, 150, 151, 152, 153, 154, 158, 159, 160, 161, 162, 163, 164, 165, 166, 167, 168, 169, 170, 171, 172, 173, 174, 175, 176, 177, 178, 179, 180, 181, 182, 183, 184, 185, 186] rfl (by decide +kernel)
set_option maxRecDepth 20000 in
theorem gX8_odds_X8_on : GoodIn wsX8_odds (wsV RX8 230 RX8 yX8_on wsX8_on) := goodIn_app (goodIn_of _ (by decide +kernel)) ggX8_odds_X8_on
set_option maxRecDepth 20000 in
theorem ggX8_odds_X8_fraction : GoodIn wsX8_odds wsX8_fraction := goodIn_r _ [157] rfl (by decide +kernel)
set_option maxRecDepth 20000 in
theorem gX8_odds_X8_fraction : GoodIn wsX8_odds (va_wsS RX8 250 yX8_fraction wsX8_fraction) := goodIn_app (goodIn_of _ (by decide +kernel)) ggX8_odds_X8_fraction
theorem dX8_odds_0 : decode cX8_odds 0 = .ok (.aload_n 0, 1) := by decide +kernel
theorem dX8_odds_1 : decode cX8_odds 1 = .ok (.iload_n 1, 1) := by decide +kernel
theorem dX8_odds_2 : decode cX8_odds 2 = .ok (.invokevirtual 109, 3) := by decide +kernel
theorem dX8_odds_5 : decode cX8_odds 5 = .ok (.ifCond .eq 33, 3) := by decide +kernel
theorem dX8_odds_8 : decode cX8_odds 8 = .ok (.iload_n 2, 1) := by decide +kernel
theorem dX8_odds_9 : decode cX8_odds 9 = .ok (.iconst 0, 1) := by decide +kernel
theorem dX8_odds_10 : decode cX8_odds 10 = .ok (.bipush 20, 2) := by decide +kernel
theorem dX8_odds_12 : decode cX8_odds 12 = .ok (.invokestatic 79, 3) := by decide +kernel
theorem dX8_odds_15 : decode cX8_odds 15 = .ok (.ifCond .eq 23, 3) := by decide +kernel
theorem dX8_odds_18 : decode cX8_odds 18 = .ok (.iload_n 3, 1) := by decide +kernel
theorem dX8_odds_19 : decode cX8_odds 19 = .ok (.iconst 0, 1) := by decide +kernel
theorem dX8_odds_20 : decode cX8_odds 20 = .ok (.iconst 1, 1) := by decide +kernel
theorem dX8_odds_21 : decode cX8_odds 21 = .ok (.invokestatic 79, 3) := by decide +kernel
theorem dX8_odds_24 : decode cX8_odds 24 = .ok (.ifCond .eq 14, 3) := by decide +kernel
theorem dX8_odds_27 : decode cX8_odds 27 = .ok (.aload_n 0, 1) := by decide +kernel
theorem dX8_odds_28 : decode cX8_odds 28 = .ok (.getfield 9, 3) := by decide +kernel
theorem dX8_odds_31 : decode cX8_odds 31 = .ok (.bipush 54, 2) := by decide +kernel
theorem dX8_odds_33 : decode cX8_odds 33 = .ok (.iaload, 1) := by decide +kernel
theorem dX8_odds_34 : decode cX8_odds 34 = .ok (.iconst 2, 1) := by decide +kernel
theorem dX8_odds_35 : decode cX8_odds 35 = .ok (.if_icmp .ge 7, 3) := by decide +kernel
theorem dX8_odds_38 : decode cX8_odds 38 = .ok (.ldc2_w 248, 3) := by decide +kernel
theorem dX8_odds_41 : decode cX8_odds 41 = .ok (.lreturn, 1) := by decide +kernel
theorem dX8_odds_42 : decode cX8_odds 42 = .ok (.aload_n 0, 1) := by decide +kernel
theorem dX8_odds_43 : decode cX8_odds 43 = .ok (.iload_n 1, 1) := by decide +kernel
theorem dX8_odds_44 : decode cX8_odds 44 = .ok (.iconst 1, 1) := by decide +kernel
theorem dX8_odds_45 : decode cX8_odds 45 = .ok (.invokevirtual 87, 3) := by decide +kernel
theorem dX8_odds_48 : decode cX8_odds 48 = .ok (.istore 4, 2) := by decide +kernel
theorem dX8_odds_50 : decode cX8_odds 50 = .ok (.aload_n 0, 1) := by decide +kernel
theorem dX8_odds_51 : decode cX8_odds 51 = .ok (.iload_n 1, 1) := by decide +kernel
theorem dX8_odds_52 : decode cX8_odds 52 = .ok (.iconst 2, 1) := by decide +kernel
theorem dX8_odds_53 : decode cX8_odds 53 = .ok (.invokevirtual 87, 3) := by decide +kernel
theorem dX8_odds_56 : decode cX8_odds 56 = .ok (.istore 5, 2) := by decide +kernel
theorem dX8_odds_58 : decode cX8_odds 58 = .ok (.iconst 0, 1) := by decide +kernel
theorem dX8_odds_59 : decode cX8_odds 59 = .ok (.istore 6, 2) := by decide +kernel
theorem dX8_odds_61 : decode cX8_odds 61 = .ok (.iconst 0, 1) := by decide +kernel
theorem dX8_odds_62 : decode cX8_odds 62 = .ok (.istore 7, 2) := by decide +kernel
theorem dX8_odds_64 : decode cX8_odds 64 = .ok (.iconst 0, 1) := by decide +kernel
theorem dX8_odds_65 : decode cX8_odds 65 = .ok (.istore 8, 2) := by decide +kernel
theorem dX8_odds_67 : decode cX8_odds 67 = .ok (.iload 8, 2) := by decide +kernel
theorem dX8_odds_69 : decode cX8_odds 69 = .ok (.aload_n 0, 1) := by decide +kernel
theorem dX8_odds_70 : decode cX8_odds 70 = .ok (.getfield 9, 3) := by decide +kernel
theorem dX8_odds_73 : decode cX8_odds 73 = .ok (.bipush 54, 2) := by decide +kernel
theorem dX8_odds_75 : decode cX8_odds 75 = .ok (.iaload, 1) := by decide +kernel
theorem dX8_odds_76 : decode cX8_odds 76 = .ok (.if_icmp .ge 60, 3) := by decide +kernel
theorem dX8_odds_79 : decode cX8_odds 79 = .ok (.iload 8, 2) := by decide +kernel
theorem dX8_odds_81 : decode cX8_odds 81 = .ok (.iconst 1, 1) := by decide +kernel
theorem dX8_odds_82 : decode cX8_odds 82 = .ok (.iadd, 1) := by decide +kernel
theorem dX8_odds_83 : decode cX8_odds 83 = .ok (.istore 9, 2) := by decide +kernel
theorem dX8_odds_85 : decode cX8_odds 85 = .ok (.iload 9, 2) := by decide +kernel
theorem dX8_odds_87 : decode cX8_odds 87 = .ok (.aload_n 0, 1) := by decide +kernel
theorem dX8_odds_88 : decode cX8_odds 88 = .ok (.getfield 9, 3) := by decide +kernel
theorem dX8_odds_91 : decode cX8_odds 91 = .ok (.bipush 54, 2) := by decide +kernel
theorem dX8_odds_93 : decode cX8_odds 93 = .ok (.iaload, 1) := by decide +kernel
theorem dX8_odds_94 : decode cX8_odds 94 = .ok (.if_icmp .ge 36, 3) := by decide +kernel
theorem dX8_odds_97 : decode cX8_odds 97 = .ok (.aload_n 0, 1) := by decide +kernel
theorem dX8_odds_98 : decode cX8_odds 98 = .ok (.iload_n 1, 1) := by decide +kernel
theorem dX8_odds_99 : decode cX8_odds 99 = .ok (.iload 8, 2) := by decide +kernel
theorem dX8_odds_101 : decode cX8_odds 101 = .ok (.iload 9, 2) := by decide +kernel
theorem dX8_odds_103 : decode cX8_odds 103 = .ok (.invokevirtual 105, 3) := by decide +kernel
theorem dX8_odds_106 : decode cX8_odds 106 = .ok (.iinc 6 1, 3) := by decide +kernel
theorem dX8_odds_109 : decode cX8_odds 109 = .ok (.iload 7, 2) := by decide +kernel
theorem dX8_odds_111 : decode cX8_odds 111 = .ok (.aload_n 0, 1) := by decide +kernel
theorem dX8_odds_112 : decode cX8_odds 112 = .ok (.iload_n 2, 1) := by decide +kernel
theorem dX8_odds_113 : decode cX8_odds 113 = .ok (.iconst 2, 1) := by decide +kernel
theorem dX8_odds_114 : decode cX8_odds 114 = .ok (.invokevirtual 230, 3) := by decide +kernel
theorem dX8_odds_117 : decode cX8_odds 117 = .ok (.iload_n 1, 1) := by decide +kernel
theorem dX8_odds_118 : decode cX8_odds 118 = .ok (.ishr, 1) := by decide +kernel
theorem dX8_odds_119 : decode cX8_odds 119 = .ok (.iconst 1, 1) := by decide +kernel
theorem dX8_odds_120 : decode cX8_odds 120 = .ok (.iand, 1) := by decide +kernel
theorem dX8_odds_121 : decode cX8_odds 121 = .ok (.iadd, 1) := by decide +kernel
theorem dX8_odds_122 : decode cX8_odds 122 = .ok (.istore 7, 2) := by decide +kernel
theorem dX8_odds_124 : decode cX8_odds 124 = .ok (.iinc 9 1, 3) := by decide +kernel
theorem dX8_odds_127 : decode cX8_odds 127 = .ok (.goto (-42), 3) := by decide +kernel
theorem dX8_odds_130 : decode cX8_odds 130 = .ok (.iinc 8 1, 3) := by decide +kernel
theorem dX8_odds_133 : decode cX8_odds 133 = .ok (.goto (-66), 3) := by decide +kernel
theorem dX8_odds_136 : decode cX8_odds 136 = .ok (.aload_n 0, 1) := by decide +kernel
theorem dX8_odds_137 : decode cX8_odds 137 = .ok (.iload_n 1, 1) := by decide +kernel
theorem dX8_odds_138 : decode cX8_odds 138 = .ok (.iload 4, 2) := by decide +kernel
theorem dX8_odds_140 : decode cX8_odds 140 = .ok (.iload 5, 2) := by decide +kernel
theorem dX8_odds_142 : decode cX8_odds 142 = .ok (.invokevirtual 105, 3) := by decide +kernel
theorem dX8_odds_145 : decode cX8_odds 145 = .ok (.iload 7, 2) := by decide +kernel
theorem dX8_odds_147 : decode cX8_odds 147 = .ok (.i2l, 1) := by decide +kernel
theorem dX8_odds_148 : decode cX8_odds 148 = .ok (.iload 6, 2) := by decide +kernel
theorem dX8_odds_150 : decode cX8_odds 150 = .ok (.i2l, 1) := by decide +kernel
theorem dX8_odds_151 : decode cX8_odds 151 = .ok (.iload_n 3, 1) := by decide +kernel
theorem dX8_odds_152 : decode cX8_odds 152 = .ok (.invokestatic 250, 3) := by decide +kernel
theorem dX8_odds_155 : decode cX8_odds 155 = .ok (.lreturn, 1) := by decide +kernel
set_option maxRecDepth 20000 in
theorem ggX8_mean_X8_isIn : GoodIn wsX8_mean wsX8_isIn := goodIn_r _ [7] rfl (by decide +kernel)
set_option maxRecDepth 20000 in
theorem gX8_mean_X8_isIn : GoodIn wsX8_mean (va_wsS RX8 79 yX8_isIn wsX8_isIn) := goodIn_app (goodIn_of _ (by decide +kernel)) ggX8_mean_X8_isIn
set_option maxRecDepth 20000 in
theorem ggX8_mean_X8_move : GoodIn wsX8_mean wsX8_move := goodIn_r _ [10] rfl (by decide +kernel)
set_option maxRecDepth 20000 in
theorem gX8_mean_X8_move : GoodIn wsX8_mean (va_wsS RX8 75 yX8_move wsX8_move) := goodIn_app (goodIn_of _ (by decide +kernel)) ggX8_mean_X8_move
set_option maxRecDepth 20000 in
theorem ggX8_mean_X8_steps : GoodIn wsX8_mean wsX8_steps := goodIn_r _ [14, 15, 16, 17, 6, 18, 1, 19, 20, 21, 22, 23, 24, 25, 26, 27, 28, 29, 30, 31, 32, 33, 34, 35, 36, 37, 38, 39, 40, 41, 42, 43, 44, 45, 46, 47, 48, 49, 50, 51, 52, 53, 54, 55, 56, 57, 58, 59, 60, 61, 62, 63, 64, 65, 66, 67, 68, 69, 70, 71, 72, 73, 74, 75, 76, 77, 78, 79, 80, 81, 82, 83, 84, 85, 86, 87, 88, 89, 90, 91, 92, 93, 94, 95, 96, 97, 98, 99, 100, 101, 102, 103, 104, 105, 106, 107, 108, 109, 110, 111, 112, 113, 114, 115, 116, 117, 118, 119, 120, 121, 122, 123, 124, 125, 126, 127, 128, 129, 130, 131, 132, 133, 134, 142, 143, 144, 145, 146, 147, 148, 149, 150, 151, 152, 153, 154, 155, 156, 157, 158, 159, 160, 161, 162, 163, 164, 165, 166, 167, 168, 169, 170] rfl (by decide +kernel)
set_option maxRecDepth 20000 in
theorem gX8_mean_X8_steps : GoodIn wsX8_mean (wsV RX8 227 RX8 yX8_steps wsX8_steps) := goodIn_app (goodIn_of _ (by decide +kernel)) ggX8_mean_X8_steps
set_option maxRecDepth 20000 in
theorem ggX8_mean_X8_spots : GoodIn wsX8_mean wsX8_spots := goodIn_r _ [138, 1, 42, 43, 44, 6, 45, 142, 143, 144, 145, 146, 147, 148, 149, 150, 151, 152, 153, 154, 155, 156, 157, 158, 159, 160, 161, 162, 163, 164, 165, 166, 167, 168, 169, 170] rfl (by decide +kernel)
set_option maxRecDepth 20000 in
theorem gX8_mean_X8_spots : GoodIn wsX8_mean (wsV RX8 254 RX8 yX8_spots wsX8_spots) := goodIn_app (goodIn_of _ (by decide +kernel)) ggX8_mean_X8_spots
set_option maxRecDepth 20000 in
theorem ggX8_mean_X8_fraction : GoodIn wsX8_mean wsX8_fraction := goodIn_r _ [141] rfl (by decide +kernel)
set_option maxRecDepth 20000 in
theorem gX8_mean_X8_fraction : GoodIn wsX8_mean (va_wsS RX8 250 yX8_fraction wsX8_fraction) := goodIn_app (goodIn_of _ (by decide +kernel)) ggX8_mean_X8_fraction
theorem dX8_mean_0 : decode cX8_mean 0 = .ok (.iload_n 1, 1) := by decide +kernel
theorem dX8_mean_1 : decode cX8_mean 1 = .ok (.iconst 0, 1) := by decide +kernel
theorem dX8_mean_2 : decode cX8_mean 2 = .ok (.bipush 60, 2) := by decide +kernel
theorem dX8_mean_4 : decode cX8_mean 4 = .ok (.invokestatic 79, 3) := by decide +kernel
theorem dX8_mean_7 : decode cX8_mean 7 = .ok (.ifCond .eq 22, 3) := by decide +kernel
theorem dX8_mean_10 : decode cX8_mean 10 = .ok (.iload_n 2, 1) := by decide +kernel
theorem dX8_mean_11 : decode cX8_mean 11 = .ok (.iconst 0, 1) := by decide +kernel
theorem dX8_mean_12 : decode cX8_mean 12 = .ok (.iconst 1, 1) := by decide +kernel
theorem dX8_mean_13 : decode cX8_mean 13 = .ok (.invokestatic 79, 3) := by decide +kernel
theorem dX8_mean_16 : decode cX8_mean 16 = .ok (.ifCond .eq 13, 3) := by decide +kernel
theorem dX8_mean_19 : decode cX8_mean 19 = .ok (.aload_n 0, 1) := by decide +kernel
theorem dX8_mean_20 : decode cX8_mean 20 = .ok (.getfield 9, 3) := by decide +kernel
theorem dX8_mean_23 : decode cX8_mean 23 = .ok (.bipush 54, 2) := by decide +kernel
theorem dX8_mean_25 : decode cX8_mean 25 = .ok (.iaload, 1) := by decide +kernel
theorem dX8_mean_26 : decode cX8_mean 26 = .ok (.ifCond .ne 7, 3) := by decide +kernel
theorem dX8_mean_29 : decode cX8_mean 29 = .ok (.ldc2_w 248, 3) := by decide +kernel
theorem dX8_mean_32 : decode cX8_mean 32 = .ok (.lreturn, 1) := by decide +kernel
theorem dX8_mean_33 : decode cX8_mean 33 = .ok (.aload_n 0, 1) := by decide +kernel
theorem dX8_mean_34 : decode cX8_mean 34 = .ok (.getfield 9, 3) := by decide +kernel
theorem dX8_mean_37 : decode cX8_mean 37 = .ok (.aload_n 0, 1) := by decide +kernel
theorem dX8_mean_38 : decode cX8_mean 38 = .ok (.getfield 15, 3) := by decide +kernel
theorem dX8_mean_41 : decode cX8_mean 41 = .ok (.invokestatic 75, 3) := by decide +kernel
theorem dX8_mean_44 : decode cX8_mean 44 = .ok (.aload_n 0, 1) := by decide +kernel
theorem dX8_mean_45 : decode cX8_mean 45 = .ok (.iload_n 1, 1) := by decide +kernel
theorem dX8_mean_46 : decode cX8_mean 46 = .ok (.invokevirtual 227, 3) := by decide +kernel
theorem dX8_mean_49 : decode cX8_mean 49 = .ok (.aload_n 0, 1) := by decide +kernel
theorem dX8_mean_50 : decode cX8_mean 50 = .ok (.invokevirtual 254, 3) := by decide +kernel
theorem dX8_mean_53 : decode cX8_mean 53 = .ok (.istore_n 3, 1) := by decide +kernel
theorem dX8_mean_54 : decode cX8_mean 54 = .ok (.aload_n 0, 1) := by decide +kernel
theorem dX8_mean_55 : decode cX8_mean 55 = .ok (.getfield 15, 3) := by decide +kernel
theorem dX8_mean_58 : decode cX8_mean 58 = .ok (.aload_n 0, 1) := by decide +kernel
theorem dX8_mean_59 : decode cX8_mean 59 = .ok (.getfield 9, 3) := by decide +kernel
theorem dX8_mean_62 : decode cX8_mean 62 = .ok (.invokestatic 75, 3) := by decide +kernel
theorem dX8_mean_65 : decode cX8_mean 65 = .ok (.iload_n 3, 1) := by decide +kernel
theorem dX8_mean_66 : decode cX8_mean 66 = .ok (.i2l, 1) := by decide +kernel
theorem dX8_mean_67 : decode cX8_mean 67 = .ok (.aload_n 0, 1) := by decide +kernel
theorem dX8_mean_68 : decode cX8_mean 68 = .ok (.getfield 9, 3) := by decide +kernel
theorem dX8_mean_71 : decode cX8_mean 71 = .ok (.bipush 54, 2) := by decide +kernel
theorem dX8_mean_73 : decode cX8_mean 73 = .ok (.iaload, 1) := by decide +kernel
theorem dX8_mean_74 : decode cX8_mean 74 = .ok (.i2l, 1) := by decide +kernel
theorem dX8_mean_75 : decode cX8_mean 75 = .ok (.iload_n 2, 1) := by decide +kernel
theorem dX8_mean_76 : decode cX8_mean 76 = .ok (.invokestatic 250, 3) := by decide +kernel
theorem dX8_mean_79 : decode cX8_mean 79 = .ok (.lreturn, 1) := by decide +kernel
set_option maxRecDepth 20000 in
theorem ggX8_spots_X8_number : GoodIn wsX8_spots wsX8_number := goodIn_r _ [6, 1, 7, 8, 9, 10, 11, 12, 13, 14, 15, 16, 17, 18, 19, 20, 21, 22, 23, 24, 25, 26, 27, 28, 29, 30, 31, 32, 33, 34, 35] rfl (by decide +kernel)
set_option maxRecDepth 20000 in
theorem gX8_spots_X8_number : GoodIn wsX8_spots (wsV RX8 83 RX8 yX8_number wsX8_number) := goodIn_app (goodIn_of _ (by decide +kernel)) ggX8_spots_X8_number
theorem dX8_spots_0 : decode cX8_spots 0 = .ok (.iconst 0, 1) := by decide +kernel
theorem dX8_spots_1 : decode cX8_spots 1 = .ok (.istore_n 1, 1) := by decide +kernel
theorem dX8_spots_2 : decode cX8_spots 2 = .ok (.iconst 0, 1) := by decide +kernel
theorem dX8_spots_3 : decode cX8_spots 3 = .ok (.istore_n 2, 1) := by decide +kernel
theorem dX8_spots_4 : decode cX8_spots 4 = .ok (.iload_n 2, 1) := by decide +kernel
theorem dX8_spots_5 : decode cX8_spots 5 = .ok (.aload_n 0, 1) := by decide +kernel
theorem dX8_spots_6 : decode cX8_spots 6 = .ok (.getfield 9, 3) := by decide +kernel
theorem dX8_spots_9 : decode cX8_spots 9 = .ok (.bipush 54, 2) := by decide +kernel
theorem dX8_spots_11 : decode cX8_spots 11 = .ok (.iaload, 1) := by decide +kernel
theorem dX8_spots_12 : decode cX8_spots 12 = .ok (.if_icmp .ge 18, 3) := by decide +kernel
theorem dX8_spots_15 : decode cX8_spots 15 = .ok (.iload_n 1, 1) := by decide +kernel
theorem dX8_spots_16 : decode cX8_spots 16 = .ok (.aload_n 0, 1) := by decide +kernel
theorem dX8_spots_17 : decode cX8_spots 17 = .ok (.iload_n 2, 1) := by decide +kernel
theorem dX8_spots_18 : decode cX8_spots 18 = .ok (.iconst 2, 1) := by decide +kernel
theorem dX8_spots_19 : decode cX8_spots 19 = .ok (.invokevirtual 83, 3) := by decide +kernel
theorem dX8_spots_22 : decode cX8_spots 22 = .ok (.iadd, 1) := by decide +kernel
theorem dX8_spots_23 : decode cX8_spots 23 = .ok (.istore_n 1, 1) := by decide +kernel
theorem dX8_spots_24 : decode cX8_spots 24 = .ok (.iinc 2 1, 3) := by decide +kernel
theorem dX8_spots_27 : decode cX8_spots 27 = .ok (.goto (-23), 3) := by decide +kernel
theorem dX8_spots_30 : decode cX8_spots 30 = .ok (.iload_n 1, 1) := by decide +kernel
theorem dX8_spots_31 : decode cX8_spots 31 = .ok (.ireturn, 1) := by decide +kernel
set_option maxRecDepth 20000 in
theorem ggX8_plan_X8_isLeaf : GoodIn wsX8_plan wsX8_isLeaf := goodIn_r _ [6, 1, 7, 8, 5, 9, 14, 15, 16, 17, 18, 19, 20, 21, 22, 23, 24, 25, 26, 27, 28, 29, 30, 31, 32, 33, 34, 35, 36, 37, 38, 39, 40, 41, 42] rfl (by decide +kernel)
set_option maxRecDepth 20000 in
theorem gX8_plan_X8_isLeaf : GoodIn wsX8_plan (wsV RX8 109 RX8 yX8_isLeaf wsX8_isLeaf) := goodIn_app (goodIn_of _ (by decide +kernel)) ggX8_plan_X8_isLeaf
set_option maxRecDepth 20000 in
theorem ggX8_plan_X8_isOne : GoodIn wsX8_plan wsX8_isOne := goodIn_r _ [13, 1, 7, 8, 5, 9, 14, 15, 16, 17, 18, 19, 20, 21, 22, 23, 24, 25, 26, 27, 28, 29, 30, 31, 32, 33, 34, 35, 36, 37, 38, 39, 40, 41, 42] rfl (by decide +kernel)
set_option maxRecDepth 20000 in
theorem gX8_plan_X8_isOne : GoodIn wsX8_plan (wsV RX8 94 RX8 yX8_isOne wsX8_isOne) := goodIn_app (goodIn_of _ (by decide +kernel)) ggX8_plan_X8_isOne
theorem dX8_plan_0 : decode cX8_plan 0 = .ok (.iload_n 1, 1) := by decide +kernel
theorem dX8_plan_1 : decode cX8_plan 1 = .ok (.iconst (-1), 1) := by decide +kernel
theorem dX8_plan_2 : decode cX8_plan 2 = .ok (.if_icmp .ne 13, 3) := by decide +kernel
theorem dX8_plan_5 : decode cX8_plan 5 = .ok (.aload_n 0, 1) := by decide +kernel
theorem dX8_plan_6 : decode cX8_plan 6 = .ok (.getfield 9, 3) := by decide +kernel
theorem dX8_plan_9 : decode cX8_plan 9 = .ok (.bipush 75, 2) := by decide +kernel
theorem dX8_plan_11 : decode cX8_plan 11 = .ok (.iconst 0, 1) := by decide +kernel
theorem dX8_plan_12 : decode cX8_plan 12 = .ok (.iastore, 1) := by decide +kernel
theorem dX8_plan_13 : decode cX8_plan 13 = .ok (.iconst 0, 1) := by decide +kernel
theorem dX8_plan_14 : decode cX8_plan 14 = .ok (.ireturn, 1) := by decide +kernel
theorem dX8_plan_15 : decode cX8_plan 15 = .ok (.iload_n 1, 1) := by decide +kernel
theorem dX8_plan_16 : decode cX8_plan 16 = .ok (.ifCond .eq 34, 3) := by decide +kernel
theorem dX8_plan_19 : decode cX8_plan 19 = .ok (.iload_n 1, 1) := by decide +kernel
theorem dX8_plan_20 : decode cX8_plan 20 = .ok (.iconst 1, 1) := by decide +kernel
theorem dX8_plan_21 : decode cX8_plan 21 = .ok (.if_icmp .eq 8, 3) := by decide +kernel
theorem dX8_plan_24 : decode cX8_plan 24 = .ok (.iload_n 1, 1) := by decide +kernel
theorem dX8_plan_25 : decode cX8_plan 25 = .ok (.iconst 2, 1) := by decide +kernel
theorem dX8_plan_26 : decode cX8_plan 26 = .ok (.if_icmp .ne 11, 3) := by decide +kernel
theorem dX8_plan_29 : decode cX8_plan 29 = .ok (.aload_n 0, 1) := by decide +kernel
theorem dX8_plan_30 : decode cX8_plan 30 = .ok (.iload_n 2, 1) := by decide +kernel
theorem dX8_plan_31 : decode cX8_plan 31 = .ok (.invokevirtual 109, 3) := by decide +kernel
theorem dX8_plan_34 : decode cX8_plan 34 = .ok (.ifCond .ne 16, 3) := by decide +kernel
theorem dX8_plan_37 : decode cX8_plan 37 = .ok (.iload_n 1, 1) := by decide +kernel
theorem dX8_plan_38 : decode cX8_plan 38 = .ok (.iconst 3, 1) := by decide +kernel
theorem dX8_plan_39 : decode cX8_plan 39 = .ok (.if_icmp .ne 15, 3) := by decide +kernel
theorem dX8_plan_42 : decode cX8_plan 42 = .ok (.aload_n 0, 1) := by decide +kernel
theorem dX8_plan_43 : decode cX8_plan 43 = .ok (.iload_n 2, 1) := by decide +kernel
theorem dX8_plan_44 : decode cX8_plan 44 = .ok (.invokevirtual 94, 3) := by decide +kernel
theorem dX8_plan_47 : decode cX8_plan 47 = .ok (.ifCond .eq 7, 3) := by decide +kernel
theorem dX8_plan_50 : decode cX8_plan 50 = .ok (.iconst 1, 1) := by decide +kernel
theorem dX8_plan_51 : decode cX8_plan 51 = .ok (.goto 4, 3) := by decide +kernel
theorem dX8_plan_54 : decode cX8_plan 54 = .ok (.iconst 0, 1) := by decide +kernel
theorem dX8_plan_55 : decode cX8_plan 55 = .ok (.istore_n 3, 1) := by decide +kernel
theorem dX8_plan_56 : decode cX8_plan 56 = .ok (.iload_n 3, 1) := by decide +kernel
theorem dX8_plan_57 : decode cX8_plan 57 = .ok (.ifCond .ne 5, 3) := by decide +kernel
theorem dX8_plan_60 : decode cX8_plan 60 = .ok (.iconst (-1), 1) := by decide +kernel
theorem dX8_plan_61 : decode cX8_plan 61 = .ok (.ireturn, 1) := by decide +kernel
theorem dX8_plan_62 : decode cX8_plan 62 = .ok (.aload_n 0, 1) := by decide +kernel
theorem dX8_plan_63 : decode cX8_plan 63 = .ok (.getfield 9, 3) := by decide +kernel
theorem dX8_plan_66 : decode cX8_plan 66 = .ok (.bipush 75, 2) := by decide +kernel
theorem dX8_plan_68 : decode cX8_plan 68 = .ok (.iaload, 1) := by decide +kernel
theorem dX8_plan_69 : decode cX8_plan 69 = .ok (.bipush 10, 2) := by decide +kernel
theorem dX8_plan_71 : decode cX8_plan 71 = .ok (.if_icmp .ne 6, 3) := by decide +kernel
theorem dX8_plan_74 : decode cX8_plan 74 = .ok (.bipush (-4), 2) := by decide +kernel
theorem dX8_plan_76 : decode cX8_plan 76 = .ok (.ireturn, 1) := by decide +kernel
theorem dX8_plan_77 : decode cX8_plan 77 = .ok (.aload_n 0, 1) := by decide +kernel
theorem dX8_plan_78 : decode cX8_plan 78 = .ok (.getfield 9, 3) := by decide +kernel
theorem dX8_plan_81 : decode cX8_plan 81 = .ok (.bipush 76, 2) := by decide +kernel
theorem dX8_plan_83 : decode cX8_plan 83 = .ok (.iconst 2, 1) := by decide +kernel
theorem dX8_plan_84 : decode cX8_plan 84 = .ok (.aload_n 0, 1) := by decide +kernel
theorem dX8_plan_85 : decode cX8_plan 85 = .ok (.getfield 9, 3) := by decide +kernel
theorem dX8_plan_88 : decode cX8_plan 88 = .ok (.bipush 75, 2) := by decide +kernel
theorem dX8_plan_90 : decode cX8_plan 90 = .ok (.iaload, 1) := by decide +kernel
theorem dX8_plan_91 : decode cX8_plan 91 = .ok (.imul, 1) := by decide +kernel
theorem dX8_plan_92 : decode cX8_plan 92 = .ok (.iadd, 1) := by decide +kernel
theorem dX8_plan_93 : decode cX8_plan 93 = .ok (.iload_n 1, 1) := by decide +kernel
theorem dX8_plan_94 : decode cX8_plan 94 = .ok (.iastore, 1) := by decide +kernel
theorem dX8_plan_95 : decode cX8_plan 95 = .ok (.aload_n 0, 1) := by decide +kernel
theorem dX8_plan_96 : decode cX8_plan 96 = .ok (.getfield 9, 3) := by decide +kernel
theorem dX8_plan_99 : decode cX8_plan 99 = .ok (.bipush 77, 2) := by decide +kernel
theorem dX8_plan_101 : decode cX8_plan 101 = .ok (.iconst 2, 1) := by decide +kernel
theorem dX8_plan_102 : decode cX8_plan 102 = .ok (.aload_n 0, 1) := by decide +kernel
theorem dX8_plan_103 : decode cX8_plan 103 = .ok (.getfield 9, 3) := by decide +kernel
theorem dX8_plan_106 : decode cX8_plan 106 = .ok (.bipush 75, 2) := by decide +kernel
theorem dX8_plan_108 : decode cX8_plan 108 = .ok (.iaload, 1) := by decide +kernel
theorem dX8_plan_109 : decode cX8_plan 109 = .ok (.imul, 1) := by decide +kernel
theorem dX8_plan_110 : decode cX8_plan 110 = .ok (.iadd, 1) := by decide +kernel
theorem dX8_plan_111 : decode cX8_plan 111 = .ok (.iload_n 2, 1) := by decide +kernel
theorem dX8_plan_112 : decode cX8_plan 112 = .ok (.iastore, 1) := by decide +kernel
theorem dX8_plan_113 : decode cX8_plan 113 = .ok (.aload_n 0, 1) := by decide +kernel
theorem dX8_plan_114 : decode cX8_plan 114 = .ok (.getfield 9, 3) := by decide +kernel
theorem dX8_plan_117 : decode cX8_plan 117 = .ok (.bipush 75, 2) := by decide +kernel
theorem dX8_plan_119 : decode cX8_plan 119 = .ok (.dup2, 1) := by decide +kernel
theorem dX8_plan_120 : decode cX8_plan 120 = .ok (.iaload, 1) := by decide +kernel
theorem dX8_plan_121 : decode cX8_plan 121 = .ok (.iconst 1, 1) := by decide +kernel
theorem dX8_plan_122 : decode cX8_plan 122 = .ok (.iadd, 1) := by decide +kernel
theorem dX8_plan_123 : decode cX8_plan 123 = .ok (.iastore, 1) := by decide +kernel
theorem dX8_plan_124 : decode cX8_plan 124 = .ok (.aload_n 0, 1) := by decide +kernel
theorem dX8_plan_125 : decode cX8_plan 125 = .ok (.getfield 9, 3) := by decide +kernel
theorem dX8_plan_128 : decode cX8_plan 128 = .ok (.bipush 75, 2) := by decide +kernel
theorem dX8_plan_130 : decode cX8_plan 130 = .ok (.iaload, 1) := by decide +kernel
theorem dX8_plan_131 : decode cX8_plan 131 = .ok (.ireturn, 1) := by decide +kernel
set_option maxRecDepth 20000 in
theorem ggX8_ends_X8_isIn : GoodIn wsX8_ends wsX8_isIn := goodIn_r _ [6] rfl (by decide +kernel)
set_option maxRecDepth 20000 in
theorem gX8_ends_X8_isIn : GoodIn wsX8_ends (va_wsS RX8 79 yX8_isIn wsX8_isIn) := goodIn_app (goodIn_of _ (by decide +kernel)) ggX8_ends_X8_isIn
set_option maxRecDepth 20000 in
theorem ggX8_ends_X8_move : GoodIn wsX8_ends wsX8_move := goodIn_r _ [9] rfl (by decide +kernel)
set_option maxRecDepth 20000 in
theorem gX8_ends_X8_move : GoodIn wsX8_ends (va_wsS RX8 75 yX8_move wsX8_move) := goodIn_app (goodIn_of _ (by decide +kernel)) ggX8_ends_X8_move
set_option maxRecDepth 20000 in
theorem ggX8_ends_X8_step : GoodIn wsX8_ends wsX8_step := goodIn_r _ [13, 1, 14, 15, 16, 17, 18, 19, 20, 21, 22, 23, 24, 5, 25, 26, 27, 28, 29, 30, 31, 32, 33, 34, 35, 36, 37, 38, 39, 40, 41, 42, 43, 44, 45, 46, 47, 48, 49, 50, 51, 52, 53, 54, 55, 56, 57, 58, 59, 60, 61, 62, 63, 64, 65, 66, 67, 68, 69, 70, 71, 72, 73, 74, 75, 76, 77, 78, 79, 80, 81, 82, 83, 84, 85, 86, 87, 88, 89, 90, 91, 92, 93, 94, 95, 96, 97, 98, 99, 100, 101, 102, 103, 104, 105, 106, 107, 108, 109, 110, 111, 112, 113, 114, 115, 116, 117, 118, 119, 120, 121, 122, 123, 124, 125, 126, 127, 128, 129, 134, 135, 136, 137, 138, 139, 140, 141, 142, 143, 144, 145, 146, 147, 148, 149, 150, 151, 152, 153, 154, 155, 156, 157, 158, 159, 160, 161, 162] rfl (by decide +kernel)
set_option maxRecDepth 20000 in
theorem gX8_ends_X8_step : GoodIn wsX8_ends (wsV RX8 215 RX8 yX8_step wsX8_step) := goodIn_app (goodIn_of _ (by decide +kernel)) ggX8_ends_X8_step
set_option maxRecDepth 20000 in
theorem ggX8_ends_X8_holds : GoodIn wsX8_ends wsX8_holds := goodIn_r _ [129, 1, 134, 135, 136, 137, 138, 139, 140, 141, 142, 143, 144, 145, 146, 147, 148, 149, 150, 151, 152, 153, 154, 155, 156, 157, 158, 159, 160, 161, 162] rfl (by decide +kernel)
set_option maxRecDepth 20000 in
theorem gX8_ends_X8_holds : GoodIn wsX8_ends (wsV RX8 105 RX8 yX8_holds wsX8_holds) := goodIn_app (goodIn_of _ (by decide +kernel)) ggX8_ends_X8_holds
set_option maxRecDepth 20000 in
theorem ggX8_ends_X8_change : GoodIn wsX8_ends wsX8_change := goodIn_r _ [106, 1, 37, 38, 39, 5, 40, 134, 135, 136, 137, 138, 139, 140, 141, 142, 143, 144, 145, 146, 147, 148, 149, 150, 151, 152, 153, 154, 155, 156, 157, 158, 159, 160, 161, 162] rfl (by decide +kernel)
set_option maxRecDepth 20000 in
theorem gX8_ends_X8_change : GoodIn wsX8_ends (wsV RX8 90 RX8 yX8_change wsX8_change) := goodIn_app (goodIn_of _ (by decide +kernel)) ggX8_ends_X8_change
set_option maxRecDepth 20000 in
theorem ggX8_ends_X8_spots : GoodIn wsX8_ends wsX8_spots := goodIn_r _ [133, 1, 37, 38, 39, 5, 40, 134, 135, 136, 137, 138, 139, 140, 141, 142, 143, 144, 145, 146, 147, 148, 149, 150, 151, 152, 153, 154, 155, 156, 157, 158, 159, 160, 161, 162] rfl (by decide +kernel)
set_option maxRecDepth 20000 in
theorem gX8_ends_X8_spots : GoodIn wsX8_ends (wsV RX8 254 RX8 yX8_spots wsX8_spots) := goodIn_app (goodIn_of _ (by decide +kernel)) ggX8_ends_X8_spots
theorem dX8_ends_0 : decode cX8_ends 0 = .ok (.iload_n 1, 1) := by decide +kernel
theorem dX8_ends_1 : decode cX8_ends 1 = .ok (.iconst 0, 1) := by decide +kernel
theorem dX8_ends_2 : decode cX8_ends 2 = .ok (.iconst 1, 1) := by decide +kernel
theorem dX8_ends_3 : decode cX8_ends 3 = .ok (.invokestatic 79, 3) := by decide +kernel
theorem dX8_ends_6 : decode cX8_ends 6 = .ok (.ifCond .ne 5, 3) := by decide +kernel
theorem dX8_ends_9 : decode cX8_ends 9 = .ok (.iconst (-1), 1) := by decide +kernel
theorem dX8_ends_10 : decode cX8_ends 10 = .ok (.ireturn, 1) := by decide +kernel
theorem dX8_ends_11 : decode cX8_ends 11 = .ok (.aload_n 0, 1) := by decide +kernel
theorem dX8_ends_12 : decode cX8_ends 12 = .ok (.getfield 9, 3) := by decide +kernel
theorem dX8_ends_15 : decode cX8_ends 15 = .ok (.aload_n 0, 1) := by decide +kernel
theorem dX8_ends_16 : decode cX8_ends 16 = .ok (.getfield 15, 3) := by decide +kernel
theorem dX8_ends_19 : decode cX8_ends 19 = .ok (.invokestatic 75, 3) := by decide +kernel
theorem dX8_ends_22 : decode cX8_ends 22 = .ok (.iconst 0, 1) := by decide +kernel
theorem dX8_ends_23 : decode cX8_ends 23 = .ok (.istore_n 2, 1) := by decide +kernel
theorem dX8_ends_24 : decode cX8_ends 24 = .ok (.iload_n 2, 1) := by decide +kernel
theorem dX8_ends_25 : decode cX8_ends 25 = .ok (.aload_n 0, 1) := by decide +kernel
theorem dX8_ends_26 : decode cX8_ends 26 = .ok (.getfield 9, 3) := by decide +kernel
theorem dX8_ends_29 : decode cX8_ends 29 = .ok (.bipush 75, 2) := by decide +kernel
theorem dX8_ends_31 : decode cX8_ends 31 = .ok (.iaload, 1) := by decide +kernel
theorem dX8_ends_32 : decode cX8_ends 32 = .ok (.if_icmp .ge 92, 3) := by decide +kernel
theorem dX8_ends_35 : decode cX8_ends 35 = .ok (.aload_n 0, 1) := by decide +kernel
theorem dX8_ends_36 : decode cX8_ends 36 = .ok (.getfield 9, 3) := by decide +kernel
theorem dX8_ends_39 : decode cX8_ends 39 = .ok (.bipush 76, 2) := by decide +kernel
theorem dX8_ends_41 : decode cX8_ends 41 = .ok (.iconst 2, 1) := by decide +kernel
theorem dX8_ends_42 : decode cX8_ends 42 = .ok (.iload_n 2, 1) := by decide +kernel
theorem dX8_ends_43 : decode cX8_ends 43 = .ok (.imul, 1) := by decide +kernel
theorem dX8_ends_44 : decode cX8_ends 44 = .ok (.iadd, 1) := by decide +kernel
theorem dX8_ends_45 : decode cX8_ends 45 = .ok (.iaload, 1) := by decide +kernel
theorem dX8_ends_46 : decode cX8_ends 46 = .ok (.istore_n 3, 1) := by decide +kernel
theorem dX8_ends_47 : decode cX8_ends 47 = .ok (.aload_n 0, 1) := by decide +kernel
theorem dX8_ends_48 : decode cX8_ends 48 = .ok (.getfield 9, 3) := by decide +kernel
theorem dX8_ends_51 : decode cX8_ends 51 = .ok (.bipush 77, 2) := by decide +kernel
theorem dX8_ends_53 : decode cX8_ends 53 = .ok (.iconst 2, 1) := by decide +kernel
theorem dX8_ends_54 : decode cX8_ends 54 = .ok (.iload_n 2, 1) := by decide +kernel
theorem dX8_ends_55 : decode cX8_ends 55 = .ok (.imul, 1) := by decide +kernel
theorem dX8_ends_56 : decode cX8_ends 56 = .ok (.iadd, 1) := by decide +kernel
theorem dX8_ends_57 : decode cX8_ends 57 = .ok (.iaload, 1) := by decide +kernel
theorem dX8_ends_58 : decode cX8_ends 58 = .ok (.istore 4, 2) := by decide +kernel
theorem dX8_ends_60 : decode cX8_ends 60 = .ok (.iload_n 3, 1) := by decide +kernel
theorem dX8_ends_61 : decode cX8_ends 61 = .ok (.ifCond .ne 10, 3) := by decide +kernel
theorem dX8_ends_64 : decode cX8_ends 64 = .ok (.aload_n 0, 1) := by decide +kernel
theorem dX8_ends_65 : decode cX8_ends 65 = .ok (.invokevirtual 215, 3) := by decide +kernel
theorem dX8_ends_68 : decode cX8_ends 68 = .ok (.goto 50, 3) := by decide +kernel
theorem dX8_ends_71 : decode cX8_ends 71 = .ok (.iload_n 3, 1) := by decide +kernel
theorem dX8_ends_72 : decode cX8_ends 72 = .ok (.iconst 1, 1) := by decide +kernel
theorem dX8_ends_73 : decode cX8_ends 73 = .ok (.if_icmp .ne 14, 3) := by decide +kernel
theorem dX8_ends_76 : decode cX8_ends 76 = .ok (.aload_n 0, 1) := by decide +kernel
theorem dX8_ends_77 : decode cX8_ends 77 = .ok (.iload 4, 2) := by decide +kernel
theorem dX8_ends_79 : decode cX8_ends 79 = .ok (.iconst (-1), 1) := by decide +kernel
theorem dX8_ends_80 : decode cX8_ends 80 = .ok (.iconst (-1), 1) := by decide +kernel
theorem dX8_ends_81 : decode cX8_ends 81 = .ok (.invokevirtual 105, 3) := by decide +kernel
theorem dX8_ends_84 : decode cX8_ends 84 = .ok (.goto 34, 3) := by decide +kernel
theorem dX8_ends_87 : decode cX8_ends 87 = .ok (.iload_n 3, 1) := by decide +kernel
theorem dX8_ends_88 : decode cX8_ends 88 = .ok (.iconst 2, 1) := by decide +kernel
theorem dX8_ends_89 : decode cX8_ends 89 = .ok (.if_icmp .ne 20, 3) := by decide +kernel
theorem dX8_ends_92 : decode cX8_ends 92 = .ok (.aload_n 0, 1) := by decide +kernel
theorem dX8_ends_93 : decode cX8_ends 93 = .ok (.getfield 9, 3) := by decide +kernel
theorem dX8_ends_96 : decode cX8_ends 96 = .ok (.bipush 42, 2) := by decide +kernel
theorem dX8_ends_98 : decode cX8_ends 98 = .ok (.iconst 3, 1) := by decide +kernel
theorem dX8_ends_99 : decode cX8_ends 99 = .ok (.iload 4, 2) := by decide +kernel
theorem dX8_ends_101 : decode cX8_ends 101 = .ok (.imul, 1) := by decide +kernel
theorem dX8_ends_102 : decode cX8_ends 102 = .ok (.iadd, 1) := by decide +kernel
theorem dX8_ends_103 : decode cX8_ends 103 = .ok (.bipush 40, 2) := by decide +kernel
theorem dX8_ends_105 : decode cX8_ends 105 = .ok (.iastore, 1) := by decide +kernel
theorem dX8_ends_106 : decode cX8_ends 106 = .ok (.goto 12, 3) := by decide +kernel
theorem dX8_ends_109 : decode cX8_ends 109 = .ok (.aload_n 0, 1) := by decide +kernel
theorem dX8_ends_110 : decode cX8_ends 110 = .ok (.iload 4, 2) := by decide +kernel
theorem dX8_ends_112 : decode cX8_ends 112 = .ok (.iconst 2, 1) := by decide +kernel
theorem dX8_ends_113 : decode cX8_ends 113 = .ok (.iconst 0, 1) := by decide +kernel
theorem dX8_ends_114 : decode cX8_ends 114 = .ok (.invokevirtual 90, 3) := by decide +kernel
theorem dX8_ends_117 : decode cX8_ends 117 = .ok (.pop, 1) := by decide +kernel
theorem dX8_ends_118 : decode cX8_ends 118 = .ok (.iinc 2 1, 3) := by decide +kernel
theorem dX8_ends_121 : decode cX8_ends 121 = .ok (.goto (-97), 3) := by decide +kernel
theorem dX8_ends_124 : decode cX8_ends 124 = .ok (.iload_n 1, 1) := by decide +kernel
theorem dX8_ends_125 : decode cX8_ends 125 = .ok (.ifCond .ne 13, 3) := by decide +kernel
theorem dX8_ends_128 : decode cX8_ends 128 = .ok (.aload_n 0, 1) := by decide +kernel
theorem dX8_ends_129 : decode cX8_ends 129 = .ok (.getfield 9, 3) := by decide +kernel
theorem dX8_ends_132 : decode cX8_ends 132 = .ok (.bipush 56, 2) := by decide +kernel
theorem dX8_ends_134 : decode cX8_ends 134 = .ok (.iaload, 1) := by decide +kernel
theorem dX8_ends_135 : decode cX8_ends 135 = .ok (.goto 7, 3) := by decide +kernel
theorem dX8_ends_138 : decode cX8_ends 138 = .ok (.aload_n 0, 1) := by decide +kernel
theorem dX8_ends_139 : decode cX8_ends 139 = .ok (.invokevirtual 254, 3) := by decide +kernel
theorem dX8_ends_142 : decode cX8_ends 142 = .ok (.istore_n 2, 1) := by decide +kernel
theorem dX8_ends_143 : decode cX8_ends 143 = .ok (.aload_n 0, 1) := by decide +kernel
theorem dX8_ends_144 : decode cX8_ends 144 = .ok (.getfield 15, 3) := by decide +kernel
theorem dX8_ends_147 : decode cX8_ends 147 = .ok (.aload_n 0, 1) := by decide +kernel
theorem dX8_ends_148 : decode cX8_ends 148 = .ok (.getfield 9, 3) := by decide +kernel
theorem dX8_ends_151 : decode cX8_ends 151 = .ok (.invokestatic 75, 3) := by decide +kernel
theorem dX8_ends_154 : decode cX8_ends 154 = .ok (.iload_n 2, 1) := by decide +kernel
theorem dX8_ends_155 : decode cX8_ends 155 = .ok (.ireturn, 1) := by decide +kernel
set_option maxRecDepth 20000 in
theorem ggX8_book_X8_isOne : GoodIn wsX8_book wsX8_isOne := goodIn_r _ [6, 1, 7, 8, 5, 9, 10, 11, 12, 13, 14, 15, 16, 17, 18, 19, 20, 21, 22, 23, 24, 25, 26, 27, 28, 29, 30, 31, 32, 33, 34, 35, 36, 37, 38] rfl (by decide +kernel)
set_option maxRecDepth 20000 in
theorem gX8_book_X8_isOne : GoodIn wsX8_book (wsV RX8 94 RX8 yX8_isOne wsX8_isOne) := goodIn_app (goodIn_of _ (by decide +kernel)) ggX8_book_X8_isOne
set_option maxRecDepth 20000 in
theorem ggX8_book_X8_isIn : GoodIn wsX8_book wsX8_isIn := goodIn_r _ [9] rfl (by decide +kernel)
set_option maxRecDepth 20000 in
theorem gX8_book_X8_isIn : GoodIn wsX8_book (va_wsS RX8 79 yX8_isIn wsX8_isIn) := goodIn_app (goodIn_of _ (by decide +kernel)) ggX8_book_X8_isIn
theorem dX8_book_0 : decode cX8_book 0 = .ok (.iload_n 1, 1) := by decide +kernel
theorem dX8_book_1 : decode cX8_book 1 = .ok (.iconst (-1), 1) := by decide +kernel
theorem dX8_book_2 : decode cX8_book 2 = .ok (.if_icmp .ne 13, 3) := by decide +kernel
theorem dX8_book_5 : decode cX8_book 5 = .ok (.aload_n 0, 1) := by decide +kernel
theorem dX8_book_6 : decode cX8_book 6 = .ok (.getfield 9, 3) := by decide +kernel
theorem dX8_book_9 : decode cX8_book 9 = .ok (.bipush 96, 2) := by decide +kernel
theorem dX8_book_11 : decode cX8_book 11 = .ok (.iconst 0, 1) := by decide +kernel
theorem dX8_book_12 : decode cX8_book 12 = .ok (.iastore, 1) := by decide +kernel
theorem dX8_book_13 : decode cX8_book 13 = .ok (.iconst 0, 1) := by decide +kernel
theorem dX8_book_14 : decode cX8_book 14 = .ok (.ireturn, 1) := by decide +kernel
theorem dX8_book_15 : decode cX8_book 15 = .ok (.aload_n 0, 1) := by decide +kernel
theorem dX8_book_16 : decode cX8_book 16 = .ok (.iload_n 1, 1) := by decide +kernel
theorem dX8_book_17 : decode cX8_book 17 = .ok (.invokevirtual 94, 3) := by decide +kernel
theorem dX8_book_20 : decode cX8_book 20 = .ok (.ifCond .ne 5, 3) := by decide +kernel
theorem dX8_book_23 : decode cX8_book 23 = .ok (.iconst (-1), 1) := by decide +kernel
theorem dX8_book_24 : decode cX8_book 24 = .ok (.ireturn, 1) := by decide +kernel
theorem dX8_book_25 : decode cX8_book 25 = .ok (.iload_n 2, 1) := by decide +kernel
theorem dX8_book_26 : decode cX8_book 26 = .ok (.iconst 0, 1) := by decide +kernel
theorem dX8_book_27 : decode cX8_book 27 = .ok (.bipush 99, 2) := by decide +kernel
theorem dX8_book_29 : decode cX8_book 29 = .ok (.invokestatic 79, 3) := by decide +kernel
theorem dX8_book_32 : decode cX8_book 32 = .ok (.ifCond .ne 6, 3) := by decide +kernel
theorem dX8_book_35 : decode cX8_book 35 = .ok (.bipush (-2), 2) := by decide +kernel
theorem dX8_book_37 : decode cX8_book 37 = .ok (.ireturn, 1) := by decide +kernel
theorem dX8_book_38 : decode cX8_book 38 = .ok (.aload_n 0, 1) := by decide +kernel
theorem dX8_book_39 : decode cX8_book 39 = .ok (.getfield 9, 3) := by decide +kernel
theorem dX8_book_42 : decode cX8_book 42 = .ok (.bipush 96, 2) := by decide +kernel
theorem dX8_book_44 : decode cX8_book 44 = .ok (.iaload, 1) := by decide +kernel
theorem dX8_book_45 : decode cX8_book 45 = .ok (.bipush 8, 2) := by decide +kernel
theorem dX8_book_47 : decode cX8_book 47 = .ok (.if_icmp .ne 6, 3) := by decide +kernel
theorem dX8_book_50 : decode cX8_book 50 = .ok (.bipush (-4), 2) := by decide +kernel
theorem dX8_book_52 : decode cX8_book 52 = .ok (.ireturn, 1) := by decide +kernel
theorem dX8_book_53 : decode cX8_book 53 = .ok (.aload_n 0, 1) := by decide +kernel
theorem dX8_book_54 : decode cX8_book 54 = .ok (.getfield 9, 3) := by decide +kernel
theorem dX8_book_57 : decode cX8_book 57 = .ok (.bipush 97, 2) := by decide +kernel
theorem dX8_book_59 : decode cX8_book 59 = .ok (.iconst 2, 1) := by decide +kernel
theorem dX8_book_60 : decode cX8_book 60 = .ok (.aload_n 0, 1) := by decide +kernel
theorem dX8_book_61 : decode cX8_book 61 = .ok (.getfield 9, 3) := by decide +kernel
theorem dX8_book_64 : decode cX8_book 64 = .ok (.bipush 96, 2) := by decide +kernel
theorem dX8_book_66 : decode cX8_book 66 = .ok (.iaload, 1) := by decide +kernel
theorem dX8_book_67 : decode cX8_book 67 = .ok (.imul, 1) := by decide +kernel
theorem dX8_book_68 : decode cX8_book 68 = .ok (.iadd, 1) := by decide +kernel
theorem dX8_book_69 : decode cX8_book 69 = .ok (.iload_n 1, 1) := by decide +kernel
theorem dX8_book_70 : decode cX8_book 70 = .ok (.iastore, 1) := by decide +kernel
theorem dX8_book_71 : decode cX8_book 71 = .ok (.aload_n 0, 1) := by decide +kernel
theorem dX8_book_72 : decode cX8_book 72 = .ok (.getfield 9, 3) := by decide +kernel
theorem dX8_book_75 : decode cX8_book 75 = .ok (.bipush 98, 2) := by decide +kernel
theorem dX8_book_77 : decode cX8_book 77 = .ok (.iconst 2, 1) := by decide +kernel
theorem dX8_book_78 : decode cX8_book 78 = .ok (.aload_n 0, 1) := by decide +kernel
theorem dX8_book_79 : decode cX8_book 79 = .ok (.getfield 9, 3) := by decide +kernel
theorem dX8_book_82 : decode cX8_book 82 = .ok (.bipush 96, 2) := by decide +kernel
theorem dX8_book_84 : decode cX8_book 84 = .ok (.iaload, 1) := by decide +kernel
theorem dX8_book_85 : decode cX8_book 85 = .ok (.imul, 1) := by decide +kernel
theorem dX8_book_86 : decode cX8_book 86 = .ok (.iadd, 1) := by decide +kernel
theorem dX8_book_87 : decode cX8_book 87 = .ok (.iload_n 2, 1) := by decide +kernel
theorem dX8_book_88 : decode cX8_book 88 = .ok (.iastore, 1) := by decide +kernel
theorem dX8_book_89 : decode cX8_book 89 = .ok (.aload_n 0, 1) := by decide +kernel
theorem dX8_book_90 : decode cX8_book 90 = .ok (.getfield 9, 3) := by decide +kernel
theorem dX8_book_93 : decode cX8_book 93 = .ok (.bipush 96, 2) := by decide +kernel
theorem dX8_book_95 : decode cX8_book 95 = .ok (.dup2, 1) := by decide +kernel
theorem dX8_book_96 : decode cX8_book 96 = .ok (.iaload, 1) := by decide +kernel
theorem dX8_book_97 : decode cX8_book 97 = .ok (.iconst 1, 1) := by decide +kernel
theorem dX8_book_98 : decode cX8_book 98 = .ok (.iadd, 1) := by decide +kernel
theorem dX8_book_99 : decode cX8_book 99 = .ok (.iastore, 1) := by decide +kernel
theorem dX8_book_100 : decode cX8_book 100 = .ok (.aload_n 0, 1) := by decide +kernel
theorem dX8_book_101 : decode cX8_book 101 = .ok (.getfield 9, 3) := by decide +kernel
theorem dX8_book_104 : decode cX8_book 104 = .ok (.bipush 96, 2) := by decide +kernel
theorem dX8_book_106 : decode cX8_book 106 = .ok (.iaload, 1) := by decide +kernel
theorem dX8_book_107 : decode cX8_book 107 = .ok (.ireturn, 1) := by decide +kernel
set_option maxRecDepth 20000 in
theorem ggX8_looked_X8_number : GoodIn wsX8_looked wsX8_number := goodIn_r _ [6, 1, 7, 8, 9, 10, 11, 12, 13, 14, 15, 16, 17, 18, 19, 20, 21, 22, 23, 24, 25, 26, 27, 28, 29, 30, 31, 32, 33, 34, 35] rfl (by decide +kernel)
set_option maxRecDepth 20000 in
theorem gX8_looked_X8_number : GoodIn wsX8_looked (wsV RX8 83 RX8 yX8_number wsX8_number) := goodIn_app (goodIn_of _ (by decide +kernel)) ggX8_looked_X8_number
theorem dX8_looked_0 : decode cX8_looked 0 = .ok (.iconst 0, 1) := by decide +kernel
theorem dX8_looked_1 : decode cX8_looked 1 = .ok (.istore_n 1, 1) := by decide +kernel
theorem dX8_looked_2 : decode cX8_looked 2 = .ok (.iload_n 1, 1) := by decide +kernel
theorem dX8_looked_3 : decode cX8_looked 3 = .ok (.aload_n 0, 1) := by decide +kernel
theorem dX8_looked_4 : decode cX8_looked 4 = .ok (.getfield 9, 3) := by decide +kernel
theorem dX8_looked_7 : decode cX8_looked 7 = .ok (.bipush 96, 2) := by decide +kernel
theorem dX8_looked_9 : decode cX8_looked 9 = .ok (.iaload, 1) := by decide +kernel
theorem dX8_looked_10 : decode cX8_looked 10 = .ok (.if_icmp .ge 41, 3) := by decide +kernel
theorem dX8_looked_13 : decode cX8_looked 13 = .ok (.aload_n 0, 1) := by decide +kernel
theorem dX8_looked_14 : decode cX8_looked 14 = .ok (.aload_n 0, 1) := by decide +kernel
theorem dX8_looked_15 : decode cX8_looked 15 = .ok (.getfield 9, 3) := by decide +kernel
theorem dX8_looked_18 : decode cX8_looked 18 = .ok (.bipush 97, 2) := by decide +kernel
theorem dX8_looked_20 : decode cX8_looked 20 = .ok (.iconst 2, 1) := by decide +kernel
theorem dX8_looked_21 : decode cX8_looked 21 = .ok (.iload_n 1, 1) := by decide +kernel
theorem dX8_looked_22 : decode cX8_looked 22 = .ok (.imul, 1) := by decide +kernel
theorem dX8_looked_23 : decode cX8_looked 23 = .ok (.iadd, 1) := by decide +kernel
theorem dX8_looked_24 : decode cX8_looked 24 = .ok (.iaload, 1) := by decide +kernel
theorem dX8_looked_25 : decode cX8_looked 25 = .ok (.iconst 2, 1) := by decide +kernel
theorem dX8_looked_26 : decode cX8_looked 26 = .ok (.invokevirtual 83, 3) := by decide +kernel
theorem dX8_looked_29 : decode cX8_looked 29 = .ok (.aload_n 0, 1) := by decide +kernel
theorem dX8_looked_30 : decode cX8_looked 30 = .ok (.getfield 9, 3) := by decide +kernel
theorem dX8_looked_33 : decode cX8_looked 33 = .ok (.bipush 98, 2) := by decide +kernel
theorem dX8_looked_35 : decode cX8_looked 35 = .ok (.iconst 2, 1) := by decide +kernel
theorem dX8_looked_36 : decode cX8_looked 36 = .ok (.iload_n 1, 1) := by decide +kernel
theorem dX8_looked_37 : decode cX8_looked 37 = .ok (.imul, 1) := by decide +kernel
theorem dX8_looked_38 : decode cX8_looked 38 = .ok (.iadd, 1) := by decide +kernel

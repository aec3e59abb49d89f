theorem dX2_init_0 : decode cX2_init 0 = .ok (.aload_n 0, 1) := by decide +kernel
theorem dX2_init_1 : decode cX2_init 1 = .ok (.invokespecial 3, 3) := by decide +kernel
theorem dX2_init_4 : decode cX2_init 4 = .ok (.aload_n 0, 1) := by decide +kernel
theorem dX2_init_5 : decode cX2_init 5 = .ok (.bipush 6, 2) := by decide +kernel
theorem dX2_init_7 : decode cX2_init 7 = .ok (.newarray .int, 2) := by decide +kernel
theorem dX2_init_9 : decode cX2_init 9 = .ok (.putfield 9, 3) := by decide +kernel
theorem dX2_init_12 : decode cX2_init 12 = .ok (.aload_n 0, 1) := by decide +kernel
theorem dX2_init_13 : decode cX2_init 13 = .ok (.bipush 6, 2) := by decide +kernel
theorem dX2_init_15 : decode cX2_init 15 = .ok (.newarray .int, 2) := by decide +kernel
theorem dX2_init_17 : decode cX2_init 17 = .ok (.putfield 15, 3) := by decide +kernel
theorem dX2_init_20 : decode cX2_init 20 = .ok (.aload_n 0, 1) := by decide +kernel
theorem dX2_init_21 : decode cX2_init 21 = .ok (.bipush 6, 2) := by decide +kernel
theorem dX2_init_23 : decode cX2_init 23 = .ok (.newarray .int, 2) := by decide +kernel
theorem dX2_init_25 : decode cX2_init 25 = .ok (.putfield 18, 3) := by decide +kernel
theorem dX2_init_28 : decode cX2_init 28 = .ok (.aload_n 0, 1) := by decide +kernel
theorem dX2_init_29 : decode cX2_init 29 = .ok (.bipush 24, 2) := by decide +kernel
theorem dX2_init_31 : decode cX2_init 31 = .ok (.newarray .int, 2) := by decide +kernel
theorem dX2_init_33 : decode cX2_init 33 = .ok (.putfield 21, 3) := by decide +kernel
theorem dX2_init_36 : decode cX2_init 36 = .ok (.aload_n 0, 1) := by decide +kernel
theorem dX2_init_37 : decode cX2_init 37 = .ok (.iconst 4, 1) := by decide +kernel
theorem dX2_init_38 : decode cX2_init 38 = .ok (.newarray .int, 2) := by decide +kernel
theorem dX2_init_40 : decode cX2_init 40 = .ok (.putfield 24, 3) := by decide +kernel
theorem dX2_init_43 : decode cX2_init 43 = .ok (.aload_n 0, 1) := by decide +kernel
theorem dX2_init_44 : decode cX2_init 44 = .ok (.iconst 4, 1) := by decide +kernel
theorem dX2_init_45 : decode cX2_init 45 = .ok (.newarray .int, 2) := by decide +kernel
theorem dX2_init_47 : decode cX2_init 47 = .ok (.putfield 27, 3) := by decide +kernel
theorem dX2_init_50 : decode cX2_init 50 = .ok (.aload_n 0, 1) := by decide +kernel
theorem dX2_init_51 : decode cX2_init 51 = .ok (.iconst 4, 1) := by decide +kernel
theorem dX2_init_52 : decode cX2_init 52 = .ok (.newarray .int, 2) := by decide +kernel
theorem dX2_init_54 : decode cX2_init 54 = .ok (.putfield 30, 3) := by decide +kernel
theorem dX2_init_57 : decode cX2_init 57 = .ok (.aload_n 0, 1) := by decide +kernel
theorem dX2_init_58 : decode cX2_init 58 = .ok (.bipush 6, 2) := by decide +kernel
theorem dX2_init_60 : decode cX2_init 60 = .ok (.newarray .int, 2) := by decide +kernel
theorem dX2_init_62 : decode cX2_init 62 = .ok (.putfield 33, 3) := by decide +kernel
theorem dX2_init_65 : decode cX2_init 65 = .ok (.aload_n 0, 1) := by decide +kernel
theorem dX2_init_66 : decode cX2_init 66 = .ok (.bipush 6, 2) := by decide +kernel
theorem dX2_init_68 : decode cX2_init 68 = .ok (.newarray .int, 2) := by decide +kernel
theorem dX2_init_70 : decode cX2_init 70 = .ok (.putfield 38, 3) := by decide +kernel
theorem dX2_init_73 : decode cX2_init 73 = .ok (.return_, 1) := by decide +kernel
theorem dX2_become_0 : decode cX2_become 0 = .ok (.aload_n 0, 1) := by decide +kernel
theorem dX2_become_1 : decode cX2_become 1 = .ok (.aload_n 1, 1) := by decide +kernel
theorem dX2_become_2 : decode cX2_become 2 = .ok (.getfield 41, 3) := by decide +kernel
theorem dX2_become_5 : decode cX2_become 5 = .ok (.putfield 41, 3) := by decide +kernel
theorem dX2_become_8 : decode cX2_become 8 = .ok (.aload_n 1, 1) := by decide +kernel
theorem dX2_become_9 : decode cX2_become 9 = .ok (.getfield 9, 3) := by decide +kernel
theorem dX2_become_12 : decode cX2_become 12 = .ok (.iconst 0, 1) := by decide +kernel
theorem dX2_become_13 : decode cX2_become 13 = .ok (.aload_n 0, 1) := by decide +kernel
theorem dX2_become_14 : decode cX2_become 14 = .ok (.getfield 9, 3) := by decide +kernel
theorem dX2_become_17 : decode cX2_become 17 = .ok (.iconst 0, 1) := by decide +kernel
theorem dX2_become_18 : decode cX2_become 18 = .ok (.bipush 6, 2) := by decide +kernel
theorem dX2_become_20 : decode cX2_become 20 = .ok (.invokestatic 45, 3) := by decide +kernel
theorem dX2_become_23 : decode cX2_become 23 = .ok (.aload_n 1, 1) := by decide +kernel
theorem dX2_become_24 : decode cX2_become 24 = .ok (.getfield 15, 3) := by decide +kernel
theorem dX2_become_27 : decode cX2_become 27 = .ok (.iconst 0, 1) := by decide +kernel
theorem dX2_become_28 : decode cX2_become 28 = .ok (.aload_n 0, 1) := by decide +kernel
theorem dX2_become_29 : decode cX2_become 29 = .ok (.getfield 15, 3) := by decide +kernel
theorem dX2_become_32 : decode cX2_become 32 = .ok (.iconst 0, 1) := by decide +kernel
theorem dX2_become_33 : decode cX2_become 33 = .ok (.bipush 6, 2) := by decide +kernel
theorem dX2_become_35 : decode cX2_become 35 = .ok (.invokestatic 45, 3) := by decide +kernel
theorem dX2_become_38 : decode cX2_become 38 = .ok (.aload_n 1, 1) := by decide +kernel
theorem dX2_become_39 : decode cX2_become 39 = .ok (.getfield 18, 3) := by decide +kernel
theorem dX2_become_42 : decode cX2_become 42 = .ok (.iconst 0, 1) := by decide +kernel
theorem dX2_become_43 : decode cX2_become 43 = .ok (.aload_n 0, 1) := by decide +kernel
theorem dX2_become_44 : decode cX2_become 44 = .ok (.getfield 18, 3) := by decide +kernel
theorem dX2_become_47 : decode cX2_become 47 = .ok (.iconst 0, 1) := by decide +kernel
theorem dX2_become_48 : decode cX2_become 48 = .ok (.bipush 6, 2) := by decide +kernel
theorem dX2_become_50 : decode cX2_become 50 = .ok (.invokestatic 45, 3) := by decide +kernel
theorem dX2_become_53 : decode cX2_become 53 = .ok (.aload_n 1, 1) := by decide +kernel
theorem dX2_become_54 : decode cX2_become 54 = .ok (.getfield 21, 3) := by decide +kernel
theorem dX2_become_57 : decode cX2_become 57 = .ok (.iconst 0, 1) := by decide +kernel
theorem dX2_become_58 : decode cX2_become 58 = .ok (.aload_n 0, 1) := by decide +kernel
theorem dX2_become_59 : decode cX2_become 59 = .ok (.getfield 21, 3) := by decide +kernel
theorem dX2_become_62 : decode cX2_become 62 = .ok (.iconst 0, 1) := by decide +kernel
theorem dX2_become_63 : decode cX2_become 63 = .ok (.bipush 24, 2) := by decide +kernel
theorem dX2_become_65 : decode cX2_become 65 = .ok (.invokestatic 45, 3) := by decide +kernel
theorem dX2_become_68 : decode cX2_become 68 = .ok (.aload_n 0, 1) := by decide +kernel
theorem dX2_become_69 : decode cX2_become 69 = .ok (.aload_n 1, 1) := by decide +kernel
theorem dX2_become_70 : decode cX2_become 70 = .ok (.getfield 51, 3) := by decide +kernel
theorem dX2_become_73 : decode cX2_become 73 = .ok (.putfield 51, 3) := by decide +kernel
theorem dX2_become_76 : decode cX2_become 76 = .ok (.aload_n 1, 1) := by decide +kernel
theorem dX2_become_77 : decode cX2_become 77 = .ok (.getfield 24, 3) := by decide +kernel
theorem dX2_become_80 : decode cX2_become 80 = .ok (.iconst 0, 1) := by decide +kernel
theorem dX2_become_81 : decode cX2_become 81 = .ok (.aload_n 0, 1) := by decide +kernel
theorem dX2_become_82 : decode cX2_become 82 = .ok (.getfield 24, 3) := by decide +kernel
theorem dX2_become_85 : decode cX2_become 85 = .ok (.iconst 0, 1) := by decide +kernel
theorem dX2_become_86 : decode cX2_become 86 = .ok (.iconst 4, 1) := by decide +kernel
theorem dX2_become_87 : decode cX2_become 87 = .ok (.invokestatic 45, 3) := by decide +kernel
theorem dX2_become_90 : decode cX2_become 90 = .ok (.aload_n 1, 1) := by decide +kernel
theorem dX2_become_91 : decode cX2_become 91 = .ok (.getfield 27, 3) := by decide +kernel
theorem dX2_become_94 : decode cX2_become 94 = .ok (.iconst 0, 1) := by decide +kernel
theorem dX2_become_95 : decode cX2_become 95 = .ok (.aload_n 0, 1) := by decide +kernel
theorem dX2_become_96 : decode cX2_become 96 = .ok (.getfield 27, 3) := by decide +kernel
theorem dX2_become_99 : decode cX2_become 99 = .ok (.iconst 0, 1) := by decide +kernel
theorem dX2_become_100 : decode cX2_become 100 = .ok (.iconst 4, 1) := by decide +kernel
theorem dX2_become_101 : decode cX2_become 101 = .ok (.invokestatic 45, 3) := by decide +kernel
theorem dX2_become_104 : decode cX2_become 104 = .ok (.aload_n 1, 1) := by decide +kernel
theorem dX2_become_105 : decode cX2_become 105 = .ok (.getfield 30, 3) := by decide +kernel
theorem dX2_become_108 : decode cX2_become 108 = .ok (.iconst 0, 1) := by decide +kernel
theorem dX2_become_109 : decode cX2_become 109 = .ok (.aload_n 0, 1) := by decide +kernel
theorem dX2_become_110 : decode cX2_become 110 = .ok (.getfield 30, 3) := by decide +kernel
theorem dX2_become_113 : decode cX2_become 113 = .ok (.iconst 0, 1) := by decide +kernel
theorem dX2_become_114 : decode cX2_become 114 = .ok (.iconst 4, 1) := by decide +kernel
theorem dX2_become_115 : decode cX2_become 115 = .ok (.invokestatic 45, 3) := by decide +kernel
theorem dX2_become_118 : decode cX2_become 118 = .ok (.aload_n 0, 1) := by decide +kernel
theorem dX2_become_119 : decode cX2_become 119 = .ok (.aload_n 1, 1) := by decide +kernel
theorem dX2_become_120 : decode cX2_become 120 = .ok (.getfield 54, 3) := by decide +kernel
theorem dX2_become_123 : decode cX2_become 123 = .ok (.putfield 54, 3) := by decide +kernel
theorem dX2_become_126 : decode cX2_become 126 = .ok (.aload_n 0, 1) := by decide +kernel
theorem dX2_become_127 : decode cX2_become 127 = .ok (.aload_n 1, 1) := by decide +kernel
theorem dX2_become_128 : decode cX2_become 128 = .ok (.getfield 57, 3) := by decide +kernel
theorem dX2_become_131 : decode cX2_become 131 = .ok (.putfield 57, 3) := by decide +kernel
theorem dX2_become_134 : decode cX2_become 134 = .ok (.aload_n 0, 1) := by decide +kernel
theorem dX2_become_135 : decode cX2_become 135 = .ok (.aload_n 1, 1) := by decide +kernel
theorem dX2_become_136 : decode cX2_become 136 = .ok (.getfield 60, 3) := by decide +kernel
theorem dX2_become_139 : decode cX2_become 139 = .ok (.putfield 60, 3) := by decide +kernel
theorem dX2_become_142 : decode cX2_become 142 = .ok (.return_, 1) := by decide +kernel
theorem dX2_isPerson_0 : decode cX2_isPerson 0 = .ok (.iload_n 1, 1) := by decide +kernel
theorem dX2_isPerson_1 : decode cX2_isPerson 1 = .ok (.ifCond .lt 15, 3) := by decide +kernel
theorem dX2_isPerson_4 : decode cX2_isPerson 4 = .ok (.iload_n 1, 1) := by decide +kernel
theorem dX2_isPerson_5 : decode cX2_isPerson 5 = .ok (.aload_n 0, 1) := by decide +kernel
theorem dX2_isPerson_6 : decode cX2_isPerson 6 = .ok (.getfield 41, 3) := by decide +kernel
theorem dX2_isPerson_9 : decode cX2_isPerson 9 = .ok (.if_icmp .ge 7, 3) := by decide +kernel
theorem dX2_isPerson_12 : decode cX2_isPerson 12 = .ok (.iconst 1, 1) := by decide +kernel
theorem dX2_isPerson_13 : decode cX2_isPerson 13 = .ok (.goto 4, 3) := by decide +kernel
theorem dX2_isPerson_16 : decode cX2_isPerson 16 = .ok (.iconst 0, 1) := by decide +kernel
theorem dX2_isPerson_17 : decode cX2_isPerson 17 = .ok (.ireturn, 1) := by decide +kernel
theorem dX2_isLeaf_0 : decode cX2_isLeaf 0 = .ok (.iload_n 1, 1) := by decide +kernel
theorem dX2_isLeaf_1 : decode cX2_isLeaf 1 = .ok (.ifCond .lt 15, 3) := by decide +kernel
theorem dX2_isLeaf_4 : decode cX2_isLeaf 4 = .ok (.iload_n 1, 1) := by decide +kernel
theorem dX2_isLeaf_5 : decode cX2_isLeaf 5 = .ok (.aload_n 0, 1) := by decide +kernel
theorem dX2_isLeaf_6 : decode cX2_isLeaf 6 = .ok (.getfield 51, 3) := by decide +kernel
theorem dX2_isLeaf_9 : decode cX2_isLeaf 9 = .ok (.if_icmp .ge 7, 3) := by decide +kernel
theorem dX2_isLeaf_12 : decode cX2_isLeaf 12 = .ok (.iconst 1, 1) := by decide +kernel
theorem dX2_isLeaf_13 : decode cX2_isLeaf 13 = .ok (.goto 4, 3) := by decide +kernel
theorem dX2_isLeaf_16 : decode cX2_isLeaf 16 = .ok (.iconst 0, 1) := by decide +kernel
theorem dX2_isLeaf_17 : decode cX2_isLeaf 17 = .ok (.ireturn, 1) := by decide +kernel
theorem dX2_addPerson_0 : decode cX2_addPerson 0 = .ok (.aload_n 0, 1) := by decide +kernel
theorem dX2_addPerson_1 : decode cX2_addPerson 1 = .ok (.getfield 9, 3) := by decide +kernel
theorem dX2_addPerson_4 : decode cX2_addPerson 4 = .ok (.aload_n 0, 1) := by decide +kernel
theorem dX2_addPerson_5 : decode cX2_addPerson 5 = .ok (.getfield 41, 3) := by decide +kernel
theorem dX2_addPerson_8 : decode cX2_addPerson 8 = .ok (.iload_n 1, 1) := by decide +kernel
theorem dX2_addPerson_9 : decode cX2_addPerson 9 = .ok (.iastore, 1) := by decide +kernel
theorem dX2_addPerson_10 : decode cX2_addPerson 10 = .ok (.aload_n 0, 1) := by decide +kernel
theorem dX2_addPerson_11 : decode cX2_addPerson 11 = .ok (.getfield 15, 3) := by decide +kernel
theorem dX2_addPerson_14 : decode cX2_addPerson 14 = .ok (.aload_n 0, 1) := by decide +kernel
theorem dX2_addPerson_15 : decode cX2_addPerson 15 = .ok (.getfield 41, 3) := by decide +kernel
theorem dX2_addPerson_18 : decode cX2_addPerson 18 = .ok (.iload_n 2, 1) := by decide +kernel
theorem dX2_addPerson_19 : decode cX2_addPerson 19 = .ok (.iastore, 1) := by decide +kernel
theorem dX2_addPerson_20 : decode cX2_addPerson 20 = .ok (.aload_n 0, 1) := by decide +kernel
theorem dX2_addPerson_21 : decode cX2_addPerson 21 = .ok (.getfield 18, 3) := by decide +kernel
theorem dX2_addPerson_24 : decode cX2_addPerson 24 = .ok (.aload_n 0, 1) := by decide +kernel
theorem dX2_addPerson_25 : decode cX2_addPerson 25 = .ok (.getfield 41, 3) := by decide +kernel
theorem dX2_addPerson_28 : decode cX2_addPerson 28 = .ok (.iload_n 3, 1) := by decide +kernel
theorem dX2_addPerson_29 : decode cX2_addPerson 29 = .ok (.iastore, 1) := by decide +kernel
theorem dX2_addPerson_30 : decode cX2_addPerson 30 = .ok (.aload_n 0, 1) := by decide +kernel
theorem dX2_addPerson_31 : decode cX2_addPerson 31 = .ok (.dup, 1) := by decide +kernel
theorem dX2_addPerson_32 : decode cX2_addPerson 32 = .ok (.getfield 41, 3) := by decide +kernel
theorem dX2_addPerson_35 : decode cX2_addPerson 35 = .ok (.iconst 1, 1) := by decide +kernel
theorem dX2_addPerson_36 : decode cX2_addPerson 36 = .ok (.iadd, 1) := by decide +kernel
theorem dX2_addPerson_37 : decode cX2_addPerson 37 = .ok (.putfield 41, 3) := by decide +kernel
theorem dX2_addPerson_40 : decode cX2_addPerson 40 = .ok (.aload_n 0, 1) := by decide +kernel
theorem dX2_addPerson_41 : decode cX2_addPerson 41 = .ok (.getfield 41, 3) := by decide +kernel
theorem dX2_addPerson_44 : decode cX2_addPerson 44 = .ok (.iconst 1, 1) := by decide +kernel
theorem dX2_addPerson_45 : decode cX2_addPerson 45 = .ok (.isub, 1) := by decide +kernel
theorem dX2_addPerson_46 : decode cX2_addPerson 46 = .ok (.ireturn, 1) := by decide +kernel
set_option maxRecDepth 20000 in
theorem ggX2_addLeaf_X2_letGo : GoodIn wsX2_addLeaf wsX2_letGo := goodIn_r _ [7, 8, 9, 10, 6, 11, 12, 13, 14, 15, 16, 17, 18, 19, 20, 21, 22, 23, 24, 25, 26, 27] (by decide +kernel) (by decide +kernel)
set_option maxRecDepth 20000 in
theorem gX2_addLeaf_X2_letGo : GoodIn wsX2_addLeaf (wsV RX2 64 RX2 yX2_letGo wsX2_letGo) := goodIn_app (goodIn_of _ (by decide +kernel)) ggX2_addLeaf_X2_letGo
theorem dX2_addLeaf_0 : decode cX2_addLeaf 0 = .ok (.aload_n 0, 1) := by decide +kernel
theorem dX2_addLeaf_1 : decode cX2_addLeaf 1 = .ok (.getfield 24, 3) := by decide +kernel
theorem dX2_addLeaf_4 : decode cX2_addLeaf 4 = .ok (.aload_n 0, 1) := by decide +kernel
theorem dX2_addLeaf_5 : decode cX2_addLeaf 5 = .ok (.getfield 51, 3) := by decide +kernel
theorem dX2_addLeaf_8 : decode cX2_addLeaf 8 = .ok (.iload_n 1, 1) := by decide +kernel
theorem dX2_addLeaf_9 : decode cX2_addLeaf 9 = .ok (.iastore, 1) := by decide +kernel
theorem dX2_addLeaf_10 : decode cX2_addLeaf 10 = .ok (.aload_n 0, 1) := by decide +kernel
theorem dX2_addLeaf_11 : decode cX2_addLeaf 11 = .ok (.aload_n 0, 1) := by decide +kernel
theorem dX2_addLeaf_12 : decode cX2_addLeaf 12 = .ok (.getfield 51, 3) := by decide +kernel
theorem dX2_addLeaf_15 : decode cX2_addLeaf 15 = .ok (.invokevirtual 64, 3) := by decide +kernel
theorem dX2_addLeaf_18 : decode cX2_addLeaf 18 = .ok (.aload_n 0, 1) := by decide +kernel
theorem dX2_addLeaf_19 : decode cX2_addLeaf 19 = .ok (.dup, 1) := by decide +kernel
theorem dX2_addLeaf_20 : decode cX2_addLeaf 20 = .ok (.getfield 51, 3) := by decide +kernel
theorem dX2_addLeaf_23 : decode cX2_addLeaf 23 = .ok (.iconst 1, 1) := by decide +kernel
theorem dX2_addLeaf_24 : decode cX2_addLeaf 24 = .ok (.iadd, 1) := by decide +kernel
theorem dX2_addLeaf_25 : decode cX2_addLeaf 25 = .ok (.putfield 51, 3) := by decide +kernel
theorem dX2_addLeaf_28 : decode cX2_addLeaf 28 = .ok (.aload_n 0, 1) := by decide +kernel
theorem dX2_addLeaf_29 : decode cX2_addLeaf 29 = .ok (.getfield 51, 3) := by decide +kernel
theorem dX2_addLeaf_32 : decode cX2_addLeaf 32 = .ok (.iconst 1, 1) := by decide +kernel
theorem dX2_addLeaf_33 : decode cX2_addLeaf 33 = .ok (.isub, 1) := by decide +kernel
theorem dX2_addLeaf_34 : decode cX2_addLeaf 34 = .ok (.ireturn, 1) := by decide +kernel
theorem dX2_give_0 : decode cX2_give 0 = .ok (.aload_n 0, 1) := by decide +kernel
theorem dX2_give_1 : decode cX2_give 1 = .ok (.getfield 27, 3) := by decide +kernel
theorem dX2_give_4 : decode cX2_give 4 = .ok (.iload_n 1, 1) := by decide +kernel
theorem dX2_give_5 : decode cX2_give 5 = .ok (.iload_n 2, 1) := by decide +kernel
theorem dX2_give_6 : decode cX2_give 6 = .ok (.iastore, 1) := by decide +kernel
theorem dX2_give_7 : decode cX2_give 7 = .ok (.aload_n 0, 1) := by decide +kernel
theorem dX2_give_8 : decode cX2_give 8 = .ok (.getfield 30, 3) := by decide +kernel
theorem dX2_give_11 : decode cX2_give 11 = .ok (.iload_n 1, 1) := by decide +kernel
theorem dX2_give_12 : decode cX2_give 12 = .ok (.iload_n 3, 1) := by decide +kernel
theorem dX2_give_13 : decode cX2_give 13 = .ok (.iastore, 1) := by decide +kernel
theorem dX2_give_14 : decode cX2_give 14 = .ok (.return_, 1) := by decide +kernel
set_option maxRecDepth 20000 in
theorem ggX2_letGo_X2_give : GoodIn wsX2_letGo wsX2_give := goodIn_r _ [5, 6, 7, 8, 9, 10, 11, 12, 13, 14, 15, 16, 17, 18, 19, 20, 21] (by decide +kernel) (by decide +kernel)
set_option maxRecDepth 20000 in
theorem gX2_letGo_X2_give : GoodIn wsX2_letGo (wsV RX2 68 RX2 yX2_give wsX2_give) := goodIn_app (goodIn_of _ (by decide +kernel)) ggX2_letGo_X2_give
theorem dX2_letGo_0 : decode cX2_letGo 0 = .ok (.aload_n 0, 1) := by decide +kernel
theorem dX2_letGo_1 : decode cX2_letGo 1 = .ok (.iload_n 1, 1) := by decide +kernel
theorem dX2_letGo_2 : decode cX2_letGo 2 = .ok (.bipush (-5), 2) := by decide +kernel
theorem dX2_letGo_4 : decode cX2_letGo 4 = .ok (.bipush (-5), 2) := by decide +kernel
theorem dX2_letGo_6 : decode cX2_letGo 6 = .ok (.invokevirtual 68, 3) := by decide +kernel
theorem dX2_letGo_9 : decode cX2_letGo 9 = .ok (.return_, 1) := by decide +kernel
theorem dX2_isHeld_0 : decode cX2_isHeld 0 = .ok (.aload_n 0, 1) := by decide +kernel
theorem dX2_isHeld_1 : decode cX2_isHeld 1 = .ok (.getfield 27, 3) := by decide +kernel
theorem dX2_isHeld_4 : decode cX2_isHeld 4 = .ok (.iload_n 1, 1) := by decide +kernel
theorem dX2_isHeld_5 : decode cX2_isHeld 5 = .ok (.iaload, 1) := by decide +kernel
theorem dX2_isHeld_6 : decode cX2_isHeld 6 = .ok (.bipush (-5), 2) := by decide +kernel
theorem dX2_isHeld_8 : decode cX2_isHeld 8 = .ok (.if_icmp .eq 7, 3) := by decide +kernel
theorem dX2_isHeld_11 : decode cX2_isHeld 11 = .ok (.iconst 1, 1) := by decide +kernel
theorem dX2_isHeld_12 : decode cX2_isHeld 12 = .ok (.goto 4, 3) := by decide +kernel
theorem dX2_isHeld_15 : decode cX2_isHeld 15 = .ok (.iconst 0, 1) := by decide +kernel
theorem dX2_isHeld_16 : decode cX2_isHeld 16 = .ok (.ireturn, 1) := by decide +kernel
theorem dX2_isHolder_0 : decode cX2_isHolder 0 = .ok (.aload_n 0, 1) := by decide +kernel
theorem dX2_isHolder_1 : decode cX2_isHolder 1 = .ok (.getfield 27, 3) := by decide +kernel
theorem dX2_isHolder_4 : decode cX2_isHolder 4 = .ok (.iload_n 1, 1) := by decide +kernel
theorem dX2_isHolder_5 : decode cX2_isHolder 5 = .ok (.iaload, 1) := by decide +kernel
theorem dX2_isHolder_6 : decode cX2_isHolder 6 = .ok (.iload_n 2, 1) := by decide +kernel
theorem dX2_isHolder_7 : decode cX2_isHolder 7 = .ok (.if_icmp .eq 13, 3) := by decide +kernel
theorem dX2_isHolder_10 : decode cX2_isHolder 10 = .ok (.aload_n 0, 1) := by decide +kernel
theorem dX2_isHolder_11 : decode cX2_isHolder 11 = .ok (.getfield 30, 3) := by decide +kernel
theorem dX2_isHolder_14 : decode cX2_isHolder 14 = .ok (.iload_n 1, 1) := by decide +kernel
theorem dX2_isHolder_15 : decode cX2_isHolder 15 = .ok (.iaload, 1) := by decide +kernel
theorem dX2_isHolder_16 : decode cX2_isHolder 16 = .ok (.iload_n 2, 1) := by decide +kernel
theorem dX2_isHolder_17 : decode cX2_isHolder 17 = .ok (.if_icmp .ne 7, 3) := by decide +kernel
theorem dX2_isHolder_20 : decode cX2_isHolder 20 = .ok (.iconst 1, 1) := by decide +kernel
theorem dX2_isHolder_21 : decode cX2_isHolder 21 = .ok (.goto 4, 3) := by decide +kernel
theorem dX2_isHolder_24 : decode cX2_isHolder 24 = .ok (.iconst 0, 1) := by decide +kernel
theorem dX2_isHolder_25 : decode cX2_isHolder 25 = .ok (.ireturn, 1) := by decide +kernel
set_option maxRecDepth 20000 in
theorem ggX2_holdsHowMany_X2_isHolder : GoodIn wsX2_holdsHowMany wsX2_isHolder := goodIn_r _ [6, 7, 8, 9, 10, 11, 12, 13, 14, 15, 16, 17, 18, 19, 20, 21, 22] (by decide +kernel) (by decide +kernel)
set_option maxRecDepth 20000 in
theorem gX2_holdsHowMany_X2_isHolder : GoodIn wsX2_holdsHowMany (wsV RX2 72 RX2 yX2_isHolder wsX2_isHolder) := goodIn_app (goodIn_of _ (by decide +kernel)) ggX2_holdsHowMany_X2_isHolder
theorem dX2_holdsHowMany_0 : decode cX2_holdsHowMany 0 = .ok (.iconst 0, 1) := by decide +kernel
theorem dX2_holdsHowMany_1 : decode cX2_holdsHowMany 1 = .ok (.istore_n 2, 1) := by decide +kernel
theorem dX2_holdsHowMany_2 : decode cX2_holdsHowMany 2 = .ok (.iconst 0, 1) := by decide +kernel
theorem dX2_holdsHowMany_3 : decode cX2_holdsHowMany 3 = .ok (.istore_n 3, 1) := by decide +kernel
theorem dX2_holdsHowMany_4 : decode cX2_holdsHowMany 4 = .ok (.iload_n 3, 1) := by decide +kernel
theorem dX2_holdsHowMany_5 : decode cX2_holdsHowMany 5 = .ok (.aload_n 0, 1) := by decide +kernel
theorem dX2_holdsHowMany_6 : decode cX2_holdsHowMany 6 = .ok (.getfield 51, 3) := by decide +kernel
theorem dX2_holdsHowMany_9 : decode cX2_holdsHowMany 9 = .ok (.if_icmp .ge 21, 3) := by decide +kernel
theorem dX2_holdsHowMany_12 : decode cX2_holdsHowMany 12 = .ok (.aload_n 0, 1) := by decide +kernel
theorem dX2_holdsHowMany_13 : decode cX2_holdsHowMany 13 = .ok (.iload_n 3, 1) := by decide +kernel
theorem dX2_holdsHowMany_14 : decode cX2_holdsHowMany 14 = .ok (.iload_n 1, 1) := by decide +kernel
theorem dX2_holdsHowMany_15 : decode cX2_holdsHowMany 15 = .ok (.invokevirtual 72, 3) := by decide +kernel
theorem dX2_holdsHowMany_18 : decode cX2_holdsHowMany 18 = .ok (.ifCond .eq 6, 3) := by decide +kernel
theorem dX2_holdsHowMany_21 : decode cX2_holdsHowMany 21 = .ok (.iinc 2 1, 3) := by decide +kernel
theorem dX2_holdsHowMany_24 : decode cX2_holdsHowMany 24 = .ok (.iinc 3 1, 3) := by decide +kernel
theorem dX2_holdsHowMany_27 : decode cX2_holdsHowMany 27 = .ok (.goto (-23), 3) := by decide +kernel
theorem dX2_holdsHowMany_30 : decode cX2_holdsHowMany 30 = .ok (.iload_n 2, 1) := by decide +kernel
theorem dX2_holdsHowMany_31 : decode cX2_holdsHowMany 31 = .ok (.ireturn, 1) := by decide +kernel
theorem dX2_gapOf_0 : decode cX2_gapOf 0 = .ok (.aload_n 0, 1) := by decide +kernel
theorem dX2_gapOf_1 : decode cX2_gapOf 1 = .ok (.getfield 18, 3) := by decide +kernel
theorem dX2_gapOf_4 : decode cX2_gapOf 4 = .ok (.aload_n 0, 1) := by decide +kernel
theorem dX2_gapOf_5 : decode cX2_gapOf 5 = .ok (.getfield 27, 3) := by decide +kernel
theorem dX2_gapOf_8 : decode cX2_gapOf 8 = .ok (.iload_n 1, 1) := by decide +kernel
theorem dX2_gapOf_9 : decode cX2_gapOf 9 = .ok (.iaload, 1) := by decide +kernel
theorem dX2_gapOf_10 : decode cX2_gapOf 10 = .ok (.iaload, 1) := by decide +kernel
theorem dX2_gapOf_11 : decode cX2_gapOf 11 = .ok (.aload_n 0, 1) := by decide +kernel
theorem dX2_gapOf_12 : decode cX2_gapOf 12 = .ok (.getfield 18, 3) := by decide +kernel
theorem dX2_gapOf_15 : decode cX2_gapOf 15 = .ok (.aload_n 0, 1) := by decide +kernel
theorem dX2_gapOf_16 : decode cX2_gapOf 16 = .ok (.getfield 30, 3) := by decide +kernel
theorem dX2_gapOf_19 : decode cX2_gapOf 19 = .ok (.iload_n 1, 1) := by decide +kernel
theorem dX2_gapOf_20 : decode cX2_gapOf 20 = .ok (.iaload, 1) := by decide +kernel
theorem dX2_gapOf_21 : decode cX2_gapOf 21 = .ok (.iaload, 1) := by decide +kernel
theorem dX2_gapOf_22 : decode cX2_gapOf 22 = .ok (.isub, 1) := by decide +kernel
theorem dX2_gapOf_23 : decode cX2_gapOf 23 = .ok (.invokestatic 76, 3) := by decide +kernel
theorem dX2_gapOf_26 : decode cX2_gapOf 26 = .ok (.aload_n 0, 1) := by decide +kernel
theorem dX2_gapOf_27 : decode cX2_gapOf 27 = .ok (.getfield 24, 3) := by decide +kernel
theorem dX2_gapOf_30 : decode cX2_gapOf 30 = .ok (.iload_n 1, 1) := by decide +kernel
theorem dX2_gapOf_31 : decode cX2_gapOf 31 = .ok (.iaload, 1) := by decide +kernel
theorem dX2_gapOf_32 : decode cX2_gapOf 32 = .ok (.isub, 1) := by decide +kernel
theorem dX2_gapOf_33 : decode cX2_gapOf 33 = .ok (.ireturn, 1) := by decide +kernel
set_option maxRecDepth 20000 in
theorem ggX2_isTaut_X2_isHeld : GoodIn wsX2_isTaut wsX2_isHeld := goodIn_r _ [5, 6, 18, 19, 20, 21, 22, 23, 24, 25, 26, 27, 28, 29, 30, 31] (by decide +kernel) (by decide +kernel)
set_option maxRecDepth 20000 in
theorem gX2_isTaut_X2_isHeld : GoodIn wsX2_isTaut (wsV RX2 82 RX2 yX2_isHeld wsX2_isHeld) := goodIn_app (goodIn_of _ (by decide +kernel)) ggX2_isTaut_X2_isHeld
set_option maxRecDepth 20000 in
theorem ggX2_isTaut_X2_gapOf : GoodIn wsX2_isTaut wsX2_gapOf := goodIn_r _ [10, 11, 6, 12, 13, 14, 15, 16, 17, 18, 19, 20, 21, 22, 23, 24, 25, 26, 27, 28, 29, 30, 31] (by decide +kernel) (by decide +kernel)
set_option maxRecDepth 20000 in
theorem gX2_isTaut_X2_gapOf : GoodIn wsX2_isTaut (wsV RX2 86 RX2 yX2_gapOf wsX2_gapOf) := goodIn_app (goodIn_of _ (by decide +kernel)) ggX2_isTaut_X2_gapOf
theorem dX2_isTaut_0 : decode cX2_isTaut 0 = .ok (.aload_n 0, 1) := by decide +kernel
theorem dX2_isTaut_1 : decode cX2_isTaut 1 = .ok (.iload_n 1, 1) := by decide +kernel
theorem dX2_isTaut_2 : decode cX2_isTaut 2 = .ok (.invokevirtual 82, 3) := by decide +kernel
theorem dX2_isTaut_5 : decode cX2_isTaut 5 = .ok (.ifCond .eq 15, 3) := by decide +kernel
theorem dX2_isTaut_8 : decode cX2_isTaut 8 = .ok (.aload_n 0, 1) := by decide +kernel
theorem dX2_isTaut_9 : decode cX2_isTaut 9 = .ok (.iload_n 1, 1) := by decide +kernel
theorem dX2_isTaut_10 : decode cX2_isTaut 10 = .ok (.invokevirtual 86, 3) := by decide +kernel
theorem dX2_isTaut_13 : decode cX2_isTaut 13 = .ok (.ifCond .le 7, 3) := by decide +kernel
theorem dX2_isTaut_16 : decode cX2_isTaut 16 = .ok (.iconst 1, 1) := by decide +kernel
theorem dX2_isTaut_17 : decode cX2_isTaut 17 = .ok (.goto 4, 3) := by decide +kernel
theorem dX2_isTaut_20 : decode cX2_isTaut 20 = .ok (.iconst 0, 1) := by decide +kernel
theorem dX2_isTaut_21 : decode cX2_isTaut 21 = .ok (.ireturn, 1) := by decide +kernel
set_option maxRecDepth 20000 in
theorem ggX2_tautBits_X2_isTaut : GoodIn wsX2_tautBits wsX2_isTaut := goodIn_r _ [6, 7, 8, 9, 5, 10, 11, 12, 13, 14, 15, 16, 17, 18, 19, 20, 21, 22, 23, 24, 25, 26, 27, 28, 29, 30, 31, 32, 33, 34, 35, 36] (by decide +kernel) (by decide +kernel)
set_option maxRecDepth 20000 in
theorem gX2_tautBits_X2_isTaut : GoodIn wsX2_tautBits (wsV RX2 89 RX2 yX2_isTaut wsX2_isTaut) := goodIn_app (goodIn_of _ (by decide +kernel)) ggX2_tautBits_X2_isTaut
theorem dX2_tautBits_0 : decode cX2_tautBits 0 = .ok (.iconst 0, 1) := by decide +kernel
theorem dX2_tautBits_1 : decode cX2_tautBits 1 = .ok (.istore_n 1, 1) := by decide +kernel
theorem dX2_tautBits_2 : decode cX2_tautBits 2 = .ok (.iconst 0, 1) := by decide +kernel
theorem dX2_tautBits_3 : decode cX2_tautBits 3 = .ok (.istore_n 2, 1) := by decide +kernel
theorem dX2_tautBits_4 : decode cX2_tautBits 4 = .ok (.iload_n 2, 1) := by decide +kernel
theorem dX2_tautBits_5 : decode cX2_tautBits 5 = .ok (.aload_n 0, 1) := by decide +kernel
theorem dX2_tautBits_6 : decode cX2_tautBits 6 = .ok (.getfield 51, 3) := by decide +kernel
theorem dX2_tautBits_9 : decode cX2_tautBits 9 = .ok (.if_icmp .ge 23, 3) := by decide +kernel
theorem dX2_tautBits_12 : decode cX2_tautBits 12 = .ok (.aload_n 0, 1) := by decide +kernel
theorem dX2_tautBits_13 : decode cX2_tautBits 13 = .ok (.iload_n 2, 1) := by decide +kernel
theorem dX2_tautBits_14 : decode cX2_tautBits 14 = .ok (.invokevirtual 89, 3) := by decide +kernel
theorem dX2_tautBits_17 : decode cX2_tautBits 17 = .ok (.ifCond .eq 9, 3) := by decide +kernel
theorem dX2_tautBits_20 : decode cX2_tautBits 20 = .ok (.iload_n 1, 1) := by decide +kernel
theorem dX2_tautBits_21 : decode cX2_tautBits 21 = .ok (.iconst 1, 1) := by decide +kernel
theorem dX2_tautBits_22 : decode cX2_tautBits 22 = .ok (.iload_n 2, 1) := by decide +kernel
theorem dX2_tautBits_23 : decode cX2_tautBits 23 = .ok (.ishl, 1) := by decide +kernel
theorem dX2_tautBits_24 : decode cX2_tautBits 24 = .ok (.ior, 1) := by decide +kernel
theorem dX2_tautBits_25 : decode cX2_tautBits 25 = .ok (.istore_n 1, 1) := by decide +kernel
theorem dX2_tautBits_26 : decode cX2_tautBits 26 = .ok (.iinc 2 1, 3) := by decide +kernel
theorem dX2_tautBits_29 : decode cX2_tautBits 29 = .ok (.goto (-25), 3) := by decide +kernel
theorem dX2_tautBits_32 : decode cX2_tautBits 32 = .ok (.iload_n 1, 1) := by decide +kernel
theorem dX2_tautBits_33 : decode cX2_tautBits 33 = .ok (.ireturn, 1) := by decide +kernel
set_option maxRecDepth 20000 in
theorem ggX2_heldBits_X2_isHeld : GoodIn wsX2_heldBits wsX2_isHeld := goodIn_r _ [6, 7, 8, 9, 10, 11, 12, 13, 14, 15, 16, 17, 18, 19, 20, 21] (by decide +kernel) (by decide +kernel)
set_option maxRecDepth 20000 in
theorem gX2_heldBits_X2_isHeld : GoodIn wsX2_heldBits (wsV RX2 82 RX2 yX2_isHeld wsX2_isHeld) := goodIn_app (goodIn_of _ (by decide +kernel)) ggX2_heldBits_X2_isHeld
theorem dX2_heldBits_0 : decode cX2_heldBits 0 = .ok (.iconst 0, 1) := by decide +kernel
theorem dX2_heldBits_1 : decode cX2_heldBits 1 = .ok (.istore_n 1, 1) := by decide +kernel
theorem dX2_heldBits_2 : decode cX2_heldBits 2 = .ok (.iconst 0, 1) := by decide +kernel
theorem dX2_heldBits_3 : decode cX2_heldBits 3 = .ok (.istore_n 2, 1) := by decide +kernel
theorem dX2_heldBits_4 : decode cX2_heldBits 4 = .ok (.iload_n 2, 1) := by decide +kernel
theorem dX2_heldBits_5 : decode cX2_heldBits 5 = .ok (.aload_n 0, 1) := by decide +kernel
theorem dX2_heldBits_6 : decode cX2_heldBits 6 = .ok (.getfield 51, 3) := by decide +kernel
theorem dX2_heldBits_9 : decode cX2_heldBits 9 = .ok (.if_icmp .ge 23, 3) := by decide +kernel
theorem dX2_heldBits_12 : decode cX2_heldBits 12 = .ok (.aload_n 0, 1) := by decide +kernel
theorem dX2_heldBits_13 : decode cX2_heldBits 13 = .ok (.iload_n 2, 1) := by decide +kernel
theorem dX2_heldBits_14 : decode cX2_heldBits 14 = .ok (.invokevirtual 82, 3) := by decide +kernel
theorem dX2_heldBits_17 : decode cX2_heldBits 17 = .ok (.ifCond .eq 9, 3) := by decide +kernel
theorem dX2_heldBits_20 : decode cX2_heldBits 20 = .ok (.iload_n 1, 1) := by decide +kernel
theorem dX2_heldBits_21 : decode cX2_heldBits 21 = .ok (.iconst 1, 1) := by decide +kernel
theorem dX2_heldBits_22 : decode cX2_heldBits 22 = .ok (.iload_n 2, 1) := by decide +kernel
theorem dX2_heldBits_23 : decode cX2_heldBits 23 = .ok (.ishl, 1) := by decide +kernel
theorem dX2_heldBits_24 : decode cX2_heldBits 24 = .ok (.ior, 1) := by decide +kernel
theorem dX2_heldBits_25 : decode cX2_heldBits 25 = .ok (.istore_n 1, 1) := by decide +kernel
theorem dX2_heldBits_26 : decode cX2_heldBits 26 = .ok (.iinc 2 1, 3) := by decide +kernel
theorem dX2_heldBits_29 : decode cX2_heldBits 29 = .ok (.goto (-25), 3) := by decide +kernel
theorem dX2_heldBits_32 : decode cX2_heldBits 32 = .ok (.iload_n 1, 1) := by decide +kernel
theorem dX2_heldBits_33 : decode cX2_heldBits 33 = .ok (.ireturn, 1) := by decide +kernel
theorem dX2_placesTogether_0 : decode cX2_placesTogether 0 = .ok (.iconst 0, 1) := by decide +kernel
theorem dX2_placesTogether_1 : decode cX2_placesTogether 1 = .ok (.istore_n 1, 1) := by decide +kernel
theorem dX2_placesTogether_2 : decode cX2_placesTogether 2 = .ok (.iconst 0, 1) := by decide +kernel
theorem dX2_placesTogether_3 : decode cX2_placesTogether 3 = .ok (.istore_n 2, 1) := by decide +kernel
theorem dX2_placesTogether_4 : decode cX2_placesTogether 4 = .ok (.iload_n 2, 1) := by decide +kernel
theorem dX2_placesTogether_5 : decode cX2_placesTogether 5 = .ok (.aload_n 0, 1) := by decide +kernel
theorem dX2_placesTogether_6 : decode cX2_placesTogether 6 = .ok (.getfield 41, 3) := by decide +kernel
theorem dX2_placesTogether_9 : decode cX2_placesTogether 9 = .ok (.if_icmp .ge 18, 3) := by decide +kernel
theorem dX2_placesTogether_12 : decode cX2_placesTogether 12 = .ok (.iload_n 1, 1) := by decide +kernel
theorem dX2_placesTogether_13 : decode cX2_placesTogether 13 = .ok (.aload_n 0, 1) := by decide +kernel
theorem dX2_placesTogether_14 : decode cX2_placesTogether 14 = .ok (.getfield 18, 3) := by decide +kernel
theorem dX2_placesTogether_17 : decode cX2_placesTogether 17 = .ok (.iload_n 2, 1) := by decide +kernel
theorem dX2_placesTogether_18 : decode cX2_placesTogether 18 = .ok (.iaload, 1) := by decide +kernel
theorem dX2_placesTogether_19 : decode cX2_placesTogether 19 = .ok (.iadd, 1) := by decide +kernel
theorem dX2_placesTogether_20 : decode cX2_placesTogether 20 = .ok (.istore_n 1, 1) := by decide +kernel
theorem dX2_placesTogether_21 : decode cX2_placesTogether 21 = .ok (.iinc 2 1, 3) := by decide +kernel
theorem dX2_placesTogether_24 : decode cX2_placesTogether 24 = .ok (.goto (-20), 3) := by decide +kernel
theorem dX2_placesTogether_27 : decode cX2_placesTogether 27 = .ok (.iload_n 1, 1) := by decide +kernel
theorem dX2_placesTogether_28 : decode cX2_placesTogether 28 = .ok (.ireturn, 1) := by decide +kernel
theorem dX2_bear_0 : decode cX2_bear 0 = .ok (.aload_n 0, 1) := by decide +kernel
theorem dX2_bear_1 : decode cX2_bear 1 = .ok (.getfield 60, 3) := by decide +kernel
theorem dX2_bear_4 : decode cX2_bear 4 = .ok (.ifnonnull 8, 3) := by decide +kernel
theorem dX2_bear_7 : decode cX2_bear 7 = .ok (.bipush 6, 2) := by decide +kernel
theorem dX2_bear_9 : decode cX2_bear 9 = .ok (.goto 10, 3) := by decide +kernel
theorem dX2_bear_12 : decode cX2_bear 12 = .ok (.aload_n 0, 1) := by decide +kernel
theorem dX2_bear_13 : decode cX2_bear 13 = .ok (.getfield 60, 3) := by decide +kernel
theorem dX2_bear_16 : decode cX2_bear 16 = .ok (.getfield 92, 3) := by decide +kernel
theorem dX2_bear_19 : decode cX2_bear 19 = .ok (.ireturn, 1) := by decide +kernel
theorem dX2_traitsOf_0 : decode cX2_traitsOf 0 = .ok (.aload_n 0, 1) := by decide +kernel
theorem dX2_traitsOf_1 : decode cX2_traitsOf 1 = .ok (.getfield 38, 3) := by decide +kernel
theorem dX2_traitsOf_4 : decode cX2_traitsOf 4 = .ok (.iconst 0, 1) := by decide +kernel
theorem dX2_traitsOf_5 : decode cX2_traitsOf 5 = .ok (.iload_n 1, 1) := by decide +kernel
theorem dX2_traitsOf_6 : decode cX2_traitsOf 6 = .ok (.iastore, 1) := by decide +kernel
theorem dX2_traitsOf_7 : decode cX2_traitsOf 7 = .ok (.aload_n 0, 1) := by decide +kernel
theorem dX2_traitsOf_8 : decode cX2_traitsOf 8 = .ok (.getfield 38, 3) := by decide +kernel
theorem dX2_traitsOf_11 : decode cX2_traitsOf 11 = .ok (.iconst 1, 1) := by decide +kernel
theorem dX2_traitsOf_12 : decode cX2_traitsOf 12 = .ok (.aload_n 0, 1) := by decide +kernel
theorem dX2_traitsOf_13 : decode cX2_traitsOf 13 = .ok (.getfield 9, 3) := by decide +kernel
theorem dX2_traitsOf_16 : decode cX2_traitsOf 16 = .ok (.iload_n 1, 1) := by decide +kernel
theorem dX2_traitsOf_17 : decode cX2_traitsOf 17 = .ok (.iaload, 1) := by decide +kernel
theorem dX2_traitsOf_18 : decode cX2_traitsOf 18 = .ok (.iastore, 1) := by decide +kernel
theorem dX2_traitsOf_19 : decode cX2_traitsOf 19 = .ok (.aload_n 0, 1) := by decide +kernel
theorem dX2_traitsOf_20 : decode cX2_traitsOf 20 = .ok (.getfield 38, 3) := by decide +kernel
theorem dX2_traitsOf_23 : decode cX2_traitsOf 23 = .ok (.iconst 2, 1) := by decide +kernel
theorem dX2_traitsOf_24 : decode cX2_traitsOf 24 = .ok (.aload_n 0, 1) := by decide +kernel
theorem dX2_traitsOf_25 : decode cX2_traitsOf 25 = .ok (.getfield 15, 3) := by decide +kernel
theorem dX2_traitsOf_28 : decode cX2_traitsOf 28 = .ok (.iload_n 1, 1) := by decide +kernel
theorem dX2_traitsOf_29 : decode cX2_traitsOf 29 = .ok (.iaload, 1) := by decide +kernel
theorem dX2_traitsOf_30 : decode cX2_traitsOf 30 = .ok (.iastore, 1) := by decide +kernel
theorem dX2_traitsOf_31 : decode cX2_traitsOf 31 = .ok (.aload_n 0, 1) := by decide +kernel
theorem dX2_traitsOf_32 : decode cX2_traitsOf 32 = .ok (.getfield 38, 3) := by decide +kernel
theorem dX2_traitsOf_35 : decode cX2_traitsOf 35 = .ok (.iconst 3, 1) := by decide +kernel
theorem dX2_traitsOf_36 : decode cX2_traitsOf 36 = .ok (.aload_n 0, 1) := by decide +kernel
theorem dX2_traitsOf_37 : decode cX2_traitsOf 37 = .ok (.getfield 18, 3) := by decide +kernel
theorem dX2_traitsOf_40 : decode cX2_traitsOf 40 = .ok (.iload_n 1, 1) := by decide +kernel
theorem dX2_traitsOf_41 : decode cX2_traitsOf 41 = .ok (.iaload, 1) := by decide +kernel
theorem dX2_traitsOf_42 : decode cX2_traitsOf 42 = .ok (.bipush 10, 2) := by decide +kernel
theorem dX2_traitsOf_44 : decode cX2_traitsOf 44 = .ok (.idiv, 1) := by decide +kernel
theorem dX2_traitsOf_45 : decode cX2_traitsOf 45 = .ok (.iastore, 1) := by decide +kernel
theorem dX2_traitsOf_46 : decode cX2_traitsOf 46 = .ok (.aload_n 0, 1) := by decide +kernel
theorem dX2_traitsOf_47 : decode cX2_traitsOf 47 = .ok (.getfield 38, 3) := by decide +kernel
theorem dX2_traitsOf_50 : decode cX2_traitsOf 50 = .ok (.iconst 4, 1) := by decide +kernel
theorem dX2_traitsOf_51 : decode cX2_traitsOf 51 = .ok (.iload_n 2, 1) := by decide +kernel
theorem dX2_traitsOf_52 : decode cX2_traitsOf 52 = .ok (.iastore, 1) := by decide +kernel
theorem dX2_traitsOf_53 : decode cX2_traitsOf 53 = .ok (.aload_n 0, 1) := by decide +kernel
theorem dX2_traitsOf_54 : decode cX2_traitsOf 54 = .ok (.getfield 38, 3) := by decide +kernel
theorem dX2_traitsOf_57 : decode cX2_traitsOf 57 = .ok (.iconst 5, 1) := by decide +kernel
theorem dX2_traitsOf_58 : decode cX2_traitsOf 58 = .ok (.aload_n 0, 1) := by decide +kernel
theorem dX2_traitsOf_59 : decode cX2_traitsOf 59 = .ok (.getfield 57, 3) := by decide +kernel
theorem dX2_traitsOf_62 : decode cX2_traitsOf 62 = .ok (.bipush 10, 2) := by decide +kernel
theorem dX2_traitsOf_64 : decode cX2_traitsOf 64 = .ok (.irem, 1) := by decide +kernel
theorem dX2_traitsOf_65 : decode cX2_traitsOf 65 = .ok (.iastore, 1) := by decide +kernel
theorem dX2_traitsOf_66 : decode cX2_traitsOf 66 = .ok (.aload_n 0, 1) := by decide +kernel
theorem dX2_traitsOf_67 : decode cX2_traitsOf 67 = .ok (.getfield 38, 3) := by decide +kernel
theorem dX2_traitsOf_70 : decode cX2_traitsOf 70 = .ok (.areturn, 1) := by decide +kernel
set_option maxRecDepth 20000 in
theorem ggX2_driftOf_X2_holdsHowMany : GoodIn wsX2_driftOf wsX2_holdsHowMany := goodIn_r _ [10, 11, 12, 13, 14, 9, 15, 16, 17, 37, 38, 39, 40, 41, 42, 43, 44, 45, 46, 47, 48, 49, 50] (by decide +kernel) (by decide +kernel)
set_option maxRecDepth 20000 in
theorem gX2_driftOf_X2_holdsHowMany : GoodIn wsX2_driftOf (wsV RX2 97 RX2 yX2_holdsHowMany wsX2_holdsHowMany) := goodIn_app (goodIn_of _ (by decide +kernel)) ggX2_driftOf_X2_holdsHowMany
set_option maxRecDepth 20000 in
theorem ggX2_driftOf_X2_traitsOf : GoodIn wsX2_driftOf wsX2_traitsOf := goodIn_r _ [21, 22, 3, 2, 23, 4, 37, 38, 39, 40, 41, 42, 43, 44, 45, 46, 47, 48, 49, 50] (by decide +kernel) (by decide +kernel)
set_option maxRecDepth 20000 in
theorem gX2_driftOf_X2_traitsOf : GoodIn wsX2_driftOf (wsV RX2 100 RX2 yX2_traitsOf wsX2_traitsOf) := goodIn_app (goodIn_of _ (by decide +kernel)) ggX2_driftOf_X2_traitsOf
set_option maxRecDepth 20000 in
theorem ggX2_driftOf_X3_sumFor : GoodIn wsX2_driftOf wsX3_sumFor := goodIn_r _ [28, 29, 30, 31, 32, 51, 52, 53, 54, 55] (by decide +kernel) (by decide +kernel)
set_option maxRecDepth 20000 in
theorem gX2_driftOf_X3_sumFor : GoodIn wsX2_driftOf (wsV RX2 104 RX3 yX3_sumFor wsX3_sumFor) := goodIn_app (goodIn_of _ (by decide +kernel)) ggX2_driftOf_X3_sumFor
set_option maxRecDepth 20000 in
theorem ggX2_driftOf_X2_walkerDrift : GoodIn wsX2_driftOf wsX2_walkerDrift := goodIn_r _ [36, 4, 37, 38, 39, 40, 41, 42, 43, 44, 45, 46, 47, 48, 49, 50] (by decide +kernel) (by decide +kernel)
set_option maxRecDepth 20000 in
theorem gX2_driftOf_X2_walkerDrift : GoodIn wsX2_driftOf (wsV RX2 108 RX2 yX2_walkerDrift wsX2_walkerDrift) := goodIn_app (goodIn_of _ (by decide +kernel)) ggX2_driftOf_X2_walkerDrift
theorem dX2_driftOf_0 : decode cX2_driftOf 0 = .ok (.aload_n 0, 1) := by decide +kernel
theorem dX2_driftOf_1 : decode cX2_driftOf 1 = .ok (.iload_n 1, 1) := by decide +kernel
theorem dX2_driftOf_2 : decode cX2_driftOf 2 = .ok (.invokevirtual 97, 3) := by decide +kernel
theorem dX2_driftOf_5 : decode cX2_driftOf 5 = .ok (.istore_n 2, 1) := by decide +kernel
theorem dX2_driftOf_6 : decode cX2_driftOf 6 = .ok (.aload_n 0, 1) := by decide +kernel
theorem dX2_driftOf_7 : decode cX2_driftOf 7 = .ok (.getfield 60, 3) := by decide +kernel
theorem dX2_driftOf_10 : decode cX2_driftOf 10 = .ok (.ifnonnull 7, 3) := by decide +kernel
theorem dX2_driftOf_13 : decode cX2_driftOf 13 = .ok (.iconst 0, 1) := by decide +kernel
theorem dX2_driftOf_14 : decode cX2_driftOf 14 = .ok (.goto 16, 3) := by decide +kernel
theorem dX2_driftOf_17 : decode cX2_driftOf 17 = .ok (.aload_n 0, 1) := by decide +kernel
theorem dX2_driftOf_18 : decode cX2_driftOf 18 = .ok (.getfield 60, 3) := by decide +kernel
theorem dX2_driftOf_21 : decode cX2_driftOf 21 = .ok (.aload_n 0, 1) := by decide +kernel
theorem dX2_driftOf_22 : decode cX2_driftOf 22 = .ok (.iload_n 1, 1) := by decide +kernel
theorem dX2_driftOf_23 : decode cX2_driftOf 23 = .ok (.iload_n 2, 1) := by decide +kernel
theorem dX2_driftOf_24 : decode cX2_driftOf 24 = .ok (.invokevirtual 100, 3) := by decide +kernel
theorem dX2_driftOf_27 : decode cX2_driftOf 27 = .ok (.invokevirtual 104, 3) := by decide +kernel
theorem dX2_driftOf_30 : decode cX2_driftOf 30 = .ok (.istore_n 3, 1) := by decide +kernel
theorem dX2_driftOf_31 : decode cX2_driftOf 31 = .ok (.iload_n 2, 1) := by decide +kernel
theorem dX2_driftOf_32 : decode cX2_driftOf 32 = .ok (.ifCond .le 14, 3) := by decide +kernel
theorem dX2_driftOf_35 : decode cX2_driftOf 35 = .ok (.iload_n 3, 1) := by decide +kernel
theorem dX2_driftOf_36 : decode cX2_driftOf 36 = .ok (.aload_n 0, 1) := by decide +kernel
theorem dX2_driftOf_37 : decode cX2_driftOf 37 = .ok (.getfield 15, 3) := by decide +kernel
theorem dX2_driftOf_40 : decode cX2_driftOf 40 = .ok (.iload_n 1, 1) := by decide +kernel
theorem dX2_driftOf_41 : decode cX2_driftOf 41 = .ok (.iaload, 1) := by decide +kernel
theorem dX2_driftOf_42 : decode cX2_driftOf 42 = .ok (.iadd, 1) := by decide +kernel
theorem dX2_driftOf_43 : decode cX2_driftOf 43 = .ok (.goto 4, 3) := by decide +kernel
theorem dX2_driftOf_46 : decode cX2_driftOf 46 = .ok (.iload_n 3, 1) := by decide +kernel
theorem dX2_driftOf_47 : decode cX2_driftOf 47 = .ok (.istore 4, 2) := by decide +kernel
theorem dX2_driftOf_49 : decode cX2_driftOf 49 = .ok (.aload_n 0, 1) := by decide +kernel
theorem dX2_driftOf_50 : decode cX2_driftOf 50 = .ok (.getfield 9, 3) := by decide +kernel
theorem dX2_driftOf_53 : decode cX2_driftOf 53 = .ok (.iload_n 1, 1) := by decide +kernel
theorem dX2_driftOf_54 : decode cX2_driftOf 54 = .ok (.iaload, 1) := by decide +kernel
theorem dX2_driftOf_55 : decode cX2_driftOf 55 = .ok (.tableswitch 96 1 6 #[37, 40, 44, 50, 66, 72], 37) := by decide +kernel
theorem dX2_driftOf_92 : decode cX2_driftOf 92 = .ok (.iload 4, 2) := by decide +kernel
theorem dX2_driftOf_94 : decode cX2_driftOf 94 = .ok (.ireturn, 1) := by decide +kernel
theorem dX2_driftOf_95 : decode cX2_driftOf 95 = .ok (.iload_n 3, 1) := by decide +kernel
theorem dX2_driftOf_96 : decode cX2_driftOf 96 = .ok (.iconst 2, 1) := by decide +kernel
theorem dX2_driftOf_97 : decode cX2_driftOf 97 = .ok (.idiv, 1) := by decide +kernel
theorem dX2_driftOf_98 : decode cX2_driftOf 98 = .ok (.ireturn, 1) := by decide +kernel
theorem dX2_driftOf_99 : decode cX2_driftOf 99 = .ok (.aload_n 0, 1) := by decide +kernel
theorem dX2_driftOf_100 : decode cX2_driftOf 100 = .ok (.iload_n 3, 1) := by decide +kernel
theorem dX2_driftOf_101 : decode cX2_driftOf 101 = .ok (.invokevirtual 108, 3) := by decide +kernel
theorem dX2_driftOf_104 : decode cX2_driftOf 104 = .ok (.ireturn, 1) := by decide +kernel
theorem dX2_driftOf_105 : decode cX2_driftOf 105 = .ok (.aload_n 0, 1) := by decide +kernel
theorem dX2_driftOf_106 : decode cX2_driftOf 106 = .ok (.getfield 57, 3) := by decide +kernel
theorem dX2_driftOf_109 : decode cX2_driftOf 109 = .ok (.iconst 2, 1) := by decide +kernel
theorem dX2_driftOf_110 : decode cX2_driftOf 110 = .ok (.irem, 1) := by decide +kernel
theorem dX2_driftOf_111 : decode cX2_driftOf 111 = .ok (.ifCond .ne 7, 3) := by decide +kernel
theorem dX2_driftOf_114 : decode cX2_driftOf 114 = .ok (.iconst 0, 1) := by decide +kernel
theorem dX2_driftOf_115 : decode cX2_driftOf 115 = .ok (.goto 5, 3) := by decide +kernel
theorem dX2_driftOf_118 : decode cX2_driftOf 118 = .ok (.iload 4, 2) := by decide +kernel
theorem dX2_driftOf_120 : decode cX2_driftOf 120 = .ok (.ireturn, 1) := by decide +kernel
theorem dX2_driftOf_121 : decode cX2_driftOf 121 = .ok (.iload_n 3, 1) := by decide +kernel
theorem dX2_driftOf_122 : decode cX2_driftOf 122 = .ok (.iconst 2, 1) := by decide +kernel
theorem dX2_driftOf_123 : decode cX2_driftOf 123 = .ok (.idiv, 1) := by decide +kernel
theorem dX2_driftOf_124 : decode cX2_driftOf 124 = .ok (.iload_n 2, 1) := by decide +kernel
theorem dX2_driftOf_125 : decode cX2_driftOf 125 = .ok (.iadd, 1) := by decide +kernel
theorem dX2_driftOf_126 : decode cX2_driftOf 126 = .ok (.ireturn, 1) := by decide +kernel
theorem dX2_driftOf_127 : decode cX2_driftOf 127 = .ok (.aload_n 0, 1) := by decide +kernel
theorem dX2_driftOf_128 : decode cX2_driftOf 128 = .ok (.iload_n 3, 1) := by decide +kernel
theorem dX2_driftOf_129 : decode cX2_driftOf 129 = .ok (.invokevirtual 108, 3) := by decide +kernel
theorem dX2_driftOf_132 : decode cX2_driftOf 132 = .ok (.aload_n 0, 1) := by decide +kernel
theorem dX2_driftOf_133 : decode cX2_driftOf 133 = .ok (.getfield 21, 3) := by decide +kernel
theorem dX2_driftOf_136 : decode cX2_driftOf 136 = .ok (.iload_n 1, 1) := by decide +kernel
theorem dX2_driftOf_137 : decode cX2_driftOf 137 = .ok (.iconst 4, 1) := by decide +kernel
theorem dX2_driftOf_138 : decode cX2_driftOf 138 = .ok (.imul, 1) := by decide +kernel
theorem dX2_driftOf_139 : decode cX2_driftOf 139 = .ok (.aload_n 0, 1) := by decide +kernel
theorem dX2_driftOf_140 : decode cX2_driftOf 140 = .ok (.getfield 57, 3) := by decide +kernel
theorem dX2_driftOf_143 : decode cX2_driftOf 143 = .ok (.iconst 4, 1) := by decide +kernel
theorem dX2_driftOf_144 : decode cX2_driftOf 144 = .ok (.irem, 1) := by decide +kernel
theorem dX2_driftOf_145 : decode cX2_driftOf 145 = .ok (.iadd, 1) := by decide +kernel
theorem dX2_driftOf_146 : decode cX2_driftOf 146 = .ok (.iaload, 1) := by decide +kernel
theorem dX2_driftOf_147 : decode cX2_driftOf 147 = .ok (.iadd, 1) := by decide +kernel
theorem dX2_driftOf_148 : decode cX2_driftOf 148 = .ok (.iconst 4, 1) := by decide +kernel
theorem dX2_driftOf_149 : decode cX2_driftOf 149 = .ok (.isub, 1) := by decide +kernel
theorem dX2_driftOf_150 : decode cX2_driftOf 150 = .ok (.ireturn, 1) := by decide +kernel
theorem dX2_driftOf_151 : decode cX2_driftOf 151 = .ok (.iload_n 3, 1) := by decide +kernel
theorem dX2_driftOf_152 : decode cX2_driftOf 152 = .ok (.ireturn, 1) := by decide +kernel
theorem dX2_walkerDrift_0 : decode cX2_walkerDrift 0 = .ok (.aload_n 0, 1) := by decide +kernel
theorem dX2_walkerDrift_1 : decode cX2_walkerDrift 1 = .ok (.getfield 57, 3) := by decide +kernel
theorem dX2_walkerDrift_4 : decode cX2_walkerDrift 4 = .ok (.bipush 8, 2) := by decide +kernel
theorem dX2_walkerDrift_6 : decode cX2_walkerDrift 6 = .ok (.irem, 1) := by decide +kernel
theorem dX2_walkerDrift_7 : decode cX2_walkerDrift 7 = .ok (.iconst 4, 1) := by decide +kernel
theorem dX2_walkerDrift_8 : decode cX2_walkerDrift 8 = .ok (.if_icmp .lt 8, 3) := by decide +kernel
theorem dX2_walkerDrift_11 : decode cX2_walkerDrift 11 = .ok (.iload_n 1, 1) := by decide +kernel
theorem dX2_walkerDrift_12 : decode cX2_walkerDrift 12 = .ok (.ineg, 1) := by decide +kernel
theorem dX2_walkerDrift_13 : decode cX2_walkerDrift 13 = .ok (.goto 4, 3) := by decide +kernel
theorem dX2_walkerDrift_16 : decode cX2_walkerDrift 16 = .ok (.iload_n 1, 1) := by decide +kernel
theorem dX2_walkerDrift_17 : decode cX2_walkerDrift 17 = .ok (.ireturn, 1) := by decide +kernel
set_option maxRecDepth 20000 in
theorem ggX2_goOne_X2_driftOf : GoodIn wsX2_goOne wsX2_driftOf := goodIn_r _ [17, 18, 19, 20, 12, 21, 22, 23, 24, 16, 25, 11, 26, 27, 28, 29, 30, 31, 32, 33, 34, 35, 36, 3, 37, 38, 39, 40, 41, 42, 43, 44, 45, 46, 47, 48, 49, 84, 85, 86, 87, 88, 89, 90, 91, 92, 93, 94, 95, 96, 97, 98, 99, 100, 101, 102] (by decide +kernel) (by decide +kernel)
set_option maxRecDepth 20000 in
theorem gX2_goOne_X2_driftOf : GoodIn wsX2_goOne (wsV RX2 111 RX2 yX2_driftOf wsX2_driftOf) := goodIn_app (goodIn_of _ (by decide +kernel)) ggX2_goOne_X2_driftOf
set_option maxRecDepth 20000 in
theorem ggX2_goOne_X2_isTaut : GoodIn wsX2_goOne wsX2_isTaut := goodIn_r _ [53, 54, 55, 56, 16, 57, 30, 58, 59, 60, 61, 3, 31, 62, 63, 6, 64, 65, 84, 85, 86, 87, 88, 89, 90, 91, 92, 93, 94, 95, 96, 97] (by decide +kernel) (by decide +kernel)
set_option maxRecDepth 20000 in
theorem gX2_goOne_X2_isTaut : GoodIn wsX2_goOne (wsV RX2 89 RX2 yX2_isTaut wsX2_isTaut) := goodIn_app (goodIn_of _ (by decide +kernel)) ggX2_goOne_X2_isTaut
set_option maxRecDepth 20000 in
theorem ggX2_goOne_X2_strain : GoodIn wsX2_goOne wsX2_strain := goodIn_r _ [69, 70, 3, 30, 31, 58, 59, 60, 16, 61, 62, 63, 6, 64, 65, 71, 72, 73, 74, 18, 75, 76, 77, 78, 79, 80, 81, 82, 83, 84, 85, 86, 87, 88, 89, 90, 91, 92, 93, 94, 95, 96, 97, 98, 99, 100, 101, 102] (by decide +kernel) (by decide +kernel)
set_option maxRecDepth 20000 in
theorem gX2_goOne_X2_strain : GoodIn wsX2_goOne (wsV RX2 121 RX2 yX2_strain wsX2_strain) := goodIn_app (goodIn_of _ (by decide +kernel)) ggX2_goOne_X2_strain
theorem dX2_goOne_0 : decode cX2_goOne 0 = .ok (.iconst 0, 1) := by decide +kernel
theorem dX2_goOne_1 : decode cX2_goOne 1 = .ok (.istore_n 1, 1) := by decide +kernel
theorem dX2_goOne_2 : decode cX2_goOne 2 = .ok (.iload_n 1, 1) := by decide +kernel
theorem dX2_goOne_3 : decode cX2_goOne 3 = .ok (.aload_n 0, 1) := by decide +kernel
theorem dX2_goOne_4 : decode cX2_goOne 4 = .ok (.getfield 41, 3) := by decide +kernel
theorem dX2_goOne_7 : decode cX2_goOne 7 = .ok (.if_icmp .ge 20, 3) := by decide +kernel
theorem dX2_goOne_10 : decode cX2_goOne 10 = .ok (.aload_n 0, 1) := by decide +kernel
theorem dX2_goOne_11 : decode cX2_goOne 11 = .ok (.getfield 33, 3) := by decide +kernel
theorem dX2_goOne_14 : decode cX2_goOne 14 = .ok (.iload_n 1, 1) := by decide +kernel
theorem dX2_goOne_15 : decode cX2_goOne 15 = .ok (.aload_n 0, 1) := by decide +kernel
theorem dX2_goOne_16 : decode cX2_goOne 16 = .ok (.iload_n 1, 1) := by decide +kernel
theorem dX2_goOne_17 : decode cX2_goOne 17 = .ok (.invokevirtual 111, 3) := by decide +kernel
theorem dX2_goOne_20 : decode cX2_goOne 20 = .ok (.iastore, 1) := by decide +kernel
theorem dX2_goOne_21 : decode cX2_goOne 21 = .ok (.iinc 1 1, 3) := by decide +kernel
theorem dX2_goOne_24 : decode cX2_goOne 24 = .ok (.goto (-22), 3) := by decide +kernel
theorem dX2_goOne_27 : decode cX2_goOne 27 = .ok (.iconst 0, 1) := by decide +kernel
theorem dX2_goOne_28 : decode cX2_goOne 28 = .ok (.istore_n 1, 1) := by decide +kernel
theorem dX2_goOne_29 : decode cX2_goOne 29 = .ok (.iload_n 1, 1) := by decide +kernel
theorem dX2_goOne_30 : decode cX2_goOne 30 = .ok (.aload_n 0, 1) := by decide +kernel
theorem dX2_goOne_31 : decode cX2_goOne 31 = .ok (.getfield 41, 3) := by decide +kernel
theorem dX2_goOne_34 : decode cX2_goOne 34 = .ok (.if_icmp .ge 37, 3) := by decide +kernel
theorem dX2_goOne_37 : decode cX2_goOne 37 = .ok (.aload_n 0, 1) := by decide +kernel
theorem dX2_goOne_38 : decode cX2_goOne 38 = .ok (.getfield 18, 3) := by decide +kernel
theorem dX2_goOne_41 : decode cX2_goOne 41 = .ok (.iload_n 1, 1) := by decide +kernel
theorem dX2_goOne_42 : decode cX2_goOne 42 = .ok (.iconst 0, 1) := by decide +kernel
theorem dX2_goOne_43 : decode cX2_goOne 43 = .ok (.bipush 99, 2) := by decide +kernel
theorem dX2_goOne_45 : decode cX2_goOne 45 = .ok (.aload_n 0, 1) := by decide +kernel
theorem dX2_goOne_46 : decode cX2_goOne 46 = .ok (.getfield 18, 3) := by decide +kernel
theorem dX2_goOne_49 : decode cX2_goOne 49 = .ok (.iload_n 1, 1) := by decide +kernel
theorem dX2_goOne_50 : decode cX2_goOne 50 = .ok (.iaload, 1) := by decide +kernel
theorem dX2_goOne_51 : decode cX2_goOne 51 = .ok (.aload_n 0, 1) := by decide +kernel
theorem dX2_goOne_52 : decode cX2_goOne 52 = .ok (.getfield 33, 3) := by decide +kernel
theorem dX2_goOne_55 : decode cX2_goOne 55 = .ok (.iload_n 1, 1) := by decide +kernel
theorem dX2_goOne_56 : decode cX2_goOne 56 = .ok (.iaload, 1) := by decide +kernel
theorem dX2_goOne_57 : decode cX2_goOne 57 = .ok (.iadd, 1) := by decide +kernel
theorem dX2_goOne_58 : decode cX2_goOne 58 = .ok (.invokestatic 114, 3) := by decide +kernel
theorem dX2_goOne_61 : decode cX2_goOne 61 = .ok (.invokestatic 118, 3) := by decide +kernel
theorem dX2_goOne_64 : decode cX2_goOne 64 = .ok (.iastore, 1) := by decide +kernel
theorem dX2_goOne_65 : decode cX2_goOne 65 = .ok (.iinc 1 1, 3) := by decide +kernel
theorem dX2_goOne_68 : decode cX2_goOne 68 = .ok (.goto (-39), 3) := by decide +kernel
theorem dX2_goOne_71 : decode cX2_goOne 71 = .ok (.iconst 0, 1) := by decide +kernel
theorem dX2_goOne_72 : decode cX2_goOne 72 = .ok (.istore_n 1, 1) := by decide +kernel
theorem dX2_goOne_73 : decode cX2_goOne 73 = .ok (.iload_n 1, 1) := by decide +kernel
theorem dX2_goOne_74 : decode cX2_goOne 74 = .ok (.aload_n 0, 1) := by decide +kernel
theorem dX2_goOne_75 : decode cX2_goOne 75 = .ok (.getfield 51, 3) := by decide +kernel
theorem dX2_goOne_78 : decode cX2_goOne 78 = .ok (.if_icmp .ge 22, 3) := by decide +kernel
theorem dX2_goOne_81 : decode cX2_goOne 81 = .ok (.aload_n 0, 1) := by decide +kernel
theorem dX2_goOne_82 : decode cX2_goOne 82 = .ok (.iload_n 1, 1) := by decide +kernel
theorem dX2_goOne_83 : decode cX2_goOne 83 = .ok (.invokevirtual 89, 3) := by decide +kernel
theorem dX2_goOne_86 : decode cX2_goOne 86 = .ok (.ifCond .eq 8, 3) := by decide +kernel
theorem dX2_goOne_89 : decode cX2_goOne 89 = .ok (.aload_n 0, 1) := by decide +kernel
theorem dX2_goOne_90 : decode cX2_goOne 90 = .ok (.iload_n 1, 1) := by decide +kernel
theorem dX2_goOne_91 : decode cX2_goOne 91 = .ok (.invokevirtual 121, 3) := by decide +kernel
theorem dX2_goOne_94 : decode cX2_goOne 94 = .ok (.iinc 1 1, 3) := by decide +kernel
theorem dX2_goOne_97 : decode cX2_goOne 97 = .ok (.goto (-24), 3) := by decide +kernel
theorem dX2_goOne_100 : decode cX2_goOne 100 = .ok (.aload_n 0, 1) := by decide +kernel
theorem dX2_goOne_101 : decode cX2_goOne 101 = .ok (.dup, 1) := by decide +kernel
theorem dX2_goOne_102 : decode cX2_goOne 102 = .ok (.getfield 57, 3) := by decide +kernel
theorem dX2_goOne_105 : decode cX2_goOne 105 = .ok (.iconst 1, 1) := by decide +kernel
theorem dX2_goOne_106 : decode cX2_goOne 106 = .ok (.iadd, 1) := by decide +kernel
theorem dX2_goOne_107 : decode cX2_goOne 107 = .ok (.putfield 57, 3) := by decide +kernel
theorem dX2_goOne_110 : decode cX2_goOne 110 = .ok (.return_, 1) := by decide +kernel
set_option maxRecDepth 20000 in
theorem ggX2_goOn_X2_goOne : GoodIn wsX2_goOn wsX2_goOne := goodIn_r _ [5, 6, 7, 8, 9, 10, 11, 12, 13, 14, 15, 16, 17, 18, 19, 20, 4, 21, 22, 23, 24, 25, 26, 27, 28, 29, 30, 31, 32, 33, 34, 35, 36, 37, 38, 39, 40, 41, 42, 43, 44, 45, 46, 47, 48, 49, 50, 51, 52, 53, 54, 55, 56, 57, 58, 59, 60, 61, 62, 63, 64, 65, 66, 67, 68, 69, 70, 71, 72, 73, 74, 75, 76, 77, 78, 79, 80, 81, 82, 83, 84, 85, 86, 87, 88, 89, 90, 91, 92, 93, 94, 95, 96, 97, 98, 99, 100, 101, 102, 103, 104, 105, 106] (by decide +kernel) (by decide +kernel)
set_option maxRecDepth 20000 in
theorem gX2_goOn_X2_goOne : GoodIn wsX2_goOn (wsV RX2 124 RX2 yX2_goOne wsX2_goOne) := goodIn_app (goodIn_of _ (by decide +kernel)) ggX2_goOn_X2_goOne
theorem dX2_goOn_0 : decode cX2_goOn 0 = .ok (.iconst 0, 1) := by decide +kernel
theorem dX2_goOn_1 : decode cX2_goOn 1 = .ok (.istore_n 2, 1) := by decide +kernel
theorem dX2_goOn_2 : decode cX2_goOn 2 = .ok (.iload_n 2, 1) := by decide +kernel
theorem dX2_goOn_3 : decode cX2_goOn 3 = .ok (.iload_n 1, 1) := by decide +kernel
theorem dX2_goOn_4 : decode cX2_goOn 4 = .ok (.if_icmp .ge 13, 3) := by decide +kernel
theorem dX2_goOn_7 : decode cX2_goOn 7 = .ok (.aload_n 0, 1) := by decide +kernel
theorem dX2_goOn_8 : decode cX2_goOn 8 = .ok (.invokevirtual 124, 3) := by decide +kernel
theorem dX2_goOn_11 : decode cX2_goOn 11 = .ok (.iinc 2 1, 3) := by decide +kernel
theorem dX2_goOn_14 : decode cX2_goOn 14 = .ok (.goto (-12), 3) := by decide +kernel
theorem dX2_goOn_17 : decode cX2_goOn 17 = .ok (.return_, 1) := by decide +kernel
set_option maxRecDepth 20000 in
theorem ggX2_strain_X2_gapOf : GoodIn wsX2_strain wsX2_gapOf := goodIn_r _ [9, 2, 3, 4, 10, 11, 12, 13, 14, 29, 30, 31, 32, 33, 34, 35, 36, 37, 38, 39, 40, 41, 42] (by decide +kernel) (by decide +kernel)
set_option maxRecDepth 20000 in
theorem gX2_strain_X2_gapOf : GoodIn wsX2_strain (wsV RX2 86 RX2 yX2_gapOf wsX2_gapOf) := goodIn_app (goodIn_of _ (by decide +kernel)) ggX2_strain_X2_gapOf
set_option maxRecDepth 20000 in
theorem ggX2_strain_X2_bear : GoodIn wsX2_strain wsX2_bear := goodIn_r _ [18, 19, 20, 29, 30, 31, 32, 33, 34, 35, 36, 37, 38, 39, 40, 41, 42, 43, 44, 45, 46, 47] (by decide +kernel) (by decide +kernel)
set_option maxRecDepth 20000 in
theorem gX2_strain_X2_bear : GoodIn wsX2_strain (wsV RX2 127 RX2 yX2_bear wsX2_bear) := goodIn_app (goodIn_of _ (by decide +kernel)) ggX2_strain_X2_bear
set_option maxRecDepth 20000 in
theorem ggX2_strain_X2_letGo : GoodIn wsX2_strain wsX2_letGo := goodIn_r _ [24, 25, 26, 27, 8, 28, 3, 4, 29, 30, 31, 32, 33, 34, 35, 36, 37, 38, 39, 40, 41, 42] (by decide +kernel) (by decide +kernel)
set_option maxRecDepth 20000 in
theorem gX2_strain_X2_letGo : GoodIn wsX2_strain (wsV RX2 64 RX2 yX2_letGo wsX2_letGo) := goodIn_app (goodIn_of _ (by decide +kernel)) ggX2_strain_X2_letGo
theorem dX2_strain_0 : decode cX2_strain 0 = .ok (.aload_n 0, 1) := by decide +kernel
theorem dX2_strain_1 : decode cX2_strain 1 = .ok (.iload_n 1, 1) := by decide +kernel
theorem dX2_strain_2 : decode cX2_strain 2 = .ok (.invokevirtual 86, 3) := by decide +kernel
theorem dX2_strain_5 : decode cX2_strain 5 = .ok (.aload_n 0, 1) := by decide +kernel
theorem dX2_strain_6 : decode cX2_strain 6 = .ok (.invokevirtual 127, 3) := by decide +kernel
theorem dX2_strain_9 : decode cX2_strain 9 = .ok (.if_icmp .le 19, 3) := by decide +kernel
theorem dX2_strain_12 : decode cX2_strain 12 = .ok (.aload_n 0, 1) := by decide +kernel
theorem dX2_strain_13 : decode cX2_strain 13 = .ok (.iload_n 1, 1) := by decide +kernel
theorem dX2_strain_14 : decode cX2_strain 14 = .ok (.invokevirtual 64, 3) := by decide +kernel
theorem dX2_strain_17 : decode cX2_strain 17 = .ok (.aload_n 0, 1) := by decide +kernel
theorem dX2_strain_18 : decode cX2_strain 18 = .ok (.dup, 1) := by decide +kernel
theorem dX2_strain_19 : decode cX2_strain 19 = .ok (.getfield 54, 3) := by decide +kernel
theorem dX2_strain_22 : decode cX2_strain 22 = .ok (.iconst 1, 1) := by decide +kernel
theorem dX2_strain_23 : decode cX2_strain 23 = .ok (.iadd, 1) := by decide +kernel
theorem dX2_strain_24 : decode cX2_strain 24 = .ok (.putfield 54, 3) := by decide +kernel
theorem dX2_strain_27 : decode cX2_strain 27 = .ok (.return_, 1) := by decide +kernel
theorem dX2_strain_28 : decode cX2_strain 28 = .ok (.aload_n 0, 1) := by decide +kernel
theorem dX2_strain_29 : decode cX2_strain 29 = .ok (.getfield 18, 3) := by decide +kernel
theorem dX2_strain_32 : decode cX2_strain 32 = .ok (.aload_n 0, 1) := by decide +kernel
theorem dX2_strain_33 : decode cX2_strain 33 = .ok (.getfield 27, 3) := by decide +kernel
theorem dX2_strain_36 : decode cX2_strain 36 = .ok (.iload_n 1, 1) := by decide +kernel
theorem dX2_strain_37 : decode cX2_strain 37 = .ok (.iaload, 1) := by decide +kernel
theorem dX2_strain_38 : decode cX2_strain 38 = .ok (.iaload, 1) := by decide +kernel
theorem dX2_strain_39 : decode cX2_strain 39 = .ok (.aload_n 0, 1) := by decide +kernel
theorem dX2_strain_40 : decode cX2_strain 40 = .ok (.getfield 18, 3) := by decide +kernel
theorem dX2_strain_43 : decode cX2_strain 43 = .ok (.aload_n 0, 1) := by decide +kernel
theorem dX2_strain_44 : decode cX2_strain 44 = .ok (.getfield 30, 3) := by decide +kernel
theorem dX2_strain_47 : decode cX2_strain 47 = .ok (.iload_n 1, 1) := by decide +kernel
theorem dX2_strain_48 : decode cX2_strain 48 = .ok (.iaload, 1) := by decide +kernel
theorem dX2_strain_49 : decode cX2_strain 49 = .ok (.iaload, 1) := by decide +kernel
theorem dX2_strain_50 : decode cX2_strain 50 = .ok (.if_icmp .ge 7, 3) := by decide +kernel
theorem dX2_strain_53 : decode cX2_strain 53 = .ok (.iconst 1, 1) := by decide +kernel
theorem dX2_strain_54 : decode cX2_strain 54 = .ok (.goto 4, 3) := by decide +kernel
theorem dX2_strain_57 : decode cX2_strain 57 = .ok (.iconst (-1), 1) := by decide +kernel
theorem dX2_strain_58 : decode cX2_strain 58 = .ok (.istore_n 2, 1) := by decide +kernel
theorem dX2_strain_59 : decode cX2_strain 59 = .ok (.aload_n 0, 1) := by decide +kernel
theorem dX2_strain_60 : decode cX2_strain 60 = .ok (.getfield 18, 3) := by decide +kernel
theorem dX2_strain_63 : decode cX2_strain 63 = .ok (.aload_n 0, 1) := by decide +kernel
theorem dX2_strain_64 : decode cX2_strain 64 = .ok (.getfield 27, 3) := by decide +kernel
theorem dX2_strain_67 : decode cX2_strain 67 = .ok (.iload_n 1, 1) := by decide +kernel
theorem dX2_strain_68 : decode cX2_strain 68 = .ok (.iaload, 1) := by decide +kernel
theorem dX2_strain_69 : decode cX2_strain 69 = .ok (.dup2, 1) := by decide +kernel
theorem dX2_strain_70 : decode cX2_strain 70 = .ok (.iaload, 1) := by decide +kernel
theorem dX2_strain_71 : decode cX2_strain 71 = .ok (.iload_n 2, 1) := by decide +kernel
theorem dX2_strain_72 : decode cX2_strain 72 = .ok (.iadd, 1) := by decide +kernel
theorem dX2_strain_73 : decode cX2_strain 73 = .ok (.iastore, 1) := by decide +kernel
theorem dX2_strain_74 : decode cX2_strain 74 = .ok (.aload_n 0, 1) := by decide +kernel
theorem dX2_strain_75 : decode cX2_strain 75 = .ok (.getfield 18, 3) := by decide +kernel
theorem dX2_strain_78 : decode cX2_strain 78 = .ok (.aload_n 0, 1) := by decide +kernel
theorem dX2_strain_79 : decode cX2_strain 79 = .ok (.getfield 30, 3) := by decide +kernel
theorem dX2_strain_82 : decode cX2_strain 82 = .ok (.iload_n 1, 1) := by decide +kernel
theorem dX2_strain_83 : decode cX2_strain 83 = .ok (.iaload, 1) := by decide +kernel
theorem dX2_strain_84 : decode cX2_strain 84 = .ok (.dup2, 1) := by decide +kernel
theorem dX2_strain_85 : decode cX2_strain 85 = .ok (.iaload, 1) := by decide +kernel
theorem dX2_strain_86 : decode cX2_strain 86 = .ok (.iload_n 2, 1) := by decide +kernel
theorem dX2_strain_87 : decode cX2_strain 87 = .ok (.isub, 1) := by decide +kernel
theorem dX2_strain_88 : decode cX2_strain 88 = .ok (.iastore, 1) := by decide +kernel
theorem dX2_strain_89 : decode cX2_strain 89 = .ok (.return_, 1) := by decide +kernel
set_option maxRecDepth 20000 in
theorem ggX2_letGoAllBut_X2_letGo : GoodIn wsX2_letGoAllBut wsX2_letGo := goodIn_r _ [6, 7, 8, 9, 5, 10, 11, 12, 13, 14, 15, 16, 17, 18, 19, 20, 21, 22, 23, 24, 25, 26] (by decide +kernel) (by decide +kernel)
set_option maxRecDepth 20000 in
theorem gX2_letGoAllBut_X2_letGo : GoodIn wsX2_letGoAllBut (wsV RX2 64 RX2 yX2_letGo wsX2_letGo) := goodIn_app (goodIn_of _ (by decide +kernel)) ggX2_letGoAllBut_X2_letGo
theorem dX2_letGoAllBut_0 : decode cX2_letGoAllBut 0 = .ok (.iconst 0, 1) := by decide +kernel
theorem dX2_letGoAllBut_1 : decode cX2_letGoAllBut 1 = .ok (.istore_n 2, 1) := by decide +kernel
theorem dX2_letGoAllBut_2 : decode cX2_letGoAllBut 2 = .ok (.iload_n 2, 1) := by decide +kernel
theorem dX2_letGoAllBut_3 : decode cX2_letGoAllBut 3 = .ok (.aload_n 0, 1) := by decide +kernel
theorem dX2_letGoAllBut_4 : decode cX2_letGoAllBut 4 = .ok (.getfield 51, 3) := by decide +kernel
theorem dX2_letGoAllBut_7 : decode cX2_letGoAllBut 7 = .ok (.if_icmp .ge 22, 3) := by decide +kernel
theorem dX2_letGoAllBut_10 : decode cX2_letGoAllBut 10 = .ok (.iload_n 1, 1) := by decide +kernel
theorem dX2_letGoAllBut_11 : decode cX2_letGoAllBut 11 = .ok (.iconst 1, 1) := by decide +kernel
theorem dX2_letGoAllBut_12 : decode cX2_letGoAllBut 12 = .ok (.iload_n 2, 1) := by decide +kernel
theorem dX2_letGoAllBut_13 : decode cX2_letGoAllBut 13 = .ok (.ishl, 1) := by decide +kernel
theorem dX2_letGoAllBut_14 : decode cX2_letGoAllBut 14 = .ok (.iand, 1) := by decide +kernel
theorem dX2_letGoAllBut_15 : decode cX2_letGoAllBut 15 = .ok (.ifCond .ne 8, 3) := by decide +kernel
theorem dX2_letGoAllBut_18 : decode cX2_letGoAllBut 18 = .ok (.aload_n 0, 1) := by decide +kernel
theorem dX2_letGoAllBut_19 : decode cX2_letGoAllBut 19 = .ok (.iload_n 2, 1) := by decide +kernel
theorem dX2_letGoAllBut_20 : decode cX2_letGoAllBut 20 = .ok (.invokevirtual 64, 3) := by decide +kernel
theorem dX2_letGoAllBut_23 : decode cX2_letGoAllBut 23 = .ok (.iinc 2 1, 3) := by decide +kernel
theorem dX2_letGoAllBut_26 : decode cX2_letGoAllBut 26 = .ok (.goto (-24), 3) := by decide +kernel
theorem dX2_letGoAllBut_29 : decode cX2_letGoAllBut 29 = .ok (.return_, 1) := by decide +kernel
theorem dX2_changePlaces_0 : decode cX2_changePlaces 0 = .ok (.aload_n 0, 1) := by decide +kernel
theorem dX2_changePlaces_1 : decode cX2_changePlaces 1 = .ok (.getfield 18, 3) := by decide +kernel
theorem dX2_changePlaces_4 : decode cX2_changePlaces 4 = .ok (.iload_n 1, 1) := by decide +kernel
theorem dX2_changePlaces_5 : decode cX2_changePlaces 5 = .ok (.iaload, 1) := by decide +kernel
theorem dX2_changePlaces_6 : decode cX2_changePlaces 6 = .ok (.istore_n 3, 1) := by decide +kernel
theorem dX2_changePlaces_7 : decode cX2_changePlaces 7 = .ok (.aload_n 0, 1) := by decide +kernel
theorem dX2_changePlaces_8 : decode cX2_changePlaces 8 = .ok (.getfield 18, 3) := by decide +kernel
theorem dX2_changePlaces_11 : decode cX2_changePlaces 11 = .ok (.iload_n 1, 1) := by decide +kernel
theorem dX2_changePlaces_12 : decode cX2_changePlaces 12 = .ok (.aload_n 0, 1) := by decide +kernel
theorem dX2_changePlaces_13 : decode cX2_changePlaces 13 = .ok (.getfield 18, 3) := by decide +kernel
theorem dX2_changePlaces_16 : decode cX2_changePlaces 16 = .ok (.iload_n 2, 1) := by decide +kernel
theorem dX2_changePlaces_17 : decode cX2_changePlaces 17 = .ok (.iaload, 1) := by decide +kernel
theorem dX2_changePlaces_18 : decode cX2_changePlaces 18 = .ok (.iastore, 1) := by decide +kernel
theorem dX2_changePlaces_19 : decode cX2_changePlaces 19 = .ok (.aload_n 0, 1) := by decide +kernel
theorem dX2_changePlaces_20 : decode cX2_changePlaces 20 = .ok (.getfield 18, 3) := by decide +kernel
theorem dX2_changePlaces_23 : decode cX2_changePlaces 23 = .ok (.iload_n 2, 1) := by decide +kernel
theorem dX2_changePlaces_24 : decode cX2_changePlaces 24 = .ok (.iload_n 3, 1) := by decide +kernel
theorem dX2_changePlaces_25 : decode cX2_changePlaces 25 = .ok (.iastore, 1) := by decide +kernel
theorem dX2_changePlaces_26 : decode cX2_changePlaces 26 = .ok (.return_, 1) := by decide +kernel

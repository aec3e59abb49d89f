theorem dX5_init_0 : decode cX5_init 0 = .ok (.aload_n 0, 1) := by decide +kernel
theorem dX5_init_1 : decode cX5_init 1 = .ok (.invokespecial 3, 3) := by decide +kernel
theorem dX5_init_4 : decode cX5_init 4 = .ok (.aload_n 0, 1) := by decide +kernel
theorem dX5_init_5 : decode cX5_init 5 = .ok (.iconst 5, 1) := by decide +kernel
theorem dX5_init_6 : decode cX5_init 6 = .ok (.newarray .int, 2) := by decide +kernel
theorem dX5_init_8 : decode cX5_init 8 = .ok (.putfield 9, 3) := by decide +kernel
theorem dX5_init_11 : decode cX5_init 11 = .ok (.aload_n 0, 1) := by decide +kernel
theorem dX5_init_12 : decode cX5_init 12 = .ok (.iconst 5, 1) := by decide +kernel
theorem dX5_init_13 : decode cX5_init 13 = .ok (.newarray .int, 2) := by decide +kernel
theorem dX5_init_15 : decode cX5_init 15 = .ok (.putfield 15, 3) := by decide +kernel
theorem dX5_init_18 : decode cX5_init 18 = .ok (.aload_n 0, 1) := by decide +kernel
theorem dX5_init_19 : decode cX5_init 19 = .ok (.iconst 5, 1) := by decide +kernel
theorem dX5_init_20 : decode cX5_init 20 = .ok (.newarray .boolean, 2) := by decide +kernel
theorem dX5_init_22 : decode cX5_init 22 = .ok (.putfield 18, 3) := by decide +kernel
theorem dX5_init_25 : decode cX5_init 25 = .ok (.aload_n 0, 1) := by decide +kernel
theorem dX5_init_26 : decode cX5_init 26 = .ok (.bipush 10, 2) := by decide +kernel
theorem dX5_init_28 : decode cX5_init 28 = .ok (.newarray .int, 2) := by decide +kernel
theorem dX5_init_30 : decode cX5_init 30 = .ok (.putfield 22, 3) := by decide +kernel
theorem dX5_init_33 : decode cX5_init 33 = .ok (.aload_n 0, 1) := by decide +kernel
theorem dX5_init_34 : decode cX5_init 34 = .ok (.bipush 10, 2) := by decide +kernel
theorem dX5_init_36 : decode cX5_init 36 = .ok (.newarray .int, 2) := by decide +kernel
theorem dX5_init_38 : decode cX5_init 38 = .ok (.putfield 25, 3) := by decide +kernel
theorem dX5_init_41 : decode cX5_init 41 = .ok (.aload_n 0, 1) := by decide +kernel
theorem dX5_init_42 : decode cX5_init 42 = .ok (.bipush 8, 2) := by decide +kernel
theorem dX5_init_44 : decode cX5_init 44 = .ok (.newarray .int, 2) := by decide +kernel
theorem dX5_init_46 : decode cX5_init 46 = .ok (.putfield 28, 3) := by decide +kernel
theorem dX5_init_49 : decode cX5_init 49 = .ok (.aload_n 0, 1) := by decide +kernel
theorem dX5_init_50 : decode cX5_init 50 = .ok (.bipush 8, 2) := by decide +kernel
theorem dX5_init_52 : decode cX5_init 52 = .ok (.newarray .int, 2) := by decide +kernel
theorem dX5_init_54 : decode cX5_init 54 = .ok (.putfield 31, 3) := by decide +kernel
theorem dX5_init_57 : decode cX5_init 57 = .ok (.return_, 1) := by decide +kernel
theorem dX5_become_0 : decode cX5_become 0 = .ok (.aload_n 0, 1) := by decide +kernel
theorem dX5_become_1 : decode cX5_become 1 = .ok (.aload_n 1, 1) := by decide +kernel
theorem dX5_become_2 : decode cX5_become 2 = .ok (.getfield 34, 3) := by decide +kernel
theorem dX5_become_5 : decode cX5_become 5 = .ok (.putfield 34, 3) := by decide +kernel
theorem dX5_become_8 : decode cX5_become 8 = .ok (.aload_n 1, 1) := by decide +kernel
theorem dX5_become_9 : decode cX5_become 9 = .ok (.getfield 9, 3) := by decide +kernel
theorem dX5_become_12 : decode cX5_become 12 = .ok (.iconst 0, 1) := by decide +kernel
theorem dX5_become_13 : decode cX5_become 13 = .ok (.aload_n 0, 1) := by decide +kernel
theorem dX5_become_14 : decode cX5_become 14 = .ok (.getfield 9, 3) := by decide +kernel
theorem dX5_become_17 : decode cX5_become 17 = .ok (.iconst 0, 1) := by decide +kernel
theorem dX5_become_18 : decode cX5_become 18 = .ok (.iconst 5, 1) := by decide +kernel
theorem dX5_become_19 : decode cX5_become 19 = .ok (.invokestatic 38, 3) := by decide +kernel
theorem dX5_become_22 : decode cX5_become 22 = .ok (.aload_n 1, 1) := by decide +kernel
theorem dX5_become_23 : decode cX5_become 23 = .ok (.getfield 15, 3) := by decide +kernel
theorem dX5_become_26 : decode cX5_become 26 = .ok (.iconst 0, 1) := by decide +kernel
theorem dX5_become_27 : decode cX5_become 27 = .ok (.aload_n 0, 1) := by decide +kernel
theorem dX5_become_28 : decode cX5_become 28 = .ok (.getfield 15, 3) := by decide +kernel
theorem dX5_become_31 : decode cX5_become 31 = .ok (.iconst 0, 1) := by decide +kernel
theorem dX5_become_32 : decode cX5_become 32 = .ok (.iconst 5, 1) := by decide +kernel
theorem dX5_become_33 : decode cX5_become 33 = .ok (.invokestatic 38, 3) := by decide +kernel
theorem dX5_become_36 : decode cX5_become 36 = .ok (.aload_n 1, 1) := by decide +kernel
theorem dX5_become_37 : decode cX5_become 37 = .ok (.getfield 18, 3) := by decide +kernel
theorem dX5_become_40 : decode cX5_become 40 = .ok (.iconst 0, 1) := by decide +kernel
theorem dX5_become_41 : decode cX5_become 41 = .ok (.aload_n 0, 1) := by decide +kernel
theorem dX5_become_42 : decode cX5_become 42 = .ok (.getfield 18, 3) := by decide +kernel
theorem dX5_become_45 : decode cX5_become 45 = .ok (.iconst 0, 1) := by decide +kernel
theorem dX5_become_46 : decode cX5_become 46 = .ok (.iconst 5, 1) := by decide +kernel
theorem dX5_become_47 : decode cX5_become 47 = .ok (.invokestatic 38, 3) := by decide +kernel
theorem dX5_become_50 : decode cX5_become 50 = .ok (.aload_n 0, 1) := by decide +kernel
theorem dX5_become_51 : decode cX5_become 51 = .ok (.aload_n 1, 1) := by decide +kernel
theorem dX5_become_52 : decode cX5_become 52 = .ok (.getfield 44, 3) := by decide +kernel
theorem dX5_become_55 : decode cX5_become 55 = .ok (.putfield 44, 3) := by decide +kernel
theorem dX5_become_58 : decode cX5_become 58 = .ok (.aload_n 1, 1) := by decide +kernel
theorem dX5_become_59 : decode cX5_become 59 = .ok (.getfield 22, 3) := by decide +kernel
theorem dX5_become_62 : decode cX5_become 62 = .ok (.iconst 0, 1) := by decide +kernel
theorem dX5_become_63 : decode cX5_become 63 = .ok (.aload_n 0, 1) := by decide +kernel
theorem dX5_become_64 : decode cX5_become 64 = .ok (.getfield 22, 3) := by decide +kernel
theorem dX5_become_67 : decode cX5_become 67 = .ok (.iconst 0, 1) := by decide +kernel
theorem dX5_become_68 : decode cX5_become 68 = .ok (.bipush 10, 2) := by decide +kernel
theorem dX5_become_70 : decode cX5_become 70 = .ok (.invokestatic 38, 3) := by decide +kernel
theorem dX5_become_73 : decode cX5_become 73 = .ok (.aload_n 1, 1) := by decide +kernel
theorem dX5_become_74 : decode cX5_become 74 = .ok (.getfield 25, 3) := by decide +kernel
theorem dX5_become_77 : decode cX5_become 77 = .ok (.iconst 0, 1) := by decide +kernel
theorem dX5_become_78 : decode cX5_become 78 = .ok (.aload_n 0, 1) := by decide +kernel
theorem dX5_become_79 : decode cX5_become 79 = .ok (.getfield 25, 3) := by decide +kernel
theorem dX5_become_82 : decode cX5_become 82 = .ok (.iconst 0, 1) := by decide +kernel
theorem dX5_become_83 : decode cX5_become 83 = .ok (.bipush 10, 2) := by decide +kernel
theorem dX5_become_85 : decode cX5_become 85 = .ok (.invokestatic 38, 3) := by decide +kernel
theorem dX5_become_88 : decode cX5_become 88 = .ok (.aload_n 0, 1) := by decide +kernel
theorem dX5_become_89 : decode cX5_become 89 = .ok (.aload_n 1, 1) := by decide +kernel
theorem dX5_become_90 : decode cX5_become 90 = .ok (.getfield 47, 3) := by decide +kernel
theorem dX5_become_93 : decode cX5_become 93 = .ok (.putfield 47, 3) := by decide +kernel
theorem dX5_become_96 : decode cX5_become 96 = .ok (.aload_n 1, 1) := by decide +kernel
theorem dX5_become_97 : decode cX5_become 97 = .ok (.getfield 28, 3) := by decide +kernel
theorem dX5_become_100 : decode cX5_become 100 = .ok (.iconst 0, 1) := by decide +kernel
theorem dX5_become_101 : decode cX5_become 101 = .ok (.aload_n 0, 1) := by decide +kernel
theorem dX5_become_102 : decode cX5_become 102 = .ok (.getfield 28, 3) := by decide +kernel
theorem dX5_become_105 : decode cX5_become 105 = .ok (.iconst 0, 1) := by decide +kernel
theorem dX5_become_106 : decode cX5_become 106 = .ok (.bipush 8, 2) := by decide +kernel
theorem dX5_become_108 : decode cX5_become 108 = .ok (.invokestatic 38, 3) := by decide +kernel
theorem dX5_become_111 : decode cX5_become 111 = .ok (.aload_n 1, 1) := by decide +kernel
theorem dX5_become_112 : decode cX5_become 112 = .ok (.getfield 31, 3) := by decide +kernel
theorem dX5_become_115 : decode cX5_become 115 = .ok (.iconst 0, 1) := by decide +kernel
theorem dX5_become_116 : decode cX5_become 116 = .ok (.aload_n 0, 1) := by decide +kernel
theorem dX5_become_117 : decode cX5_become 117 = .ok (.getfield 31, 3) := by decide +kernel
theorem dX5_become_120 : decode cX5_become 120 = .ok (.iconst 0, 1) := by decide +kernel
theorem dX5_become_121 : decode cX5_become 121 = .ok (.bipush 8, 2) := by decide +kernel
theorem dX5_become_123 : decode cX5_become 123 = .ok (.invokestatic 38, 3) := by decide +kernel
theorem dX5_become_126 : decode cX5_become 126 = .ok (.return_, 1) := by decide +kernel
theorem dX5_addSeen_0 : decode cX5_addSeen 0 = .ok (.aload_n 0, 1) := by decide +kernel
theorem dX5_addSeen_1 : decode cX5_addSeen 1 = .ok (.getfield 9, 3) := by decide +kernel
theorem dX5_addSeen_4 : decode cX5_addSeen 4 = .ok (.aload_n 0, 1) := by decide +kernel
theorem dX5_addSeen_5 : decode cX5_addSeen 5 = .ok (.getfield 34, 3) := by decide +kernel
theorem dX5_addSeen_8 : decode cX5_addSeen 8 = .ok (.iload_n 1, 1) := by decide +kernel
theorem dX5_addSeen_9 : decode cX5_addSeen 9 = .ok (.iastore, 1) := by decide +kernel
theorem dX5_addSeen_10 : decode cX5_addSeen 10 = .ok (.aload_n 0, 1) := by decide +kernel
theorem dX5_addSeen_11 : decode cX5_addSeen 11 = .ok (.getfield 15, 3) := by decide +kernel
theorem dX5_addSeen_14 : decode cX5_addSeen 14 = .ok (.aload_n 0, 1) := by decide +kernel
theorem dX5_addSeen_15 : decode cX5_addSeen 15 = .ok (.getfield 34, 3) := by decide +kernel
theorem dX5_addSeen_18 : decode cX5_addSeen 18 = .ok (.iload_n 2, 1) := by decide +kernel
theorem dX5_addSeen_19 : decode cX5_addSeen 19 = .ok (.iastore, 1) := by decide +kernel
theorem dX5_addSeen_20 : decode cX5_addSeen 20 = .ok (.aload_n 0, 1) := by decide +kernel
theorem dX5_addSeen_21 : decode cX5_addSeen 21 = .ok (.getfield 18, 3) := by decide +kernel
theorem dX5_addSeen_24 : decode cX5_addSeen 24 = .ok (.aload_n 0, 1) := by decide +kernel
theorem dX5_addSeen_25 : decode cX5_addSeen 25 = .ok (.getfield 34, 3) := by decide +kernel
theorem dX5_addSeen_28 : decode cX5_addSeen 28 = .ok (.iload_n 3, 1) := by decide +kernel
theorem dX5_addSeen_29 : decode cX5_addSeen 29 = .ok (.bastore, 1) := by decide +kernel
theorem dX5_addSeen_30 : decode cX5_addSeen 30 = .ok (.aload_n 0, 1) := by decide +kernel
theorem dX5_addSeen_31 : decode cX5_addSeen 31 = .ok (.dup, 1) := by decide +kernel
theorem dX5_addSeen_32 : decode cX5_addSeen 32 = .ok (.getfield 34, 3) := by decide +kernel
theorem dX5_addSeen_35 : decode cX5_addSeen 35 = .ok (.iconst 1, 1) := by decide +kernel
theorem dX5_addSeen_36 : decode cX5_addSeen 36 = .ok (.iadd, 1) := by decide +kernel
theorem dX5_addSeen_37 : decode cX5_addSeen 37 = .ok (.putfield 34, 3) := by decide +kernel
theorem dX5_addSeen_40 : decode cX5_addSeen 40 = .ok (.aload_n 0, 1) := by decide +kernel
theorem dX5_addSeen_41 : decode cX5_addSeen 41 = .ok (.getfield 34, 3) := by decide +kernel
theorem dX5_addSeen_44 : decode cX5_addSeen 44 = .ok (.ireturn, 1) := by decide +kernel
theorem dX5_addPlan_0 : decode cX5_addPlan 0 = .ok (.aload_n 0, 1) := by decide +kernel
theorem dX5_addPlan_1 : decode cX5_addPlan 1 = .ok (.getfield 22, 3) := by decide +kernel
theorem dX5_addPlan_4 : decode cX5_addPlan 4 = .ok (.aload_n 0, 1) := by decide +kernel
theorem dX5_addPlan_5 : decode cX5_addPlan 5 = .ok (.getfield 44, 3) := by decide +kernel
theorem dX5_addPlan_8 : decode cX5_addPlan 8 = .ok (.iload_n 1, 1) := by decide +kernel
theorem dX5_addPlan_9 : decode cX5_addPlan 9 = .ok (.iastore, 1) := by decide +kernel
theorem dX5_addPlan_10 : decode cX5_addPlan 10 = .ok (.aload_n 0, 1) := by decide +kernel
theorem dX5_addPlan_11 : decode cX5_addPlan 11 = .ok (.getfield 25, 3) := by decide +kernel
theorem dX5_addPlan_14 : decode cX5_addPlan 14 = .ok (.aload_n 0, 1) := by decide +kernel
theorem dX5_addPlan_15 : decode cX5_addPlan 15 = .ok (.getfield 44, 3) := by decide +kernel
theorem dX5_addPlan_18 : decode cX5_addPlan 18 = .ok (.iload_n 2, 1) := by decide +kernel
theorem dX5_addPlan_19 : decode cX5_addPlan 19 = .ok (.iastore, 1) := by decide +kernel
theorem dX5_addPlan_20 : decode cX5_addPlan 20 = .ok (.aload_n 0, 1) := by decide +kernel
theorem dX5_addPlan_21 : decode cX5_addPlan 21 = .ok (.dup, 1) := by decide +kernel
theorem dX5_addPlan_22 : decode cX5_addPlan 22 = .ok (.getfield 44, 3) := by decide +kernel
theorem dX5_addPlan_25 : decode cX5_addPlan 25 = .ok (.iconst 1, 1) := by decide +kernel
theorem dX5_addPlan_26 : decode cX5_addPlan 26 = .ok (.iadd, 1) := by decide +kernel
theorem dX5_addPlan_27 : decode cX5_addPlan 27 = .ok (.putfield 44, 3) := by decide +kernel
theorem dX5_addPlan_30 : decode cX5_addPlan 30 = .ok (.aload_n 0, 1) := by decide +kernel
theorem dX5_addPlan_31 : decode cX5_addPlan 31 = .ok (.getfield 44, 3) := by decide +kernel
theorem dX5_addPlan_34 : decode cX5_addPlan 34 = .ok (.ireturn, 1) := by decide +kernel
theorem dX5_addBook_0 : decode cX5_addBook 0 = .ok (.aload_n 0, 1) := by decide +kernel
theorem dX5_addBook_1 : decode cX5_addBook 1 = .ok (.getfield 28, 3) := by decide +kernel
theorem dX5_addBook_4 : decode cX5_addBook 4 = .ok (.aload_n 0, 1) := by decide +kernel
theorem dX5_addBook_5 : decode cX5_addBook 5 = .ok (.getfield 47, 3) := by decide +kernel
theorem dX5_addBook_8 : decode cX5_addBook 8 = .ok (.iload_n 1, 1) := by decide +kernel
theorem dX5_addBook_9 : decode cX5_addBook 9 = .ok (.iastore, 1) := by decide +kernel
theorem dX5_addBook_10 : decode cX5_addBook 10 = .ok (.aload_n 0, 1) := by decide +kernel
theorem dX5_addBook_11 : decode cX5_addBook 11 = .ok (.getfield 31, 3) := by decide +kernel
theorem dX5_addBook_14 : decode cX5_addBook 14 = .ok (.aload_n 0, 1) := by decide +kernel
theorem dX5_addBook_15 : decode cX5_addBook 15 = .ok (.getfield 47, 3) := by decide +kernel
theorem dX5_addBook_18 : decode cX5_addBook 18 = .ok (.iload_n 2, 1) := by decide +kernel
theorem dX5_addBook_19 : decode cX5_addBook 19 = .ok (.iastore, 1) := by decide +kernel
theorem dX5_addBook_20 : decode cX5_addBook 20 = .ok (.aload_n 0, 1) := by decide +kernel
theorem dX5_addBook_21 : decode cX5_addBook 21 = .ok (.dup, 1) := by decide +kernel
theorem dX5_addBook_22 : decode cX5_addBook 22 = .ok (.getfield 47, 3) := by decide +kernel
theorem dX5_addBook_25 : decode cX5_addBook 25 = .ok (.iconst 1, 1) := by decide +kernel
theorem dX5_addBook_26 : decode cX5_addBook 26 = .ok (.iadd, 1) := by decide +kernel
theorem dX5_addBook_27 : decode cX5_addBook 27 = .ok (.putfield 47, 3) := by decide +kernel
theorem dX5_addBook_30 : decode cX5_addBook 30 = .ok (.aload_n 0, 1) := by decide +kernel
theorem dX5_addBook_31 : decode cX5_addBook 31 = .ok (.getfield 47, 3) := by decide +kernel
theorem dX5_addBook_34 : decode cX5_addBook 34 = .ok (.ireturn, 1) := by decide +kernel
theorem dX5_lastSeenStep_0 : decode cX5_lastSeenStep 0 = .ok (.iconst (-1), 1) := by decide +kernel
theorem dX5_lastSeenStep_1 : decode cX5_lastSeenStep 1 = .ok (.istore_n 1, 1) := by decide +kernel
theorem dX5_lastSeenStep_2 : decode cX5_lastSeenStep 2 = .ok (.iconst 0, 1) := by decide +kernel
theorem dX5_lastSeenStep_3 : decode cX5_lastSeenStep 3 = .ok (.istore_n 2, 1) := by decide +kernel
theorem dX5_lastSeenStep_4 : decode cX5_lastSeenStep 4 = .ok (.iload_n 2, 1) := by decide +kernel
theorem dX5_lastSeenStep_5 : decode cX5_lastSeenStep 5 = .ok (.aload_n 0, 1) := by decide +kernel
theorem dX5_lastSeenStep_6 : decode cX5_lastSeenStep 6 = .ok (.getfield 34, 3) := by decide +kernel
theorem dX5_lastSeenStep_9 : decode cX5_lastSeenStep 9 = .ok (.if_icmp .ge 20, 3) := by decide +kernel
theorem dX5_lastSeenStep_12 : decode cX5_lastSeenStep 12 = .ok (.iload_n 1, 1) := by decide +kernel
theorem dX5_lastSeenStep_13 : decode cX5_lastSeenStep 13 = .ok (.aload_n 0, 1) := by decide +kernel
theorem dX5_lastSeenStep_14 : decode cX5_lastSeenStep 14 = .ok (.getfield 15, 3) := by decide +kernel
theorem dX5_lastSeenStep_17 : decode cX5_lastSeenStep 17 = .ok (.iload_n 2, 1) := by decide +kernel
theorem dX5_lastSeenStep_18 : decode cX5_lastSeenStep 18 = .ok (.iaload, 1) := by decide +kernel
theorem dX5_lastSeenStep_19 : decode cX5_lastSeenStep 19 = .ok (.invokestatic 50, 3) := by decide +kernel
theorem dX5_lastSeenStep_22 : decode cX5_lastSeenStep 22 = .ok (.istore_n 1, 1) := by decide +kernel
theorem dX5_lastSeenStep_23 : decode cX5_lastSeenStep 23 = .ok (.iinc 2 1, 3) := by decide +kernel
theorem dX5_lastSeenStep_26 : decode cX5_lastSeenStep 26 = .ok (.goto (-22), 3) := by decide +kernel
theorem dX5_lastSeenStep_29 : decode cX5_lastSeenStep 29 = .ok (.iload_n 1, 1) := by decide +kernel
theorem dX5_lastSeenStep_30 : decode cX5_lastSeenStep 30 = .ok (.ireturn, 1) := by decide +kernel
set_option maxRecDepth 20000 in
theorem ggX5_isSeenSo_X2_isTaut : GoodIn wsX5_isSeenSo wsX2_isTaut := goodIn_r _ [9, 10, 11, 12, 8, 13, 14, 15, 16, 17, 18, 19, 20, 21, 22, 23, 24, 25, 36, 37, 38, 39, 40, 41, 42, 43, 44, 45, 46, 47, 48, 49] (by decide +kernel) (by decide +kernel)
set_option maxRecDepth 20000 in
theorem gX5_isSeenSo_X2_isTaut : GoodIn wsX5_isSeenSo (wsV RX5 56 RX2 yX2_isTaut wsX2_isTaut) := goodIn_app (goodIn_of _ (by decide +kernel)) ggX5_isSeenSo_X2_isTaut
theorem dX5_isSeenSo_0 : decode cX5_isSeenSo 0 = .ok (.iconst 0, 1) := by decide +kernel
theorem dX5_isSeenSo_1 : decode cX5_isSeenSo 1 = .ok (.istore_n 3, 1) := by decide +kernel
theorem dX5_isSeenSo_2 : decode cX5_isSeenSo 2 = .ok (.iload_n 3, 1) := by decide +kernel
theorem dX5_isSeenSo_3 : decode cX5_isSeenSo 3 = .ok (.aload_n 0, 1) := by decide +kernel
theorem dX5_isSeenSo_4 : decode cX5_isSeenSo 4 = .ok (.getfield 34, 3) := by decide +kernel
theorem dX5_isSeenSo_7 : decode cX5_isSeenSo 7 = .ok (.if_icmp .ge 40, 3) := by decide +kernel
theorem dX5_isSeenSo_10 : decode cX5_isSeenSo 10 = .ok (.aload_n 0, 1) := by decide +kernel
theorem dX5_isSeenSo_11 : decode cX5_isSeenSo 11 = .ok (.getfield 15, 3) := by decide +kernel
theorem dX5_isSeenSo_14 : decode cX5_isSeenSo 14 = .ok (.iload_n 3, 1) := by decide +kernel
theorem dX5_isSeenSo_15 : decode cX5_isSeenSo 15 = .ok (.iaload, 1) := by decide +kernel
theorem dX5_isSeenSo_16 : decode cX5_isSeenSo 16 = .ok (.iload_n 2, 1) := by decide +kernel
theorem dX5_isSeenSo_17 : decode cX5_isSeenSo 17 = .ok (.if_icmp .ne 24, 3) := by decide +kernel
theorem dX5_isSeenSo_20 : decode cX5_isSeenSo 20 = .ok (.aload_n 1, 1) := by decide +kernel
theorem dX5_isSeenSo_21 : decode cX5_isSeenSo 21 = .ok (.aload_n 0, 1) := by decide +kernel
theorem dX5_isSeenSo_22 : decode cX5_isSeenSo 22 = .ok (.getfield 9, 3) := by decide +kernel
theorem dX5_isSeenSo_25 : decode cX5_isSeenSo 25 = .ok (.iload_n 3, 1) := by decide +kernel
theorem dX5_isSeenSo_26 : decode cX5_isSeenSo 26 = .ok (.iaload, 1) := by decide +kernel
theorem dX5_isSeenSo_27 : decode cX5_isSeenSo 27 = .ok (.invokevirtual 56, 3) := by decide +kernel
theorem dX5_isSeenSo_30 : decode cX5_isSeenSo 30 = .ok (.aload_n 0, 1) := by decide +kernel
theorem dX5_isSeenSo_31 : decode cX5_isSeenSo 31 = .ok (.getfield 18, 3) := by decide +kernel
theorem dX5_isSeenSo_34 : decode cX5_isSeenSo 34 = .ok (.iload_n 3, 1) := by decide +kernel
theorem dX5_isSeenSo_35 : decode cX5_isSeenSo 35 = .ok (.baload, 1) := by decide +kernel
theorem dX5_isSeenSo_36 : decode cX5_isSeenSo 36 = .ok (.if_icmp .eq 5, 3) := by decide +kernel
theorem dX5_isSeenSo_39 : decode cX5_isSeenSo 39 = .ok (.iconst 0, 1) := by decide +kernel
theorem dX5_isSeenSo_40 : decode cX5_isSeenSo 40 = .ok (.ireturn, 1) := by decide +kernel
theorem dX5_isSeenSo_41 : decode cX5_isSeenSo 41 = .ok (.iinc 3 1, 3) := by decide +kernel
theorem dX5_isSeenSo_44 : decode cX5_isSeenSo 44 = .ok (.goto (-42), 3) := by decide +kernel
theorem dX5_isSeenSo_47 : decode cX5_isSeenSo 47 = .ok (.iconst 1, 1) := by decide +kernel
theorem dX5_isSeenSo_48 : decode cX5_isSeenSo 48 = .ok (.ireturn, 1) := by decide +kernel
theorem dX5_firstOtherwise_0 : decode cX5_firstOtherwise 0 = .ok (.iconst 0, 1) := by decide +kernel
theorem dX5_firstOtherwise_1 : decode cX5_firstOtherwise 1 = .ok (.istore_n 2, 1) := by decide +kernel
theorem dX5_firstOtherwise_2 : decode cX5_firstOtherwise 2 = .ok (.iload_n 2, 1) := by decide +kernel
theorem dX5_firstOtherwise_3 : decode cX5_firstOtherwise 3 = .ok (.aload_n 0, 1) := by decide +kernel
theorem dX5_firstOtherwise_4 : decode cX5_firstOtherwise 4 = .ok (.getfield 47, 3) := by decide +kernel
theorem dX5_firstOtherwise_7 : decode cX5_firstOtherwise 7 = .ok (.if_icmp .ge 31, 3) := by decide +kernel
theorem dX5_firstOtherwise_10 : decode cX5_firstOtherwise 10 = .ok (.aload_n 1, 1) := by decide +kernel
theorem dX5_firstOtherwise_11 : decode cX5_firstOtherwise 11 = .ok (.getfield 62, 3) := by decide +kernel
theorem dX5_firstOtherwise_14 : decode cX5_firstOtherwise 14 = .ok (.aload_n 0, 1) := by decide +kernel
theorem dX5_firstOtherwise_15 : decode cX5_firstOtherwise 15 = .ok (.getfield 28, 3) := by decide +kernel
theorem dX5_firstOtherwise_18 : decode cX5_firstOtherwise 18 = .ok (.iload_n 2, 1) := by decide +kernel
theorem dX5_firstOtherwise_19 : decode cX5_firstOtherwise 19 = .ok (.iaload, 1) := by decide +kernel
theorem dX5_firstOtherwise_20 : decode cX5_firstOtherwise 20 = .ok (.iaload, 1) := by decide +kernel
theorem dX5_firstOtherwise_21 : decode cX5_firstOtherwise 21 = .ok (.aload_n 0, 1) := by decide +kernel
theorem dX5_firstOtherwise_22 : decode cX5_firstOtherwise 22 = .ok (.getfield 31, 3) := by decide +kernel
theorem dX5_firstOtherwise_25 : decode cX5_firstOtherwise 25 = .ok (.iload_n 2, 1) := by decide +kernel
theorem dX5_firstOtherwise_26 : decode cX5_firstOtherwise 26 = .ok (.iaload, 1) := by decide +kernel
theorem dX5_firstOtherwise_27 : decode cX5_firstOtherwise 27 = .ok (.if_icmp .eq 5, 3) := by decide +kernel
theorem dX5_firstOtherwise_30 : decode cX5_firstOtherwise 30 = .ok (.iload_n 2, 1) := by decide +kernel
theorem dX5_firstOtherwise_31 : decode cX5_firstOtherwise 31 = .ok (.ireturn, 1) := by decide +kernel
theorem dX5_firstOtherwise_32 : decode cX5_firstOtherwise 32 = .ok (.iinc 2 1, 3) := by decide +kernel
theorem dX5_firstOtherwise_35 : decode cX5_firstOtherwise 35 = .ok (.goto (-33), 3) := by decide +kernel
theorem dX5_firstOtherwise_38 : decode cX5_firstOtherwise 38 = .ok (.bipush (-5), 2) := by decide +kernel
theorem dX5_firstOtherwise_40 : decode cX5_firstOtherwise 40 = .ok (.ireturn, 1) := by decide +kernel

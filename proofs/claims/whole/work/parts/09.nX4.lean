theorem dX4_init_0 : decode cX4_init 0 = .ok (.aload_n 0, 1) := by decide +kernel
theorem dX4_init_1 : decode cX4_init 1 = .ok (.invokespecial 3, 3) := by decide +kernel
theorem dX4_init_4 : decode cX4_init 4 = .ok (.aload_n 0, 1) := by decide +kernel
theorem dX4_init_5 : decode cX4_init 5 = .ok (.bipush 100, 2) := by decide +kernel
theorem dX4_init_7 : decode cX4_init 7 = .ok (.newarray .char, 2) := by decide +kernel
theorem dX4_init_9 : decode cX4_init 9 = .ok (.putfield 9, 3) := by decide +kernel
theorem dX4_init_12 : decode cX4_init 12 = .ok (.return_, 1) := by decide +kernel
theorem dX4_addSign_0 : decode cX4_addSign 0 = .ok (.aload_n 0, 1) := by decide +kernel
theorem dX4_addSign_1 : decode cX4_addSign 1 = .ok (.getfield 9, 3) := by decide +kernel
theorem dX4_addSign_4 : decode cX4_addSign 4 = .ok (.aload_n 0, 1) := by decide +kernel
theorem dX4_addSign_5 : decode cX4_addSign 5 = .ok (.getfield 15, 3) := by decide +kernel
theorem dX4_addSign_8 : decode cX4_addSign 8 = .ok (.iload_n 1, 1) := by decide +kernel
theorem dX4_addSign_9 : decode cX4_addSign 9 = .ok (.i2c, 1) := by decide +kernel
theorem dX4_addSign_10 : decode cX4_addSign 10 = .ok (.castore, 1) := by decide +kernel
theorem dX4_addSign_11 : decode cX4_addSign 11 = .ok (.aload_n 0, 1) := by decide +kernel
theorem dX4_addSign_12 : decode cX4_addSign 12 = .ok (.dup, 1) := by decide +kernel
theorem dX4_addSign_13 : decode cX4_addSign 13 = .ok (.getfield 15, 3) := by decide +kernel
theorem dX4_addSign_16 : decode cX4_addSign 16 = .ok (.iconst 1, 1) := by decide +kernel
theorem dX4_addSign_17 : decode cX4_addSign 17 = .ok (.iadd, 1) := by decide +kernel
theorem dX4_addSign_18 : decode cX4_addSign 18 = .ok (.putfield 15, 3) := by decide +kernel
theorem dX4_addSign_21 : decode cX4_addSign 21 = .ok (.aload_n 0, 1) := by decide +kernel
theorem dX4_addSign_22 : decode cX4_addSign 22 = .ok (.getfield 15, 3) := by decide +kernel
theorem dX4_addSign_25 : decode cX4_addSign 25 = .ok (.ireturn, 1) := by decide +kernel
set_option maxRecDepth 20000 in
theorem ggX4_readInto_X3_empty : GoodIn wsX4_readInto wsX3_empty := goodIn_r _ [8, 9, 10, 175, 176, 177, 178, 179] rfl (by decide +kernel)
set_option maxRecDepth 20000 in
theorem gX4_readInto_X3_empty : GoodIn wsX4_readInto (wsV RX4 23 RX3 yX3_empty wsX3_empty) := goodIn_app (goodIn_of _ (by decide +kernel)) ggX4_readInto_X3_empty
set_option maxRecDepth 20000 in
theorem ggX4_readInto_X4_takesClause : GoodIn wsX4_readInto wsX4_takesClause := goodIn_r _ [15, 1, 16, 17, 18, 19, 14, 20, 2, 3, 21, 22, 23, 24, 25, 26, 27, 28, 29, 30, 31, 32, 33, 34, 35, 36, 37, 38, 39, 40, 41, 42, 43, 44, 45, 46, 47, 48, 49, 50, 51, 52, 53, 54, 55, 56, 57, 58, 59, 60, 61, 62, 63, 64, 65, 66, 67, 68, 69, 70, 71, 72, 73, 74, 75, 76, 77, 78, 79, 80, 81, 82, 83, 84, 85, 86, 87, 88, 89, 90, 91, 92, 93, 94, 95, 7, 96, 9, 97, 98, 99, 100, 101, 102, 103, 104, 105, 106, 107, 108, 109, 110, 111, 112, 113, 114, 115, 116, 117, 118, 119, 120, 121, 122, 123, 124, 125, 126, 127, 128, 129, 130, 131, 132, 133, 134, 135, 136, 137, 138, 139, 140, 141, 142, 143, 144, 145, 146, 147, 148, 149, 150, 151, 152, 153, 154, 155, 156, 157, 158, 159, 160, 161, 162, 163, 164, 165, 166, 167, 168, 169, 170, 171, 172, 173, 174, 175, 176, 177, 178, 179] rfl (by decide +kernel)
set_option maxRecDepth 20000 in
theorem gX4_readInto_X4_takesClause : GoodIn wsX4_readInto (wsV RX4 31 RX4 yX4_takesClause wsX4_takesClause) := goodIn_app (goodIn_of _ (by decide +kernel)) ggX4_readInto_X4_takesClause
set_option maxRecDepth 20000 in
theorem ggX4_readInto_X4_takesWord : GoodIn wsX4_readInto wsX4_takesWord := goodIn_r _ [25, 2, 26, 27, 28, 29, 30, 31, 32, 33, 34, 35, 36, 37, 38, 39, 40, 41, 42, 43, 44, 45, 46, 47, 48, 49, 50, 51, 52, 53, 54, 55, 56, 57, 58, 59, 60, 61, 62, 63, 64, 65, 66, 67, 68, 69, 70, 71, 72, 73, 74, 17, 18, 19, 14, 20, 3, 21, 171, 172, 173, 174] rfl (by decide +kernel)
set_option maxRecDepth 20000 in
theorem gX4_readInto_X4_takesWord : GoodIn wsX4_readInto (wsV RX4 37 RX4 yX4_takesWord wsX4_takesWord) := goodIn_app (goodIn_of _ (by decide +kernel)) ggX4_readInto_X4_takesWord
theorem dX4_readInto_0 : decode cX4_readInto 0 = .ok (.aload_n 0, 1) := by decide +kernel
theorem dX4_readInto_1 : decode cX4_readInto 1 = .ok (.aload_n 1, 1) := by decide +kernel
theorem dX4_readInto_2 : decode cX4_readInto 2 = .ok (.putfield 19, 3) := by decide +kernel
theorem dX4_readInto_5 : decode cX4_readInto 5 = .ok (.aload_n 0, 1) := by decide +kernel
theorem dX4_readInto_6 : decode cX4_readInto 6 = .ok (.getfield 19, 3) := by decide +kernel
theorem dX4_readInto_9 : decode cX4_readInto 9 = .ok (.invokevirtual 23, 3) := by decide +kernel
theorem dX4_readInto_12 : decode cX4_readInto 12 = .ok (.aload_n 0, 1) := by decide +kernel
theorem dX4_readInto_13 : decode cX4_readInto 13 = .ok (.iconst 0, 1) := by decide +kernel
theorem dX4_readInto_14 : decode cX4_readInto 14 = .ok (.putfield 28, 3) := by decide +kernel
theorem dX4_readInto_17 : decode cX4_readInto 17 = .ok (.iconst 1, 1) := by decide +kernel
theorem dX4_readInto_18 : decode cX4_readInto 18 = .ok (.istore_n 2, 1) := by decide +kernel
theorem dX4_readInto_19 : decode cX4_readInto 19 = .ok (.iload_n 2, 1) := by decide +kernel
theorem dX4_readInto_20 : decode cX4_readInto 20 = .ok (.bipush 10, 2) := by decide +kernel
theorem dX4_readInto_22 : decode cX4_readInto 22 = .ok (.if_icmp .gt 55, 3) := by decide +kernel
theorem dX4_readInto_25 : decode cX4_readInto 25 = .ok (.aload_n 0, 1) := by decide +kernel
theorem dX4_readInto_26 : decode cX4_readInto 26 = .ok (.invokevirtual 31, 3) := by decide +kernel
theorem dX4_readInto_29 : decode cX4_readInto 29 = .ok (.ifCond .ne 8, 3) := by decide +kernel
theorem dX4_readInto_32 : decode cX4_readInto 32 = .ok (.aload_n 0, 1) := by decide +kernel
theorem dX4_readInto_33 : decode cX4_readInto 33 = .ok (.getfield 28, 3) := by decide +kernel
theorem dX4_readInto_36 : decode cX4_readInto 36 = .ok (.ireturn, 1) := by decide +kernel
theorem dX4_readInto_37 : decode cX4_readInto 37 = .ok (.aload_n 0, 1) := by decide +kernel
theorem dX4_readInto_38 : decode cX4_readInto 38 = .ok (.getfield 28, 3) := by decide +kernel
theorem dX4_readInto_41 : decode cX4_readInto 41 = .ok (.aload_n 0, 1) := by decide +kernel
theorem dX4_readInto_42 : decode cX4_readInto 42 = .ok (.getfield 15, 3) := by decide +kernel
theorem dX4_readInto_45 : decode cX4_readInto 45 = .ok (.if_icmp .lt 6, 3) := by decide +kernel
theorem dX4_readInto_48 : decode cX4_readInto 48 = .ok (.bipush (-5), 2) := by decide +kernel
theorem dX4_readInto_50 : decode cX4_readInto 50 = .ok (.ireturn, 1) := by decide +kernel
theorem dX4_readInto_51 : decode cX4_readInto 51 = .ok (.iload_n 2, 1) := by decide +kernel
theorem dX4_readInto_52 : decode cX4_readInto 52 = .ok (.bipush 10, 2) := by decide +kernel
theorem dX4_readInto_54 : decode cX4_readInto 54 = .ok (.if_icmp .eq 12, 3) := by decide +kernel
theorem dX4_readInto_57 : decode cX4_readInto 57 = .ok (.aload_n 0, 1) := by decide +kernel
theorem dX4_readInto_58 : decode cX4_readInto 58 = .ok (.ldc 35, 2) := by decide +kernel
theorem dX4_readInto_60 : decode cX4_readInto 60 = .ok (.invokevirtual 37, 3) := by decide +kernel
theorem dX4_readInto_63 : decode cX4_readInto 63 = .ok (.ifCond .ne 8, 3) := by decide +kernel
theorem dX4_readInto_66 : decode cX4_readInto 66 = .ok (.aload_n 0, 1) := by decide +kernel
theorem dX4_readInto_67 : decode cX4_readInto 67 = .ok (.getfield 28, 3) := by decide +kernel
theorem dX4_readInto_70 : decode cX4_readInto 70 = .ok (.ireturn, 1) := by decide +kernel
theorem dX4_readInto_71 : decode cX4_readInto 71 = .ok (.iinc 2 1, 3) := by decide +kernel
theorem dX4_readInto_74 : decode cX4_readInto 74 = .ok (.goto (-55), 3) := by decide +kernel
theorem dX4_readInto_77 : decode cX4_readInto 77 = .ok (.aload_n 0, 1) := by decide +kernel
theorem dX4_readInto_78 : decode cX4_readInto 78 = .ok (.getfield 28, 3) := by decide +kernel
theorem dX4_readInto_81 : decode cX4_readInto 81 = .ok (.ireturn, 1) := by decide +kernel
theorem dX4_isAt_0 : decode cX4_isAt 0 = .ok (.aload_n 0, 1) := by decide +kernel
theorem dX4_isAt_1 : decode cX4_isAt 1 = .ok (.getfield 28, 3) := by decide +kernel
theorem dX4_isAt_4 : decode cX4_isAt 4 = .ok (.aload_n 0, 1) := by decide +kernel
theorem dX4_isAt_5 : decode cX4_isAt 5 = .ok (.getfield 15, 3) := by decide +kernel
theorem dX4_isAt_8 : decode cX4_isAt 8 = .ok (.if_icmp .ge 20, 3) := by decide +kernel
theorem dX4_isAt_11 : decode cX4_isAt 11 = .ok (.aload_n 0, 1) := by decide +kernel
theorem dX4_isAt_12 : decode cX4_isAt 12 = .ok (.getfield 9, 3) := by decide +kernel
theorem dX4_isAt_15 : decode cX4_isAt 15 = .ok (.aload_n 0, 1) := by decide +kernel
theorem dX4_isAt_16 : decode cX4_isAt 16 = .ok (.getfield 28, 3) := by decide +kernel
theorem dX4_isAt_19 : decode cX4_isAt 19 = .ok (.caload, 1) := by decide +kernel
theorem dX4_isAt_20 : decode cX4_isAt 20 = .ok (.iload_n 1, 1) := by decide +kernel
theorem dX4_isAt_21 : decode cX4_isAt 21 = .ok (.if_icmp .ne 7, 3) := by decide +kernel
theorem dX4_isAt_24 : decode cX4_isAt 24 = .ok (.iconst 1, 1) := by decide +kernel
theorem dX4_isAt_25 : decode cX4_isAt 25 = .ok (.goto 4, 3) := by decide +kernel
theorem dX4_isAt_28 : decode cX4_isAt 28 = .ok (.iconst 0, 1) := by decide +kernel
theorem dX4_isAt_29 : decode cX4_isAt 29 = .ok (.ireturn, 1) := by decide +kernel
set_option maxRecDepth 20000 in
theorem ggX4_takesWord_J0_length_8abf5 : GoodIn wsX4_takesWord wsJ0_length_8abf5 := goodIn_r _ [6, 7, 8, 9, 10, 5, 11, 12, 13] rfl (by decide +kernel)
set_option maxRecDepth 20000 in
theorem gX4_takesWord_J0_length_8abf5 : GoodIn wsX4_takesWord (wsV RX4 41 RJ0 yJ0_length_8abf5 wsJ0_length_8abf5) := goodIn_app (goodIn_of _ (by decide +kernel)) ggX4_takesWord_J0_length_8abf5
set_option maxRecDepth 20000 in
theorem ggX4_takesWord_J0_charAt_5068e : GoodIn wsX4_takesWord wsJ0_charAt_5068e := goodIn_r _ [17, 7, 18, 19, 20, 5, 21, 12, 13, 22, 23, 24, 25, 26, 27, 28, 29, 30, 31, 32, 33, 34, 35, 36, 37, 38, 39, 40, 41, 42, 43, 44, 45, 46, 47, 48, 49, 50] rfl (by decide +kernel)
set_option maxRecDepth 20000 in
theorem gX4_takesWord_J0_charAt_5068e : GoodIn wsX4_takesWord (wsV RX4 46 RJ0 yJ0_charAt_5068e wsJ0_charAt_5068e) := goodIn_app (goodIn_of _ (by decide +kernel)) ggX4_takesWord_J0_charAt_5068e
set_option maxRecDepth 20000 in
theorem ggX4_takesWord_X4_isAt : GoodIn wsX4_takesWord wsX4_isAt := goodIn_r _ [55, 1, 56, 57, 58, 59, 60, 61] rfl (by decide +kernel)
set_option maxRecDepth 20000 in
theorem gX4_takesWord_X4_isAt : GoodIn wsX4_takesWord (wsV RX4 50 RX4 yX4_isAt wsX4_isAt) := goodIn_app (goodIn_of _ (by decide +kernel)) ggX4_takesWord_X4_isAt
theorem dX4_takesWord_0 : decode cX4_takesWord 0 = .ok (.iconst 0, 1) := by decide +kernel
theorem dX4_takesWord_1 : decode cX4_takesWord 1 = .ok (.istore_n 2, 1) := by decide +kernel
theorem dX4_takesWord_2 : decode cX4_takesWord 2 = .ok (.iload_n 2, 1) := by decide +kernel
theorem dX4_takesWord_3 : decode cX4_takesWord 3 = .ok (.aload_n 1, 1) := by decide +kernel
theorem dX4_takesWord_4 : decode cX4_takesWord 4 = .ok (.invokevirtual 41, 3) := by decide +kernel
theorem dX4_takesWord_7 : decode cX4_takesWord 7 = .ok (.if_icmp .ge 33, 3) := by decide +kernel
theorem dX4_takesWord_10 : decode cX4_takesWord 10 = .ok (.aload_n 0, 1) := by decide +kernel
theorem dX4_takesWord_11 : decode cX4_takesWord 11 = .ok (.aload_n 1, 1) := by decide +kernel
theorem dX4_takesWord_12 : decode cX4_takesWord 12 = .ok (.iload_n 2, 1) := by decide +kernel
theorem dX4_takesWord_13 : decode cX4_takesWord 13 = .ok (.invokevirtual 46, 3) := by decide +kernel
theorem dX4_takesWord_16 : decode cX4_takesWord 16 = .ok (.invokevirtual 50, 3) := by decide +kernel
theorem dX4_takesWord_19 : decode cX4_takesWord 19 = .ok (.ifCond .ne 5, 3) := by decide +kernel
theorem dX4_takesWord_22 : decode cX4_takesWord 22 = .ok (.iconst 0, 1) := by decide +kernel
theorem dX4_takesWord_23 : decode cX4_takesWord 23 = .ok (.ireturn, 1) := by decide +kernel
theorem dX4_takesWord_24 : decode cX4_takesWord 24 = .ok (.aload_n 0, 1) := by decide +kernel
theorem dX4_takesWord_25 : decode cX4_takesWord 25 = .ok (.dup, 1) := by decide +kernel
theorem dX4_takesWord_26 : decode cX4_takesWord 26 = .ok (.getfield 28, 3) := by decide +kernel
theorem dX4_takesWord_29 : decode cX4_takesWord 29 = .ok (.iconst 1, 1) := by decide +kernel
theorem dX4_takesWord_30 : decode cX4_takesWord 30 = .ok (.iadd, 1) := by decide +kernel
theorem dX4_takesWord_31 : decode cX4_takesWord 31 = .ok (.putfield 28, 3) := by decide +kernel
theorem dX4_takesWord_34 : decode cX4_takesWord 34 = .ok (.iinc 2 1, 3) := by decide +kernel
theorem dX4_takesWord_37 : decode cX4_takesWord 37 = .ok (.goto (-35), 3) := by decide +kernel
theorem dX4_takesWord_40 : decode cX4_takesWord 40 = .ok (.iconst 1, 1) := by decide +kernel
theorem dX4_takesWord_41 : decode cX4_takesWord 41 = .ok (.ireturn, 1) := by decide +kernel
set_option maxRecDepth 20000 in
theorem ggX4_takesOneOf_J0_indexOf_0f7a4 : GoodIn wsX4_takesOneOf wsJ0_indexOf_0f7a4 := goodIn_r _ [8, 9, 10, 11, 7, 12, 13, 14, 15, 16, 17, 18, 19, 20, 21, 22, 23, 24, 25, 26, 27, 28, 29, 30, 31, 32, 33, 34, 35, 36, 37, 38, 39, 40, 41, 42, 43, 44, 45, 46, 47, 48, 49, 50, 51, 52, 53, 54, 55, 56, 57, 58, 59, 60, 61, 62, 63, 64, 65, 66, 67, 68, 69, 70, 71, 72, 73, 74, 75, 76, 77, 78, 79, 80, 81, 82, 83, 84, 85, 86, 87, 88, 89, 90, 91, 92] rfl (by decide +kernel)
set_option maxRecDepth 20000 in
theorem gX4_takesOneOf_J0_indexOf_0f7a4 : GoodIn wsX4_takesOneOf (wsV RX4 54 RJ0 yJ0_indexOf_0f7a4 wsJ0_indexOf_0f7a4) := goodIn_app (goodIn_of _ (by decide +kernel)) ggX4_takesOneOf_J0_indexOf_0f7a4
theorem dX4_takesOneOf_0 : decode cX4_takesOneOf 0 = .ok (.aload_n 0, 1) := by decide +kernel
theorem dX4_takesOneOf_1 : decode cX4_takesOneOf 1 = .ok (.getfield 28, 3) := by decide +kernel
theorem dX4_takesOneOf_4 : decode cX4_takesOneOf 4 = .ok (.aload_n 0, 1) := by decide +kernel
theorem dX4_takesOneOf_5 : decode cX4_takesOneOf 5 = .ok (.getfield 15, 3) := by decide +kernel
theorem dX4_takesOneOf_8 : decode cX4_takesOneOf 8 = .ok (.if_icmp .ge 19, 3) := by decide +kernel
theorem dX4_takesOneOf_11 : decode cX4_takesOneOf 11 = .ok (.aload_n 1, 1) := by decide +kernel
theorem dX4_takesOneOf_12 : decode cX4_takesOneOf 12 = .ok (.aload_n 0, 1) := by decide +kernel
theorem dX4_takesOneOf_13 : decode cX4_takesOneOf 13 = .ok (.getfield 9, 3) := by decide +kernel
theorem dX4_takesOneOf_16 : decode cX4_takesOneOf 16 = .ok (.aload_n 0, 1) := by decide +kernel
theorem dX4_takesOneOf_17 : decode cX4_takesOneOf 17 = .ok (.getfield 28, 3) := by decide +kernel
theorem dX4_takesOneOf_20 : decode cX4_takesOneOf 20 = .ok (.caload, 1) := by decide +kernel
theorem dX4_takesOneOf_21 : decode cX4_takesOneOf 21 = .ok (.invokevirtual 54, 3) := by decide +kernel
theorem dX4_takesOneOf_24 : decode cX4_takesOneOf 24 = .ok (.goto 4, 3) := by decide +kernel
theorem dX4_takesOneOf_27 : decode cX4_takesOneOf 27 = .ok (.iconst (-1), 1) := by decide +kernel
theorem dX4_takesOneOf_28 : decode cX4_takesOneOf 28 = .ok (.istore_n 2, 1) := by decide +kernel
theorem dX4_takesOneOf_29 : decode cX4_takesOneOf 29 = .ok (.iload_n 2, 1) := by decide +kernel
theorem dX4_takesOneOf_30 : decode cX4_takesOneOf 30 = .ok (.ifCond .lt 13, 3) := by decide +kernel
theorem dX4_takesOneOf_33 : decode cX4_takesOneOf 33 = .ok (.aload_n 0, 1) := by decide +kernel
theorem dX4_takesOneOf_34 : decode cX4_takesOneOf 34 = .ok (.dup, 1) := by decide +kernel
theorem dX4_takesOneOf_35 : decode cX4_takesOneOf 35 = .ok (.getfield 28, 3) := by decide +kernel
theorem dX4_takesOneOf_38 : decode cX4_takesOneOf 38 = .ok (.iconst 1, 1) := by decide +kernel
theorem dX4_takesOneOf_39 : decode cX4_takesOneOf 39 = .ok (.iadd, 1) := by decide +kernel
theorem dX4_takesOneOf_40 : decode cX4_takesOneOf 40 = .ok (.putfield 28, 3) := by decide +kernel
theorem dX4_takesOneOf_43 : decode cX4_takesOneOf 43 = .ok (.iload_n 2, 1) := by decide +kernel
theorem dX4_takesOneOf_44 : decode cX4_takesOneOf 44 = .ok (.ireturn, 1) := by decide +kernel
set_option maxRecDepth 20000 in
theorem ggX4_takesNumber_X4_isDigit : GoodIn wsX4_takesNumber wsX4_isDigit := goodIn_r _ [11] rfl (by decide +kernel)
set_option maxRecDepth 20000 in
theorem gX4_takesNumber_X4_isDigit : GoodIn wsX4_takesNumber (va_wsS RX4 58 yX4_isDigit wsX4_isDigit) := goodIn_app (goodIn_of _ (by decide +kernel)) ggX4_takesNumber_X4_isDigit
theorem dX4_takesNumber_0 : decode cX4_takesNumber 0 = .ok (.iconst (-1), 1) := by decide +kernel
theorem dX4_takesNumber_1 : decode cX4_takesNumber 1 = .ok (.istore_n 1, 1) := by decide +kernel
theorem dX4_takesNumber_2 : decode cX4_takesNumber 2 = .ok (.iconst 0, 1) := by decide +kernel
theorem dX4_takesNumber_3 : decode cX4_takesNumber 3 = .ok (.istore_n 2, 1) := by decide +kernel
theorem dX4_takesNumber_4 : decode cX4_takesNumber 4 = .ok (.iload_n 2, 1) := by decide +kernel
theorem dX4_takesNumber_5 : decode cX4_takesNumber 5 = .ok (.iconst 2, 1) := by decide +kernel
theorem dX4_takesNumber_6 : decode cX4_takesNumber 6 = .ok (.if_icmp .ge 67, 3) := by decide +kernel
theorem dX4_takesNumber_9 : decode cX4_takesNumber 9 = .ok (.aload_n 0, 1) := by decide +kernel
theorem dX4_takesNumber_10 : decode cX4_takesNumber 10 = .ok (.getfield 28, 3) := by decide +kernel
theorem dX4_takesNumber_13 : decode cX4_takesNumber 13 = .ok (.aload_n 0, 1) := by decide +kernel
theorem dX4_takesNumber_14 : decode cX4_takesNumber 14 = .ok (.getfield 15, 3) := by decide +kernel
theorem dX4_takesNumber_17 : decode cX4_takesNumber 17 = .ok (.if_icmp .ge 56, 3) := by decide +kernel
theorem dX4_takesNumber_20 : decode cX4_takesNumber 20 = .ok (.aload_n 0, 1) := by decide +kernel
theorem dX4_takesNumber_21 : decode cX4_takesNumber 21 = .ok (.getfield 9, 3) := by decide +kernel
theorem dX4_takesNumber_24 : decode cX4_takesNumber 24 = .ok (.aload_n 0, 1) := by decide +kernel
theorem dX4_takesNumber_25 : decode cX4_takesNumber 25 = .ok (.getfield 28, 3) := by decide +kernel
theorem dX4_takesNumber_28 : decode cX4_takesNumber 28 = .ok (.caload, 1) := by decide +kernel
theorem dX4_takesNumber_29 : decode cX4_takesNumber 29 = .ok (.invokestatic 58, 3) := by decide +kernel
theorem dX4_takesNumber_32 : decode cX4_takesNumber 32 = .ok (.ifCond .eq 41, 3) := by decide +kernel
theorem dX4_takesNumber_35 : decode cX4_takesNumber 35 = .ok (.iload_n 1, 1) := by decide +kernel
theorem dX4_takesNumber_36 : decode cX4_takesNumber 36 = .ok (.iconst 0, 1) := by decide +kernel
theorem dX4_takesNumber_37 : decode cX4_takesNumber 37 = .ok (.invokestatic 61, 3) := by decide +kernel
theorem dX4_takesNumber_40 : decode cX4_takesNumber 40 = .ok (.bipush 10, 2) := by decide +kernel
theorem dX4_takesNumber_42 : decode cX4_takesNumber 42 = .ok (.imul, 1) := by decide +kernel
theorem dX4_takesNumber_43 : decode cX4_takesNumber 43 = .ok (.aload_n 0, 1) := by decide +kernel
theorem dX4_takesNumber_44 : decode cX4_takesNumber 44 = .ok (.getfield 9, 3) := by decide +kernel
theorem dX4_takesNumber_47 : decode cX4_takesNumber 47 = .ok (.aload_n 0, 1) := by decide +kernel
theorem dX4_takesNumber_48 : decode cX4_takesNumber 48 = .ok (.getfield 28, 3) := by decide +kernel
theorem dX4_takesNumber_51 : decode cX4_takesNumber 51 = .ok (.caload, 1) := by decide +kernel
theorem dX4_takesNumber_52 : decode cX4_takesNumber 52 = .ok (.iadd, 1) := by decide +kernel
theorem dX4_takesNumber_53 : decode cX4_takesNumber 53 = .ok (.bipush 48, 2) := by decide +kernel
theorem dX4_takesNumber_55 : decode cX4_takesNumber 55 = .ok (.isub, 1) := by decide +kernel
theorem dX4_takesNumber_56 : decode cX4_takesNumber 56 = .ok (.istore_n 1, 1) := by decide +kernel
theorem dX4_takesNumber_57 : decode cX4_takesNumber 57 = .ok (.aload_n 0, 1) := by decide +kernel
theorem dX4_takesNumber_58 : decode cX4_takesNumber 58 = .ok (.dup, 1) := by decide +kernel
theorem dX4_takesNumber_59 : decode cX4_takesNumber 59 = .ok (.getfield 28, 3) := by decide +kernel
theorem dX4_takesNumber_62 : decode cX4_takesNumber 62 = .ok (.iconst 1, 1) := by decide +kernel
theorem dX4_takesNumber_63 : decode cX4_takesNumber 63 = .ok (.iadd, 1) := by decide +kernel
theorem dX4_takesNumber_64 : decode cX4_takesNumber 64 = .ok (.putfield 28, 3) := by decide +kernel
theorem dX4_takesNumber_67 : decode cX4_takesNumber 67 = .ok (.iinc 2 1, 3) := by decide +kernel
theorem dX4_takesNumber_70 : decode cX4_takesNumber 70 = .ok (.goto (-66), 3) := by decide +kernel
theorem dX4_takesNumber_73 : decode cX4_takesNumber 73 = .ok (.iload_n 1, 1) := by decide +kernel
theorem dX4_takesNumber_74 : decode cX4_takesNumber 74 = .ok (.ireturn, 1) := by decide +kernel
theorem dX4_isDigit_0 : decode cX4_isDigit 0 = .ok (.iload_n 0, 1) := by decide +kernel
theorem dX4_isDigit_1 : decode cX4_isDigit 1 = .ok (.bipush 48, 2) := by decide +kernel
theorem dX4_isDigit_3 : decode cX4_isDigit 3 = .ok (.if_icmp .lt 13, 3) := by decide +kernel
theorem dX4_isDigit_6 : decode cX4_isDigit 6 = .ok (.iload_n 0, 1) := by decide +kernel
theorem dX4_isDigit_7 : decode cX4_isDigit 7 = .ok (.bipush 57, 2) := by decide +kernel
theorem dX4_isDigit_9 : decode cX4_isDigit 9 = .ok (.if_icmp .gt 7, 3) := by decide +kernel
theorem dX4_isDigit_12 : decode cX4_isDigit 12 = .ok (.iconst 1, 1) := by decide +kernel
theorem dX4_isDigit_13 : decode cX4_isDigit 13 = .ok (.goto 4, 3) := by decide +kernel
theorem dX4_isDigit_16 : decode cX4_isDigit 16 = .ok (.iconst 0, 1) := by decide +kernel
theorem dX4_isDigit_17 : decode cX4_isDigit 17 = .ok (.ireturn, 1) := by decide +kernel
set_option maxRecDepth 20000 in
theorem ggX4_takesClause_X4_isAt : GoodIn wsX4_takesClause wsX4_isAt := goodIn_r _ [7, 8, 9, 10, 162, 163, 164, 165] rfl (by decide +kernel)
set_option maxRecDepth 20000 in
theorem gX4_takesClause_X4_isAt : GoodIn wsX4_takesClause (wsV RX4 50 RX4 yX4_isAt wsX4_isAt) := goodIn_app (goodIn_of _ (by decide +kernel)) ggX4_takesClause_X4_isAt
set_option maxRecDepth 20000 in
theorem ggX4_takesClause_X4_takesWord : GoodIn wsX4_takesClause wsX4_takesWord := goodIn_r _ [14, 8, 15, 16, 17, 18, 19, 20, 21, 22, 23, 24, 25, 26, 27, 28, 29, 30, 31, 32, 33, 34, 35, 36, 37, 38, 39, 40, 41, 42, 43, 44, 45, 46, 47, 48, 49, 50, 51, 52, 53, 54, 55, 56, 57, 58, 59, 60, 61, 62, 63, 3, 4, 5, 6, 7, 9, 10, 162, 163, 164, 165] rfl (by decide +kernel)
set_option maxRecDepth 20000 in
theorem gX4_takesClause_X4_takesWord : GoodIn wsX4_takesClause (wsV RX4 37 RX4 yX4_takesWord wsX4_takesWord) := goodIn_app (goodIn_of _ (by decide +kernel)) ggX4_takesClause_X4_takesWord
set_option maxRecDepth 20000 in
theorem ggX4_takesClause_X4_takesNumber : GoodIn wsX4_takesClause wsX4_takesNumber := goodIn_r _ [67, 8, 9, 10, 68, 69, 70, 71, 72, 73, 6, 74, 162, 163, 164, 165] rfl (by decide +kernel)
set_option maxRecDepth 20000 in
theorem gX4_takesClause_X4_takesNumber : GoodIn wsX4_takesClause (wsV RX4 73 RX4 yX4_takesNumber wsX4_takesNumber) := goodIn_app (goodIn_of _ (by decide +kernel)) ggX4_takesClause_X4_takesNumber
set_option maxRecDepth 20000 in
theorem ggX4_takesClause_X4_takesAnyOf : GoodIn wsX4_takesClause wsX4_takesAnyOf := goodIn_r _ [78, 8, 1, 79, 80, 81, 6, 3, 4, 5, 7, 9, 10, 82, 83, 84, 85, 86, 87, 88, 89, 90, 91, 92, 93, 94, 95, 96, 97, 98, 99, 100, 101, 102, 103, 104, 105, 106, 18, 107, 108, 109, 110, 111, 20, 31, 32, 33, 34, 25, 26, 112, 16, 17, 19, 21, 22, 23, 24, 113, 114, 37, 115, 116, 69, 70, 71, 117, 118, 119, 120, 121, 122, 123, 124, 125, 126, 127, 49, 128, 129, 130, 131, 132, 133, 134, 135, 136, 137, 54, 55, 56, 138, 139, 140, 42, 141, 142, 45, 143, 144, 145, 146, 58, 59, 60, 61, 62, 63, 147, 148, 149, 150, 151, 152, 153, 154, 155, 156, 157, 158, 159, 160, 161, 64, 65, 66, 67, 68, 72, 73, 74, 75, 76, 77, 11, 12, 13, 14, 15, 27, 28, 29, 30, 35, 36, 38, 39, 40, 41, 43, 44, 46, 47, 48, 50, 51, 52, 53, 57, 162, 163, 164, 165, 166, 167, 168, 169, 170] rfl (by decide +kernel)
set_option maxRecDepth 20000 in
theorem gX4_takesClause_X4_takesAnyOf : GoodIn wsX4_takesClause (wsV RX4 81 RX4 yX4_takesAnyOf wsX4_takesAnyOf) := goodIn_app (goodIn_of _ (by decide +kernel)) ggX4_takesClause_X4_takesAnyOf
set_option maxRecDepth 20000 in
theorem ggX4_takesClause_X3_put : GoodIn wsX4_takesClause wsX3_put := goodIn_r _ [86, 87, 88, 89, 90, 166, 167, 168, 169, 170] rfl (by decide +kernel)
set_option maxRecDepth 20000 in
theorem gX4_takesClause_X3_put : GoodIn wsX4_takesClause (wsV RX4 85 RX3 yX3_put wsX3_put) := goodIn_app (goodIn_of _ (by decide +kernel)) ggX4_takesClause_X3_put
theorem dX4_takesClause_0 : decode cX4_takesClause 0 = .ok (.aload_n 0, 1) := by decide +kernel
theorem dX4_takesClause_1 : decode cX4_takesClause 1 = .ok (.bipush 98, 2) := by decide +kernel
theorem dX4_takesClause_3 : decode cX4_takesClause 3 = .ok (.invokevirtual 50, 3) := by decide +kernel
theorem dX4_takesClause_6 : decode cX4_takesClause 6 = .ok (.istore_n 1, 1) := by decide +kernel
theorem dX4_takesClause_7 : decode cX4_takesClause 7 = .ok (.aload_n 0, 1) := by decide +kernel
theorem dX4_takesClause_8 : decode cX4_takesClause 8 = .ok (.bipush 100, 2) := by decide +kernel
theorem dX4_takesClause_10 : decode cX4_takesClause 10 = .ok (.invokevirtual 50, 3) := by decide +kernel
theorem dX4_takesClause_13 : decode cX4_takesClause 13 = .ok (.istore_n 2, 1) := by decide +kernel
theorem dX4_takesClause_14 : decode cX4_takesClause 14 = .ok (.aload_n 0, 1) := by decide +kernel
theorem dX4_takesClause_15 : decode cX4_takesClause 15 = .ok (.iload_n 1, 1) := by decide +kernel
theorem dX4_takesClause_16 : decode cX4_takesClause 16 = .ok (.ifCond .eq 8, 3) := by decide +kernel
theorem dX4_takesClause_19 : decode cX4_takesClause 19 = .ok (.ldc 67, 2) := by decide +kernel
theorem dX4_takesClause_21 : decode cX4_takesClause 21 = .ok (.goto 14, 3) := by decide +kernel
theorem dX4_takesClause_24 : decode cX4_takesClause 24 = .ok (.iload_n 2, 1) := by decide +kernel
theorem dX4_takesClause_25 : decode cX4_takesClause 25 = .ok (.ifCond .eq 8, 3) := by decide +kernel
theorem dX4_takesClause_28 : decode cX4_takesClause 28 = .ok (.ldc 69, 2) := by decide +kernel
theorem dX4_takesClause_30 : decode cX4_takesClause 30 = .ok (.goto 5, 3) := by decide +kernel
theorem dX4_takesClause_33 : decode cX4_takesClause 33 = .ok (.ldc 71, 2) := by decide +kernel
theorem dX4_takesClause_35 : decode cX4_takesClause 35 = .ok (.invokevirtual 37, 3) := by decide +kernel
theorem dX4_takesClause_38 : decode cX4_takesClause 38 = .ok (.ifCond .ne 5, 3) := by decide +kernel
theorem dX4_takesClause_41 : decode cX4_takesClause 41 = .ok (.iconst 0, 1) := by decide +kernel
theorem dX4_takesClause_42 : decode cX4_takesClause 42 = .ok (.ireturn, 1) := by decide +kernel
theorem dX4_takesClause_43 : decode cX4_takesClause 43 = .ok (.aload_n 0, 1) := by decide +kernel
theorem dX4_takesClause_44 : decode cX4_takesClause 44 = .ok (.invokevirtual 73, 3) := by decide +kernel
theorem dX4_takesClause_47 : decode cX4_takesClause 47 = .ok (.istore_n 3, 1) := by decide +kernel
theorem dX4_takesClause_48 : decode cX4_takesClause 48 = .ok (.iload_n 3, 1) := by decide +kernel
theorem dX4_takesClause_49 : decode cX4_takesClause 49 = .ok (.ifCond .ge 5, 3) := by decide +kernel
theorem dX4_takesClause_52 : decode cX4_takesClause 52 = .ok (.iconst 0, 1) := by decide +kernel
theorem dX4_takesClause_53 : decode cX4_takesClause 53 = .ok (.ireturn, 1) := by decide +kernel
theorem dX4_takesClause_54 : decode cX4_takesClause 54 = .ok (.iload_n 1, 1) := by decide +kernel
theorem dX4_takesClause_55 : decode cX4_takesClause 55 = .ok (.ifCond .eq 13, 3) := by decide +kernel
theorem dX4_takesClause_58 : decode cX4_takesClause 58 = .ok (.aload_n 0, 1) := by decide +kernel
theorem dX4_takesClause_59 : decode cX4_takesClause 59 = .ok (.getfield 19, 3) := by decide +kernel
theorem dX4_takesClause_62 : decode cX4_takesClause 62 = .ok (.iload_n 3, 1) := by decide +kernel
theorem dX4_takesClause_63 : decode cX4_takesClause 63 = .ok (.putfield 76, 3) := by decide +kernel
theorem dX4_takesClause_66 : decode cX4_takesClause 66 = .ok (.iconst 1, 1) := by decide +kernel
theorem dX4_takesClause_67 : decode cX4_takesClause 67 = .ok (.ireturn, 1) := by decide +kernel
theorem dX4_takesClause_68 : decode cX4_takesClause 68 = .ok (.aload_n 0, 1) := by decide +kernel
theorem dX4_takesClause_69 : decode cX4_takesClause 69 = .ok (.ldc 79, 2) := by decide +kernel
theorem dX4_takesClause_71 : decode cX4_takesClause 71 = .ok (.invokevirtual 37, 3) := by decide +kernel
theorem dX4_takesClause_74 : decode cX4_takesClause 74 = .ok (.ifCond .eq 11, 3) := by decide +kernel
theorem dX4_takesClause_77 : decode cX4_takesClause 77 = .ok (.aload_n 0, 1) := by decide +kernel
theorem dX4_takesClause_78 : decode cX4_takesClause 78 = .ok (.iconst 0, 1) := by decide +kernel
theorem dX4_takesClause_79 : decode cX4_takesClause 79 = .ok (.invokevirtual 81, 3) := by decide +kernel
theorem dX4_takesClause_82 : decode cX4_takesClause 82 = .ok (.ifCond .ne 5, 3) := by decide +kernel
theorem dX4_takesClause_85 : decode cX4_takesClause 85 = .ok (.iconst 0, 1) := by decide +kernel
theorem dX4_takesClause_86 : decode cX4_takesClause 86 = .ok (.ireturn, 1) := by decide +kernel
theorem dX4_takesClause_87 : decode cX4_takesClause 87 = .ok (.aload_n 0, 1) := by decide +kernel
theorem dX4_takesClause_88 : decode cX4_takesClause 88 = .ok (.getfield 19, 3) := by decide +kernel
theorem dX4_takesClause_91 : decode cX4_takesClause 91 = .ok (.iload_n 2, 1) := by decide +kernel
theorem dX4_takesClause_92 : decode cX4_takesClause 92 = .ok (.ifCond .eq 8, 3) := by decide +kernel
theorem dX4_takesClause_95 : decode cX4_takesClause 95 = .ok (.bipush 7, 2) := by decide +kernel
theorem dX4_takesClause_97 : decode cX4_takesClause 97 = .ok (.goto 5, 3) := by decide +kernel
theorem dX4_takesClause_100 : decode cX4_takesClause 100 = .ok (.bipush 6, 2) := by decide +kernel
theorem dX4_takesClause_102 : decode cX4_takesClause 102 = .ok (.iconst 0, 1) := by decide +kernel
theorem dX4_takesClause_103 : decode cX4_takesClause 103 = .ok (.iload_n 3, 1) := by decide +kernel
theorem dX4_takesClause_104 : decode cX4_takesClause 104 = .ok (.invokevirtual 85, 3) := by decide +kernel
theorem dX4_takesClause_107 : decode cX4_takesClause 107 = .ok (.iconst 1, 1) := by decide +kernel
theorem dX4_takesClause_108 : decode cX4_takesClause 108 = .ok (.ireturn, 1) := by decide +kernel
set_option maxRecDepth 20000 in
theorem ggX4_takesAnyOf_X4_takesAllOf : GoodIn wsX4_takesAnyOf wsX4_takesAllOf := goodIn_r _ [22, 1, 2, 23, 24, 25, 6, 7, 8, 9, 10, 11, 12, 13, 14, 15, 16, 17, 18, 19, 20, 21, 0, 3, 4, 5, 26, 27, 28, 29, 30, 31, 32, 33, 34, 35, 36, 37, 38, 39, 40, 41, 42, 43, 44, 45, 46, 47, 48, 49, 50, 51, 52, 53, 54, 55, 56, 57, 58, 59, 60, 61, 62, 63, 64, 65, 66, 67, 68, 69, 70, 71, 72, 73, 74, 75, 76, 77, 78, 79, 80, 81, 82, 83, 84, 85, 86, 87, 88, 89, 90, 91, 92, 93, 94, 95, 96, 97, 98, 99, 100, 101, 102, 103, 104, 105, 106, 107, 108, 109, 110, 111, 112, 113, 114, 115, 116, 117, 118, 119, 120, 121, 122, 123, 124, 125, 126, 127, 128, 129, 130, 131, 132, 133, 134, 135, 136, 137, 138, 139, 140, 141, 142, 143, 144, 145, 146, 147, 148, 149, 150, 151, 152, 153, 154, 155, 156, 157, 158, 159, 160, 161, 162, 163, 164, 165, 166, 167, 168] rfl (by decide +kernel)
set_option maxRecDepth 20000 in
theorem gX4_takesAnyOf_X4_takesAllOf : GoodIn wsX4_takesAnyOf (wsV RX4 89 RX4 yX4_takesAllOf wsX4_takesAllOf) := goodIn_app (goodIn_of _ (by decide +kernel)) ggX4_takesAnyOf_X4_takesAllOf
set_option maxRecDepth 20000 in
theorem ggX4_takesAnyOf_X4_isAt : GoodIn wsX4_takesAnyOf wsX4_isAt := goodIn_r _ [10, 1, 11, 12, 160, 161, 162, 163] rfl (by decide +kernel)
set_option maxRecDepth 20000 in
theorem gX4_takesAnyOf_X4_isAt : GoodIn wsX4_takesAnyOf (wsV RX4 50 RX4 yX4_isAt wsX4_isAt) := goodIn_app (goodIn_of _ (by decide +kernel)) ggX4_takesAnyOf_X4_isAt
set_option maxRecDepth 20000 in
theorem ggX4_takesAnyOf_X3_put : GoodIn wsX4_takesAnyOf wsX3_put := goodIn_r _ [17, 18, 19, 20, 21, 164, 165, 166, 167, 168] rfl (by decide +kernel)
set_option maxRecDepth 20000 in
theorem gX4_takesAnyOf_X3_put : GoodIn wsX4_takesAnyOf (wsV RX4 85 RX3 yX3_put wsX3_put) := goodIn_app (goodIn_of _ (by decide +kernel)) ggX4_takesAnyOf_X3_put
theorem dX4_takesAnyOf_0 : decode cX4_takesAnyOf 0 = .ok (.aload_n 0, 1) := by decide +kernel
theorem dX4_takesAnyOf_1 : decode cX4_takesAnyOf 1 = .ok (.iload_n 1, 1) := by decide +kernel
theorem dX4_takesAnyOf_2 : decode cX4_takesAnyOf 2 = .ok (.invokevirtual 89, 3) := by decide +kernel
theorem dX4_takesAnyOf_5 : decode cX4_takesAnyOf 5 = .ok (.ifCond .ne 5, 3) := by decide +kernel
theorem dX4_takesAnyOf_8 : decode cX4_takesAnyOf 8 = .ok (.iconst 0, 1) := by decide +kernel
theorem dX4_takesAnyOf_9 : decode cX4_takesAnyOf 9 = .ok (.ireturn, 1) := by decide +kernel
theorem dX4_takesAnyOf_10 : decode cX4_takesAnyOf 10 = .ok (.iconst 0, 1) := by decide +kernel
theorem dX4_takesAnyOf_11 : decode cX4_takesAnyOf 11 = .ok (.istore_n 2, 1) := by decide +kernel
theorem dX4_takesAnyOf_12 : decode cX4_takesAnyOf 12 = .ok (.iload_n 2, 1) := by decide +kernel
theorem dX4_takesAnyOf_13 : decode cX4_takesAnyOf 13 = .ok (.bipush 100, 2) := by decide +kernel
theorem dX4_takesAnyOf_15 : decode cX4_takesAnyOf 15 = .ok (.if_icmp .ge 48, 3) := by decide +kernel
theorem dX4_takesAnyOf_18 : decode cX4_takesAnyOf 18 = .ok (.aload_n 0, 1) := by decide +kernel
theorem dX4_takesAnyOf_19 : decode cX4_takesAnyOf 19 = .ok (.bipush 124, 2) := by decide +kernel
theorem dX4_takesAnyOf_21 : decode cX4_takesAnyOf 21 = .ok (.invokevirtual 50, 3) := by decide +kernel
theorem dX4_takesAnyOf_24 : decode cX4_takesAnyOf 24 = .ok (.ifCond .eq 39, 3) := by decide +kernel
theorem dX4_takesAnyOf_27 : decode cX4_takesAnyOf 27 = .ok (.aload_n 0, 1) := by decide +kernel
theorem dX4_takesAnyOf_28 : decode cX4_takesAnyOf 28 = .ok (.dup, 1) := by decide +kernel
theorem dX4_takesAnyOf_29 : decode cX4_takesAnyOf 29 = .ok (.getfield 28, 3) := by decide +kernel
theorem dX4_takesAnyOf_32 : decode cX4_takesAnyOf 32 = .ok (.iconst 1, 1) := by decide +kernel
theorem dX4_takesAnyOf_33 : decode cX4_takesAnyOf 33 = .ok (.iadd, 1) := by decide +kernel
theorem dX4_takesAnyOf_34 : decode cX4_takesAnyOf 34 = .ok (.putfield 28, 3) := by decide +kernel
theorem dX4_takesAnyOf_37 : decode cX4_takesAnyOf 37 = .ok (.aload_n 0, 1) := by decide +kernel
theorem dX4_takesAnyOf_38 : decode cX4_takesAnyOf 38 = .ok (.iload_n 1, 1) := by decide +kernel
theorem dX4_takesAnyOf_39 : decode cX4_takesAnyOf 39 = .ok (.invokevirtual 89, 3) := by decide +kernel
theorem dX4_takesAnyOf_42 : decode cX4_takesAnyOf 42 = .ok (.ifCond .ne 5, 3) := by decide +kernel
theorem dX4_takesAnyOf_45 : decode cX4_takesAnyOf 45 = .ok (.iconst 0, 1) := by decide +kernel
theorem dX4_takesAnyOf_46 : decode cX4_takesAnyOf 46 = .ok (.ireturn, 1) := by decide +kernel
theorem dX4_takesAnyOf_47 : decode cX4_takesAnyOf 47 = .ok (.aload_n 0, 1) := by decide +kernel
theorem dX4_takesAnyOf_48 : decode cX4_takesAnyOf 48 = .ok (.getfield 19, 3) := by decide +kernel
theorem dX4_takesAnyOf_51 : decode cX4_takesAnyOf 51 = .ok (.iconst 5, 1) := by decide +kernel
theorem dX4_takesAnyOf_52 : decode cX4_takesAnyOf 52 = .ok (.iconst 0, 1) := by decide +kernel
theorem dX4_takesAnyOf_53 : decode cX4_takesAnyOf 53 = .ok (.iconst 0, 1) := by decide +kernel
theorem dX4_takesAnyOf_54 : decode cX4_takesAnyOf 54 = .ok (.invokevirtual 85, 3) := by decide +kernel
theorem dX4_takesAnyOf_57 : decode cX4_takesAnyOf 57 = .ok (.iinc 2 1, 3) := by decide +kernel
theorem dX4_takesAnyOf_60 : decode cX4_takesAnyOf 60 = .ok (.goto (-48), 3) := by decide +kernel
theorem dX4_takesAnyOf_63 : decode cX4_takesAnyOf 63 = .ok (.iconst 1, 1) := by decide +kernel
theorem dX4_takesAnyOf_64 : decode cX4_takesAnyOf 64 = .ok (.ireturn, 1) := by decide +kernel
set_option maxRecDepth 20000 in
theorem ggX4_takesAllOf_X4_takesPart : GoodIn wsX4_takesAllOf wsX4_takesPart := goodIn_r _ [26, 1, 2, 7, 8, 9, 6, 10, 11, 12, 27, 28, 29, 30, 31, 32, 33, 34, 35, 36, 37, 38, 39, 40, 41, 42, 43, 44, 45, 46, 47, 48, 49, 50, 51, 52, 53, 54, 55, 56, 57, 58, 59, 60, 61, 62, 63, 64, 65, 66, 67, 68, 69, 70, 71, 72, 73, 74, 75, 76, 77, 78, 79, 80, 81, 82, 83, 84, 85, 86, 87, 88, 89, 90, 91, 92, 93, 94, 95, 96, 97, 98, 99, 100, 101, 102, 103, 104, 105, 106, 107, 108, 109, 110, 111, 112, 113, 114, 115, 116, 117, 118, 119, 120, 121, 122, 123, 124, 125, 126, 127, 128, 129, 130, 131, 13, 14, 15, 16, 17, 18, 19, 20, 21, 132, 133, 134, 135, 136, 137, 138, 139, 140, 141, 142, 143, 144, 145, 146, 147, 148, 149, 150, 151, 152, 153, 154, 155, 156, 157, 158, 159, 3, 4, 5, 0, 22, 23, 24, 25, 160, 161, 162, 163, 164, 165, 166, 167, 168] rfl (by decide +kernel)
set_option maxRecDepth 20000 in
theorem gX4_takesAllOf_X4_takesPart : GoodIn wsX4_takesAllOf (wsV RX4 92 RX4 yX4_takesPart wsX4_takesPart) := goodIn_app (goodIn_of _ (by decide +kernel)) ggX4_takesAllOf_X4_takesPart
set_option maxRecDepth 20000 in
theorem ggX4_takesAllOf_X4_isAt : GoodIn wsX4_takesAllOf wsX4_isAt := goodIn_r _ [10, 1, 11, 12, 160, 161, 162, 163] rfl (by decide +kernel)
set_option maxRecDepth 20000 in
theorem gX4_takesAllOf_X4_isAt : GoodIn wsX4_takesAllOf (wsV RX4 50 RX4 yX4_isAt wsX4_isAt) := goodIn_app (goodIn_of _ (by decide +kernel)) ggX4_takesAllOf_X4_isAt
set_option maxRecDepth 20000 in
theorem ggX4_takesAllOf_X3_put : GoodIn wsX4_takesAllOf wsX3_put := goodIn_r _ [17, 18, 19, 20, 21, 164, 165, 166, 167, 168] rfl (by decide +kernel)
set_option maxRecDepth 20000 in
theorem gX4_takesAllOf_X3_put : GoodIn wsX4_takesAllOf (wsV RX4 85 RX3 yX3_put wsX3_put) := goodIn_app (goodIn_of _ (by decide +kernel)) ggX4_takesAllOf_X3_put
theorem dX4_takesAllOf_0 : decode cX4_takesAllOf 0 = .ok (.aload_n 0, 1) := by decide +kernel
theorem dX4_takesAllOf_1 : decode cX4_takesAllOf 1 = .ok (.iload_n 1, 1) := by decide +kernel
theorem dX4_takesAllOf_2 : decode cX4_takesAllOf 2 = .ok (.invokevirtual 92, 3) := by decide +kernel
theorem dX4_takesAllOf_5 : decode cX4_takesAllOf 5 = .ok (.ifCond .ne 5, 3) := by decide +kernel
theorem dX4_takesAllOf_8 : decode cX4_takesAllOf 8 = .ok (.iconst 0, 1) := by decide +kernel
theorem dX4_takesAllOf_9 : decode cX4_takesAllOf 9 = .ok (.ireturn, 1) := by decide +kernel
theorem dX4_takesAllOf_10 : decode cX4_takesAllOf 10 = .ok (.iconst 0, 1) := by decide +kernel
theorem dX4_takesAllOf_11 : decode cX4_takesAllOf 11 = .ok (.istore_n 2, 1) := by decide +kernel
theorem dX4_takesAllOf_12 : decode cX4_takesAllOf 12 = .ok (.iload_n 2, 1) := by decide +kernel
theorem dX4_takesAllOf_13 : decode cX4_takesAllOf 13 = .ok (.bipush 100, 2) := by decide +kernel
theorem dX4_takesAllOf_15 : decode cX4_takesAllOf 15 = .ok (.if_icmp .ge 48, 3) := by decide +kernel
theorem dX4_takesAllOf_18 : decode cX4_takesAllOf 18 = .ok (.aload_n 0, 1) := by decide +kernel
theorem dX4_takesAllOf_19 : decode cX4_takesAllOf 19 = .ok (.bipush 38, 2) := by decide +kernel
theorem dX4_takesAllOf_21 : decode cX4_takesAllOf 21 = .ok (.invokevirtual 50, 3) := by decide +kernel
theorem dX4_takesAllOf_24 : decode cX4_takesAllOf 24 = .ok (.ifCond .eq 39, 3) := by decide +kernel
theorem dX4_takesAllOf_27 : decode cX4_takesAllOf 27 = .ok (.aload_n 0, 1) := by decide +kernel
theorem dX4_takesAllOf_28 : decode cX4_takesAllOf 28 = .ok (.dup, 1) := by decide +kernel
theorem dX4_takesAllOf_29 : decode cX4_takesAllOf 29 = .ok (.getfield 28, 3) := by decide +kernel
theorem dX4_takesAllOf_32 : decode cX4_takesAllOf 32 = .ok (.iconst 1, 1) := by decide +kernel
theorem dX4_takesAllOf_33 : decode cX4_takesAllOf 33 = .ok (.iadd, 1) := by decide +kernel
theorem dX4_takesAllOf_34 : decode cX4_takesAllOf 34 = .ok (.putfield 28, 3) := by decide +kernel
theorem dX4_takesAllOf_37 : decode cX4_takesAllOf 37 = .ok (.aload_n 0, 1) := by decide +kernel
theorem dX4_takesAllOf_38 : decode cX4_takesAllOf 38 = .ok (.iload_n 1, 1) := by decide +kernel
theorem dX4_takesAllOf_39 : decode cX4_takesAllOf 39 = .ok (.invokevirtual 92, 3) := by decide +kernel
theorem dX4_takesAllOf_42 : decode cX4_takesAllOf 42 = .ok (.ifCond .ne 5, 3) := by decide +kernel
theorem dX4_takesAllOf_45 : decode cX4_takesAllOf 45 = .ok (.iconst 0, 1) := by decide +kernel
theorem dX4_takesAllOf_46 : decode cX4_takesAllOf 46 = .ok (.ireturn, 1) := by decide +kernel
theorem dX4_takesAllOf_47 : decode cX4_takesAllOf 47 = .ok (.aload_n 0, 1) := by decide +kernel
theorem dX4_takesAllOf_48 : decode cX4_takesAllOf 48 = .ok (.getfield 19, 3) := by decide +kernel
theorem dX4_takesAllOf_51 : decode cX4_takesAllOf 51 = .ok (.iconst 4, 1) := by decide +kernel
theorem dX4_takesAllOf_52 : decode cX4_takesAllOf 52 = .ok (.iconst 0, 1) := by decide +kernel
theorem dX4_takesAllOf_53 : decode cX4_takesAllOf 53 = .ok (.iconst 0, 1) := by decide +kernel
theorem dX4_takesAllOf_54 : decode cX4_takesAllOf 54 = .ok (.invokevirtual 85, 3) := by decide +kernel
theorem dX4_takesAllOf_57 : decode cX4_takesAllOf 57 = .ok (.iinc 2 1, 3) := by decide +kernel
theorem dX4_takesAllOf_60 : decode cX4_takesAllOf 60 = .ok (.goto (-48), 3) := by decide +kernel
theorem dX4_takesAllOf_63 : decode cX4_takesAllOf 63 = .ok (.iconst 1, 1) := by decide +kernel
theorem dX4_takesAllOf_64 : decode cX4_takesAllOf 64 = .ok (.ireturn, 1) := by decide +kernel
set_option maxRecDepth 20000 in
theorem ggX4_takesPart_X4_isAt : GoodIn wsX4_takesPart wsX4_isAt := goodIn_r _ [7, 1, 8, 9, 160, 161, 162, 163] rfl (by decide +kernel)
set_option maxRecDepth 20000 in
theorem gX4_takesPart_X4_isAt : GoodIn wsX4_takesPart (wsV RX4 50 RX4 yX4_isAt wsX4_isAt) := goodIn_app (goodIn_of _ (by decide +kernel)) ggX4_takesPart_X4_isAt
set_option maxRecDepth 20000 in
theorem ggX4_takesPart_X4_takesTest : GoodIn wsX4_takesPart wsX4_takesTest := goodIn_r _ [13, 2, 14, 15, 16, 6, 17, 1, 8, 9, 18, 19, 20, 21, 22, 23, 24, 25, 26, 27, 28, 29, 30, 31, 32, 33, 34, 35, 36, 37, 38, 39, 40, 41, 42, 43, 44, 45, 46, 47, 48, 49, 50, 51, 52, 53, 54, 55, 56, 57, 58, 59, 60, 61, 62, 63, 64, 65, 66, 67, 68, 69, 70, 71, 72, 73, 74, 75, 76, 77, 78, 79, 80, 81, 82, 83, 84, 85, 86, 87, 88, 89, 90, 91, 92, 93, 94, 95, 96, 97, 98, 99, 100, 101, 102, 103, 104, 105, 106, 107, 108, 109, 110, 111, 112, 113, 114, 115, 116, 117, 118, 119, 120, 121, 122, 123, 160, 161, 162, 163, 164, 165, 166, 167, 168] rfl (by decide +kernel)
set_option maxRecDepth 20000 in
theorem gX4_takesPart_X4_takesTest : GoodIn wsX4_takesPart (wsV RX4 95 RX4 yX4_takesTest wsX4_takesTest) := goodIn_app (goodIn_of _ (by decide +kernel)) ggX4_takesPart_X4_takesTest
set_option maxRecDepth 20000 in
theorem ggX4_takesPart_X4_takesAnyOf : GoodIn wsX4_takesPart wsX4_takesAnyOf := goodIn_r _ [156, 1, 2, 157, 158, 159, 6, 3, 4, 5, 7, 8, 9, 115, 116, 117, 118, 119, 120, 121, 122, 123, 155, 152, 153, 154, 0, 10, 11, 12, 13, 14, 15, 16, 17, 18, 19, 20, 21, 22, 23, 24, 25, 26, 27, 28, 29, 30, 31, 32, 33, 34, 35, 36, 37, 38, 39, 40, 41, 42, 43, 44, 45, 46, 47, 48, 49, 50, 51, 52, 53, 54, 55, 56, 57, 58, 59, 60, 61, 62, 63, 64, 65, 66, 67, 68, 69, 70, 71, 72, 73, 74, 75, 76, 77, 78, 79, 80, 81, 82, 83, 84, 85, 86, 87, 88, 89, 90, 91, 92, 93, 94, 95, 96, 97, 98, 99, 100, 101, 102, 103, 104, 105, 106, 107, 108, 109, 110, 111, 112, 113, 114, 124, 125, 126, 127, 128, 129, 130, 131, 132, 133, 134, 135, 136, 137, 138, 139, 140, 141, 142, 143, 144, 145, 146, 147, 148, 149, 150, 151, 160, 161, 162, 163, 164, 165, 166, 167, 168] rfl (by decide +kernel)
set_option maxRecDepth 20000 in
theorem gX4_takesPart_X4_takesAnyOf : GoodIn wsX4_takesPart (wsV RX4 81 RX4 yX4_takesAnyOf wsX4_takesAnyOf) := goodIn_app (goodIn_of _ (by decide +kernel)) ggX4_takesPart_X4_takesAnyOf
set_option maxRecDepth 20000 in
theorem ggX4_takesPart_X4_takesWord : GoodIn wsX4_takesPart wsX4_takesWord := goodIn_r _ [130, 1, 131, 35, 36, 21, 37, 27, 38, 39, 40, 41, 32, 33, 132, 133, 134, 135, 28, 29, 30, 31, 136, 137, 44, 138, 139, 140, 141, 78, 142, 143, 81, 144, 145, 146, 61, 147, 148, 149, 150, 72, 73, 74, 151, 86, 87, 88, 89, 90, 91, 3, 4, 5, 6, 7, 8, 9, 160, 161, 162, 163] rfl (by decide +kernel)
set_option maxRecDepth 20000 in
theorem gX4_takesPart_X4_takesWord : GoodIn wsX4_takesPart (wsV RX4 37 RX4 yX4_takesWord wsX4_takesWord) := goodIn_app (goodIn_of _ (by decide +kernel)) ggX4_takesPart_X4_takesWord
set_option maxRecDepth 20000 in
theorem ggX4_takesPart_X4_takesPart : GoodIn wsX4_takesPart wsX4_takesPart := goodIn_r _ [0, 1, 2, 3, 4, 5, 6, 7, 8, 9, 10, 11, 12, 13, 14, 15, 16, 17, 18, 19, 20, 21, 22, 23, 24, 25, 26, 27, 28, 29, 30, 31, 32, 33, 34, 35, 36, 37, 38, 39, 40, 41, 42, 43, 44, 45, 46, 47, 48, 49, 50, 51, 52, 53, 54, 55, 56, 57, 58, 59, 60, 61, 62, 63, 64, 65, 66, 67, 68, 69, 70, 71, 72, 73, 74, 75, 76, 77, 78, 79, 80, 81, 82, 83, 84, 85, 86, 87, 88, 89, 90, 91, 92, 93, 94, 95, 96, 97, 98, 99, 100, 101, 102, 103, 104, 105, 106, 107, 108, 109, 110, 111, 112, 113, 114, 115, 116, 117, 118, 119, 120, 121, 122, 123, 124, 125, 126, 127, 128, 129, 130, 131, 132, 133, 134, 135, 136, 137, 138, 139, 140, 141, 142, 143, 144, 145, 146, 147, 148, 149, 150, 151, 152, 153, 154, 155, 156, 157, 158, 159, 160, 161, 162, 163, 164, 165, 166, 167, 168] rfl (by decide +kernel)
set_option maxRecDepth 20000 in
theorem gX4_takesPart_X4_takesPart : GoodIn wsX4_takesPart (wsV RX4 92 RX4 yX4_takesPart wsX4_takesPart) := goodIn_app (goodIn_of _ (by decide +kernel)) ggX4_takesPart_X4_takesPart
set_option maxRecDepth 20000 in
theorem ggX4_takesPart_X3_put : GoodIn wsX4_takesPart wsX3_put := goodIn_r _ [119, 120, 121, 122, 123, 164, 165, 166, 167, 168] rfl (by decide +kernel)
set_option maxRecDepth 20000 in
theorem gX4_takesPart_X3_put : GoodIn wsX4_takesPart (wsV RX4 85 RX3 yX3_put wsX3_put) := goodIn_app (goodIn_of _ (by decide +kernel)) ggX4_takesPart_X3_put
theorem dX4_takesPart_0 : decode cX4_takesPart 0 = .ok (.aload_n 0, 1) := by decide +kernel
theorem dX4_takesPart_1 : decode cX4_takesPart 1 = .ok (.bipush 33, 2) := by decide +kernel
theorem dX4_takesPart_3 : decode cX4_takesPart 3 = .ok (.invokevirtual 50, 3) := by decide +kernel
theorem dX4_takesPart_6 : decode cX4_takesPart 6 = .ok (.ifCond .ne 17, 3) := by decide +kernel
theorem dX4_takesPart_9 : decode cX4_takesPart 9 = .ok (.aload_n 0, 1) := by decide +kernel
theorem dX4_takesPart_10 : decode cX4_takesPart 10 = .ok (.bipush 40, 2) := by decide +kernel
theorem dX4_takesPart_12 : decode cX4_takesPart 12 = .ok (.invokevirtual 50, 3) := by decide +kernel
theorem dX4_takesPart_15 : decode cX4_takesPart 15 = .ok (.ifCond .ne 8, 3) := by decide +kernel
theorem dX4_takesPart_18 : decode cX4_takesPart 18 = .ok (.aload_n 0, 1) := by decide +kernel
theorem dX4_takesPart_19 : decode cX4_takesPart 19 = .ok (.invokevirtual 95, 3) := by decide +kernel
theorem dX4_takesPart_22 : decode cX4_takesPart 22 = .ok (.ireturn, 1) := by decide +kernel
theorem dX4_takesPart_23 : decode cX4_takesPart 23 = .ok (.iload_n 1, 1) := by decide +kernel
theorem dX4_takesPart_24 : decode cX4_takesPart 24 = .ok (.iconst 4, 1) := by decide +kernel
theorem dX4_takesPart_25 : decode cX4_takesPart 25 = .ok (.if_icmp .lt 5, 3) := by decide +kernel
theorem dX4_takesPart_28 : decode cX4_takesPart 28 = .ok (.iconst 0, 1) := by decide +kernel
theorem dX4_takesPart_29 : decode cX4_takesPart 29 = .ok (.ireturn, 1) := by decide +kernel
theorem dX4_takesPart_30 : decode cX4_takesPart 30 = .ok (.aload_n 0, 1) := by decide +kernel
theorem dX4_takesPart_31 : decode cX4_takesPart 31 = .ok (.bipush 33, 2) := by decide +kernel
theorem dX4_takesPart_33 : decode cX4_takesPart 33 = .ok (.invokevirtual 50, 3) := by decide +kernel
theorem dX4_takesPart_36 : decode cX4_takesPart 36 = .ok (.istore_n 2, 1) := by decide +kernel
theorem dX4_takesPart_37 : decode cX4_takesPart 37 = .ok (.aload_n 0, 1) := by decide +kernel
theorem dX4_takesPart_38 : decode cX4_takesPart 38 = .ok (.dup, 1) := by decide +kernel
theorem dX4_takesPart_39 : decode cX4_takesPart 39 = .ok (.getfield 28, 3) := by decide +kernel
theorem dX4_takesPart_42 : decode cX4_takesPart 42 = .ok (.iconst 1, 1) := by decide +kernel
theorem dX4_takesPart_43 : decode cX4_takesPart 43 = .ok (.iadd, 1) := by decide +kernel
theorem dX4_takesPart_44 : decode cX4_takesPart 44 = .ok (.putfield 28, 3) := by decide +kernel
theorem dX4_takesPart_47 : decode cX4_takesPart 47 = .ok (.iload_n 2, 1) := by decide +kernel
theorem dX4_takesPart_48 : decode cX4_takesPart 48 = .ok (.ifCond .ne 28, 3) := by decide +kernel
theorem dX4_takesPart_51 : decode cX4_takesPart 51 = .ok (.aload_n 0, 1) := by decide +kernel
theorem dX4_takesPart_52 : decode cX4_takesPart 52 = .ok (.iload_n 1, 1) := by decide +kernel
theorem dX4_takesPart_53 : decode cX4_takesPart 53 = .ok (.iconst 1, 1) := by decide +kernel
theorem dX4_takesPart_54 : decode cX4_takesPart 54 = .ok (.iadd, 1) := by decide +kernel
theorem dX4_takesPart_55 : decode cX4_takesPart 55 = .ok (.invokevirtual 81, 3) := by decide +kernel
theorem dX4_takesPart_58 : decode cX4_takesPart 58 = .ok (.ifCond .eq 16, 3) := by decide +kernel
theorem dX4_takesPart_61 : decode cX4_takesPart 61 = .ok (.aload_n 0, 1) := by decide +kernel
theorem dX4_takesPart_62 : decode cX4_takesPart 62 = .ok (.ldc 98, 2) := by decide +kernel
theorem dX4_takesPart_64 : decode cX4_takesPart 64 = .ok (.invokevirtual 37, 3) := by decide +kernel
theorem dX4_takesPart_67 : decode cX4_takesPart 67 = .ok (.ifCond .eq 7, 3) := by decide +kernel
theorem dX4_takesPart_70 : decode cX4_takesPart 70 = .ok (.iconst 1, 1) := by decide +kernel
theorem dX4_takesPart_71 : decode cX4_takesPart 71 = .ok (.goto 4, 3) := by decide +kernel
theorem dX4_takesPart_74 : decode cX4_takesPart 74 = .ok (.iconst 0, 1) := by decide +kernel
theorem dX4_takesPart_75 : decode cX4_takesPart 75 = .ok (.ireturn, 1) := by decide +kernel
theorem dX4_takesPart_76 : decode cX4_takesPart 76 = .ok (.aload_n 0, 1) := by decide +kernel
theorem dX4_takesPart_77 : decode cX4_takesPart 77 = .ok (.iload_n 1, 1) := by decide +kernel
theorem dX4_takesPart_78 : decode cX4_takesPart 78 = .ok (.iconst 1, 1) := by decide +kernel
theorem dX4_takesPart_79 : decode cX4_takesPart 79 = .ok (.iadd, 1) := by decide +kernel
theorem dX4_takesPart_80 : decode cX4_takesPart 80 = .ok (.invokevirtual 92, 3) := by decide +kernel
theorem dX4_takesPart_83 : decode cX4_takesPart 83 = .ok (.ifCond .ne 5, 3) := by decide +kernel
theorem dX4_takesPart_86 : decode cX4_takesPart 86 = .ok (.iconst 0, 1) := by decide +kernel
theorem dX4_takesPart_87 : decode cX4_takesPart 87 = .ok (.ireturn, 1) := by decide +kernel
theorem dX4_takesPart_88 : decode cX4_takesPart 88 = .ok (.aload_n 0, 1) := by decide +kernel
theorem dX4_takesPart_89 : decode cX4_takesPart 89 = .ok (.getfield 19, 3) := by decide +kernel
theorem dX4_takesPart_92 : decode cX4_takesPart 92 = .ok (.iconst 3, 1) := by decide +kernel
theorem dX4_takesPart_93 : decode cX4_takesPart 93 = .ok (.iconst 0, 1) := by decide +kernel
theorem dX4_takesPart_94 : decode cX4_takesPart 94 = .ok (.iconst 0, 1) := by decide +kernel
theorem dX4_takesPart_95 : decode cX4_takesPart 95 = .ok (.invokevirtual 85, 3) := by decide +kernel
theorem dX4_takesPart_98 : decode cX4_takesPart 98 = .ok (.iconst 1, 1) := by decide +kernel
theorem dX4_takesPart_99 : decode cX4_takesPart 99 = .ok (.ireturn, 1) := by decide +kernel
set_option maxRecDepth 20000 in
theorem ggX4_takesTest_X4_takesOneOf : GoodIn wsX4_takesTest wsX4_takesOneOf := goodIn_r _ [6, 7, 8, 9, 10, 11, 12, 13, 14, 15, 16, 17, 18, 19, 20, 21, 22, 23, 24, 25, 26, 27, 28, 29, 30, 31, 32, 33, 34, 35, 36, 37, 38, 39, 40, 41, 42, 43, 44, 45, 46, 47, 48, 49, 50, 51, 52, 53, 54, 55, 56, 57, 58, 59, 60, 61, 62, 63, 64, 65, 66, 67, 68, 69, 70, 71, 72, 73, 74, 75, 76, 77, 78, 79, 80, 81, 82, 83, 84, 85, 86, 87, 88, 89, 90, 91, 92, 93, 94, 95, 96, 97, 98, 116, 117, 118, 119] rfl (by decide +kernel)
set_option maxRecDepth 20000 in
theorem gX4_takesTest_X4_takesOneOf : GoodIn wsX4_takesTest (wsV RX4 102 RX4 yX4_takesOneOf wsX4_takesOneOf) := goodIn_app (goodIn_of _ (by decide +kernel)) ggX4_takesTest_X4_takesOneOf
set_option maxRecDepth 20000 in
theorem ggX4_takesTest_X4_takesNumber : GoodIn wsX4_takesTest wsX4_takesNumber := goodIn_r _ [102, 7, 8, 9, 103, 39, 40, 41, 104, 105, 5, 106, 116, 117, 118, 119] rfl (by decide +kernel)
set_option maxRecDepth 20000 in
theorem gX4_takesTest_X4_takesNumber : GoodIn wsX4_takesTest (wsV RX4 73 RX4 yX4_takesNumber wsX4_takesNumber) := goodIn_app (goodIn_of _ (by decide +kernel)) ggX4_takesTest_X4_takesNumber
set_option maxRecDepth 20000 in
theorem ggX4_takesTest_X3_put : GoodIn wsX4_takesTest wsX3_put := goodIn_r _ [111, 112, 113, 114, 115, 120, 121, 122, 123, 124] rfl (by decide +kernel)
set_option maxRecDepth 20000 in
theorem gX4_takesTest_X3_put : GoodIn wsX4_takesTest (wsV RX4 85 RX3 yX3_put wsX3_put) := goodIn_app (goodIn_of _ (by decide +kernel)) ggX4_takesTest_X3_put
theorem dX4_takesTest_0 : decode cX4_takesTest 0 = .ok (.aload_n 0, 1) := by decide +kernel
theorem dX4_takesTest_1 : decode cX4_takesTest 1 = .ok (.ldc 100, 2) := by decide +kernel
theorem dX4_takesTest_3 : decode cX4_takesTest 3 = .ok (.invokevirtual 102, 3) := by decide +kernel
theorem dX4_takesTest_6 : decode cX4_takesTest 6 = .ok (.istore_n 1, 1) := by decide +kernel
theorem dX4_takesTest_7 : decode cX4_takesTest 7 = .ok (.iload_n 1, 1) := by decide +kernel
theorem dX4_takesTest_8 : decode cX4_takesTest 8 = .ok (.ifCond .ge 5, 3) := by decide +kernel
theorem dX4_takesTest_11 : decode cX4_takesTest 11 = .ok (.iconst 0, 1) := by decide +kernel
theorem dX4_takesTest_12 : decode cX4_takesTest 12 = .ok (.ireturn, 1) := by decide +kernel
theorem dX4_takesTest_13 : decode cX4_takesTest 13 = .ok (.aload_n 0, 1) := by decide +kernel
theorem dX4_takesTest_14 : decode cX4_takesTest 14 = .ok (.ldc 106, 2) := by decide +kernel
theorem dX4_takesTest_16 : decode cX4_takesTest 16 = .ok (.invokevirtual 102, 3) := by decide +kernel
theorem dX4_takesTest_19 : decode cX4_takesTest 19 = .ok (.istore_n 2, 1) := by decide +kernel
theorem dX4_takesTest_20 : decode cX4_takesTest 20 = .ok (.iload_n 2, 1) := by decide +kernel
theorem dX4_takesTest_21 : decode cX4_takesTest 21 = .ok (.ifCond .ge 5, 3) := by decide +kernel
theorem dX4_takesTest_24 : decode cX4_takesTest 24 = .ok (.iconst 0, 1) := by decide +kernel
theorem dX4_takesTest_25 : decode cX4_takesTest 25 = .ok (.ireturn, 1) := by decide +kernel
theorem dX4_takesTest_26 : decode cX4_takesTest 26 = .ok (.aload_n 0, 1) := by decide +kernel
theorem dX4_takesTest_27 : decode cX4_takesTest 27 = .ok (.invokevirtual 73, 3) := by decide +kernel
theorem dX4_takesTest_30 : decode cX4_takesTest 30 = .ok (.istore_n 3, 1) := by decide +kernel
theorem dX4_takesTest_31 : decode cX4_takesTest 31 = .ok (.iload_n 3, 1) := by decide +kernel
theorem dX4_takesTest_32 : decode cX4_takesTest 32 = .ok (.ifCond .ge 5, 3) := by decide +kernel
theorem dX4_takesTest_35 : decode cX4_takesTest 35 = .ok (.iconst 0, 1) := by decide +kernel
theorem dX4_takesTest_36 : decode cX4_takesTest 36 = .ok (.ireturn, 1) := by decide +kernel
theorem dX4_takesTest_37 : decode cX4_takesTest 37 = .ok (.aload_n 0, 1) := by decide +kernel
theorem dX4_takesTest_38 : decode cX4_takesTest 38 = .ok (.getfield 19, 3) := by decide +kernel
theorem dX4_takesTest_41 : decode cX4_takesTest 41 = .ok (.iload_n 2, 1) := by decide +kernel
theorem dX4_takesTest_42 : decode cX4_takesTest 42 = .ok (.iload_n 1, 1) := by decide +kernel
theorem dX4_takesTest_43 : decode cX4_takesTest 43 = .ok (.iload_n 3, 1) := by decide +kernel
theorem dX4_takesTest_44 : decode cX4_takesTest 44 = .ok (.invokevirtual 85, 3) := by decide +kernel
theorem dX4_takesTest_47 : decode cX4_takesTest 47 = .ok (.iconst 1, 1) := by decide +kernel
theorem dX4_takesTest_48 : decode cX4_takesTest 48 = .ok (.ireturn, 1) := by decide +kernel

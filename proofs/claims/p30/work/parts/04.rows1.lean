theorem dX5_nameValue_37 : decode cX5_nameValue 37 = .ok (.getfield 12, 3) := by decide +kernel
theorem dX5_nameValue_40 : decode cX5_nameValue 40 = .ok (.getfield 86, 3) := by decide +kernel
theorem dX5_nameValue_43 : decode cX5_nameValue 43 = .ok (.iload_n 3, 1) := by decide +kernel
theorem dX5_nameValue_44 : decode cX5_nameValue 44 = .ok (.invokevirtual 71, 3) := by decide +kernel
theorem dX5_nameValue_47 : decode cX5_nameValue 47 = .ok (.invokestatic 167, 3) := by decide +kernel
theorem dX5_nameValue_50 : decode cX5_nameValue 50 = .ok (.ireturn, 1) := by decide +kernel
theorem dX5_nameValue_51 : decode cX5_nameValue 51 = .ok (.aload_n 0, 1) := by decide +kernel
theorem dX5_nameValue_52 : decode cX5_nameValue 52 = .ok (.getfield 12, 3) := by decide +kernel
theorem dX5_nameValue_55 : decode cX5_nameValue 55 = .ok (.getfield 86, 3) := by decide +kernel
theorem dX5_nameValue_58 : decode cX5_nameValue 58 = .ok (.iload_n 3, 1) := by decide +kernel
theorem dX5_nameValue_59 : decode cX5_nameValue 59 = .ok (.invokevirtual 71, 3) := by decide +kernel
theorem dX5_nameValue_62 : decode cX5_nameValue 62 = .ok (.invokestatic 102, 3) := by decide +kernel
theorem dX5_nameValue_65 : decode cX5_nameValue 65 = .ok (.ireturn, 1) := by decide +kernel
theorem dX5_nameValue_66 : decode cX5_nameValue 66 = .ok (.aload_n 0, 1) := by decide +kernel
theorem dX5_nameValue_67 : decode cX5_nameValue 67 = .ok (.getfield 12, 3) := by decide +kernel
theorem dX5_nameValue_70 : decode cX5_nameValue 70 = .ok (.getfield 77, 3) := by decide +kernel
theorem dX5_nameValue_73 : decode cX5_nameValue 73 = .ok (.iload_n 3, 1) := by decide +kernel
theorem dX5_nameValue_74 : decode cX5_nameValue 74 = .ok (.invokevirtual 71, 3) := by decide +kernel
theorem dX5_nameValue_77 : decode cX5_nameValue 77 = .ok (.ireturn, 1) := by decide +kernel
theorem dX5_nameValue_78 : decode cX5_nameValue 78 = .ok (.aload_n 0, 1) := by decide +kernel
theorem dX5_nameValue_79 : decode cX5_nameValue 79 = .ok (.getfield 30, 3) := by decide +kernel
theorem dX5_nameValue_82 : decode cX5_nameValue 82 = .ok (.iload_n 3, 1) := by decide +kernel
theorem dX5_nameValue_83 : decode cX5_nameValue 83 = .ok (.invokevirtual 71, 3) := by decide +kernel
theorem dX5_nameValue_86 : decode cX5_nameValue 86 = .ok (.ireturn, 1) := by decide +kernel
set_option maxRecDepth 20000 in
theorem ggX5_knownLength_X2_length : GoodIn wsX5_knownLength wsX2_length := goodIn_r _ [5] (by decide +kernel) (by decide +kernel)
set_option maxRecDepth 20000 in
theorem gX5_knownLength_X2_length : GoodIn wsX5_knownLength (va_wsS RX5 102 yX2_length wsX2_length) := goodIn_app (goodIn_of _ (by decide +kernel)) ggX5_knownLength_X2_length
set_option maxRecDepth 20000 in
theorem ggX5_knownLength_X2_cut : GoodIn wsX5_knownLength wsX2_cut := goodIn_r _ [8, 9, 10, 4, 11] (by decide +kernel) (by decide +kernel)
set_option maxRecDepth 20000 in
theorem gX5_knownLength_X2_cut : GoodIn wsX5_knownLength (va_wsS RX5 108 yX2_cut wsX2_cut) := goodIn_app (goodIn_of _ (by decide +kernel)) ggX5_knownLength_X2_cut
set_option maxRecDepth 20000 in
theorem ggX5_knownLength_X4_firstWith : GoodIn wsX5_knownLength wsX4_firstWith := goodIn_r _ [16, 17, 18, 19, 20, 21, 15, 22, 23, 24, 25, 26, 27, 28, 29, 30, 4, 31, 32, 3, 5, 9, 10, 11, 41, 42, 43, 44, 45, 46, 47, 48, 49] (by decide +kernel) (by decide +kernel)
set_option maxRecDepth 20000 in
theorem gX5_knownLength_X4_firstWith : GoodIn wsX5_knownLength (wsV RX5 147 RX4 yX4_firstWith wsX4_firstWith) := goodIn_app (goodIn_of _ (by decide +kernel)) ggX5_knownLength_X4_firstWith
theorem dX5_knownLength_0 : decode cX5_knownLength 0 = .ok (.iload_n 1, 1) := by decide +kernel
theorem dX5_knownLength_1 : decode cX5_knownLength 1 = .ok (.invokestatic 102, 3) := by decide +kernel
theorem dX5_knownLength_4 : decode cX5_knownLength 4 = .ok (.istore_n 2, 1) := by decide +kernel
theorem dX5_knownLength_5 : decode cX5_knownLength 5 = .ok (.iload_n 2, 1) := by decide +kernel
theorem dX5_knownLength_6 : decode cX5_knownLength 6 = .ok (.ifCond .le 25, 3) := by decide +kernel
theorem dX5_knownLength_9 : decode cX5_knownLength 9 = .ok (.aload_n 0, 1) := by decide +kernel
theorem dX5_knownLength_10 : decode cX5_knownLength 10 = .ok (.getfield 12, 3) := by decide +kernel
theorem dX5_knownLength_13 : decode cX5_knownLength 13 = .ok (.iload_n 1, 1) := by decide +kernel
theorem dX5_knownLength_14 : decode cX5_knownLength 14 = .ok (.iload_n 2, 1) := by decide +kernel
theorem dX5_knownLength_15 : decode cX5_knownLength 15 = .ok (.invokestatic 108, 3) := by decide +kernel
theorem dX5_knownLength_18 : decode cX5_knownLength 18 = .ok (.invokevirtual 147, 3) := by decide +kernel
theorem dX5_knownLength_21 : decode cX5_knownLength 21 = .ok (.iconst (-1), 1) := by decide +kernel
theorem dX5_knownLength_22 : decode cX5_knownLength 22 = .ok (.if_icmp .ne 9, 3) := by decide +kernel
theorem dX5_knownLength_25 : decode cX5_knownLength 25 = .ok (.iinc 2 (-1), 3) := by decide +kernel
theorem dX5_knownLength_28 : decode cX5_knownLength 28 = .ok (.goto (-23), 3) := by decide +kernel
theorem dX5_knownLength_31 : decode cX5_knownLength 31 = .ok (.iload_n 2, 1) := by decide +kernel
theorem dX5_knownLength_32 : decode cX5_knownLength 32 = .ok (.ireturn, 1) := by decide +kernel
set_option maxRecDepth 20000 in
theorem ggX5_newHousesFor_X5_weightOf : GoodIn wsX5_newHousesFor wsX5_weightOf := goodIn_r _ [6, 1, 7, 8, 9, 10, 11, 12, 13, 14, 15, 16, 17, 18, 19, 20, 21, 22, 23, 24, 25, 48, 49, 50, 51, 52, 53, 54, 55, 56, 57, 58, 59, 60, 61, 62, 63, 64] (by decide +kernel) (by decide +kernel)
set_option maxRecDepth 20000 in
theorem gX5_newHousesFor_X5_weightOf : GoodIn wsX5_newHousesFor (wsV RX5 95 RX5 yX5_weightOf wsX5_weightOf) := goodIn_app (goodIn_of _ (by decide +kernel)) ggX5_newHousesFor_X5_weightOf
set_option maxRecDepth 20000 in
theorem ggX5_newHousesFor_X5_knownLength : GoodIn wsX5_newHousesFor wsX5_knownLength := goodIn_r _ [29, 1, 30, 31, 32, 33, 34, 35, 36, 37, 38, 39, 40, 41, 42, 11, 43, 13, 14, 15, 16, 17, 18, 19, 20, 21, 22, 23, 24, 44, 45, 46, 47, 48, 49, 50, 51, 52, 53, 54, 55, 56, 57, 58, 59, 60, 61, 62, 63, 64] (by decide +kernel) (by decide +kernel)
set_option maxRecDepth 20000 in
theorem gX5_newHousesFor_X5_knownLength : GoodIn wsX5_newHousesFor (wsV RX5 105 RX5 yX5_knownLength wsX5_knownLength) := goodIn_app (goodIn_of _ (by decide +kernel)) ggX5_newHousesFor_X5_knownLength
set_option maxRecDepth 20000 in
theorem ggX5_newHousesFor_X2_cut : GoodIn wsX5_newHousesFor wsX2_cut := goodIn_r _ [36, 37, 38, 32, 39] (by decide +kernel) (by decide +kernel)
set_option maxRecDepth 20000 in
theorem gX5_newHousesFor_X2_cut : GoodIn wsX5_newHousesFor (va_wsS RX5 108 yX2_cut wsX2_cut) := goodIn_app (goodIn_of _ (by decide +kernel)) ggX5_newHousesFor_X2_cut
set_option maxRecDepth 20000 in
theorem ggX5_newHousesFor_X4_indexOf : GoodIn wsX5_newHousesFor wsX4_indexOf := goodIn_r _ [12, 13, 14, 15, 16, 17, 11, 18, 19, 20, 21, 22, 23, 24, 56, 57, 58, 59, 60, 61, 62, 63, 64] (by decide +kernel) (by decide +kernel)
set_option maxRecDepth 20000 in
theorem gX5_newHousesFor_X4_indexOf : GoodIn wsX5_newHousesFor (wsV RX5 111 RX4 yX4_indexOf wsX4_indexOf) := goodIn_app (goodIn_of _ (by decide +kernel)) ggX5_newHousesFor_X4_indexOf
set_option maxRecDepth 20000 in
theorem ggX5_newHousesFor_X2_length : GoodIn wsX5_newHousesFor wsX2_length := goodIn_r _ [33] (by decide +kernel) (by decide +kernel)
set_option maxRecDepth 20000 in
theorem gX5_newHousesFor_X2_length : GoodIn wsX5_newHousesFor (va_wsS RX5 102 yX2_length wsX2_length) := goodIn_app (goodIn_of _ (by decide +kernel)) ggX5_newHousesFor_X2_length
theorem dX5_newHousesFor_0 : decode cX5_newHousesFor 0 = .ok (.aload_n 0, 1) := by decide +kernel
theorem dX5_newHousesFor_1 : decode cX5_newHousesFor 1 = .ok (.iload_n 1, 1) := by decide +kernel
theorem dX5_newHousesFor_2 : decode cX5_newHousesFor 2 = .ok (.invokevirtual 95, 3) := by decide +kernel
theorem dX5_newHousesFor_5 : decode cX5_newHousesFor 5 = .ok (.iconst (-1), 1) := by decide +kernel
theorem dX5_newHousesFor_6 : decode cX5_newHousesFor 6 = .ok (.if_icmp .eq 5, 3) := by decide +kernel
theorem dX5_newHousesFor_9 : decode cX5_newHousesFor 9 = .ok (.iconst (-1), 1) := by decide +kernel
theorem dX5_newHousesFor_10 : decode cX5_newHousesFor 10 = .ok (.ireturn, 1) := by decide +kernel
theorem dX5_newHousesFor_11 : decode cX5_newHousesFor 11 = .ok (.aload_n 0, 1) := by decide +kernel
theorem dX5_newHousesFor_12 : decode cX5_newHousesFor 12 = .ok (.iload_n 1, 1) := by decide +kernel
theorem dX5_newHousesFor_13 : decode cX5_newHousesFor 13 = .ok (.invokevirtual 105, 3) := by decide +kernel
theorem dX5_newHousesFor_16 : decode cX5_newHousesFor 16 = .ok (.istore_n 2, 1) := by decide +kernel
theorem dX5_newHousesFor_17 : decode cX5_newHousesFor 17 = .ok (.aload_n 0, 1) := by decide +kernel
theorem dX5_newHousesFor_18 : decode cX5_newHousesFor 18 = .ok (.getfield 12, 3) := by decide +kernel
theorem dX5_newHousesFor_21 : decode cX5_newHousesFor 21 = .ok (.iload_n 1, 1) := by decide +kernel
theorem dX5_newHousesFor_22 : decode cX5_newHousesFor 22 = .ok (.iload_n 2, 1) := by decide +kernel
theorem dX5_newHousesFor_23 : decode cX5_newHousesFor 23 = .ok (.invokestatic 108, 3) := by decide +kernel
theorem dX5_newHousesFor_26 : decode cX5_newHousesFor 26 = .ok (.invokevirtual 111, 3) := by decide +kernel
theorem dX5_newHousesFor_29 : decode cX5_newHousesFor 29 = .ok (.iconst (-1), 1) := by decide +kernel
theorem dX5_newHousesFor_30 : decode cX5_newHousesFor 30 = .ok (.if_icmp .ne 7, 3) := by decide +kernel
theorem dX5_newHousesFor_33 : decode cX5_newHousesFor 33 = .ok (.iconst 1, 1) := by decide +kernel
theorem dX5_newHousesFor_34 : decode cX5_newHousesFor 34 = .ok (.goto 4, 3) := by decide +kernel
theorem dX5_newHousesFor_37 : decode cX5_newHousesFor 37 = .ok (.iconst 0, 1) := by decide +kernel
theorem dX5_newHousesFor_38 : decode cX5_newHousesFor 38 = .ok (.istore_n 3, 1) := by decide +kernel
theorem dX5_newHousesFor_39 : decode cX5_newHousesFor 39 = .ok (.iload_n 1, 1) := by decide +kernel
theorem dX5_newHousesFor_40 : decode cX5_newHousesFor 40 = .ok (.invokestatic 102, 3) := by decide +kernel
theorem dX5_newHousesFor_43 : decode cX5_newHousesFor 43 = .ok (.iload_n 2, 1) := by decide +kernel
theorem dX5_newHousesFor_44 : decode cX5_newHousesFor 44 = .ok (.isub, 1) := by decide +kernel
theorem dX5_newHousesFor_45 : decode cX5_newHousesFor 45 = .ok (.iload_n 3, 1) := by decide +kernel
theorem dX5_newHousesFor_46 : decode cX5_newHousesFor 46 = .ok (.iadd, 1) := by decide +kernel
theorem dX5_newHousesFor_47 : decode cX5_newHousesFor 47 = .ok (.ireturn, 1) := by decide +kernel
set_option maxRecDepth 20000 in
theorem ggX5_houseValue_X3_at : GoodIn wsX5_houseValue wsX3_at := goodIn_r _ [11, 12, 61] (by decide +kernel) (by decide +kernel)
set_option maxRecDepth 20000 in
theorem gX5_houseValue_X3_at : GoodIn wsX5_houseValue (wsV RX5 71 RX3 yX3_at wsX3_at) := goodIn_app (goodIn_of _ (by decide +kernel)) ggX5_houseValue_X3_at
set_option maxRecDepth 20000 in
theorem ggX5_houseValue_X2_letters : GoodIn wsX5_houseValue wsX2_letters := goodIn_r _ [16, 17, 18, 15, 19, 20, 21, 22] (by decide +kernel) (by decide +kernel)
set_option maxRecDepth 20000 in
theorem gX5_houseValue_X2_letters : GoodIn wsX5_houseValue (va_wsS RX5 167 yX2_letters wsX2_letters) := goodIn_app (goodIn_of _ (by decide +kernel)) ggX5_houseValue_X2_letters
set_option maxRecDepth 20000 in
theorem ggX5_houseValue_X2_length : GoodIn wsX5_houseValue wsX2_length := goodIn_r _ [19] (by decide +kernel) (by decide +kernel)
set_option maxRecDepth 20000 in
theorem gX5_houseValue_X2_length : GoodIn wsX5_houseValue (va_wsS RX5 102 yX2_length wsX2_length) := goodIn_app (goodIn_of _ (by decide +kernel)) ggX5_houseValue_X2_length
set_option maxRecDepth 20000 in
theorem ggX5_houseValue_X5_labelLength : GoodIn wsX5_houseValue wsX5_labelLength := goodIn_r _ [28, 29, 30, 31, 27, 32, 1, 2, 33, 7, 8, 9, 10, 11, 12, 23, 18, 15, 19, 45, 46, 47, 48, 49, 50, 51, 52, 53, 54, 55, 56, 57, 58, 59, 60, 61] (by decide +kernel) (by decide +kernel)
set_option maxRecDepth 20000 in
theorem gX5_houseValue_X5_labelLength : GoodIn wsX5_houseValue (wsV RX5 150 RX5 yX5_labelLength wsX5_labelLength) := goodIn_app (goodIn_of _ (by decide +kernel)) ggX5_houseValue_X5_labelLength
set_option maxRecDepth 20000 in
theorem ggX5_houseValue_X2_lastLetters : GoodIn wsX5_houseValue wsX2_lastLetters := goodIn_r _ [36, 37, 14, 15, 16, 17, 18, 19, 20, 21, 22] (by decide +kernel) (by decide +kernel)
set_option maxRecDepth 20000 in
theorem gX5_houseValue_X2_lastLetters : GoodIn wsX5_houseValue (va_wsS RX5 170 yX2_lastLetters wsX2_lastLetters) := goodIn_app (goodIn_of _ (by decide +kernel)) ggX5_houseValue_X2_lastLetters
set_option maxRecDepth 20000 in
theorem ggX5_houseValue_X4_isHome : GoodIn wsX5_houseValue wsX4_isHome := goodIn_r _ [42, 43, 44, 8, 9, 10, 11, 12, 53, 54, 55, 56, 57, 58, 59, 60, 61] (by decide +kernel) (by decide +kernel)
set_option maxRecDepth 20000 in
theorem gX5_houseValue_X4_isHome : GoodIn wsX5_houseValue (wsV RX5 67 RX4 yX4_isHome wsX4_isHome) := goodIn_app (goodIn_of _ (by decide +kernel)) ggX5_houseValue_X4_isHome
theorem dX5_houseValue_0 : decode cX5_houseValue 0 = .ok (.aload_n 0, 1) := by decide +kernel
theorem dX5_houseValue_1 : decode cX5_houseValue 1 = .ok (.getfield 12, 3) := by decide +kernel
theorem dX5_houseValue_4 : decode cX5_houseValue 4 = .ok (.getfield 86, 3) := by decide +kernel
theorem dX5_houseValue_7 : decode cX5_houseValue 7 = .ok (.iload_n 1, 1) := by decide +kernel
theorem dX5_houseValue_8 : decode cX5_houseValue 8 = .ok (.invokevirtual 71, 3) := by decide +kernel
theorem dX5_houseValue_11 : decode cX5_houseValue 11 = .ok (.istore_n 3, 1) := by decide +kernel
theorem dX5_houseValue_12 : decode cX5_houseValue 12 = .ok (.iload_n 2, 1) := by decide +kernel
theorem dX5_houseValue_13 : decode cX5_houseValue 13 = .ok (.tableswitch 117 0 7 #[47, 52, 57, 67, 73, 82, 99, 108], 47) := by decide +kernel
theorem dX5_houseValue_60 : decode cX5_houseValue 60 = .ok (.iload_n 3, 1) := by decide +kernel
theorem dX5_houseValue_61 : decode cX5_houseValue 61 = .ok (.invokestatic 167, 3) := by decide +kernel
theorem dX5_houseValue_64 : decode cX5_houseValue 64 = .ok (.ireturn, 1) := by decide +kernel
theorem dX5_houseValue_65 : decode cX5_houseValue 65 = .ok (.iload_n 3, 1) := by decide +kernel
theorem dX5_houseValue_66 : decode cX5_houseValue 66 = .ok (.invokestatic 102, 3) := by decide +kernel
theorem dX5_houseValue_69 : decode cX5_houseValue 69 = .ok (.ireturn, 1) := by decide +kernel
theorem dX5_houseValue_70 : decode cX5_houseValue 70 = .ok (.iload_n 3, 1) := by decide +kernel
theorem dX5_houseValue_71 : decode cX5_houseValue 71 = .ok (.aload_n 0, 1) := by decide +kernel
theorem dX5_houseValue_72 : decode cX5_houseValue 72 = .ok (.iload_n 1, 1) := by decide +kernel
theorem dX5_houseValue_73 : decode cX5_houseValue 73 = .ok (.invokevirtual 150, 3) := by decide +kernel
theorem dX5_houseValue_76 : decode cX5_houseValue 76 = .ok (.invokestatic 170, 3) := by decide +kernel
theorem dX5_houseValue_79 : decode cX5_houseValue 79 = .ok (.ireturn, 1) := by decide +kernel
theorem dX5_houseValue_80 : decode cX5_houseValue 80 = .ok (.aload_n 0, 1) := by decide +kernel
theorem dX5_houseValue_81 : decode cX5_houseValue 81 = .ok (.iload_n 1, 1) := by decide +kernel
theorem dX5_houseValue_82 : decode cX5_houseValue 82 = .ok (.invokevirtual 150, 3) := by decide +kernel
theorem dX5_houseValue_85 : decode cX5_houseValue 85 = .ok (.ireturn, 1) := by decide +kernel
theorem dX5_houseValue_86 : decode cX5_houseValue 86 = .ok (.aload_n 0, 1) := by decide +kernel
theorem dX5_houseValue_87 : decode cX5_houseValue 87 = .ok (.getfield 27, 3) := by decide +kernel
theorem dX5_houseValue_90 : decode cX5_houseValue 90 = .ok (.iload_n 1, 1) := by decide +kernel
theorem dX5_houseValue_91 : decode cX5_houseValue 91 = .ok (.invokevirtual 71, 3) := by decide +kernel
theorem dX5_houseValue_94 : decode cX5_houseValue 94 = .ok (.ireturn, 1) := by decide +kernel
theorem dX5_houseValue_95 : decode cX5_houseValue 95 = .ok (.aload_n 0, 1) := by decide +kernel
theorem dX5_houseValue_96 : decode cX5_houseValue 96 = .ok (.getfield 12, 3) := by decide +kernel
theorem dX5_houseValue_99 : decode cX5_houseValue 99 = .ok (.iload_n 1, 1) := by decide +kernel
theorem dX5_houseValue_100 : decode cX5_houseValue 100 = .ok (.invokevirtual 67, 3) := by decide +kernel
theorem dX5_houseValue_103 : decode cX5_houseValue 103 = .ok (.ifCond .eq 7, 3) := by decide +kernel
theorem dX5_houseValue_106 : decode cX5_houseValue 106 = .ok (.iconst 1, 1) := by decide +kernel
theorem dX5_houseValue_107 : decode cX5_houseValue 107 = .ok (.goto 4, 3) := by decide +kernel
theorem dX5_houseValue_110 : decode cX5_houseValue 110 = .ok (.iconst 0, 1) := by decide +kernel
theorem dX5_houseValue_111 : decode cX5_houseValue 111 = .ok (.ireturn, 1) := by decide +kernel
theorem dX5_houseValue_112 : decode cX5_houseValue 112 = .ok (.aload_n 0, 1) := by decide +kernel
theorem dX5_houseValue_113 : decode cX5_houseValue 113 = .ok (.getfield 33, 3) := by decide +kernel
theorem dX5_houseValue_116 : decode cX5_houseValue 116 = .ok (.iload_n 1, 1) := by decide +kernel
theorem dX5_houseValue_117 : decode cX5_houseValue 117 = .ok (.invokevirtual 71, 3) := by decide +kernel
theorem dX5_houseValue_120 : decode cX5_houseValue 120 = .ok (.ireturn, 1) := by decide +kernel
theorem dX5_houseValue_121 : decode cX5_houseValue 121 = .ok (.aload_n 0, 1) := by decide +kernel
theorem dX5_houseValue_122 : decode cX5_houseValue 122 = .ok (.getfield 36, 3) := by decide +kernel
theorem dX5_houseValue_125 : decode cX5_houseValue 125 = .ok (.iload_n 1, 1) := by decide +kernel
theorem dX5_houseValue_126 : decode cX5_houseValue 126 = .ok (.invokevirtual 71, 3) := by decide +kernel
theorem dX5_houseValue_129 : decode cX5_houseValue 129 = .ok (.ireturn, 1) := by decide +kernel
theorem dX5_houseValue_130 : decode cX5_houseValue 130 = .ok (.aload_n 0, 1) := by decide +kernel
theorem dX5_houseValue_131 : decode cX5_houseValue 131 = .ok (.getfield 30, 3) := by decide +kernel
theorem dX5_houseValue_134 : decode cX5_houseValue 134 = .ok (.iload_n 1, 1) := by decide +kernel
theorem dX5_houseValue_135 : decode cX5_houseValue 135 = .ok (.invokevirtual 71, 3) := by decide +kernel
theorem dX5_houseValue_138 : decode cX5_houseValue 138 = .ok (.ireturn, 1) := by decide +kernel
set_option maxRecDepth 20000 in
theorem ggX5_labelLength_X5_lengthFromParent : GoodIn wsX5_labelLength wsX5_lengthFromParent := goodIn_r _ [5, 6, 7, 8, 9, 10, 11, 12, 13, 14, 15, 16, 17, 18, 19, 20, 21, 22, 23, 24, 25, 26, 27, 28, 29, 30, 31, 32, 33, 34, 35] (by decide +kernel) (by decide +kernel)
set_option maxRecDepth 20000 in
theorem gX5_labelLength_X5_lengthFromParent : GoodIn wsX5_labelLength (wsV RX5 173 RX5 yX5_lengthFromParent wsX5_lengthFromParent) := goodIn_app (goodIn_of _ (by decide +kernel)) ggX5_labelLength_X5_lengthFromParent
theorem dX5_labelLength_0 : decode cX5_labelLength 0 = .ok (.aload_n 0, 1) := by decide +kernel
theorem dX5_labelLength_1 : decode cX5_labelLength 1 = .ok (.iload_n 1, 1) := by decide +kernel
theorem dX5_labelLength_2 : decode cX5_labelLength 2 = .ok (.iload_n 1, 1) := by decide +kernel
theorem dX5_labelLength_3 : decode cX5_labelLength 3 = .ok (.invokevirtual 173, 3) := by decide +kernel
theorem dX5_labelLength_6 : decode cX5_labelLength 6 = .ok (.ireturn, 1) := by decide +kernel
set_option maxRecDepth 20000 in
theorem ggX5_lengthFromParent_X3_at : GoodIn wsX5_lengthFromParent wsX3_at := goodIn_r _ [8, 9, 30] (by decide +kernel) (by decide +kernel)
set_option maxRecDepth 20000 in
theorem gX5_lengthFromParent_X3_at : GoodIn wsX5_lengthFromParent (wsV RX5 71 RX3 yX3_at wsX3_at) := goodIn_app (goodIn_of _ (by decide +kernel)) ggX5_lengthFromParent_X3_at
set_option maxRecDepth 20000 in
theorem ggX5_lengthFromParent_X2_length : GoodIn wsX5_lengthFromParent wsX2_length := goodIn_r _ [13] (by decide +kernel) (by decide +kernel)
set_option maxRecDepth 20000 in
theorem gX5_lengthFromParent_X2_length : GoodIn wsX5_lengthFromParent (va_wsS RX5 102 yX2_length wsX2_length) := goodIn_app (goodIn_of _ (by decide +kernel)) ggX5_lengthFromParent_X2_length
theorem dX5_lengthFromParent_0 : decode cX5_lengthFromParent 0 = .ok (.aload_n 0, 1) := by decide +kernel
theorem dX5_lengthFromParent_1 : decode cX5_lengthFromParent 1 = .ok (.getfield 12, 3) := by decide +kernel
theorem dX5_lengthFromParent_4 : decode cX5_lengthFromParent 4 = .ok (.getfield 86, 3) := by decide +kernel
theorem dX5_lengthFromParent_7 : decode cX5_lengthFromParent 7 = .ok (.iload_n 2, 1) := by decide +kernel
theorem dX5_lengthFromParent_8 : decode cX5_lengthFromParent 8 = .ok (.invokevirtual 71, 3) := by decide +kernel
theorem dX5_lengthFromParent_11 : decode cX5_lengthFromParent 11 = .ok (.invokestatic 102, 3) := by decide +kernel
theorem dX5_lengthFromParent_14 : decode cX5_lengthFromParent 14 = .ok (.aload_n 0, 1) := by decide +kernel
theorem dX5_lengthFromParent_15 : decode cX5_lengthFromParent 15 = .ok (.getfield 12, 3) := by decide +kernel
theorem dX5_lengthFromParent_18 : decode cX5_lengthFromParent 18 = .ok (.getfield 86, 3) := by decide +kernel
theorem dX5_lengthFromParent_21 : decode cX5_lengthFromParent 21 = .ok (.aload_n 0, 1) := by decide +kernel
theorem dX5_lengthFromParent_22 : decode cX5_lengthFromParent 22 = .ok (.getfield 23, 3) := by decide +kernel
theorem dX5_lengthFromParent_25 : decode cX5_lengthFromParent 25 = .ok (.iload_n 1, 1) := by decide +kernel
theorem dX5_lengthFromParent_26 : decode cX5_lengthFromParent 26 = .ok (.invokevirtual 71, 3) := by decide +kernel
theorem dX5_lengthFromParent_29 : decode cX5_lengthFromParent 29 = .ok (.invokevirtual 71, 3) := by decide +kernel
theorem dX5_lengthFromParent_32 : decode cX5_lengthFromParent 32 = .ok (.invokestatic 102, 3) := by decide +kernel
theorem dX5_lengthFromParent_35 : decode cX5_lengthFromParent 35 = .ok (.isub, 1) := by decide +kernel
theorem dX5_lengthFromParent_36 : decode cX5_lengthFromParent 36 = .ok (.ireturn, 1) := by decide +kernel
set_option maxRecDepth 20000 in
theorem ggX5_roadsBetween_X3_at : GoodIn wsX5_roadsBetween wsX3_at := goodIn_r _ [7, 8, 17] (by decide +kernel) (by decide +kernel)
set_option maxRecDepth 20000 in
theorem gX5_roadsBetween_X3_at : GoodIn wsX5_roadsBetween (wsV RX5 71 RX3 yX3_at wsX3_at) := goodIn_app (goodIn_of _ (by decide +kernel)) ggX5_roadsBetween_X3_at
theorem dX5_roadsBetween_0 : decode cX5_roadsBetween 0 = .ok (.aload_n 0, 1) := by decide +kernel
theorem dX5_roadsBetween_1 : decode cX5_roadsBetween 1 = .ok (.getfield 39, 3) := by decide +kernel
theorem dX5_roadsBetween_4 : decode cX5_roadsBetween 4 = .ok (.iload_n 1, 1) := by decide +kernel
theorem dX5_roadsBetween_5 : decode cX5_roadsBetween 5 = .ok (.invokevirtual 71, 3) := by decide +kernel
theorem dX5_roadsBetween_8 : decode cX5_roadsBetween 8 = .ok (.istore_n 3, 1) := by decide +kernel
theorem dX5_roadsBetween_9 : decode cX5_roadsBetween 9 = .ok (.aload_n 0, 1) := by decide +kernel
theorem dX5_roadsBetween_10 : decode cX5_roadsBetween 10 = .ok (.getfield 39, 3) := by decide +kernel
theorem dX5_roadsBetween_13 : decode cX5_roadsBetween 13 = .ok (.iload_n 2, 1) := by decide +kernel
theorem dX5_roadsBetween_14 : decode cX5_roadsBetween 14 = .ok (.invokevirtual 71, 3) := by decide +kernel
theorem dX5_roadsBetween_17 : decode cX5_roadsBetween 17 = .ok (.istore 4, 2) := by decide +kernel
theorem dX5_roadsBetween_19 : decode cX5_roadsBetween 19 = .ok (.iconst 0, 1) := by decide +kernel
theorem dX5_roadsBetween_20 : decode cX5_roadsBetween 20 = .ok (.istore 5, 2) := by decide +kernel
theorem dX5_roadsBetween_22 : decode cX5_roadsBetween 22 = .ok (.iload_n 3, 1) := by decide +kernel
theorem dX5_roadsBetween_23 : decode cX5_roadsBetween 23 = .ok (.iload 4, 2) := by decide +kernel
theorem dX5_roadsBetween_25 : decode cX5_roadsBetween 25 = .ok (.if_icmp .eq 45, 3) := by decide +kernel
theorem dX5_roadsBetween_28 : decode cX5_roadsBetween 28 = .ok (.iload 5, 2) := by decide +kernel
theorem dX5_roadsBetween_30 : decode cX5_roadsBetween 30 = .ok (.bipush 16, 2) := by decide +kernel
theorem dX5_roadsBetween_32 : decode cX5_roadsBetween 32 = .ok (.if_icmp .ge 38, 3) := by decide +kernel
theorem dX5_roadsBetween_35 : decode cX5_roadsBetween 35 = .ok (.iload_n 3, 1) := by decide +kernel
theorem dX5_roadsBetween_36 : decode cX5_roadsBetween 36 = .ok (.iload 4, 2) := by decide +kernel
theorem dX5_roadsBetween_38 : decode cX5_roadsBetween 38 = .ok (.if_icmp .le 15, 3) := by decide +kernel
theorem dX5_roadsBetween_41 : decode cX5_roadsBetween 41 = .ok (.aload_n 0, 1) := by decide +kernel
theorem dX5_roadsBetween_42 : decode cX5_roadsBetween 42 = .ok (.getfield 23, 3) := by decide +kernel
theorem dX5_roadsBetween_45 : decode cX5_roadsBetween 45 = .ok (.iload_n 3, 1) := by decide +kernel
theorem dX5_roadsBetween_46 : decode cX5_roadsBetween 46 = .ok (.invokevirtual 71, 3) := by decide +kernel
theorem dX5_roadsBetween_49 : decode cX5_roadsBetween 49 = .ok (.istore_n 3, 1) := by decide +kernel
theorem dX5_roadsBetween_50 : decode cX5_roadsBetween 50 = .ok (.goto 14, 3) := by decide +kernel
theorem dX5_roadsBetween_53 : decode cX5_roadsBetween 53 = .ok (.aload_n 0, 1) := by decide +kernel
theorem dX5_roadsBetween_54 : decode cX5_roadsBetween 54 = .ok (.getfield 23, 3) := by decide +kernel
theorem dX5_roadsBetween_57 : decode cX5_roadsBetween 57 = .ok (.iload 4, 2) := by decide +kernel
theorem dX5_roadsBetween_59 : decode cX5_roadsBetween 59 = .ok (.invokevirtual 71, 3) := by decide +kernel
theorem dX5_roadsBetween_62 : decode cX5_roadsBetween 62 = .ok (.istore 4, 2) := by decide +kernel
theorem dX5_roadsBetween_64 : decode cX5_roadsBetween 64 = .ok (.iinc 5 1, 3) := by decide +kernel
theorem dX5_roadsBetween_67 : decode cX5_roadsBetween 67 = .ok (.goto (-45), 3) := by decide +kernel
theorem dX5_roadsBetween_70 : decode cX5_roadsBetween 70 = .ok (.iload 5, 2) := by decide +kernel
theorem dX5_roadsBetween_72 : decode cX5_roadsBetween 72 = .ok (.ireturn, 1) := by decide +kernel
theorem dX5_tourRoads_0 : decode cX5_tourRoads 0 = .ok (.iconst 2, 1) := by decide +kernel
theorem dX5_tourRoads_1 : decode cX5_tourRoads 1 = .ok (.aload_n 0, 1) := by decide +kernel
theorem dX5_tourRoads_2 : decode cX5_tourRoads 2 = .ok (.getfield 12, 3) := by decide +kernel
theorem dX5_tourRoads_5 : decode cX5_tourRoads 5 = .ok (.getfield 52, 3) := by decide +kernel
theorem dX5_tourRoads_8 : decode cX5_tourRoads 8 = .ok (.iconst 1, 1) := by decide +kernel
theorem dX5_tourRoads_9 : decode cX5_tourRoads 9 = .ok (.isub, 1) := by decide +kernel
theorem dX5_tourRoads_10 : decode cX5_tourRoads 10 = .ok (.imul, 1) := by decide +kernel
theorem dX5_tourRoads_11 : decode cX5_tourRoads 11 = .ok (.ireturn, 1) := by decide +kernel
set_option maxRecDepth 20000 in
theorem ggX5_townValue_X5_names : GoodIn wsX5_townValue wsX5_names := goodIn_r _ [12, 13, 14, 15, 16, 17, 18, 19, 57, 58, 59, 60, 61, 62, 63, 64, 73] (by decide +kernel) (by decide +kernel)
set_option maxRecDepth 20000 in
theorem gX5_townValue_X5_names : GoodIn wsX5_townValue (wsV RX5 98 RX5 yX5_names wsX5_names) := goodIn_app (goodIn_of _ (by decide +kernel)) ggX5_townValue_X5_names
set_option maxRecDepth 20000 in
theorem ggX5_townValue_X5_cost : GoodIn wsX5_townValue wsX5_cost := goodIn_r _ [23, 24, 1, 25, 26, 8, 9, 10, 11, 12, 13, 14, 15, 16, 17, 18, 19, 57, 58, 59, 60, 61, 62, 63, 64, 65, 66, 67, 68, 69, 70, 71, 72, 73] (by decide +kernel) (by decide +kernel)
set_option maxRecDepth 20000 in
theorem gX5_townValue_X5_cost : GoodIn wsX5_townValue (wsV RX5 176 RX5 yX5_cost wsX5_cost) := goodIn_app (goodIn_of _ (by decide +kernel)) ggX5_townValue_X5_cost
set_option maxRecDepth 20000 in
theorem ggX5_townValue_X5_labelLetters : GoodIn wsX5_townValue wsX5_labelLetters := goodIn_r _ [30, 1, 2, 31, 32, 33, 11, 34, 35, 36, 37, 38, 39, 40, 14, 15, 16, 17, 18, 19, 41, 42, 43, 44, 57, 58, 59, 60, 61, 62, 63, 64, 65, 66, 67, 68, 69, 70, 71, 72, 73] (by decide +kernel) (by decide +kernel)
set_option maxRecDepth 20000 in
theorem gX5_townValue_X5_labelLetters : GoodIn wsX5_townValue (wsV RX5 157 RX5 yX5_labelLetters wsX5_labelLetters) := goodIn_app (goodIn_of _ (by decide +kernel)) ggX5_townValue_X5_labelLetters
set_option maxRecDepth 20000 in
theorem ggX5_townValue_X5_longestLabel : GoodIn wsX5_townValue wsX5_longestLabel := goodIn_r _ [48, 1, 2, 49, 50, 51, 52, 31, 32, 33, 11, 34, 35, 36, 37, 38, 39, 40, 14, 15, 16, 17, 18, 19, 41, 42, 43, 44, 57, 58, 59, 60, 61, 62, 63, 64, 65, 66, 67, 68, 69, 70, 71, 72, 73] (by decide +kernel) (by decide +kernel)
set_option maxRecDepth 20000 in
theorem gX5_townValue_X5_longestLabel : GoodIn wsX5_townValue (wsV RX5 179 RX5 yX5_longestLabel wsX5_longestLabel) := goodIn_app (goodIn_of _ (by decide +kernel)) ggX5_townValue_X5_longestLabel
set_option maxRecDepth 20000 in
theorem ggX5_townValue_X5_longestWay : GoodIn wsX5_townValue wsX5_longestWay := goodIn_r _ [56, 26, 24, 49, 50, 51, 52, 8, 9, 10, 11, 12, 13, 14, 15, 16, 17, 18, 19, 57, 58, 59, 60, 61, 62, 63, 64, 73] (by decide +kernel) (by decide +kernel)
set_option maxRecDepth 20000 in
theorem gX5_townValue_X5_longestWay : GoodIn wsX5_townValue (wsV RX5 182 RX5 yX5_longestWay wsX5_longestWay) := goodIn_app (goodIn_of _ (by decide +kernel)) ggX5_townValue_X5_longestWay
theorem dX5_townValue_0 : decode cX5_townValue 0 = .ok (.iload_n 1, 1) := by decide +kernel
theorem dX5_townValue_1 : decode cX5_townValue 1 = .ok (.tableswitch 120 0 9 #[55, 60, 68, 76, 81, 86, 91, 96, 104, 112], 55) := by decide +kernel
theorem dX5_townValue_56 : decode cX5_townValue 56 = .ok (.aload_n 0, 1) := by decide +kernel
theorem dX5_townValue_57 : decode cX5_townValue 57 = .ok (.invokevirtual 98, 3) := by decide +kernel
theorem dX5_townValue_60 : decode cX5_townValue 60 = .ok (.ireturn, 1) := by decide +kernel
theorem dX5_townValue_61 : decode cX5_townValue 61 = .ok (.aload_n 0, 1) := by decide +kernel
theorem dX5_townValue_62 : decode cX5_townValue 62 = .ok (.getfield 12, 3) := by decide +kernel
theorem dX5_townValue_65 : decode cX5_townValue 65 = .ok (.getfield 52, 3) := by decide +kernel
theorem dX5_townValue_68 : decode cX5_townValue 68 = .ok (.ireturn, 1) := by decide +kernel
theorem dX5_townValue_69 : decode cX5_townValue 69 = .ok (.aload_n 0, 1) := by decide +kernel
theorem dX5_townValue_70 : decode cX5_townValue 70 = .ok (.getfield 12, 3) := by decide +kernel
theorem dX5_townValue_73 : decode cX5_townValue 73 = .ok (.getfield 135, 3) := by decide +kernel
theorem dX5_townValue_76 : decode cX5_townValue 76 = .ok (.ireturn, 1) := by decide +kernel
theorem dX5_townValue_77 : decode cX5_townValue 77 = .ok (.aload_n 0, 1) := by decide +kernel
theorem dX5_townValue_78 : decode cX5_townValue 78 = .ok (.invokevirtual 176, 3) := by decide +kernel
theorem dX5_townValue_81 : decode cX5_townValue 81 = .ok (.ireturn, 1) := by decide +kernel
theorem dX5_townValue_82 : decode cX5_townValue 82 = .ok (.aload_n 0, 1) := by decide +kernel
theorem dX5_townValue_83 : decode cX5_townValue 83 = .ok (.invokevirtual 157, 3) := by decide +kernel
theorem dX5_townValue_86 : decode cX5_townValue 86 = .ok (.ireturn, 1) := by decide +kernel
theorem dX5_townValue_87 : decode cX5_townValue 87 = .ok (.aload_n 0, 1) := by decide +kernel
theorem dX5_townValue_88 : decode cX5_townValue 88 = .ok (.invokevirtual 179, 3) := by decide +kernel
theorem dX5_townValue_91 : decode cX5_townValue 91 = .ok (.ireturn, 1) := by decide +kernel
theorem dX5_townValue_92 : decode cX5_townValue 92 = .ok (.aload_n 0, 1) := by decide +kernel
theorem dX5_townValue_93 : decode cX5_townValue 93 = .ok (.invokevirtual 182, 3) := by decide +kernel
theorem dX5_townValue_96 : decode cX5_townValue 96 = .ok (.ireturn, 1) := by decide +kernel
theorem dX5_townValue_97 : decode cX5_townValue 97 = .ok (.aload_n 0, 1) := by decide +kernel
theorem dX5_townValue_98 : decode cX5_townValue 98 = .ok (.getfield 12, 3) := by decide +kernel
theorem dX5_townValue_101 : decode cX5_townValue 101 = .ok (.getfield 144, 3) := by decide +kernel
theorem dX5_townValue_104 : decode cX5_townValue 104 = .ok (.ireturn, 1) := by decide +kernel
theorem dX5_townValue_105 : decode cX5_townValue 105 = .ok (.aload_n 0, 1) := by decide +kernel
theorem dX5_townValue_106 : decode cX5_townValue 106 = .ok (.getfield 12, 3) := by decide +kernel
theorem dX5_townValue_109 : decode cX5_townValue 109 = .ok (.getfield 117, 3) := by decide +kernel
theorem dX5_townValue_112 : decode cX5_townValue 112 = .ok (.ireturn, 1) := by decide +kernel
theorem dX5_townValue_113 : decode cX5_townValue 113 = .ok (.aload_n 0, 1) := by decide +kernel
theorem dX5_townValue_114 : decode cX5_townValue 114 = .ok (.getfield 12, 3) := by decide +kernel
theorem dX5_townValue_117 : decode cX5_townValue 117 = .ok (.getfield 120, 3) := by decide +kernel
theorem dX5_townValue_120 : decode cX5_townValue 120 = .ok (.ireturn, 1) := by decide +kernel
theorem dX5_townValue_121 : decode cX5_townValue 121 = .ok (.aload_n 0, 1) := by decide +kernel
theorem dX5_townValue_122 : decode cX5_townValue 122 = .ok (.getfield 12, 3) := by decide +kernel
theorem dX5_townValue_125 : decode cX5_townValue 125 = .ok (.getfield 126, 3) := by decide +kernel
theorem dX5_townValue_128 : decode cX5_townValue 128 = .ok (.ireturn, 1) := by decide +kernel
set_option maxRecDepth 20000 in
theorem ggX5_cost_X5_names : GoodIn wsX5_cost wsX5_names := goodIn_r _ [9, 10, 11, 12, 13, 14, 15, 16, 17, 18, 19, 20, 21, 22, 23, 24, 33] (by decide +kernel) (by decide +kernel)
set_option maxRecDepth 20000 in
theorem gX5_cost_X5_names : GoodIn wsX5_cost (wsV RX5 98 RX5 yX5_names wsX5_names) := goodIn_app (goodIn_of _ (by decide +kernel)) ggX5_cost_X5_names
set_option maxRecDepth 20000 in
theorem ggX5_cost_X3_at : GoodIn wsX5_cost wsX3_at := goodIn_r _ [15, 16, 33] (by decide +kernel) (by decide +kernel)
set_option maxRecDepth 20000 in
theorem gX5_cost_X3_at : GoodIn wsX5_cost (wsV RX5 71 RX3 yX3_at wsX3_at) := goodIn_app (goodIn_of _ (by decide +kernel)) ggX5_cost_X3_at
theorem dX5_cost_0 : decode cX5_cost 0 = .ok (.iconst 0, 1) := by decide +kernel
theorem dX5_cost_1 : decode cX5_cost 1 = .ok (.istore_n 1, 1) := by decide +kernel
theorem dX5_cost_2 : decode cX5_cost 2 = .ok (.iconst 0, 1) := by decide +kernel
theorem dX5_cost_3 : decode cX5_cost 3 = .ok (.istore_n 2, 1) := by decide +kernel
theorem dX5_cost_4 : decode cX5_cost 4 = .ok (.iload_n 2, 1) := by decide +kernel
theorem dX5_cost_5 : decode cX5_cost 5 = .ok (.aload_n 0, 1) := by decide +kernel
theorem dX5_cost_6 : decode cX5_cost 6 = .ok (.invokevirtual 98, 3) := by decide +kernel
theorem dX5_cost_9 : decode cX5_cost 9 = .ok (.if_icmp .ge 41, 3) := by decide +kernel
theorem dX5_cost_12 : decode cX5_cost 12 = .ok (.aload_n 0, 1) := by decide +kernel
theorem dX5_cost_13 : decode cX5_cost 13 = .ok (.getfield 39, 3) := by decide +kernel
theorem dX5_cost_16 : decode cX5_cost 16 = .ok (.iload_n 2, 1) := by decide +kernel
theorem dX5_cost_17 : decode cX5_cost 17 = .ok (.invokevirtual 71, 3) := by decide +kernel
theorem dX5_cost_20 : decode cX5_cost 20 = .ok (.istore_n 3, 1) := by decide +kernel
theorem dX5_cost_21 : decode cX5_cost 21 = .ok (.iload_n 1, 1) := by decide +kernel
theorem dX5_cost_22 : decode cX5_cost 22 = .ok (.aload_n 0, 1) := by decide +kernel
theorem dX5_cost_23 : decode cX5_cost 23 = .ok (.getfield 12, 3) := by decide +kernel
theorem dX5_cost_26 : decode cX5_cost 26 = .ok (.getfield 77, 3) := by decide +kernel
theorem dX5_cost_29 : decode cX5_cost 29 = .ok (.iload_n 3, 1) := by decide +kernel
theorem dX5_cost_30 : decode cX5_cost 30 = .ok (.invokevirtual 71, 3) := by decide +kernel
theorem dX5_cost_33 : decode cX5_cost 33 = .ok (.aload_n 0, 1) := by decide +kernel
theorem dX5_cost_34 : decode cX5_cost 34 = .ok (.getfield 30, 3) := by decide +kernel
theorem dX5_cost_37 : decode cX5_cost 37 = .ok (.iload_n 3, 1) := by decide +kernel
theorem dX5_cost_38 : decode cX5_cost 38 = .ok (.invokevirtual 71, 3) := by decide +kernel
theorem dX5_cost_41 : decode cX5_cost 41 = .ok (.imul, 1) := by decide +kernel
theorem dX5_cost_42 : decode cX5_cost 42 = .ok (.iadd, 1) := by decide +kernel
theorem dX5_cost_43 : decode cX5_cost 43 = .ok (.istore_n 1, 1) := by decide +kernel
theorem dX5_cost_44 : decode cX5_cost 44 = .ok (.iinc 2 1, 3) := by decide +kernel
theorem dX5_cost_47 : decode cX5_cost 47 = .ok (.goto (-43), 3) := by decide +kernel
theorem dX5_cost_50 : decode cX5_cost 50 = .ok (.iload_n 1, 1) := by decide +kernel
theorem dX5_cost_51 : decode cX5_cost 51 = .ok (.ireturn, 1) := by decide +kernel
set_option maxRecDepth 20000 in
theorem ggX5_labelLetters_X5_labelLength : GoodIn wsX5_labelLetters wsX5_labelLength := goodIn_r _ [7, 8, 9, 10, 6, 11, 1, 12, 13, 14, 15, 16, 17, 18, 19, 20, 21, 22, 23, 24, 25, 26, 27, 28, 29, 30, 31, 32, 33, 34, 35, 36, 37, 38, 39, 40] (by decide +kernel) (by decide +kernel)
set_option maxRecDepth 20000 in
theorem gX5_labelLetters_X5_labelLength : GoodIn wsX5_labelLetters (wsV RX5 150 RX5 yX5_labelLength wsX5_labelLength) := goodIn_app (goodIn_of _ (by decide +kernel)) ggX5_labelLetters_X5_labelLength
theorem dX5_labelLetters_0 : decode cX5_labelLetters 0 = .ok (.iconst 0, 1) := by decide +kernel
theorem dX5_labelLetters_1 : decode cX5_labelLetters 1 = .ok (.istore_n 1, 1) := by decide +kernel
theorem dX5_labelLetters_2 : decode cX5_labelLetters 2 = .ok (.iconst 1, 1) := by decide +kernel
theorem dX5_labelLetters_3 : decode cX5_labelLetters 3 = .ok (.istore_n 2, 1) := by decide +kernel
theorem dX5_labelLetters_4 : decode cX5_labelLetters 4 = .ok (.iload_n 2, 1) := by decide +kernel
theorem dX5_labelLetters_5 : decode cX5_labelLetters 5 = .ok (.aload_n 0, 1) := by decide +kernel
theorem dX5_labelLetters_6 : decode cX5_labelLetters 6 = .ok (.getfield 12, 3) := by decide +kernel
theorem dX5_labelLetters_9 : decode cX5_labelLetters 9 = .ok (.getfield 52, 3) := by decide +kernel
theorem dX5_labelLetters_12 : decode cX5_labelLetters 12 = .ok (.if_icmp .ge 17, 3) := by decide +kernel
theorem dX5_labelLetters_15 : decode cX5_labelLetters 15 = .ok (.iload_n 1, 1) := by decide +kernel
theorem dX5_labelLetters_16 : decode cX5_labelLetters 16 = .ok (.aload_n 0, 1) := by decide +kernel
theorem dX5_labelLetters_17 : decode cX5_labelLetters 17 = .ok (.iload_n 2, 1) := by decide +kernel
theorem dX5_labelLetters_18 : decode cX5_labelLetters 18 = .ok (.invokevirtual 150, 3) := by decide +kernel
theorem dX5_labelLetters_21 : decode cX5_labelLetters 21 = .ok (.iadd, 1) := by decide +kernel
theorem dX5_labelLetters_22 : decode cX5_labelLetters 22 = .ok (.istore_n 1, 1) := by decide +kernel
theorem dX5_labelLetters_23 : decode cX5_labelLetters 23 = .ok (.iinc 2 1, 3) := by decide +kernel
theorem dX5_labelLetters_26 : decode cX5_labelLetters 26 = .ok (.goto (-22), 3) := by decide +kernel
theorem dX5_labelLetters_29 : decode cX5_labelLetters 29 = .ok (.iload_n 1, 1) := by decide +kernel
theorem dX5_labelLetters_30 : decode cX5_labelLetters 30 = .ok (.ireturn, 1) := by decide +kernel
set_option maxRecDepth 20000 in
theorem ggX5_longestLabel_X5_labelLength : GoodIn wsX5_longestLabel wsX5_labelLength := goodIn_r _ [11, 12, 13, 14, 10, 15, 1, 16, 17, 18, 19, 20, 21, 22, 23, 24, 25, 26, 27, 28, 29, 30, 31, 32, 33, 34, 35, 36, 37, 38, 39, 40, 41, 42, 43, 44] (by decide +kernel) (by decide +kernel)
set_option maxRecDepth 20000 in
theorem gX5_longestLabel_X5_labelLength : GoodIn wsX5_longestLabel (wsV RX5 150 RX5 yX5_labelLength wsX5_labelLength) := goodIn_app (goodIn_of _ (by decide +kernel)) ggX5_longestLabel_X5_labelLength
theorem dX5_longestLabel_0 : decode cX5_longestLabel 0 = .ok (.iconst 0, 1) := by decide +kernel
theorem dX5_longestLabel_1 : decode cX5_longestLabel 1 = .ok (.istore_n 1, 1) := by decide +kernel
theorem dX5_longestLabel_2 : decode cX5_longestLabel 2 = .ok (.iconst 1, 1) := by decide +kernel
theorem dX5_longestLabel_3 : decode cX5_longestLabel 3 = .ok (.istore_n 2, 1) := by decide +kernel
theorem dX5_longestLabel_4 : decode cX5_longestLabel 4 = .ok (.iload_n 2, 1) := by decide +kernel
theorem dX5_longestLabel_5 : decode cX5_longestLabel 5 = .ok (.aload_n 0, 1) := by decide +kernel
theorem dX5_longestLabel_6 : decode cX5_longestLabel 6 = .ok (.getfield 12, 3) := by decide +kernel
theorem dX5_longestLabel_9 : decode cX5_longestLabel 9 = .ok (.getfield 52, 3) := by decide +kernel
theorem dX5_longestLabel_12 : decode cX5_longestLabel 12 = .ok (.if_icmp .ge 19, 3) := by decide +kernel
theorem dX5_longestLabel_15 : decode cX5_longestLabel 15 = .ok (.iload_n 1, 1) := by decide +kernel
theorem dX5_longestLabel_16 : decode cX5_longestLabel 16 = .ok (.aload_n 0, 1) := by decide +kernel
theorem dX5_longestLabel_17 : decode cX5_longestLabel 17 = .ok (.iload_n 2, 1) := by decide +kernel
theorem dX5_longestLabel_18 : decode cX5_longestLabel 18 = .ok (.invokevirtual 150, 3) := by decide +kernel
theorem dX5_longestLabel_21 : decode cX5_longestLabel 21 = .ok (.invokestatic 80, 3) := by decide +kernel
theorem dX5_longestLabel_24 : decode cX5_longestLabel 24 = .ok (.istore_n 1, 1) := by decide +kernel
theorem dX5_longestLabel_25 : decode cX5_longestLabel 25 = .ok (.iinc 2 1, 3) := by decide +kernel
theorem dX5_longestLabel_28 : decode cX5_longestLabel 28 = .ok (.goto (-24), 3) := by decide +kernel
theorem dX5_longestLabel_31 : decode cX5_longestLabel 31 = .ok (.iload_n 1, 1) := by decide +kernel
theorem dX5_longestLabel_32 : decode cX5_longestLabel 32 = .ok (.ireturn, 1) := by decide +kernel
set_option maxRecDepth 20000 in
theorem ggX5_longestWay_X5_names : GoodIn wsX5_longestWay wsX5_names := goodIn_r _ [11, 12, 13, 14, 15, 16, 17, 18, 19, 20, 21, 22, 23, 24, 25, 26, 27] (by decide +kernel) (by decide +kernel)
set_option maxRecDepth 20000 in
theorem gX5_longestWay_X5_names : GoodIn wsX5_longestWay (wsV RX5 98 RX5 yX5_names wsX5_names) := goodIn_app (goodIn_of _ (by decide +kernel)) ggX5_longestWay_X5_names
set_option maxRecDepth 20000 in
theorem ggX5_longestWay_X3_at : GoodIn wsX5_longestWay wsX3_at := goodIn_r _ [17, 18, 27] (by decide +kernel) (by decide +kernel)
set_option maxRecDepth 20000 in
theorem gX5_longestWay_X3_at : GoodIn wsX5_longestWay (wsV RX5 71 RX3 yX3_at wsX3_at) := goodIn_app (goodIn_of _ (by decide +kernel)) ggX5_longestWay_X3_at
theorem dX5_longestWay_0 : decode cX5_longestWay 0 = .ok (.iconst 0, 1) := by decide +kernel
theorem dX5_longestWay_1 : decode cX5_longestWay 1 = .ok (.istore_n 1, 1) := by decide +kernel
theorem dX5_longestWay_2 : decode cX5_longestWay 2 = .ok (.iconst 0, 1) := by decide +kernel
theorem dX5_longestWay_3 : decode cX5_longestWay 3 = .ok (.istore_n 2, 1) := by decide +kernel
theorem dX5_longestWay_4 : decode cX5_longestWay 4 = .ok (.iload_n 2, 1) := by decide +kernel
theorem dX5_longestWay_5 : decode cX5_longestWay 5 = .ok (.aload_n 0, 1) := by decide +kernel
theorem dX5_longestWay_6 : decode cX5_longestWay 6 = .ok (.invokevirtual 98, 3) := by decide +kernel
theorem dX5_longestWay_9 : decode cX5_longestWay 9 = .ok (.if_icmp .ge 29, 3) := by decide +kernel
theorem dX5_longestWay_12 : decode cX5_longestWay 12 = .ok (.iload_n 1, 1) := by decide +kernel
theorem dX5_longestWay_13 : decode cX5_longestWay 13 = .ok (.aload_n 0, 1) := by decide +kernel
theorem dX5_longestWay_14 : decode cX5_longestWay 14 = .ok (.getfield 30, 3) := by decide +kernel
theorem dX5_longestWay_17 : decode cX5_longestWay 17 = .ok (.aload_n 0, 1) := by decide +kernel
theorem dX5_longestWay_18 : decode cX5_longestWay 18 = .ok (.getfield 39, 3) := by decide +kernel
theorem dX5_longestWay_21 : decode cX5_longestWay 21 = .ok (.iload_n 2, 1) := by decide +kernel
theorem dX5_longestWay_22 : decode cX5_longestWay 22 = .ok (.invokevirtual 71, 3) := by decide +kernel
theorem dX5_longestWay_25 : decode cX5_longestWay 25 = .ok (.invokevirtual 71, 3) := by decide +kernel
theorem dX5_longestWay_28 : decode cX5_longestWay 28 = .ok (.invokestatic 80, 3) := by decide +kernel
theorem dX5_longestWay_31 : decode cX5_longestWay 31 = .ok (.istore_n 1, 1) := by decide +kernel
theorem dX5_longestWay_32 : decode cX5_longestWay 32 = .ok (.iinc 2 1, 3) := by decide +kernel
theorem dX5_longestWay_35 : decode cX5_longestWay 35 = .ok (.goto (-31), 3) := by decide +kernel
theorem dX5_longestWay_38 : decode cX5_longestWay 38 = .ok (.iload_n 1, 1) := by decide +kernel
theorem dX5_longestWay_39 : decode cX5_longestWay 39 = .ok (.ireturn, 1) := by decide +kernel
set_option maxRecDepth 20000 in
theorem ggX5_reasonToStay_X4_isHome : GoodIn wsX5_reasonToStay wsX4_isHome := goodIn_r _ [8, 9, 10, 11, 12, 13, 14, 15, 40, 41, 42, 43, 44, 45, 46, 47, 48] (by decide +kernel) (by decide +kernel)
set_option maxRecDepth 20000 in
theorem gX5_reasonToStay_X4_isHome : GoodIn wsX5_reasonToStay (wsV RX5 67 RX4 yX4_isHome wsX4_isHome) := goodIn_app (goodIn_of _ (by decide +kernel)) ggX5_reasonToStay_X4_isHome
set_option maxRecDepth 20000 in
theorem ggX5_reasonToStay_X3_at : GoodIn wsX5_reasonToStay wsX3_at := goodIn_r _ [14, 15, 48] (by decide +kernel) (by decide +kernel)
set_option maxRecDepth 20000 in
theorem gX5_reasonToStay_X3_at : GoodIn wsX5_reasonToStay (wsV RX5 71 RX3 yX3_at wsX3_at) := goodIn_app (goodIn_of _ (by decide +kernel)) ggX5_reasonToStay_X3_at
set_option maxRecDepth 20000 in
theorem ggX5_reasonToStay_X5_labelBehindMove : GoodIn wsX5_reasonToStay wsX5_labelBehindMove := goodIn_r _ [21, 22, 23, 24, 20, 25, 1, 26, 27, 16, 11, 12, 13, 14, 15, 28, 29, 30, 31, 32, 33, 34, 35, 36, 37, 38, 39, 40, 41, 42, 43, 44, 45, 46, 47, 48] (by decide +kernel) (by decide +kernel)
set_option maxRecDepth 20000 in
theorem gX5_reasonToStay_X5_labelBehindMove : GoodIn wsX5_reasonToStay (wsV RX5 141 RX5 yX5_labelBehindMove wsX5_labelBehindMove) := goodIn_app (goodIn_of _ (by decide +kernel)) ggX5_reasonToStay_X5_labelBehindMove
theorem dX5_reasonToStay_0 : decode cX5_reasonToStay 0 = .ok (.iload_n 1, 1) := by decide +kernel
theorem dX5_reasonToStay_1 : decode cX5_reasonToStay 1 = .ok (.ifCond .ne 5, 3) := by decide +kernel
theorem dX5_reasonToStay_4 : decode cX5_reasonToStay 4 = .ok (.iconst 1, 1) := by decide +kernel
theorem dX5_reasonToStay_5 : decode cX5_reasonToStay 5 = .ok (.ireturn, 1) := by decide +kernel
theorem dX5_reasonToStay_6 : decode cX5_reasonToStay 6 = .ok (.aload_n 0, 1) := by decide +kernel
theorem dX5_reasonToStay_7 : decode cX5_reasonToStay 7 = .ok (.getfield 12, 3) := by decide +kernel
theorem dX5_reasonToStay_10 : decode cX5_reasonToStay 10 = .ok (.iload_n 1, 1) := by decide +kernel
theorem dX5_reasonToStay_11 : decode cX5_reasonToStay 11 = .ok (.invokevirtual 67, 3) := by decide +kernel
theorem dX5_reasonToStay_14 : decode cX5_reasonToStay 14 = .ok (.ifCond .eq 5, 3) := by decide +kernel
theorem dX5_reasonToStay_17 : decode cX5_reasonToStay 17 = .ok (.iconst 2, 1) := by decide +kernel
theorem dX5_reasonToStay_18 : decode cX5_reasonToStay 18 = .ok (.ireturn, 1) := by decide +kernel
theorem dX5_reasonToStay_19 : decode cX5_reasonToStay 19 = .ok (.aload_n 0, 1) := by decide +kernel
theorem dX5_reasonToStay_20 : decode cX5_reasonToStay 20 = .ok (.getfield 27, 3) := by decide +kernel
theorem dX5_reasonToStay_23 : decode cX5_reasonToStay 23 = .ok (.iload_n 1, 1) := by decide +kernel
theorem dX5_reasonToStay_24 : decode cX5_reasonToStay 24 = .ok (.invokevirtual 71, 3) := by decide +kernel
theorem dX5_reasonToStay_27 : decode cX5_reasonToStay 27 = .ok (.iconst 1, 1) := by decide +kernel
theorem dX5_reasonToStay_28 : decode cX5_reasonToStay 28 = .ok (.if_icmp .le 5, 3) := by decide +kernel
theorem dX5_reasonToStay_31 : decode cX5_reasonToStay 31 = .ok (.iconst 3, 1) := by decide +kernel
theorem dX5_reasonToStay_32 : decode cX5_reasonToStay 32 = .ok (.ireturn, 1) := by decide +kernel
theorem dX5_reasonToStay_33 : decode cX5_reasonToStay 33 = .ok (.aload_n 0, 1) := by decide +kernel
theorem dX5_reasonToStay_34 : decode cX5_reasonToStay 34 = .ok (.iload_n 1, 1) := by decide +kernel
theorem dX5_reasonToStay_35 : decode cX5_reasonToStay 35 = .ok (.invokevirtual 141, 3) := by decide +kernel
theorem dX5_reasonToStay_38 : decode cX5_reasonToStay 38 = .ok (.aload_n 0, 1) := by decide +kernel
theorem dX5_reasonToStay_39 : decode cX5_reasonToStay 39 = .ok (.getfield 12, 3) := by decide +kernel
theorem dX5_reasonToStay_42 : decode cX5_reasonToStay 42 = .ok (.getfield 135, 3) := by decide +kernel
theorem dX5_reasonToStay_45 : decode cX5_reasonToStay 45 = .ok (.if_icmp .le 7, 3) := by decide +kernel
theorem dX5_reasonToStay_48 : decode cX5_reasonToStay 48 = .ok (.iconst 4, 1) := by decide +kernel
theorem dX5_reasonToStay_49 : decode cX5_reasonToStay 49 = .ok (.goto 4, 3) := by decide +kernel
theorem dX5_reasonToStay_52 : decode cX5_reasonToStay 52 = .ok (.iconst 0, 1) := by decide +kernel
theorem dX5_reasonToStay_53 : decode cX5_reasonToStay 53 = .ok (.ireturn, 1) := by decide +kernel
set_option maxRecDepth 20000 in
theorem ggX5_labelBehindMove_X5_lengthFromParent : GoodIn wsX5_labelBehindMove wsX5_lengthFromParent := goodIn_r _ [5, 6, 7, 8, 9, 10, 11, 12, 13, 14, 15, 16, 17, 18, 19, 20, 21, 22, 23, 24, 25, 26, 27, 28, 29, 30, 31, 32, 33, 34, 35] (by decide +kernel) (by decide +kernel)
set_option maxRecDepth 20000 in
theorem gX5_labelBehindMove_X5_lengthFromParent : GoodIn wsX5_labelBehindMove (wsV RX5 173 RX5 yX5_lengthFromParent wsX5_lengthFromParent) := goodIn_app (goodIn_of _ (by decide +kernel)) ggX5_labelBehindMove_X5_lengthFromParent
theorem dX5_labelBehindMove_0 : decode cX5_labelBehindMove 0 = .ok (.aload_n 0, 1) := by decide +kernel
theorem dX5_labelBehindMove_1 : decode cX5_labelBehindMove 1 = .ok (.iload_n 1, 1) := by decide +kernel
theorem dX5_labelBehindMove_2 : decode cX5_labelBehindMove 2 = .ok (.iload_n 1, 1) := by decide +kernel
theorem dX5_labelBehindMove_3 : decode cX5_labelBehindMove 3 = .ok (.iconst 1, 1) := by decide +kernel
theorem dX5_labelBehindMove_4 : decode cX5_labelBehindMove 4 = .ok (.iadd, 1) := by decide +kernel
theorem dX5_labelBehindMove_5 : decode cX5_labelBehindMove 5 = .ok (.invokevirtual 173, 3) := by decide +kernel
theorem dX5_labelBehindMove_8 : decode cX5_labelBehindMove 8 = .ok (.ireturn, 1) := by decide +kernel
set_option maxRecDepth 20000 in
theorem ggX5_saving_X5_reasonToStay : GoodIn wsX5_saving wsX5_reasonToStay := goodIn_r _ [6, 7, 8, 9, 10, 11, 12, 13, 14, 15, 16, 17, 18, 19, 20, 21, 22, 23, 24, 25, 5, 26, 27, 28, 29, 30, 31, 32, 33, 34, 35, 36, 37, 38, 39, 40, 41, 42, 43, 44, 45, 46, 47, 48, 49, 50, 51, 52, 53] (by decide +kernel) (by decide +kernel)
set_option maxRecDepth 20000 in
theorem gX5_saving_X5_reasonToStay : GoodIn wsX5_saving (wsV RX5 138 RX5 yX5_reasonToStay wsX5_reasonToStay) := goodIn_app (goodIn_of _ (by decide +kernel)) ggX5_saving_X5_reasonToStay
set_option maxRecDepth 20000 in
theorem ggX5_saving_X3_at : GoodIn wsX5_saving wsX3_at := goodIn_r _ [20, 21, 53] (by decide +kernel) (by decide +kernel)
set_option maxRecDepth 20000 in
theorem gX5_saving_X3_at : GoodIn wsX5_saving (wsV RX5 71 RX3 yX3_at wsX3_at) := goodIn_app (goodIn_of _ (by decide +kernel)) ggX5_saving_X3_at
theorem dX5_saving_0 : decode cX5_saving 0 = .ok (.aload_n 0, 1) := by decide +kernel
theorem dX5_saving_1 : decode cX5_saving 1 = .ok (.iload_n 1, 1) := by decide +kernel
theorem dX5_saving_2 : decode cX5_saving 2 = .ok (.invokevirtual 138, 3) := by decide +kernel
theorem dX5_saving_5 : decode cX5_saving 5 = .ok (.ifCond .ne 14, 3) := by decide +kernel
theorem dX5_saving_8 : decode cX5_saving 8 = .ok (.aload_n 0, 1) := by decide +kernel
theorem dX5_saving_9 : decode cX5_saving 9 = .ok (.getfield 36, 3) := by decide +kernel
theorem dX5_saving_12 : decode cX5_saving 12 = .ok (.iload_n 1, 1) := by decide +kernel
theorem dX5_saving_13 : decode cX5_saving 13 = .ok (.invokevirtual 71, 3) := by decide +kernel
theorem dX5_saving_16 : decode cX5_saving 16 = .ok (.goto 4, 3) := by decide +kernel
theorem dX5_saving_19 : decode cX5_saving 19 = .ok (.iconst (-1), 1) := by decide +kernel
theorem dX5_saving_20 : decode cX5_saving 20 = .ok (.ireturn, 1) := by decide +kernel
set_option maxRecDepth 20000 in
theorem ggX5_bestToMove_X5_saving : GoodIn wsX5_bestToMove wsX5_saving := goodIn_r _ [7, 8, 9, 10, 11, 6, 12, 1, 13, 14, 15, 16, 17, 18, 19, 20, 21, 22, 23, 24, 25, 26, 27, 28, 29, 30, 31, 32, 33, 34, 35, 36, 37, 38, 39, 40, 41, 42, 43, 44, 45, 46, 47, 48, 49, 50, 51, 52, 53, 54, 55, 56, 57, 58] (by decide +kernel) (by decide +kernel)
set_option maxRecDepth 20000 in
theorem gX5_bestToMove_X5_saving : GoodIn wsX5_bestToMove (wsV RX5 185 RX5 yX5_saving wsX5_saving) := goodIn_app (goodIn_of _ (by decide +kernel)) ggX5_bestToMove_X5_saving
theorem dX5_bestToMove_0 : decode cX5_bestToMove 0 = .ok (.iconst (-1), 1) := by decide +kernel
theorem dX5_bestToMove_1 : decode cX5_bestToMove 1 = .ok (.istore_n 1, 1) := by decide +kernel
theorem dX5_bestToMove_2 : decode cX5_bestToMove 2 = .ok (.iconst (-1), 1) := by decide +kernel
theorem dX5_bestToMove_3 : decode cX5_bestToMove 3 = .ok (.istore_n 2, 1) := by decide +kernel
theorem dX5_bestToMove_4 : decode cX5_bestToMove 4 = .ok (.iconst 0, 1) := by decide +kernel
theorem dX5_bestToMove_5 : decode cX5_bestToMove 5 = .ok (.istore_n 3, 1) := by decide +kernel
theorem dX5_bestToMove_6 : decode cX5_bestToMove 6 = .ok (.iload_n 3, 1) := by decide +kernel
theorem dX5_bestToMove_7 : decode cX5_bestToMove 7 = .ok (.aload_n 0, 1) := by decide +kernel
theorem dX5_bestToMove_8 : decode cX5_bestToMove 8 = .ok (.getfield 12, 3) := by decide +kernel
theorem dX5_bestToMove_11 : decode cX5_bestToMove 11 = .ok (.getfield 52, 3) := by decide +kernel
theorem dX5_bestToMove_14 : decode cX5_bestToMove 14 = .ok (.if_icmp .ge 27, 3) := by decide +kernel
theorem dX5_bestToMove_17 : decode cX5_bestToMove 17 = .ok (.aload_n 0, 1) := by decide +kernel
theorem dX5_bestToMove_18 : decode cX5_bestToMove 18 = .ok (.iload_n 3, 1) := by decide +kernel
theorem dX5_bestToMove_19 : decode cX5_bestToMove 19 = .ok (.invokevirtual 185, 3) := by decide +kernel
theorem dX5_bestToMove_22 : decode cX5_bestToMove 22 = .ok (.istore 4, 2) := by decide +kernel
theorem dX5_bestToMove_24 : decode cX5_bestToMove 24 = .ok (.iload 4, 2) := by decide +kernel
theorem dX5_bestToMove_26 : decode cX5_bestToMove 26 = .ok (.iload_n 2, 1) := by decide +kernel
theorem dX5_bestToMove_27 : decode cX5_bestToMove 27 = .ok (.if_icmp .le 8, 3) := by decide +kernel
theorem dX5_bestToMove_30 : decode cX5_bestToMove 30 = .ok (.iload_n 3, 1) := by decide +kernel
theorem dX5_bestToMove_31 : decode cX5_bestToMove 31 = .ok (.istore_n 1, 1) := by decide +kernel
theorem dX5_bestToMove_32 : decode cX5_bestToMove 32 = .ok (.iload 4, 2) := by decide +kernel
theorem dX5_bestToMove_34 : decode cX5_bestToMove 34 = .ok (.istore_n 2, 1) := by decide +kernel
theorem dX5_bestToMove_35 : decode cX5_bestToMove 35 = .ok (.iinc 3 1, 3) := by decide +kernel
theorem dX5_bestToMove_38 : decode cX5_bestToMove 38 = .ok (.goto (-32), 3) := by decide +kernel
theorem dX5_bestToMove_41 : decode cX5_bestToMove 41 = .ok (.iload_n 1, 1) := by decide +kernel
theorem dX5_bestToMove_42 : decode cX5_bestToMove 42 = .ok (.ireturn, 1) := by decide +kernel
set_option maxRecDepth 20000 in
theorem ggX6_init_X4_init : GoodIn wsX6_init wsX4_init := goodIn_r _ [12, 13, 2, 3, 14, 15, 16, 17, 18, 19, 20, 21, 22, 23, 24, 25, 26, 27, 28, 29, 30, 31, 32, 33, 34, 35, 36, 37, 9, 38, 39, 40, 41, 42, 54, 46, 47, 48, 49, 50, 51, 52, 53] (by decide +kernel) (by decide +kernel)
set_option maxRecDepth 20000 in
theorem gX6_init_X4_init : GoodIn wsX6_init (wsX4_init) := ggX6_init_X4_init
theorem dX6_init_0 : decode cX6_init 0 = .ok (.aload_n 0, 1) := by decide +kernel
theorem dX6_init_1 : decode cX6_init 1 = .ok (.invokespecial 3, 3) := by decide +kernel
theorem dX6_init_4 : decode cX6_init 4 = .ok (.aload_n 0, 1) := by decide +kernel
theorem dX6_init_5 : decode cX6_init 5 = .ok (.iconst 4, 1) := by decide +kernel
theorem dX6_init_6 : decode cX6_init 6 = .ok (.anewarray 9, 3) := by decide +kernel
theorem dX6_init_9 : decode cX6_init 9 = .ok (.putfield 11, 3) := by decide +kernel
theorem dX6_init_12 : decode cX6_init 12 = .ok (.aload_n 0, 1) := by decide +kernel
theorem dX6_init_13 : decode cX6_init 13 = .ok (.iconst 0, 1) := by decide +kernel
theorem dX6_init_14 : decode cX6_init 14 = .ok (.putfield 17, 3) := by decide +kernel
theorem dX6_init_17 : decode cX6_init 17 = .ok (.aload_n 0, 1) := by decide +kernel
theorem dX6_init_18 : decode cX6_init 18 = .ok (.iconst 0, 1) := by decide +kernel
theorem dX6_init_19 : decode cX6_init 19 = .ok (.putfield 21, 3) := by decide +kernel
theorem dX6_init_22 : decode cX6_init 22 = .ok (.iconst 0, 1) := by decide +kernel
theorem dX6_init_23 : decode cX6_init 23 = .ok (.istore_n 1, 1) := by decide +kernel
theorem dX6_init_24 : decode cX6_init 24 = .ok (.iload_n 1, 1) := by decide +kernel
theorem dX6_init_25 : decode cX6_init 25 = .ok (.aload_n 0, 1) := by decide +kernel
theorem dX6_init_26 : decode cX6_init 26 = .ok (.getfield 11, 3) := by decide +kernel
theorem dX6_init_29 : decode cX6_init 29 = .ok (.arraylength, 1) := by decide +kernel
theorem dX6_init_30 : decode cX6_init 30 = .ok (.if_icmp .ge 22, 3) := by decide +kernel
theorem dX6_init_33 : decode cX6_init 33 = .ok (.aload_n 0, 1) := by decide +kernel
theorem dX6_init_34 : decode cX6_init 34 = .ok (.getfield 11, 3) := by decide +kernel
theorem dX6_init_37 : decode cX6_init 37 = .ok (.iload_n 1, 1) := by decide +kernel
theorem dX6_init_38 : decode cX6_init 38 = .ok (.new 9, 3) := by decide +kernel
theorem dX6_init_41 : decode cX6_init 41 = .ok (.dup, 1) := by decide +kernel
theorem dX6_init_42 : decode cX6_init 42 = .ok (.invokespecial 24, 3) := by decide +kernel
theorem dX6_init_45 : decode cX6_init 45 = .ok (.aastore, 1) := by decide +kernel
theorem dX6_init_46 : decode cX6_init 46 = .ok (.iinc 1 1, 3) := by decide +kernel
theorem dX6_init_49 : decode cX6_init 49 = .ok (.goto (-25), 3) := by decide +kernel
theorem dX6_init_52 : decode cX6_init 52 = .ok (.return_, 1) := by decide +kernel
set_option maxRecDepth 20000 in
theorem ggX6_push_X6_slotAt : GoodIn wsX6_push wsX6_slotAt := goodIn_r _ [11, 12, 40, 41, 42] (by decide +kernel) (by decide +kernel)
set_option maxRecDepth 20000 in
theorem gX6_push_X6_slotAt : GoodIn wsX6_push (wsV RX6 25 RX6 yX6_slotAt wsX6_slotAt) := goodIn_app (goodIn_of _ (by decide +kernel)) ggX6_push_X6_slotAt
set_option maxRecDepth 20000 in
theorem ggX6_push_X4_copyFrom : GoodIn wsX6_push wsX4_copyFrom := goodIn_r _ [17, 18, 19, 20, 21, 22, 23, 24, 25, 26, 27, 28, 29, 30, 31, 32, 33, 34, 35, 36, 37, 38, 39, 43, 44, 45, 46, 47, 48, 49, 50, 51] (by decide +kernel) (by decide +kernel)
set_option maxRecDepth 20000 in
theorem gX6_push_X4_copyFrom : GoodIn wsX6_push (wsV RX6 29 RX4 yX4_copyFrom wsX4_copyFrom) := goodIn_app (goodIn_of _ (by decide +kernel)) ggX6_push_X4_copyFrom
theorem dX6_push_0 : decode cX6_push 0 = .ok (.aload_n 0, 1) := by decide +kernel
theorem dX6_push_1 : decode cX6_push 1 = .ok (.aload_n 0, 1) := by decide +kernel
theorem dX6_push_2 : decode cX6_push 2 = .ok (.getfield 17, 3) := by decide +kernel
theorem dX6_push_5 : decode cX6_push 5 = .ok (.invokevirtual 25, 3) := by decide +kernel
theorem dX6_push_8 : decode cX6_push 8 = .ok (.astore_n 2, 1) := by decide +kernel
theorem dX6_push_9 : decode cX6_push 9 = .ok (.aload_n 2, 1) := by decide +kernel
theorem dX6_push_10 : decode cX6_push 10 = .ok (.ifnull 34, 3) := by decide +kernel
theorem dX6_push_13 : decode cX6_push 13 = .ok (.aload_n 2, 1) := by decide +kernel
theorem dX6_push_14 : decode cX6_push 14 = .ok (.aload_n 1, 1) := by decide +kernel
theorem dX6_push_15 : decode cX6_push 15 = .ok (.invokevirtual 29, 3) := by decide +kernel
theorem dX6_push_18 : decode cX6_push 18 = .ok (.aload_n 0, 1) := by decide +kernel
theorem dX6_push_19 : decode cX6_push 19 = .ok (.aload_n 0, 1) := by decide +kernel
theorem dX6_push_20 : decode cX6_push 20 = .ok (.getfield 17, 3) := by decide +kernel
theorem dX6_push_23 : decode cX6_push 23 = .ok (.iconst 1, 1) := by decide +kernel
theorem dX6_push_24 : decode cX6_push 24 = .ok (.iadd, 1) := by decide +kernel
theorem dX6_push_25 : decode cX6_push 25 = .ok (.iconst 4, 1) := by decide +kernel
theorem dX6_push_26 : decode cX6_push 26 = .ok (.irem, 1) := by decide +kernel
theorem dX6_push_27 : decode cX6_push 27 = .ok (.putfield 17, 3) := by decide +kernel
theorem dX6_push_30 : decode cX6_push 30 = .ok (.aload_n 0, 1) := by decide +kernel
theorem dX6_push_31 : decode cX6_push 31 = .ok (.aload_n 0, 1) := by decide +kernel
theorem dX6_push_32 : decode cX6_push 32 = .ok (.getfield 21, 3) := by decide +kernel
theorem dX6_push_35 : decode cX6_push 35 = .ok (.iconst 1, 1) := by decide +kernel
theorem dX6_push_36 : decode cX6_push 36 = .ok (.iadd, 1) := by decide +kernel
theorem dX6_push_37 : decode cX6_push 37 = .ok (.iconst 4, 1) := by decide +kernel
theorem dX6_push_38 : decode cX6_push 38 = .ok (.invokestatic 33, 3) := by decide +kernel
theorem dX6_push_41 : decode cX6_push 41 = .ok (.putfield 21, 3) := by decide +kernel
theorem dX6_push_44 : decode cX6_push 44 = .ok (.return_, 1) := by decide +kernel
theorem dX6_slotAt_0 : decode cX6_slotAt 0 = .ok (.iload_n 1, 1) := by decide +kernel
theorem dX6_slotAt_1 : decode cX6_slotAt 1 = .ok (.ifCond .lt 21, 3) := by decide +kernel
theorem dX6_slotAt_4 : decode cX6_slotAt 4 = .ok (.iload_n 1, 1) := by decide +kernel
theorem dX6_slotAt_5 : decode cX6_slotAt 5 = .ok (.aload_n 0, 1) := by decide +kernel
theorem dX6_slotAt_6 : decode cX6_slotAt 6 = .ok (.getfield 11, 3) := by decide +kernel
theorem dX6_slotAt_9 : decode cX6_slotAt 9 = .ok (.arraylength, 1) := by decide +kernel
theorem dX6_slotAt_10 : decode cX6_slotAt 10 = .ok (.if_icmp .ge 12, 3) := by decide +kernel
theorem dX6_slotAt_13 : decode cX6_slotAt 13 = .ok (.aload_n 0, 1) := by decide +kernel
theorem dX6_slotAt_14 : decode cX6_slotAt 14 = .ok (.getfield 11, 3) := by decide +kernel
theorem dX6_slotAt_17 : decode cX6_slotAt 17 = .ok (.iload_n 1, 1) := by decide +kernel
theorem dX6_slotAt_18 : decode cX6_slotAt 18 = .ok (.aaload, 1) := by decide +kernel
theorem dX6_slotAt_19 : decode cX6_slotAt 19 = .ok (.goto 4, 3) := by decide +kernel
theorem dX6_slotAt_22 : decode cX6_slotAt 22 = .ok (.aconst_null, 1) := by decide +kernel
theorem dX6_slotAt_23 : decode cX6_slotAt 23 = .ok (.areturn, 1) := by decide +kernel
set_option maxRecDepth 20000 in
theorem ggX7_init_X5_init : GoodIn wsX7_init wsX5_init := goodIn_r _ [23, 24, 2, 3, 25, 26, 27, 28, 29, 30, 31, 32, 33, 34, 35, 36, 37, 38, 39, 40, 41, 42, 43, 44, 45, 46, 47, 48, 49, 50, 51, 52, 53, 54, 55, 56, 57, 58, 59, 60, 61, 62, 63, 64, 65, 66, 67, 68, 69, 70, 71, 72, 73, 6, 74, 75, 76, 77, 78, 79, 80, 81, 82, 83, 84, 85, 86, 87, 88, 89, 90, 91, 92, 93, 94, 95, 96, 97, 98, 99, 100, 101, 102, 103, 104, 105, 106, 107, 108, 109, 110, 111, 112, 162, 163, 164, 165, 166, 167, 168, 169, 138, 139, 140, 141, 142, 143, 144, 145, 170] (by decide +kernel) (by decide +kernel)
set_option maxRecDepth 20000 in
theorem gX7_init_X5_init : GoodIn wsX7_init (wsX5_init) := ggX7_init_X5_init
set_option maxRecDepth 20000 in
theorem ggX7_init_X6_init : GoodIn wsX7_init wsX6_init := goodIn_r _ [115, 116, 2, 3, 117, 118, 119, 120, 26, 27, 121, 40, 41, 42, 43, 30, 31, 44, 45, 46, 47, 48, 49, 50, 51, 52, 53, 54, 55, 56, 57, 58, 59, 60, 61, 62, 63, 64, 65, 66, 67, 68, 69, 151, 152, 153, 162, 163, 164, 165, 166, 167, 168, 169, 170] (by decide +kernel) (by decide +kernel)
set_option maxRecDepth 20000 in
theorem gX7_init_X6_init : GoodIn wsX7_init (wsX6_init) := ggX7_init_X6_init
set_option maxRecDepth 20000 in
theorem ggX7_init_X1_init : GoodIn wsX7_init wsX1_init := goodIn_r _ [123, 124, 2, 3, 125, 30, 31, 126, 127, 128, 53, 54, 55, 56, 57, 58, 59, 60, 61, 170, 154, 155] (by decide +kernel) (by decide +kernel)
set_option maxRecDepth 20000 in
theorem gX7_init_X1_init_n28 : GoodIn wsX7_init (wsX1_init) := ggX7_init_X1_init
set_option maxRecDepth 20000 in
theorem ggX7_init_X0_init : GoodIn wsX7_init wsX0_init := goodIn_r _ [130, 131, 2, 3, 132, 133, 134, 135, 136, 137, 156, 157, 158, 159, 160, 161] (by decide +kernel) (by decide +kernel)
set_option maxRecDepth 20000 in
theorem gX7_init_X0_init_n35 : GoodIn wsX7_init (wsX0_init) := ggX7_init_X0_init
theorem dX7_init_0 : decode cX7_init 0 = .ok (.aload_n 0, 1) := by decide +kernel
theorem dX7_init_1 : decode cX7_init 1 = .ok (.invokespecial 3, 3) := by decide +kernel
theorem dX7_init_4 : decode cX7_init 4 = .ok (.aload_n 0, 1) := by decide +kernel
theorem dX7_init_5 : decode cX7_init 5 = .ok (.new 9, 3) := by decide +kernel
theorem dX7_init_8 : decode cX7_init 8 = .ok (.dup, 1) := by decide +kernel
theorem dX7_init_9 : decode cX7_init 9 = .ok (.invokespecial 11, 3) := by decide +kernel
theorem dX7_init_12 : decode cX7_init 12 = .ok (.putfield 12, 3) := by decide +kernel
theorem dX7_init_15 : decode cX7_init 15 = .ok (.aload_n 0, 1) := by decide +kernel
theorem dX7_init_16 : decode cX7_init 16 = .ok (.new 9, 3) := by decide +kernel
theorem dX7_init_19 : decode cX7_init 19 = .ok (.dup, 1) := by decide +kernel
theorem dX7_init_20 : decode cX7_init 20 = .ok (.invokespecial 11, 3) := by decide +kernel
theorem dX7_init_23 : decode cX7_init 23 = .ok (.putfield 16, 3) := by decide +kernel
theorem dX7_init_26 : decode cX7_init 26 = .ok (.aload_n 0, 1) := by decide +kernel
theorem dX7_init_27 : decode cX7_init 27 = .ok (.new 19, 3) := by decide +kernel
theorem dX7_init_30 : decode cX7_init 30 = .ok (.dup, 1) := by decide +kernel
theorem dX7_init_31 : decode cX7_init 31 = .ok (.invokespecial 21, 3) := by decide +kernel
theorem dX7_init_34 : decode cX7_init 34 = .ok (.putfield 22, 3) := by decide +kernel
theorem dX7_init_37 : decode cX7_init 37 = .ok (.aload_n 0, 1) := by decide +kernel
theorem dX7_init_38 : decode cX7_init 38 = .ok (.new 26, 3) := by decide +kernel
theorem dX7_init_41 : decode cX7_init 41 = .ok (.dup, 1) := by decide +kernel
theorem dX7_init_42 : decode cX7_init 42 = .ok (.invokespecial 28, 3) := by decide +kernel
theorem dX7_init_45 : decode cX7_init 45 = .ok (.putfield 29, 3) := by decide +kernel
theorem dX7_init_48 : decode cX7_init 48 = .ok (.aload_n 0, 1) := by decide +kernel
theorem dX7_init_49 : decode cX7_init 49 = .ok (.new 33, 3) := by decide +kernel
theorem dX7_init_52 : decode cX7_init 52 = .ok (.dup, 1) := by decide +kernel
theorem dX7_init_53 : decode cX7_init 53 = .ok (.invokespecial 35, 3) := by decide +kernel
theorem dX7_init_56 : decode cX7_init 56 = .ok (.putfield 36, 3) := by decide +kernel
theorem dX7_init_59 : decode cX7_init 59 = .ok (.return_, 1) := by decide +kernel
set_option maxRecDepth 20000 in
theorem ggX7_add_X7_requireName : GoodIn wsX7_add wsX7_requireName := goodIn_ca (goodIn_r _ [9, 10, 11, 12, 13, 8, 14] (by decide +kernel) (by decide +kernel)) (goodIn_sub (fun _ h => List.mem_cons_of_mem _ (List.mem_append_right _ h)) (by decide +kernel))
set_option maxRecDepth 20000 in
theorem gX7_add_X7_requireName : GoodIn wsX7_add (va_wsS RX7 40 yX7_requireName wsX7_requireName) := goodIn_app (goodIn_of _ (by decide +kernel)) ggX7_add_X7_requireName
set_option maxRecDepth 20000 in
theorem ggX7_add_X7_requireWeight : GoodIn wsX7_add wsX7_requireWeight := goodIn_ca (goodIn_r _ [17, 10, 11] (by decide +kernel) (by decide +kernel)) (goodIn_sub (fun _ h => List.mem_cons_of_mem _ (List.mem_append_right _ h)) (by decide +kernel))
set_option maxRecDepth 20000 in
theorem gX7_add_X7_requireWeight : GoodIn wsX7_add (va_wsS RX7 44 yX7_requireWeight wsX7_requireWeight) := goodIn_app (goodIn_of _ (by decide +kernel)) ggX7_add_X7_requireWeight
set_option maxRecDepth 20000 in
theorem ggX7_add_X2_of : GoodIn wsX7_add wsX2_of := goodIn_r _ [21, 22, 23, 20, 24] (by decide +kernel) (by decide +kernel)
set_option maxRecDepth 20000 in
theorem gX7_add_X2_of : GoodIn wsX7_add (va_wsS RX7 48 yX2_of wsX2_of) := goodIn_app (goodIn_of _ (by decide +kernel)) ggX7_add_X2_of
set_option maxRecDepth 20000 in
theorem ggX7_add_X5_canTakeName : GoodIn wsX7_add wsX5_canTakeName := goodIn_r _ [29, 30, 31, 32, 28, 33, 34, 35, 36, 37, 38, 39, 40, 41, 42, 43, 44, 45, 46, 47, 48, 49, 50, 51, 52, 53, 54, 55, 56, 57, 58, 172, 173, 174, 175, 176, 177, 178, 179, 180, 181, 182, 183, 184, 185, 186, 187, 188] (by decide +kernel) (by decide +kernel)
set_option maxRecDepth 20000 in
theorem gX7_add_X5_canTakeName : GoodIn wsX7_add (wsV RX7 54 RX5 yX5_canTakeName wsX5_canTakeName) := goodIn_app (goodIn_of _ (by decide +kernel)) ggX7_add_X5_canTakeName
set_option maxRecDepth 20000 in
theorem ggX7_add_X6_push : GoodIn wsX7_add wsX6_push := goodIn_r _ [63, 64, 65, 66, 67, 68, 69, 70, 71, 72, 62, 73, 74, 75, 76, 77, 39, 78, 42, 41, 79, 80, 81, 82, 83, 84, 85, 86, 87, 50, 88, 89, 48, 49, 51, 52, 90, 91, 92, 93, 189, 190, 191, 180, 181, 182, 183, 184, 185, 186, 187, 188] (by decide +kernel) (by decide +kernel)
set_option maxRecDepth 20000 in
theorem gX7_add_X6_push : GoodIn wsX7_add (wsV RX7 69 RX6 yX6_push wsX6_push) := goodIn_app (goodIn_of _ (by decide +kernel)) ggX7_add_X6_push
set_option maxRecDepth 20000 in
theorem ggX7_add_X5_takeName : GoodIn wsX7_add wsX5_takeName := goodIn_r _ [97, 34, 98, 99, 35, 100, 101, 20, 102, 103, 104, 105, 28, 106, 107, 108, 109, 22, 23, 24, 110, 111, 112, 39, 113, 41, 42, 43, 44, 45, 46, 47, 48, 49, 50, 51, 52, 114, 115, 116, 117, 36, 37, 38, 40, 118, 119, 120, 121, 79, 122, 123, 124, 125, 89, 90, 91, 92, 93, 126, 127, 128, 129, 130, 131, 132, 133, 134, 135, 136, 137, 138, 58, 139, 140, 141, 142, 143, 144, 145, 68, 146, 147, 53, 148, 149, 150, 151, 152, 153, 154, 155, 156, 157, 158, 159, 160, 161, 162, 163, 164, 165, 166, 54, 55, 56, 57, 172, 173, 174, 175, 176, 177, 178, 179, 180, 181, 182, 183, 184, 185, 186, 187, 188] (by decide +kernel) (by decide +kernel)
set_option maxRecDepth 20000 in
theorem gX7_add_X5_takeName : GoodIn wsX7_add (wsV RX7 73 RX5 yX5_takeName wsX5_takeName) := goodIn_app (goodIn_of _ (by decide +kernel)) ggX7_add_X5_takeName
theorem dX7_add_0 : decode cX7_add 0 = .ok (.iload_n 1, 1) := by decide +kernel
theorem dX7_add_1 : decode cX7_add 1 = .ok (.iload_n 2, 1) := by decide +kernel
theorem dX7_add_2 : decode cX7_add 2 = .ok (.invokestatic 40, 3) := by decide +kernel
theorem dX7_add_5 : decode cX7_add 5 = .ok (.iload_n 3, 1) := by decide +kernel
theorem dX7_add_6 : decode cX7_add 6 = .ok (.invokestatic 44, 3) := by decide +kernel
theorem dX7_add_9 : decode cX7_add 9 = .ok (.iload_n 1, 1) := by decide +kernel
theorem dX7_add_10 : decode cX7_add 10 = .ok (.iload_n 2, 1) := by decide +kernel
theorem dX7_add_11 : decode cX7_add 11 = .ok (.invokestatic 48, 3) := by decide +kernel
theorem dX7_add_14 : decode cX7_add 14 = .ok (.istore 4, 2) := by decide +kernel
theorem dX7_add_16 : decode cX7_add 16 = .ok (.aload_n 0, 1) := by decide +kernel
theorem dX7_add_17 : decode cX7_add 17 = .ok (.getfield 12, 3) := by decide +kernel
theorem dX7_add_20 : decode cX7_add 20 = .ok (.iload 4, 2) := by decide +kernel
theorem dX7_add_22 : decode cX7_add 22 = .ok (.invokevirtual 54, 3) := by decide +kernel
theorem dX7_add_25 : decode cX7_add 25 = .ok (.ifCond .ne 13, 3) := by decide +kernel
theorem dX7_add_28 : decode cX7_add 28 = .ok (.new 58, 3) := by decide +kernel
theorem dX7_add_31 : decode cX7_add 31 = .ok (.dup, 1) := by decide +kernel
theorem dX7_add_32 : decode cX7_add 32 = .ok (.ldc 60, 2) := by decide +kernel
theorem dX7_add_34 : decode cX7_add 34 = .ok (.invokespecial 62, 3) := by decide +kernel
theorem dX7_add_37 : decode cX7_add 37 = .ok (.athrow, 1) := by decide +kernel
theorem dX7_add_38 : decode cX7_add 38 = .ok (.aload_n 0, 1) := by decide +kernel
theorem dX7_add_39 : decode cX7_add 39 = .ok (.getfield 22, 3) := by decide +kernel
theorem dX7_add_42 : decode cX7_add 42 = .ok (.aload_n 0, 1) := by decide +kernel
theorem dX7_add_43 : decode cX7_add 43 = .ok (.getfield 12, 3) := by decide +kernel
theorem dX7_add_46 : decode cX7_add 46 = .ok (.getfield 65, 3) := by decide +kernel
theorem dX7_add_49 : decode cX7_add 49 = .ok (.invokevirtual 69, 3) := by decide +kernel
theorem dX7_add_52 : decode cX7_add 52 = .ok (.aload_n 0, 1) := by decide +kernel
theorem dX7_add_53 : decode cX7_add 53 = .ok (.getfield 12, 3) := by decide +kernel
theorem dX7_add_56 : decode cX7_add 56 = .ok (.iload 4, 2) := by decide +kernel
theorem dX7_add_58 : decode cX7_add 58 = .ok (.iload_n 3, 1) := by decide +kernel
theorem dX7_add_59 : decode cX7_add 59 = .ok (.invokevirtual 73, 3) := by decide +kernel
theorem dX7_add_62 : decode cX7_add 62 = .ok (.ireturn, 1) := by decide +kernel
set_option maxRecDepth 20000 in
theorem ggX7_remove_X7_requireName : GoodIn wsX7_remove wsX7_requireName := goodIn_ca (goodIn_r _ [7, 8, 9, 10, 11, 6, 12] (by decide +kernel) (by decide +kernel)) (goodIn_sub (fun _ h => List.mem_cons_of_mem _ (List.mem_append_left _ (List.mem_append_right _ h))) (by decide +kernel))
set_option maxRecDepth 20000 in
theorem gX7_remove_X7_requireName : GoodIn wsX7_remove (va_wsS RX7 40 yX7_requireName wsX7_requireName) := goodIn_app (goodIn_of _ (by decide +kernel)) ggX7_remove_X7_requireName
set_option maxRecDepth 20000 in
theorem ggX7_remove_X2_of : GoodIn wsX7_remove wsX2_of := goodIn_r _ [16, 17, 18, 15, 19] (by decide +kernel) (by decide +kernel)
set_option maxRecDepth 20000 in
theorem gX7_remove_X2_of : GoodIn wsX7_remove (va_wsS RX7 48 yX2_of wsX2_of) := goodIn_app (goodIn_of _ (by decide +kernel)) ggX7_remove_X2_of
set_option maxRecDepth 20000 in
theorem ggX7_remove_X7_requireInTown : GoodIn wsX7_remove wsX7_requireInTown := goodIn_ca (goodIn_r _ [23, 24, 25, 2, 26, 27, 28, 29, 30, 31, 32, 33, 34, 35, 36, 37, 38, 39, 40, 41, 42, 43, 44, 45, 46, 47, 48, 49, 50, 141, 142, 143, 144, 145, 146, 147, 148, 149, 150, 151, 152, 153, 154, 155, 156, 157, 158, 159, 160, 161, 162] (by decide +kernel) (by decide +kernel)) (goodIn_sub (fun _ h => List.mem_cons_of_mem _ (List.mem_append_right _ h)) (by decide +kernel))
set_option maxRecDepth 20000 in
theorem gX7_remove_X7_requireInTown : GoodIn wsX7_remove (wsV RX7 76 RX7 yX7_requireInTown wsX7_requireInTown) := goodIn_app (goodIn_of _ (by decide +kernel)) ggX7_remove_X7_requireInTown
set_option maxRecDepth 20000 in
theorem ggX7_remove_X6_push : GoodIn wsX7_remove wsX6_push := goodIn_r _ [55, 56, 57, 58, 59, 60, 61, 62, 63, 64, 54, 65, 66, 67, 68, 69, 36, 70, 39, 38, 71, 72, 73, 74, 75, 76, 77, 78, 79, 47, 80, 81, 45, 46, 48, 49, 82, 83, 84, 85, 163, 164, 165, 154, 155, 156, 157, 158, 159, 160, 161, 162] (by decide +kernel) (by decide +kernel)
set_option maxRecDepth 20000 in
theorem gX7_remove_X6_push : GoodIn wsX7_remove (wsV RX7 69 RX6 yX6_push wsX6_push) := goodIn_app (goodIn_of _ (by decide +kernel)) ggX7_remove_X6_push
set_option maxRecDepth 20000 in
theorem ggX7_remove_X5_dropName : GoodIn wsX7_remove wsX5_dropName := goodIn_r _ [89, 31, 90, 32, 91, 92, 33, 34, 35, 36, 37, 38, 39, 40, 41, 42, 43, 44, 45, 46, 47, 48, 49, 93, 83, 84, 85, 94, 95, 96, 29, 97, 98, 99, 100, 101, 71, 50, 102, 103, 104, 105, 106, 107, 108, 109, 81, 82, 110, 111, 112, 113, 114, 115, 116, 117, 118, 119, 120, 121, 122, 123, 124, 125, 126, 127, 60, 128, 129, 130, 131, 15, 132, 133, 134, 135, 17, 18, 19, 136, 137, 138, 139, 140, 146, 147, 148, 149, 150, 151, 152, 153, 154, 155, 156, 157, 158, 159, 160, 161, 162] (by decide +kernel) (by decide +kernel)
set_option maxRecDepth 20000 in
theorem gX7_remove_X5_dropName : GoodIn wsX7_remove (wsV RX7 79 RX5 yX5_dropName wsX5_dropName) := goodIn_app (goodIn_of _ (by decide +kernel)) ggX7_remove_X5_dropName
theorem dX7_remove_0 : decode cX7_remove 0 = .ok (.iload_n 1, 1) := by decide +kernel
theorem dX7_remove_1 : decode cX7_remove 1 = .ok (.iload_n 2, 1) := by decide +kernel
theorem dX7_remove_2 : decode cX7_remove 2 = .ok (.invokestatic 40, 3) := by decide +kernel
theorem dX7_remove_5 : decode cX7_remove 5 = .ok (.iload_n 1, 1) := by decide +kernel
theorem dX7_remove_6 : decode cX7_remove 6 = .ok (.iload_n 2, 1) := by decide +kernel
theorem dX7_remove_7 : decode cX7_remove 7 = .ok (.invokestatic 48, 3) := by decide +kernel
theorem dX7_remove_10 : decode cX7_remove 10 = .ok (.istore_n 3, 1) := by decide +kernel
theorem dX7_remove_11 : decode cX7_remove 11 = .ok (.aload_n 0, 1) := by decide +kernel
theorem dX7_remove_12 : decode cX7_remove 12 = .ok (.iload_n 3, 1) := by decide +kernel
theorem dX7_remove_13 : decode cX7_remove 13 = .ok (.invokevirtual 76, 3) := by decide +kernel
theorem dX7_remove_16 : decode cX7_remove 16 = .ok (.aload_n 0, 1) := by decide +kernel
theorem dX7_remove_17 : decode cX7_remove 17 = .ok (.getfield 22, 3) := by decide +kernel
theorem dX7_remove_20 : decode cX7_remove 20 = .ok (.aload_n 0, 1) := by decide +kernel
theorem dX7_remove_21 : decode cX7_remove 21 = .ok (.getfield 12, 3) := by decide +kernel
theorem dX7_remove_24 : decode cX7_remove 24 = .ok (.getfield 65, 3) := by decide +kernel
theorem dX7_remove_27 : decode cX7_remove 27 = .ok (.invokevirtual 69, 3) := by decide +kernel
theorem dX7_remove_30 : decode cX7_remove 30 = .ok (.aload_n 0, 1) := by decide +kernel
theorem dX7_remove_31 : decode cX7_remove 31 = .ok (.getfield 12, 3) := by decide +kernel
theorem dX7_remove_34 : decode cX7_remove 34 = .ok (.iload_n 3, 1) := by decide +kernel
theorem dX7_remove_35 : decode cX7_remove 35 = .ok (.invokevirtual 79, 3) := by decide +kernel
theorem dX7_remove_38 : decode cX7_remove 38 = .ok (.ireturn, 1) := by decide +kernel
set_option maxRecDepth 20000 in
theorem ggX7_setLimit_X7_requireLimit : GoodIn wsX7_setLimit wsX7_requireLimit := goodIn_ca (goodIn_r _ [7, 8, 9, 10, 11, 6, 12] (by decide +kernel) (by decide +kernel)) (goodIn_sub (fun _ h => List.mem_cons_of_mem _ (List.mem_append_right _ h)) (by decide +kernel))
set_option maxRecDepth 20000 in
theorem gX7_setLimit_X7_requireLimit : GoodIn wsX7_setLimit (va_wsS RX7 86 yX7_requireLimit wsX7_requireLimit) := goodIn_app (goodIn_of _ (by decide +kernel)) ggX7_setLimit_X7_requireLimit
set_option maxRecDepth 20000 in
theorem ggX7_setLimit_X6_push : GoodIn wsX7_setLimit wsX6_push := goodIn_r _ [17, 18, 19, 20, 21, 22, 23, 24, 25, 26, 16, 27, 28, 29, 30, 31, 32, 33, 34, 35, 36, 37, 38, 39, 40, 41, 42, 43, 44, 45, 46, 47, 48, 49, 50, 51, 52, 53, 54, 55, 76, 77, 78, 79, 80, 81, 82, 83, 84, 85, 86, 87] (by decide +kernel) (by decide +kernel)
set_option maxRecDepth 20000 in
theorem gX7_setLimit_X6_push : GoodIn wsX7_setLimit (wsV RX7 69 RX6 yX6_push wsX6_push) := goodIn_app (goodIn_of _ (by decide +kernel)) ggX7_setLimit_X6_push
set_option maxRecDepth 20000 in
theorem ggX7_setLimit_X5_changeLimit : GoodIn wsX7_setLimit wsX5_changeLimit := goodIn_r _ [60, 61, 62, 68, 69, 70, 71, 72, 73, 74, 75, 79, 80, 81, 82, 83, 84, 85, 86] (by decide +kernel) (by decide +kernel)
set_option maxRecDepth 20000 in
theorem gX7_setLimit_X5_changeLimit : GoodIn wsX7_setLimit (wsV RX7 89 RX5 yX5_changeLimit wsX5_changeLimit) := goodIn_app (goodIn_of _ (by decide +kernel)) ggX7_setLimit_X5_changeLimit
theorem dX7_setLimit_0 : decode cX7_setLimit 0 = .ok (.iload_n 1, 1) := by decide +kernel
theorem dX7_setLimit_1 : decode cX7_setLimit 1 = .ok (.invokestatic 86, 3) := by decide +kernel
theorem dX7_setLimit_4 : decode cX7_setLimit 4 = .ok (.aload_n 0, 1) := by decide +kernel
theorem dX7_setLimit_5 : decode cX7_setLimit 5 = .ok (.getfield 22, 3) := by decide +kernel
theorem dX7_setLimit_8 : decode cX7_setLimit 8 = .ok (.aload_n 0, 1) := by decide +kernel
theorem dX7_setLimit_9 : decode cX7_setLimit 9 = .ok (.getfield 12, 3) := by decide +kernel
theorem dX7_setLimit_12 : decode cX7_setLimit 12 = .ok (.getfield 65, 3) := by decide +kernel
theorem dX7_setLimit_15 : decode cX7_setLimit 15 = .ok (.invokevirtual 69, 3) := by decide +kernel
theorem dX7_setLimit_18 : decode cX7_setLimit 18 = .ok (.aload_n 0, 1) := by decide +kernel
theorem dX7_setLimit_19 : decode cX7_setLimit 19 = .ok (.getfield 12, 3) := by decide +kernel
theorem dX7_setLimit_22 : decode cX7_setLimit 22 = .ok (.iload_n 1, 1) := by decide +kernel
theorem dX7_setLimit_23 : decode cX7_setLimit 23 = .ok (.invokevirtual 89, 3) := by decide +kernel
theorem dX7_setLimit_26 : decode cX7_setLimit 26 = .ok (.ireturn, 1) := by decide +kernel
set_option maxRecDepth 20000 in
theorem ggX7_moveIn_X7_requirePrefix : GoodIn wsX7_moveIn wsX7_requirePrefix := goodIn_ca (goodIn_r _ [9, 10, 11] (by decide +kernel) (by decide +kernel)) (goodIn_sub (fun _ h => List.mem_cons_of_mem _ (List.mem_append_right _ h)) (by decide +kernel))
set_option maxRecDepth 20000 in
theorem gX7_moveIn_X7_requirePrefix : GoodIn wsX7_moveIn (va_wsS RX7 92 yX7_requirePrefix wsX7_requirePrefix) := goodIn_app (goodIn_of _ (by decide +kernel)) ggX7_moveIn_X7_requirePrefix
set_option maxRecDepth 20000 in
theorem ggX7_moveIn_X2_of : GoodIn wsX7_moveIn wsX2_of := goodIn_r _ [15, 16, 17, 14, 18] (by decide +kernel) (by decide +kernel)
set_option maxRecDepth 20000 in
theorem gX7_moveIn_X2_of : GoodIn wsX7_moveIn (va_wsS RX7 48 yX2_of wsX2_of) := goodIn_app (goodIn_of _ (by decide +kernel)) ggX7_moveIn_X2_of
set_option maxRecDepth 20000 in
theorem ggX7_moveIn_X5_canMove : GoodIn wsX7_moveIn wsX5_canMove := goodIn_r _ [23, 24, 25, 26, 27, 28, 29, 30, 31, 32, 33, 34, 35, 36, 37, 38, 39, 40, 41, 42, 43, 44, 22, 45, 46, 47, 48, 49, 50, 51, 52, 53, 54, 55, 56, 57, 58, 59, 60, 61, 62, 63, 64, 65, 14, 66, 149, 150, 151, 152, 153, 154, 155, 156, 157, 158, 159, 160, 161, 162, 163, 164, 165] (by decide +kernel) (by decide +kernel)
set_option maxRecDepth 20000 in
theorem gX7_moveIn_X5_canMove : GoodIn wsX7_moveIn (wsV RX7 95 RX5 yX5_canMove wsX5_canMove) := goodIn_app (goodIn_of _ (by decide +kernel)) ggX7_moveIn_X5_canMove
set_option maxRecDepth 20000 in
theorem ggX7_moveIn_X6_push : GoodIn wsX7_moveIn wsX6_push := goodIn_r _ [71, 72, 73, 74, 75, 76, 77, 78, 79, 80, 70, 81, 82, 83, 84, 85, 28, 86, 31, 30, 52, 87, 88, 89, 90, 91, 92, 93, 94, 39, 95, 96, 37, 38, 40, 41, 97, 98, 99, 100, 166, 167, 168, 157, 158, 159, 160, 161, 162, 163, 164, 165] (by decide +kernel) (by decide +kernel)
set_option maxRecDepth 20000 in
theorem gX7_moveIn_X6_push : GoodIn wsX7_moveIn (wsV RX7 69 RX6 yX6_push wsX6_push) := goodIn_app (goodIn_of _ (by decide +kernel)) ggX7_moveIn_X6_push
set_option maxRecDepth 20000 in
theorem ggX7_moveIn_X5_move : GoodIn wsX7_moveIn wsX5_move := goodIn_r _ [104, 24, 105, 25, 26, 27, 28, 29, 30, 31, 32, 33, 34, 35, 36, 37, 38, 39, 40, 41, 54, 55, 56, 22, 57, 58, 59, 60, 61, 62, 63, 53, 64, 65, 14, 66, 106, 107, 108, 109, 52, 110, 111, 112, 113, 96, 97, 98, 99, 100, 114, 115, 116, 117, 118, 119, 120, 121, 122, 123, 124, 125, 126, 127, 76, 128, 129, 130, 131, 132, 16, 17, 18, 133, 134, 135, 136, 137, 46, 138, 139, 48, 49, 50, 51, 140, 141, 142, 143, 149, 150, 151, 152, 153, 154, 155, 156, 157, 158, 159, 160, 161, 162, 163, 164, 165] (by decide +kernel) (by decide +kernel)
set_option maxRecDepth 20000 in
theorem gX7_moveIn_X5_move : GoodIn wsX7_moveIn (wsV RX7 100 RX5 yX5_move wsX5_move) := goodIn_app (goodIn_of _ (by decide +kernel)) ggX7_moveIn_X5_move
theorem dX7_moveIn_0 : decode cX7_moveIn 0 = .ok (.iload_n 1, 1) := by decide +kernel
theorem dX7_moveIn_1 : decode cX7_moveIn 1 = .ok (.iload_n 2, 1) := by decide +kernel
theorem dX7_moveIn_2 : decode cX7_moveIn 2 = .ok (.invokestatic 92, 3) := by decide +kernel
theorem dX7_moveIn_5 : decode cX7_moveIn 5 = .ok (.iload_n 1, 1) := by decide +kernel
theorem dX7_moveIn_6 : decode cX7_moveIn 6 = .ok (.iload_n 2, 1) := by decide +kernel
theorem dX7_moveIn_7 : decode cX7_moveIn 7 = .ok (.invokestatic 48, 3) := by decide +kernel
theorem dX7_moveIn_10 : decode cX7_moveIn 10 = .ok (.istore_n 3, 1) := by decide +kernel
theorem dX7_moveIn_11 : decode cX7_moveIn 11 = .ok (.aload_n 0, 1) := by decide +kernel
theorem dX7_moveIn_12 : decode cX7_moveIn 12 = .ok (.getfield 12, 3) := by decide +kernel
theorem dX7_moveIn_15 : decode cX7_moveIn 15 = .ok (.iload_n 3, 1) := by decide +kernel
theorem dX7_moveIn_16 : decode cX7_moveIn 16 = .ok (.invokevirtual 95, 3) := by decide +kernel
theorem dX7_moveIn_19 : decode cX7_moveIn 19 = .ok (.ifCond .ne 13, 3) := by decide +kernel
theorem dX7_moveIn_22 : decode cX7_moveIn 22 = .ok (.new 58, 3) := by decide +kernel
theorem dX7_moveIn_25 : decode cX7_moveIn 25 = .ok (.dup, 1) := by decide +kernel
theorem dX7_moveIn_26 : decode cX7_moveIn 26 = .ok (.ldc 98, 2) := by decide +kernel
theorem dX7_moveIn_28 : decode cX7_moveIn 28 = .ok (.invokespecial 62, 3) := by decide +kernel
theorem dX7_moveIn_31 : decode cX7_moveIn 31 = .ok (.athrow, 1) := by decide +kernel
theorem dX7_moveIn_32 : decode cX7_moveIn 32 = .ok (.aload_n 0, 1) := by decide +kernel
theorem dX7_moveIn_33 : decode cX7_moveIn 33 = .ok (.getfield 22, 3) := by decide +kernel
theorem dX7_moveIn_36 : decode cX7_moveIn 36 = .ok (.aload_n 0, 1) := by decide +kernel
theorem dX7_moveIn_37 : decode cX7_moveIn 37 = .ok (.getfield 12, 3) := by decide +kernel
theorem dX7_moveIn_40 : decode cX7_moveIn 40 = .ok (.getfield 65, 3) := by decide +kernel
theorem dX7_moveIn_43 : decode cX7_moveIn 43 = .ok (.invokevirtual 69, 3) := by decide +kernel
theorem dX7_moveIn_46 : decode cX7_moveIn 46 = .ok (.aload_n 0, 1) := by decide +kernel
theorem dX7_moveIn_47 : decode cX7_moveIn 47 = .ok (.getfield 12, 3) := by decide +kernel
theorem dX7_moveIn_50 : decode cX7_moveIn 50 = .ok (.iload_n 3, 1) := by decide +kernel
theorem dX7_moveIn_51 : decode cX7_moveIn 51 = .ok (.invokevirtual 100, 3) := by decide +kernel
theorem dX7_moveIn_54 : decode cX7_moveIn 54 = .ok (.ireturn, 1) := by decide +kernel
set_option maxRecDepth 20000 in
theorem ggX7_evict_X7_requirePrefix : GoodIn wsX7_evict wsX7_requirePrefix := goodIn_ca (goodIn_r _ [9, 10, 11] (by decide +kernel) (by decide +kernel)) (goodIn_sub (fun _ h => List.mem_cons_of_mem _ (List.mem_append_right _ h)) (by decide +kernel))
set_option maxRecDepth 20000 in
theorem gX7_evict_X7_requirePrefix : GoodIn wsX7_evict (va_wsS RX7 92 yX7_requirePrefix wsX7_requirePrefix) := goodIn_app (goodIn_of _ (by decide +kernel)) ggX7_evict_X7_requirePrefix
set_option maxRecDepth 20000 in
theorem ggX7_evict_X2_of : GoodIn wsX7_evict wsX2_of := goodIn_r _ [15, 16, 17, 14, 18] (by decide +kernel) (by decide +kernel)
set_option maxRecDepth 20000 in
theorem gX7_evict_X2_of : GoodIn wsX7_evict (va_wsS RX7 48 yX2_of wsX2_of) := goodIn_app (goodIn_of _ (by decide +kernel)) ggX7_evict_X2_of
set_option maxRecDepth 20000 in
theorem ggX7_evict_X5_liesWithinLabel : GoodIn wsX7_evict wsX5_liesWithinLabel := goodIn_r _ [23, 24, 25, 26, 27, 28, 29, 30, 31, 32, 33, 34, 35, 36, 37, 38, 39, 40, 41, 42, 43, 44, 45, 46, 47, 14, 48, 49, 50, 51, 16, 17, 18, 154, 155, 156, 157, 158, 159, 160, 161, 162, 163, 164, 165, 166, 167, 168, 169, 170] (by decide +kernel) (by decide +kernel)
set_option maxRecDepth 20000 in
theorem gX7_evict_X5_liesWithinLabel : GoodIn wsX7_evict (wsV RX7 103 RX5 yX5_liesWithinLabel wsX5_liesWithinLabel) := goodIn_app (goodIn_of _ (by decide +kernel)) ggX7_evict_X5_liesWithinLabel
set_option maxRecDepth 20000 in
theorem ggX7_evict_X6_push : GoodIn wsX7_evict wsX6_push := goodIn_r _ [56, 57, 58, 59, 60, 61, 62, 63, 64, 65, 55, 66, 67, 68, 69, 70, 28, 71, 31, 30, 72, 73, 74, 75, 76, 77, 78, 79, 80, 39, 81, 82, 37, 38, 40, 41, 83, 84, 85, 86, 171, 172, 173, 162, 163, 164, 165, 166, 167, 168, 169, 170] (by decide +kernel) (by decide +kernel)
set_option maxRecDepth 20000 in
theorem gX7_evict_X6_push : GoodIn wsX7_evict (wsV RX7 69 RX6 yX6_push wsX6_push) := goodIn_app (goodIn_of _ (by decide +kernel)) ggX7_evict_X6_push
set_option maxRecDepth 20000 in
theorem ggX7_evict_X5_part : GoodIn wsX7_evict wsX5_part := goodIn_r _ [90, 24, 91, 92, 93, 94, 28, 95, 31, 30, 72, 32, 33, 34, 35, 36, 37, 38, 39, 40, 41, 96, 97, 98, 99, 82, 83, 84, 85, 86, 100, 101, 102, 103, 104, 105, 106, 107, 22, 108, 109, 110, 111, 112, 113, 114, 115, 116, 117, 118, 119, 61, 120, 121, 122, 123, 47, 14, 48, 49, 50, 51, 16, 17, 18, 124, 125, 126, 127, 128, 129, 130, 131, 132, 133, 134, 135, 136, 137, 138, 139, 25, 26, 27, 29, 140, 141, 142, 143, 144, 145, 146, 147, 148, 154, 155, 156, 157, 158, 159, 160, 161, 162, 163, 164, 165, 166, 167, 168, 169, 170] (by decide +kernel) (by decide +kernel)
set_option maxRecDepth 20000 in
theorem gX7_evict_X5_part : GoodIn wsX7_evict (wsV RX7 108 RX5 yX5_part wsX5_part) := goodIn_app (goodIn_of _ (by decide +kernel)) ggX7_evict_X5_part
theorem dX7_evict_0 : decode cX7_evict 0 = .ok (.iload_n 1, 1) := by decide +kernel
theorem dX7_evict_1 : decode cX7_evict 1 = .ok (.iload_n 2, 1) := by decide +kernel
theorem dX7_evict_2 : decode cX7_evict 2 = .ok (.invokestatic 92, 3) := by decide +kernel
theorem dX7_evict_5 : decode cX7_evict 5 = .ok (.iload_n 1, 1) := by decide +kernel
theorem dX7_evict_6 : decode cX7_evict 6 = .ok (.iload_n 2, 1) := by decide +kernel
theorem dX7_evict_7 : decode cX7_evict 7 = .ok (.invokestatic 48, 3) := by decide +kernel
theorem dX7_evict_10 : decode cX7_evict 10 = .ok (.istore_n 3, 1) := by decide +kernel
theorem dX7_evict_11 : decode cX7_evict 11 = .ok (.aload_n 0, 1) := by decide +kernel
theorem dX7_evict_12 : decode cX7_evict 12 = .ok (.getfield 12, 3) := by decide +kernel
theorem dX7_evict_15 : decode cX7_evict 15 = .ok (.iload_n 3, 1) := by decide +kernel
theorem dX7_evict_16 : decode cX7_evict 16 = .ok (.invokevirtual 103, 3) := by decide +kernel
theorem dX7_evict_19 : decode cX7_evict 19 = .ok (.ifCond .ne 13, 3) := by decide +kernel
theorem dX7_evict_22 : decode cX7_evict 22 = .ok (.new 58, 3) := by decide +kernel
theorem dX7_evict_25 : decode cX7_evict 25 = .ok (.dup, 1) := by decide +kernel
theorem dX7_evict_26 : decode cX7_evict 26 = .ok (.ldc 106, 2) := by decide +kernel
theorem dX7_evict_28 : decode cX7_evict 28 = .ok (.invokespecial 62, 3) := by decide +kernel
theorem dX7_evict_31 : decode cX7_evict 31 = .ok (.athrow, 1) := by decide +kernel
theorem dX7_evict_32 : decode cX7_evict 32 = .ok (.aload_n 0, 1) := by decide +kernel
theorem dX7_evict_33 : decode cX7_evict 33 = .ok (.getfield 22, 3) := by decide +kernel
theorem dX7_evict_36 : decode cX7_evict 36 = .ok (.aload_n 0, 1) := by decide +kernel
theorem dX7_evict_37 : decode cX7_evict 37 = .ok (.getfield 12, 3) := by decide +kernel
theorem dX7_evict_40 : decode cX7_evict 40 = .ok (.getfield 65, 3) := by decide +kernel
theorem dX7_evict_43 : decode cX7_evict 43 = .ok (.invokevirtual 69, 3) := by decide +kernel
theorem dX7_evict_46 : decode cX7_evict 46 = .ok (.aload_n 0, 1) := by decide +kernel
theorem dX7_evict_47 : decode cX7_evict 47 = .ok (.getfield 12, 3) := by decide +kernel
theorem dX7_evict_50 : decode cX7_evict 50 = .ok (.iload_n 3, 1) := by decide +kernel
theorem dX7_evict_51 : decode cX7_evict 51 = .ok (.invokevirtual 108, 3) := by decide +kernel
theorem dX7_evict_54 : decode cX7_evict 54 = .ok (.ireturn, 1) := by decide +kernel
set_option maxRecDepth 20000 in
theorem ggX7_compress_X6_push : GoodIn wsX7_compress wsX6_push := goodIn_r _ [8, 9, 10, 11, 12, 13, 14, 15, 16, 17, 7, 18, 19, 20, 21, 22, 23, 24, 25, 26, 27, 28, 29, 30, 31, 32, 33, 34, 35, 36, 37, 38, 39, 40, 41, 42, 43, 44, 45, 46, 136, 137, 138, 139, 140, 141, 142, 143, 144, 145, 146, 147] (by decide +kernel) (by decide +kernel)
set_option maxRecDepth 20000 in
theorem gX7_compress_X6_push : GoodIn wsX7_compress (wsV RX7 69 RX6 yX6_push wsX6_push) := goodIn_app (goodIn_of _ (by decide +kernel)) ggX7_compress_X6_push
set_option maxRecDepth 20000 in
theorem ggX7_compress_X5_moveAll : GoodIn wsX7_compress wsX5_moveAll := goodIn_r _ [51, 52, 53, 54, 55, 56, 57, 58, 59, 50, 60, 61, 62, 63, 64, 65, 23, 66, 27, 67, 39, 40, 36, 41, 42, 68, 69, 70, 71, 72, 73, 74, 75, 76, 77, 78, 79, 80, 81, 82, 44, 45, 46, 83, 84, 85, 86, 26, 25, 87, 88, 89, 90, 91, 92, 93, 94, 95, 96, 97, 98, 99, 100, 101, 102, 103, 104, 13, 105, 106, 107, 108, 109, 110, 111, 112, 113, 114, 115, 116, 117, 118, 119, 120, 121, 122, 38, 43, 128, 129, 130, 131, 132, 133, 134, 135, 139, 140, 141, 142, 143, 144, 145, 146, 147] (by decide +kernel) (by decide +kernel)
set_option maxRecDepth 20000 in
theorem gX7_compress_X5_moveAll : GoodIn wsX7_compress (wsV RX7 111 RX5 yX5_moveAll wsX5_moveAll) := goodIn_app (goodIn_of _ (by decide +kernel)) ggX7_compress_X5_moveAll
theorem dX7_compress_0 : decode cX7_compress 0 = .ok (.aload_n 0, 1) := by decide +kernel
theorem dX7_compress_1 : decode cX7_compress 1 = .ok (.getfield 22, 3) := by decide +kernel
theorem dX7_compress_4 : decode cX7_compress 4 = .ok (.aload_n 0, 1) := by decide +kernel
theorem dX7_compress_5 : decode cX7_compress 5 = .ok (.getfield 12, 3) := by decide +kernel
theorem dX7_compress_8 : decode cX7_compress 8 = .ok (.getfield 65, 3) := by decide +kernel
theorem dX7_compress_11 : decode cX7_compress 11 = .ok (.invokevirtual 69, 3) := by decide +kernel
theorem dX7_compress_14 : decode cX7_compress 14 = .ok (.aload_n 0, 1) := by decide +kernel
theorem dX7_compress_15 : decode cX7_compress 15 = .ok (.getfield 12, 3) := by decide +kernel
theorem dX7_compress_18 : decode cX7_compress 18 = .ok (.invokevirtual 111, 3) := by decide +kernel
theorem dX7_compress_21 : decode cX7_compress 21 = .ok (.ireturn, 1) := by decide +kernel
set_option maxRecDepth 20000 in
theorem ggX7_expand_X6_push : GoodIn wsX7_expand wsX6_push := goodIn_r _ [8, 9, 10, 11, 12, 13, 14, 15, 16, 17, 7, 18, 19, 20, 21, 22, 23, 24, 25, 26, 27, 28, 29, 30, 31, 32, 33, 34, 35, 36, 37, 38, 39, 40, 41, 42, 43, 44, 45, 46, 137, 138, 139, 140, 141, 142, 143, 144, 145, 146, 147, 148] (by decide +kernel) (by decide +kernel)
set_option maxRecDepth 20000 in
theorem gX7_expand_X6_push : GoodIn wsX7_expand (wsV RX7 69 RX6 yX6_push wsX6_push) := goodIn_app (goodIn_of _ (by decide +kernel)) ggX7_expand_X6_push
set_option maxRecDepth 20000 in
theorem ggX7_expand_X5_partAll : GoodIn wsX7_expand wsX5_partAll := goodIn_r _ [51, 52, 53, 54, 55, 56, 57, 50, 58, 59, 60, 61, 62, 63, 64, 65, 66, 67, 68, 69, 39, 40, 36, 41, 42, 70, 71, 72, 73, 74, 75, 76, 77, 78, 79, 80, 81, 23, 82, 25, 27, 83, 44, 45, 46, 84, 85, 86, 87, 88, 89, 90, 91, 92, 93, 94, 95, 96, 97, 98, 99, 100, 101, 102, 13, 103, 104, 105, 106, 107, 108, 109, 110, 111, 112, 113, 114, 115, 116, 117, 118, 119, 120, 121, 122, 123, 38, 43, 129, 130, 131, 132, 133, 134, 135, 136, 140, 141, 142, 143, 144, 145, 146, 147, 148] (by decide +kernel) (by decide +kernel)
set_option maxRecDepth 20000 in
theorem gX7_expand_X5_partAll : GoodIn wsX7_expand (wsV RX7 115 RX5 yX5_partAll wsX5_partAll) := goodIn_app (goodIn_of _ (by decide +kernel)) ggX7_expand_X5_partAll
theorem dX7_expand_0 : decode cX7_expand 0 = .ok (.aload_n 0, 1) := by decide +kernel
theorem dX7_expand_1 : decode cX7_expand 1 = .ok (.getfield 22, 3) := by decide +kernel
theorem dX7_expand_4 : decode cX7_expand 4 = .ok (.aload_n 0, 1) := by decide +kernel
theorem dX7_expand_5 : decode cX7_expand 5 = .ok (.getfield 12, 3) := by decide +kernel
theorem dX7_expand_8 : decode cX7_expand 8 = .ok (.getfield 65, 3) := by decide +kernel
theorem dX7_expand_11 : decode cX7_expand 11 = .ok (.invokevirtual 69, 3) := by decide +kernel
theorem dX7_expand_14 : decode cX7_expand 14 = .ok (.aload_n 0, 1) := by decide +kernel
theorem dX7_expand_15 : decode cX7_expand 15 = .ok (.getfield 12, 3) := by decide +kernel
theorem dX7_expand_18 : decode cX7_expand 18 = .ok (.invokevirtual 115, 3) := by decide +kernel
theorem dX7_expand_21 : decode cX7_expand 21 = .ok (.ireturn, 1) := by decide +kernel
set_option maxRecDepth 20000 in
theorem ggX7_rank_X7_requireName : GoodIn wsX7_rank wsX7_requireName := goodIn_ca (goodIn_r _ [5, 6, 7, 8, 9, 4, 10] (by decide +kernel) (by decide +kernel)) (goodIn_sub (fun _ h => List.mem_cons_of_mem _ (List.mem_append_right _ h)) (by decide +kernel))
set_option maxRecDepth 20000 in
theorem gX7_rank_X7_requireName : GoodIn wsX7_rank (va_wsS RX7 40 yX7_requireName wsX7_requireName) := goodIn_app (goodIn_of _ (by decide +kernel)) ggX7_rank_X7_requireName
set_option maxRecDepth 20000 in
theorem ggX7_rank_X2_of : GoodIn wsX7_rank wsX2_of := goodIn_r _ [14, 15, 16, 13, 17] (by decide +kernel) (by decide +kernel)
set_option maxRecDepth 20000 in
theorem gX7_rank_X2_of : GoodIn wsX7_rank (va_wsS RX7 48 yX2_of wsX2_of) := goodIn_app (goodIn_of _ (by decide +kernel)) ggX7_rank_X2_of
set_option maxRecDepth 20000 in
theorem ggX7_rank_X5_namesBefore : GoodIn wsX7_rank wsX5_namesBefore := goodIn_r _ [22, 23, 24, 25, 26, 27, 28, 21, 29, 30, 31, 32, 33, 34, 35, 36, 42, 43, 44, 45, 46, 47, 48, 49, 50, 51, 52, 53, 54, 55, 56, 57, 58] (by decide +kernel) (by decide +kernel)
set_option maxRecDepth 20000 in
theorem gX7_rank_X5_namesBefore : GoodIn wsX7_rank (wsV RX7 118 RX5 yX5_namesBefore wsX5_namesBefore) := goodIn_app (goodIn_of _ (by decide +kernel)) ggX7_rank_X5_namesBefore
theorem dX7_rank_0 : decode cX7_rank 0 = .ok (.iload_n 1, 1) := by decide +kernel
theorem dX7_rank_1 : decode cX7_rank 1 = .ok (.iload_n 2, 1) := by decide +kernel
theorem dX7_rank_2 : decode cX7_rank 2 = .ok (.invokestatic 40, 3) := by decide +kernel
theorem dX7_rank_5 : decode cX7_rank 5 = .ok (.aload_n 0, 1) := by decide +kernel
theorem dX7_rank_6 : decode cX7_rank 6 = .ok (.getfield 12, 3) := by decide +kernel
theorem dX7_rank_9 : decode cX7_rank 9 = .ok (.iload_n 1, 1) := by decide +kernel
theorem dX7_rank_10 : decode cX7_rank 10 = .ok (.iload_n 2, 1) := by decide +kernel
theorem dX7_rank_11 : decode cX7_rank 11 = .ok (.invokestatic 48, 3) := by decide +kernel
theorem dX7_rank_14 : decode cX7_rank 14 = .ok (.invokevirtual 118, 3) := by decide +kernel
theorem dX7_rank_17 : decode cX7_rank 17 = .ok (.ireturn, 1) := by decide +kernel
set_option maxRecDepth 20000 in
theorem ggX7_nth_X7_requireRank : GoodIn wsX7_nth wsX7_requireRank := goodIn_ca (goodIn_r _ [6, 7, 8, 1, 9, 10, 11, 12, 13, 14, 15, 16, 17, 18, 19, 20, 46, 47, 48, 49, 50, 51, 52, 53, 54, 55, 56, 57, 58, 59] (by decide +kernel) (by decide +kernel)) (goodIn_sub (fun _ h => List.mem_cons_of_mem _ (List.mem_append_left _ (List.mem_append_right _ h))) (by decide +kernel))
set_option maxRecDepth 20000 in
theorem gX7_nth_X7_requireRank : GoodIn wsX7_nth (wsV RX7 121 RX7 yX7_requireRank wsX7_requireRank) := goodIn_app (goodIn_of _ (by decide +kernel)) ggX7_nth_X7_requireRank
set_option maxRecDepth 20000 in
theorem ggX7_nth_X7_requireWhat : GoodIn wsX7_nth wsX7_requireWhat := goodIn_ca (goodIn_r _ [23, 24, 25] (by decide +kernel) (by decide +kernel)) (goodIn_sub (fun _ h => List.mem_cons_of_mem _ (List.mem_append_right _ h)) (by decide +kernel))
set_option maxRecDepth 20000 in
theorem gX7_nth_X7_requireWhat : GoodIn wsX7_nth (va_wsS RX7 124 yX7_requireWhat wsX7_requireWhat) := goodIn_app (goodIn_of _ (by decide +kernel)) ggX7_nth_X7_requireWhat
set_option maxRecDepth 20000 in
theorem ggX7_nth_X5_nameValue : GoodIn wsX7_nth wsX5_nameValue := goodIn_r _ [29, 30, 31, 32, 33, 34, 15, 16, 17, 18, 19, 20, 35, 36, 37, 38, 39, 40, 41, 42, 43, 44, 45, 51, 52, 53, 54, 55, 56, 57, 58, 60, 61, 62, 63, 64, 65, 66, 67, 59] (by decide +kernel) (by decide +kernel)
set_option maxRecDepth 20000 in
theorem gX7_nth_X5_nameValue : GoodIn wsX7_nth (wsV RX7 127 RX5 yX5_nameValue wsX5_nameValue) := goodIn_app (goodIn_of _ (by decide +kernel)) ggX7_nth_X5_nameValue
theorem dX7_nth_0 : decode cX7_nth 0 = .ok (.aload_n 0, 1) := by decide +kernel
theorem dX7_nth_1 : decode cX7_nth 1 = .ok (.iload_n 1, 1) := by decide +kernel
theorem dX7_nth_2 : decode cX7_nth 2 = .ok (.invokevirtual 121, 3) := by decide +kernel
theorem dX7_nth_5 : decode cX7_nth 5 = .ok (.iload_n 2, 1) := by decide +kernel
theorem dX7_nth_6 : decode cX7_nth 6 = .ok (.iconst 4, 1) := by decide +kernel
theorem dX7_nth_7 : decode cX7_nth 7 = .ok (.invokestatic 124, 3) := by decide +kernel
theorem dX7_nth_10 : decode cX7_nth 10 = .ok (.aload_n 0, 1) := by decide +kernel
theorem dX7_nth_11 : decode cX7_nth 11 = .ok (.getfield 12, 3) := by decide +kernel
theorem dX7_nth_14 : decode cX7_nth 14 = .ok (.iload_n 1, 1) := by decide +kernel
theorem dX7_nth_15 : decode cX7_nth 15 = .ok (.iload_n 2, 1) := by decide +kernel
theorem dX7_nth_16 : decode cX7_nth 16 = .ok (.invokevirtual 127, 3) := by decide +kernel
theorem dX7_nth_19 : decode cX7_nth 19 = .ok (.ireturn, 1) := by decide +kernel
set_option maxRecDepth 20000 in
theorem ggX7_weight_X7_requireName : GoodIn wsX7_weight wsX7_requireName := goodIn_ca (goodIn_r _ [5, 6, 7, 8, 9, 4, 10] (by decide +kernel) (by decide +kernel)) (goodIn_sub (fun _ h => List.mem_cons_of_mem _ (List.mem_append_right _ h)) (by decide +kernel))
set_option maxRecDepth 20000 in
theorem gX7_weight_X7_requireName : GoodIn wsX7_weight (va_wsS RX7 40 yX7_requireName wsX7_requireName) := goodIn_app (goodIn_of _ (by decide +kernel)) ggX7_weight_X7_requireName
set_option maxRecDepth 20000 in
theorem ggX7_weight_X2_of : GoodIn wsX7_weight wsX2_of := goodIn_r _ [14, 15, 16, 13, 17] (by decide +kernel) (by decide +kernel)
set_option maxRecDepth 20000 in
theorem gX7_weight_X2_of : GoodIn wsX7_weight (va_wsS RX7 48 yX2_of wsX2_of) := goodIn_app (goodIn_of _ (by decide +kernel)) ggX7_weight_X2_of
set_option maxRecDepth 20000 in
theorem ggX7_weight_X5_weightOf : GoodIn wsX7_weight wsX5_weightOf := goodIn_r _ [22, 23, 24, 25, 26, 27, 28, 29, 30, 31, 32, 33, 34, 35, 36, 37, 38, 39, 40, 41, 42, 48, 49, 50, 51, 52, 53, 54, 55, 56, 57, 58, 59, 60, 61, 62, 63, 64] (by decide +kernel) (by decide +kernel)
set_option maxRecDepth 20000 in
theorem gX7_weight_X5_weightOf : GoodIn wsX7_weight (wsV RX7 130 RX5 yX5_weightOf wsX5_weightOf) := goodIn_app (goodIn_of _ (by decide +kernel)) ggX7_weight_X5_weightOf
theorem dX7_weight_0 : decode cX7_weight 0 = .ok (.iload_n 1, 1) := by decide +kernel
theorem dX7_weight_1 : decode cX7_weight 1 = .ok (.iload_n 2, 1) := by decide +kernel
theorem dX7_weight_2 : decode cX7_weight 2 = .ok (.invokestatic 40, 3) := by decide +kernel
theorem dX7_weight_5 : decode cX7_weight 5 = .ok (.aload_n 0, 1) := by decide +kernel
theorem dX7_weight_6 : decode cX7_weight 6 = .ok (.getfield 12, 3) := by decide +kernel
theorem dX7_weight_9 : decode cX7_weight 9 = .ok (.iload_n 1, 1) := by decide +kernel
theorem dX7_weight_10 : decode cX7_weight 10 = .ok (.iload_n 2, 1) := by decide +kernel
theorem dX7_weight_11 : decode cX7_weight 11 = .ok (.invokestatic 48, 3) := by decide +kernel
theorem dX7_weight_14 : decode cX7_weight 14 = .ok (.invokevirtual 130, 3) := by decide +kernel
theorem dX7_weight_17 : decode cX7_weight 17 = .ok (.ireturn, 1) := by decide +kernel
set_option maxRecDepth 20000 in
theorem ggX7_count_X7_requirePrefix : GoodIn wsX7_count wsX7_requirePrefix := goodIn_ca (goodIn_r _ [5, 6, 7] (by decide +kernel) (by decide +kernel)) (goodIn_sub (fun _ h => List.mem_cons_of_mem _ (List.mem_append_right _ h)) (by decide +kernel))
set_option maxRecDepth 20000 in
theorem gX7_count_X7_requirePrefix : GoodIn wsX7_count (va_wsS RX7 92 yX7_requirePrefix wsX7_requirePrefix) := goodIn_app (goodIn_of _ (by decide +kernel)) ggX7_count_X7_requirePrefix
set_option maxRecDepth 20000 in
theorem ggX7_count_X2_of : GoodIn wsX7_count wsX2_of := goodIn_r _ [11, 12, 13, 10, 14] (by decide +kernel) (by decide +kernel)
set_option maxRecDepth 20000 in
theorem gX7_count_X2_of : GoodIn wsX7_count (va_wsS RX7 48 yX2_of wsX2_of) := goodIn_app (goodIn_of _ (by decide +kernel)) ggX7_count_X2_of
set_option maxRecDepth 20000 in
theorem ggX7_count_X5_namesWith : GoodIn wsX7_count wsX5_namesWith := goodIn_r _ [19, 20, 21, 22, 23, 24, 25, 26, 27, 28, 29, 30, 31, 32, 33, 34, 35, 36, 37, 38, 39, 40, 10, 41, 42, 43, 44, 12, 13, 14, 45, 51, 52, 53, 54, 55, 56, 57, 58, 59, 60, 61, 62, 63, 64, 65, 66, 67] (by decide +kernel) (by decide +kernel)
set_option maxRecDepth 20000 in
theorem gX7_count_X5_namesWith : GoodIn wsX7_count (wsV RX7 133 RX5 yX5_namesWith wsX5_namesWith) := goodIn_app (goodIn_of _ (by decide +kernel)) ggX7_count_X5_namesWith
theorem dX7_count_0 : decode cX7_count 0 = .ok (.iload_n 1, 1) := by decide +kernel
theorem dX7_count_1 : decode cX7_count 1 = .ok (.iload_n 2, 1) := by decide +kernel
theorem dX7_count_2 : decode cX7_count 2 = .ok (.invokestatic 92, 3) := by decide +kernel
theorem dX7_count_5 : decode cX7_count 5 = .ok (.aload_n 0, 1) := by decide +kernel
theorem dX7_count_6 : decode cX7_count 6 = .ok (.getfield 12, 3) := by decide +kernel
theorem dX7_count_9 : decode cX7_count 9 = .ok (.iload_n 1, 1) := by decide +kernel
theorem dX7_count_10 : decode cX7_count 10 = .ok (.iload_n 2, 1) := by decide +kernel
theorem dX7_count_11 : decode cX7_count 11 = .ok (.invokestatic 48, 3) := by decide +kernel
theorem dX7_count_14 : decode cX7_count 14 = .ok (.invokevirtual 133, 3) := by decide +kernel
theorem dX7_count_17 : decode cX7_count 17 = .ok (.ireturn, 1) := by decide +kernel
set_option maxRecDepth 20000 in
theorem ggX7_house_X7_requireHouse : GoodIn wsX7_house wsX7_requireHouse := goodIn_ca (goodIn_r _ [6, 7, 8, 1, 9, 10, 64, 65, 66, 67, 68, 69, 70, 71, 72, 73, 74, 75, 76, 77, 78, 79, 80, 81, 82, 83, 84] (by decide +kernel) (by decide +kernel)) (goodIn_sub (fun _ h => List.mem_cons_of_mem _ (List.mem_append_left _ (List.mem_append_right _ h))) (by decide +kernel))
set_option maxRecDepth 20000 in
theorem gX7_house_X7_requireHouse : GoodIn wsX7_house (wsV RX7 136 RX7 yX7_requireHouse wsX7_requireHouse) := goodIn_app (goodIn_of _ (by decide +kernel)) ggX7_house_X7_requireHouse
set_option maxRecDepth 20000 in
theorem ggX7_house_X7_requireWhat : GoodIn wsX7_house wsX7_requireWhat := goodIn_ca (goodIn_r _ [13, 14, 15] (by decide +kernel) (by decide +kernel)) (goodIn_sub (fun _ h => List.mem_cons_of_mem _ (List.mem_append_right _ h)) (by decide +kernel))
set_option maxRecDepth 20000 in
theorem gX7_house_X7_requireWhat : GoodIn wsX7_house (va_wsS RX7 124 yX7_requireWhat wsX7_requireWhat) := goodIn_app (goodIn_of _ (by decide +kernel)) ggX7_house_X7_requireWhat
set_option maxRecDepth 20000 in
theorem ggX7_house_X5_houseValue : GoodIn wsX7_house wsX5_houseValue := goodIn_r _ [20, 21, 22, 23, 24, 25, 26, 27, 28, 29, 30, 31, 32, 33, 34, 35, 36, 37, 38, 39, 40, 41, 42, 43, 44, 45, 46, 19, 47, 48, 49, 50, 51, 52, 53, 54, 55, 56, 57, 58, 59, 60, 61, 62, 63, 69, 70, 71, 72, 73, 74, 75, 76, 77, 78, 79, 80, 81, 82, 83, 84, 85] (by decide +kernel) (by decide +kernel)
set_option maxRecDepth 20000 in
theorem gX7_house_X5_houseValue : GoodIn wsX7_house (wsV RX7 139 RX5 yX5_houseValue wsX5_houseValue) := goodIn_app (goodIn_of _ (by decide +kernel)) ggX7_house_X5_houseValue
theorem dX7_house_0 : decode cX7_house 0 = .ok (.aload_n 0, 1) := by decide +kernel
theorem dX7_house_1 : decode cX7_house 1 = .ok (.iload_n 1, 1) := by decide +kernel
theorem dX7_house_2 : decode cX7_house 2 = .ok (.invokevirtual 136, 3) := by decide +kernel
theorem dX7_house_5 : decode cX7_house 5 = .ok (.iload_n 2, 1) := by decide +kernel
theorem dX7_house_6 : decode cX7_house 6 = .ok (.bipush 9, 2) := by decide +kernel
theorem dX7_house_8 : decode cX7_house 8 = .ok (.invokestatic 124, 3) := by decide +kernel
theorem dX7_house_11 : decode cX7_house 11 = .ok (.aload_n 0, 1) := by decide +kernel
theorem dX7_house_12 : decode cX7_house 12 = .ok (.getfield 12, 3) := by decide +kernel
theorem dX7_house_15 : decode cX7_house 15 = .ok (.iload_n 1, 1) := by decide +kernel
theorem dX7_house_16 : decode cX7_house 16 = .ok (.iload_n 2, 1) := by decide +kernel
theorem dX7_house_17 : decode cX7_house 17 = .ok (.invokevirtual 139, 3) := by decide +kernel
theorem dX7_house_20 : decode cX7_house 20 = .ok (.ireturn, 1) := by decide +kernel
set_option maxRecDepth 20000 in
theorem ggX7_houseOf_X7_requirePrefix : GoodIn wsX7_houseOf wsX7_requirePrefix := goodIn_ca (goodIn_r _ [6, 7, 8] (by decide +kernel) (by decide +kernel)) (goodIn_sub (fun _ h => List.mem_cons_of_mem _ (List.mem_append_right _ h)) (by decide +kernel))
set_option maxRecDepth 20000 in
theorem gX7_houseOf_X7_requirePrefix : GoodIn wsX7_houseOf (va_wsS RX7 92 yX7_requirePrefix wsX7_requirePrefix) := goodIn_app (goodIn_of _ (by decide +kernel)) ggX7_houseOf_X7_requirePrefix
set_option maxRecDepth 20000 in
theorem ggX7_houseOf_X2_of : GoodIn wsX7_houseOf wsX2_of := goodIn_r _ [12, 13, 14, 11, 15] (by decide +kernel) (by decide +kernel)
set_option maxRecDepth 20000 in
theorem gX7_houseOf_X2_of : GoodIn wsX7_houseOf (va_wsS RX7 48 yX2_of wsX2_of) := goodIn_app (goodIn_of _ (by decide +kernel)) ggX7_houseOf_X2_of
set_option maxRecDepth 20000 in
theorem ggX7_houseOf_X4_indexOf : GoodIn wsX7_houseOf wsX4_indexOf := goodIn_r _ [20, 21, 22, 23, 24, 25, 19, 26, 27, 28, 29, 30, 31, 32, 46, 47, 48, 49, 50, 51, 52, 53, 54] (by decide +kernel) (by decide +kernel)
set_option maxRecDepth 20000 in
theorem gX7_houseOf_X4_indexOf : GoodIn wsX7_houseOf (wsV RX7 142 RX4 yX4_indexOf wsX4_indexOf) := goodIn_app (goodIn_of _ (by decide +kernel)) ggX7_houseOf_X4_indexOf
theorem dX7_houseOf_0 : decode cX7_houseOf 0 = .ok (.iload_n 1, 1) := by decide +kernel
theorem dX7_houseOf_1 : decode cX7_houseOf 1 = .ok (.iload_n 2, 1) := by decide +kernel
theorem dX7_houseOf_2 : decode cX7_houseOf 2 = .ok (.invokestatic 92, 3) := by decide +kernel
theorem dX7_houseOf_5 : decode cX7_houseOf 5 = .ok (.aload_n 0, 1) := by decide +kernel
theorem dX7_houseOf_6 : decode cX7_houseOf 6 = .ok (.getfield 12, 3) := by decide +kernel
theorem dX7_houseOf_9 : decode cX7_houseOf 9 = .ok (.getfield 65, 3) := by decide +kernel
theorem dX7_houseOf_12 : decode cX7_houseOf 12 = .ok (.iload_n 1, 1) := by decide +kernel
theorem dX7_houseOf_13 : decode cX7_houseOf 13 = .ok (.iload_n 2, 1) := by decide +kernel
theorem dX7_houseOf_14 : decode cX7_houseOf 14 = .ok (.invokestatic 48, 3) := by decide +kernel
theorem dX7_houseOf_17 : decode cX7_houseOf 17 = .ok (.invokevirtual 142, 3) := by decide +kernel
theorem dX7_houseOf_20 : decode cX7_houseOf 20 = .ok (.ireturn, 1) := by decide +kernel
set_option maxRecDepth 20000 in
theorem ggX7_between_X7_requireRank : GoodIn wsX7_between wsX7_requireRank := goodIn_ca (goodIn_r _ [6, 7, 8, 1, 9, 10, 11, 12, 13, 14, 15, 16, 17, 18, 19, 20, 27, 28, 29, 30, 31, 32, 33, 34, 35, 36, 37, 38, 39, 40] (by decide +kernel) (by decide +kernel)) (goodIn_sub (fun _ h => List.mem_cons_of_mem _ (List.mem_append_right _ h)) (by decide +kernel))
set_option maxRecDepth 20000 in
theorem gX7_between_X7_requireRank : GoodIn wsX7_between (wsV RX7 121 RX7 yX7_requireRank wsX7_requireRank) := goodIn_app (goodIn_of _ (by decide +kernel)) ggX7_between_X7_requireRank
set_option maxRecDepth 20000 in
theorem ggX7_between_X5_roadsBetween : GoodIn wsX7_between wsX5_roadsBetween := goodIn_r _ [24, 25, 26, 15, 16, 17, 18, 19, 20, 32, 33, 34, 35, 36, 37, 38, 39, 40] (by decide +kernel) (by decide +kernel)
set_option maxRecDepth 20000 in
theorem gX7_between_X5_roadsBetween : GoodIn wsX7_between (wsV RX7 147 RX5 yX5_roadsBetween wsX5_roadsBetween) := goodIn_app (goodIn_of _ (by decide +kernel)) ggX7_between_X5_roadsBetween
theorem dX7_between_0 : decode cX7_between 0 = .ok (.aload_n 0, 1) := by decide +kernel
theorem dX7_between_1 : decode cX7_between 1 = .ok (.iload_n 1, 1) := by decide +kernel
theorem dX7_between_2 : decode cX7_between 2 = .ok (.invokevirtual 121, 3) := by decide +kernel
theorem dX7_between_5 : decode cX7_between 5 = .ok (.aload_n 0, 1) := by decide +kernel
theorem dX7_between_6 : decode cX7_between 6 = .ok (.iload_n 2, 1) := by decide +kernel
theorem dX7_between_7 : decode cX7_between 7 = .ok (.invokevirtual 121, 3) := by decide +kernel
theorem dX7_between_10 : decode cX7_between 10 = .ok (.aload_n 0, 1) := by decide +kernel
theorem dX7_between_11 : decode cX7_between 11 = .ok (.getfield 12, 3) := by decide +kernel
theorem dX7_between_14 : decode cX7_between 14 = .ok (.iload_n 1, 1) := by decide +kernel
theorem dX7_between_15 : decode cX7_between 15 = .ok (.iload_n 2, 1) := by decide +kernel
theorem dX7_between_16 : decode cX7_between 16 = .ok (.invokevirtual 147, 3) := by decide +kernel
theorem dX7_between_19 : decode cX7_between 19 = .ok (.ireturn, 1) := by decide +kernel
set_option maxRecDepth 20000 in
theorem ggX7_tour_X5_tourRoads : GoodIn wsX7_tour wsX5_tourRoads := goodIn_r _ [6, 7, 8, 14, 15, 16, 17, 18, 19, 20, 21, 22, 23, 24, 25, 26, 27, 28, 29] (by decide +kernel) (by decide +kernel)
set_option maxRecDepth 20000 in
theorem gX7_tour_X5_tourRoads : GoodIn wsX7_tour (wsV RX7 150 RX5 yX5_tourRoads wsX5_tourRoads) := goodIn_app (goodIn_of _ (by decide +kernel)) ggX7_tour_X5_tourRoads
theorem dX7_tour_0 : decode cX7_tour 0 = .ok (.aload_n 0, 1) := by decide +kernel
theorem dX7_tour_1 : decode cX7_tour 1 = .ok (.getfield 12, 3) := by decide +kernel
theorem dX7_tour_4 : decode cX7_tour 4 = .ok (.invokevirtual 150, 3) := by decide +kernel
theorem dX7_tour_7 : decode cX7_tour 7 = .ok (.ireturn, 1) := by decide +kernel
set_option maxRecDepth 20000 in
theorem ggX7_whole_X7_requireWhat : GoodIn wsX7_whole wsX7_requireWhat := goodIn_ca (goodIn_r _ [6, 7, 8] (by decide +kernel) (by decide +kernel)) (goodIn_sub (fun _ h => List.mem_cons_of_mem _ (List.mem_append_right _ h)) (by decide +kernel))
set_option maxRecDepth 20000 in
theorem gX7_whole_X7_requireWhat : GoodIn wsX7_whole (va_wsS RX7 124 yX7_requireWhat wsX7_requireWhat) := goodIn_app (goodIn_of _ (by decide +kernel)) ggX7_whole_X7_requireWhat
set_option maxRecDepth 20000 in
theorem ggX7_whole_X1_length : GoodIn wsX7_whole wsX1_length := goodIn_r _ [13, 14, 80, 81] (by decide +kernel) (by decide +kernel)
set_option maxRecDepth 20000 in
theorem gX7_whole_X1_length : GoodIn wsX7_whole (wsV RX7 153 RX1 yX1_length wsX1_length) := goodIn_app (goodIn_of _ (by decide +kernel)) ggX7_whole_X1_length
set_option maxRecDepth 20000 in
theorem ggX7_whole_X5_townValue : GoodIn wsX7_whole wsX5_townValue := goodIn_r _ [19, 20, 21, 22, 23, 24, 25, 26, 27, 28, 29, 18, 30, 31, 32, 33, 34, 35, 36, 37, 38, 39, 40, 41, 42, 43, 44, 45, 46, 47, 48, 49, 50, 51, 52, 53, 54, 55, 56, 57, 58, 59, 60, 61, 62, 63, 64, 65, 66, 67, 68, 69, 70, 71, 72, 73, 74, 82, 83, 84, 85, 86, 87, 88, 89, 90, 91, 92, 93, 94, 95, 96, 97, 98] (by decide +kernel) (by decide +kernel)
set_option maxRecDepth 20000 in
theorem gX7_whole_X5_townValue : GoodIn wsX7_whole (wsV RX7 156 RX5 yX5_townValue wsX5_townValue) := goodIn_app (goodIn_of _ (by decide +kernel)) ggX7_whole_X5_townValue
theorem dX7_whole_0 : decode cX7_whole 0 = .ok (.iload_n 1, 1) := by decide +kernel
theorem dX7_whole_1 : decode cX7_whole 1 = .ok (.bipush 12, 2) := by decide +kernel
theorem dX7_whole_3 : decode cX7_whole 3 = .ok (.invokestatic 124, 3) := by decide +kernel
theorem dX7_whole_6 : decode cX7_whole 6 = .ok (.iload_n 1, 1) := by decide +kernel
theorem dX7_whole_7 : decode cX7_whole 7 = .ok (.bipush 11, 2) := by decide +kernel
theorem dX7_whole_9 : decode cX7_whole 9 = .ok (.if_icmp .ne 13, 3) := by decide +kernel
theorem dX7_whole_12 : decode cX7_whole 12 = .ok (.aload_n 0, 1) := by decide +kernel
theorem dX7_whole_13 : decode cX7_whole 13 = .ok (.getfield 29, 3) := by decide +kernel
theorem dX7_whole_16 : decode cX7_whole 16 = .ok (.invokevirtual 153, 3) := by decide +kernel
theorem dX7_whole_19 : decode cX7_whole 19 = .ok (.goto 11, 3) := by decide +kernel
theorem dX7_whole_22 : decode cX7_whole 22 = .ok (.aload_n 0, 1) := by decide +kernel
theorem dX7_whole_23 : decode cX7_whole 23 = .ok (.getfield 12, 3) := by decide +kernel
theorem dX7_whole_26 : decode cX7_whole 26 = .ok (.iload_n 1, 1) := by decide +kernel
theorem dX7_whole_27 : decode cX7_whole 27 = .ok (.invokevirtual 156, 3) := by decide +kernel
theorem dX7_whole_30 : decode cX7_whole 30 = .ok (.ireturn, 1) := by decide +kernel
set_option maxRecDepth 20000 in
theorem ggX7_reason_X7_requirePrefix : GoodIn wsX7_reason wsX7_requirePrefix := goodIn_ca (goodIn_r _ [6, 7, 8] (by decide +kernel) (by decide +kernel)) (goodIn_sub (fun _ h => List.mem_cons_of_mem _ (List.mem_append_right _ h)) (by decide +kernel))
set_option maxRecDepth 20000 in
theorem gX7_reason_X7_requirePrefix : GoodIn wsX7_reason (va_wsS RX7 92 yX7_requirePrefix wsX7_requirePrefix) := goodIn_app (goodIn_of _ (by decide +kernel)) ggX7_reason_X7_requirePrefix
set_option maxRecDepth 20000 in
theorem ggX7_reason_X2_of : GoodIn wsX7_reason wsX2_of := goodIn_r _ [12, 13, 14, 11, 15] (by decide +kernel) (by decide +kernel)
set_option maxRecDepth 20000 in
theorem gX7_reason_X2_of : GoodIn wsX7_reason (va_wsS RX7 48 yX2_of wsX2_of) := goodIn_app (goodIn_of _ (by decide +kernel)) ggX7_reason_X2_of
set_option maxRecDepth 20000 in
theorem ggX7_reason_X4_indexOf : GoodIn wsX7_reason wsX4_indexOf := goodIn_r _ [20, 21, 22, 23, 24, 25, 19, 26, 27, 28, 29, 30, 31, 32, 73, 74, 75, 76, 77, 78, 79, 80, 81] (by decide +kernel) (by decide +kernel)
set_option maxRecDepth 20000 in
theorem gX7_reason_X4_indexOf : GoodIn wsX7_reason (wsV RX7 142 RX4 yX4_indexOf wsX4_indexOf) := goodIn_app (goodIn_of _ (by decide +kernel)) ggX7_reason_X4_indexOf
set_option maxRecDepth 20000 in
theorem ggX7_reason_X5_reasonToStay : GoodIn wsX7_reason wsX5_reasonToStay := goodIn_r _ [37, 38, 39, 40, 41, 42, 43, 19, 44, 45, 27, 28, 29, 30, 31, 32, 46, 47, 48, 49, 36, 50, 51, 52, 53, 54, 55, 56, 57, 58, 11, 59, 65, 66, 67, 68, 69, 70, 71, 72, 73, 74, 75, 76, 77, 78, 79, 80, 81] (by decide +kernel) (by decide +kernel)
set_option maxRecDepth 20000 in
theorem gX7_reason_X5_reasonToStay : GoodIn wsX7_reason (wsV RX7 159 RX5 yX5_reasonToStay wsX5_reasonToStay) := goodIn_app (goodIn_of _ (by decide +kernel)) ggX7_reason_X5_reasonToStay
theorem dX7_reason_0 : decode cX7_reason 0 = .ok (.iload_n 1, 1) := by decide +kernel
theorem dX7_reason_1 : decode cX7_reason 1 = .ok (.iload_n 2, 1) := by decide +kernel
theorem dX7_reason_2 : decode cX7_reason 2 = .ok (.invokestatic 92, 3) := by decide +kernel
theorem dX7_reason_5 : decode cX7_reason 5 = .ok (.aload_n 0, 1) := by decide +kernel
theorem dX7_reason_6 : decode cX7_reason 6 = .ok (.getfield 12, 3) := by decide +kernel
theorem dX7_reason_9 : decode cX7_reason 9 = .ok (.getfield 65, 3) := by decide +kernel
theorem dX7_reason_12 : decode cX7_reason 12 = .ok (.iload_n 1, 1) := by decide +kernel
theorem dX7_reason_13 : decode cX7_reason 13 = .ok (.iload_n 2, 1) := by decide +kernel
theorem dX7_reason_14 : decode cX7_reason 14 = .ok (.invokestatic 48, 3) := by decide +kernel
theorem dX7_reason_17 : decode cX7_reason 17 = .ok (.invokevirtual 142, 3) := by decide +kernel
theorem dX7_reason_20 : decode cX7_reason 20 = .ok (.istore_n 3, 1) := by decide +kernel
theorem dX7_reason_21 : decode cX7_reason 21 = .ok (.iload_n 3, 1) := by decide +kernel
theorem dX7_reason_22 : decode cX7_reason 22 = .ok (.iconst (-1), 1) := by decide +kernel
theorem dX7_reason_23 : decode cX7_reason 23 = .ok (.if_icmp .ne 7, 3) := by decide +kernel
theorem dX7_reason_26 : decode cX7_reason 26 = .ok (.iconst (-1), 1) := by decide +kernel
theorem dX7_reason_27 : decode cX7_reason 27 = .ok (.goto 11, 3) := by decide +kernel
theorem dX7_reason_30 : decode cX7_reason 30 = .ok (.aload_n 0, 1) := by decide +kernel
theorem dX7_reason_31 : decode cX7_reason 31 = .ok (.getfield 12, 3) := by decide +kernel
theorem dX7_reason_34 : decode cX7_reason 34 = .ok (.iload_n 3, 1) := by decide +kernel
theorem dX7_reason_35 : decode cX7_reason 35 = .ok (.invokevirtual 159, 3) := by decide +kernel
theorem dX7_reason_38 : decode cX7_reason 38 = .ok (.ireturn, 1) := by decide +kernel
set_option maxRecDepth 20000 in
theorem ggX7_savedBy_X7_requireHouse : GoodIn wsX7_savedBy wsX7_requireHouse := goodIn_ca (goodIn_r _ [6, 7, 8, 1, 9, 10, 51, 52, 53, 54, 55, 56, 57, 58, 59, 60, 61, 62, 63, 64, 65, 66, 67, 68, 69, 70, 71] (by decide +kernel) (by decide +kernel)) (goodIn_sub (fun _ h => List.mem_cons_of_mem _ (List.mem_append_right _ h)) (by decide +kernel))
set_option maxRecDepth 20000 in
theorem gX7_savedBy_X7_requireHouse : GoodIn wsX7_savedBy (wsV RX7 136 RX7 yX7_requireHouse wsX7_requireHouse) := goodIn_app (goodIn_of _ (by decide +kernel)) ggX7_savedBy_X7_requireHouse
set_option maxRecDepth 20000 in
theorem ggX7_savedBy_X5_saving : GoodIn wsX7_savedBy wsX5_saving := goodIn_r _ [15, 16, 17, 18, 19, 14, 20, 21, 22, 23, 24, 25, 26, 27, 28, 29, 30, 31, 32, 33, 34, 35, 36, 37, 38, 39, 40, 41, 42, 43, 44, 45, 46, 47, 48, 49, 50, 56, 57, 58, 59, 60, 61, 62, 63, 64, 65, 66, 67, 68, 69, 70, 71, 72] (by decide +kernel) (by decide +kernel)
set_option maxRecDepth 20000 in
theorem gX7_savedBy_X5_saving : GoodIn wsX7_savedBy (wsV RX7 162 RX5 yX5_saving wsX5_saving) := goodIn_app (goodIn_of _ (by decide +kernel)) ggX7_savedBy_X5_saving
theorem dX7_savedBy_0 : decode cX7_savedBy 0 = .ok (.aload_n 0, 1) := by decide +kernel
theorem dX7_savedBy_1 : decode cX7_savedBy 1 = .ok (.iload_n 1, 1) := by decide +kernel
theorem dX7_savedBy_2 : decode cX7_savedBy 2 = .ok (.invokevirtual 136, 3) := by decide +kernel
theorem dX7_savedBy_5 : decode cX7_savedBy 5 = .ok (.aload_n 0, 1) := by decide +kernel
theorem dX7_savedBy_6 : decode cX7_savedBy 6 = .ok (.getfield 12, 3) := by decide +kernel
theorem dX7_savedBy_9 : decode cX7_savedBy 9 = .ok (.iload_n 1, 1) := by decide +kernel
theorem dX7_savedBy_10 : decode cX7_savedBy 10 = .ok (.invokevirtual 162, 3) := by decide +kernel
theorem dX7_savedBy_13 : decode cX7_savedBy 13 = .ok (.ireturn, 1) := by decide +kernel
set_option maxRecDepth 20000 in
theorem ggX7_bestMove_X5_bestToMove : GoodIn wsX7_bestMove wsX5_bestToMove := goodIn_r _ [6, 7, 8, 9, 10, 11, 5, 12, 13, 14, 15, 16, 17, 18, 19, 20, 21, 22, 23, 24, 25, 26, 27, 28, 29, 30, 31, 32, 33, 34, 35, 36, 37, 38, 39, 40, 41, 42, 43, 44, 45, 46, 52, 53, 54, 55, 56, 57, 58, 59, 60, 61, 62, 63, 64, 65, 66, 67, 68] (by decide +kernel) (by decide +kernel)
set_option maxRecDepth 20000 in
theorem gX7_bestMove_X5_bestToMove : GoodIn wsX7_bestMove (wsV RX7 165 RX5 yX5_bestToMove wsX5_bestToMove) := goodIn_app (goodIn_of _ (by decide +kernel)) ggX7_bestMove_X5_bestToMove
theorem dX7_bestMove_0 : decode cX7_bestMove 0 = .ok (.aload_n 0, 1) := by decide +kernel
theorem dX7_bestMove_1 : decode cX7_bestMove 1 = .ok (.getfield 12, 3) := by decide +kernel
theorem dX7_bestMove_4 : decode cX7_bestMove 4 = .ok (.invokevirtual 165, 3) := by decide +kernel
theorem dX7_bestMove_7 : decode cX7_bestMove 7 = .ok (.ireturn, 1) := by decide +kernel
set_option maxRecDepth 20000 in
theorem ggX7_housesFor_X7_requireName : GoodIn wsX7_housesFor wsX7_requireName := goodIn_ca (goodIn_r _ [5, 6, 7, 8, 9, 4, 10] (by decide +kernel) (by decide +kernel)) (goodIn_sub (fun _ h => List.mem_cons_of_mem _ (List.mem_append_right _ h)) (by decide +kernel))
set_option maxRecDepth 20000 in
theorem gX7_housesFor_X7_requireName : GoodIn wsX7_housesFor (va_wsS RX7 40 yX7_requireName wsX7_requireName) := goodIn_app (goodIn_of _ (by decide +kernel)) ggX7_housesFor_X7_requireName
set_option maxRecDepth 20000 in
theorem ggX7_housesFor_X2_of : GoodIn wsX7_housesFor wsX2_of := goodIn_r _ [14, 15, 16, 13, 17] (by decide +kernel) (by decide +kernel)
set_option maxRecDepth 20000 in
theorem gX7_housesFor_X2_of : GoodIn wsX7_housesFor (va_wsS RX7 48 yX2_of wsX2_of) := goodIn_app (goodIn_of _ (by decide +kernel)) ggX7_housesFor_X2_of
set_option maxRecDepth 20000 in
theorem ggX7_housesFor_X5_newHousesFor : GoodIn wsX7_housesFor wsX5_newHousesFor := goodIn_r _ [22, 23, 24, 25, 26, 21, 27, 28, 29, 30, 31, 32, 33, 34, 35, 36, 37, 38, 39, 40, 41, 42, 43, 44, 45, 46, 47, 48, 49, 50, 51, 52, 13, 53, 54, 55, 56, 15, 16, 17, 57, 58, 59, 60, 61, 62, 63, 64, 70, 71, 72, 73, 74, 75, 76, 77, 78, 79, 80, 81, 82, 83, 84, 85, 86] (by decide +kernel) (by decide +kernel)
set_option maxRecDepth 20000 in
theorem gX7_housesFor_X5_newHousesFor : GoodIn wsX7_housesFor (wsV RX7 174 RX5 yX5_newHousesFor wsX5_newHousesFor) := goodIn_app (goodIn_of _ (by decide +kernel)) ggX7_housesFor_X5_newHousesFor
theorem dX7_housesFor_0 : decode cX7_housesFor 0 = .ok (.iload_n 1, 1) := by decide +kernel
theorem dX7_housesFor_1 : decode cX7_housesFor 1 = .ok (.iload_n 2, 1) := by decide +kernel
theorem dX7_housesFor_2 : decode cX7_housesFor 2 = .ok (.invokestatic 40, 3) := by decide +kernel
theorem dX7_housesFor_5 : decode cX7_housesFor 5 = .ok (.aload_n 0, 1) := by decide +kernel
theorem dX7_housesFor_6 : decode cX7_housesFor 6 = .ok (.getfield 12, 3) := by decide +kernel
theorem dX7_housesFor_9 : decode cX7_housesFor 9 = .ok (.iload_n 1, 1) := by decide +kernel
theorem dX7_housesFor_10 : decode cX7_housesFor 10 = .ok (.iload_n 2, 1) := by decide +kernel
theorem dX7_housesFor_11 : decode cX7_housesFor 11 = .ok (.invokestatic 48, 3) := by decide +kernel
theorem dX7_housesFor_14 : decode cX7_housesFor 14 = .ok (.invokevirtual 174, 3) := by decide +kernel
theorem dX7_housesFor_17 : decode cX7_housesFor 17 = .ok (.ireturn, 1) := by decide +kernel
set_option maxRecDepth 20000 in
theorem ggX7_requireName_X7_requirePrefix : GoodIn wsX7_requireName wsX7_requirePrefix := goodIn_ca (goodIn_r _ [6, 1, 2] (by decide +kernel) (by decide +kernel)) (goodIn_sub (fun _ h => List.mem_cons_of_mem _ (List.mem_append_right _ h)) (by decide +kernel))
set_option maxRecDepth 20000 in
theorem gX7_requireName_X7_requirePrefix : GoodIn wsX7_requireName (va_wsS RX7 92 yX7_requirePrefix wsX7_requirePrefix) := goodIn_app (goodIn_of _ (by decide +kernel)) ggX7_requireName_X7_requirePrefix
theorem dX7_requireName_0 : decode cX7_requireName 0 = .ok (.iload_n 1, 1) := by decide +kernel
theorem dX7_requireName_1 : decode cX7_requireName 1 = .ok (.ifCond .ne 13, 3) := by decide +kernel
theorem dX7_requireName_4 : decode cX7_requireName 4 = .ok (.new 177, 3) := by decide +kernel
theorem dX7_requireName_7 : decode cX7_requireName 7 = .ok (.dup, 1) := by decide +kernel
theorem dX7_requireName_8 : decode cX7_requireName 8 = .ok (.ldc 241, 2) := by decide +kernel
theorem dX7_requireName_10 : decode cX7_requireName 10 = .ok (.invokespecial 181, 3) := by decide +kernel
theorem dX7_requireName_13 : decode cX7_requireName 13 = .ok (.athrow, 1) := by decide +kernel
theorem dX7_requireName_14 : decode cX7_requireName 14 = .ok (.iload_n 0, 1) := by decide +kernel
theorem dX7_requireName_15 : decode cX7_requireName 15 = .ok (.iload_n 1, 1) := by decide +kernel
theorem dX7_requireName_16 : decode cX7_requireName 16 = .ok (.invokestatic 92, 3) := by decide +kernel
theorem dX7_requireName_19 : decode cX7_requireName 19 = .ok (.return_, 1) := by decide +kernel
theorem dX7_requirePrefix_0 : decode cX7_requirePrefix 0 = .ok (.iload_n 1, 1) := by decide +kernel
theorem dX7_requirePrefix_1 : decode cX7_requirePrefix 1 = .ok (.ifCond .lt 9, 3) := by decide +kernel
theorem dX7_requirePrefix_4 : decode cX7_requirePrefix 4 = .ok (.iload_n 1, 1) := by decide +kernel
theorem dX7_requirePrefix_5 : decode cX7_requirePrefix 5 = .ok (.bipush 8, 2) := by decide +kernel
theorem dX7_requirePrefix_7 : decode cX7_requirePrefix 7 = .ok (.if_icmp .le 13, 3) := by decide +kernel
theorem dX7_requirePrefix_10 : decode cX7_requirePrefix 10 = .ok (.new 177, 3) := by decide +kernel
theorem dX7_requirePrefix_13 : decode cX7_requirePrefix 13 = .ok (.dup, 1) := by decide +kernel
theorem dX7_requirePrefix_14 : decode cX7_requirePrefix 14 = .ok (.ldc 243, 2) := by decide +kernel
theorem dX7_requirePrefix_16 : decode cX7_requirePrefix 16 = .ok (.invokespecial 181, 3) := by decide +kernel
theorem dX7_requirePrefix_19 : decode cX7_requirePrefix 19 = .ok (.athrow, 1) := by decide +kernel
theorem dX7_requirePrefix_20 : decode cX7_requirePrefix 20 = .ok (.iload_n 0, 1) := by decide +kernel
theorem dX7_requirePrefix_21 : decode cX7_requirePrefix 21 = .ok (.ifCond .lt 12, 3) := by decide +kernel
theorem dX7_requirePrefix_24 : decode cX7_requirePrefix 24 = .ok (.iload_n 0, 1) := by decide +kernel
theorem dX7_requirePrefix_25 : decode cX7_requirePrefix 25 = .ok (.iconst 1, 1) := by decide +kernel
theorem dX7_requirePrefix_26 : decode cX7_requirePrefix 26 = .ok (.iconst 3, 1) := by decide +kernel
theorem dX7_requirePrefix_27 : decode cX7_requirePrefix 27 = .ok (.iload_n 1, 1) := by decide +kernel
theorem dX7_requirePrefix_28 : decode cX7_requirePrefix 28 = .ok (.imul, 1) := by decide +kernel
theorem dX7_requirePrefix_29 : decode cX7_requirePrefix 29 = .ok (.ishl, 1) := by decide +kernel
theorem dX7_requirePrefix_30 : decode cX7_requirePrefix 30 = .ok (.if_icmp .lt 13, 3) := by decide +kernel
theorem dX7_requirePrefix_33 : decode cX7_requirePrefix 33 = .ok (.new 177, 3) := by decide +kernel
theorem dX7_requirePrefix_36 : decode cX7_requirePrefix 36 = .ok (.dup, 1) := by decide +kernel
theorem dX7_requirePrefix_37 : decode cX7_requirePrefix 37 = .ok (.ldc 245, 2) := by decide +kernel
theorem dX7_requirePrefix_39 : decode cX7_requirePrefix 39 = .ok (.invokespecial 181, 3) := by decide +kernel
theorem dX7_requirePrefix_42 : decode cX7_requirePrefix 42 = .ok (.athrow, 1) := by decide +kernel
theorem dX7_requirePrefix_43 : decode cX7_requirePrefix 43 = .ok (.return_, 1) := by decide +kernel
theorem dX7_requireWeight_0 : decode cX7_requireWeight 0 = .ok (.iload_n 0, 1) := by decide +kernel
theorem dX7_requireWeight_1 : decode cX7_requireWeight 1 = .ok (.ifCond .lt 9, 3) := by decide +kernel
theorem dX7_requireWeight_4 : decode cX7_requireWeight 4 = .ok (.iload_n 0, 1) := by decide +kernel
theorem dX7_requireWeight_5 : decode cX7_requireWeight 5 = .ok (.bipush 99, 2) := by decide +kernel
theorem dX7_requireWeight_7 : decode cX7_requireWeight 7 = .ok (.if_icmp .le 13, 3) := by decide +kernel
theorem dX7_requireWeight_10 : decode cX7_requireWeight 10 = .ok (.new 177, 3) := by decide +kernel
theorem dX7_requireWeight_13 : decode cX7_requireWeight 13 = .ok (.dup, 1) := by decide +kernel
theorem dX7_requireWeight_14 : decode cX7_requireWeight 14 = .ok (.ldc 247, 2) := by decide +kernel
theorem dX7_requireWeight_16 : decode cX7_requireWeight 16 = .ok (.invokespecial 181, 3) := by decide +kernel
theorem dX7_requireWeight_19 : decode cX7_requireWeight 19 = .ok (.athrow, 1) := by decide +kernel
theorem dX7_requireWeight_20 : decode cX7_requireWeight 20 = .ok (.return_, 1) := by decide +kernel
set_option maxRecDepth 20000 in
theorem ggX7_requireLimit_X7_isLimit : GoodIn wsX7_requireLimit wsX7_isLimit := goodIn_r _ [6] (by decide +kernel) (by decide +kernel)
set_option maxRecDepth 20000 in
theorem gX7_requireLimit_X7_isLimit : GoodIn wsX7_requireLimit (va_wsS RX7 249 yX7_isLimit wsX7_isLimit) := goodIn_app (goodIn_of _ (by decide +kernel)) ggX7_requireLimit_X7_isLimit
theorem dX7_requireLimit_0 : decode cX7_requireLimit 0 = .ok (.iload_n 0, 1) := by decide +kernel
theorem dX7_requireLimit_1 : decode cX7_requireLimit 1 = .ok (.invokestatic 249, 3) := by decide +kernel
theorem dX7_requireLimit_4 : decode cX7_requireLimit 4 = .ok (.ifCond .ne 13, 3) := by decide +kernel
theorem dX7_requireLimit_7 : decode cX7_requireLimit 7 = .ok (.new 177, 3) := by decide +kernel
theorem dX7_requireLimit_10 : decode cX7_requireLimit 10 = .ok (.dup, 1) := by decide +kernel
theorem dX7_requireLimit_11 : decode cX7_requireLimit 11 = .ok (.ldc 252, 2) := by decide +kernel
theorem dX7_requireLimit_13 : decode cX7_requireLimit 13 = .ok (.invokespecial 181, 3) := by decide +kernel
theorem dX7_requireLimit_16 : decode cX7_requireLimit 16 = .ok (.athrow, 1) := by decide +kernel
theorem dX7_requireLimit_17 : decode cX7_requireLimit 17 = .ok (.return_, 1) := by decide +kernel
theorem dX7_isLimit_0 : decode cX7_isLimit 0 = .ok (.iload_n 0, 1) := by decide +kernel
theorem dX7_isLimit_1 : decode cX7_isLimit 1 = .ok (.iconst 1, 1) := by decide +kernel
theorem dX7_isLimit_2 : decode cX7_isLimit 2 = .ok (.if_icmp .lt 13, 3) := by decide +kernel
theorem dX7_isLimit_5 : decode cX7_isLimit 5 = .ok (.iload_n 0, 1) := by decide +kernel
theorem dX7_isLimit_6 : decode cX7_isLimit 6 = .ok (.bipush 8, 2) := by decide +kernel
theorem dX7_isLimit_8 : decode cX7_isLimit 8 = .ok (.if_icmp .gt 7, 3) := by decide +kernel
theorem dX7_isLimit_11 : decode cX7_isLimit 11 = .ok (.iconst 1, 1) := by decide +kernel
theorem dX7_isLimit_12 : decode cX7_isLimit 12 = .ok (.goto 4, 3) := by decide +kernel
theorem dX7_isLimit_15 : decode cX7_isLimit 15 = .ok (.iconst 0, 1) := by decide +kernel
theorem dX7_isLimit_16 : decode cX7_isLimit 16 = .ok (.ireturn, 1) := by decide +kernel
theorem dX7_requireWhat_0 : decode cX7_requireWhat 0 = .ok (.iload_n 0, 1) := by decide +kernel
theorem dX7_requireWhat_1 : decode cX7_requireWhat 1 = .ok (.ifCond .lt 8, 3) := by decide +kernel
theorem dX7_requireWhat_4 : decode cX7_requireWhat 4 = .ok (.iload_n 0, 1) := by decide +kernel
theorem dX7_requireWhat_5 : decode cX7_requireWhat 5 = .ok (.iload_n 1, 1) := by decide +kernel
theorem dX7_requireWhat_6 : decode cX7_requireWhat 6 = .ok (.if_icmp .lt 13, 3) := by decide +kernel
theorem dX7_requireWhat_9 : decode cX7_requireWhat 9 = .ok (.new 177, 3) := by decide +kernel
theorem dX7_requireWhat_12 : decode cX7_requireWhat 12 = .ok (.dup, 1) := by decide +kernel
theorem dX7_requireWhat_13 : decode cX7_requireWhat 13 = .ok (.ldc 254, 2) := by decide +kernel
theorem dX7_requireWhat_15 : decode cX7_requireWhat 15 = .ok (.invokespecial 181, 3) := by decide +kernel
theorem dX7_requireWhat_18 : decode cX7_requireWhat 18 = .ok (.athrow, 1) := by decide +kernel
theorem dX7_requireWhat_19 : decode cX7_requireWhat 19 = .ok (.return_, 1) := by decide +kernel
set_option maxRecDepth 20000 in
theorem ggX7_requireInTown_X5_weightOf : GoodIn wsX7_requireInTown wsX5_weightOf := goodIn_r _ [8, 9, 10, 11, 12, 13, 14, 15, 16, 17, 18, 19, 20, 21, 22, 23, 24, 25, 26, 27, 28, 34, 35, 36, 37, 38, 39, 40, 41, 42, 43, 44, 45, 46, 47, 48, 49, 50] (by decide +kernel) (by decide +kernel)
set_option maxRecDepth 20000 in
theorem gX7_requireInTown_X5_weightOf : GoodIn wsX7_requireInTown (wsV RX7 130 RX5 yX5_weightOf wsX5_weightOf) := goodIn_app (goodIn_of _ (by decide +kernel)) ggX7_requireInTown_X5_weightOf
theorem dX7_requireInTown_0 : decode cX7_requireInTown 0 = .ok (.aload_n 0, 1) := by decide +kernel
theorem dX7_requireInTown_1 : decode cX7_requireInTown 1 = .ok (.getfield 12, 3) := by decide +kernel
theorem dX7_requireInTown_4 : decode cX7_requireInTown 4 = .ok (.iload_n 1, 1) := by decide +kernel
theorem dX7_requireInTown_5 : decode cX7_requireInTown 5 = .ok (.invokevirtual 130, 3) := by decide +kernel
theorem dX7_requireInTown_8 : decode cX7_requireInTown 8 = .ok (.iconst (-1), 1) := by decide +kernel
theorem dX7_requireInTown_9 : decode cX7_requireInTown 9 = .ok (.if_icmp .ne 14, 3) := by decide +kernel
theorem dX7_requireInTown_12 : decode cX7_requireInTown 12 = .ok (.new 58, 3) := by decide +kernel
theorem dX7_requireInTown_15 : decode cX7_requireInTown 15 = .ok (.dup, 1) := by decide +kernel
theorem dX7_requireInTown_16 : decode cX7_requireInTown 16 = .ok (.ldc_w 256, 3) := by decide +kernel
theorem dX7_requireInTown_19 : decode cX7_requireInTown 19 = .ok (.invokespecial 62, 3) := by decide +kernel
theorem dX7_requireInTown_22 : decode cX7_requireInTown 22 = .ok (.athrow, 1) := by decide +kernel
theorem dX7_requireInTown_23 : decode cX7_requireInTown 23 = .ok (.return_, 1) := by decide +kernel
set_option maxRecDepth 20000 in
theorem ggX7_requireRank_X5_names : GoodIn wsX7_requireRank wsX5_names := goodIn_r _ [8, 9, 10, 11, 12, 13, 14, 15, 21, 22, 23, 24, 25, 26, 27, 28, 29] (by decide +kernel) (by decide +kernel)
set_option maxRecDepth 20000 in
theorem gX7_requireRank_X5_names : GoodIn wsX7_requireRank (wsV RX7 232 RX5 yX5_names wsX5_names) := goodIn_app (goodIn_of _ (by decide +kernel)) ggX7_requireRank_X5_names
theorem dX7_requireRank_0 : decode cX7_requireRank 0 = .ok (.iload_n 1, 1) := by decide +kernel
theorem dX7_requireRank_1 : decode cX7_requireRank 1 = .ok (.ifCond .lt 14, 3) := by decide +kernel
theorem dX7_requireRank_4 : decode cX7_requireRank 4 = .ok (.iload_n 1, 1) := by decide +kernel
theorem dX7_requireRank_5 : decode cX7_requireRank 5 = .ok (.aload_n 0, 1) := by decide +kernel
theorem dX7_requireRank_6 : decode cX7_requireRank 6 = .ok (.getfield 12, 3) := by decide +kernel
theorem dX7_requireRank_9 : decode cX7_requireRank 9 = .ok (.invokevirtual 232, 3) := by decide +kernel
theorem dX7_requireRank_12 : decode cX7_requireRank 12 = .ok (.if_icmp .lt 14, 3) := by decide +kernel
theorem dX7_requireRank_15 : decode cX7_requireRank 15 = .ok (.new 258, 3) := by decide +kernel
theorem dX7_requireRank_18 : decode cX7_requireRank 18 = .ok (.dup, 1) := by decide +kernel
theorem dX7_requireRank_19 : decode cX7_requireRank 19 = .ok (.ldc_w 260, 3) := by decide +kernel
theorem dX7_requireRank_22 : decode cX7_requireRank 22 = .ok (.invokespecial 262, 3) := by decide +kernel
theorem dX7_requireRank_25 : decode cX7_requireRank 25 = .ok (.athrow, 1) := by decide +kernel
theorem dX7_requireRank_26 : decode cX7_requireRank 26 = .ok (.return_, 1) := by decide +kernel
theorem dX7_requireHouse_0 : decode cX7_requireHouse 0 = .ok (.iload_n 1, 1) := by decide +kernel
theorem dX7_requireHouse_1 : decode cX7_requireHouse 1 = .ok (.ifCond .lt 17, 3) := by decide +kernel
theorem dX7_requireHouse_4 : decode cX7_requireHouse 4 = .ok (.iload_n 1, 1) := by decide +kernel
theorem dX7_requireHouse_5 : decode cX7_requireHouse 5 = .ok (.aload_n 0, 1) := by decide +kernel
theorem dX7_requireHouse_6 : decode cX7_requireHouse 6 = .ok (.getfield 12, 3) := by decide +kernel
theorem dX7_requireHouse_9 : decode cX7_requireHouse 9 = .ok (.getfield 65, 3) := by decide +kernel
theorem dX7_requireHouse_12 : decode cX7_requireHouse 12 = .ok (.getfield 235, 3) := by decide +kernel
theorem dX7_requireHouse_15 : decode cX7_requireHouse 15 = .ok (.if_icmp .lt 14, 3) := by decide +kernel
theorem dX7_requireHouse_18 : decode cX7_requireHouse 18 = .ok (.new 258, 3) := by decide +kernel
theorem dX7_requireHouse_21 : decode cX7_requireHouse 21 = .ok (.dup, 1) := by decide +kernel
theorem dX7_requireHouse_22 : decode cX7_requireHouse 22 = .ok (.ldc_w 263, 3) := by decide +kernel
theorem dX7_requireHouse_25 : decode cX7_requireHouse 25 = .ok (.invokespecial 262, 3) := by decide +kernel
theorem dX7_requireHouse_28 : decode cX7_requireHouse 28 = .ok (.athrow, 1) := by decide +kernel
theorem dX7_requireHouse_29 : decode cX7_requireHouse 29 = .ok (.return_, 1) := by decide +kernel
theorem dJ9_max_7cf53_0 : decode cJ9_max_7cf53 0 = .ok (.iload_n 0, 1) := by decide +kernel
theorem dJ9_max_7cf53_1 : decode cJ9_max_7cf53 1 = .ok (.iload_n 1, 1) := by decide +kernel
theorem dJ9_max_7cf53_2 : decode cJ9_max_7cf53 2 = .ok (.if_icmp .lt 7, 3) := by decide +kernel
theorem dJ9_max_7cf53_5 : decode cJ9_max_7cf53 5 = .ok (.iload_n 0, 1) := by decide +kernel
theorem dJ9_max_7cf53_6 : decode cJ9_max_7cf53 6 = .ok (.goto 4, 3) := by decide +kernel
theorem dJ9_max_7cf53_9 : decode cJ9_max_7cf53 9 = .ok (.iload_n 1, 1) := by decide +kernel
theorem dJ9_max_7cf53_10 : decode cJ9_max_7cf53 10 = .ok (.ireturn, 1) := by decide +kernel
theorem dJ9_min_7cf53_0 : decode cJ9_min_7cf53 0 = .ok (.iload_n 0, 1) := by decide +kernel
theorem dJ9_min_7cf53_1 : decode cJ9_min_7cf53 1 = .ok (.iload_n 1, 1) := by decide +kernel
theorem dJ9_min_7cf53_2 : decode cJ9_min_7cf53 2 = .ok (.if_icmp .gt 7, 3) := by decide +kernel
theorem dJ9_min_7cf53_5 : decode cJ9_min_7cf53 5 = .ok (.iload_n 0, 1) := by decide +kernel
theorem dJ9_min_7cf53_6 : decode cJ9_min_7cf53 6 = .ok (.goto 4, 3) := by decide +kernel
theorem dJ9_min_7cf53_9 : decode cJ9_min_7cf53 9 = .ok (.iload_n 1, 1) := by decide +kernel
theorem dJ9_min_7cf53_10 : decode cJ9_min_7cf53 10 = .ok (.ireturn, 1) := by decide +kernel

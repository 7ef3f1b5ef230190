theorem dX8_whyNotAdded_1 : decode cX8_whyNotAdded 1 = .ok (.iload_n 2, 1) := by decide +kernel
theorem dX8_whyNotAdded_2 : decode cX8_whyNotAdded 2 = .ok (.iconst 1, 1) := by decide +kernel
theorem dX8_whyNotAdded_3 : decode cX8_whyNotAdded 3 = .ok (.invokestatic 83, 3) := by decide +kernel
theorem dX8_whyNotAdded_6 : decode cX8_whyNotAdded 6 = .ok (.ifCond .eq 13, 3) := by decide +kernel
theorem dX8_whyNotAdded_9 : decode cX8_whyNotAdded 9 = .ok (.iload_n 3, 1) := by decide +kernel
theorem dX8_whyNotAdded_10 : decode cX8_whyNotAdded 10 = .ok (.iconst 0, 1) := by decide +kernel
theorem dX8_whyNotAdded_11 : decode cX8_whyNotAdded 11 = .ok (.bipush 99, 2) := by decide +kernel
theorem dX8_whyNotAdded_13 : decode cX8_whyNotAdded 13 = .ok (.invokestatic 33, 3) := by decide +kernel
theorem dX8_whyNotAdded_16 : decode cX8_whyNotAdded 16 = .ok (.ifCond .ne 5, 3) := by decide +kernel
theorem dX8_whyNotAdded_19 : decode cX8_whyNotAdded 19 = .ok (.iconst 1, 1) := by decide +kernel
theorem dX8_whyNotAdded_20 : decode cX8_whyNotAdded 20 = .ok (.ireturn, 1) := by decide +kernel
theorem dX8_whyNotAdded_21 : decode cX8_whyNotAdded 21 = .ok (.aload_n 0, 1) := by decide +kernel
theorem dX8_whyNotAdded_22 : decode cX8_whyNotAdded 22 = .ok (.iload_n 1, 1) := by decide +kernel
theorem dX8_whyNotAdded_23 : decode cX8_whyNotAdded 23 = .ok (.iload_n 2, 1) := by decide +kernel
theorem dX8_whyNotAdded_24 : decode cX8_whyNotAdded 24 = .ok (.invokestatic 44, 3) := by decide +kernel
theorem dX8_whyNotAdded_27 : decode cX8_whyNotAdded 27 = .ok (.invokevirtual 70, 3) := by decide +kernel
theorem dX8_whyNotAdded_30 : decode cX8_whyNotAdded 30 = .ok (.iconst (-1), 1) := by decide +kernel
theorem dX8_whyNotAdded_31 : decode cX8_whyNotAdded 31 = .ok (.if_icmp .ne 14, 3) := by decide +kernel
theorem dX8_whyNotAdded_34 : decode cX8_whyNotAdded 34 = .ok (.aload_n 0, 1) := by decide +kernel
theorem dX8_whyNotAdded_35 : decode cX8_whyNotAdded 35 = .ok (.getfield 7, 3) := by decide +kernel
theorem dX8_whyNotAdded_38 : decode cX8_whyNotAdded 38 = .ok (.iconst 1, 1) := by decide +kernel
theorem dX8_whyNotAdded_39 : decode cX8_whyNotAdded 39 = .ok (.iaload, 1) := by decide +kernel
theorem dX8_whyNotAdded_40 : decode cX8_whyNotAdded 40 = .ok (.bipush 24, 2) := by decide +kernel
theorem dX8_whyNotAdded_42 : decode cX8_whyNotAdded 42 = .ok (.if_icmp .ne 7, 3) := by decide +kernel
theorem dX8_whyNotAdded_45 : decode cX8_whyNotAdded 45 = .ok (.iconst 2, 1) := by decide +kernel
theorem dX8_whyNotAdded_46 : decode cX8_whyNotAdded 46 = .ok (.goto 4, 3) := by decide +kernel
theorem dX8_whyNotAdded_49 : decode cX8_whyNotAdded 49 = .ok (.iconst 0, 1) := by decide +kernel
theorem dX8_whyNotAdded_50 : decode cX8_whyNotAdded 50 = .ok (.ireturn, 1) := by decide +kernel
set_option maxRecDepth 20000 in
theorem ggX8_addName_X8_longestPrefix : GoodIn wsX8_addName wsX8_longestPrefix := goodIn_r _ [6, 7, 8, 5, 9, 10, 11, 12, 13, 14, 15, 16, 17, 18, 19, 20, 21, 22, 23, 24, 25, 26, 1, 27, 28, 29, 30, 31, 32, 33, 50, 51, 52, 53, 54, 55, 56, 57, 58, 59, 60, 61] (by decide +kernel) (by decide +kernel)
set_option maxRecDepth 20000 in
theorem gX8_addName_X8_longestPrefix : GoodIn wsX8_addName (wsV RX8 86 RX8 yX8_longestPrefix wsX8_longestPrefix) := goodIn_app (goodIn_of _ (by decide +kernel)) ggX8_addName_X8_longestPrefix
set_option maxRecDepth 20000 in
theorem ggX8_addName_X8_shortened : GoodIn wsX8_addName wsX8_shortened := goodIn_r _ [12, 13, 14, 5, 15, 7, 8, 9, 16, 17, 18] (by decide +kernel) (by decide +kernel)
set_option maxRecDepth 20000 in
theorem gX8_addName_X8_shortened : GoodIn wsX8_addName (va_wsS RX8 48 yX8_shortened wsX8_shortened) := goodIn_app (goodIn_of _ (by decide +kernel)) ggX8_addName_X8_shortened
set_option maxRecDepth 20000 in
theorem ggX8_addName_X8_findHouse : GoodIn wsX8_addName wsX8_findHouse := goodIn_r _ [37, 1, 38, 39, 40, 5, 41, 50, 51, 52, 53, 54, 55, 56, 57, 58, 59, 60, 61] (by decide +kernel) (by decide +kernel)
set_option maxRecDepth 20000 in
theorem gX8_addName_X8_findHouse : GoodIn wsX8_addName (wsV RX8 89 RX8 yX8_findHouse wsX8_findHouse) := goodIn_app (goodIn_of _ (by decide +kernel)) ggX8_addName_X8_findHouse
set_option maxRecDepth 20000 in
theorem ggX8_addName_X8_addHouse : GoodIn wsX8_addName wsX8_addHouse := goodIn_r _ [45, 1, 38, 39, 40, 5, 41, 50, 51, 52, 53, 54, 55, 56, 57, 58, 59, 60, 61] (by decide +kernel) (by decide +kernel)
set_option maxRecDepth 20000 in
theorem gX8_addName_X8_addHouse : GoodIn wsX8_addName (wsV RX8 92 RX8 yX8_addHouse wsX8_addHouse) := goodIn_app (goodIn_of _ (by decide +kernel)) ggX8_addName_X8_addHouse
set_option maxRecDepth 20000 in
theorem ggX8_addName_X8_lengthOf : GoodIn wsX8_addName wsX8_lengthOf := goodIn_r _ [9] (by decide +kernel) (by decide +kernel)
set_option maxRecDepth 20000 in
theorem gX8_addName_X8_lengthOf : GoodIn wsX8_addName (va_wsS RX8 37 yX8_lengthOf wsX8_lengthOf) := goodIn_app (goodIn_of _ (by decide +kernel)) ggX8_addName_X8_lengthOf
set_option maxRecDepth 20000 in
theorem ggX8_addName_X8_rankOf : GoodIn wsX8_addName wsX8_rankOf := goodIn_r _ [49, 1, 27, 28, 29, 5, 30, 50, 51, 52, 53, 54, 55, 56, 57, 58, 59, 60, 61] (by decide +kernel) (by decide +kernel)
set_option maxRecDepth 20000 in
theorem gX8_addName_X8_rankOf : GoodIn wsX8_addName (wsV RX8 54 RX8 yX8_rankOf wsX8_rankOf) := goodIn_app (goodIn_of _ (by decide +kernel)) ggX8_addName_X8_rankOf
set_option maxRecDepth 20000 in
theorem ggX8_addName_X8_name : GoodIn wsX8_addName wsX8_name := goodIn_r _ [30, 1, 50, 51, 52, 53, 54, 55, 56, 57, 58, 59, 60, 61] (by decide +kernel) (by decide +kernel)
set_option maxRecDepth 20000 in
theorem gX8_addName_X8_name : GoodIn wsX8_addName (wsV RX8 51 RX8 yX8_name wsX8_name) := goodIn_app (goodIn_of _ (by decide +kernel)) ggX8_addName_X8_name
theorem dX8_addName_0 : decode cX8_addName 0 = .ok (.aload_n 0, 1) := by decide +kernel
theorem dX8_addName_1 : decode cX8_addName 1 = .ok (.iload_n 1, 1) := by decide +kernel
theorem dX8_addName_2 : decode cX8_addName 2 = .ok (.invokevirtual 86, 3) := by decide +kernel
theorem dX8_addName_5 : decode cX8_addName 5 = .ok (.istore_n 3, 1) := by decide +kernel
theorem dX8_addName_6 : decode cX8_addName 6 = .ok (.aload_n 0, 1) := by decide +kernel
theorem dX8_addName_7 : decode cX8_addName 7 = .ok (.iload_n 1, 1) := by decide +kernel
theorem dX8_addName_8 : decode cX8_addName 8 = .ok (.iload_n 3, 1) := by decide +kernel
theorem dX8_addName_9 : decode cX8_addName 9 = .ok (.invokestatic 48, 3) := by decide +kernel
theorem dX8_addName_12 : decode cX8_addName 12 = .ok (.invokevirtual 89, 3) := by decide +kernel
theorem dX8_addName_15 : decode cX8_addName 15 = .ok (.iconst (-1), 1) := by decide +kernel
theorem dX8_addName_16 : decode cX8_addName 16 = .ok (.if_icmp .ne 22, 3) := by decide +kernel
theorem dX8_addName_19 : decode cX8_addName 19 = .ok (.aload_n 0, 1) := by decide +kernel
theorem dX8_addName_20 : decode cX8_addName 20 = .ok (.iload_n 1, 1) := by decide +kernel
theorem dX8_addName_21 : decode cX8_addName 21 = .ok (.iload_n 3, 1) := by decide +kernel
theorem dX8_addName_22 : decode cX8_addName 22 = .ok (.invokestatic 48, 3) := by decide +kernel
theorem dX8_addName_25 : decode cX8_addName 25 = .ok (.invokevirtual 92, 3) := by decide +kernel
theorem dX8_addName_28 : decode cX8_addName 28 = .ok (.aload_n 0, 1) := by decide +kernel
theorem dX8_addName_29 : decode cX8_addName 29 = .ok (.getfield 7, 3) := by decide +kernel
theorem dX8_addName_32 : decode cX8_addName 32 = .ok (.iconst 4, 1) := by decide +kernel
theorem dX8_addName_33 : decode cX8_addName 33 = .ok (.dup2, 1) := by decide +kernel
theorem dX8_addName_34 : decode cX8_addName 34 = .ok (.iaload, 1) := by decide +kernel
theorem dX8_addName_35 : decode cX8_addName 35 = .ok (.iconst 1, 1) := by decide +kernel
theorem dX8_addName_36 : decode cX8_addName 36 = .ok (.iadd, 1) := by decide +kernel
theorem dX8_addName_37 : decode cX8_addName 37 = .ok (.iastore, 1) := by decide +kernel
theorem dX8_addName_38 : decode cX8_addName 38 = .ok (.iload_n 3, 1) := by decide +kernel
theorem dX8_addName_39 : decode cX8_addName 39 = .ok (.iconst 1, 1) := by decide +kernel
theorem dX8_addName_40 : decode cX8_addName 40 = .ok (.iadd, 1) := by decide +kernel
theorem dX8_addName_41 : decode cX8_addName 41 = .ok (.istore 4, 2) := by decide +kernel
theorem dX8_addName_43 : decode cX8_addName 43 = .ok (.iload 4, 2) := by decide +kernel
theorem dX8_addName_45 : decode cX8_addName 45 = .ok (.iload_n 1, 1) := by decide +kernel
theorem dX8_addName_46 : decode cX8_addName 46 = .ok (.invokestatic 37, 3) := by decide +kernel
theorem dX8_addName_49 : decode cX8_addName 49 = .ok (.if_icmp .gt 29, 3) := by decide +kernel
theorem dX8_addName_52 : decode cX8_addName 52 = .ok (.aload_n 0, 1) := by decide +kernel
theorem dX8_addName_53 : decode cX8_addName 53 = .ok (.iload_n 1, 1) := by decide +kernel
theorem dX8_addName_54 : decode cX8_addName 54 = .ok (.iload 4, 2) := by decide +kernel
theorem dX8_addName_56 : decode cX8_addName 56 = .ok (.invokestatic 48, 3) := by decide +kernel
theorem dX8_addName_59 : decode cX8_addName 59 = .ok (.invokevirtual 92, 3) := by decide +kernel
theorem dX8_addName_62 : decode cX8_addName 62 = .ok (.aload_n 0, 1) := by decide +kernel
theorem dX8_addName_63 : decode cX8_addName 63 = .ok (.getfield 7, 3) := by decide +kernel
theorem dX8_addName_66 : decode cX8_addName 66 = .ok (.iconst 5, 1) := by decide +kernel
theorem dX8_addName_67 : decode cX8_addName 67 = .ok (.dup2, 1) := by decide +kernel
theorem dX8_addName_68 : decode cX8_addName 68 = .ok (.iaload, 1) := by decide +kernel
theorem dX8_addName_69 : decode cX8_addName 69 = .ok (.iconst 1, 1) := by decide +kernel
theorem dX8_addName_70 : decode cX8_addName 70 = .ok (.iadd, 1) := by decide +kernel
theorem dX8_addName_71 : decode cX8_addName 71 = .ok (.iastore, 1) := by decide +kernel
theorem dX8_addName_72 : decode cX8_addName 72 = .ok (.iinc 4 1, 3) := by decide +kernel
theorem dX8_addName_75 : decode cX8_addName 75 = .ok (.goto (-32), 3) := by decide +kernel
theorem dX8_addName_78 : decode cX8_addName 78 = .ok (.aload_n 0, 1) := by decide +kernel
theorem dX8_addName_79 : decode cX8_addName 79 = .ok (.iload_n 1, 1) := by decide +kernel
theorem dX8_addName_80 : decode cX8_addName 80 = .ok (.invokevirtual 54, 3) := by decide +kernel
theorem dX8_addName_83 : decode cX8_addName 83 = .ok (.istore 4, 2) := by decide +kernel
theorem dX8_addName_85 : decode cX8_addName 85 = .ok (.aload_n 0, 1) := by decide +kernel
theorem dX8_addName_86 : decode cX8_addName 86 = .ok (.getfield 7, 3) := by decide +kernel
theorem dX8_addName_89 : decode cX8_addName 89 = .ok (.iconst 1, 1) := by decide +kernel
theorem dX8_addName_90 : decode cX8_addName 90 = .ok (.iaload, 1) := by decide +kernel
theorem dX8_addName_91 : decode cX8_addName 91 = .ok (.istore 5, 2) := by decide +kernel
theorem dX8_addName_93 : decode cX8_addName 93 = .ok (.iload 5, 2) := by decide +kernel
theorem dX8_addName_95 : decode cX8_addName 95 = .ok (.iload 4, 2) := by decide +kernel
theorem dX8_addName_97 : decode cX8_addName 97 = .ok (.if_icmp .le 49, 3) := by decide +kernel
theorem dX8_addName_100 : decode cX8_addName 100 = .ok (.aload_n 0, 1) := by decide +kernel
theorem dX8_addName_101 : decode cX8_addName 101 = .ok (.getfield 7, 3) := by decide +kernel
theorem dX8_addName_104 : decode cX8_addName 104 = .ok (.bipush 7, 2) := by decide +kernel
theorem dX8_addName_106 : decode cX8_addName 106 = .ok (.iload 5, 2) := by decide +kernel
theorem dX8_addName_108 : decode cX8_addName 108 = .ok (.iadd, 1) := by decide +kernel
theorem dX8_addName_109 : decode cX8_addName 109 = .ok (.aload_n 0, 1) := by decide +kernel
theorem dX8_addName_110 : decode cX8_addName 110 = .ok (.iload 5, 2) := by decide +kernel
theorem dX8_addName_112 : decode cX8_addName 112 = .ok (.iconst 1, 1) := by decide +kernel
theorem dX8_addName_113 : decode cX8_addName 113 = .ok (.isub, 1) := by decide +kernel
theorem dX8_addName_114 : decode cX8_addName 114 = .ok (.invokevirtual 51, 3) := by decide +kernel
theorem dX8_addName_117 : decode cX8_addName 117 = .ok (.iastore, 1) := by decide +kernel
theorem dX8_addName_118 : decode cX8_addName 118 = .ok (.aload_n 0, 1) := by decide +kernel
theorem dX8_addName_119 : decode cX8_addName 119 = .ok (.getfield 7, 3) := by decide +kernel
theorem dX8_addName_122 : decode cX8_addName 122 = .ok (.bipush 31, 2) := by decide +kernel
theorem dX8_addName_124 : decode cX8_addName 124 = .ok (.iload 5, 2) := by decide +kernel
theorem dX8_addName_126 : decode cX8_addName 126 = .ok (.iadd, 1) := by decide +kernel
theorem dX8_addName_127 : decode cX8_addName 127 = .ok (.aload_n 0, 1) := by decide +kernel
theorem dX8_addName_128 : decode cX8_addName 128 = .ok (.getfield 7, 3) := by decide +kernel
theorem dX8_addName_131 : decode cX8_addName 131 = .ok (.bipush 31, 2) := by decide +kernel
theorem dX8_addName_133 : decode cX8_addName 133 = .ok (.iload 5, 2) := by decide +kernel
theorem dX8_addName_135 : decode cX8_addName 135 = .ok (.iadd, 1) := by decide +kernel
theorem dX8_addName_136 : decode cX8_addName 136 = .ok (.iconst 1, 1) := by decide +kernel
theorem dX8_addName_137 : decode cX8_addName 137 = .ok (.isub, 1) := by decide +kernel
theorem dX8_addName_138 : decode cX8_addName 138 = .ok (.iaload, 1) := by decide +kernel
theorem dX8_addName_139 : decode cX8_addName 139 = .ok (.iastore, 1) := by decide +kernel
theorem dX8_addName_140 : decode cX8_addName 140 = .ok (.iinc 5 (-1), 3) := by decide +kernel
theorem dX8_addName_143 : decode cX8_addName 143 = .ok (.goto (-50), 3) := by decide +kernel
theorem dX8_addName_146 : decode cX8_addName 146 = .ok (.aload_n 0, 1) := by decide +kernel
theorem dX8_addName_147 : decode cX8_addName 147 = .ok (.getfield 7, 3) := by decide +kernel
theorem dX8_addName_150 : decode cX8_addName 150 = .ok (.bipush 7, 2) := by decide +kernel
theorem dX8_addName_152 : decode cX8_addName 152 = .ok (.iload 4, 2) := by decide +kernel
theorem dX8_addName_154 : decode cX8_addName 154 = .ok (.iadd, 1) := by decide +kernel
theorem dX8_addName_155 : decode cX8_addName 155 = .ok (.iload_n 1, 1) := by decide +kernel
theorem dX8_addName_156 : decode cX8_addName 156 = .ok (.iastore, 1) := by decide +kernel
theorem dX8_addName_157 : decode cX8_addName 157 = .ok (.aload_n 0, 1) := by decide +kernel
theorem dX8_addName_158 : decode cX8_addName 158 = .ok (.getfield 7, 3) := by decide +kernel
theorem dX8_addName_161 : decode cX8_addName 161 = .ok (.bipush 31, 2) := by decide +kernel
theorem dX8_addName_163 : decode cX8_addName 163 = .ok (.iload 4, 2) := by decide +kernel
theorem dX8_addName_165 : decode cX8_addName 165 = .ok (.iadd, 1) := by decide +kernel
theorem dX8_addName_166 : decode cX8_addName 166 = .ok (.iload_n 2, 1) := by decide +kernel
theorem dX8_addName_167 : decode cX8_addName 167 = .ok (.iastore, 1) := by decide +kernel
theorem dX8_addName_168 : decode cX8_addName 168 = .ok (.aload_n 0, 1) := by decide +kernel
theorem dX8_addName_169 : decode cX8_addName 169 = .ok (.getfield 7, 3) := by decide +kernel
theorem dX8_addName_172 : decode cX8_addName 172 = .ok (.iconst 1, 1) := by decide +kernel
theorem dX8_addName_173 : decode cX8_addName 173 = .ok (.dup2, 1) := by decide +kernel
theorem dX8_addName_174 : decode cX8_addName 174 = .ok (.iaload, 1) := by decide +kernel
theorem dX8_addName_175 : decode cX8_addName 175 = .ok (.iconst 1, 1) := by decide +kernel
theorem dX8_addName_176 : decode cX8_addName 176 = .ok (.iadd, 1) := by decide +kernel
theorem dX8_addName_177 : decode cX8_addName 177 = .ok (.iastore, 1) := by decide +kernel
theorem dX8_addName_178 : decode cX8_addName 178 = .ok (.iload 4, 2) := by decide +kernel
theorem dX8_addName_180 : decode cX8_addName 180 = .ok (.ireturn, 1) := by decide +kernel
set_option maxRecDepth 20000 in
theorem ggX8_add_X8_whyNotAdded : GoodIn wsX8_add wsX8_whyNotAdded := goodIn_r _ [6, 7, 8, 9, 5, 10, 11, 12, 13, 14, 15, 16, 17, 18, 19, 20, 21, 22, 23, 24, 25, 26, 27, 28, 78, 79, 80, 81, 82, 83, 84, 85, 86, 87, 88, 89] (by decide +kernel) (by decide +kernel)
set_option maxRecDepth 20000 in
theorem gX8_add_X8_whyNotAdded : GoodIn wsX8_add (wsV RX8 96 RX8 yX8_whyNotAdded wsX8_whyNotAdded) := goodIn_app (goodIn_of _ (by decide +kernel)) ggX8_add_X8_whyNotAdded
set_option maxRecDepth 20000 in
theorem ggX8_add_X8_save : GoodIn wsX8_add wsX8_save := goodIn_r _ [32, 33, 34, 7, 35, 36, 5, 37, 78, 79, 80, 81, 82, 83, 84, 85, 86, 87, 88, 89] (by decide +kernel) (by decide +kernel)
set_option maxRecDepth 20000 in
theorem gX8_add_X8_save : GoodIn wsX8_add (wsV RX8 100 RX8 yX8_save wsX8_save) := goodIn_app (goodIn_of _ (by decide +kernel)) ggX8_add_X8_save
set_option maxRecDepth 20000 in
theorem ggX8_add_X8_code : GoodIn wsX8_add wsX8_code := goodIn_r _ [16] (by decide +kernel) (by decide +kernel)
set_option maxRecDepth 20000 in
theorem gX8_add_X8_code : GoodIn wsX8_add (va_wsS RX8 44 yX8_code wsX8_code) := goodIn_app (goodIn_of _ (by decide +kernel)) ggX8_add_X8_code
set_option maxRecDepth 20000 in
theorem ggX8_add_X8_addName : GoodIn wsX8_add wsX8_addName := goodIn_r _ [41, 7, 42, 43, 44, 5, 45, 46, 47, 48, 49, 50, 51, 52, 53, 54, 14, 15, 16, 55, 56, 57, 58, 59, 60, 61, 62, 25, 26, 27, 28, 63, 64, 65, 66, 67, 68, 69, 70, 71, 72, 73, 74, 75, 76, 77, 21, 22, 23, 24, 78, 79, 80, 81, 82, 83, 84, 85, 86, 87, 88, 89] (by decide +kernel) (by decide +kernel)
set_option maxRecDepth 20000 in
theorem gX8_add_X8_addName : GoodIn wsX8_add (wsV RX8 103 RX8 yX8_addName wsX8_addName) := goodIn_app (goodIn_of _ (by decide +kernel)) ggX8_add_X8_addName
theorem dX8_add_0 : decode cX8_add 0 = .ok (.aload_n 0, 1) := by decide +kernel
theorem dX8_add_1 : decode cX8_add 1 = .ok (.aload_n 0, 1) := by decide +kernel
theorem dX8_add_2 : decode cX8_add 2 = .ok (.iload_n 1, 1) := by decide +kernel
theorem dX8_add_3 : decode cX8_add 3 = .ok (.iload_n 2, 1) := by decide +kernel
theorem dX8_add_4 : decode cX8_add 4 = .ok (.iload_n 3, 1) := by decide +kernel
theorem dX8_add_5 : decode cX8_add 5 = .ok (.invokevirtual 96, 3) := by decide +kernel
theorem dX8_add_8 : decode cX8_add 8 = .ok (.putfield 22, 3) := by decide +kernel
theorem dX8_add_11 : decode cX8_add 11 = .ok (.aload_n 0, 1) := by decide +kernel
theorem dX8_add_12 : decode cX8_add 12 = .ok (.getfield 22, 3) := by decide +kernel
theorem dX8_add_15 : decode cX8_add 15 = .ok (.ifCond .le 5, 3) := by decide +kernel
theorem dX8_add_18 : decode cX8_add 18 = .ok (.iconst 0, 1) := by decide +kernel
theorem dX8_add_19 : decode cX8_add 19 = .ok (.ireturn, 1) := by decide +kernel
theorem dX8_add_20 : decode cX8_add 20 = .ok (.aload_n 0, 1) := by decide +kernel
theorem dX8_add_21 : decode cX8_add 21 = .ok (.invokevirtual 100, 3) := by decide +kernel
theorem dX8_add_24 : decode cX8_add 24 = .ok (.aload_n 0, 1) := by decide +kernel
theorem dX8_add_25 : decode cX8_add 25 = .ok (.iload_n 1, 1) := by decide +kernel
theorem dX8_add_26 : decode cX8_add 26 = .ok (.iload_n 2, 1) := by decide +kernel
theorem dX8_add_27 : decode cX8_add 27 = .ok (.invokestatic 44, 3) := by decide +kernel
theorem dX8_add_30 : decode cX8_add 30 = .ok (.iload_n 3, 1) := by decide +kernel
theorem dX8_add_31 : decode cX8_add 31 = .ok (.invokevirtual 103, 3) := by decide +kernel
theorem dX8_add_34 : decode cX8_add 34 = .ok (.ireturn, 1) := by decide +kernel
set_option maxRecDepth 20000 in
theorem ggX8_whyNotThere_X8_isPrefix : GoodIn wsX8_whyNotThere wsX8_isPrefix := goodIn_r _ [4, 5, 6, 3, 7] (by decide +kernel) (by decide +kernel)
set_option maxRecDepth 20000 in
theorem gX8_whyNotThere_X8_isPrefix : GoodIn wsX8_whyNotThere (va_wsS RX8 83 yX8_isPrefix wsX8_isPrefix) := goodIn_app (goodIn_of _ (by decide +kernel)) ggX8_whyNotThere_X8_isPrefix
set_option maxRecDepth 20000 in
theorem ggX8_whyNotThere_X8_code : GoodIn wsX8_whyNotThere wsX8_code := goodIn_r _ [10] (by decide +kernel) (by decide +kernel)
set_option maxRecDepth 20000 in
theorem gX8_whyNotThere_X8_code : GoodIn wsX8_whyNotThere (va_wsS RX8 44 yX8_code wsX8_code) := goodIn_app (goodIn_of _ (by decide +kernel)) ggX8_whyNotThere_X8_code
set_option maxRecDepth 20000 in
theorem ggX8_whyNotThere_X8_findName : GoodIn wsX8_whyNotThere wsX8_findName := goodIn_r _ [14, 15, 16, 17, 18, 3, 19, 20, 21, 22, 23, 24, 25, 26, 27, 28, 29, 30, 31, 32, 33, 34, 35] (by decide +kernel) (by decide +kernel)
set_option maxRecDepth 20000 in
theorem gX8_whyNotThere_X8_findName : GoodIn wsX8_whyNotThere (wsV RX8 70 RX8 yX8_findName wsX8_findName) := goodIn_app (goodIn_of _ (by decide +kernel)) ggX8_whyNotThere_X8_findName
theorem dX8_whyNotThere_0 : decode cX8_whyNotThere 0 = .ok (.iload_n 1, 1) := by decide +kernel
theorem dX8_whyNotThere_1 : decode cX8_whyNotThere 1 = .ok (.iload_n 2, 1) := by decide +kernel
theorem dX8_whyNotThere_2 : decode cX8_whyNotThere 2 = .ok (.iconst 1, 1) := by decide +kernel
theorem dX8_whyNotThere_3 : decode cX8_whyNotThere 3 = .ok (.invokestatic 83, 3) := by decide +kernel
theorem dX8_whyNotThere_6 : decode cX8_whyNotThere 6 = .ok (.ifCond .ne 7, 3) := by decide +kernel
theorem dX8_whyNotThere_9 : decode cX8_whyNotThere 9 = .ok (.iconst 1, 1) := by decide +kernel
theorem dX8_whyNotThere_10 : decode cX8_whyNotThere 10 = .ok (.goto 21, 3) := by decide +kernel
theorem dX8_whyNotThere_13 : decode cX8_whyNotThere 13 = .ok (.aload_n 0, 1) := by decide +kernel
theorem dX8_whyNotThere_14 : decode cX8_whyNotThere 14 = .ok (.iload_n 1, 1) := by decide +kernel
theorem dX8_whyNotThere_15 : decode cX8_whyNotThere 15 = .ok (.iload_n 2, 1) := by decide +kernel
theorem dX8_whyNotThere_16 : decode cX8_whyNotThere 16 = .ok (.invokestatic 44, 3) := by decide +kernel
theorem dX8_whyNotThere_19 : decode cX8_whyNotThere 19 = .ok (.invokevirtual 70, 3) := by decide +kernel
theorem dX8_whyNotThere_22 : decode cX8_whyNotThere 22 = .ok (.iconst (-1), 1) := by decide +kernel
theorem dX8_whyNotThere_23 : decode cX8_whyNotThere 23 = .ok (.if_icmp .ne 7, 3) := by decide +kernel
theorem dX8_whyNotThere_26 : decode cX8_whyNotThere 26 = .ok (.iconst 2, 1) := by decide +kernel
theorem dX8_whyNotThere_27 : decode cX8_whyNotThere 27 = .ok (.goto 4, 3) := by decide +kernel
theorem dX8_whyNotThere_30 : decode cX8_whyNotThere 30 = .ok (.iconst 0, 1) := by decide +kernel
theorem dX8_whyNotThere_31 : decode cX8_whyNotThere 31 = .ok (.ireturn, 1) := by decide +kernel
set_option maxRecDepth 20000 in
theorem ggX8_removeName_X8_findName : GoodIn wsX8_removeName wsX8_findName := goodIn_r _ [6, 1, 7, 8, 9, 5, 10, 11, 12, 13, 14, 50, 51, 52, 53, 54, 55, 56, 57, 58, 59, 60, 61] (by decide +kernel) (by decide +kernel)
set_option maxRecDepth 20000 in
theorem gX8_removeName_X8_findName : GoodIn wsX8_removeName (wsV RX8 70 RX8 yX8_findName wsX8_findName) := goodIn_app (goodIn_of _ (by decide +kernel)) ggX8_removeName_X8_findName
set_option maxRecDepth 20000 in
theorem ggX8_removeName_X8_name : GoodIn wsX8_removeName wsX8_name := goodIn_r _ [14, 1, 50, 51, 52, 53, 54, 55, 56, 57, 58, 59, 60, 61] (by decide +kernel) (by decide +kernel)
set_option maxRecDepth 20000 in
theorem gX8_removeName_X8_name : GoodIn wsX8_removeName (wsV RX8 51 RX8 yX8_name wsX8_name) := goodIn_app (goodIn_of _ (by decide +kernel)) ggX8_removeName_X8_name
set_option maxRecDepth 20000 in
theorem ggX8_removeName_X8_findHouse : GoodIn wsX8_removeName wsX8_findHouse := goodIn_r _ [18, 1, 19, 20, 21, 5, 22, 50, 51, 52, 53, 54, 55, 56, 57, 58, 59, 60, 61] (by decide +kernel) (by decide +kernel)
set_option maxRecDepth 20000 in
theorem gX8_removeName_X8_findHouse : GoodIn wsX8_removeName (wsV RX8 89 RX8 yX8_findHouse wsX8_findHouse) := goodIn_app (goodIn_of _ (by decide +kernel)) ggX8_removeName_X8_findHouse
set_option maxRecDepth 20000 in
theorem ggX8_removeName_X8_prefixOf : GoodIn wsX8_removeName wsX8_prefixOf := goodIn_r _ [22, 1, 50, 51, 52, 53, 54, 55, 56, 57, 58, 59, 60, 61] (by decide +kernel) (by decide +kernel)
set_option maxRecDepth 20000 in
theorem gX8_removeName_X8_prefixOf : GoodIn wsX8_removeName (wsV RX8 64 RX8 yX8_prefixOf wsX8_prefixOf) := goodIn_app (goodIn_of _ (by decide +kernel)) ggX8_removeName_X8_prefixOf
set_option maxRecDepth 20000 in
theorem ggX8_removeName_X8_childrenOf : GoodIn wsX8_removeName wsX8_childrenOf := goodIn_r _ [26, 1, 27, 28, 29, 5, 30, 19, 20, 21, 22, 31, 32, 33, 34, 35, 36, 37, 38, 39, 40, 41, 42, 43, 44, 45, 50, 51, 52, 53, 54, 55, 56, 57, 58, 59, 60, 61] (by decide +kernel) (by decide +kernel)
set_option maxRecDepth 20000 in
theorem gX8_removeName_X8_childrenOf : GoodIn wsX8_removeName (wsV RX8 73 RX8 yX8_childrenOf wsX8_childrenOf) := goodIn_app (goodIn_of _ (by decide +kernel)) ggX8_removeName_X8_childrenOf
set_option maxRecDepth 20000 in
theorem ggX8_removeName_X8_parentOf : GoodIn wsX8_removeName wsX8_parentOf := goodIn_r _ [30, 19, 20, 21, 5, 22, 1, 31, 32, 33, 34, 35, 36, 37, 38, 39, 40, 41, 42, 43, 44, 45, 50, 51, 52, 53, 54, 55, 56, 57, 58, 59, 60, 61] (by decide +kernel) (by decide +kernel)
set_option maxRecDepth 20000 in
theorem gX8_removeName_X8_parentOf : GoodIn wsX8_removeName (wsV RX8 67 RX8 yX8_parentOf wsX8_parentOf) := goodIn_app (goodIn_of _ (by decide +kernel)) ggX8_removeName_X8_parentOf
set_option maxRecDepth 20000 in
theorem ggX8_removeName_X8_dropHouse : GoodIn wsX8_removeName wsX8_dropHouse := goodIn_r _ [49, 1, 19, 20, 21, 5, 22, 50, 51, 52, 53, 54, 55, 56, 57, 58, 59, 60, 61] (by decide +kernel) (by decide +kernel)
set_option maxRecDepth 20000 in
theorem gX8_removeName_X8_dropHouse : GoodIn wsX8_removeName (wsV RX8 106 RX8 yX8_dropHouse wsX8_dropHouse) := goodIn_app (goodIn_of _ (by decide +kernel)) ggX8_removeName_X8_dropHouse
theorem dX8_removeName_0 : decode cX8_removeName 0 = .ok (.aload_n 0, 1) := by decide +kernel
theorem dX8_removeName_1 : decode cX8_removeName 1 = .ok (.iload_n 1, 1) := by decide +kernel
theorem dX8_removeName_2 : decode cX8_removeName 2 = .ok (.invokevirtual 70, 3) := by decide +kernel
theorem dX8_removeName_5 : decode cX8_removeName 5 = .ok (.istore_n 2, 1) := by decide +kernel
theorem dX8_removeName_6 : decode cX8_removeName 6 = .ok (.iload_n 2, 1) := by decide +kernel
theorem dX8_removeName_7 : decode cX8_removeName 7 = .ok (.iconst 1, 1) := by decide +kernel
theorem dX8_removeName_8 : decode cX8_removeName 8 = .ok (.iadd, 1) := by decide +kernel
theorem dX8_removeName_9 : decode cX8_removeName 9 = .ok (.aload_n 0, 1) := by decide +kernel
theorem dX8_removeName_10 : decode cX8_removeName 10 = .ok (.getfield 7, 3) := by decide +kernel
theorem dX8_removeName_13 : decode cX8_removeName 13 = .ok (.iconst 1, 1) := by decide +kernel
theorem dX8_removeName_14 : decode cX8_removeName 14 = .ok (.iaload, 1) := by decide +kernel
theorem dX8_removeName_15 : decode cX8_removeName 15 = .ok (.if_icmp .ge 45, 3) := by decide +kernel
theorem dX8_removeName_18 : decode cX8_removeName 18 = .ok (.aload_n 0, 1) := by decide +kernel
theorem dX8_removeName_19 : decode cX8_removeName 19 = .ok (.getfield 7, 3) := by decide +kernel
theorem dX8_removeName_22 : decode cX8_removeName 22 = .ok (.bipush 7, 2) := by decide +kernel
theorem dX8_removeName_24 : decode cX8_removeName 24 = .ok (.iload_n 2, 1) := by decide +kernel
theorem dX8_removeName_25 : decode cX8_removeName 25 = .ok (.iadd, 1) := by decide +kernel
theorem dX8_removeName_26 : decode cX8_removeName 26 = .ok (.aload_n 0, 1) := by decide +kernel
theorem dX8_removeName_27 : decode cX8_removeName 27 = .ok (.iload_n 2, 1) := by decide +kernel
theorem dX8_removeName_28 : decode cX8_removeName 28 = .ok (.iconst 1, 1) := by decide +kernel
theorem dX8_removeName_29 : decode cX8_removeName 29 = .ok (.iadd, 1) := by decide +kernel
theorem dX8_removeName_30 : decode cX8_removeName 30 = .ok (.invokevirtual 51, 3) := by decide +kernel
theorem dX8_removeName_33 : decode cX8_removeName 33 = .ok (.iastore, 1) := by decide +kernel
theorem dX8_removeName_34 : decode cX8_removeName 34 = .ok (.aload_n 0, 1) := by decide +kernel
theorem dX8_removeName_35 : decode cX8_removeName 35 = .ok (.getfield 7, 3) := by decide +kernel
theorem dX8_removeName_38 : decode cX8_removeName 38 = .ok (.bipush 31, 2) := by decide +kernel
theorem dX8_removeName_40 : decode cX8_removeName 40 = .ok (.iload_n 2, 1) := by decide +kernel
theorem dX8_removeName_41 : decode cX8_removeName 41 = .ok (.iadd, 1) := by decide +kernel
theorem dX8_removeName_42 : decode cX8_removeName 42 = .ok (.aload_n 0, 1) := by decide +kernel
theorem dX8_removeName_43 : decode cX8_removeName 43 = .ok (.getfield 7, 3) := by decide +kernel
theorem dX8_removeName_46 : decode cX8_removeName 46 = .ok (.bipush 31, 2) := by decide +kernel
theorem dX8_removeName_48 : decode cX8_removeName 48 = .ok (.iload_n 2, 1) := by decide +kernel
theorem dX8_removeName_49 : decode cX8_removeName 49 = .ok (.iadd, 1) := by decide +kernel
theorem dX8_removeName_50 : decode cX8_removeName 50 = .ok (.iconst 1, 1) := by decide +kernel
theorem dX8_removeName_51 : decode cX8_removeName 51 = .ok (.iadd, 1) := by decide +kernel
theorem dX8_removeName_52 : decode cX8_removeName 52 = .ok (.iaload, 1) := by decide +kernel
theorem dX8_removeName_53 : decode cX8_removeName 53 = .ok (.iastore, 1) := by decide +kernel
theorem dX8_removeName_54 : decode cX8_removeName 54 = .ok (.iinc 2 1, 3) := by decide +kernel
theorem dX8_removeName_57 : decode cX8_removeName 57 = .ok (.goto (-51), 3) := by decide +kernel
theorem dX8_removeName_60 : decode cX8_removeName 60 = .ok (.aload_n 0, 1) := by decide +kernel
theorem dX8_removeName_61 : decode cX8_removeName 61 = .ok (.getfield 7, 3) := by decide +kernel
theorem dX8_removeName_64 : decode cX8_removeName 64 = .ok (.iconst 1, 1) := by decide +kernel
theorem dX8_removeName_65 : decode cX8_removeName 65 = .ok (.dup2, 1) := by decide +kernel
theorem dX8_removeName_66 : decode cX8_removeName 66 = .ok (.iaload, 1) := by decide +kernel
theorem dX8_removeName_67 : decode cX8_removeName 67 = .ok (.iconst 1, 1) := by decide +kernel
theorem dX8_removeName_68 : decode cX8_removeName 68 = .ok (.isub, 1) := by decide +kernel
theorem dX8_removeName_69 : decode cX8_removeName 69 = .ok (.iastore, 1) := by decide +kernel
theorem dX8_removeName_70 : decode cX8_removeName 70 = .ok (.iconst 0, 1) := by decide +kernel
theorem dX8_removeName_71 : decode cX8_removeName 71 = .ok (.istore_n 2, 1) := by decide +kernel
theorem dX8_removeName_72 : decode cX8_removeName 72 = .ok (.aload_n 0, 1) := by decide +kernel
theorem dX8_removeName_73 : decode cX8_removeName 73 = .ok (.iload_n 1, 1) := by decide +kernel
theorem dX8_removeName_74 : decode cX8_removeName 74 = .ok (.invokevirtual 89, 3) := by decide +kernel
theorem dX8_removeName_77 : decode cX8_removeName 77 = .ok (.istore_n 3, 1) := by decide +kernel
theorem dX8_removeName_78 : decode cX8_removeName 78 = .ok (.iload_n 3, 1) := by decide +kernel
theorem dX8_removeName_79 : decode cX8_removeName 79 = .ok (.ifCond .le 45, 3) := by decide +kernel
theorem dX8_removeName_82 : decode cX8_removeName 82 = .ok (.aload_n 0, 1) := by decide +kernel
theorem dX8_removeName_83 : decode cX8_removeName 83 = .ok (.aload_n 0, 1) := by decide +kernel
theorem dX8_removeName_84 : decode cX8_removeName 84 = .ok (.iload_n 3, 1) := by decide +kernel
theorem dX8_removeName_85 : decode cX8_removeName 85 = .ok (.invokevirtual 64, 3) := by decide +kernel
theorem dX8_removeName_88 : decode cX8_removeName 88 = .ok (.invokevirtual 70, 3) := by decide +kernel
theorem dX8_removeName_91 : decode cX8_removeName 91 = .ok (.iconst (-1), 1) := by decide +kernel
theorem dX8_removeName_92 : decode cX8_removeName 92 = .ok (.if_icmp .ne 32, 3) := by decide +kernel
theorem dX8_removeName_95 : decode cX8_removeName 95 = .ok (.aload_n 0, 1) := by decide +kernel
theorem dX8_removeName_96 : decode cX8_removeName 96 = .ok (.iload_n 3, 1) := by decide +kernel
theorem dX8_removeName_97 : decode cX8_removeName 97 = .ok (.invokevirtual 73, 3) := by decide +kernel
theorem dX8_removeName_100 : decode cX8_removeName 100 = .ok (.ifCond .ne 24, 3) := by decide +kernel
theorem dX8_removeName_103 : decode cX8_removeName 103 = .ok (.aload_n 0, 1) := by decide +kernel
theorem dX8_removeName_104 : decode cX8_removeName 104 = .ok (.iload_n 3, 1) := by decide +kernel
theorem dX8_removeName_105 : decode cX8_removeName 105 = .ok (.invokevirtual 67, 3) := by decide +kernel
theorem dX8_removeName_108 : decode cX8_removeName 108 = .ok (.istore 4, 2) := by decide +kernel
theorem dX8_removeName_110 : decode cX8_removeName 110 = .ok (.aload_n 0, 1) := by decide +kernel
theorem dX8_removeName_111 : decode cX8_removeName 111 = .ok (.iload_n 3, 1) := by decide +kernel
theorem dX8_removeName_112 : decode cX8_removeName 112 = .ok (.invokevirtual 106, 3) := by decide +kernel
theorem dX8_removeName_115 : decode cX8_removeName 115 = .ok (.iinc 2 1, 3) := by decide +kernel
theorem dX8_removeName_118 : decode cX8_removeName 118 = .ok (.iload 4, 2) := by decide +kernel
theorem dX8_removeName_120 : decode cX8_removeName 120 = .ok (.istore_n 3, 1) := by decide +kernel
theorem dX8_removeName_121 : decode cX8_removeName 121 = .ok (.goto (-43), 3) := by decide +kernel
theorem dX8_removeName_124 : decode cX8_removeName 124 = .ok (.aload_n 0, 1) := by decide +kernel
theorem dX8_removeName_125 : decode cX8_removeName 125 = .ok (.getfield 7, 3) := by decide +kernel
theorem dX8_removeName_128 : decode cX8_removeName 128 = .ok (.bipush 6, 2) := by decide +kernel
theorem dX8_removeName_130 : decode cX8_removeName 130 = .ok (.dup2, 1) := by decide +kernel
theorem dX8_removeName_131 : decode cX8_removeName 131 = .ok (.iaload, 1) := by decide +kernel
theorem dX8_removeName_132 : decode cX8_removeName 132 = .ok (.iload_n 2, 1) := by decide +kernel
theorem dX8_removeName_133 : decode cX8_removeName 133 = .ok (.iadd, 1) := by decide +kernel
theorem dX8_removeName_134 : decode cX8_removeName 134 = .ok (.iastore, 1) := by decide +kernel
theorem dX8_removeName_135 : decode cX8_removeName 135 = .ok (.iload_n 2, 1) := by decide +kernel
theorem dX8_removeName_136 : decode cX8_removeName 136 = .ok (.ireturn, 1) := by decide +kernel
set_option maxRecDepth 20000 in
theorem ggX8_remove_X8_whyNotThere : GoodIn wsX8_remove wsX8_whyNotThere := goodIn_r _ [6, 7, 8, 5, 9, 10, 11, 12, 13, 14, 15, 16, 17, 18, 19, 20, 21, 22, 23, 24, 25, 26, 27, 28, 74, 75, 76, 77, 78, 79, 80, 81, 82, 83, 84, 85] (by decide +kernel) (by decide +kernel)
set_option maxRecDepth 20000 in
theorem gX8_remove_X8_whyNotThere : GoodIn wsX8_remove (wsV RX8 109 RX8 yX8_whyNotThere wsX8_whyNotThere) := goodIn_app (goodIn_of _ (by decide +kernel)) ggX8_remove_X8_whyNotThere
set_option maxRecDepth 20000 in
theorem ggX8_remove_X8_save : GoodIn wsX8_remove wsX8_save := goodIn_r _ [32, 33, 34, 20, 35, 36, 5, 37, 74, 75, 76, 77, 78, 79, 80, 81, 82, 83, 84, 85] (by decide +kernel) (by decide +kernel)
set_option maxRecDepth 20000 in
theorem gX8_remove_X8_save : GoodIn wsX8_remove (wsV RX8 100 RX8 yX8_save wsX8_save) := goodIn_app (goodIn_of _ (by decide +kernel)) ggX8_remove_X8_save
set_option maxRecDepth 20000 in
theorem ggX8_remove_X8_code : GoodIn wsX8_remove wsX8_code := goodIn_r _ [15] (by decide +kernel) (by decide +kernel)
set_option maxRecDepth 20000 in
theorem gX8_remove_X8_code : GoodIn wsX8_remove (va_wsS RX8 44 yX8_code wsX8_code) := goodIn_app (goodIn_of _ (by decide +kernel)) ggX8_remove_X8_code
set_option maxRecDepth 20000 in
theorem ggX8_remove_X8_removeName : GoodIn wsX8_remove wsX8_removeName := goodIn_r _ [41, 20, 16, 17, 18, 5, 19, 21, 22, 23, 24, 25, 26, 27, 28, 42, 43, 44, 45, 46, 47, 48, 49, 50, 51, 52, 53, 54, 55, 56, 57, 58, 59, 60, 61, 62, 63, 64, 65, 66, 67, 68, 69, 13, 14, 15, 70, 71, 72, 73, 74, 75, 76, 77, 78, 79, 80, 81, 82, 83, 84, 85] (by decide +kernel) (by decide +kernel)
set_option maxRecDepth 20000 in
theorem gX8_remove_X8_removeName : GoodIn wsX8_remove (wsV RX8 112 RX8 yX8_removeName wsX8_removeName) := goodIn_app (goodIn_of _ (by decide +kernel)) ggX8_remove_X8_removeName
theorem dX8_remove_0 : decode cX8_remove 0 = .ok (.aload_n 0, 1) := by decide +kernel
theorem dX8_remove_1 : decode cX8_remove 1 = .ok (.aload_n 0, 1) := by decide +kernel
theorem dX8_remove_2 : decode cX8_remove 2 = .ok (.iload_n 1, 1) := by decide +kernel
theorem dX8_remove_3 : decode cX8_remove 3 = .ok (.iload_n 2, 1) := by decide +kernel
theorem dX8_remove_4 : decode cX8_remove 4 = .ok (.invokevirtual 109, 3) := by decide +kernel
theorem dX8_remove_7 : decode cX8_remove 7 = .ok (.putfield 22, 3) := by decide +kernel
theorem dX8_remove_10 : decode cX8_remove 10 = .ok (.aload_n 0, 1) := by decide +kernel
theorem dX8_remove_11 : decode cX8_remove 11 = .ok (.getfield 22, 3) := by decide +kernel
theorem dX8_remove_14 : decode cX8_remove 14 = .ok (.ifCond .le 5, 3) := by decide +kernel
theorem dX8_remove_17 : decode cX8_remove 17 = .ok (.iconst 0, 1) := by decide +kernel
theorem dX8_remove_18 : decode cX8_remove 18 = .ok (.ireturn, 1) := by decide +kernel
theorem dX8_remove_19 : decode cX8_remove 19 = .ok (.aload_n 0, 1) := by decide +kernel
theorem dX8_remove_20 : decode cX8_remove 20 = .ok (.invokevirtual 100, 3) := by decide +kernel
theorem dX8_remove_23 : decode cX8_remove 23 = .ok (.aload_n 0, 1) := by decide +kernel
theorem dX8_remove_24 : decode cX8_remove 24 = .ok (.iload_n 1, 1) := by decide +kernel
theorem dX8_remove_25 : decode cX8_remove 25 = .ok (.iload_n 2, 1) := by decide +kernel
theorem dX8_remove_26 : decode cX8_remove 26 = .ok (.invokestatic 44, 3) := by decide +kernel
theorem dX8_remove_29 : decode cX8_remove 29 = .ok (.invokevirtual 112, 3) := by decide +kernel
theorem dX8_remove_32 : decode cX8_remove 32 = .ok (.ireturn, 1) := by decide +kernel
set_option maxRecDepth 20000 in
theorem ggX8_setWeight_X8_within : GoodIn wsX8_setWeight wsX8_within := goodIn_r _ [6] (by decide +kernel) (by decide +kernel)
set_option maxRecDepth 20000 in
theorem gX8_setWeight_X8_within : GoodIn wsX8_setWeight (va_wsS RX8 33 yX8_within wsX8_within) := goodIn_app (goodIn_of _ (by decide +kernel)) ggX8_setWeight_X8_within
set_option maxRecDepth 20000 in
theorem ggX8_setWeight_X8_whyNotThere : GoodIn wsX8_setWeight wsX8_whyNotThere := goodIn_r _ [10, 11, 12, 5, 13, 3, 4, 6, 14, 15, 16, 17, 18, 19, 20, 2, 21, 22, 23, 24, 25, 26, 27, 28, 38, 39, 40, 41, 42, 43, 44, 45, 46, 47, 48, 49] (by decide +kernel) (by decide +kernel)
set_option maxRecDepth 20000 in
theorem gX8_setWeight_X8_whyNotThere : GoodIn wsX8_setWeight (wsV RX8 109 RX8 yX8_whyNotThere wsX8_whyNotThere) := goodIn_app (goodIn_of _ (by decide +kernel)) ggX8_setWeight_X8_whyNotThere
set_option maxRecDepth 20000 in
theorem ggX8_setWeight_X8_save : GoodIn wsX8_setWeight wsX8_save := goodIn_r _ [32, 33, 34, 2, 35, 36, 5, 37, 38, 39, 40, 41, 42, 43, 44, 45, 46, 47, 48, 49] (by decide +kernel) (by decide +kernel)
set_option maxRecDepth 20000 in
theorem gX8_setWeight_X8_save : GoodIn wsX8_setWeight (wsV RX8 100 RX8 yX8_save wsX8_save) := goodIn_app (goodIn_of _ (by decide +kernel)) ggX8_setWeight_X8_save
set_option maxRecDepth 20000 in
theorem ggX8_setWeight_X8_code : GoodIn wsX8_setWeight wsX8_code := goodIn_r _ [16] (by decide +kernel) (by decide +kernel)
set_option maxRecDepth 20000 in
theorem gX8_setWeight_X8_code : GoodIn wsX8_setWeight (va_wsS RX8 44 yX8_code wsX8_code) := goodIn_app (goodIn_of _ (by decide +kernel)) ggX8_setWeight_X8_code
set_option maxRecDepth 20000 in
theorem ggX8_setWeight_X8_findName : GoodIn wsX8_setWeight wsX8_findName := goodIn_r _ [20, 2, 21, 22, 23, 5, 24, 25, 26, 27, 28, 38, 39, 40, 41, 42, 43, 44, 45, 46, 47, 48, 49] (by decide +kernel) (by decide +kernel)
set_option maxRecDepth 20000 in
theorem gX8_setWeight_X8_findName : GoodIn wsX8_setWeight (wsV RX8 70 RX8 yX8_findName wsX8_findName) := goodIn_app (goodIn_of _ (by decide +kernel)) ggX8_setWeight_X8_findName
theorem dX8_setWeight_0 : decode cX8_setWeight 0 = .ok (.aload_n 0, 1) := by decide +kernel
theorem dX8_setWeight_1 : decode cX8_setWeight 1 = .ok (.iload_n 3, 1) := by decide +kernel
theorem dX8_setWeight_2 : decode cX8_setWeight 2 = .ok (.iconst 0, 1) := by decide +kernel
theorem dX8_setWeight_3 : decode cX8_setWeight 3 = .ok (.bipush 99, 2) := by decide +kernel
theorem dX8_setWeight_5 : decode cX8_setWeight 5 = .ok (.invokestatic 33, 3) := by decide +kernel
theorem dX8_setWeight_8 : decode cX8_setWeight 8 = .ok (.ifCond .ne 7, 3) := by decide +kernel
theorem dX8_setWeight_11 : decode cX8_setWeight 11 = .ok (.iconst 1, 1) := by decide +kernel
theorem dX8_setWeight_12 : decode cX8_setWeight 12 = .ok (.goto 9, 3) := by decide +kernel
theorem dX8_setWeight_15 : decode cX8_setWeight 15 = .ok (.aload_n 0, 1) := by decide +kernel
theorem dX8_setWeight_16 : decode cX8_setWeight 16 = .ok (.iload_n 1, 1) := by decide +kernel
theorem dX8_setWeight_17 : decode cX8_setWeight 17 = .ok (.iload_n 2, 1) := by decide +kernel
theorem dX8_setWeight_18 : decode cX8_setWeight 18 = .ok (.invokevirtual 109, 3) := by decide +kernel
theorem dX8_setWeight_21 : decode cX8_setWeight 21 = .ok (.putfield 22, 3) := by decide +kernel
theorem dX8_setWeight_24 : decode cX8_setWeight 24 = .ok (.aload_n 0, 1) := by decide +kernel
theorem dX8_setWeight_25 : decode cX8_setWeight 25 = .ok (.getfield 22, 3) := by decide +kernel
theorem dX8_setWeight_28 : decode cX8_setWeight 28 = .ok (.ifCond .le 5, 3) := by decide +kernel
theorem dX8_setWeight_31 : decode cX8_setWeight 31 = .ok (.iconst 0, 1) := by decide +kernel
theorem dX8_setWeight_32 : decode cX8_setWeight 32 = .ok (.ireturn, 1) := by decide +kernel
theorem dX8_setWeight_33 : decode cX8_setWeight 33 = .ok (.aload_n 0, 1) := by decide +kernel
theorem dX8_setWeight_34 : decode cX8_setWeight 34 = .ok (.invokevirtual 100, 3) := by decide +kernel
theorem dX8_setWeight_37 : decode cX8_setWeight 37 = .ok (.aload_n 0, 1) := by decide +kernel
theorem dX8_setWeight_38 : decode cX8_setWeight 38 = .ok (.iload_n 1, 1) := by decide +kernel
theorem dX8_setWeight_39 : decode cX8_setWeight 39 = .ok (.iload_n 2, 1) := by decide +kernel
theorem dX8_setWeight_40 : decode cX8_setWeight 40 = .ok (.invokestatic 44, 3) := by decide +kernel
theorem dX8_setWeight_43 : decode cX8_setWeight 43 = .ok (.invokevirtual 70, 3) := by decide +kernel
theorem dX8_setWeight_46 : decode cX8_setWeight 46 = .ok (.istore 4, 2) := by decide +kernel
theorem dX8_setWeight_48 : decode cX8_setWeight 48 = .ok (.aload_n 0, 1) := by decide +kernel
theorem dX8_setWeight_49 : decode cX8_setWeight 49 = .ok (.getfield 7, 3) := by decide +kernel
theorem dX8_setWeight_52 : decode cX8_setWeight 52 = .ok (.bipush 31, 2) := by decide +kernel
theorem dX8_setWeight_54 : decode cX8_setWeight 54 = .ok (.iload 4, 2) := by decide +kernel
theorem dX8_setWeight_56 : decode cX8_setWeight 56 = .ok (.iadd, 1) := by decide +kernel
theorem dX8_setWeight_57 : decode cX8_setWeight 57 = .ok (.iaload, 1) := by decide +kernel
theorem dX8_setWeight_58 : decode cX8_setWeight 58 = .ok (.istore 5, 2) := by decide +kernel
theorem dX8_setWeight_60 : decode cX8_setWeight 60 = .ok (.aload_n 0, 1) := by decide +kernel
theorem dX8_setWeight_61 : decode cX8_setWeight 61 = .ok (.getfield 7, 3) := by decide +kernel
theorem dX8_setWeight_64 : decode cX8_setWeight 64 = .ok (.bipush 31, 2) := by decide +kernel
theorem dX8_setWeight_66 : decode cX8_setWeight 66 = .ok (.iload 4, 2) := by decide +kernel
theorem dX8_setWeight_68 : decode cX8_setWeight 68 = .ok (.iadd, 1) := by decide +kernel
theorem dX8_setWeight_69 : decode cX8_setWeight 69 = .ok (.iload_n 3, 1) := by decide +kernel
theorem dX8_setWeight_70 : decode cX8_setWeight 70 = .ok (.iastore, 1) := by decide +kernel
theorem dX8_setWeight_71 : decode cX8_setWeight 71 = .ok (.iload 5, 2) := by decide +kernel
theorem dX8_setWeight_73 : decode cX8_setWeight 73 = .ok (.ireturn, 1) := by decide +kernel
set_option maxRecDepth 20000 in
theorem ggX8_isLimit_X8_within : GoodIn wsX8_isLimit wsX8_within := goodIn_r _ [4] (by decide +kernel) (by decide +kernel)
set_option maxRecDepth 20000 in
theorem gX8_isLimit_X8_within : GoodIn wsX8_isLimit (va_wsS RX8 33 yX8_within wsX8_within) := goodIn_app (goodIn_of _ (by decide +kernel)) ggX8_isLimit_X8_within
theorem dX8_isLimit_0 : decode cX8_isLimit 0 = .ok (.iload_n 0, 1) := by decide +kernel
theorem dX8_isLimit_1 : decode cX8_isLimit 1 = .ok (.iconst 1, 1) := by decide +kernel
theorem dX8_isLimit_2 : decode cX8_isLimit 2 = .ok (.bipush 8, 2) := by decide +kernel
theorem dX8_isLimit_4 : decode cX8_isLimit 4 = .ok (.invokestatic 33, 3) := by decide +kernel
theorem dX8_isLimit_7 : decode cX8_isLimit 7 = .ok (.ireturn, 1) := by decide +kernel
set_option maxRecDepth 20000 in
theorem ggX8_setLimit_X8_isLimit : GoodIn wsX8_setLimit wsX8_isLimit := goodIn_r _ [6, 7, 8, 5, 9] (by decide +kernel) (by decide +kernel)
set_option maxRecDepth 20000 in
theorem gX8_setLimit_X8_isLimit : GoodIn wsX8_setLimit (va_wsS RX8 115 yX8_isLimit wsX8_isLimit) := goodIn_app (goodIn_of _ (by decide +kernel)) ggX8_setLimit_X8_isLimit
set_option maxRecDepth 20000 in
theorem ggX8_setLimit_X8_save : GoodIn wsX8_setLimit wsX8_save := goodIn_r _ [13, 14, 15, 2, 16, 17, 5, 18, 19, 20, 21, 22, 23, 24, 25, 26, 27, 28, 29, 30] (by decide +kernel) (by decide +kernel)
set_option maxRecDepth 20000 in
theorem gX8_setLimit_X8_save : GoodIn wsX8_setLimit (wsV RX8 100 RX8 yX8_save wsX8_save) := goodIn_app (goodIn_of _ (by decide +kernel)) ggX8_setLimit_X8_save
theorem dX8_setLimit_0 : decode cX8_setLimit 0 = .ok (.aload_n 0, 1) := by decide +kernel
theorem dX8_setLimit_1 : decode cX8_setLimit 1 = .ok (.iload_n 1, 1) := by decide +kernel
theorem dX8_setLimit_2 : decode cX8_setLimit 2 = .ok (.invokestatic 115, 3) := by decide +kernel
theorem dX8_setLimit_5 : decode cX8_setLimit 5 = .ok (.ifCond .eq 7, 3) := by decide +kernel
theorem dX8_setLimit_8 : decode cX8_setLimit 8 = .ok (.iconst 0, 1) := by decide +kernel
theorem dX8_setLimit_9 : decode cX8_setLimit 9 = .ok (.goto 4, 3) := by decide +kernel
theorem dX8_setLimit_12 : decode cX8_setLimit 12 = .ok (.iconst 1, 1) := by decide +kernel
theorem dX8_setLimit_13 : decode cX8_setLimit 13 = .ok (.putfield 22, 3) := by decide +kernel
theorem dX8_setLimit_16 : decode cX8_setLimit 16 = .ok (.aload_n 0, 1) := by decide +kernel
theorem dX8_setLimit_17 : decode cX8_setLimit 17 = .ok (.getfield 22, 3) := by decide +kernel
theorem dX8_setLimit_20 : decode cX8_setLimit 20 = .ok (.ifCond .le 5, 3) := by decide +kernel
theorem dX8_setLimit_23 : decode cX8_setLimit 23 = .ok (.iconst 0, 1) := by decide +kernel
theorem dX8_setLimit_24 : decode cX8_setLimit 24 = .ok (.ireturn, 1) := by decide +kernel
theorem dX8_setLimit_25 : decode cX8_setLimit 25 = .ok (.aload_n 0, 1) := by decide +kernel
theorem dX8_setLimit_26 : decode cX8_setLimit 26 = .ok (.invokevirtual 100, 3) := by decide +kernel
theorem dX8_setLimit_29 : decode cX8_setLimit 29 = .ok (.aload_n 0, 1) := by decide +kernel
theorem dX8_setLimit_30 : decode cX8_setLimit 30 = .ok (.getfield 7, 3) := by decide +kernel
theorem dX8_setLimit_33 : decode cX8_setLimit 33 = .ok (.iconst 0, 1) := by decide +kernel
theorem dX8_setLimit_34 : decode cX8_setLimit 34 = .ok (.iaload, 1) := by decide +kernel
theorem dX8_setLimit_35 : decode cX8_setLimit 35 = .ok (.istore_n 2, 1) := by decide +kernel
theorem dX8_setLimit_36 : decode cX8_setLimit 36 = .ok (.aload_n 0, 1) := by decide +kernel
theorem dX8_setLimit_37 : decode cX8_setLimit 37 = .ok (.getfield 7, 3) := by decide +kernel
theorem dX8_setLimit_40 : decode cX8_setLimit 40 = .ok (.iconst 0, 1) := by decide +kernel
theorem dX8_setLimit_41 : decode cX8_setLimit 41 = .ok (.iload_n 1, 1) := by decide +kernel
theorem dX8_setLimit_42 : decode cX8_setLimit 42 = .ok (.iastore, 1) := by decide +kernel
theorem dX8_setLimit_43 : decode cX8_setLimit 43 = .ok (.iload_n 2, 1) := by decide +kernel
theorem dX8_setLimit_44 : decode cX8_setLimit 44 = .ok (.ireturn, 1) := by decide +kernel
set_option maxRecDepth 20000 in
theorem ggX8_whyNotMoved_X8_isPrefix : GoodIn wsX8_whyNotMoved wsX8_isPrefix := goodIn_r _ [4, 5, 6, 3, 7] (by decide +kernel) (by decide +kernel)
set_option maxRecDepth 20000 in
theorem gX8_whyNotMoved_X8_isPrefix : GoodIn wsX8_whyNotMoved (va_wsS RX8 83 yX8_isPrefix wsX8_isPrefix) := goodIn_app (goodIn_of _ (by decide +kernel)) ggX8_whyNotMoved_X8_isPrefix
set_option maxRecDepth 20000 in
theorem ggX8_whyNotMoved_X8_code : GoodIn wsX8_whyNotMoved wsX8_code := goodIn_r _ [10] (by decide +kernel) (by decide +kernel)
set_option maxRecDepth 20000 in
theorem gX8_whyNotMoved_X8_code : GoodIn wsX8_whyNotMoved (va_wsS RX8 44 yX8_code wsX8_code) := goodIn_app (goodIn_of _ (by decide +kernel)) ggX8_whyNotMoved_X8_code
set_option maxRecDepth 20000 in
theorem ggX8_whyNotMoved_X8_findHouse : GoodIn wsX8_whyNotMoved wsX8_findHouse := goodIn_r _ [14, 15, 16, 17, 18, 3, 19, 60, 61, 62, 63, 64, 65, 66, 67, 68, 69, 70, 71] (by decide +kernel) (by decide +kernel)
set_option maxRecDepth 20000 in
theorem gX8_whyNotMoved_X8_findHouse : GoodIn wsX8_whyNotMoved (wsV RX8 89 RX8 yX8_findHouse wsX8_findHouse) := goodIn_app (goodIn_of _ (by decide +kernel)) ggX8_whyNotMoved_X8_findHouse
set_option maxRecDepth 20000 in
theorem ggX8_whyNotMoved_X8_whyNoMove : GoodIn wsX8_whyNotMoved wsX8_whyNoMove := goodIn_r _ [23, 15, 16, 17, 18, 3, 19, 24, 25, 26, 27, 28, 29, 30, 31, 32, 33, 34, 35, 36, 37, 38, 39, 40, 41, 42, 43, 44, 45, 46, 47, 48, 49, 50, 51, 52, 53, 54, 55, 8, 9, 10, 56, 57, 58, 59, 60, 61, 62, 63, 64, 65, 66, 67, 68, 69, 70, 71] (by decide +kernel) (by decide +kernel)
set_option maxRecDepth 20000 in
theorem gX8_whyNotMoved_X8_whyNoMove : GoodIn wsX8_whyNotMoved (wsV RX8 118 RX8 yX8_whyNoMove wsX8_whyNoMove) := goodIn_app (goodIn_of _ (by decide +kernel)) ggX8_whyNotMoved_X8_whyNoMove
theorem dX8_whyNotMoved_0 : decode cX8_whyNotMoved 0 = .ok (.iload_n 1, 1) := by decide +kernel
theorem dX8_whyNotMoved_1 : decode cX8_whyNotMoved 1 = .ok (.iload_n 2, 1) := by decide +kernel
theorem dX8_whyNotMoved_2 : decode cX8_whyNotMoved 2 = .ok (.iconst 0, 1) := by decide +kernel
theorem dX8_whyNotMoved_3 : decode cX8_whyNotMoved 3 = .ok (.invokestatic 83, 3) := by decide +kernel
theorem dX8_whyNotMoved_6 : decode cX8_whyNotMoved 6 = .ok (.ifCond .ne 5, 3) := by decide +kernel
theorem dX8_whyNotMoved_9 : decode cX8_whyNotMoved 9 = .ok (.iconst 1, 1) := by decide +kernel
theorem dX8_whyNotMoved_10 : decode cX8_whyNotMoved 10 = .ok (.ireturn, 1) := by decide +kernel
theorem dX8_whyNotMoved_11 : decode cX8_whyNotMoved 11 = .ok (.aload_n 0, 1) := by decide +kernel
theorem dX8_whyNotMoved_12 : decode cX8_whyNotMoved 12 = .ok (.iload_n 1, 1) := by decide +kernel
theorem dX8_whyNotMoved_13 : decode cX8_whyNotMoved 13 = .ok (.iload_n 2, 1) := by decide +kernel
theorem dX8_whyNotMoved_14 : decode cX8_whyNotMoved 14 = .ok (.invokestatic 44, 3) := by decide +kernel
theorem dX8_whyNotMoved_17 : decode cX8_whyNotMoved 17 = .ok (.invokevirtual 89, 3) := by decide +kernel
theorem dX8_whyNotMoved_20 : decode cX8_whyNotMoved 20 = .ok (.istore_n 3, 1) := by decide +kernel
theorem dX8_whyNotMoved_21 : decode cX8_whyNotMoved 21 = .ok (.iload_n 3, 1) := by decide +kernel
theorem dX8_whyNotMoved_22 : decode cX8_whyNotMoved 22 = .ok (.iconst (-1), 1) := by decide +kernel
theorem dX8_whyNotMoved_23 : decode cX8_whyNotMoved 23 = .ok (.if_icmp .eq 11, 3) := by decide +kernel
theorem dX8_whyNotMoved_26 : decode cX8_whyNotMoved 26 = .ok (.aload_n 0, 1) := by decide +kernel
theorem dX8_whyNotMoved_27 : decode cX8_whyNotMoved 27 = .ok (.iload_n 3, 1) := by decide +kernel
theorem dX8_whyNotMoved_28 : decode cX8_whyNotMoved 28 = .ok (.invokevirtual 118, 3) := by decide +kernel
theorem dX8_whyNotMoved_31 : decode cX8_whyNotMoved 31 = .ok (.ifCond .le 7, 3) := by decide +kernel
theorem dX8_whyNotMoved_34 : decode cX8_whyNotMoved 34 = .ok (.iconst 2, 1) := by decide +kernel
theorem dX8_whyNotMoved_35 : decode cX8_whyNotMoved 35 = .ok (.goto 4, 3) := by decide +kernel
theorem dX8_whyNotMoved_38 : decode cX8_whyNotMoved 38 = .ok (.iconst 0, 1) := by decide +kernel
theorem dX8_whyNotMoved_39 : decode cX8_whyNotMoved 39 = .ok (.ireturn, 1) := by decide +kernel
set_option maxRecDepth 20000 in
theorem ggX8_moves_X8_labelOf : GoodIn wsX8_moves wsX8_labelOf := goodIn_r _ [6, 7, 8, 9, 5, 10, 1, 11, 12, 13, 14, 15, 16, 17, 18, 19, 20, 21, 22, 23, 24, 25, 26, 27, 28, 29, 34, 35, 36, 37, 38, 39, 40, 41, 42, 43, 44, 45] (by decide +kernel) (by decide +kernel)
set_option maxRecDepth 20000 in
theorem gX8_moves_X8_labelOf : GoodIn wsX8_moves (wsV RX8 76 RX8 yX8_labelOf wsX8_labelOf) := goodIn_app (goodIn_of _ (by decide +kernel)) ggX8_moves_X8_labelOf
set_option maxRecDepth 20000 in
theorem ggX8_moves_X8_dropHouse : GoodIn wsX8_moves wsX8_dropHouse := goodIn_r _ [33, 1, 7, 8, 9, 5, 10, 34, 35, 36, 37, 38, 39, 40, 41, 42, 43, 44, 45] (by decide +kernel) (by decide +kernel)
set_option maxRecDepth 20000 in
theorem gX8_moves_X8_dropHouse : GoodIn wsX8_moves (wsV RX8 106 RX8 yX8_dropHouse wsX8_dropHouse) := goodIn_app (goodIn_of _ (by decide +kernel)) ggX8_moves_X8_dropHouse
theorem dX8_moves_0 : decode cX8_moves 0 = .ok (.aload_n 0, 1) := by decide +kernel
theorem dX8_moves_1 : decode cX8_moves 1 = .ok (.iload_n 1, 1) := by decide +kernel
theorem dX8_moves_2 : decode cX8_moves 2 = .ok (.invokevirtual 76, 3) := by decide +kernel
theorem dX8_moves_5 : decode cX8_moves 5 = .ok (.aload_n 0, 1) := by decide +kernel
theorem dX8_moves_6 : decode cX8_moves 6 = .ok (.iload_n 1, 1) := by decide +kernel
theorem dX8_moves_7 : decode cX8_moves 7 = .ok (.iconst 1, 1) := by decide +kernel
theorem dX8_moves_8 : decode cX8_moves 8 = .ok (.iadd, 1) := by decide +kernel
theorem dX8_moves_9 : decode cX8_moves 9 = .ok (.invokevirtual 76, 3) := by decide +kernel
theorem dX8_moves_12 : decode cX8_moves 12 = .ok (.iadd, 1) := by decide +kernel
theorem dX8_moves_13 : decode cX8_moves 13 = .ok (.istore_n 2, 1) := by decide +kernel
theorem dX8_moves_14 : decode cX8_moves 14 = .ok (.aload_n 0, 1) := by decide +kernel
theorem dX8_moves_15 : decode cX8_moves 15 = .ok (.iload_n 1, 1) := by decide +kernel
theorem dX8_moves_16 : decode cX8_moves 16 = .ok (.invokevirtual 106, 3) := by decide +kernel
theorem dX8_moves_19 : decode cX8_moves 19 = .ok (.aload_n 0, 1) := by decide +kernel
theorem dX8_moves_20 : decode cX8_moves 20 = .ok (.getfield 7, 3) := by decide +kernel
theorem dX8_moves_23 : decode cX8_moves 23 = .ok (.iconst 3, 1) := by decide +kernel
theorem dX8_moves_24 : decode cX8_moves 24 = .ok (.dup2, 1) := by decide +kernel
theorem dX8_moves_25 : decode cX8_moves 25 = .ok (.iaload, 1) := by decide +kernel
theorem dX8_moves_26 : decode cX8_moves 26 = .ok (.iconst 1, 1) := by decide +kernel
theorem dX8_moves_27 : decode cX8_moves 27 = .ok (.iadd, 1) := by decide +kernel
theorem dX8_moves_28 : decode cX8_moves 28 = .ok (.iastore, 1) := by decide +kernel
theorem dX8_moves_29 : decode cX8_moves 29 = .ok (.iload_n 2, 1) := by decide +kernel
theorem dX8_moves_30 : decode cX8_moves 30 = .ok (.ireturn, 1) := by decide +kernel
set_option maxRecDepth 20000 in
theorem ggX8_moveIn_X8_whyNotMoved : GoodIn wsX8_moveIn wsX8_whyNotMoved := goodIn_r _ [6, 7, 8, 5, 9, 10, 11, 12, 13, 14, 15, 16, 17, 18, 19, 20, 21, 22, 23, 24, 25, 26, 27, 28, 29, 30, 31, 32, 33, 34, 35, 36, 37, 38, 39, 40, 41, 42, 43, 44, 45, 46, 47, 48, 49, 50, 51, 52, 53, 54, 55, 56, 57, 58, 59, 60, 61, 62, 63, 64, 82, 83, 84, 85, 86, 87, 88, 89, 90, 91, 92, 93] (by decide +kernel) (by decide +kernel)
set_option maxRecDepth 20000 in
theorem gX8_moveIn_X8_whyNotMoved : GoodIn wsX8_moveIn (wsV RX8 121 RX8 yX8_whyNotMoved wsX8_whyNotMoved) := goodIn_app (goodIn_of _ (by decide +kernel)) ggX8_moveIn_X8_whyNotMoved
set_option maxRecDepth 20000 in
theorem ggX8_moveIn_X8_save : GoodIn wsX8_moveIn wsX8_save := goodIn_r _ [68, 69, 70, 20, 71, 72, 5, 73, 82, 83, 84, 85, 86, 87, 88, 89, 90, 91, 92, 93] (by decide +kernel) (by decide +kernel)
set_option maxRecDepth 20000 in
theorem gX8_moveIn_X8_save : GoodIn wsX8_moveIn (wsV RX8 100 RX8 yX8_save wsX8_save) := goodIn_app (goodIn_of _ (by decide +kernel)) ggX8_moveIn_X8_save
set_option maxRecDepth 20000 in
theorem ggX8_moveIn_X8_code : GoodIn wsX8_moveIn wsX8_code := goodIn_r _ [15] (by decide +kernel) (by decide +kernel)
set_option maxRecDepth 20000 in
theorem gX8_moveIn_X8_code : GoodIn wsX8_moveIn (va_wsS RX8 44 yX8_code wsX8_code) := goodIn_app (goodIn_of _ (by decide +kernel)) ggX8_moveIn_X8_code
set_option maxRecDepth 20000 in
theorem ggX8_moveIn_X8_findHouse : GoodIn wsX8_moveIn wsX8_findHouse := goodIn_r _ [19, 20, 21, 22, 23, 5, 24, 82, 83, 84, 85, 86, 87, 88, 89, 90, 91, 92, 93] (by decide +kernel) (by decide +kernel)
set_option maxRecDepth 20000 in
theorem gX8_moveIn_X8_findHouse : GoodIn wsX8_moveIn (wsV RX8 89 RX8 yX8_findHouse wsX8_findHouse) := goodIn_app (goodIn_of _ (by decide +kernel)) ggX8_moveIn_X8_findHouse
set_option maxRecDepth 20000 in
theorem ggX8_moveIn_X8_moves : GoodIn wsX8_moveIn wsX8_moves := goodIn_r _ [77, 20, 61, 62, 63, 5, 64, 21, 22, 23, 24, 52, 53, 54, 45, 46, 47, 48, 49, 50, 51, 55, 56, 57, 58, 59, 60, 13, 14, 15, 78, 79, 80, 81, 82, 83, 84, 85, 86, 87, 88, 89, 90, 91, 92, 93] (by decide +kernel) (by decide +kernel)
set_option maxRecDepth 20000 in
theorem gX8_moveIn_X8_moves : GoodIn wsX8_moveIn (wsV RX8 124 RX8 yX8_moves wsX8_moves) := goodIn_app (goodIn_of _ (by decide +kernel)) ggX8_moveIn_X8_moves
theorem dX8_moveIn_0 : decode cX8_moveIn 0 = .ok (.aload_n 0, 1) := by decide +kernel
theorem dX8_moveIn_1 : decode cX8_moveIn 1 = .ok (.aload_n 0, 1) := by decide +kernel
theorem dX8_moveIn_2 : decode cX8_moveIn 2 = .ok (.iload_n 1, 1) := by decide +kernel
theorem dX8_moveIn_3 : decode cX8_moveIn 3 = .ok (.iload_n 2, 1) := by decide +kernel
theorem dX8_moveIn_4 : decode cX8_moveIn 4 = .ok (.invokevirtual 121, 3) := by decide +kernel
theorem dX8_moveIn_7 : decode cX8_moveIn 7 = .ok (.putfield 22, 3) := by decide +kernel
theorem dX8_moveIn_10 : decode cX8_moveIn 10 = .ok (.aload_n 0, 1) := by decide +kernel
theorem dX8_moveIn_11 : decode cX8_moveIn 11 = .ok (.getfield 22, 3) := by decide +kernel
theorem dX8_moveIn_14 : decode cX8_moveIn 14 = .ok (.ifCond .le 5, 3) := by decide +kernel
theorem dX8_moveIn_17 : decode cX8_moveIn 17 = .ok (.iconst 0, 1) := by decide +kernel
theorem dX8_moveIn_18 : decode cX8_moveIn 18 = .ok (.ireturn, 1) := by decide +kernel
theorem dX8_moveIn_19 : decode cX8_moveIn 19 = .ok (.aload_n 0, 1) := by decide +kernel
theorem dX8_moveIn_20 : decode cX8_moveIn 20 = .ok (.invokevirtual 100, 3) := by decide +kernel
theorem dX8_moveIn_23 : decode cX8_moveIn 23 = .ok (.aload_n 0, 1) := by decide +kernel
theorem dX8_moveIn_24 : decode cX8_moveIn 24 = .ok (.aload_n 0, 1) := by decide +kernel
theorem dX8_moveIn_25 : decode cX8_moveIn 25 = .ok (.iload_n 1, 1) := by decide +kernel
theorem dX8_moveIn_26 : decode cX8_moveIn 26 = .ok (.iload_n 2, 1) := by decide +kernel
theorem dX8_moveIn_27 : decode cX8_moveIn 27 = .ok (.invokestatic 44, 3) := by decide +kernel
theorem dX8_moveIn_30 : decode cX8_moveIn 30 = .ok (.invokevirtual 89, 3) := by decide +kernel
theorem dX8_moveIn_33 : decode cX8_moveIn 33 = .ok (.invokevirtual 124, 3) := by decide +kernel
theorem dX8_moveIn_36 : decode cX8_moveIn 36 = .ok (.ireturn, 1) := by decide +kernel
set_option maxRecDepth 20000 in
theorem ggX8_whyNotEvicted_X8_isPrefix : GoodIn wsX8_whyNotEvicted wsX8_isPrefix := goodIn_r _ [4, 5, 6, 3, 7] (by decide +kernel) (by decide +kernel)
set_option maxRecDepth 20000 in
theorem gX8_whyNotEvicted_X8_isPrefix : GoodIn wsX8_whyNotEvicted (va_wsS RX8 83 yX8_isPrefix wsX8_isPrefix) := goodIn_app (goodIn_of _ (by decide +kernel)) ggX8_whyNotEvicted_X8_isPrefix
set_option maxRecDepth 20000 in
theorem ggX8_whyNotEvicted_X8_code : GoodIn wsX8_whyNotEvicted wsX8_code := goodIn_r _ [10] (by decide +kernel) (by decide +kernel)
set_option maxRecDepth 20000 in
theorem gX8_whyNotEvicted_X8_code : GoodIn wsX8_whyNotEvicted (va_wsS RX8 44 yX8_code wsX8_code) := goodIn_app (goodIn_of _ (by decide +kernel)) ggX8_whyNotEvicted_X8_code
set_option maxRecDepth 20000 in
theorem ggX8_whyNotEvicted_X8_isInTown : GoodIn wsX8_whyNotEvicted wsX8_isInTown := goodIn_r _ [14, 15, 16, 3, 17, 18, 19, 20, 21, 22, 23, 24, 25, 26, 27, 28, 29, 30, 31, 32, 33, 34, 35, 8, 9, 10, 44, 45, 46, 47, 48, 49, 50, 51, 52, 53, 54, 55] (by decide +kernel) (by decide +kernel)
set_option maxRecDepth 20000 in
theorem gX8_whyNotEvicted_X8_isInTown : GoodIn wsX8_whyNotEvicted (wsV RX8 79 RX8 yX8_isInTown wsX8_isInTown) := goodIn_app (goodIn_of _ (by decide +kernel)) ggX8_whyNotEvicted_X8_isInTown
set_option maxRecDepth 20000 in
theorem ggX8_whyNotEvicted_X8_findHouse : GoodIn wsX8_whyNotEvicted wsX8_findHouse := goodIn_r _ [39, 22, 40, 41, 42, 3, 43, 44, 45, 46, 47, 48, 49, 50, 51, 52, 53, 54, 55] (by decide +kernel) (by decide +kernel)
set_option maxRecDepth 20000 in
theorem gX8_whyNotEvicted_X8_findHouse : GoodIn wsX8_whyNotEvicted (wsV RX8 89 RX8 yX8_findHouse wsX8_findHouse) := goodIn_app (goodIn_of _ (by decide +kernel)) ggX8_whyNotEvicted_X8_findHouse
theorem dX8_whyNotEvicted_0 : decode cX8_whyNotEvicted 0 = .ok (.iload_n 1, 1) := by decide +kernel
theorem dX8_whyNotEvicted_1 : decode cX8_whyNotEvicted 1 = .ok (.iload_n 2, 1) := by decide +kernel
theorem dX8_whyNotEvicted_2 : decode cX8_whyNotEvicted 2 = .ok (.iconst 0, 1) := by decide +kernel
theorem dX8_whyNotEvicted_3 : decode cX8_whyNotEvicted 3 = .ok (.invokestatic 83, 3) := by decide +kernel
theorem dX8_whyNotEvicted_6 : decode cX8_whyNotEvicted 6 = .ok (.ifCond .ne 5, 3) := by decide +kernel
theorem dX8_whyNotEvicted_9 : decode cX8_whyNotEvicted 9 = .ok (.iconst 1, 1) := by decide +kernel
theorem dX8_whyNotEvicted_10 : decode cX8_whyNotEvicted 10 = .ok (.ireturn, 1) := by decide +kernel
theorem dX8_whyNotEvicted_11 : decode cX8_whyNotEvicted 11 = .ok (.iload_n 1, 1) := by decide +kernel
theorem dX8_whyNotEvicted_12 : decode cX8_whyNotEvicted 12 = .ok (.iload_n 2, 1) := by decide +kernel
theorem dX8_whyNotEvicted_13 : decode cX8_whyNotEvicted 13 = .ok (.invokestatic 44, 3) := by decide +kernel
theorem dX8_whyNotEvicted_16 : decode cX8_whyNotEvicted 16 = .ok (.istore_n 3, 1) := by decide +kernel
theorem dX8_whyNotEvicted_17 : decode cX8_whyNotEvicted 17 = .ok (.aload_n 0, 1) := by decide +kernel
theorem dX8_whyNotEvicted_18 : decode cX8_whyNotEvicted 18 = .ok (.iload_n 3, 1) := by decide +kernel
theorem dX8_whyNotEvicted_19 : decode cX8_whyNotEvicted 19 = .ok (.invokevirtual 79, 3) := by decide +kernel
theorem dX8_whyNotEvicted_22 : decode cX8_whyNotEvicted 22 = .ok (.ifCond .eq 12, 3) := by decide +kernel
theorem dX8_whyNotEvicted_25 : decode cX8_whyNotEvicted 25 = .ok (.aload_n 0, 1) := by decide +kernel
theorem dX8_whyNotEvicted_26 : decode cX8_whyNotEvicted 26 = .ok (.iload_n 3, 1) := by decide +kernel
theorem dX8_whyNotEvicted_27 : decode cX8_whyNotEvicted 27 = .ok (.invokevirtual 89, 3) := by decide +kernel
theorem dX8_whyNotEvicted_30 : decode cX8_whyNotEvicted 30 = .ok (.iconst (-1), 1) := by decide +kernel
theorem dX8_whyNotEvicted_31 : decode cX8_whyNotEvicted 31 = .ok (.if_icmp .eq 7, 3) := by decide +kernel
theorem dX8_whyNotEvicted_34 : decode cX8_whyNotEvicted 34 = .ok (.iconst 2, 1) := by decide +kernel
theorem dX8_whyNotEvicted_35 : decode cX8_whyNotEvicted 35 = .ok (.goto 4, 3) := by decide +kernel
theorem dX8_whyNotEvicted_38 : decode cX8_whyNotEvicted 38 = .ok (.iconst 0, 1) := by decide +kernel
theorem dX8_whyNotEvicted_39 : decode cX8_whyNotEvicted 39 = .ok (.ireturn, 1) := by decide +kernel
set_option maxRecDepth 20000 in
theorem ggX8_evicts_X8_addHouse : GoodIn wsX8_evicts wsX8_addHouse := goodIn_r _ [6, 1, 7, 8, 9, 5, 10, 38, 39, 40, 41, 42, 43, 44, 45, 46, 47, 48, 49] (by decide +kernel) (by decide +kernel)
set_option maxRecDepth 20000 in
theorem gX8_evicts_X8_addHouse : GoodIn wsX8_evicts (wsV RX8 92 RX8 yX8_addHouse wsX8_addHouse) := goodIn_app (goodIn_of _ (by decide +kernel)) ggX8_evicts_X8_addHouse
set_option maxRecDepth 20000 in
theorem ggX8_evicts_X8_findHouse : GoodIn wsX8_evicts wsX8_findHouse := goodIn_r _ [14, 1, 7, 8, 9, 5, 10, 38, 39, 40, 41, 42, 43, 44, 45, 46, 47, 48, 49] (by decide +kernel) (by decide +kernel)
set_option maxRecDepth 20000 in
theorem gX8_evicts_X8_findHouse : GoodIn wsX8_evicts (wsV RX8 89 RX8 yX8_findHouse wsX8_findHouse) := goodIn_app (goodIn_of _ (by decide +kernel)) ggX8_evicts_X8_findHouse
set_option maxRecDepth 20000 in
theorem ggX8_evicts_X8_labelOf : GoodIn wsX8_evicts wsX8_labelOf := goodIn_r _ [18, 7, 8, 9, 5, 10, 1, 19, 20, 21, 22, 23, 24, 25, 26, 27, 28, 29, 30, 31, 32, 33, 34, 35, 36, 37, 38, 39, 40, 41, 42, 43, 44, 45, 46, 47, 48, 49] (by decide +kernel) (by decide +kernel)
set_option maxRecDepth 20000 in
theorem gX8_evicts_X8_labelOf : GoodIn wsX8_evicts (wsV RX8 76 RX8 yX8_labelOf wsX8_labelOf) := goodIn_app (goodIn_of _ (by decide +kernel)) ggX8_evicts_X8_labelOf
theorem dX8_evicts_0 : decode cX8_evicts 0 = .ok (.aload_n 0, 1) := by decide +kernel
theorem dX8_evicts_1 : decode cX8_evicts 1 = .ok (.iload_n 1, 1) := by decide +kernel
theorem dX8_evicts_2 : decode cX8_evicts 2 = .ok (.invokevirtual 92, 3) := by decide +kernel
theorem dX8_evicts_5 : decode cX8_evicts 5 = .ok (.aload_n 0, 1) := by decide +kernel
theorem dX8_evicts_6 : decode cX8_evicts 6 = .ok (.getfield 7, 3) := by decide +kernel
theorem dX8_evicts_9 : decode cX8_evicts 9 = .ok (.iconst 4, 1) := by decide +kernel
theorem dX8_evicts_10 : decode cX8_evicts 10 = .ok (.dup2, 1) := by decide +kernel
theorem dX8_evicts_11 : decode cX8_evicts 11 = .ok (.iaload, 1) := by decide +kernel
theorem dX8_evicts_12 : decode cX8_evicts 12 = .ok (.iconst 1, 1) := by decide +kernel
theorem dX8_evicts_13 : decode cX8_evicts 13 = .ok (.iadd, 1) := by decide +kernel
theorem dX8_evicts_14 : decode cX8_evicts 14 = .ok (.iastore, 1) := by decide +kernel
theorem dX8_evicts_15 : decode cX8_evicts 15 = .ok (.aload_n 0, 1) := by decide +kernel
theorem dX8_evicts_16 : decode cX8_evicts 16 = .ok (.aload_n 0, 1) := by decide +kernel
theorem dX8_evicts_17 : decode cX8_evicts 17 = .ok (.iload_n 1, 1) := by decide +kernel
theorem dX8_evicts_18 : decode cX8_evicts 18 = .ok (.invokevirtual 89, 3) := by decide +kernel
theorem dX8_evicts_21 : decode cX8_evicts 21 = .ok (.iconst 1, 1) := by decide +kernel
theorem dX8_evicts_22 : decode cX8_evicts 22 = .ok (.iadd, 1) := by decide +kernel
theorem dX8_evicts_23 : decode cX8_evicts 23 = .ok (.invokevirtual 76, 3) := by decide +kernel
theorem dX8_evicts_26 : decode cX8_evicts 26 = .ok (.ireturn, 1) := by decide +kernel
set_option maxRecDepth 20000 in
theorem ggX8_evict_X8_whyNotEvicted : GoodIn wsX8_evict wsX8_whyNotEvicted := goodIn_r _ [6, 7, 8, 5, 9, 10, 11, 12, 13, 14, 15, 16, 17, 18, 19, 20, 21, 22, 23, 24, 25, 26, 27, 28, 29, 30, 31, 32, 33, 34, 35, 36, 37, 38, 39, 40, 41, 42, 43, 44, 45, 46, 47, 48, 74, 75, 76, 77, 78, 79, 80, 81, 82, 83, 84, 85] (by decide +kernel) (by decide +kernel)
set_option maxRecDepth 20000 in
theorem gX8_evict_X8_whyNotEvicted : GoodIn wsX8_evict (wsV RX8 127 RX8 yX8_whyNotEvicted wsX8_whyNotEvicted) := goodIn_app (goodIn_of _ (by decide +kernel)) ggX8_evict_X8_whyNotEvicted
set_option maxRecDepth 20000 in
theorem ggX8_evict_X8_save : GoodIn wsX8_evict wsX8_save := goodIn_r _ [52, 53, 54, 27, 55, 56, 5, 57, 74, 75, 76, 77, 78, 79, 80, 81, 82, 83, 84, 85] (by decide +kernel) (by decide +kernel)
set_option maxRecDepth 20000 in
theorem gX8_evict_X8_save : GoodIn wsX8_evict (wsV RX8 100 RX8 yX8_save wsX8_save) := goodIn_app (goodIn_of _ (by decide +kernel)) ggX8_evict_X8_save
set_option maxRecDepth 20000 in
theorem ggX8_evict_X8_code : GoodIn wsX8_evict wsX8_code := goodIn_r _ [15] (by decide +kernel) (by decide +kernel)
set_option maxRecDepth 20000 in
theorem gX8_evict_X8_code : GoodIn wsX8_evict (va_wsS RX8 44 yX8_code wsX8_code) := goodIn_app (goodIn_of _ (by decide +kernel)) ggX8_evict_X8_code
set_option maxRecDepth 20000 in
theorem ggX8_evict_X8_evicts : GoodIn wsX8_evict wsX8_evicts := goodIn_r _ [61, 27, 62, 63, 64, 5, 65, 45, 46, 47, 48, 41, 42, 43, 44, 66, 67, 68, 69, 20, 21, 22, 70, 71, 72, 73, 32, 33, 34, 35, 36, 37, 38, 39, 40, 13, 14, 15, 74, 75, 76, 77, 78, 79, 80, 81, 82, 83, 84, 85] (by decide +kernel) (by decide +kernel)
set_option maxRecDepth 20000 in
theorem gX8_evict_X8_evicts : GoodIn wsX8_evict (wsV RX8 130 RX8 yX8_evicts wsX8_evicts) := goodIn_app (goodIn_of _ (by decide +kernel)) ggX8_evict_X8_evicts
theorem dX8_evict_0 : decode cX8_evict 0 = .ok (.aload_n 0, 1) := by decide +kernel
theorem dX8_evict_1 : decode cX8_evict 1 = .ok (.aload_n 0, 1) := by decide +kernel
theorem dX8_evict_2 : decode cX8_evict 2 = .ok (.iload_n 1, 1) := by decide +kernel
theorem dX8_evict_3 : decode cX8_evict 3 = .ok (.iload_n 2, 1) := by decide +kernel
theorem dX8_evict_4 : decode cX8_evict 4 = .ok (.invokevirtual 127, 3) := by decide +kernel
theorem dX8_evict_7 : decode cX8_evict 7 = .ok (.putfield 22, 3) := by decide +kernel
theorem dX8_evict_10 : decode cX8_evict 10 = .ok (.aload_n 0, 1) := by decide +kernel
theorem dX8_evict_11 : decode cX8_evict 11 = .ok (.getfield 22, 3) := by decide +kernel
theorem dX8_evict_14 : decode cX8_evict 14 = .ok (.ifCond .le 5, 3) := by decide +kernel
theorem dX8_evict_17 : decode cX8_evict 17 = .ok (.iconst 0, 1) := by decide +kernel
theorem dX8_evict_18 : decode cX8_evict 18 = .ok (.ireturn, 1) := by decide +kernel
theorem dX8_evict_19 : decode cX8_evict 19 = .ok (.aload_n 0, 1) := by decide +kernel
theorem dX8_evict_20 : decode cX8_evict 20 = .ok (.invokevirtual 100, 3) := by decide +kernel
theorem dX8_evict_23 : decode cX8_evict 23 = .ok (.aload_n 0, 1) := by decide +kernel
theorem dX8_evict_24 : decode cX8_evict 24 = .ok (.iload_n 1, 1) := by decide +kernel
theorem dX8_evict_25 : decode cX8_evict 25 = .ok (.iload_n 2, 1) := by decide +kernel
theorem dX8_evict_26 : decode cX8_evict 26 = .ok (.invokestatic 44, 3) := by decide +kernel
theorem dX8_evict_29 : decode cX8_evict 29 = .ok (.invokevirtual 130, 3) := by decide +kernel
theorem dX8_evict_32 : decode cX8_evict 32 = .ok (.ireturn, 1) := by decide +kernel
set_option maxRecDepth 20000 in
theorem ggX8_compressed_X8_whyNoMove : GoodIn wsX8_compressed wsX8_whyNoMove := goodIn_r _ [6, 1, 7, 8, 9, 5, 10, 11, 12, 13, 14, 15, 16, 17, 18, 19, 20, 21, 22, 23, 24, 25, 26, 27, 28, 29, 30, 31, 32, 33, 34, 35, 36, 37, 38, 39, 40, 41, 42, 43, 44, 45, 46, 47, 48, 49, 58, 59, 60, 61, 62, 63, 64, 65, 66, 67, 68, 69] (by decide +kernel) (by decide +kernel)
set_option maxRecDepth 20000 in
theorem gX8_compressed_X8_whyNoMove : GoodIn wsX8_compressed (wsV RX8 118 RX8 yX8_whyNoMove wsX8_whyNoMove) := goodIn_app (goodIn_of _ (by decide +kernel)) ggX8_compressed_X8_whyNoMove
set_option maxRecDepth 20000 in
theorem ggX8_compressed_X8_moves : GoodIn wsX8_compressed wsX8_moves := goodIn_r _ [53, 1, 46, 47, 48, 5, 49, 7, 8, 9, 10, 34, 35, 36, 27, 28, 29, 30, 31, 32, 33, 37, 38, 39, 40, 41, 42, 43, 44, 45, 54, 55, 56, 57, 58, 59, 60, 61, 62, 63, 64, 65, 66, 67, 68, 69] (by decide +kernel) (by decide +kernel)
set_option maxRecDepth 20000 in
theorem gX8_compressed_X8_moves : GoodIn wsX8_compressed (wsV RX8 124 RX8 yX8_moves wsX8_moves) := goodIn_app (goodIn_of _ (by decide +kernel)) ggX8_compressed_X8_moves
theorem dX8_compressed_0 : decode cX8_compressed 0 = .ok (.iconst 0, 1) := by decide +kernel
theorem dX8_compressed_1 : decode cX8_compressed 1 = .ok (.istore_n 1, 1) := by decide +kernel
theorem dX8_compressed_2 : decode cX8_compressed 2 = .ok (.iconst 0, 1) := by decide +kernel
theorem dX8_compressed_3 : decode cX8_compressed 3 = .ok (.istore_n 2, 1) := by decide +kernel
theorem dX8_compressed_4 : decode cX8_compressed 4 = .ok (.iload_n 2, 1) := by decide +kernel
theorem dX8_compressed_5 : decode cX8_compressed 5 = .ok (.aload_n 0, 1) := by decide +kernel
theorem dX8_compressed_6 : decode cX8_compressed 6 = .ok (.getfield 7, 3) := by decide +kernel
theorem dX8_compressed_9 : decode cX8_compressed 9 = .ok (.iconst 2, 1) := by decide +kernel
theorem dX8_compressed_10 : decode cX8_compressed 10 = .ok (.iaload, 1) := by decide +kernel
theorem dX8_compressed_11 : decode cX8_compressed 11 = .ok (.if_icmp .ge 31, 3) := by decide +kernel
theorem dX8_compressed_14 : decode cX8_compressed 14 = .ok (.aload_n 0, 1) := by decide +kernel
theorem dX8_compressed_15 : decode cX8_compressed 15 = .ok (.iload_n 2, 1) := by decide +kernel
theorem dX8_compressed_16 : decode cX8_compressed 16 = .ok (.invokevirtual 118, 3) := by decide +kernel
theorem dX8_compressed_19 : decode cX8_compressed 19 = .ok (.ifCond .ne 17, 3) := by decide +kernel
theorem dX8_compressed_22 : decode cX8_compressed 22 = .ok (.aload_n 0, 1) := by decide +kernel
theorem dX8_compressed_23 : decode cX8_compressed 23 = .ok (.iload_n 2, 1) := by decide +kernel
theorem dX8_compressed_24 : decode cX8_compressed 24 = .ok (.invokevirtual 124, 3) := by decide +kernel
theorem dX8_compressed_27 : decode cX8_compressed 27 = .ok (.pop, 1) := by decide +kernel
theorem dX8_compressed_28 : decode cX8_compressed 28 = .ok (.iinc 1 1, 3) := by decide +kernel
theorem dX8_compressed_31 : decode cX8_compressed 31 = .ok (.iconst 0, 1) := by decide +kernel
theorem dX8_compressed_32 : decode cX8_compressed 32 = .ok (.istore_n 2, 1) := by decide +kernel
theorem dX8_compressed_33 : decode cX8_compressed 33 = .ok (.goto (-29), 3) := by decide +kernel
theorem dX8_compressed_36 : decode cX8_compressed 36 = .ok (.iinc 2 1, 3) := by decide +kernel
theorem dX8_compressed_39 : decode cX8_compressed 39 = .ok (.goto (-35), 3) := by decide +kernel
theorem dX8_compressed_42 : decode cX8_compressed 42 = .ok (.iload_n 1, 1) := by decide +kernel
theorem dX8_compressed_43 : decode cX8_compressed 43 = .ok (.ireturn, 1) := by decide +kernel
set_option maxRecDepth 20000 in
theorem ggX8_compress_X8_save : GoodIn wsX8_compress wsX8_save := goodIn_r _ [6, 7, 8, 9, 10, 11, 5, 12, 72, 73, 74, 75, 76, 77, 78, 79, 80, 81, 82, 83] (by decide +kernel) (by decide +kernel)
set_option maxRecDepth 20000 in
theorem gX8_compress_X8_save : GoodIn wsX8_compress (wsV RX8 100 RX8 yX8_save wsX8_save) := goodIn_app (goodIn_of _ (by decide +kernel)) ggX8_compress_X8_save
set_option maxRecDepth 20000 in
theorem ggX8_compress_X8_compressed : GoodIn wsX8_compress wsX8_compressed := goodIn_r _ [16, 9, 17, 18, 19, 5, 20, 21, 22, 23, 24, 25, 26, 27, 28, 29, 30, 31, 32, 33, 34, 35, 36, 37, 38, 39, 40, 41, 42, 43, 44, 45, 46, 47, 48, 49, 50, 51, 52, 53, 54, 55, 56, 57, 58, 59, 60, 61, 62, 63, 64, 65, 66, 67, 68, 69, 70, 71, 72, 73, 74, 75, 76, 77, 78, 79, 80, 81, 82, 83] (by decide +kernel) (by decide +kernel)
set_option maxRecDepth 20000 in
theorem gX8_compress_X8_compressed : GoodIn wsX8_compress (wsV RX8 133 RX8 yX8_compressed wsX8_compressed) := goodIn_app (goodIn_of _ (by decide +kernel)) ggX8_compress_X8_compressed
theorem dX8_compress_0 : decode cX8_compress 0 = .ok (.aload_n 0, 1) := by decide +kernel
theorem dX8_compress_1 : decode cX8_compress 1 = .ok (.iconst 0, 1) := by decide +kernel
theorem dX8_compress_2 : decode cX8_compress 2 = .ok (.putfield 22, 3) := by decide +kernel
theorem dX8_compress_5 : decode cX8_compress 5 = .ok (.aload_n 0, 1) := by decide +kernel
theorem dX8_compress_6 : decode cX8_compress 6 = .ok (.invokevirtual 100, 3) := by decide +kernel
theorem dX8_compress_9 : decode cX8_compress 9 = .ok (.aload_n 0, 1) := by decide +kernel
theorem dX8_compress_10 : decode cX8_compress 10 = .ok (.invokevirtual 133, 3) := by decide +kernel
theorem dX8_compress_13 : decode cX8_compress 13 = .ok (.ireturn, 1) := by decide +kernel
set_option maxRecDepth 20000 in
theorem ggX8_expanded_X8_name : GoodIn wsX8_expanded wsX8_name := goodIn_r _ [6, 1, 46, 47, 48, 49, 50, 51, 52, 53, 54, 55, 56, 57] (by decide +kernel) (by decide +kernel)
set_option maxRecDepth 20000 in
theorem gX8_expanded_X8_name : GoodIn wsX8_expanded (wsV RX8 51 RX8 yX8_name wsX8_name) := goodIn_app (goodIn_of _ (by decide +kernel)) ggX8_expanded_X8_name
set_option maxRecDepth 20000 in
theorem ggX8_expanded_X8_lengthOf : GoodIn wsX8_expanded wsX8_lengthOf := goodIn_r _ [9] (by decide +kernel) (by decide +kernel)
set_option maxRecDepth 20000 in
theorem gX8_expanded_X8_lengthOf : GoodIn wsX8_expanded (va_wsS RX8 37 yX8_lengthOf wsX8_lengthOf) := goodIn_app (goodIn_of _ (by decide +kernel)) ggX8_expanded_X8_lengthOf
set_option maxRecDepth 20000 in
theorem ggX8_expanded_X8_shortened : GoodIn wsX8_expanded wsX8_shortened := goodIn_r _ [12, 13, 14, 5, 15, 7, 8, 9, 16, 17, 18] (by decide +kernel) (by decide +kernel)
set_option maxRecDepth 20000 in
theorem gX8_expanded_X8_shortened : GoodIn wsX8_expanded (va_wsS RX8 48 yX8_shortened wsX8_shortened) := goodIn_app (goodIn_of _ (by decide +kernel)) ggX8_expanded_X8_shortened
set_option maxRecDepth 20000 in
theorem ggX8_expanded_X8_findHouse : GoodIn wsX8_expanded wsX8_findHouse := goodIn_r _ [22, 1, 23, 24, 25, 5, 26, 46, 47, 48, 49, 50, 51, 52, 53, 54, 55, 56, 57] (by decide +kernel) (by decide +kernel)
set_option maxRecDepth 20000 in
theorem gX8_expanded_X8_findHouse : GoodIn wsX8_expanded (wsV RX8 89 RX8 yX8_findHouse wsX8_findHouse) := goodIn_app (goodIn_of _ (by decide +kernel)) ggX8_expanded_X8_findHouse
set_option maxRecDepth 20000 in
theorem ggX8_expanded_X8_evicts : GoodIn wsX8_expanded wsX8_evicts := goodIn_r _ [30, 1, 31, 32, 33, 5, 34, 23, 24, 25, 26, 19, 20, 21, 22, 35, 36, 37, 38, 7, 8, 9, 39, 40, 41, 42, 43, 44, 45, 10, 11, 12, 13, 14, 15, 16, 17, 18, 46, 47, 48, 49, 50, 51, 52, 53, 54, 55, 56, 57] (by decide +kernel) (by decide +kernel)
set_option maxRecDepth 20000 in
theorem gX8_expanded_X8_evicts : GoodIn wsX8_expanded (wsV RX8 130 RX8 yX8_evicts wsX8_evicts) := goodIn_app (goodIn_of _ (by decide +kernel)) ggX8_expanded_X8_evicts
theorem dX8_expanded_0 : decode cX8_expanded 0 = .ok (.iconst 0, 1) := by decide +kernel
theorem dX8_expanded_1 : decode cX8_expanded 1 = .ok (.istore_n 1, 1) := by decide +kernel
theorem dX8_expanded_2 : decode cX8_expanded 2 = .ok (.iconst 0, 1) := by decide +kernel
theorem dX8_expanded_3 : decode cX8_expanded 3 = .ok (.istore_n 2, 1) := by decide +kernel
theorem dX8_expanded_4 : decode cX8_expanded 4 = .ok (.iload_n 2, 1) := by decide +kernel
theorem dX8_expanded_5 : decode cX8_expanded 5 = .ok (.aload_n 0, 1) := by decide +kernel
theorem dX8_expanded_6 : decode cX8_expanded 6 = .ok (.getfield 7, 3) := by decide +kernel
theorem dX8_expanded_9 : decode cX8_expanded 9 = .ok (.iconst 1, 1) := by decide +kernel
theorem dX8_expanded_10 : decode cX8_expanded 10 = .ok (.iaload, 1) := by decide +kernel
theorem dX8_expanded_11 : decode cX8_expanded 11 = .ok (.if_icmp .ge 63, 3) := by decide +kernel
theorem dX8_expanded_14 : decode cX8_expanded 14 = .ok (.iconst 1, 1) := by decide +kernel
theorem dX8_expanded_15 : decode cX8_expanded 15 = .ok (.istore_n 3, 1) := by decide +kernel
theorem dX8_expanded_16 : decode cX8_expanded 16 = .ok (.iload_n 3, 1) := by decide +kernel
theorem dX8_expanded_17 : decode cX8_expanded 17 = .ok (.aload_n 0, 1) := by decide +kernel
theorem dX8_expanded_18 : decode cX8_expanded 18 = .ok (.iload_n 2, 1) := by decide +kernel
theorem dX8_expanded_19 : decode cX8_expanded 19 = .ok (.invokevirtual 51, 3) := by decide +kernel
theorem dX8_expanded_22 : decode cX8_expanded 22 = .ok (.invokestatic 37, 3) := by decide +kernel
theorem dX8_expanded_25 : decode cX8_expanded 25 = .ok (.if_icmp .ge 43, 3) := by decide +kernel
theorem dX8_expanded_28 : decode cX8_expanded 28 = .ok (.aload_n 0, 1) := by decide +kernel
theorem dX8_expanded_29 : decode cX8_expanded 29 = .ok (.aload_n 0, 1) := by decide +kernel
theorem dX8_expanded_30 : decode cX8_expanded 30 = .ok (.iload_n 2, 1) := by decide +kernel
theorem dX8_expanded_31 : decode cX8_expanded 31 = .ok (.invokevirtual 51, 3) := by decide +kernel
theorem dX8_expanded_34 : decode cX8_expanded 34 = .ok (.iload_n 3, 1) := by decide +kernel
theorem dX8_expanded_35 : decode cX8_expanded 35 = .ok (.invokestatic 48, 3) := by decide +kernel
theorem dX8_expanded_38 : decode cX8_expanded 38 = .ok (.invokevirtual 89, 3) := by decide +kernel
theorem dX8_expanded_41 : decode cX8_expanded 41 = .ok (.iconst (-1), 1) := by decide +kernel
theorem dX8_expanded_42 : decode cX8_expanded 42 = .ok (.if_icmp .ne 20, 3) := by decide +kernel
theorem dX8_expanded_45 : decode cX8_expanded 45 = .ok (.aload_n 0, 1) := by decide +kernel
theorem dX8_expanded_46 : decode cX8_expanded 46 = .ok (.aload_n 0, 1) := by decide +kernel
theorem dX8_expanded_47 : decode cX8_expanded 47 = .ok (.iload_n 2, 1) := by decide +kernel
theorem dX8_expanded_48 : decode cX8_expanded 48 = .ok (.invokevirtual 51, 3) := by decide +kernel
theorem dX8_expanded_51 : decode cX8_expanded 51 = .ok (.iload_n 3, 1) := by decide +kernel
theorem dX8_expanded_52 : decode cX8_expanded 52 = .ok (.invokestatic 48, 3) := by decide +kernel
theorem dX8_expanded_55 : decode cX8_expanded 55 = .ok (.invokevirtual 130, 3) := by decide +kernel
theorem dX8_expanded_58 : decode cX8_expanded 58 = .ok (.pop, 1) := by decide +kernel
theorem dX8_expanded_59 : decode cX8_expanded 59 = .ok (.iinc 1 1, 3) := by decide +kernel
theorem dX8_expanded_62 : decode cX8_expanded 62 = .ok (.iinc 3 1, 3) := by decide +kernel
theorem dX8_expanded_65 : decode cX8_expanded 65 = .ok (.goto (-49), 3) := by decide +kernel
theorem dX8_expanded_68 : decode cX8_expanded 68 = .ok (.iinc 2 1, 3) := by decide +kernel
theorem dX8_expanded_71 : decode cX8_expanded 71 = .ok (.goto (-67), 3) := by decide +kernel
theorem dX8_expanded_74 : decode cX8_expanded 74 = .ok (.iload_n 1, 1) := by decide +kernel
theorem dX8_expanded_75 : decode cX8_expanded 75 = .ok (.ireturn, 1) := by decide +kernel
set_option maxRecDepth 20000 in
theorem ggX8_expand_X8_save : GoodIn wsX8_expand wsX8_save := goodIn_r _ [6, 7, 8, 9, 10, 11, 5, 12, 60, 61, 62, 63, 64, 65, 66, 67, 68, 69, 70, 71] (by decide +kernel) (by decide +kernel)
set_option maxRecDepth 20000 in
theorem gX8_expand_X8_save : GoodIn wsX8_expand (wsV RX8 100 RX8 yX8_save wsX8_save) := goodIn_app (goodIn_of _ (by decide +kernel)) ggX8_expand_X8_save
set_option maxRecDepth 20000 in
theorem ggX8_expand_X8_expanded : GoodIn wsX8_expand wsX8_expanded := goodIn_r _ [16, 9, 17, 18, 19, 5, 20, 21, 22, 23, 24, 25, 26, 27, 28, 29, 30, 31, 32, 33, 34, 35, 36, 37, 38, 39, 40, 41, 42, 43, 44, 45, 46, 47, 48, 49, 50, 51, 52, 53, 54, 55, 56, 57, 58, 59, 60, 61, 62, 63, 64, 65, 66, 67, 68, 69, 70, 71] (by decide +kernel) (by decide +kernel)
set_option maxRecDepth 20000 in
theorem gX8_expand_X8_expanded : GoodIn wsX8_expand (wsV RX8 137 RX8 yX8_expanded wsX8_expanded) := goodIn_app (goodIn_of _ (by decide +kernel)) ggX8_expand_X8_expanded
theorem dX8_expand_0 : decode cX8_expand 0 = .ok (.aload_n 0, 1) := by decide +kernel
theorem dX8_expand_1 : decode cX8_expand 1 = .ok (.iconst 0, 1) := by decide +kernel
theorem dX8_expand_2 : decode cX8_expand 2 = .ok (.putfield 22, 3) := by decide +kernel
theorem dX8_expand_5 : decode cX8_expand 5 = .ok (.aload_n 0, 1) := by decide +kernel
theorem dX8_expand_6 : decode cX8_expand 6 = .ok (.invokevirtual 100, 3) := by decide +kernel
theorem dX8_expand_9 : decode cX8_expand 9 = .ok (.aload_n 0, 1) := by decide +kernel
theorem dX8_expand_10 : decode cX8_expand 10 = .ok (.invokevirtual 137, 3) := by decide +kernel
theorem dX8_expand_13 : decode cX8_expand 13 = .ok (.ireturn, 1) := by decide +kernel
set_option maxRecDepth 20000 in
theorem ggX8_rank_X8_isPrefix : GoodIn wsX8_rank wsX8_isPrefix := goodIn_r _ [5, 6, 7, 4, 8] (by decide +kernel) (by decide +kernel)
set_option maxRecDepth 20000 in
theorem gX8_rank_X8_isPrefix : GoodIn wsX8_rank (va_wsS RX8 83 yX8_isPrefix wsX8_isPrefix) := goodIn_app (goodIn_of _ (by decide +kernel)) ggX8_rank_X8_isPrefix
set_option maxRecDepth 20000 in
theorem ggX8_rank_X8_code : GoodIn wsX8_rank wsX8_code := goodIn_r _ [11] (by decide +kernel) (by decide +kernel)
set_option maxRecDepth 20000 in
theorem gX8_rank_X8_code : GoodIn wsX8_rank (va_wsS RX8 44 yX8_code wsX8_code) := goodIn_app (goodIn_of _ (by decide +kernel)) ggX8_rank_X8_code
set_option maxRecDepth 20000 in
theorem ggX8_rank_X8_rankOf : GoodIn wsX8_rank wsX8_rankOf := goodIn_r _ [15, 16, 17, 18, 19, 4, 20, 21, 22, 23, 24, 25, 26, 27, 28, 29, 30, 31, 32] (by decide +kernel) (by decide +kernel)
set_option maxRecDepth 20000 in
theorem gX8_rank_X8_rankOf : GoodIn wsX8_rank (wsV RX8 54 RX8 yX8_rankOf wsX8_rankOf) := goodIn_app (goodIn_of _ (by decide +kernel)) ggX8_rank_X8_rankOf
theorem dX8_rank_0 : decode cX8_rank 0 = .ok (.aload_n 0, 1) := by decide +kernel
theorem dX8_rank_1 : decode cX8_rank 1 = .ok (.iload_n 1, 1) := by decide +kernel
theorem dX8_rank_2 : decode cX8_rank 2 = .ok (.iload_n 2, 1) := by decide +kernel
theorem dX8_rank_3 : decode cX8_rank 3 = .ok (.iconst 1, 1) := by decide +kernel
theorem dX8_rank_4 : decode cX8_rank 4 = .ok (.invokestatic 83, 3) := by decide +kernel
theorem dX8_rank_7 : decode cX8_rank 7 = .ok (.ifCond .eq 7, 3) := by decide +kernel
theorem dX8_rank_10 : decode cX8_rank 10 = .ok (.iconst 0, 1) := by decide +kernel
theorem dX8_rank_11 : decode cX8_rank 11 = .ok (.goto 4, 3) := by decide +kernel
theorem dX8_rank_14 : decode cX8_rank 14 = .ok (.iconst 1, 1) := by decide +kernel
theorem dX8_rank_15 : decode cX8_rank 15 = .ok (.putfield 22, 3) := by decide +kernel
theorem dX8_rank_18 : decode cX8_rank 18 = .ok (.aload_n 0, 1) := by decide +kernel
theorem dX8_rank_19 : decode cX8_rank 19 = .ok (.getfield 22, 3) := by decide +kernel
theorem dX8_rank_22 : decode cX8_rank 22 = .ok (.ifCond .le 7, 3) := by decide +kernel
theorem dX8_rank_25 : decode cX8_rank 25 = .ok (.iconst 0, 1) := by decide +kernel
theorem dX8_rank_26 : decode cX8_rank 26 = .ok (.goto 12, 3) := by decide +kernel
theorem dX8_rank_29 : decode cX8_rank 29 = .ok (.aload_n 0, 1) := by decide +kernel
theorem dX8_rank_30 : decode cX8_rank 30 = .ok (.iload_n 1, 1) := by decide +kernel
theorem dX8_rank_31 : decode cX8_rank 31 = .ok (.iload_n 2, 1) := by decide +kernel
theorem dX8_rank_32 : decode cX8_rank 32 = .ok (.invokestatic 44, 3) := by decide +kernel
theorem dX8_rank_35 : decode cX8_rank 35 = .ok (.invokevirtual 54, 3) := by decide +kernel
theorem dX8_rank_38 : decode cX8_rank 38 = .ok (.ireturn, 1) := by decide +kernel
set_option maxRecDepth 20000 in
theorem ggX8_isRank_X8_within : GoodIn wsX8_isRank wsX8_within := goodIn_r _ [5] (by decide +kernel) (by decide +kernel)
set_option maxRecDepth 20000 in
theorem gX8_isRank_X8_within : GoodIn wsX8_isRank (va_wsS RX8 33 yX8_within wsX8_within) := goodIn_app (goodIn_of _ (by decide +kernel)) ggX8_isRank_X8_within
theorem dX8_isRank_0 : decode cX8_isRank 0 = .ok (.iload_n 1, 1) := by decide +kernel
theorem dX8_isRank_1 : decode cX8_isRank 1 = .ok (.iconst 0, 1) := by decide +kernel
theorem dX8_isRank_2 : decode cX8_isRank 2 = .ok (.aload_n 0, 1) := by decide +kernel
theorem dX8_isRank_3 : decode cX8_isRank 3 = .ok (.getfield 7, 3) := by decide +kernel
theorem dX8_isRank_6 : decode cX8_isRank 6 = .ok (.iconst 1, 1) := by decide +kernel
theorem dX8_isRank_7 : decode cX8_isRank 7 = .ok (.iaload, 1) := by decide +kernel
theorem dX8_isRank_8 : decode cX8_isRank 8 = .ok (.iconst 1, 1) := by decide +kernel
theorem dX8_isRank_9 : decode cX8_isRank 9 = .ok (.isub, 1) := by decide +kernel
theorem dX8_isRank_10 : decode cX8_isRank 10 = .ok (.invokestatic 33, 3) := by decide +kernel
theorem dX8_isRank_13 : decode cX8_isRank 13 = .ok (.ireturn, 1) := by decide +kernel
set_option maxRecDepth 20000 in
theorem ggX8_nameValue_X8_name : GoodIn wsX8_nameValue wsX8_name := goodIn_r _ [6, 1, 30, 31, 32, 33, 34, 35, 36, 37, 38, 39, 40, 41] (by decide +kernel) (by decide +kernel)
set_option maxRecDepth 20000 in
theorem gX8_nameValue_X8_name : GoodIn wsX8_nameValue (wsV RX8 51 RX8 yX8_name wsX8_name) := goodIn_app (goodIn_of _ (by decide +kernel)) ggX8_nameValue_X8_name
set_option maxRecDepth 20000 in
theorem ggX8_nameValue_X8_lettersOf : GoodIn wsX8_nameValue wsX8_lettersOf := goodIn_r _ [9, 10, 11, 5, 12] (by decide +kernel) (by decide +kernel)
set_option maxRecDepth 20000 in
theorem gX8_nameValue_X8_lettersOf : GoodIn wsX8_nameValue (va_wsS RX8 41 yX8_lettersOf wsX8_lettersOf) := goodIn_app (goodIn_of _ (by decide +kernel)) ggX8_nameValue_X8_lettersOf
set_option maxRecDepth 20000 in
theorem ggX8_nameValue_X8_lengthOf : GoodIn wsX8_nameValue wsX8_lengthOf := goodIn_r _ [12] (by decide +kernel) (by decide +kernel)
set_option maxRecDepth 20000 in
theorem gX8_nameValue_X8_lengthOf : GoodIn wsX8_nameValue (va_wsS RX8 37 yX8_lengthOf wsX8_lengthOf) := goodIn_app (goodIn_of _ (by decide +kernel)) ggX8_nameValue_X8_lengthOf
set_option maxRecDepth 20000 in
theorem ggX8_nameValue_X8_roadsTo : GoodIn wsX8_nameValue wsX8_roadsTo := goodIn_r _ [16, 1, 17, 18, 19, 5, 20, 21, 22, 23, 10, 11, 12, 24, 25, 26, 7, 8, 9, 27, 28, 29, 30, 31, 32, 33, 34, 35, 36, 37, 38, 39, 40, 41] (by decide +kernel) (by decide +kernel)
set_option maxRecDepth 20000 in
theorem gX8_nameValue_X8_roadsTo : GoodIn wsX8_nameValue (wsV RX8 140 RX8 yX8_roadsTo wsX8_roadsTo) := goodIn_app (goodIn_of _ (by decide +kernel)) ggX8_nameValue_X8_roadsTo
theorem dX8_nameValue_0 : decode cX8_nameValue 0 = .ok (.aload_n 0, 1) := by decide +kernel
theorem dX8_nameValue_1 : decode cX8_nameValue 1 = .ok (.iload_n 1, 1) := by decide +kernel
theorem dX8_nameValue_2 : decode cX8_nameValue 2 = .ok (.invokevirtual 51, 3) := by decide +kernel
theorem dX8_nameValue_5 : decode cX8_nameValue 5 = .ok (.istore_n 3, 1) := by decide +kernel
theorem dX8_nameValue_6 : decode cX8_nameValue 6 = .ok (.iload_n 2, 1) := by decide +kernel
theorem dX8_nameValue_7 : decode cX8_nameValue 7 = .ok (.ifCond .ne 10, 3) := by decide +kernel
theorem dX8_nameValue_10 : decode cX8_nameValue 10 = .ok (.iload_n 3, 1) := by decide +kernel
theorem dX8_nameValue_11 : decode cX8_nameValue 11 = .ok (.invokestatic 41, 3) := by decide +kernel
theorem dX8_nameValue_14 : decode cX8_nameValue 14 = .ok (.goto 37, 3) := by decide +kernel
theorem dX8_nameValue_17 : decode cX8_nameValue 17 = .ok (.iload_n 2, 1) := by decide +kernel
theorem dX8_nameValue_18 : decode cX8_nameValue 18 = .ok (.iconst 1, 1) := by decide +kernel
theorem dX8_nameValue_19 : decode cX8_nameValue 19 = .ok (.if_icmp .ne 10, 3) := by decide +kernel
theorem dX8_nameValue_22 : decode cX8_nameValue 22 = .ok (.iload_n 3, 1) := by decide +kernel
theorem dX8_nameValue_23 : decode cX8_nameValue 23 = .ok (.invokestatic 37, 3) := by decide +kernel
theorem dX8_nameValue_26 : decode cX8_nameValue 26 = .ok (.goto 25, 3) := by decide +kernel
theorem dX8_nameValue_29 : decode cX8_nameValue 29 = .ok (.iload_n 2, 1) := by decide +kernel
theorem dX8_nameValue_30 : decode cX8_nameValue 30 = .ok (.iconst 2, 1) := by decide +kernel
theorem dX8_nameValue_31 : decode cX8_nameValue 31 = .ok (.if_icmp .ne 15, 3) := by decide +kernel
theorem dX8_nameValue_34 : decode cX8_nameValue 34 = .ok (.aload_n 0, 1) := by decide +kernel
theorem dX8_nameValue_35 : decode cX8_nameValue 35 = .ok (.getfield 7, 3) := by decide +kernel
theorem dX8_nameValue_38 : decode cX8_nameValue 38 = .ok (.bipush 31, 2) := by decide +kernel
theorem dX8_nameValue_40 : decode cX8_nameValue 40 = .ok (.iload_n 1, 1) := by decide +kernel
theorem dX8_nameValue_41 : decode cX8_nameValue 41 = .ok (.iadd, 1) := by decide +kernel
theorem dX8_nameValue_42 : decode cX8_nameValue 42 = .ok (.iaload, 1) := by decide +kernel
theorem dX8_nameValue_43 : decode cX8_nameValue 43 = .ok (.goto 8, 3) := by decide +kernel
theorem dX8_nameValue_46 : decode cX8_nameValue 46 = .ok (.aload_n 0, 1) := by decide +kernel
theorem dX8_nameValue_47 : decode cX8_nameValue 47 = .ok (.iload_n 3, 1) := by decide +kernel
theorem dX8_nameValue_48 : decode cX8_nameValue 48 = .ok (.invokevirtual 140, 3) := by decide +kernel
theorem dX8_nameValue_51 : decode cX8_nameValue 51 = .ok (.ireturn, 1) := by decide +kernel
set_option maxRecDepth 20000 in
theorem ggX8_nth_X8_isRank : GoodIn wsX8_nth wsX8_isRank := goodIn_r _ [6, 7, 8, 9, 5, 10, 42, 43, 44, 45, 46, 47, 48, 49, 50, 51, 52, 53] (by decide +kernel) (by decide +kernel)
set_option maxRecDepth 20000 in
theorem gX8_nth_X8_isRank : GoodIn wsX8_nth (wsV RX8 143 RX8 yX8_isRank wsX8_isRank) := goodIn_app (goodIn_of _ (by decide +kernel)) ggX8_nth_X8_isRank
set_option maxRecDepth 20000 in
theorem ggX8_nth_X8_within : GoodIn wsX8_nth wsX8_within := goodIn_r _ [10] (by decide +kernel) (by decide +kernel)
set_option maxRecDepth 20000 in
theorem gX8_nth_X8_within : GoodIn wsX8_nth (va_wsS RX8 33 yX8_within wsX8_within) := goodIn_app (goodIn_of _ (by decide +kernel)) ggX8_nth_X8_within
set_option maxRecDepth 20000 in
theorem ggX8_nth_X8_nameValue : GoodIn wsX8_nth wsX8_nameValue := goodIn_r _ [14, 7, 15, 16, 17, 5, 18, 19, 20, 21, 22, 23, 24, 25, 26, 27, 28, 29, 30, 31, 32, 33, 34, 35, 36, 37, 38, 39, 40, 41, 42, 43, 44, 45, 46, 47, 48, 49, 50, 51, 52, 53] (by decide +kernel) (by decide +kernel)
set_option maxRecDepth 20000 in
theorem gX8_nth_X8_nameValue : GoodIn wsX8_nth (wsV RX8 146 RX8 yX8_nameValue wsX8_nameValue) := goodIn_app (goodIn_of _ (by decide +kernel)) ggX8_nth_X8_nameValue
theorem dX8_nth_0 : decode cX8_nth 0 = .ok (.aload_n 0, 1) := by decide +kernel
theorem dX8_nth_1 : decode cX8_nth 1 = .ok (.aload_n 0, 1) := by decide +kernel
theorem dX8_nth_2 : decode cX8_nth 2 = .ok (.iload_n 1, 1) := by decide +kernel
theorem dX8_nth_3 : decode cX8_nth 3 = .ok (.invokevirtual 143, 3) := by decide +kernel
theorem dX8_nth_6 : decode cX8_nth 6 = .ok (.ifCond .ne 7, 3) := by decide +kernel
theorem dX8_nth_9 : decode cX8_nth 9 = .ok (.iconst 1, 1) := by decide +kernel
theorem dX8_nth_10 : decode cX8_nth 10 = .ok (.goto 17, 3) := by decide +kernel
theorem dX8_nth_13 : decode cX8_nth 13 = .ok (.iload_n 2, 1) := by decide +kernel
theorem dX8_nth_14 : decode cX8_nth 14 = .ok (.iconst 0, 1) := by decide +kernel
theorem dX8_nth_15 : decode cX8_nth 15 = .ok (.iconst 3, 1) := by decide +kernel
theorem dX8_nth_16 : decode cX8_nth 16 = .ok (.invokestatic 33, 3) := by decide +kernel
theorem dX8_nth_19 : decode cX8_nth 19 = .ok (.ifCond .eq 7, 3) := by decide +kernel
theorem dX8_nth_22 : decode cX8_nth 22 = .ok (.iconst 0, 1) := by decide +kernel
theorem dX8_nth_23 : decode cX8_nth 23 = .ok (.goto 4, 3) := by decide +kernel
theorem dX8_nth_26 : decode cX8_nth 26 = .ok (.iconst 2, 1) := by decide +kernel
theorem dX8_nth_27 : decode cX8_nth 27 = .ok (.putfield 22, 3) := by decide +kernel
theorem dX8_nth_30 : decode cX8_nth 30 = .ok (.aload_n 0, 1) := by decide +kernel
theorem dX8_nth_31 : decode cX8_nth 31 = .ok (.getfield 22, 3) := by decide +kernel
theorem dX8_nth_34 : decode cX8_nth 34 = .ok (.ifCond .le 7, 3) := by decide +kernel
theorem dX8_nth_37 : decode cX8_nth 37 = .ok (.iconst 0, 1) := by decide +kernel
theorem dX8_nth_38 : decode cX8_nth 38 = .ok (.goto 9, 3) := by decide +kernel
theorem dX8_nth_41 : decode cX8_nth 41 = .ok (.aload_n 0, 1) := by decide +kernel
theorem dX8_nth_42 : decode cX8_nth 42 = .ok (.iload_n 1, 1) := by decide +kernel
theorem dX8_nth_43 : decode cX8_nth 43 = .ok (.iload_n 2, 1) := by decide +kernel
theorem dX8_nth_44 : decode cX8_nth 44 = .ok (.invokevirtual 146, 3) := by decide +kernel
theorem dX8_nth_47 : decode cX8_nth 47 = .ok (.ireturn, 1) := by decide +kernel
set_option maxRecDepth 20000 in
theorem ggX8_weight_X8_isPrefix : GoodIn wsX8_weight wsX8_isPrefix := goodIn_r _ [6, 7, 8, 5, 9] (by decide +kernel) (by decide +kernel)
set_option maxRecDepth 20000 in
theorem gX8_weight_X8_isPrefix : GoodIn wsX8_weight (va_wsS RX8 83 yX8_isPrefix wsX8_isPrefix) := goodIn_app (goodIn_of _ (by decide +kernel)) ggX8_weight_X8_isPrefix
set_option maxRecDepth 20000 in
theorem ggX8_weight_X8_code : GoodIn wsX8_weight wsX8_code := goodIn_r _ [12] (by decide +kernel) (by decide +kernel)
set_option maxRecDepth 20000 in
theorem gX8_weight_X8_code : GoodIn wsX8_weight (va_wsS RX8 44 yX8_code wsX8_code) := goodIn_app (goodIn_of _ (by decide +kernel)) ggX8_weight_X8_code
set_option maxRecDepth 20000 in
theorem ggX8_weight_X8_findName : GoodIn wsX8_weight wsX8_findName := goodIn_r _ [16, 2, 17, 18, 19, 5, 20, 21, 22, 23, 24, 25, 26, 27, 28, 29, 30, 31, 32, 33, 34, 35, 36] (by decide +kernel) (by decide +kernel)
set_option maxRecDepth 20000 in
theorem gX8_weight_X8_findName : GoodIn wsX8_weight (wsV RX8 70 RX8 yX8_findName wsX8_findName) := goodIn_app (goodIn_of _ (by decide +kernel)) ggX8_weight_X8_findName
theorem dX8_weight_0 : decode cX8_weight 0 = .ok (.aload_n 0, 1) := by decide +kernel
theorem dX8_weight_1 : decode cX8_weight 1 = .ok (.iload_n 1, 1) := by decide +kernel
theorem dX8_weight_2 : decode cX8_weight 2 = .ok (.iload_n 2, 1) := by decide +kernel
theorem dX8_weight_3 : decode cX8_weight 3 = .ok (.iconst 1, 1) := by decide +kernel
theorem dX8_weight_4 : decode cX8_weight 4 = .ok (.invokestatic 83, 3) := by decide +kernel
theorem dX8_weight_7 : decode cX8_weight 7 = .ok (.ifCond .eq 7, 3) := by decide +kernel
theorem dX8_weight_10 : decode cX8_weight 10 = .ok (.iconst 0, 1) := by decide +kernel
theorem dX8_weight_11 : decode cX8_weight 11 = .ok (.goto 4, 3) := by decide +kernel
theorem dX8_weight_14 : decode cX8_weight 14 = .ok (.iconst 1, 1) := by decide +kernel
theorem dX8_weight_15 : decode cX8_weight 15 = .ok (.putfield 22, 3) := by decide +kernel
theorem dX8_weight_18 : decode cX8_weight 18 = .ok (.aload_n 0, 1) := by decide +kernel
theorem dX8_weight_19 : decode cX8_weight 19 = .ok (.getfield 22, 3) := by decide +kernel
theorem dX8_weight_22 : decode cX8_weight 22 = .ok (.ifCond .le 5, 3) := by decide +kernel
theorem dX8_weight_25 : decode cX8_weight 25 = .ok (.iconst 0, 1) := by decide +kernel
theorem dX8_weight_26 : decode cX8_weight 26 = .ok (.ireturn, 1) := by decide +kernel
theorem dX8_weight_27 : decode cX8_weight 27 = .ok (.aload_n 0, 1) := by decide +kernel
theorem dX8_weight_28 : decode cX8_weight 28 = .ok (.iload_n 1, 1) := by decide +kernel
theorem dX8_weight_29 : decode cX8_weight 29 = .ok (.iload_n 2, 1) := by decide +kernel
theorem dX8_weight_30 : decode cX8_weight 30 = .ok (.invokestatic 44, 3) := by decide +kernel
theorem dX8_weight_33 : decode cX8_weight 33 = .ok (.invokevirtual 70, 3) := by decide +kernel
theorem dX8_weight_36 : decode cX8_weight 36 = .ok (.istore_n 3, 1) := by decide +kernel
theorem dX8_weight_37 : decode cX8_weight 37 = .ok (.iload_n 3, 1) := by decide +kernel
theorem dX8_weight_38 : decode cX8_weight 38 = .ok (.iconst (-1), 1) := by decide +kernel
theorem dX8_weight_39 : decode cX8_weight 39 = .ok (.if_icmp .ne 7, 3) := by decide +kernel
theorem dX8_weight_42 : decode cX8_weight 42 = .ok (.iconst (-1), 1) := by decide +kernel
theorem dX8_weight_43 : decode cX8_weight 43 = .ok (.goto 12, 3) := by decide +kernel
theorem dX8_weight_46 : decode cX8_weight 46 = .ok (.aload_n 0, 1) := by decide +kernel
theorem dX8_weight_47 : decode cX8_weight 47 = .ok (.getfield 7, 3) := by decide +kernel
theorem dX8_weight_50 : decode cX8_weight 50 = .ok (.bipush 31, 2) := by decide +kernel
theorem dX8_weight_52 : decode cX8_weight 52 = .ok (.iload_n 3, 1) := by decide +kernel
theorem dX8_weight_53 : decode cX8_weight 53 = .ok (.iadd, 1) := by decide +kernel
theorem dX8_weight_54 : decode cX8_weight 54 = .ok (.iaload, 1) := by decide +kernel
theorem dX8_weight_55 : decode cX8_weight 55 = .ok (.ireturn, 1) := by decide +kernel
set_option maxRecDepth 20000 in
theorem ggX8_count_X8_isPrefix : GoodIn wsX8_count wsX8_isPrefix := goodIn_r _ [5, 6, 7, 4, 8] (by decide +kernel) (by decide +kernel)
set_option maxRecDepth 20000 in
theorem gX8_count_X8_isPrefix : GoodIn wsX8_count (va_wsS RX8 83 yX8_isPrefix wsX8_isPrefix) := goodIn_app (goodIn_of _ (by decide +kernel)) ggX8_count_X8_isPrefix
set_option maxRecDepth 20000 in
theorem ggX8_count_X8_code : GoodIn wsX8_count wsX8_code := goodIn_r _ [11] (by decide +kernel) (by decide +kernel)
set_option maxRecDepth 20000 in
theorem gX8_count_X8_code : GoodIn wsX8_count (va_wsS RX8 44 yX8_code wsX8_code) := goodIn_app (goodIn_of _ (by decide +kernel)) ggX8_count_X8_code
set_option maxRecDepth 20000 in
theorem ggX8_count_X8_countBelow : GoodIn wsX8_count wsX8_countBelow := goodIn_r _ [15, 16, 17, 18, 19, 4, 20, 21, 22, 23, 24, 25, 26, 27, 28, 29, 30, 31, 32, 9, 10, 11, 33, 34, 35, 36, 37, 38, 39, 40, 41, 42, 43, 44] (by decide +kernel) (by decide +kernel)
set_option maxRecDepth 20000 in
theorem gX8_count_X8_countBelow : GoodIn wsX8_count (wsV RX8 61 RX8 yX8_countBelow wsX8_countBelow) := goodIn_app (goodIn_of _ (by decide +kernel)) ggX8_count_X8_countBelow
theorem dX8_count_0 : decode cX8_count 0 = .ok (.aload_n 0, 1) := by decide +kernel
theorem dX8_count_1 : decode cX8_count 1 = .ok (.iload_n 1, 1) := by decide +kernel
theorem dX8_count_2 : decode cX8_count 2 = .ok (.iload_n 2, 1) := by decide +kernel
theorem dX8_count_3 : decode cX8_count 3 = .ok (.iconst 0, 1) := by decide +kernel
theorem dX8_count_4 : decode cX8_count 4 = .ok (.invokestatic 83, 3) := by decide +kernel
theorem dX8_count_7 : decode cX8_count 7 = .ok (.ifCond .eq 7, 3) := by decide +kernel
theorem dX8_count_10 : decode cX8_count 10 = .ok (.iconst 0, 1) := by decide +kernel
theorem dX8_count_11 : decode cX8_count 11 = .ok (.goto 4, 3) := by decide +kernel
theorem dX8_count_14 : decode cX8_count 14 = .ok (.iconst 1, 1) := by decide +kernel
theorem dX8_count_15 : decode cX8_count 15 = .ok (.putfield 22, 3) := by decide +kernel
theorem dX8_count_18 : decode cX8_count 18 = .ok (.aload_n 0, 1) := by decide +kernel
theorem dX8_count_19 : decode cX8_count 19 = .ok (.getfield 22, 3) := by decide +kernel
theorem dX8_count_22 : decode cX8_count 22 = .ok (.ifCond .le 7, 3) := by decide +kernel
theorem dX8_count_25 : decode cX8_count 25 = .ok (.iconst 0, 1) := by decide +kernel
theorem dX8_count_26 : decode cX8_count 26 = .ok (.goto 12, 3) := by decide +kernel
theorem dX8_count_29 : decode cX8_count 29 = .ok (.aload_n 0, 1) := by decide +kernel
theorem dX8_count_30 : decode cX8_count 30 = .ok (.iload_n 1, 1) := by decide +kernel
theorem dX8_count_31 : decode cX8_count 31 = .ok (.iload_n 2, 1) := by decide +kernel
theorem dX8_count_32 : decode cX8_count 32 = .ok (.invokestatic 44, 3) := by decide +kernel
theorem dX8_count_35 : decode cX8_count 35 = .ok (.invokevirtual 61, 3) := by decide +kernel
theorem dX8_count_38 : decode cX8_count 38 = .ok (.ireturn, 1) := by decide +kernel
set_option maxRecDepth 20000 in
theorem ggX8_isHouse_X8_within : GoodIn wsX8_isHouse wsX8_within := goodIn_r _ [5] (by decide +kernel) (by decide +kernel)
set_option maxRecDepth 20000 in
theorem gX8_isHouse_X8_within : GoodIn wsX8_isHouse (va_wsS RX8 33 yX8_within wsX8_within) := goodIn_app (goodIn_of _ (by decide +kernel)) ggX8_isHouse_X8_within
theorem dX8_isHouse_0 : decode cX8_isHouse 0 = .ok (.iload_n 1, 1) := by decide +kernel
theorem dX8_isHouse_1 : decode cX8_isHouse 1 = .ok (.iconst 0, 1) := by decide +kernel
theorem dX8_isHouse_2 : decode cX8_isHouse 2 = .ok (.aload_n 0, 1) := by decide +kernel
theorem dX8_isHouse_3 : decode cX8_isHouse 3 = .ok (.getfield 7, 3) := by decide +kernel
theorem dX8_isHouse_6 : decode cX8_isHouse 6 = .ok (.iconst 2, 1) := by decide +kernel
theorem dX8_isHouse_7 : decode cX8_isHouse 7 = .ok (.iaload, 1) := by decide +kernel
theorem dX8_isHouse_8 : decode cX8_isHouse 8 = .ok (.iconst 1, 1) := by decide +kernel
theorem dX8_isHouse_9 : decode cX8_isHouse 9 = .ok (.isub, 1) := by decide +kernel
theorem dX8_isHouse_10 : decode cX8_isHouse 10 = .ok (.invokestatic 33, 3) := by decide +kernel
theorem dX8_isHouse_13 : decode cX8_isHouse 13 = .ok (.ireturn, 1) := by decide +kernel
set_option maxRecDepth 20000 in
theorem ggX8_houseValue_X8_prefixOf : GoodIn wsX8_houseValue wsX8_prefixOf := goodIn_r _ [5, 6, 58, 59, 60, 61, 62, 63, 64, 65, 66, 67, 68, 69] (by decide +kernel) (by decide +kernel)
set_option maxRecDepth 20000 in
theorem gX8_houseValue_X8_prefixOf : GoodIn wsX8_houseValue (wsV RX8 64 RX8 yX8_prefixOf wsX8_prefixOf) := goodIn_app (goodIn_of _ (by decide +kernel)) ggX8_houseValue_X8_prefixOf
set_option maxRecDepth 20000 in
theorem ggX8_houseValue_X8_lettersOf : GoodIn wsX8_houseValue wsX8_lettersOf := goodIn_r _ [9, 10, 11, 4, 12] (by decide +kernel) (by decide +kernel)
set_option maxRecDepth 20000 in
theorem gX8_houseValue_X8_lettersOf : GoodIn wsX8_houseValue (va_wsS RX8 41 yX8_lettersOf wsX8_lettersOf) := goodIn_app (goodIn_of _ (by decide +kernel)) ggX8_houseValue_X8_lettersOf
set_option maxRecDepth 20000 in
theorem ggX8_houseValue_X8_lengthOf : GoodIn wsX8_houseValue wsX8_lengthOf := goodIn_r _ [12] (by decide +kernel) (by decide +kernel)
set_option maxRecDepth 20000 in
theorem gX8_houseValue_X8_lengthOf : GoodIn wsX8_houseValue (va_wsS RX8 37 yX8_lengthOf wsX8_lengthOf) := goodIn_app (goodIn_of _ (by decide +kernel)) ggX8_houseValue_X8_lengthOf
set_option maxRecDepth 20000 in
theorem ggX8_houseValue_X8_labelOf : GoodIn wsX8_houseValue wsX8_labelOf := goodIn_r _ [16, 1, 2, 3, 4, 5, 6, 10, 11, 12, 17, 18, 19, 20, 21, 22, 23, 24, 25, 26, 7, 8, 9, 27, 28, 29, 58, 59, 60, 61, 62, 63, 64, 65, 66, 67, 68, 69] (by decide +kernel) (by decide +kernel)
set_option maxRecDepth 20000 in
theorem gX8_houseValue_X8_labelOf : GoodIn wsX8_houseValue (wsV RX8 76 RX8 yX8_labelOf wsX8_labelOf) := goodIn_app (goodIn_of _ (by decide +kernel)) ggX8_houseValue_X8_labelOf
set_option maxRecDepth 20000 in
theorem ggX8_houseValue_X8_childrenOf : GoodIn wsX8_houseValue wsX8_childrenOf := goodIn_r _ [33, 6, 17, 18, 19, 4, 20, 1, 2, 3, 5, 21, 22, 23, 10, 11, 12, 24, 25, 26, 7, 8, 9, 27, 28, 29, 58, 59, 60, 61, 62, 63, 64, 65, 66, 67, 68, 69] (by decide +kernel) (by decide +kernel)
set_option maxRecDepth 20000 in
theorem gX8_houseValue_X8_childrenOf : GoodIn wsX8_houseValue (wsV RX8 73 RX8 yX8_childrenOf wsX8_childrenOf) := goodIn_app (goodIn_of _ (by decide +kernel)) ggX8_houseValue_X8_childrenOf
set_option maxRecDepth 20000 in
theorem ggX8_houseValue_X8_findName : GoodIn wsX8_houseValue wsX8_findName := goodIn_r _ [37, 6, 38, 39, 40, 4, 41, 42, 43, 44, 45, 58, 59, 60, 61, 62, 63, 64, 65, 66, 67, 68, 69] (by decide +kernel) (by decide +kernel)
set_option maxRecDepth 20000 in
theorem gX8_houseValue_X8_findName : GoodIn wsX8_houseValue (wsV RX8 70 RX8 yX8_findName wsX8_findName) := goodIn_app (goodIn_of _ (by decide +kernel)) ggX8_houseValue_X8_findName
set_option maxRecDepth 20000 in
theorem ggX8_houseValue_X8_countBelow : GoodIn wsX8_houseValue wsX8_countBelow := goodIn_r _ [49, 6, 42, 43, 44, 4, 45, 21, 22, 23, 10, 11, 12, 24, 25, 26, 7, 8, 9, 27, 28, 29, 58, 59, 60, 61, 62, 63, 64, 65, 66, 67, 68, 69] (by decide +kernel) (by decide +kernel)
set_option maxRecDepth 20000 in
theorem gX8_houseValue_X8_countBelow : GoodIn wsX8_houseValue (wsV RX8 61 RX8 yX8_countBelow wsX8_countBelow) := goodIn_app (goodIn_of _ (by decide +kernel)) ggX8_houseValue_X8_countBelow
set_option maxRecDepth 20000 in
theorem ggX8_houseValue_X8_weightBelow : GoodIn wsX8_houseValue wsX8_weightBelow := goodIn_r _ [53, 6, 42, 43, 44, 4, 45, 21, 22, 23, 10, 11, 12, 24, 25, 26, 7, 8, 9, 27, 28, 29, 58, 59, 60, 61, 62, 63, 64, 65, 66, 67, 68, 69] (by decide +kernel) (by decide +kernel)
set_option maxRecDepth 20000 in
theorem gX8_houseValue_X8_weightBelow : GoodIn wsX8_houseValue (wsV RX8 149 RX8 yX8_weightBelow wsX8_weightBelow) := goodIn_app (goodIn_of _ (by decide +kernel)) ggX8_houseValue_X8_weightBelow
set_option maxRecDepth 20000 in
theorem ggX8_houseValue_X8_roadsTo : GoodIn wsX8_houseValue wsX8_roadsTo := goodIn_r _ [57, 6, 1, 2, 3, 4, 5, 21, 22, 23, 10, 11, 12, 24, 25, 26, 7, 8, 9, 27, 28, 29, 58, 59, 60, 61, 62, 63, 64, 65, 66, 67, 68, 69] (by decide +kernel) (by decide +kernel)
set_option maxRecDepth 20000 in
theorem gX8_houseValue_X8_roadsTo : GoodIn wsX8_houseValue (wsV RX8 140 RX8 yX8_roadsTo wsX8_roadsTo) := goodIn_app (goodIn_of _ (by decide +kernel)) ggX8_houseValue_X8_roadsTo
theorem dX8_houseValue_0 : decode cX8_houseValue 0 = .ok (.aload_n 0, 1) := by decide +kernel
theorem dX8_houseValue_1 : decode cX8_houseValue 1 = .ok (.iload_n 1, 1) := by decide +kernel
theorem dX8_houseValue_2 : decode cX8_houseValue 2 = .ok (.invokevirtual 64, 3) := by decide +kernel
theorem dX8_houseValue_5 : decode cX8_houseValue 5 = .ok (.istore_n 3, 1) := by decide +kernel
theorem dX8_houseValue_6 : decode cX8_houseValue 6 = .ok (.iload_n 2, 1) := by decide +kernel
theorem dX8_houseValue_7 : decode cX8_houseValue 7 = .ok (.tableswitch 111 0 7 #[45, 50, 55, 72, 78, 84, 99, 105], 45) := by decide +kernel
theorem dX8_houseValue_52 : decode cX8_houseValue 52 = .ok (.iload_n 3, 1) := by decide +kernel
theorem dX8_houseValue_53 : decode cX8_houseValue 53 = .ok (.invokestatic 41, 3) := by decide +kernel
theorem dX8_houseValue_56 : decode cX8_houseValue 56 = .ok (.ireturn, 1) := by decide +kernel
theorem dX8_houseValue_57 : decode cX8_houseValue 57 = .ok (.iload_n 3, 1) := by decide +kernel
theorem dX8_houseValue_58 : decode cX8_houseValue 58 = .ok (.invokestatic 37, 3) := by decide +kernel
theorem dX8_houseValue_61 : decode cX8_houseValue 61 = .ok (.ireturn, 1) := by decide +kernel
theorem dX8_houseValue_62 : decode cX8_houseValue 62 = .ok (.iload_n 3, 1) := by decide +kernel
theorem dX8_houseValue_63 : decode cX8_houseValue 63 = .ok (.invokestatic 41, 3) := by decide +kernel
theorem dX8_houseValue_66 : decode cX8_houseValue 66 = .ok (.iconst 1, 1) := by decide +kernel
theorem dX8_houseValue_67 : decode cX8_houseValue 67 = .ok (.iconst 3, 1) := by decide +kernel
theorem dX8_houseValue_68 : decode cX8_houseValue 68 = .ok (.aload_n 0, 1) := by decide +kernel
theorem dX8_houseValue_69 : decode cX8_houseValue 69 = .ok (.iload_n 1, 1) := by decide +kernel
theorem dX8_houseValue_70 : decode cX8_houseValue 70 = .ok (.invokevirtual 76, 3) := by decide +kernel
theorem dX8_houseValue_73 : decode cX8_houseValue 73 = .ok (.imul, 1) := by decide +kernel
theorem dX8_houseValue_74 : decode cX8_houseValue 74 = .ok (.ishl, 1) := by decide +kernel
theorem dX8_houseValue_75 : decode cX8_houseValue 75 = .ok (.iconst 1, 1) := by decide +kernel
theorem dX8_houseValue_76 : decode cX8_houseValue 76 = .ok (.isub, 1) := by decide +kernel
theorem dX8_houseValue_77 : decode cX8_houseValue 77 = .ok (.iand, 1) := by decide +kernel
theorem dX8_houseValue_78 : decode cX8_houseValue 78 = .ok (.ireturn, 1) := by decide +kernel
theorem dX8_houseValue_79 : decode cX8_houseValue 79 = .ok (.aload_n 0, 1) := by decide +kernel
theorem dX8_houseValue_80 : decode cX8_houseValue 80 = .ok (.iload_n 1, 1) := by decide +kernel
theorem dX8_houseValue_81 : decode cX8_houseValue 81 = .ok (.invokevirtual 76, 3) := by decide +kernel
theorem dX8_houseValue_84 : decode cX8_houseValue 84 = .ok (.ireturn, 1) := by decide +kernel
theorem dX8_houseValue_85 : decode cX8_houseValue 85 = .ok (.aload_n 0, 1) := by decide +kernel
theorem dX8_houseValue_86 : decode cX8_houseValue 86 = .ok (.iload_n 1, 1) := by decide +kernel
theorem dX8_houseValue_87 : decode cX8_houseValue 87 = .ok (.invokevirtual 73, 3) := by decide +kernel
theorem dX8_houseValue_90 : decode cX8_houseValue 90 = .ok (.ireturn, 1) := by decide +kernel
theorem dX8_houseValue_91 : decode cX8_houseValue 91 = .ok (.aload_n 0, 1) := by decide +kernel
theorem dX8_houseValue_92 : decode cX8_houseValue 92 = .ok (.iload_n 3, 1) := by decide +kernel
theorem dX8_houseValue_93 : decode cX8_houseValue 93 = .ok (.invokevirtual 70, 3) := by decide +kernel
theorem dX8_houseValue_96 : decode cX8_houseValue 96 = .ok (.iconst (-1), 1) := by decide +kernel
theorem dX8_houseValue_97 : decode cX8_houseValue 97 = .ok (.if_icmp .ne 7, 3) := by decide +kernel
theorem dX8_houseValue_100 : decode cX8_houseValue 100 = .ok (.iconst 0, 1) := by decide +kernel
theorem dX8_houseValue_101 : decode cX8_houseValue 101 = .ok (.goto 4, 3) := by decide +kernel
theorem dX8_houseValue_104 : decode cX8_houseValue 104 = .ok (.iconst 1, 1) := by decide +kernel
theorem dX8_houseValue_105 : decode cX8_houseValue 105 = .ok (.ireturn, 1) := by decide +kernel
theorem dX8_houseValue_106 : decode cX8_houseValue 106 = .ok (.aload_n 0, 1) := by decide +kernel
theorem dX8_houseValue_107 : decode cX8_houseValue 107 = .ok (.iload_n 3, 1) := by decide +kernel
theorem dX8_houseValue_108 : decode cX8_houseValue 108 = .ok (.invokevirtual 61, 3) := by decide +kernel
theorem dX8_houseValue_111 : decode cX8_houseValue 111 = .ok (.ireturn, 1) := by decide +kernel
theorem dX8_houseValue_112 : decode cX8_houseValue 112 = .ok (.aload_n 0, 1) := by decide +kernel
theorem dX8_houseValue_113 : decode cX8_houseValue 113 = .ok (.iload_n 3, 1) := by decide +kernel
theorem dX8_houseValue_114 : decode cX8_houseValue 114 = .ok (.invokevirtual 149, 3) := by decide +kernel
theorem dX8_houseValue_117 : decode cX8_houseValue 117 = .ok (.ireturn, 1) := by decide +kernel
theorem dX8_houseValue_118 : decode cX8_houseValue 118 = .ok (.aload_n 0, 1) := by decide +kernel
theorem dX8_houseValue_119 : decode cX8_houseValue 119 = .ok (.iload_n 3, 1) := by decide +kernel
theorem dX8_houseValue_120 : decode cX8_houseValue 120 = .ok (.invokevirtual 140, 3) := by decide +kernel
theorem dX8_houseValue_123 : decode cX8_houseValue 123 = .ok (.ireturn, 1) := by decide +kernel
set_option maxRecDepth 20000 in
theorem ggX8_house_X8_isHouse : GoodIn wsX8_house wsX8_isHouse := goodIn_r _ [6, 7, 8, 9, 5, 10, 70, 71, 72, 73, 74, 75, 76, 77, 78, 79, 80, 81] (by decide +kernel) (by decide +kernel)
set_option maxRecDepth 20000 in
theorem gX8_house_X8_isHouse : GoodIn wsX8_house (wsV RX8 152 RX8 yX8_isHouse wsX8_isHouse) := goodIn_app (goodIn_of _ (by decide +kernel)) ggX8_house_X8_isHouse
set_option maxRecDepth 20000 in
theorem ggX8_house_X8_within : GoodIn wsX8_house wsX8_within := goodIn_r _ [10] (by decide +kernel) (by decide +kernel)
set_option maxRecDepth 20000 in
theorem gX8_house_X8_within : GoodIn wsX8_house (va_wsS RX8 33 yX8_within wsX8_within) := goodIn_app (goodIn_of _ (by decide +kernel)) ggX8_house_X8_within
set_option maxRecDepth 20000 in
theorem ggX8_house_X8_houseValue : GoodIn wsX8_house wsX8_houseValue := goodIn_r _ [14, 15, 16, 17, 5, 18, 7, 19, 20, 21, 22, 23, 24, 25, 26, 27, 28, 29, 30, 31, 32, 33, 34, 35, 36, 37, 38, 39, 40, 41, 42, 43, 44, 45, 46, 47, 48, 49, 50, 51, 52, 53, 54, 55, 56, 57, 58, 59, 60, 61, 62, 63, 64, 65, 66, 67, 68, 69, 70, 71, 72, 73, 74, 75, 76, 77, 78, 79, 80, 81] (by decide +kernel) (by decide +kernel)
set_option maxRecDepth 20000 in
theorem gX8_house_X8_houseValue : GoodIn wsX8_house (wsV RX8 155 RX8 yX8_houseValue wsX8_houseValue) := goodIn_app (goodIn_of _ (by decide +kernel)) ggX8_house_X8_houseValue
theorem dX8_house_0 : decode cX8_house 0 = .ok (.aload_n 0, 1) := by decide +kernel
theorem dX8_house_1 : decode cX8_house 1 = .ok (.aload_n 0, 1) := by decide +kernel
theorem dX8_house_2 : decode cX8_house 2 = .ok (.iload_n 1, 1) := by decide +kernel
theorem dX8_house_3 : decode cX8_house 3 = .ok (.invokevirtual 152, 3) := by decide +kernel
theorem dX8_house_6 : decode cX8_house 6 = .ok (.ifCond .ne 7, 3) := by decide +kernel
theorem dX8_house_9 : decode cX8_house 9 = .ok (.iconst 1, 1) := by decide +kernel
theorem dX8_house_10 : decode cX8_house 10 = .ok (.goto 18, 3) := by decide +kernel
theorem dX8_house_13 : decode cX8_house 13 = .ok (.iload_n 2, 1) := by decide +kernel
theorem dX8_house_14 : decode cX8_house 14 = .ok (.iconst 0, 1) := by decide +kernel
theorem dX8_house_15 : decode cX8_house 15 = .ok (.bipush 8, 2) := by decide +kernel
theorem dX8_house_17 : decode cX8_house 17 = .ok (.invokestatic 33, 3) := by decide +kernel
theorem dX8_house_20 : decode cX8_house 20 = .ok (.ifCond .eq 7, 3) := by decide +kernel
theorem dX8_house_23 : decode cX8_house 23 = .ok (.iconst 0, 1) := by decide +kernel
theorem dX8_house_24 : decode cX8_house 24 = .ok (.goto 4, 3) := by decide +kernel
theorem dX8_house_27 : decode cX8_house 27 = .ok (.iconst 2, 1) := by decide +kernel
theorem dX8_house_28 : decode cX8_house 28 = .ok (.putfield 22, 3) := by decide +kernel
theorem dX8_house_31 : decode cX8_house 31 = .ok (.aload_n 0, 1) := by decide +kernel
theorem dX8_house_32 : decode cX8_house 32 = .ok (.getfield 22, 3) := by decide +kernel
theorem dX8_house_35 : decode cX8_house 35 = .ok (.ifCond .le 7, 3) := by decide +kernel
theorem dX8_house_38 : decode cX8_house 38 = .ok (.iconst 0, 1) := by decide +kernel
theorem dX8_house_39 : decode cX8_house 39 = .ok (.goto 9, 3) := by decide +kernel
theorem dX8_house_42 : decode cX8_house 42 = .ok (.aload_n 0, 1) := by decide +kernel
theorem dX8_house_43 : decode cX8_house 43 = .ok (.iload_n 1, 1) := by decide +kernel
theorem dX8_house_44 : decode cX8_house 44 = .ok (.iload_n 2, 1) := by decide +kernel
theorem dX8_house_45 : decode cX8_house 45 = .ok (.invokevirtual 155, 3) := by decide +kernel
theorem dX8_house_48 : decode cX8_house 48 = .ok (.ireturn, 1) := by decide +kernel
set_option maxRecDepth 20000 in
theorem ggX8_houseOf_X8_isPrefix : GoodIn wsX8_houseOf wsX8_isPrefix := goodIn_r _ [5, 6, 7, 4, 8] (by decide +kernel) (by decide +kernel)
set_option maxRecDepth 20000 in
theorem gX8_houseOf_X8_isPrefix : GoodIn wsX8_houseOf (va_wsS RX8 83 yX8_isPrefix wsX8_isPrefix) := goodIn_app (goodIn_of _ (by decide +kernel)) ggX8_houseOf_X8_isPrefix
set_option maxRecDepth 20000 in
theorem ggX8_houseOf_X8_code : GoodIn wsX8_houseOf wsX8_code := goodIn_r _ [11] (by decide +kernel) (by decide +kernel)
set_option maxRecDepth 20000 in
theorem gX8_houseOf_X8_code : GoodIn wsX8_houseOf (va_wsS RX8 44 yX8_code wsX8_code) := goodIn_app (goodIn_of _ (by decide +kernel)) ggX8_houseOf_X8_code
set_option maxRecDepth 20000 in
theorem ggX8_houseOf_X8_findHouse : GoodIn wsX8_houseOf wsX8_findHouse := goodIn_r _ [15, 16, 17, 18, 19, 4, 20, 21, 22, 23, 24, 25, 26, 27, 28, 29, 30, 31, 32] (by decide +kernel) (by decide +kernel)
set_option maxRecDepth 20000 in
theorem gX8_houseOf_X8_findHouse : GoodIn wsX8_houseOf (wsV RX8 89 RX8 yX8_findHouse wsX8_findHouse) := goodIn_app (goodIn_of _ (by decide +kernel)) ggX8_houseOf_X8_findHouse
theorem dX8_houseOf_0 : decode cX8_houseOf 0 = .ok (.aload_n 0, 1) := by decide +kernel
theorem dX8_houseOf_1 : decode cX8_houseOf 1 = .ok (.iload_n 1, 1) := by decide +kernel
theorem dX8_houseOf_2 : decode cX8_houseOf 2 = .ok (.iload_n 2, 1) := by decide +kernel
theorem dX8_houseOf_3 : decode cX8_houseOf 3 = .ok (.iconst 0, 1) := by decide +kernel
theorem dX8_houseOf_4 : decode cX8_houseOf 4 = .ok (.invokestatic 83, 3) := by decide +kernel
theorem dX8_houseOf_7 : decode cX8_houseOf 7 = .ok (.ifCond .eq 7, 3) := by decide +kernel
theorem dX8_houseOf_10 : decode cX8_houseOf 10 = .ok (.iconst 0, 1) := by decide +kernel
theorem dX8_houseOf_11 : decode cX8_houseOf 11 = .ok (.goto 4, 3) := by decide +kernel
theorem dX8_houseOf_14 : decode cX8_houseOf 14 = .ok (.iconst 1, 1) := by decide +kernel
theorem dX8_houseOf_15 : decode cX8_houseOf 15 = .ok (.putfield 22, 3) := by decide +kernel
theorem dX8_houseOf_18 : decode cX8_houseOf 18 = .ok (.aload_n 0, 1) := by decide +kernel
theorem dX8_houseOf_19 : decode cX8_houseOf 19 = .ok (.getfield 22, 3) := by decide +kernel
theorem dX8_houseOf_22 : decode cX8_houseOf 22 = .ok (.ifCond .le 7, 3) := by decide +kernel
theorem dX8_houseOf_25 : decode cX8_houseOf 25 = .ok (.iconst 0, 1) := by decide +kernel
theorem dX8_houseOf_26 : decode cX8_houseOf 26 = .ok (.goto 12, 3) := by decide +kernel
theorem dX8_houseOf_29 : decode cX8_houseOf 29 = .ok (.aload_n 0, 1) := by decide +kernel
theorem dX8_houseOf_30 : decode cX8_houseOf 30 = .ok (.iload_n 1, 1) := by decide +kernel
theorem dX8_houseOf_31 : decode cX8_houseOf 31 = .ok (.iload_n 2, 1) := by decide +kernel
theorem dX8_houseOf_32 : decode cX8_houseOf 32 = .ok (.invokestatic 44, 3) := by decide +kernel
theorem dX8_houseOf_35 : decode cX8_houseOf 35 = .ok (.invokevirtual 89, 3) := by decide +kernel
theorem dX8_houseOf_38 : decode cX8_houseOf 38 = .ok (.ireturn, 1) := by decide +kernel
set_option maxRecDepth 20000 in
theorem ggX8_roadsBetween_X8_prefixOf : GoodIn wsX8_roadsBetween wsX8_prefixOf := goodIn_r _ [6, 1, 30, 31, 32, 33, 34, 35, 36, 37, 38, 39, 40, 41] (by decide +kernel) (by decide +kernel)
set_option maxRecDepth 20000 in
theorem gX8_roadsBetween_X8_prefixOf : GoodIn wsX8_roadsBetween (wsV RX8 64 RX8 yX8_prefixOf wsX8_prefixOf) := goodIn_app (goodIn_of _ (by decide +kernel)) ggX8_roadsBetween_X8_prefixOf
set_option maxRecDepth 20000 in
theorem ggX8_roadsBetween_X8_name : GoodIn wsX8_roadsBetween wsX8_name := goodIn_r _ [10, 1, 30, 31, 32, 33, 34, 35, 36, 37, 38, 39, 40, 41] (by decide +kernel) (by decide +kernel)
set_option maxRecDepth 20000 in
theorem gX8_roadsBetween_X8_name : GoodIn wsX8_roadsBetween (wsV RX8 51 RX8 yX8_name wsX8_name) := goodIn_app (goodIn_of _ (by decide +kernel)) ggX8_roadsBetween_X8_name
set_option maxRecDepth 20000 in
theorem ggX8_roadsBetween_X8_begins : GoodIn wsX8_roadsBetween wsX8_begins := goodIn_r _ [13, 14, 15, 5, 16, 17, 18, 19, 20, 21, 22, 23, 24, 25] (by decide +kernel) (by decide +kernel)
set_option maxRecDepth 20000 in
theorem gX8_roadsBetween_X8_begins : GoodIn wsX8_roadsBetween (va_wsS RX8 57 yX8_begins wsX8_begins) := goodIn_app (goodIn_of _ (by decide +kernel)) ggX8_roadsBetween_X8_begins
set_option maxRecDepth 20000 in
theorem ggX8_roadsBetween_X8_roadsTo : GoodIn wsX8_roadsBetween wsX8_roadsTo := goodIn_r _ [29, 1, 2, 3, 4, 5, 6, 11, 12, 13, 14, 15, 16, 17, 18, 19, 20, 21, 22, 23, 24, 25, 30, 31, 32, 33, 34, 35, 36, 37, 38, 39, 40, 41] (by decide +kernel) (by decide +kernel)
set_option maxRecDepth 20000 in
theorem gX8_roadsBetween_X8_roadsTo : GoodIn wsX8_roadsBetween (wsV RX8 140 RX8 yX8_roadsTo wsX8_roadsTo) := goodIn_app (goodIn_of _ (by decide +kernel)) ggX8_roadsBetween_X8_roadsTo
theorem dX8_roadsBetween_0 : decode cX8_roadsBetween 0 = .ok (.iconst (-1), 1) := by decide +kernel
theorem dX8_roadsBetween_1 : decode cX8_roadsBetween 1 = .ok (.istore_n 3, 1) := by decide +kernel
theorem dX8_roadsBetween_2 : decode cX8_roadsBetween 2 = .ok (.iconst 0, 1) := by decide +kernel
theorem dX8_roadsBetween_3 : decode cX8_roadsBetween 3 = .ok (.istore 4, 2) := by decide +kernel
theorem dX8_roadsBetween_5 : decode cX8_roadsBetween 5 = .ok (.iload 4, 2) := by decide +kernel
theorem dX8_roadsBetween_7 : decode cX8_roadsBetween 7 = .ok (.aload_n 0, 1) := by decide +kernel
theorem dX8_roadsBetween_8 : decode cX8_roadsBetween 8 = .ok (.getfield 7, 3) := by decide +kernel
theorem dX8_roadsBetween_11 : decode cX8_roadsBetween 11 = .ok (.iconst 2, 1) := by decide +kernel
theorem dX8_roadsBetween_12 : decode cX8_roadsBetween 12 = .ok (.iaload, 1) := by decide +kernel
theorem dX8_roadsBetween_13 : decode cX8_roadsBetween 13 = .ok (.if_icmp .ge 51, 3) := by decide +kernel
theorem dX8_roadsBetween_16 : decode cX8_roadsBetween 16 = .ok (.iload_n 3, 1) := by decide +kernel
theorem dX8_roadsBetween_17 : decode cX8_roadsBetween 17 = .ok (.aload_n 0, 1) := by decide +kernel
theorem dX8_roadsBetween_18 : decode cX8_roadsBetween 18 = .ok (.iload 4, 2) := by decide +kernel
theorem dX8_roadsBetween_20 : decode cX8_roadsBetween 20 = .ok (.invokevirtual 64, 3) := by decide +kernel
theorem dX8_roadsBetween_23 : decode cX8_roadsBetween 23 = .ok (.aload_n 0, 1) := by decide +kernel
theorem dX8_roadsBetween_24 : decode cX8_roadsBetween 24 = .ok (.iload_n 1, 1) := by decide +kernel
theorem dX8_roadsBetween_25 : decode cX8_roadsBetween 25 = .ok (.invokevirtual 51, 3) := by decide +kernel
theorem dX8_roadsBetween_28 : decode cX8_roadsBetween 28 = .ok (.invokestatic 57, 3) := by decide +kernel
theorem dX8_roadsBetween_31 : decode cX8_roadsBetween 31 = .ok (.ifCond .eq 24, 3) := by decide +kernel
theorem dX8_roadsBetween_34 : decode cX8_roadsBetween 34 = .ok (.aload_n 0, 1) := by decide +kernel
theorem dX8_roadsBetween_35 : decode cX8_roadsBetween 35 = .ok (.iload 4, 2) := by decide +kernel
theorem dX8_roadsBetween_37 : decode cX8_roadsBetween 37 = .ok (.invokevirtual 64, 3) := by decide +kernel
theorem dX8_roadsBetween_40 : decode cX8_roadsBetween 40 = .ok (.aload_n 0, 1) := by decide +kernel
theorem dX8_roadsBetween_41 : decode cX8_roadsBetween 41 = .ok (.iload_n 2, 1) := by decide +kernel
theorem dX8_roadsBetween_42 : decode cX8_roadsBetween 42 = .ok (.invokevirtual 51, 3) := by decide +kernel
theorem dX8_roadsBetween_45 : decode cX8_roadsBetween 45 = .ok (.invokestatic 57, 3) := by decide +kernel
theorem dX8_roadsBetween_48 : decode cX8_roadsBetween 48 = .ok (.ifCond .eq 7, 3) := by decide +kernel
theorem dX8_roadsBetween_51 : decode cX8_roadsBetween 51 = .ok (.iconst 1, 1) := by decide +kernel
theorem dX8_roadsBetween_52 : decode cX8_roadsBetween 52 = .ok (.goto 4, 3) := by decide +kernel
theorem dX8_roadsBetween_55 : decode cX8_roadsBetween 55 = .ok (.iconst 0, 1) := by decide +kernel
theorem dX8_roadsBetween_56 : decode cX8_roadsBetween 56 = .ok (.iadd, 1) := by decide +kernel
theorem dX8_roadsBetween_57 : decode cX8_roadsBetween 57 = .ok (.istore_n 3, 1) := by decide +kernel
theorem dX8_roadsBetween_58 : decode cX8_roadsBetween 58 = .ok (.iinc 4 1, 3) := by decide +kernel
theorem dX8_roadsBetween_61 : decode cX8_roadsBetween 61 = .ok (.goto (-56), 3) := by decide +kernel
theorem dX8_roadsBetween_64 : decode cX8_roadsBetween 64 = .ok (.aload_n 0, 1) := by decide +kernel
theorem dX8_roadsBetween_65 : decode cX8_roadsBetween 65 = .ok (.aload_n 0, 1) := by decide +kernel
theorem dX8_roadsBetween_66 : decode cX8_roadsBetween 66 = .ok (.iload_n 1, 1) := by decide +kernel
theorem dX8_roadsBetween_67 : decode cX8_roadsBetween 67 = .ok (.invokevirtual 51, 3) := by decide +kernel
theorem dX8_roadsBetween_70 : decode cX8_roadsBetween 70 = .ok (.invokevirtual 140, 3) := by decide +kernel
theorem dX8_roadsBetween_73 : decode cX8_roadsBetween 73 = .ok (.aload_n 0, 1) := by decide +kernel
theorem dX8_roadsBetween_74 : decode cX8_roadsBetween 74 = .ok (.aload_n 0, 1) := by decide +kernel
theorem dX8_roadsBetween_75 : decode cX8_roadsBetween 75 = .ok (.iload_n 2, 1) := by decide +kernel
theorem dX8_roadsBetween_76 : decode cX8_roadsBetween 76 = .ok (.invokevirtual 51, 3) := by decide +kernel
theorem dX8_roadsBetween_79 : decode cX8_roadsBetween 79 = .ok (.invokevirtual 140, 3) := by decide +kernel
theorem dX8_roadsBetween_82 : decode cX8_roadsBetween 82 = .ok (.iadd, 1) := by decide +kernel
theorem dX8_roadsBetween_83 : decode cX8_roadsBetween 83 = .ok (.iconst 2, 1) := by decide +kernel
theorem dX8_roadsBetween_84 : decode cX8_roadsBetween 84 = .ok (.iload_n 3, 1) := by decide +kernel
theorem dX8_roadsBetween_85 : decode cX8_roadsBetween 85 = .ok (.imul, 1) := by decide +kernel
theorem dX8_roadsBetween_86 : decode cX8_roadsBetween 86 = .ok (.isub, 1) := by decide +kernel
theorem dX8_roadsBetween_87 : decode cX8_roadsBetween 87 = .ok (.ireturn, 1) := by decide +kernel
set_option maxRecDepth 20000 in
theorem ggX8_between_X8_isRank : GoodIn wsX8_between wsX8_isRank := goodIn_r _ [6, 7, 8, 9, 5, 10, 42, 43, 44, 45, 46, 47, 48, 49, 50, 51, 52, 53] (by decide +kernel) (by decide +kernel)
set_option maxRecDepth 20000 in
theorem gX8_between_X8_isRank : GoodIn wsX8_between (wsV RX8 143 RX8 yX8_isRank wsX8_isRank) := goodIn_app (goodIn_of _ (by decide +kernel)) ggX8_between_X8_isRank
set_option maxRecDepth 20000 in
theorem ggX8_between_X8_roadsBetween : GoodIn wsX8_between wsX8_roadsBetween := goodIn_r _ [14, 7, 15, 16, 17, 5, 18, 19, 20, 21, 22, 23, 24, 25, 26, 27, 28, 29, 30, 31, 32, 33, 34, 35, 36, 37, 38, 39, 40, 41, 42, 43, 44, 45, 46, 47, 48, 49, 50, 51, 52, 53] (by decide +kernel) (by decide +kernel)
set_option maxRecDepth 20000 in
theorem gX8_between_X8_roadsBetween : GoodIn wsX8_between (wsV RX8 158 RX8 yX8_roadsBetween wsX8_roadsBetween) := goodIn_app (goodIn_of _ (by decide +kernel)) ggX8_between_X8_roadsBetween
theorem dX8_between_0 : decode cX8_between 0 = .ok (.aload_n 0, 1) := by decide +kernel
theorem dX8_between_1 : decode cX8_between 1 = .ok (.aload_n 0, 1) := by decide +kernel
theorem dX8_between_2 : decode cX8_between 2 = .ok (.iload_n 1, 1) := by decide +kernel
theorem dX8_between_3 : decode cX8_between 3 = .ok (.invokevirtual 143, 3) := by decide +kernel
theorem dX8_between_6 : decode cX8_between 6 = .ok (.ifCond .eq 15, 3) := by decide +kernel
theorem dX8_between_9 : decode cX8_between 9 = .ok (.aload_n 0, 1) := by decide +kernel
theorem dX8_between_10 : decode cX8_between 10 = .ok (.iload_n 2, 1) := by decide +kernel
theorem dX8_between_11 : decode cX8_between 11 = .ok (.invokevirtual 143, 3) := by decide +kernel
theorem dX8_between_14 : decode cX8_between 14 = .ok (.ifCond .eq 7, 3) := by decide +kernel
theorem dX8_between_17 : decode cX8_between 17 = .ok (.iconst 0, 1) := by decide +kernel
theorem dX8_between_18 : decode cX8_between 18 = .ok (.goto 4, 3) := by decide +kernel
theorem dX8_between_21 : decode cX8_between 21 = .ok (.iconst 1, 1) := by decide +kernel
theorem dX8_between_22 : decode cX8_between 22 = .ok (.putfield 22, 3) := by decide +kernel
theorem dX8_between_25 : decode cX8_between 25 = .ok (.aload_n 0, 1) := by decide +kernel
theorem dX8_between_26 : decode cX8_between 26 = .ok (.getfield 22, 3) := by decide +kernel
theorem dX8_between_29 : decode cX8_between 29 = .ok (.ifCond .le 7, 3) := by decide +kernel
theorem dX8_between_32 : decode cX8_between 32 = .ok (.iconst 0, 1) := by decide +kernel
theorem dX8_between_33 : decode cX8_between 33 = .ok (.goto 9, 3) := by decide +kernel
theorem dX8_between_36 : decode cX8_between 36 = .ok (.aload_n 0, 1) := by decide +kernel
theorem dX8_between_37 : decode cX8_between 37 = .ok (.iload_n 1, 1) := by decide +kernel
theorem dX8_between_38 : decode cX8_between 38 = .ok (.iload_n 2, 1) := by decide +kernel
theorem dX8_between_39 : decode cX8_between 39 = .ok (.invokevirtual 158, 3) := by decide +kernel
theorem dX8_between_42 : decode cX8_between 42 = .ok (.ireturn, 1) := by decide +kernel
set_option maxRecDepth 20000 in
theorem ggX8_tourOf_X8_name : GoodIn wsX8_tourOf wsX8_name := goodIn_r _ [6, 1, 34, 35, 36, 37, 38, 39, 40, 41, 42, 43, 44, 45] (by decide +kernel) (by decide +kernel)
set_option maxRecDepth 20000 in
theorem gX8_tourOf_X8_name : GoodIn wsX8_tourOf (wsV RX8 51 RX8 yX8_name wsX8_name) := goodIn_app (goodIn_of _ (by decide +kernel)) ggX8_tourOf_X8_name
set_option maxRecDepth 20000 in
theorem ggX8_tourOf_X8_roadsTo : GoodIn wsX8_tourOf wsX8_roadsTo := goodIn_r _ [10, 1, 11, 12, 13, 5, 14, 15, 16, 17, 18, 19, 20, 21, 22, 23, 24, 25, 26, 27, 28, 29, 34, 35, 36, 37, 38, 39, 40, 41, 42, 43, 44, 45] (by decide +kernel) (by decide +kernel)
set_option maxRecDepth 20000 in
theorem gX8_tourOf_X8_roadsTo : GoodIn wsX8_tourOf (wsV RX8 140 RX8 yX8_roadsTo wsX8_roadsTo) := goodIn_app (goodIn_of _ (by decide +kernel)) ggX8_tourOf_X8_roadsTo
set_option maxRecDepth 20000 in
theorem ggX8_tourOf_X8_roadsBetween : GoodIn wsX8_tourOf wsX8_roadsBetween := goodIn_r _ [33, 1, 11, 12, 13, 5, 14, 2, 3, 4, 6, 15, 16, 17, 18, 19, 20, 21, 22, 23, 24, 25, 26, 27, 28, 29, 7, 8, 9, 10, 34, 35, 36, 37, 38, 39, 40, 41, 42, 43, 44, 45] (by decide +kernel) (by decide +kernel)
set_option maxRecDepth 20000 in
theorem gX8_tourOf_X8_roadsBetween : GoodIn wsX8_tourOf (wsV RX8 158 RX8 yX8_roadsBetween wsX8_roadsBetween) := goodIn_app (goodIn_of _ (by decide +kernel)) ggX8_tourOf_X8_roadsBetween
theorem dX8_tourOf_0 : decode cX8_tourOf 0 = .ok (.aload_n 0, 1) := by decide +kernel
theorem dX8_tourOf_1 : decode cX8_tourOf 1 = .ok (.getfield 7, 3) := by decide +kernel
theorem dX8_tourOf_4 : decode cX8_tourOf 4 = .ok (.iconst 1, 1) := by decide +kernel
theorem dX8_tourOf_5 : decode cX8_tourOf 5 = .ok (.iaload, 1) := by decide +kernel
theorem dX8_tourOf_6 : decode cX8_tourOf 6 = .ok (.istore_n 1, 1) := by decide +kernel
theorem dX8_tourOf_7 : decode cX8_tourOf 7 = .ok (.iload_n 1, 1) := by decide +kernel
theorem dX8_tourOf_8 : decode cX8_tourOf 8 = .ok (.ifCond .ne 7, 3) := by decide +kernel
theorem dX8_tourOf_11 : decode cX8_tourOf 11 = .ok (.iconst 0, 1) := by decide +kernel
theorem dX8_tourOf_12 : decode cX8_tourOf 12 = .ok (.goto 24, 3) := by decide +kernel
theorem dX8_tourOf_15 : decode cX8_tourOf 15 = .ok (.aload_n 0, 1) := by decide +kernel
theorem dX8_tourOf_16 : decode cX8_tourOf 16 = .ok (.aload_n 0, 1) := by decide +kernel
theorem dX8_tourOf_17 : decode cX8_tourOf 17 = .ok (.iconst 0, 1) := by decide +kernel
theorem dX8_tourOf_18 : decode cX8_tourOf 18 = .ok (.invokevirtual 51, 3) := by decide +kernel
theorem dX8_tourOf_21 : decode cX8_tourOf 21 = .ok (.invokevirtual 140, 3) := by decide +kernel
theorem dX8_tourOf_24 : decode cX8_tourOf 24 = .ok (.aload_n 0, 1) := by decide +kernel
theorem dX8_tourOf_25 : decode cX8_tourOf 25 = .ok (.aload_n 0, 1) := by decide +kernel
theorem dX8_tourOf_26 : decode cX8_tourOf 26 = .ok (.iload_n 1, 1) := by decide +kernel
theorem dX8_tourOf_27 : decode cX8_tourOf 27 = .ok (.iconst 1, 1) := by decide +kernel
theorem dX8_tourOf_28 : decode cX8_tourOf 28 = .ok (.isub, 1) := by decide +kernel
theorem dX8_tourOf_29 : decode cX8_tourOf 29 = .ok (.invokevirtual 51, 3) := by decide +kernel
theorem dX8_tourOf_32 : decode cX8_tourOf 32 = .ok (.invokevirtual 140, 3) := by decide +kernel
theorem dX8_tourOf_35 : decode cX8_tourOf 35 = .ok (.iadd, 1) := by decide +kernel
theorem dX8_tourOf_36 : decode cX8_tourOf 36 = .ok (.istore_n 2, 1) := by decide +kernel
theorem dX8_tourOf_37 : decode cX8_tourOf 37 = .ok (.iconst 1, 1) := by decide +kernel
theorem dX8_tourOf_38 : decode cX8_tourOf 38 = .ok (.istore_n 3, 1) := by decide +kernel
theorem dX8_tourOf_39 : decode cX8_tourOf 39 = .ok (.iload_n 3, 1) := by decide +kernel
theorem dX8_tourOf_40 : decode cX8_tourOf 40 = .ok (.iload_n 1, 1) := by decide +kernel
theorem dX8_tourOf_41 : decode cX8_tourOf 41 = .ok (.if_icmp .ge 20, 3) := by decide +kernel
theorem dX8_tourOf_44 : decode cX8_tourOf 44 = .ok (.iload_n 2, 1) := by decide +kernel
theorem dX8_tourOf_45 : decode cX8_tourOf 45 = .ok (.aload_n 0, 1) := by decide +kernel
theorem dX8_tourOf_46 : decode cX8_tourOf 46 = .ok (.iload_n 3, 1) := by decide +kernel
theorem dX8_tourOf_47 : decode cX8_tourOf 47 = .ok (.iconst 1, 1) := by decide +kernel
theorem dX8_tourOf_48 : decode cX8_tourOf 48 = .ok (.isub, 1) := by decide +kernel
theorem dX8_tourOf_49 : decode cX8_tourOf 49 = .ok (.iload_n 3, 1) := by decide +kernel
theorem dX8_tourOf_50 : decode cX8_tourOf 50 = .ok (.invokevirtual 158, 3) := by decide +kernel
theorem dX8_tourOf_53 : decode cX8_tourOf 53 = .ok (.iadd, 1) := by decide +kernel
theorem dX8_tourOf_54 : decode cX8_tourOf 54 = .ok (.istore_n 2, 1) := by decide +kernel
theorem dX8_tourOf_55 : decode cX8_tourOf 55 = .ok (.iinc 3 1, 3) := by decide +kernel
theorem dX8_tourOf_58 : decode cX8_tourOf 58 = .ok (.goto (-19), 3) := by decide +kernel
theorem dX8_tourOf_61 : decode cX8_tourOf 61 = .ok (.iload_n 2, 1) := by decide +kernel
theorem dX8_tourOf_62 : decode cX8_tourOf 62 = .ok (.ireturn, 1) := by decide +kernel
set_option maxRecDepth 20000 in
theorem ggX8_tour_X8_tourOf : GoodIn wsX8_tour wsX8_tourOf := goodIn_r _ [6, 7, 8, 9, 10, 5, 11, 12, 13, 14, 15, 16, 17, 18, 19, 20, 21, 22, 23, 24, 25, 26, 27, 28, 29, 30, 31, 32, 33, 34, 35, 36, 37, 38, 39, 40, 41, 42, 43, 44, 45, 46, 47, 48, 49, 50] (by decide +kernel) (by decide +kernel)
set_option maxRecDepth 20000 in
theorem gX8_tour_X8_tourOf : GoodIn wsX8_tour (wsV RX8 161 RX8 yX8_tourOf wsX8_tourOf) := goodIn_app (goodIn_of _ (by decide +kernel)) ggX8_tour_X8_tourOf
theorem dX8_tour_0 : decode cX8_tour 0 = .ok (.aload_n 0, 1) := by decide +kernel
theorem dX8_tour_1 : decode cX8_tour 1 = .ok (.iconst 0, 1) := by decide +kernel
theorem dX8_tour_2 : decode cX8_tour 2 = .ok (.putfield 22, 3) := by decide +kernel
theorem dX8_tour_5 : decode cX8_tour 5 = .ok (.aload_n 0, 1) := by decide +kernel
theorem dX8_tour_6 : decode cX8_tour 6 = .ok (.invokevirtual 161, 3) := by decide +kernel
theorem dX8_tour_9 : decode cX8_tour 9 = .ok (.ireturn, 1) := by decide +kernel
set_option maxRecDepth 20000 in
theorem ggX8_costOf_X8_name : GoodIn wsX8_costOf wsX8_name := goodIn_r _ [6, 1, 30, 31, 32, 33, 34, 35, 36, 37, 38, 39, 40, 41] (by decide +kernel) (by decide +kernel)
set_option maxRecDepth 20000 in
theorem gX8_costOf_X8_name : GoodIn wsX8_costOf (wsV RX8 51 RX8 yX8_name wsX8_name) := goodIn_app (goodIn_of _ (by decide +kernel)) ggX8_costOf_X8_name
set_option maxRecDepth 20000 in
theorem ggX8_costOf_X8_roadsTo : GoodIn wsX8_costOf wsX8_roadsTo := goodIn_r _ [10, 1, 11, 12, 13, 5, 14, 15, 16, 17, 18, 19, 20, 21, 22, 23, 24, 25, 26, 27, 28, 29, 30, 31, 32, 33, 34, 35, 36, 37, 38, 39, 40, 41] (by decide +kernel) (by decide +kernel)
set_option maxRecDepth 20000 in
theorem gX8_costOf_X8_roadsTo : GoodIn wsX8_costOf (wsV RX8 140 RX8 yX8_roadsTo wsX8_roadsTo) := goodIn_app (goodIn_of _ (by decide +kernel)) ggX8_costOf_X8_roadsTo
theorem dX8_costOf_0 : decode cX8_costOf 0 = .ok (.iconst 0, 1) := by decide +kernel
theorem dX8_costOf_1 : decode cX8_costOf 1 = .ok (.istore_n 1, 1) := by decide +kernel
theorem dX8_costOf_2 : decode cX8_costOf 2 = .ok (.iconst 0, 1) := by decide +kernel
theorem dX8_costOf_3 : decode cX8_costOf 3 = .ok (.istore_n 2, 1) := by decide +kernel
theorem dX8_costOf_4 : decode cX8_costOf 4 = .ok (.iload_n 2, 1) := by decide +kernel
theorem dX8_costOf_5 : decode cX8_costOf 5 = .ok (.aload_n 0, 1) := by decide +kernel
theorem dX8_costOf_6 : decode cX8_costOf 6 = .ok (.getfield 7, 3) := by decide +kernel
theorem dX8_costOf_9 : decode cX8_costOf 9 = .ok (.iconst 1, 1) := by decide +kernel
theorem dX8_costOf_10 : decode cX8_costOf 10 = .ok (.iaload, 1) := by decide +kernel
theorem dX8_costOf_11 : decode cX8_costOf 11 = .ok (.if_icmp .ge 31, 3) := by decide +kernel
theorem dX8_costOf_14 : decode cX8_costOf 14 = .ok (.iload_n 1, 1) := by decide +kernel
theorem dX8_costOf_15 : decode cX8_costOf 15 = .ok (.aload_n 0, 1) := by decide +kernel
theorem dX8_costOf_16 : decode cX8_costOf 16 = .ok (.getfield 7, 3) := by decide +kernel
theorem dX8_costOf_19 : decode cX8_costOf 19 = .ok (.bipush 31, 2) := by decide +kernel
theorem dX8_costOf_21 : decode cX8_costOf 21 = .ok (.iload_n 2, 1) := by decide +kernel
theorem dX8_costOf_22 : decode cX8_costOf 22 = .ok (.iadd, 1) := by decide +kernel
theorem dX8_costOf_23 : decode cX8_costOf 23 = .ok (.iaload, 1) := by decide +kernel
theorem dX8_costOf_24 : decode cX8_costOf 24 = .ok (.aload_n 0, 1) := by decide +kernel
theorem dX8_costOf_25 : decode cX8_costOf 25 = .ok (.aload_n 0, 1) := by decide +kernel
theorem dX8_costOf_26 : decode cX8_costOf 26 = .ok (.iload_n 2, 1) := by decide +kernel
theorem dX8_costOf_27 : decode cX8_costOf 27 = .ok (.invokevirtual 51, 3) := by decide +kernel
theorem dX8_costOf_30 : decode cX8_costOf 30 = .ok (.invokevirtual 140, 3) := by decide +kernel
theorem dX8_costOf_33 : decode cX8_costOf 33 = .ok (.imul, 1) := by decide +kernel
theorem dX8_costOf_34 : decode cX8_costOf 34 = .ok (.iadd, 1) := by decide +kernel
theorem dX8_costOf_35 : decode cX8_costOf 35 = .ok (.istore_n 1, 1) := by decide +kernel
theorem dX8_costOf_36 : decode cX8_costOf 36 = .ok (.iinc 2 1, 3) := by decide +kernel
theorem dX8_costOf_39 : decode cX8_costOf 39 = .ok (.goto (-35), 3) := by decide +kernel
theorem dX8_costOf_42 : decode cX8_costOf 42 = .ok (.iload_n 1, 1) := by decide +kernel
theorem dX8_costOf_43 : decode cX8_costOf 43 = .ok (.ireturn, 1) := by decide +kernel
set_option maxRecDepth 20000 in
theorem ggX8_wholeValue_X8_labelOf : GoodIn wsX8_wholeValue wsX8_labelOf := goodIn_r _ [7, 8, 9, 10, 6, 11, 1, 12, 13, 14, 15, 16, 17, 18, 19, 20, 21, 22, 23, 24, 25, 26, 27, 28, 29, 30, 43, 44, 45, 46, 47, 48, 49, 50, 51, 52, 53, 54] (by decide +kernel) (by decide +kernel)
set_option maxRecDepth 20000 in
theorem gX8_wholeValue_X8_labelOf : GoodIn wsX8_wholeValue (wsV RX8 76 RX8 yX8_labelOf wsX8_labelOf) := goodIn_app (goodIn_of _ (by decide +kernel)) ggX8_wholeValue_X8_labelOf
set_option maxRecDepth 20000 in
theorem ggX8_wholeValue_X8_name : GoodIn wsX8_wholeValue wsX8_name := goodIn_r _ [34, 1, 43, 44, 45, 46, 47, 48, 49, 50, 51, 52, 53, 54] (by decide +kernel) (by decide +kernel)
set_option maxRecDepth 20000 in
theorem gX8_wholeValue_X8_name : GoodIn wsX8_wholeValue (wsV RX8 51 RX8 yX8_name wsX8_name) := goodIn_app (goodIn_of _ (by decide +kernel)) ggX8_wholeValue_X8_name
set_option maxRecDepth 20000 in
theorem ggX8_wholeValue_X8_roadsTo : GoodIn wsX8_wholeValue wsX8_roadsTo := goodIn_r _ [38, 1, 8, 9, 10, 6, 11, 19, 20, 21, 12, 13, 14, 22, 23, 24, 25, 26, 27, 28, 29, 30, 43, 44, 45, 46, 47, 48, 49, 50, 51, 52, 53, 54] (by decide +kernel) (by decide +kernel)
set_option maxRecDepth 20000 in
theorem gX8_wholeValue_X8_roadsTo : GoodIn wsX8_wholeValue (wsV RX8 140 RX8 yX8_roadsTo wsX8_roadsTo) := goodIn_app (goodIn_of _ (by decide +kernel)) ggX8_wholeValue_X8_roadsTo
set_option maxRecDepth 20000 in
theorem ggX8_wholeValue_X8_costOf : GoodIn wsX8_wholeValue wsX8_costOf := goodIn_r _ [42, 1, 31, 32, 33, 6, 34, 35, 36, 37, 38, 8, 9, 10, 11, 19, 20, 21, 12, 13, 14, 22, 23, 24, 25, 26, 27, 28, 29, 30, 43, 44, 45, 46, 47, 48, 49, 50, 51, 52, 53, 54] (by decide +kernel) (by decide +kernel)
set_option maxRecDepth 20000 in
theorem gX8_wholeValue_X8_costOf : GoodIn wsX8_wholeValue (wsV RX8 164 RX8 yX8_costOf wsX8_costOf) := goodIn_app (goodIn_of _ (by decide +kernel)) ggX8_wholeValue_X8_costOf
theorem dX8_wholeValue_0 : decode cX8_wholeValue 0 = .ok (.iconst 0, 1) := by decide +kernel
theorem dX8_wholeValue_1 : decode cX8_wholeValue 1 = .ok (.istore_n 2, 1) := by decide +kernel
theorem dX8_wholeValue_2 : decode cX8_wholeValue 2 = .ok (.iconst 0, 1) := by decide +kernel
theorem dX8_wholeValue_3 : decode cX8_wholeValue 3 = .ok (.istore_n 3, 1) := by decide +kernel
theorem dX8_wholeValue_4 : decode cX8_wholeValue 4 = .ok (.iconst 1, 1) := by decide +kernel
theorem dX8_wholeValue_5 : decode cX8_wholeValue 5 = .ok (.istore 4, 2) := by decide +kernel
theorem dX8_wholeValue_7 : decode cX8_wholeValue 7 = .ok (.iload 4, 2) := by decide +kernel
theorem dX8_wholeValue_9 : decode cX8_wholeValue 9 = .ok (.aload_n 0, 1) := by decide +kernel
theorem dX8_wholeValue_10 : decode cX8_wholeValue 10 = .ok (.getfield 7, 3) := by decide +kernel
theorem dX8_wholeValue_13 : decode cX8_wholeValue 13 = .ok (.iconst 2, 1) := by decide +kernel
theorem dX8_wholeValue_14 : decode cX8_wholeValue 14 = .ok (.iaload, 1) := by decide +kernel
theorem dX8_wholeValue_15 : decode cX8_wholeValue 15 = .ok (.if_icmp .ge 39, 3) := by decide +kernel
theorem dX8_wholeValue_18 : decode cX8_wholeValue 18 = .ok (.iload_n 2, 1) := by decide +kernel
theorem dX8_wholeValue_19 : decode cX8_wholeValue 19 = .ok (.aload_n 0, 1) := by decide +kernel
theorem dX8_wholeValue_20 : decode cX8_wholeValue 20 = .ok (.iload 4, 2) := by decide +kernel
theorem dX8_wholeValue_22 : decode cX8_wholeValue 22 = .ok (.invokevirtual 76, 3) := by decide +kernel
theorem dX8_wholeValue_25 : decode cX8_wholeValue 25 = .ok (.iadd, 1) := by decide +kernel
theorem dX8_wholeValue_26 : decode cX8_wholeValue 26 = .ok (.istore_n 2, 1) := by decide +kernel
theorem dX8_wholeValue_27 : decode cX8_wholeValue 27 = .ok (.aload_n 0, 1) := by decide +kernel
theorem dX8_wholeValue_28 : decode cX8_wholeValue 28 = .ok (.iload 4, 2) := by decide +kernel
theorem dX8_wholeValue_30 : decode cX8_wholeValue 30 = .ok (.invokevirtual 76, 3) := by decide +kernel
theorem dX8_wholeValue_33 : decode cX8_wholeValue 33 = .ok (.iload_n 3, 1) := by decide +kernel
theorem dX8_wholeValue_34 : decode cX8_wholeValue 34 = .ok (.if_icmp .le 12, 3) := by decide +kernel
theorem dX8_wholeValue_37 : decode cX8_wholeValue 37 = .ok (.aload_n 0, 1) := by decide +kernel
theorem dX8_wholeValue_38 : decode cX8_wholeValue 38 = .ok (.iload 4, 2) := by decide +kernel
theorem dX8_wholeValue_40 : decode cX8_wholeValue 40 = .ok (.invokevirtual 76, 3) := by decide +kernel
theorem dX8_wholeValue_43 : decode cX8_wholeValue 43 = .ok (.goto 4, 3) := by decide +kernel
theorem dX8_wholeValue_46 : decode cX8_wholeValue 46 = .ok (.iload_n 3, 1) := by decide +kernel
theorem dX8_wholeValue_47 : decode cX8_wholeValue 47 = .ok (.istore_n 3, 1) := by decide +kernel
theorem dX8_wholeValue_48 : decode cX8_wholeValue 48 = .ok (.iinc 4 1, 3) := by decide +kernel
theorem dX8_wholeValue_51 : decode cX8_wholeValue 51 = .ok (.goto (-44), 3) := by decide +kernel
theorem dX8_wholeValue_54 : decode cX8_wholeValue 54 = .ok (.iconst 0, 1) := by decide +kernel
theorem dX8_wholeValue_55 : decode cX8_wholeValue 55 = .ok (.istore 4, 2) := by decide +kernel
theorem dX8_wholeValue_57 : decode cX8_wholeValue 57 = .ok (.iconst 0, 1) := by decide +kernel
theorem dX8_wholeValue_58 : decode cX8_wholeValue 58 = .ok (.istore 5, 2) := by decide +kernel
theorem dX8_wholeValue_60 : decode cX8_wholeValue 60 = .ok (.iload 5, 2) := by decide +kernel
theorem dX8_wholeValue_62 : decode cX8_wholeValue 62 = .ok (.aload_n 0, 1) := by decide +kernel
theorem dX8_wholeValue_63 : decode cX8_wholeValue 63 = .ok (.getfield 7, 3) := by decide +kernel
theorem dX8_wholeValue_66 : decode cX8_wholeValue 66 = .ok (.iconst 1, 1) := by decide +kernel
theorem dX8_wholeValue_67 : decode cX8_wholeValue 67 = .ok (.iaload, 1) := by decide +kernel
theorem dX8_wholeValue_68 : decode cX8_wholeValue 68 = .ok (.if_icmp .ge 41, 3) := by decide +kernel
theorem dX8_wholeValue_71 : decode cX8_wholeValue 71 = .ok (.aload_n 0, 1) := by decide +kernel
theorem dX8_wholeValue_72 : decode cX8_wholeValue 72 = .ok (.aload_n 0, 1) := by decide +kernel
theorem dX8_wholeValue_73 : decode cX8_wholeValue 73 = .ok (.iload 5, 2) := by decide +kernel
theorem dX8_wholeValue_75 : decode cX8_wholeValue 75 = .ok (.invokevirtual 51, 3) := by decide +kernel
theorem dX8_wholeValue_78 : decode cX8_wholeValue 78 = .ok (.invokevirtual 140, 3) := by decide +kernel
theorem dX8_wholeValue_81 : decode cX8_wholeValue 81 = .ok (.iload 4, 2) := by decide +kernel
theorem dX8_wholeValue_83 : decode cX8_wholeValue 83 = .ok (.if_icmp .le 16, 3) := by decide +kernel
theorem dX8_wholeValue_86 : decode cX8_wholeValue 86 = .ok (.aload_n 0, 1) := by decide +kernel
theorem dX8_wholeValue_87 : decode cX8_wholeValue 87 = .ok (.aload_n 0, 1) := by decide +kernel
theorem dX8_wholeValue_88 : decode cX8_wholeValue 88 = .ok (.iload 5, 2) := by decide +kernel
theorem dX8_wholeValue_90 : decode cX8_wholeValue 90 = .ok (.invokevirtual 51, 3) := by decide +kernel
theorem dX8_wholeValue_93 : decode cX8_wholeValue 93 = .ok (.invokevirtual 140, 3) := by decide +kernel
theorem dX8_wholeValue_96 : decode cX8_wholeValue 96 = .ok (.goto 5, 3) := by decide +kernel
theorem dX8_wholeValue_99 : decode cX8_wholeValue 99 = .ok (.iload 4, 2) := by decide +kernel
theorem dX8_wholeValue_101 : decode cX8_wholeValue 101 = .ok (.istore 4, 2) := by decide +kernel
theorem dX8_wholeValue_103 : decode cX8_wholeValue 103 = .ok (.iinc 5 1, 3) := by decide +kernel
theorem dX8_wholeValue_106 : decode cX8_wholeValue 106 = .ok (.goto (-46), 3) := by decide +kernel
theorem dX8_wholeValue_109 : decode cX8_wholeValue 109 = .ok (.iload_n 1, 1) := by decide +kernel
theorem dX8_wholeValue_110 : decode cX8_wholeValue 110 = .ok (.tableswitch 120 0 10 #[58, 65, 72, 79, 84, 86, 88, 91, 98, 105, 112], 58) := by decide +kernel
theorem dX8_wholeValue_168 : decode cX8_wholeValue 168 = .ok (.aload_n 0, 1) := by decide +kernel
theorem dX8_wholeValue_169 : decode cX8_wholeValue 169 = .ok (.getfield 7, 3) := by decide +kernel
theorem dX8_wholeValue_172 : decode cX8_wholeValue 172 = .ok (.iconst 1, 1) := by decide +kernel
theorem dX8_wholeValue_173 : decode cX8_wholeValue 173 = .ok (.iaload, 1) := by decide +kernel
theorem dX8_wholeValue_174 : decode cX8_wholeValue 174 = .ok (.ireturn, 1) := by decide +kernel
theorem dX8_wholeValue_175 : decode cX8_wholeValue 175 = .ok (.aload_n 0, 1) := by decide +kernel
theorem dX8_wholeValue_176 : decode cX8_wholeValue 176 = .ok (.getfield 7, 3) := by decide +kernel
theorem dX8_wholeValue_179 : decode cX8_wholeValue 179 = .ok (.iconst 2, 1) := by decide +kernel
theorem dX8_wholeValue_180 : decode cX8_wholeValue 180 = .ok (.iaload, 1) := by decide +kernel

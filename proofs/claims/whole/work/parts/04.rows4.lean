theorem dX8_wholeValue_181 : decode cX8_wholeValue 181 = .ok (.ireturn, 1) := by decide +kernel
theorem dX8_wholeValue_182 : decode cX8_wholeValue 182 = .ok (.aload_n 0, 1) := by decide +kernel
theorem dX8_wholeValue_183 : decode cX8_wholeValue 183 = .ok (.getfield 7, 3) := by decide +kernel
theorem dX8_wholeValue_186 : decode cX8_wholeValue 186 = .ok (.iconst 0, 1) := by decide +kernel
theorem dX8_wholeValue_187 : decode cX8_wholeValue 187 = .ok (.iaload, 1) := by decide +kernel
theorem dX8_wholeValue_188 : decode cX8_wholeValue 188 = .ok (.ireturn, 1) := by decide +kernel
theorem dX8_wholeValue_189 : decode cX8_wholeValue 189 = .ok (.aload_n 0, 1) := by decide +kernel
theorem dX8_wholeValue_190 : decode cX8_wholeValue 190 = .ok (.invokevirtual 164, 3) := by decide +kernel
theorem dX8_wholeValue_193 : decode cX8_wholeValue 193 = .ok (.ireturn, 1) := by decide +kernel
theorem dX8_wholeValue_194 : decode cX8_wholeValue 194 = .ok (.iload_n 2, 1) := by decide +kernel
theorem dX8_wholeValue_195 : decode cX8_wholeValue 195 = .ok (.ireturn, 1) := by decide +kernel
theorem dX8_wholeValue_196 : decode cX8_wholeValue 196 = .ok (.iload_n 3, 1) := by decide +kernel
theorem dX8_wholeValue_197 : decode cX8_wholeValue 197 = .ok (.ireturn, 1) := by decide +kernel
theorem dX8_wholeValue_198 : decode cX8_wholeValue 198 = .ok (.iload 4, 2) := by decide +kernel
theorem dX8_wholeValue_200 : decode cX8_wholeValue 200 = .ok (.ireturn, 1) := by decide +kernel
theorem dX8_wholeValue_201 : decode cX8_wholeValue 201 = .ok (.aload_n 0, 1) := by decide +kernel
theorem dX8_wholeValue_202 : decode cX8_wholeValue 202 = .ok (.getfield 7, 3) := by decide +kernel
theorem dX8_wholeValue_205 : decode cX8_wholeValue 205 = .ok (.iconst 3, 1) := by decide +kernel
theorem dX8_wholeValue_206 : decode cX8_wholeValue 206 = .ok (.iaload, 1) := by decide +kernel
theorem dX8_wholeValue_207 : decode cX8_wholeValue 207 = .ok (.ireturn, 1) := by decide +kernel
theorem dX8_wholeValue_208 : decode cX8_wholeValue 208 = .ok (.aload_n 0, 1) := by decide +kernel
theorem dX8_wholeValue_209 : decode cX8_wholeValue 209 = .ok (.getfield 7, 3) := by decide +kernel
theorem dX8_wholeValue_212 : decode cX8_wholeValue 212 = .ok (.iconst 4, 1) := by decide +kernel
theorem dX8_wholeValue_213 : decode cX8_wholeValue 213 = .ok (.iaload, 1) := by decide +kernel
theorem dX8_wholeValue_214 : decode cX8_wholeValue 214 = .ok (.ireturn, 1) := by decide +kernel
theorem dX8_wholeValue_215 : decode cX8_wholeValue 215 = .ok (.aload_n 0, 1) := by decide +kernel
theorem dX8_wholeValue_216 : decode cX8_wholeValue 216 = .ok (.getfield 7, 3) := by decide +kernel
theorem dX8_wholeValue_219 : decode cX8_wholeValue 219 = .ok (.iconst 5, 1) := by decide +kernel
theorem dX8_wholeValue_220 : decode cX8_wholeValue 220 = .ok (.iaload, 1) := by decide +kernel
theorem dX8_wholeValue_221 : decode cX8_wholeValue 221 = .ok (.ireturn, 1) := by decide +kernel
theorem dX8_wholeValue_222 : decode cX8_wholeValue 222 = .ok (.aload_n 0, 1) := by decide +kernel
theorem dX8_wholeValue_223 : decode cX8_wholeValue 223 = .ok (.getfield 7, 3) := by decide +kernel
theorem dX8_wholeValue_226 : decode cX8_wholeValue 226 = .ok (.bipush 6, 2) := by decide +kernel
theorem dX8_wholeValue_228 : decode cX8_wholeValue 228 = .ok (.iaload, 1) := by decide +kernel
theorem dX8_wholeValue_229 : decode cX8_wholeValue 229 = .ok (.ireturn, 1) := by decide +kernel
theorem dX8_wholeValue_230 : decode cX8_wholeValue 230 = .ok (.aload_n 0, 1) := by decide +kernel
theorem dX8_wholeValue_231 : decode cX8_wholeValue 231 = .ok (.getfield 167, 3) := by decide +kernel
theorem dX8_wholeValue_234 : decode cX8_wholeValue 234 = .ok (.ireturn, 1) := by decide +kernel
set_option maxRecDepth 20000 in
theorem ggX8_whole_X8_within : GoodIn wsX8_whole wsX8_within := goodIn_r _ [5] (by decide +kernel) (by decide +kernel)
set_option maxRecDepth 20000 in
theorem gX8_whole_X8_within : GoodIn wsX8_whole (va_wsS RX8 33 yX8_within wsX8_within) := goodIn_app (goodIn_of _ (by decide +kernel)) ggX8_whole_X8_within
set_option maxRecDepth 20000 in
theorem ggX8_whole_X8_wholeValue : GoodIn wsX8_whole wsX8_wholeValue := goodIn_r _ [9, 10, 11, 12, 13, 14, 4, 15, 16, 17, 18, 19, 20, 21, 22, 23, 24, 25, 26, 27, 28, 29, 30, 31, 32, 33, 34, 35, 36, 37, 38, 39, 40, 41, 42, 43, 44, 45, 46, 47, 48, 49, 50, 51, 52, 53, 54, 55, 56, 57, 58, 59, 60, 61, 62] (by decide +kernel) (by decide +kernel)
set_option maxRecDepth 20000 in
theorem gX8_whole_X8_wholeValue : GoodIn wsX8_whole (wsV RX8 170 RX8 yX8_wholeValue wsX8_wholeValue) := goodIn_app (goodIn_of _ (by decide +kernel)) ggX8_whole_X8_wholeValue
theorem dX8_whole_0 : decode cX8_whole 0 = .ok (.aload_n 0, 1) := by decide +kernel
theorem dX8_whole_1 : decode cX8_whole 1 = .ok (.iload_n 1, 1) := by decide +kernel
theorem dX8_whole_2 : decode cX8_whole 2 = .ok (.iconst 0, 1) := by decide +kernel
theorem dX8_whole_3 : decode cX8_whole 3 = .ok (.bipush 11, 2) := by decide +kernel
theorem dX8_whole_5 : decode cX8_whole 5 = .ok (.invokestatic 33, 3) := by decide +kernel
theorem dX8_whole_8 : decode cX8_whole 8 = .ok (.ifCond .eq 7, 3) := by decide +kernel
theorem dX8_whole_11 : decode cX8_whole 11 = .ok (.iconst 0, 1) := by decide +kernel
theorem dX8_whole_12 : decode cX8_whole 12 = .ok (.goto 4, 3) := by decide +kernel
theorem dX8_whole_15 : decode cX8_whole 15 = .ok (.iconst 1, 1) := by decide +kernel
theorem dX8_whole_16 : decode cX8_whole 16 = .ok (.putfield 22, 3) := by decide +kernel
theorem dX8_whole_19 : decode cX8_whole 19 = .ok (.aload_n 0, 1) := by decide +kernel
theorem dX8_whole_20 : decode cX8_whole 20 = .ok (.getfield 22, 3) := by decide +kernel
theorem dX8_whole_23 : decode cX8_whole 23 = .ok (.ifCond .le 7, 3) := by decide +kernel
theorem dX8_whole_26 : decode cX8_whole 26 = .ok (.iconst 0, 1) := by decide +kernel
theorem dX8_whole_27 : decode cX8_whole 27 = .ok (.goto 8, 3) := by decide +kernel
theorem dX8_whole_30 : decode cX8_whole 30 = .ok (.aload_n 0, 1) := by decide +kernel
theorem dX8_whole_31 : decode cX8_whole 31 = .ok (.iload_n 1, 1) := by decide +kernel
theorem dX8_whole_32 : decode cX8_whole 32 = .ok (.invokevirtual 170, 3) := by decide +kernel
theorem dX8_whole_35 : decode cX8_whole 35 = .ok (.ireturn, 1) := by decide +kernel
set_option maxRecDepth 20000 in
theorem ggX8_reason_X8_isPrefix : GoodIn wsX8_reason wsX8_isPrefix := goodIn_r _ [5, 6, 7, 4, 8] (by decide +kernel) (by decide +kernel)
set_option maxRecDepth 20000 in
theorem gX8_reason_X8_isPrefix : GoodIn wsX8_reason (va_wsS RX8 83 yX8_isPrefix wsX8_isPrefix) := goodIn_app (goodIn_of _ (by decide +kernel)) ggX8_reason_X8_isPrefix
set_option maxRecDepth 20000 in
theorem ggX8_reason_X8_code : GoodIn wsX8_reason wsX8_code := goodIn_r _ [11] (by decide +kernel) (by decide +kernel)
set_option maxRecDepth 20000 in
theorem gX8_reason_X8_code : GoodIn wsX8_reason (va_wsS RX8 44 yX8_code wsX8_code) := goodIn_app (goodIn_of _ (by decide +kernel)) ggX8_reason_X8_code
set_option maxRecDepth 20000 in
theorem ggX8_reason_X8_findHouse : GoodIn wsX8_reason wsX8_findHouse := goodIn_r _ [15, 16, 17, 18, 19, 4, 20, 61, 62, 63, 64, 65, 66, 67, 68, 69, 70, 71, 72] (by decide +kernel) (by decide +kernel)
set_option maxRecDepth 20000 in
theorem gX8_reason_X8_findHouse : GoodIn wsX8_reason (wsV RX8 89 RX8 yX8_findHouse wsX8_findHouse) := goodIn_app (goodIn_of _ (by decide +kernel)) ggX8_reason_X8_findHouse
set_option maxRecDepth 20000 in
theorem ggX8_reason_X8_whyNoMove : GoodIn wsX8_reason wsX8_whyNoMove := goodIn_r _ [24, 16, 17, 18, 19, 4, 20, 25, 26, 27, 28, 29, 30, 31, 32, 33, 34, 35, 36, 37, 38, 39, 40, 41, 42, 43, 44, 45, 46, 47, 48, 49, 50, 51, 52, 53, 54, 55, 56, 9, 10, 11, 57, 58, 59, 60, 61, 62, 63, 64, 65, 66, 67, 68, 69, 70, 71, 72] (by decide +kernel) (by decide +kernel)
set_option maxRecDepth 20000 in
theorem gX8_reason_X8_whyNoMove : GoodIn wsX8_reason (wsV RX8 118 RX8 yX8_whyNoMove wsX8_whyNoMove) := goodIn_app (goodIn_of _ (by decide +kernel)) ggX8_reason_X8_whyNoMove
theorem dX8_reason_0 : decode cX8_reason 0 = .ok (.aload_n 0, 1) := by decide +kernel
theorem dX8_reason_1 : decode cX8_reason 1 = .ok (.iload_n 1, 1) := by decide +kernel
theorem dX8_reason_2 : decode cX8_reason 2 = .ok (.iload_n 2, 1) := by decide +kernel
theorem dX8_reason_3 : decode cX8_reason 3 = .ok (.iconst 0, 1) := by decide +kernel
theorem dX8_reason_4 : decode cX8_reason 4 = .ok (.invokestatic 83, 3) := by decide +kernel
theorem dX8_reason_7 : decode cX8_reason 7 = .ok (.ifCond .eq 7, 3) := by decide +kernel
theorem dX8_reason_10 : decode cX8_reason 10 = .ok (.iconst 0, 1) := by decide +kernel
theorem dX8_reason_11 : decode cX8_reason 11 = .ok (.goto 4, 3) := by decide +kernel
theorem dX8_reason_14 : decode cX8_reason 14 = .ok (.iconst 1, 1) := by decide +kernel
theorem dX8_reason_15 : decode cX8_reason 15 = .ok (.putfield 22, 3) := by decide +kernel
theorem dX8_reason_18 : decode cX8_reason 18 = .ok (.aload_n 0, 1) := by decide +kernel
theorem dX8_reason_19 : decode cX8_reason 19 = .ok (.getfield 22, 3) := by decide +kernel
theorem dX8_reason_22 : decode cX8_reason 22 = .ok (.ifCond .le 5, 3) := by decide +kernel
theorem dX8_reason_25 : decode cX8_reason 25 = .ok (.iconst 0, 1) := by decide +kernel
theorem dX8_reason_26 : decode cX8_reason 26 = .ok (.ireturn, 1) := by decide +kernel
theorem dX8_reason_27 : decode cX8_reason 27 = .ok (.aload_n 0, 1) := by decide +kernel
theorem dX8_reason_28 : decode cX8_reason 28 = .ok (.iload_n 1, 1) := by decide +kernel
theorem dX8_reason_29 : decode cX8_reason 29 = .ok (.iload_n 2, 1) := by decide +kernel
theorem dX8_reason_30 : decode cX8_reason 30 = .ok (.invokestatic 44, 3) := by decide +kernel
theorem dX8_reason_33 : decode cX8_reason 33 = .ok (.invokevirtual 89, 3) := by decide +kernel
theorem dX8_reason_36 : decode cX8_reason 36 = .ok (.istore_n 3, 1) := by decide +kernel
theorem dX8_reason_37 : decode cX8_reason 37 = .ok (.iload_n 3, 1) := by decide +kernel
theorem dX8_reason_38 : decode cX8_reason 38 = .ok (.iconst (-1), 1) := by decide +kernel
theorem dX8_reason_39 : decode cX8_reason 39 = .ok (.if_icmp .ne 7, 3) := by decide +kernel
theorem dX8_reason_42 : decode cX8_reason 42 = .ok (.iconst (-1), 1) := by decide +kernel
theorem dX8_reason_43 : decode cX8_reason 43 = .ok (.goto 8, 3) := by decide +kernel
theorem dX8_reason_46 : decode cX8_reason 46 = .ok (.aload_n 0, 1) := by decide +kernel
theorem dX8_reason_47 : decode cX8_reason 47 = .ok (.iload_n 3, 1) := by decide +kernel
theorem dX8_reason_48 : decode cX8_reason 48 = .ok (.invokevirtual 118, 3) := by decide +kernel
theorem dX8_reason_51 : decode cX8_reason 51 = .ok (.ireturn, 1) := by decide +kernel
set_option maxRecDepth 20000 in
theorem ggX8_saves_X8_whyNoMove : GoodIn wsX8_saves wsX8_whyNoMove := goodIn_r _ [5, 6, 7, 8, 9, 4, 10, 11, 12, 13, 14, 15, 16, 17, 18, 19, 20, 21, 22, 23, 24, 25, 26, 27, 28, 29, 30, 31, 32, 33, 34, 35, 36, 37, 38, 39, 40, 41, 42, 43, 44, 45, 46, 47, 48, 49, 54, 55, 56, 57, 58, 59, 60, 61, 62, 63, 64, 65] (by decide +kernel) (by decide +kernel)
set_option maxRecDepth 20000 in
theorem gX8_saves_X8_whyNoMove : GoodIn wsX8_saves (wsV RX8 118 RX8 yX8_whyNoMove wsX8_whyNoMove) := goodIn_app (goodIn_of _ (by decide +kernel)) ggX8_saves_X8_whyNoMove
set_option maxRecDepth 20000 in
theorem ggX8_saves_X8_prefixOf : GoodIn wsX8_saves wsX8_prefixOf := goodIn_r _ [10, 6, 54, 55, 56, 57, 58, 59, 60, 61, 62, 63, 64, 65] (by decide +kernel) (by decide +kernel)
set_option maxRecDepth 20000 in
theorem gX8_saves_X8_prefixOf : GoodIn wsX8_saves (wsV RX8 64 RX8 yX8_prefixOf wsX8_prefixOf) := goodIn_app (goodIn_of _ (by decide +kernel)) ggX8_saves_X8_prefixOf
set_option maxRecDepth 20000 in
theorem ggX8_saves_X8_weightBelow : GoodIn wsX8_saves wsX8_weightBelow := goodIn_r _ [53, 6, 19, 20, 21, 4, 22, 31, 32, 33, 34, 35, 36, 37, 38, 39, 40, 41, 42, 43, 44, 45, 54, 55, 56, 57, 58, 59, 60, 61, 62, 63, 64, 65] (by decide +kernel) (by decide +kernel)
set_option maxRecDepth 20000 in
theorem gX8_saves_X8_weightBelow : GoodIn wsX8_saves (wsV RX8 149 RX8 yX8_weightBelow wsX8_weightBelow) := goodIn_app (goodIn_of _ (by decide +kernel)) ggX8_saves_X8_weightBelow
theorem dX8_saves_0 : decode cX8_saves 0 = .ok (.aload_n 0, 1) := by decide +kernel
theorem dX8_saves_1 : decode cX8_saves 1 = .ok (.iload_n 1, 1) := by decide +kernel
theorem dX8_saves_2 : decode cX8_saves 2 = .ok (.invokevirtual 118, 3) := by decide +kernel
theorem dX8_saves_5 : decode cX8_saves 5 = .ok (.ifCond .le 7, 3) := by decide +kernel
theorem dX8_saves_8 : decode cX8_saves 8 = .ok (.iconst (-1), 1) := by decide +kernel
theorem dX8_saves_9 : decode cX8_saves 9 = .ok (.goto 12, 3) := by decide +kernel
theorem dX8_saves_12 : decode cX8_saves 12 = .ok (.aload_n 0, 1) := by decide +kernel
theorem dX8_saves_13 : decode cX8_saves 13 = .ok (.aload_n 0, 1) := by decide +kernel
theorem dX8_saves_14 : decode cX8_saves 14 = .ok (.iload_n 1, 1) := by decide +kernel
theorem dX8_saves_15 : decode cX8_saves 15 = .ok (.invokevirtual 64, 3) := by decide +kernel
theorem dX8_saves_18 : decode cX8_saves 18 = .ok (.invokevirtual 149, 3) := by decide +kernel
theorem dX8_saves_21 : decode cX8_saves 21 = .ok (.ireturn, 1) := by decide +kernel
set_option maxRecDepth 20000 in
theorem ggX8_savedBy_X8_isHouse : GoodIn wsX8_savedBy wsX8_isHouse := goodIn_r _ [6, 7, 8, 9, 5, 10, 66, 67, 68, 69, 70, 71, 72, 73, 74, 75, 76, 77] (by decide +kernel) (by decide +kernel)
set_option maxRecDepth 20000 in
theorem gX8_savedBy_X8_isHouse : GoodIn wsX8_savedBy (wsV RX8 152 RX8 yX8_isHouse wsX8_isHouse) := goodIn_app (goodIn_of _ (by decide +kernel)) ggX8_savedBy_X8_isHouse
set_option maxRecDepth 20000 in
theorem ggX8_savedBy_X8_saves : GoodIn wsX8_savedBy wsX8_saves := goodIn_r _ [14, 15, 16, 17, 5, 18, 7, 19, 20, 21, 22, 23, 24, 25, 26, 27, 28, 29, 30, 31, 32, 33, 34, 35, 36, 37, 38, 39, 40, 41, 42, 43, 44, 45, 46, 47, 48, 49, 50, 51, 52, 53, 54, 55, 56, 57, 58, 59, 60, 61, 62, 63, 64, 65, 66, 67, 68, 69, 70, 71, 72, 73, 74, 75, 76, 77] (by decide +kernel) (by decide +kernel)
set_option maxRecDepth 20000 in
theorem gX8_savedBy_X8_saves : GoodIn wsX8_savedBy (wsV RX8 173 RX8 yX8_saves wsX8_saves) := goodIn_app (goodIn_of _ (by decide +kernel)) ggX8_savedBy_X8_saves
theorem dX8_savedBy_0 : decode cX8_savedBy 0 = .ok (.aload_n 0, 1) := by decide +kernel
theorem dX8_savedBy_1 : decode cX8_savedBy 1 = .ok (.aload_n 0, 1) := by decide +kernel
theorem dX8_savedBy_2 : decode cX8_savedBy 2 = .ok (.iload_n 1, 1) := by decide +kernel
theorem dX8_savedBy_3 : decode cX8_savedBy 3 = .ok (.invokevirtual 152, 3) := by decide +kernel
theorem dX8_savedBy_6 : decode cX8_savedBy 6 = .ok (.ifCond .eq 7, 3) := by decide +kernel
theorem dX8_savedBy_9 : decode cX8_savedBy 9 = .ok (.iconst 0, 1) := by decide +kernel
theorem dX8_savedBy_10 : decode cX8_savedBy 10 = .ok (.goto 4, 3) := by decide +kernel
theorem dX8_savedBy_13 : decode cX8_savedBy 13 = .ok (.iconst 1, 1) := by decide +kernel
theorem dX8_savedBy_14 : decode cX8_savedBy 14 = .ok (.putfield 22, 3) := by decide +kernel
theorem dX8_savedBy_17 : decode cX8_savedBy 17 = .ok (.aload_n 0, 1) := by decide +kernel
theorem dX8_savedBy_18 : decode cX8_savedBy 18 = .ok (.getfield 22, 3) := by decide +kernel
theorem dX8_savedBy_21 : decode cX8_savedBy 21 = .ok (.ifCond .le 7, 3) := by decide +kernel
theorem dX8_savedBy_24 : decode cX8_savedBy 24 = .ok (.iconst 0, 1) := by decide +kernel
theorem dX8_savedBy_25 : decode cX8_savedBy 25 = .ok (.goto 8, 3) := by decide +kernel
theorem dX8_savedBy_28 : decode cX8_savedBy 28 = .ok (.aload_n 0, 1) := by decide +kernel
theorem dX8_savedBy_29 : decode cX8_savedBy 29 = .ok (.iload_n 1, 1) := by decide +kernel
theorem dX8_savedBy_30 : decode cX8_savedBy 30 = .ok (.invokevirtual 173, 3) := by decide +kernel
theorem dX8_savedBy_33 : decode cX8_savedBy 33 = .ok (.ireturn, 1) := by decide +kernel
set_option maxRecDepth 20000 in
theorem ggX8_bestOf_X8_saves : GoodIn wsX8_bestOf wsX8_saves := goodIn_r _ [6, 7, 8, 9, 5, 10, 1, 11, 12, 13, 14, 15, 16, 17, 18, 19, 20, 21, 22, 23, 24, 25, 26, 27, 28, 29, 30, 31, 32, 33, 34, 35, 36, 37, 38, 39, 40, 41, 42, 43, 44, 45, 46, 47, 48, 49, 50, 51, 52, 53, 54, 55, 56, 57, 58, 59, 60, 61, 62, 63, 64, 65, 66, 67, 68, 69] (by decide +kernel) (by decide +kernel)
set_option maxRecDepth 20000 in
theorem gX8_bestOf_X8_saves : GoodIn wsX8_bestOf (wsV RX8 173 RX8 yX8_saves wsX8_saves) := goodIn_app (goodIn_of _ (by decide +kernel)) ggX8_bestOf_X8_saves
theorem dX8_bestOf_0 : decode cX8_bestOf 0 = .ok (.iconst (-1), 1) := by decide +kernel
theorem dX8_bestOf_1 : decode cX8_bestOf 1 = .ok (.istore_n 1, 1) := by decide +kernel
theorem dX8_bestOf_2 : decode cX8_bestOf 2 = .ok (.iconst (-1), 1) := by decide +kernel
theorem dX8_bestOf_3 : decode cX8_bestOf 3 = .ok (.istore_n 2, 1) := by decide +kernel
theorem dX8_bestOf_4 : decode cX8_bestOf 4 = .ok (.iconst 0, 1) := by decide +kernel
theorem dX8_bestOf_5 : decode cX8_bestOf 5 = .ok (.istore_n 3, 1) := by decide +kernel
theorem dX8_bestOf_6 : decode cX8_bestOf 6 = .ok (.iload_n 3, 1) := by decide +kernel
theorem dX8_bestOf_7 : decode cX8_bestOf 7 = .ok (.aload_n 0, 1) := by decide +kernel
theorem dX8_bestOf_8 : decode cX8_bestOf 8 = .ok (.getfield 7, 3) := by decide +kernel
theorem dX8_bestOf_11 : decode cX8_bestOf 11 = .ok (.iconst 2, 1) := by decide +kernel
theorem dX8_bestOf_12 : decode cX8_bestOf 12 = .ok (.iaload, 1) := by decide +kernel
theorem dX8_bestOf_13 : decode cX8_bestOf 13 = .ok (.if_icmp .ge 41, 3) := by decide +kernel
theorem dX8_bestOf_16 : decode cX8_bestOf 16 = .ok (.aload_n 0, 1) := by decide +kernel
theorem dX8_bestOf_17 : decode cX8_bestOf 17 = .ok (.iload_n 3, 1) := by decide +kernel
theorem dX8_bestOf_18 : decode cX8_bestOf 18 = .ok (.invokevirtual 173, 3) := by decide +kernel
theorem dX8_bestOf_21 : decode cX8_bestOf 21 = .ok (.istore 4, 2) := by decide +kernel
theorem dX8_bestOf_23 : decode cX8_bestOf 23 = .ok (.iload 4, 2) := by decide +kernel
theorem dX8_bestOf_25 : decode cX8_bestOf 25 = .ok (.iload_n 2, 1) := by decide +kernel
theorem dX8_bestOf_26 : decode cX8_bestOf 26 = .ok (.if_icmp .le 7, 3) := by decide +kernel
theorem dX8_bestOf_29 : decode cX8_bestOf 29 = .ok (.iload_n 3, 1) := by decide +kernel
theorem dX8_bestOf_30 : decode cX8_bestOf 30 = .ok (.goto 4, 3) := by decide +kernel
theorem dX8_bestOf_33 : decode cX8_bestOf 33 = .ok (.iload_n 1, 1) := by decide +kernel
theorem dX8_bestOf_34 : decode cX8_bestOf 34 = .ok (.istore_n 1, 1) := by decide +kernel
theorem dX8_bestOf_35 : decode cX8_bestOf 35 = .ok (.iload 4, 2) := by decide +kernel
theorem dX8_bestOf_37 : decode cX8_bestOf 37 = .ok (.iload_n 2, 1) := by decide +kernel
theorem dX8_bestOf_38 : decode cX8_bestOf 38 = .ok (.if_icmp .le 8, 3) := by decide +kernel
theorem dX8_bestOf_41 : decode cX8_bestOf 41 = .ok (.iload 4, 2) := by decide +kernel
theorem dX8_bestOf_43 : decode cX8_bestOf 43 = .ok (.goto 4, 3) := by decide +kernel
theorem dX8_bestOf_46 : decode cX8_bestOf 46 = .ok (.iload_n 2, 1) := by decide +kernel
theorem dX8_bestOf_47 : decode cX8_bestOf 47 = .ok (.istore_n 2, 1) := by decide +kernel
theorem dX8_bestOf_48 : decode cX8_bestOf 48 = .ok (.iinc 3 1, 3) := by decide +kernel
theorem dX8_bestOf_51 : decode cX8_bestOf 51 = .ok (.goto (-45), 3) := by decide +kernel
theorem dX8_bestOf_54 : decode cX8_bestOf 54 = .ok (.iload_n 1, 1) := by decide +kernel
theorem dX8_bestOf_55 : decode cX8_bestOf 55 = .ok (.ireturn, 1) := by decide +kernel
set_option maxRecDepth 20000 in
theorem ggX8_bestMove_X8_bestOf : GoodIn wsX8_bestMove wsX8_bestOf := goodIn_r _ [6, 7, 8, 9, 10, 5, 11, 12, 13, 14, 15, 16, 17, 18, 19, 20, 21, 22, 23, 24, 25, 26, 27, 28, 29, 30, 31, 32, 33, 34, 35, 36, 37, 38, 39, 40, 41, 42, 43, 44, 45, 46, 47, 48, 49, 50, 51, 52, 53, 54, 55, 56, 57, 58, 59, 60, 61, 62, 63, 64, 65, 66, 67, 68, 69, 70, 71, 72, 73, 74] (by decide +kernel) (by decide +kernel)
set_option maxRecDepth 20000 in
theorem gX8_bestMove_X8_bestOf : GoodIn wsX8_bestMove (wsV RX8 176 RX8 yX8_bestOf wsX8_bestOf) := goodIn_app (goodIn_of _ (by decide +kernel)) ggX8_bestMove_X8_bestOf
theorem dX8_bestMove_0 : decode cX8_bestMove 0 = .ok (.aload_n 0, 1) := by decide +kernel
theorem dX8_bestMove_1 : decode cX8_bestMove 1 = .ok (.iconst 0, 1) := by decide +kernel
theorem dX8_bestMove_2 : decode cX8_bestMove 2 = .ok (.putfield 22, 3) := by decide +kernel
theorem dX8_bestMove_5 : decode cX8_bestMove 5 = .ok (.aload_n 0, 1) := by decide +kernel
theorem dX8_bestMove_6 : decode cX8_bestMove 6 = .ok (.invokevirtual 176, 3) := by decide +kernel
theorem dX8_bestMove_9 : decode cX8_bestMove 9 = .ok (.ireturn, 1) := by decide +kernel
set_option maxRecDepth 20000 in
theorem ggX8_costWith_X8_isLimit : GoodIn wsX8_costWith wsX8_isLimit := goodIn_r _ [7, 8, 9, 6, 10] (by decide +kernel) (by decide +kernel)
set_option maxRecDepth 20000 in
theorem gX8_costWith_X8_isLimit : GoodIn wsX8_costWith (va_wsS RX8 115 yX8_isLimit wsX8_isLimit) := goodIn_app (goodIn_of _ (by decide +kernel)) ggX8_costWith_X8_isLimit
set_option maxRecDepth 20000 in
theorem ggX8_costWith_X8_copy : GoodIn wsX8_costWith wsX8_copy := goodIn_r _ [13] (by decide +kernel) (by decide +kernel)
set_option maxRecDepth 20000 in
theorem gX8_costWith_X8_copy : GoodIn wsX8_costWith (va_wsS RX8 29 yX8_copy wsX8_copy) := goodIn_app (goodIn_of _ (by decide +kernel)) ggX8_costWith_X8_copy
set_option maxRecDepth 20000 in
theorem ggX8_costWith_X8_expanded : GoodIn wsX8_costWith wsX8_expanded := goodIn_r _ [17, 2, 18, 19, 20, 6, 21, 22, 23, 24, 25, 26, 27, 28, 29, 30, 31, 32, 33, 34, 35, 36, 37, 38, 39, 40, 41, 42, 43, 44, 45, 46, 47, 48, 49, 50, 51, 52, 53, 54, 55, 56, 57, 58, 59, 60, 97, 98, 99, 100, 101, 102, 103, 104, 105, 106, 107, 108] (by decide +kernel) (by decide +kernel)
set_option maxRecDepth 20000 in
theorem gX8_costWith_X8_expanded : GoodIn wsX8_costWith (wsV RX8 137 RX8 yX8_expanded wsX8_expanded) := goodIn_app (goodIn_of _ (by decide +kernel)) ggX8_costWith_X8_expanded
set_option maxRecDepth 20000 in
theorem ggX8_costWith_X8_compressed : GoodIn wsX8_costWith wsX8_compressed := goodIn_r _ [64, 2, 65, 66, 67, 6, 68, 38, 39, 40, 41, 69, 70, 71, 72, 73, 74, 75, 76, 18, 19, 20, 21, 77, 78, 79, 80, 54, 55, 56, 57, 58, 59, 60, 22, 23, 24, 25, 26, 27, 28, 29, 30, 31, 32, 33, 50, 51, 52, 53, 81, 82, 83, 84, 85, 86, 87, 88, 97, 98, 99, 100, 101, 102, 103, 104, 105, 106, 107, 108] (by decide +kernel) (by decide +kernel)
set_option maxRecDepth 20000 in
theorem gX8_costWith_X8_compressed : GoodIn wsX8_costWith (wsV RX8 133 RX8 yX8_compressed wsX8_compressed) := goodIn_app (goodIn_of _ (by decide +kernel)) ggX8_costWith_X8_compressed
set_option maxRecDepth 20000 in
theorem ggX8_costWith_X8_costOf : GoodIn wsX8_costWith wsX8_costOf := goodIn_r _ [92, 2, 18, 19, 20, 6, 21, 93, 94, 95, 96, 38, 39, 40, 41, 58, 59, 60, 22, 23, 24, 25, 26, 27, 28, 29, 30, 31, 32, 33, 97, 98, 99, 100, 101, 102, 103, 104, 105, 106, 107, 108] (by decide +kernel) (by decide +kernel)
set_option maxRecDepth 20000 in
theorem gX8_costWith_X8_costOf : GoodIn wsX8_costWith (wsV RX8 164 RX8 yX8_costOf wsX8_costOf) := goodIn_app (goodIn_of _ (by decide +kernel)) ggX8_costWith_X8_costOf
theorem dX8_costWith_0 : decode cX8_costWith 0 = .ok (.aload_n 0, 1) := by decide +kernel
theorem dX8_costWith_1 : decode cX8_costWith 1 = .ok (.iload_n 1, 1) := by decide +kernel
theorem dX8_costWith_2 : decode cX8_costWith 2 = .ok (.invokestatic 115, 3) := by decide +kernel
theorem dX8_costWith_5 : decode cX8_costWith 5 = .ok (.ifCond .eq 7, 3) := by decide +kernel
theorem dX8_costWith_8 : decode cX8_costWith 8 = .ok (.iconst 0, 1) := by decide +kernel
theorem dX8_costWith_9 : decode cX8_costWith 9 = .ok (.goto 4, 3) := by decide +kernel
theorem dX8_costWith_12 : decode cX8_costWith 12 = .ok (.iconst 1, 1) := by decide +kernel
theorem dX8_costWith_13 : decode cX8_costWith 13 = .ok (.putfield 22, 3) := by decide +kernel
theorem dX8_costWith_16 : decode cX8_costWith 16 = .ok (.aload_n 0, 1) := by decide +kernel
theorem dX8_costWith_17 : decode cX8_costWith 17 = .ok (.getfield 22, 3) := by decide +kernel
theorem dX8_costWith_20 : decode cX8_costWith 20 = .ok (.ifCond .le 5, 3) := by decide +kernel
theorem dX8_costWith_23 : decode cX8_costWith 23 = .ok (.iconst 0, 1) := by decide +kernel
theorem dX8_costWith_24 : decode cX8_costWith 24 = .ok (.ireturn, 1) := by decide +kernel
theorem dX8_costWith_25 : decode cX8_costWith 25 = .ok (.aload_n 0, 1) := by decide +kernel
theorem dX8_costWith_26 : decode cX8_costWith 26 = .ok (.getfield 7, 3) := by decide +kernel
theorem dX8_costWith_29 : decode cX8_costWith 29 = .ok (.iconst 0, 1) := by decide +kernel
theorem dX8_costWith_30 : decode cX8_costWith 30 = .ok (.aload_n 0, 1) := by decide +kernel
theorem dX8_costWith_31 : decode cX8_costWith 31 = .ok (.getfield 13, 3) := by decide +kernel
theorem dX8_costWith_34 : decode cX8_costWith 34 = .ok (.iconst 0, 1) := by decide +kernel
theorem dX8_costWith_35 : decode cX8_costWith 35 = .ok (.invokestatic 29, 3) := by decide +kernel
theorem dX8_costWith_38 : decode cX8_costWith 38 = .ok (.aload_n 0, 1) := by decide +kernel
theorem dX8_costWith_39 : decode cX8_costWith 39 = .ok (.getfield 7, 3) := by decide +kernel
theorem dX8_costWith_42 : decode cX8_costWith 42 = .ok (.iconst 0, 1) := by decide +kernel
theorem dX8_costWith_43 : decode cX8_costWith 43 = .ok (.iload_n 1, 1) := by decide +kernel
theorem dX8_costWith_44 : decode cX8_costWith 44 = .ok (.iastore, 1) := by decide +kernel
theorem dX8_costWith_45 : decode cX8_costWith 45 = .ok (.aload_n 0, 1) := by decide +kernel
theorem dX8_costWith_46 : decode cX8_costWith 46 = .ok (.invokevirtual 137, 3) := by decide +kernel
theorem dX8_costWith_49 : decode cX8_costWith 49 = .ok (.pop, 1) := by decide +kernel
theorem dX8_costWith_50 : decode cX8_costWith 50 = .ok (.aload_n 0, 1) := by decide +kernel
theorem dX8_costWith_51 : decode cX8_costWith 51 = .ok (.invokevirtual 133, 3) := by decide +kernel
theorem dX8_costWith_54 : decode cX8_costWith 54 = .ok (.pop, 1) := by decide +kernel
theorem dX8_costWith_55 : decode cX8_costWith 55 = .ok (.aload_n 0, 1) := by decide +kernel
theorem dX8_costWith_56 : decode cX8_costWith 56 = .ok (.invokevirtual 164, 3) := by decide +kernel
theorem dX8_costWith_59 : decode cX8_costWith 59 = .ok (.istore_n 2, 1) := by decide +kernel
theorem dX8_costWith_60 : decode cX8_costWith 60 = .ok (.aload_n 0, 1) := by decide +kernel
theorem dX8_costWith_61 : decode cX8_costWith 61 = .ok (.getfield 13, 3) := by decide +kernel
theorem dX8_costWith_64 : decode cX8_costWith 64 = .ok (.iconst 0, 1) := by decide +kernel
theorem dX8_costWith_65 : decode cX8_costWith 65 = .ok (.aload_n 0, 1) := by decide +kernel
theorem dX8_costWith_66 : decode cX8_costWith 66 = .ok (.getfield 7, 3) := by decide +kernel
theorem dX8_costWith_69 : decode cX8_costWith 69 = .ok (.iconst 0, 1) := by decide +kernel
theorem dX8_costWith_70 : decode cX8_costWith 70 = .ok (.invokestatic 29, 3) := by decide +kernel
theorem dX8_costWith_73 : decode cX8_costWith 73 = .ok (.iload_n 2, 1) := by decide +kernel
theorem dX8_costWith_74 : decode cX8_costWith 74 = .ok (.ireturn, 1) := by decide +kernel
set_option maxRecDepth 20000 in
theorem ggX8_housesFor_X8_isPrefix : GoodIn wsX8_housesFor wsX8_isPrefix := goodIn_r _ [5, 6, 7, 4, 8] (by decide +kernel) (by decide +kernel)
set_option maxRecDepth 20000 in
theorem gX8_housesFor_X8_isPrefix : GoodIn wsX8_housesFor (va_wsS RX8 83 yX8_isPrefix wsX8_isPrefix) := goodIn_app (goodIn_of _ (by decide +kernel)) ggX8_housesFor_X8_isPrefix
set_option maxRecDepth 20000 in
theorem ggX8_housesFor_X8_code : GoodIn wsX8_housesFor wsX8_code := goodIn_r _ [11] (by decide +kernel) (by decide +kernel)
set_option maxRecDepth 20000 in
theorem gX8_housesFor_X8_code : GoodIn wsX8_housesFor (va_wsS RX8 44 yX8_code wsX8_code) := goodIn_app (goodIn_of _ (by decide +kernel)) ggX8_housesFor_X8_code
set_option maxRecDepth 20000 in
theorem ggX8_housesFor_X8_findName : GoodIn wsX8_housesFor wsX8_findName := goodIn_r _ [15, 16, 17, 18, 19, 4, 20, 21, 22, 23, 24, 57, 58, 59, 60, 61, 62, 63, 64, 65, 66, 67, 68] (by decide +kernel) (by decide +kernel)
set_option maxRecDepth 20000 in
theorem gX8_housesFor_X8_findName : GoodIn wsX8_housesFor (wsV RX8 70 RX8 yX8_findName wsX8_findName) := goodIn_app (goodIn_of _ (by decide +kernel)) ggX8_housesFor_X8_findName
set_option maxRecDepth 20000 in
theorem ggX8_housesFor_X8_longestPrefix : GoodIn wsX8_housesFor wsX8_longestPrefix := goodIn_r _ [28, 29, 30, 4, 31, 32, 33, 34, 35, 36, 37, 9, 10, 11, 38, 39, 40, 41, 42, 43, 44, 45, 16, 21, 22, 23, 24, 46, 47, 48, 57, 58, 59, 60, 61, 62, 63, 64, 65, 66, 67, 68] (by decide +kernel) (by decide +kernel)
set_option maxRecDepth 20000 in
theorem gX8_housesFor_X8_longestPrefix : GoodIn wsX8_housesFor (wsV RX8 86 RX8 yX8_longestPrefix wsX8_longestPrefix) := goodIn_app (goodIn_of _ (by decide +kernel)) ggX8_housesFor_X8_longestPrefix
set_option maxRecDepth 20000 in
theorem ggX8_housesFor_X8_lengthOf : GoodIn wsX8_housesFor wsX8_lengthOf := goodIn_r _ [31] (by decide +kernel) (by decide +kernel)
set_option maxRecDepth 20000 in
theorem gX8_housesFor_X8_lengthOf : GoodIn wsX8_housesFor (va_wsS RX8 37 yX8_lengthOf wsX8_lengthOf) := goodIn_app (goodIn_of _ (by decide +kernel)) ggX8_housesFor_X8_lengthOf
set_option maxRecDepth 20000 in
theorem ggX8_housesFor_X8_shortened : GoodIn wsX8_housesFor wsX8_shortened := goodIn_r _ [34, 35, 36, 4, 37, 29, 30, 31, 9, 10, 11] (by decide +kernel) (by decide +kernel)
set_option maxRecDepth 20000 in
theorem gX8_housesFor_X8_shortened : GoodIn wsX8_housesFor (va_wsS RX8 48 yX8_shortened wsX8_shortened) := goodIn_app (goodIn_of _ (by decide +kernel)) ggX8_housesFor_X8_shortened
set_option maxRecDepth 20000 in
theorem ggX8_housesFor_X8_findHouse : GoodIn wsX8_housesFor wsX8_findHouse := goodIn_r _ [52, 16, 53, 54, 55, 4, 56, 57, 58, 59, 60, 61, 62, 63, 64, 65, 66, 67, 68] (by decide +kernel) (by decide +kernel)
set_option maxRecDepth 20000 in
theorem gX8_housesFor_X8_findHouse : GoodIn wsX8_housesFor (wsV RX8 89 RX8 yX8_findHouse wsX8_findHouse) := goodIn_app (goodIn_of _ (by decide +kernel)) ggX8_housesFor_X8_findHouse
theorem dX8_housesFor_0 : decode cX8_housesFor 0 = .ok (.aload_n 0, 1) := by decide +kernel
theorem dX8_housesFor_1 : decode cX8_housesFor 1 = .ok (.iload_n 1, 1) := by decide +kernel
theorem dX8_housesFor_2 : decode cX8_housesFor 2 = .ok (.iload_n 2, 1) := by decide +kernel
theorem dX8_housesFor_3 : decode cX8_housesFor 3 = .ok (.iconst 1, 1) := by decide +kernel
theorem dX8_housesFor_4 : decode cX8_housesFor 4 = .ok (.invokestatic 83, 3) := by decide +kernel
theorem dX8_housesFor_7 : decode cX8_housesFor 7 = .ok (.ifCond .eq 7, 3) := by decide +kernel
theorem dX8_housesFor_10 : decode cX8_housesFor 10 = .ok (.iconst 0, 1) := by decide +kernel
theorem dX8_housesFor_11 : decode cX8_housesFor 11 = .ok (.goto 4, 3) := by decide +kernel
theorem dX8_housesFor_14 : decode cX8_housesFor 14 = .ok (.iconst 1, 1) := by decide +kernel
theorem dX8_housesFor_15 : decode cX8_housesFor 15 = .ok (.putfield 22, 3) := by decide +kernel
theorem dX8_housesFor_18 : decode cX8_housesFor 18 = .ok (.aload_n 0, 1) := by decide +kernel
theorem dX8_housesFor_19 : decode cX8_housesFor 19 = .ok (.getfield 22, 3) := by decide +kernel
theorem dX8_housesFor_22 : decode cX8_housesFor 22 = .ok (.ifCond .le 5, 3) := by decide +kernel
theorem dX8_housesFor_25 : decode cX8_housesFor 25 = .ok (.iconst 0, 1) := by decide +kernel
theorem dX8_housesFor_26 : decode cX8_housesFor 26 = .ok (.ireturn, 1) := by decide +kernel
theorem dX8_housesFor_27 : decode cX8_housesFor 27 = .ok (.iload_n 1, 1) := by decide +kernel
theorem dX8_housesFor_28 : decode cX8_housesFor 28 = .ok (.iload_n 2, 1) := by decide +kernel
theorem dX8_housesFor_29 : decode cX8_housesFor 29 = .ok (.invokestatic 44, 3) := by decide +kernel
theorem dX8_housesFor_32 : decode cX8_housesFor 32 = .ok (.istore_n 3, 1) := by decide +kernel
theorem dX8_housesFor_33 : decode cX8_housesFor 33 = .ok (.aload_n 0, 1) := by decide +kernel
theorem dX8_housesFor_34 : decode cX8_housesFor 34 = .ok (.iload_n 3, 1) := by decide +kernel
theorem dX8_housesFor_35 : decode cX8_housesFor 35 = .ok (.invokevirtual 70, 3) := by decide +kernel
theorem dX8_housesFor_38 : decode cX8_housesFor 38 = .ok (.iconst (-1), 1) := by decide +kernel
theorem dX8_housesFor_39 : decode cX8_housesFor 39 = .ok (.if_icmp .eq 5, 3) := by decide +kernel
theorem dX8_housesFor_42 : decode cX8_housesFor 42 = .ok (.iconst (-1), 1) := by decide +kernel
theorem dX8_housesFor_43 : decode cX8_housesFor 43 = .ok (.ireturn, 1) := by decide +kernel
theorem dX8_housesFor_44 : decode cX8_housesFor 44 = .ok (.aload_n 0, 1) := by decide +kernel
theorem dX8_housesFor_45 : decode cX8_housesFor 45 = .ok (.iload_n 3, 1) := by decide +kernel
theorem dX8_housesFor_46 : decode cX8_housesFor 46 = .ok (.invokevirtual 86, 3) := by decide +kernel
theorem dX8_housesFor_49 : decode cX8_housesFor 49 = .ok (.istore 4, 2) := by decide +kernel
theorem dX8_housesFor_51 : decode cX8_housesFor 51 = .ok (.iload_n 3, 1) := by decide +kernel
theorem dX8_housesFor_52 : decode cX8_housesFor 52 = .ok (.invokestatic 37, 3) := by decide +kernel
theorem dX8_housesFor_55 : decode cX8_housesFor 55 = .ok (.iload 4, 2) := by decide +kernel
theorem dX8_housesFor_57 : decode cX8_housesFor 57 = .ok (.isub, 1) := by decide +kernel
theorem dX8_housesFor_58 : decode cX8_housesFor 58 = .ok (.aload_n 0, 1) := by decide +kernel
theorem dX8_housesFor_59 : decode cX8_housesFor 59 = .ok (.iload_n 3, 1) := by decide +kernel
theorem dX8_housesFor_60 : decode cX8_housesFor 60 = .ok (.iload 4, 2) := by decide +kernel
theorem dX8_housesFor_62 : decode cX8_housesFor 62 = .ok (.invokestatic 48, 3) := by decide +kernel
theorem dX8_housesFor_65 : decode cX8_housesFor 65 = .ok (.invokevirtual 89, 3) := by decide +kernel
theorem dX8_housesFor_68 : decode cX8_housesFor 68 = .ok (.iconst (-1), 1) := by decide +kernel
theorem dX8_housesFor_69 : decode cX8_housesFor 69 = .ok (.if_icmp .ne 7, 3) := by decide +kernel
theorem dX8_housesFor_72 : decode cX8_housesFor 72 = .ok (.iconst 1, 1) := by decide +kernel
theorem dX8_housesFor_73 : decode cX8_housesFor 73 = .ok (.goto 4, 3) := by decide +kernel
theorem dX8_housesFor_76 : decode cX8_housesFor 76 = .ok (.iconst 0, 1) := by decide +kernel
theorem dX8_housesFor_77 : decode cX8_housesFor 77 = .ok (.iadd, 1) := by decide +kernel
theorem dX8_housesFor_78 : decode cX8_housesFor 78 = .ok (.ireturn, 1) := by decide +kernel
set_option maxRecDepth 20000 in
theorem ggX8_type_X8_within : GoodIn wsX8_type wsX8_within := goodIn_r _ [7] (by decide +kernel) (by decide +kernel)
set_option maxRecDepth 20000 in
theorem gX8_type_X8_within : GoodIn wsX8_type (va_wsS RX8 33 yX8_within wsX8_within) := goodIn_app (goodIn_of _ (by decide +kernel)) ggX8_type_X8_within
theorem dX8_type_0 : decode cX8_type 0 = .ok (.aload_n 0, 1) := by decide +kernel
theorem dX8_type_1 : decode cX8_type 1 = .ok (.iload_n 1, 1) := by decide +kernel
theorem dX8_type_2 : decode cX8_type 2 = .ok (.iconst 0, 1) := by decide +kernel
theorem dX8_type_3 : decode cX8_type 3 = .ok (.bipush 127, 2) := by decide +kernel
theorem dX8_type_5 : decode cX8_type 5 = .ok (.invokestatic 33, 3) := by decide +kernel
theorem dX8_type_8 : decode cX8_type 8 = .ok (.ifCond .ne 7, 3) := by decide +kernel
theorem dX8_type_11 : decode cX8_type 11 = .ok (.iconst 1, 1) := by decide +kernel
theorem dX8_type_12 : decode cX8_type 12 = .ok (.goto 17, 3) := by decide +kernel
theorem dX8_type_15 : decode cX8_type 15 = .ok (.aload_n 0, 1) := by decide +kernel
theorem dX8_type_16 : decode cX8_type 16 = .ok (.getfield 167, 3) := by decide +kernel
theorem dX8_type_19 : decode cX8_type 19 = .ok (.bipush 120, 2) := by decide +kernel
theorem dX8_type_21 : decode cX8_type 21 = .ok (.if_icmp .ne 7, 3) := by decide +kernel
theorem dX8_type_24 : decode cX8_type 24 = .ok (.iconst 2, 1) := by decide +kernel
theorem dX8_type_25 : decode cX8_type 25 = .ok (.goto 4, 3) := by decide +kernel
theorem dX8_type_28 : decode cX8_type 28 = .ok (.iconst 0, 1) := by decide +kernel
theorem dX8_type_29 : decode cX8_type 29 = .ok (.putfield 22, 3) := by decide +kernel
theorem dX8_type_32 : decode cX8_type 32 = .ok (.aload_n 0, 1) := by decide +kernel
theorem dX8_type_33 : decode cX8_type 33 = .ok (.getfield 22, 3) := by decide +kernel
theorem dX8_type_36 : decode cX8_type 36 = .ok (.ifCond .le 5, 3) := by decide +kernel
theorem dX8_type_39 : decode cX8_type 39 = .ok (.iconst 0, 1) := by decide +kernel
theorem dX8_type_40 : decode cX8_type 40 = .ok (.ireturn, 1) := by decide +kernel
theorem dX8_type_41 : decode cX8_type 41 = .ok (.aload_n 0, 1) := by decide +kernel
theorem dX8_type_42 : decode cX8_type 42 = .ok (.getfield 19, 3) := by decide +kernel
theorem dX8_type_45 : decode cX8_type 45 = .ok (.aload_n 0, 1) := by decide +kernel
theorem dX8_type_46 : decode cX8_type 46 = .ok (.getfield 167, 3) := by decide +kernel
theorem dX8_type_49 : decode cX8_type 49 = .ok (.iload_n 1, 1) := by decide +kernel
theorem dX8_type_50 : decode cX8_type 50 = .ok (.iastore, 1) := by decide +kernel
theorem dX8_type_51 : decode cX8_type 51 = .ok (.aload_n 0, 1) := by decide +kernel
theorem dX8_type_52 : decode cX8_type 52 = .ok (.dup, 1) := by decide +kernel
theorem dX8_type_53 : decode cX8_type 53 = .ok (.getfield 167, 3) := by decide +kernel
theorem dX8_type_56 : decode cX8_type 56 = .ok (.iconst 1, 1) := by decide +kernel
theorem dX8_type_57 : decode cX8_type 57 = .ok (.iadd, 1) := by decide +kernel
theorem dX8_type_58 : decode cX8_type 58 = .ok (.putfield 167, 3) := by decide +kernel
theorem dX8_type_61 : decode cX8_type 61 = .ok (.aload_n 0, 1) := by decide +kernel
theorem dX8_type_62 : decode cX8_type 62 = .ok (.getfield 167, 3) := by decide +kernel
theorem dX8_type_65 : decode cX8_type 65 = .ok (.ireturn, 1) := by decide +kernel
theorem dX8_clearCommands_0 : decode cX8_clearCommands 0 = .ok (.aload_n 0, 1) := by decide +kernel
theorem dX8_clearCommands_1 : decode cX8_clearCommands 1 = .ok (.iconst 0, 1) := by decide +kernel
theorem dX8_clearCommands_2 : decode cX8_clearCommands 2 = .ok (.putfield 22, 3) := by decide +kernel
theorem dX8_clearCommands_5 : decode cX8_clearCommands 5 = .ok (.aload_n 0, 1) := by decide +kernel
theorem dX8_clearCommands_6 : decode cX8_clearCommands 6 = .ok (.getfield 167, 3) := by decide +kernel
theorem dX8_clearCommands_9 : decode cX8_clearCommands 9 = .ok (.istore_n 1, 1) := by decide +kernel
theorem dX8_clearCommands_10 : decode cX8_clearCommands 10 = .ok (.aload_n 0, 1) := by decide +kernel
theorem dX8_clearCommands_11 : decode cX8_clearCommands 11 = .ok (.iconst 0, 1) := by decide +kernel
theorem dX8_clearCommands_12 : decode cX8_clearCommands 12 = .ok (.putfield 167, 3) := by decide +kernel
theorem dX8_clearCommands_15 : decode cX8_clearCommands 15 = .ok (.iload_n 1, 1) := by decide +kernel
theorem dX8_clearCommands_16 : decode cX8_clearCommands 16 = .ok (.ireturn, 1) := by decide +kernel
theorem dX8_next_0 : decode cX8_next 0 = .ok (.aload_n 0, 1) := by decide +kernel
theorem dX8_next_1 : decode cX8_next 1 = .ok (.getfield 179, 3) := by decide +kernel
theorem dX8_next_4 : decode cX8_next 4 = .ok (.aload_n 0, 1) := by decide +kernel
theorem dX8_next_5 : decode cX8_next 5 = .ok (.getfield 167, 3) := by decide +kernel
theorem dX8_next_8 : decode cX8_next 8 = .ok (.if_icmp .ge 15, 3) := by decide +kernel
theorem dX8_next_11 : decode cX8_next 11 = .ok (.aload_n 0, 1) := by decide +kernel
theorem dX8_next_12 : decode cX8_next 12 = .ok (.getfield 19, 3) := by decide +kernel
theorem dX8_next_15 : decode cX8_next 15 = .ok (.aload_n 0, 1) := by decide +kernel
theorem dX8_next_16 : decode cX8_next 16 = .ok (.getfield 179, 3) := by decide +kernel
theorem dX8_next_19 : decode cX8_next 19 = .ok (.iaload, 1) := by decide +kernel
theorem dX8_next_20 : decode cX8_next 20 = .ok (.goto 4, 3) := by decide +kernel
theorem dX8_next_23 : decode cX8_next 23 = .ok (.iconst (-1), 1) := by decide +kernel
theorem dX8_next_24 : decode cX8_next 24 = .ok (.ireturn, 1) := by decide +kernel
set_option maxRecDepth 20000 in
theorem ggX8_readsName_X8_next : GoodIn wsX8_readsName wsX8_next := goodIn_r _ [8, 3, 9, 10, 14, 15, 16, 17, 18, 19, 20, 21, 22, 23, 24, 25] (by decide +kernel) (by decide +kernel)
set_option maxRecDepth 20000 in
theorem gX8_readsName_X8_next : GoodIn wsX8_readsName (wsV RX8 188 RX8 yX8_next wsX8_next) := goodIn_app (goodIn_of _ (by decide +kernel)) ggX8_readsName_X8_next
set_option maxRecDepth 20000 in
theorem ggX8_readsName_X8_within : GoodIn wsX8_readsName wsX8_within := goodIn_r _ [13] (by decide +kernel) (by decide +kernel)
set_option maxRecDepth 20000 in
theorem gX8_readsName_X8_within : GoodIn wsX8_readsName (va_wsS RX8 33 yX8_within wsX8_within) := goodIn_app (goodIn_of _ (by decide +kernel)) ggX8_readsName_X8_within
theorem dX8_readsName_0 : decode cX8_readsName 0 = .ok (.aload_n 0, 1) := by decide +kernel
theorem dX8_readsName_1 : decode cX8_readsName 1 = .ok (.iconst 0, 1) := by decide +kernel
theorem dX8_readsName_2 : decode cX8_readsName 2 = .ok (.putfield 182, 3) := by decide +kernel
theorem dX8_readsName_5 : decode cX8_readsName 5 = .ok (.aload_n 0, 1) := by decide +kernel
theorem dX8_readsName_6 : decode cX8_readsName 6 = .ok (.iconst 0, 1) := by decide +kernel
theorem dX8_readsName_7 : decode cX8_readsName 7 = .ok (.putfield 185, 3) := by decide +kernel
theorem dX8_readsName_10 : decode cX8_readsName 10 = .ok (.aload_n 0, 1) := by decide +kernel
theorem dX8_readsName_11 : decode cX8_readsName 11 = .ok (.getfield 185, 3) := by decide +kernel
theorem dX8_readsName_14 : decode cX8_readsName 14 = .ok (.bipush 8, 2) := by decide +kernel
theorem dX8_readsName_16 : decode cX8_readsName 16 = .ok (.if_icmp .ge 59, 3) := by decide +kernel
theorem dX8_readsName_19 : decode cX8_readsName 19 = .ok (.aload_n 0, 1) := by decide +kernel
theorem dX8_readsName_20 : decode cX8_readsName 20 = .ok (.invokevirtual 188, 3) := by decide +kernel
theorem dX8_readsName_23 : decode cX8_readsName 23 = .ok (.bipush 97, 2) := by decide +kernel
theorem dX8_readsName_25 : decode cX8_readsName 25 = .ok (.bipush 104, 2) := by decide +kernel
theorem dX8_readsName_27 : decode cX8_readsName 27 = .ok (.invokestatic 33, 3) := by decide +kernel
theorem dX8_readsName_30 : decode cX8_readsName 30 = .ok (.ifCond .eq 45, 3) := by decide +kernel
theorem dX8_readsName_33 : decode cX8_readsName 33 = .ok (.aload_n 0, 1) := by decide +kernel
theorem dX8_readsName_34 : decode cX8_readsName 34 = .ok (.bipush 8, 2) := by decide +kernel
theorem dX8_readsName_36 : decode cX8_readsName 36 = .ok (.aload_n 0, 1) := by decide +kernel
theorem dX8_readsName_37 : decode cX8_readsName 37 = .ok (.getfield 182, 3) := by decide +kernel
theorem dX8_readsName_40 : decode cX8_readsName 40 = .ok (.imul, 1) := by decide +kernel
theorem dX8_readsName_41 : decode cX8_readsName 41 = .ok (.aload_n 0, 1) := by decide +kernel
theorem dX8_readsName_42 : decode cX8_readsName 42 = .ok (.invokevirtual 188, 3) := by decide +kernel
theorem dX8_readsName_45 : decode cX8_readsName 45 = .ok (.iadd, 1) := by decide +kernel
theorem dX8_readsName_46 : decode cX8_readsName 46 = .ok (.bipush 97, 2) := by decide +kernel
theorem dX8_readsName_48 : decode cX8_readsName 48 = .ok (.isub, 1) := by decide +kernel
theorem dX8_readsName_49 : decode cX8_readsName 49 = .ok (.putfield 182, 3) := by decide +kernel
theorem dX8_readsName_52 : decode cX8_readsName 52 = .ok (.aload_n 0, 1) := by decide +kernel
theorem dX8_readsName_53 : decode cX8_readsName 53 = .ok (.dup, 1) := by decide +kernel
theorem dX8_readsName_54 : decode cX8_readsName 54 = .ok (.getfield 185, 3) := by decide +kernel
theorem dX8_readsName_57 : decode cX8_readsName 57 = .ok (.iconst 1, 1) := by decide +kernel
theorem dX8_readsName_58 : decode cX8_readsName 58 = .ok (.iadd, 1) := by decide +kernel
theorem dX8_readsName_59 : decode cX8_readsName 59 = .ok (.putfield 185, 3) := by decide +kernel
theorem dX8_readsName_62 : decode cX8_readsName 62 = .ok (.aload_n 0, 1) := by decide +kernel
theorem dX8_readsName_63 : decode cX8_readsName 63 = .ok (.dup, 1) := by decide +kernel
theorem dX8_readsName_64 : decode cX8_readsName 64 = .ok (.getfield 179, 3) := by decide +kernel
theorem dX8_readsName_67 : decode cX8_readsName 67 = .ok (.iconst 1, 1) := by decide +kernel
theorem dX8_readsName_68 : decode cX8_readsName 68 = .ok (.iadd, 1) := by decide +kernel
theorem dX8_readsName_69 : decode cX8_readsName 69 = .ok (.putfield 179, 3) := by decide +kernel
theorem dX8_readsName_72 : decode cX8_readsName 72 = .ok (.goto (-62), 3) := by decide +kernel
theorem dX8_readsName_75 : decode cX8_readsName 75 = .ok (.aload_n 0, 1) := by decide +kernel
theorem dX8_readsName_76 : decode cX8_readsName 76 = .ok (.getfield 185, 3) := by decide +kernel
theorem dX8_readsName_79 : decode cX8_readsName 79 = .ok (.ifCond .le 7, 3) := by decide +kernel
theorem dX8_readsName_82 : decode cX8_readsName 82 = .ok (.iconst 1, 1) := by decide +kernel
theorem dX8_readsName_83 : decode cX8_readsName 83 = .ok (.goto 4, 3) := by decide +kernel
theorem dX8_readsName_86 : decode cX8_readsName 86 = .ok (.iconst 0, 1) := by decide +kernel
theorem dX8_readsName_87 : decode cX8_readsName 87 = .ok (.ireturn, 1) := by decide +kernel
set_option maxRecDepth 20000 in
theorem ggX8_readsDigits_X8_next : GoodIn wsX8_readsDigits wsX8_next := goodIn_r _ [7, 2, 8, 9, 13, 14, 15, 16, 17, 18, 19, 20, 21, 22, 23, 24] (by decide +kernel) (by decide +kernel)
set_option maxRecDepth 20000 in
theorem gX8_readsDigits_X8_next : GoodIn wsX8_readsDigits (wsV RX8 188 RX8 yX8_next wsX8_next) := goodIn_app (goodIn_of _ (by decide +kernel)) ggX8_readsDigits_X8_next
set_option maxRecDepth 20000 in
theorem ggX8_readsDigits_X8_within : GoodIn wsX8_readsDigits wsX8_within := goodIn_r _ [12] (by decide +kernel) (by decide +kernel)
set_option maxRecDepth 20000 in
theorem gX8_readsDigits_X8_within : GoodIn wsX8_readsDigits (va_wsS RX8 33 yX8_within wsX8_within) := goodIn_app (goodIn_of _ (by decide +kernel)) ggX8_readsDigits_X8_within
theorem dX8_readsDigits_0 : decode cX8_readsDigits 0 = .ok (.aload_n 0, 1) := by decide +kernel
theorem dX8_readsDigits_1 : decode cX8_readsDigits 1 = .ok (.iconst 0, 1) := by decide +kernel
theorem dX8_readsDigits_2 : decode cX8_readsDigits 2 = .ok (.putfield 191, 3) := by decide +kernel
theorem dX8_readsDigits_5 : decode cX8_readsDigits 5 = .ok (.iconst 0, 1) := by decide +kernel
theorem dX8_readsDigits_6 : decode cX8_readsDigits 6 = .ok (.istore_n 2, 1) := by decide +kernel
theorem dX8_readsDigits_7 : decode cX8_readsDigits 7 = .ok (.iload_n 2, 1) := by decide +kernel
theorem dX8_readsDigits_8 : decode cX8_readsDigits 8 = .ok (.iload_n 1, 1) := by decide +kernel
theorem dX8_readsDigits_9 : decode cX8_readsDigits 9 = .ok (.if_icmp .ge 52, 3) := by decide +kernel
theorem dX8_readsDigits_12 : decode cX8_readsDigits 12 = .ok (.aload_n 0, 1) := by decide +kernel
theorem dX8_readsDigits_13 : decode cX8_readsDigits 13 = .ok (.invokevirtual 188, 3) := by decide +kernel
theorem dX8_readsDigits_16 : decode cX8_readsDigits 16 = .ok (.bipush 48, 2) := by decide +kernel
theorem dX8_readsDigits_18 : decode cX8_readsDigits 18 = .ok (.bipush 57, 2) := by decide +kernel
theorem dX8_readsDigits_20 : decode cX8_readsDigits 20 = .ok (.invokestatic 33, 3) := by decide +kernel
theorem dX8_readsDigits_23 : decode cX8_readsDigits 23 = .ok (.ifCond .eq 38, 3) := by decide +kernel
theorem dX8_readsDigits_26 : decode cX8_readsDigits 26 = .ok (.aload_n 0, 1) := by decide +kernel
theorem dX8_readsDigits_27 : decode cX8_readsDigits 27 = .ok (.bipush 10, 2) := by decide +kernel
theorem dX8_readsDigits_29 : decode cX8_readsDigits 29 = .ok (.aload_n 0, 1) := by decide +kernel
theorem dX8_readsDigits_30 : decode cX8_readsDigits 30 = .ok (.getfield 191, 3) := by decide +kernel
theorem dX8_readsDigits_33 : decode cX8_readsDigits 33 = .ok (.imul, 1) := by decide +kernel
theorem dX8_readsDigits_34 : decode cX8_readsDigits 34 = .ok (.aload_n 0, 1) := by decide +kernel
theorem dX8_readsDigits_35 : decode cX8_readsDigits 35 = .ok (.invokevirtual 188, 3) := by decide +kernel
theorem dX8_readsDigits_38 : decode cX8_readsDigits 38 = .ok (.iadd, 1) := by decide +kernel
theorem dX8_readsDigits_39 : decode cX8_readsDigits 39 = .ok (.bipush 48, 2) := by decide +kernel
theorem dX8_readsDigits_41 : decode cX8_readsDigits 41 = .ok (.isub, 1) := by decide +kernel
theorem dX8_readsDigits_42 : decode cX8_readsDigits 42 = .ok (.putfield 191, 3) := by decide +kernel
theorem dX8_readsDigits_45 : decode cX8_readsDigits 45 = .ok (.iinc 2 1, 3) := by decide +kernel
theorem dX8_readsDigits_48 : decode cX8_readsDigits 48 = .ok (.aload_n 0, 1) := by decide +kernel
theorem dX8_readsDigits_49 : decode cX8_readsDigits 49 = .ok (.dup, 1) := by decide +kernel
theorem dX8_readsDigits_50 : decode cX8_readsDigits 50 = .ok (.getfield 179, 3) := by decide +kernel
theorem dX8_readsDigits_53 : decode cX8_readsDigits 53 = .ok (.iconst 1, 1) := by decide +kernel
theorem dX8_readsDigits_54 : decode cX8_readsDigits 54 = .ok (.iadd, 1) := by decide +kernel
theorem dX8_readsDigits_55 : decode cX8_readsDigits 55 = .ok (.putfield 179, 3) := by decide +kernel
theorem dX8_readsDigits_58 : decode cX8_readsDigits 58 = .ok (.goto (-51), 3) := by decide +kernel
theorem dX8_readsDigits_61 : decode cX8_readsDigits 61 = .ok (.iload_n 2, 1) := by decide +kernel
theorem dX8_readsDigits_62 : decode cX8_readsDigits 62 = .ok (.ifCond .le 7, 3) := by decide +kernel
theorem dX8_readsDigits_65 : decode cX8_readsDigits 65 = .ok (.iconst 1, 1) := by decide +kernel
theorem dX8_readsDigits_66 : decode cX8_readsDigits 66 = .ok (.goto 4, 3) := by decide +kernel
theorem dX8_readsDigits_69 : decode cX8_readsDigits 69 = .ok (.iconst 0, 1) := by decide +kernel
theorem dX8_readsDigits_70 : decode cX8_readsDigits 70 = .ok (.ireturn, 1) := by decide +kernel
set_option maxRecDepth 20000 in
theorem ggX8_readsCommand_X8_next : GoodIn wsX8_readsCommand wsX8_next := goodIn_r _ [7, 2, 8, 9, 24, 25, 26, 27, 28, 29, 30, 31, 32, 33, 34, 35] (by decide +kernel) (by decide +kernel)
set_option maxRecDepth 20000 in
theorem gX8_readsCommand_X8_next : GoodIn wsX8_readsCommand (wsV RX8 188 RX8 yX8_next wsX8_next) := goodIn_app (goodIn_of _ (by decide +kernel)) ggX8_readsCommand_X8_next
set_option maxRecDepth 20000 in
theorem ggX8_readsCommand_X8_readsDigits : GoodIn wsX8_readsCommand wsX8_readsDigits := goodIn_r _ [13, 14, 2, 3, 4, 5, 6, 7, 8, 9, 15, 16, 17, 24, 25, 26, 27, 28, 29, 30, 31, 32, 33, 34, 35] (by decide +kernel) (by decide +kernel)
set_option maxRecDepth 20000 in
theorem gX8_readsCommand_X8_readsDigits : GoodIn wsX8_readsCommand (wsV RX8 197 RX8 yX8_readsDigits wsX8_readsDigits) := goodIn_app (goodIn_of _ (by decide +kernel)) ggX8_readsCommand_X8_readsDigits
set_option maxRecDepth 20000 in
theorem ggX8_readsCommand_X8_readsName : GoodIn wsX8_readsCommand wsX8_readsName := goodIn_r _ [21, 22, 23, 2, 3, 4, 5, 6, 7, 8, 9, 15, 16, 17, 24, 25, 26, 27, 28, 29, 30, 31, 32, 33, 34, 35] (by decide +kernel) (by decide +kernel)
set_option maxRecDepth 20000 in
theorem gX8_readsCommand_X8_readsName : GoodIn wsX8_readsCommand (wsV RX8 200 RX8 yX8_readsName wsX8_readsName) := goodIn_app (goodIn_of _ (by decide +kernel)) ggX8_readsCommand_X8_readsName
theorem dX8_readsCommand_0 : decode cX8_readsCommand 0 = .ok (.aload_n 0, 1) := by decide +kernel
theorem dX8_readsCommand_1 : decode cX8_readsCommand 1 = .ok (.aload_n 0, 1) := by decide +kernel
theorem dX8_readsCommand_2 : decode cX8_readsCommand 2 = .ok (.invokevirtual 188, 3) := by decide +kernel
theorem dX8_readsCommand_5 : decode cX8_readsCommand 5 = .ok (.putfield 194, 3) := by decide +kernel
theorem dX8_readsCommand_8 : decode cX8_readsCommand 8 = .ok (.aload_n 0, 1) := by decide +kernel
theorem dX8_readsCommand_9 : decode cX8_readsCommand 9 = .ok (.getfield 194, 3) := by decide +kernel
theorem dX8_readsCommand_12 : decode cX8_readsCommand 12 = .ok (.bipush 43, 2) := by decide +kernel
theorem dX8_readsCommand_14 : decode cX8_readsCommand 14 = .ok (.if_icmp .eq 50, 3) := by decide +kernel
theorem dX8_readsCommand_17 : decode cX8_readsCommand 17 = .ok (.aload_n 0, 1) := by decide +kernel
theorem dX8_readsCommand_18 : decode cX8_readsCommand 18 = .ok (.getfield 194, 3) := by decide +kernel
theorem dX8_readsCommand_21 : decode cX8_readsCommand 21 = .ok (.bipush 45, 2) := by decide +kernel
theorem dX8_readsCommand_23 : decode cX8_readsCommand 23 = .ok (.if_icmp .eq 41, 3) := by decide +kernel
theorem dX8_readsCommand_26 : decode cX8_readsCommand 26 = .ok (.aload_n 0, 1) := by decide +kernel
theorem dX8_readsCommand_27 : decode cX8_readsCommand 27 = .ok (.getfield 194, 3) := by decide +kernel
theorem dX8_readsCommand_30 : decode cX8_readsCommand 30 = .ok (.bipush 60, 2) := by decide +kernel
theorem dX8_readsCommand_32 : decode cX8_readsCommand 32 = .ok (.if_icmp .eq 32, 3) := by decide +kernel
theorem dX8_readsCommand_35 : decode cX8_readsCommand 35 = .ok (.aload_n 0, 1) := by decide +kernel
theorem dX8_readsCommand_36 : decode cX8_readsCommand 36 = .ok (.getfield 194, 3) := by decide +kernel
theorem dX8_readsCommand_39 : decode cX8_readsCommand 39 = .ok (.bipush 62, 2) := by decide +kernel
theorem dX8_readsCommand_41 : decode cX8_readsCommand 41 = .ok (.if_icmp .eq 23, 3) := by decide +kernel
theorem dX8_readsCommand_44 : decode cX8_readsCommand 44 = .ok (.aload_n 0, 1) := by decide +kernel
theorem dX8_readsCommand_45 : decode cX8_readsCommand 45 = .ok (.getfield 194, 3) := by decide +kernel
theorem dX8_readsCommand_48 : decode cX8_readsCommand 48 = .ok (.bipush 61, 2) := by decide +kernel
theorem dX8_readsCommand_50 : decode cX8_readsCommand 50 = .ok (.if_icmp .eq 14, 3) := by decide +kernel
theorem dX8_readsCommand_53 : decode cX8_readsCommand 53 = .ok (.aload_n 0, 1) := by decide +kernel
theorem dX8_readsCommand_54 : decode cX8_readsCommand 54 = .ok (.getfield 194, 3) := by decide +kernel
theorem dX8_readsCommand_57 : decode cX8_readsCommand 57 = .ok (.bipush 42, 2) := by decide +kernel
theorem dX8_readsCommand_59 : decode cX8_readsCommand 59 = .ok (.if_icmp .eq 5, 3) := by decide +kernel
theorem dX8_readsCommand_62 : decode cX8_readsCommand 62 = .ok (.iconst 0, 1) := by decide +kernel
theorem dX8_readsCommand_63 : decode cX8_readsCommand 63 = .ok (.ireturn, 1) := by decide +kernel
theorem dX8_readsCommand_64 : decode cX8_readsCommand 64 = .ok (.aload_n 0, 1) := by decide +kernel
theorem dX8_readsCommand_65 : decode cX8_readsCommand 65 = .ok (.dup, 1) := by decide +kernel
theorem dX8_readsCommand_66 : decode cX8_readsCommand 66 = .ok (.getfield 179, 3) := by decide +kernel
theorem dX8_readsCommand_69 : decode cX8_readsCommand 69 = .ok (.iconst 1, 1) := by decide +kernel
theorem dX8_readsCommand_70 : decode cX8_readsCommand 70 = .ok (.iadd, 1) := by decide +kernel
theorem dX8_readsCommand_71 : decode cX8_readsCommand 71 = .ok (.putfield 179, 3) := by decide +kernel
theorem dX8_readsCommand_74 : decode cX8_readsCommand 74 = .ok (.aload_n 0, 1) := by decide +kernel
theorem dX8_readsCommand_75 : decode cX8_readsCommand 75 = .ok (.getfield 194, 3) := by decide +kernel
theorem dX8_readsCommand_78 : decode cX8_readsCommand 78 = .ok (.bipush 42, 2) := by decide +kernel
theorem dX8_readsCommand_80 : decode cX8_readsCommand 80 = .ok (.if_icmp .eq 30, 3) := by decide +kernel
theorem dX8_readsCommand_83 : decode cX8_readsCommand 83 = .ok (.aload_n 0, 1) := by decide +kernel
theorem dX8_readsCommand_84 : decode cX8_readsCommand 84 = .ok (.getfield 194, 3) := by decide +kernel
theorem dX8_readsCommand_87 : decode cX8_readsCommand 87 = .ok (.bipush 61, 2) := by decide +kernel
theorem dX8_readsCommand_89 : decode cX8_readsCommand 89 = .ok (.if_icmp .ne 14, 3) := by decide +kernel
theorem dX8_readsCommand_92 : decode cX8_readsCommand 92 = .ok (.aload_n 0, 1) := by decide +kernel
theorem dX8_readsCommand_93 : decode cX8_readsCommand 93 = .ok (.iconst 1, 1) := by decide +kernel
theorem dX8_readsCommand_94 : decode cX8_readsCommand 94 = .ok (.invokevirtual 197, 3) := by decide +kernel
theorem dX8_readsCommand_97 : decode cX8_readsCommand 97 = .ok (.ifCond .eq 17, 3) := by decide +kernel
theorem dX8_readsCommand_100 : decode cX8_readsCommand 100 = .ok (.goto 10, 3) := by decide +kernel
theorem dX8_readsCommand_103 : decode cX8_readsCommand 103 = .ok (.aload_n 0, 1) := by decide +kernel
theorem dX8_readsCommand_104 : decode cX8_readsCommand 104 = .ok (.invokevirtual 200, 3) := by decide +kernel
theorem dX8_readsCommand_107 : decode cX8_readsCommand 107 = .ok (.ifCond .eq 7, 3) := by decide +kernel
theorem dX8_readsCommand_110 : decode cX8_readsCommand 110 = .ok (.iconst 1, 1) := by decide +kernel
theorem dX8_readsCommand_111 : decode cX8_readsCommand 111 = .ok (.goto 4, 3) := by decide +kernel
theorem dX8_readsCommand_114 : decode cX8_readsCommand 114 = .ok (.iconst 0, 1) := by decide +kernel
theorem dX8_readsCommand_115 : decode cX8_readsCommand 115 = .ok (.istore_n 1, 1) := by decide +kernel
theorem dX8_readsCommand_116 : decode cX8_readsCommand 116 = .ok (.iload_n 1, 1) := by decide +kernel
theorem dX8_readsCommand_117 : decode cX8_readsCommand 117 = .ok (.ifCond .eq 18, 3) := by decide +kernel
theorem dX8_readsCommand_120 : decode cX8_readsCommand 120 = .ok (.aload_n 0, 1) := by decide +kernel
theorem dX8_readsCommand_121 : decode cX8_readsCommand 121 = .ok (.getfield 194, 3) := by decide +kernel
theorem dX8_readsCommand_124 : decode cX8_readsCommand 124 = .ok (.bipush 43, 2) := by decide +kernel
theorem dX8_readsCommand_126 : decode cX8_readsCommand 126 = .ok (.if_icmp .ne 9, 3) := by decide +kernel
theorem dX8_readsCommand_129 : decode cX8_readsCommand 129 = .ok (.aload_n 0, 1) := by decide +kernel
theorem dX8_readsCommand_130 : decode cX8_readsCommand 130 = .ok (.iconst 2, 1) := by decide +kernel
theorem dX8_readsCommand_131 : decode cX8_readsCommand 131 = .ok (.invokevirtual 197, 3) := by decide +kernel
theorem dX8_readsCommand_134 : decode cX8_readsCommand 134 = .ok (.pop, 1) := by decide +kernel
theorem dX8_readsCommand_135 : decode cX8_readsCommand 135 = .ok (.iload_n 1, 1) := by decide +kernel
theorem dX8_readsCommand_136 : decode cX8_readsCommand 136 = .ok (.ifCond .eq 12, 3) := by decide +kernel
theorem dX8_readsCommand_139 : decode cX8_readsCommand 139 = .ok (.aload_n 0, 1) := by decide +kernel
theorem dX8_readsCommand_140 : decode cX8_readsCommand 140 = .ok (.invokevirtual 188, 3) := by decide +kernel
theorem dX8_readsCommand_143 : decode cX8_readsCommand 143 = .ok (.bipush 59, 2) := by decide +kernel
theorem dX8_readsCommand_145 : decode cX8_readsCommand 145 = .ok (.if_icmp .eq 5, 3) := by decide +kernel
theorem dX8_readsCommand_148 : decode cX8_readsCommand 148 = .ok (.iconst 0, 1) := by decide +kernel
theorem dX8_readsCommand_149 : decode cX8_readsCommand 149 = .ok (.ireturn, 1) := by decide +kernel
theorem dX8_readsCommand_150 : decode cX8_readsCommand 150 = .ok (.aload_n 0, 1) := by decide +kernel
theorem dX8_readsCommand_151 : decode cX8_readsCommand 151 = .ok (.dup, 1) := by decide +kernel
theorem dX8_readsCommand_152 : decode cX8_readsCommand 152 = .ok (.getfield 179, 3) := by decide +kernel
theorem dX8_readsCommand_155 : decode cX8_readsCommand 155 = .ok (.iconst 1, 1) := by decide +kernel
theorem dX8_readsCommand_156 : decode cX8_readsCommand 156 = .ok (.iadd, 1) := by decide +kernel
theorem dX8_readsCommand_157 : decode cX8_readsCommand 157 = .ok (.putfield 179, 3) := by decide +kernel
theorem dX8_readsCommand_160 : decode cX8_readsCommand 160 = .ok (.iconst 1, 1) := by decide +kernel
theorem dX8_readsCommand_161 : decode cX8_readsCommand 161 = .ok (.ireturn, 1) := by decide +kernel
set_option maxRecDepth 20000 in
theorem ggX8_carriesOut_X8_code : GoodIn wsX8_carriesOut wsX8_code := goodIn_r _ [9] (by decide +kernel) (by decide +kernel)
set_option maxRecDepth 20000 in
theorem gX8_carriesOut_X8_code : GoodIn wsX8_carriesOut (va_wsS RX8 44 yX8_code wsX8_code) := goodIn_app (goodIn_of _ (by decide +kernel)) ggX8_carriesOut_X8_code
set_option maxRecDepth 20000 in
theorem ggX8_carriesOut_X8_whyNotAdded : GoodIn wsX8_carriesOut wsX8_whyNotAdded := goodIn_r _ [13, 5, 14, 15, 8, 16, 17, 18, 19, 6, 7, 9, 20, 21, 22, 23, 24, 25, 26, 27, 28, 29, 30, 31, 123, 124, 125, 126, 127, 128, 129, 130, 131, 132, 133, 134] (by decide +kernel) (by decide +kernel)
set_option maxRecDepth 20000 in
theorem gX8_carriesOut_X8_whyNotAdded : GoodIn wsX8_carriesOut (wsV RX8 96 RX8 yX8_whyNotAdded wsX8_whyNotAdded) := goodIn_app (goodIn_of _ (by decide +kernel)) ggX8_carriesOut_X8_whyNotAdded
set_option maxRecDepth 20000 in
theorem ggX8_carriesOut_X8_addName : GoodIn wsX8_carriesOut wsX8_addName := goodIn_r _ [35, 5, 36, 37, 38, 8, 39, 40, 41, 42, 43, 44, 45, 46, 47, 48, 6, 7, 9, 49, 50, 51, 52, 53, 54, 55, 56, 28, 29, 30, 31, 57, 58, 59, 60, 61, 62, 63, 64, 65, 66, 67, 68, 69, 70, 71, 24, 25, 26, 27, 123, 124, 125, 126, 127, 128, 129, 130, 131, 132, 133, 134] (by decide +kernel) (by decide +kernel)
set_option maxRecDepth 20000 in
theorem gX8_carriesOut_X8_addName : GoodIn wsX8_carriesOut (wsV RX8 103 RX8 yX8_addName wsX8_addName) := goodIn_app (goodIn_of _ (by decide +kernel)) ggX8_carriesOut_X8_addName
set_option maxRecDepth 20000 in
theorem ggX8_carriesOut_X8_whyNotThere : GoodIn wsX8_carriesOut wsX8_whyNotThere := goodIn_r _ [75, 14, 15, 8, 16, 17, 18, 19, 6, 7, 9, 20, 21, 22, 23, 5, 24, 25, 26, 27, 28, 29, 30, 31, 123, 124, 125, 126, 127, 128, 129, 130, 131, 132, 133, 134] (by decide +kernel) (by decide +kernel)
set_option maxRecDepth 20000 in
theorem gX8_carriesOut_X8_whyNotThere : GoodIn wsX8_carriesOut (wsV RX8 109 RX8 yX8_whyNotThere wsX8_whyNotThere) := goodIn_app (goodIn_of _ (by decide +kernel)) ggX8_carriesOut_X8_whyNotThere
set_option maxRecDepth 20000 in
theorem ggX8_carriesOut_X8_removeName : GoodIn wsX8_carriesOut wsX8_removeName := goodIn_r _ [79, 5, 20, 21, 22, 8, 23, 24, 25, 26, 27, 28, 29, 30, 31, 60, 61, 62, 63, 64, 65, 66, 67, 80, 81, 82, 83, 84, 85, 86, 87, 57, 58, 59, 40, 41, 42, 43, 44, 45, 46, 47, 48, 6, 7, 9, 88, 89, 90, 91, 123, 124, 125, 126, 127, 128, 129, 130, 131, 132, 133, 134] (by decide +kernel) (by decide +kernel)
set_option maxRecDepth 20000 in
theorem gX8_carriesOut_X8_removeName : GoodIn wsX8_carriesOut (wsV RX8 112 RX8 yX8_removeName wsX8_removeName) := goodIn_app (goodIn_of _ (by decide +kernel)) ggX8_carriesOut_X8_removeName
set_option maxRecDepth 20000 in
theorem ggX8_carriesOut_X8_whyNotMoved : GoodIn wsX8_carriesOut wsX8_whyNotMoved := goodIn_r _ [95, 14, 15, 8, 16, 17, 18, 19, 6, 7, 9, 60, 61, 62, 63, 5, 64, 65, 66, 67, 96, 97, 98, 99, 20, 21, 22, 23, 24, 25, 26, 27, 28, 29, 30, 31, 80, 81, 82, 83, 84, 85, 86, 87, 57, 58, 59, 40, 41, 42, 43, 44, 45, 46, 47, 48, 100, 101, 102, 103, 123, 124, 125, 126, 127, 128, 129, 130, 131, 132, 133, 134] (by decide +kernel) (by decide +kernel)
set_option maxRecDepth 20000 in
theorem gX8_carriesOut_X8_whyNotMoved : GoodIn wsX8_carriesOut (wsV RX8 121 RX8 yX8_whyNotMoved wsX8_whyNotMoved) := goodIn_app (goodIn_of _ (by decide +kernel)) ggX8_carriesOut_X8_whyNotMoved
set_option maxRecDepth 20000 in
theorem ggX8_carriesOut_X8_findHouse : GoodIn wsX8_carriesOut wsX8_findHouse := goodIn_r _ [63, 5, 64, 65, 66, 8, 67, 123, 124, 125, 126, 127, 128, 129, 130, 131, 132, 133, 134] (by decide +kernel) (by decide +kernel)
set_option maxRecDepth 20000 in
theorem gX8_carriesOut_X8_findHouse : GoodIn wsX8_carriesOut (wsV RX8 89 RX8 yX8_findHouse wsX8_findHouse) := goodIn_app (goodIn_of _ (by decide +kernel)) ggX8_carriesOut_X8_findHouse
set_option maxRecDepth 20000 in
theorem ggX8_carriesOut_X8_moves : GoodIn wsX8_carriesOut wsX8_moves := goodIn_r _ [107, 5, 100, 101, 102, 8, 103, 64, 65, 66, 67, 40, 41, 42, 84, 85, 86, 87, 57, 58, 59, 43, 44, 45, 46, 47, 48, 6, 7, 9, 88, 89, 90, 91, 123, 124, 125, 126, 127, 128, 129, 130, 131, 132, 133, 134] (by decide +kernel) (by decide +kernel)
set_option maxRecDepth 20000 in
theorem gX8_carriesOut_X8_moves : GoodIn wsX8_carriesOut (wsV RX8 124 RX8 yX8_moves wsX8_moves) := goodIn_app (goodIn_of _ (by decide +kernel)) ggX8_carriesOut_X8_moves
set_option maxRecDepth 20000 in
theorem ggX8_carriesOut_X8_whyNotEvicted : GoodIn wsX8_carriesOut wsX8_whyNotEvicted := goodIn_r _ [111, 14, 15, 8, 16, 17, 18, 19, 6, 7, 9, 49, 50, 51, 52, 40, 41, 42, 53, 54, 55, 56, 5, 28, 29, 30, 31, 57, 58, 59, 43, 44, 45, 46, 47, 48, 60, 61, 62, 63, 64, 65, 66, 67, 123, 124, 125, 126, 127, 128, 129, 130, 131, 132, 133, 134] (by decide +kernel) (by decide +kernel)
set_option maxRecDepth 20000 in
theorem gX8_carriesOut_X8_whyNotEvicted : GoodIn wsX8_carriesOut (wsV RX8 127 RX8 yX8_whyNotEvicted wsX8_whyNotEvicted) := goodIn_app (goodIn_of _ (by decide +kernel)) ggX8_carriesOut_X8_whyNotEvicted
set_option maxRecDepth 20000 in
theorem ggX8_carriesOut_X8_evicts : GoodIn wsX8_carriesOut wsX8_evicts := goodIn_r _ [115, 5, 68, 69, 70, 8, 71, 64, 65, 66, 67, 60, 61, 62, 63, 100, 101, 102, 103, 40, 41, 42, 84, 85, 86, 87, 57, 58, 59, 43, 44, 45, 46, 47, 48, 6, 7, 9, 123, 124, 125, 126, 127, 128, 129, 130, 131, 132, 133, 134] (by decide +kernel) (by decide +kernel)
set_option maxRecDepth 20000 in
theorem gX8_carriesOut_X8_evicts : GoodIn wsX8_carriesOut (wsV RX8 130 RX8 yX8_evicts wsX8_evicts) := goodIn_app (goodIn_of _ (by decide +kernel)) ggX8_carriesOut_X8_evicts
set_option maxRecDepth 20000 in
theorem ggX8_carriesOut_X8_isLimit : GoodIn wsX8_carriesOut wsX8_isLimit := goodIn_r _ [118, 17, 18, 8, 19] (by decide +kernel) (by decide +kernel)
set_option maxRecDepth 20000 in
theorem gX8_carriesOut_X8_isLimit : GoodIn wsX8_carriesOut (va_wsS RX8 115 yX8_isLimit wsX8_isLimit) := goodIn_app (goodIn_of _ (by decide +kernel)) ggX8_carriesOut_X8_isLimit
set_option maxRecDepth 20000 in
theorem ggX8_carriesOut_X8_compressed : GoodIn wsX8_carriesOut wsX8_compressed := goodIn_r _ [122, 5, 96, 97, 98, 8, 99, 64, 65, 66, 67, 20, 21, 22, 23, 24, 25, 26, 27, 28, 29, 30, 31, 80, 81, 82, 83, 84, 85, 86, 87, 57, 58, 59, 40, 41, 42, 43, 44, 45, 46, 47, 48, 6, 7, 9, 100, 101, 102, 103, 104, 105, 106, 107, 88, 89, 90, 91, 123, 124, 125, 126, 127, 128, 129, 130, 131, 132, 133, 134] (by decide +kernel) (by decide +kernel)
set_option maxRecDepth 20000 in
theorem gX8_carriesOut_X8_compressed : GoodIn wsX8_carriesOut (wsV RX8 133 RX8 yX8_compressed wsX8_compressed) := goodIn_app (goodIn_of _ (by decide +kernel)) ggX8_carriesOut_X8_compressed
theorem dX8_carriesOut_0 : decode cX8_carriesOut 0 = .ok (.aload_n 0, 1) := by decide +kernel
theorem dX8_carriesOut_1 : decode cX8_carriesOut 1 = .ok (.getfield 182, 3) := by decide +kernel
theorem dX8_carriesOut_4 : decode cX8_carriesOut 4 = .ok (.aload_n 0, 1) := by decide +kernel
theorem dX8_carriesOut_5 : decode cX8_carriesOut 5 = .ok (.getfield 185, 3) := by decide +kernel
theorem dX8_carriesOut_8 : decode cX8_carriesOut 8 = .ok (.invokestatic 44, 3) := by decide +kernel
theorem dX8_carriesOut_11 : decode cX8_carriesOut 11 = .ok (.istore_n 1, 1) := by decide +kernel
theorem dX8_carriesOut_12 : decode cX8_carriesOut 12 = .ok (.iconst 0, 1) := by decide +kernel
theorem dX8_carriesOut_13 : decode cX8_carriesOut 13 = .ok (.istore_n 2, 1) := by decide +kernel
theorem dX8_carriesOut_14 : decode cX8_carriesOut 14 = .ok (.aload_n 0, 1) := by decide +kernel
theorem dX8_carriesOut_15 : decode cX8_carriesOut 15 = .ok (.getfield 194, 3) := by decide +kernel
theorem dX8_carriesOut_18 : decode cX8_carriesOut 18 = .ok (.lookupswitch 199 #[(43, 50), (45, 84), (60, 110), (61, 166), (62, 140)], 50) := by decide +kernel
theorem dX8_carriesOut_68 : decode cX8_carriesOut 68 = .ok (.aload_n 0, 1) := by decide +kernel
theorem dX8_carriesOut_69 : decode cX8_carriesOut 69 = .ok (.aload_n 0, 1) := by decide +kernel
theorem dX8_carriesOut_70 : decode cX8_carriesOut 70 = .ok (.getfield 182, 3) := by decide +kernel
theorem dX8_carriesOut_73 : decode cX8_carriesOut 73 = .ok (.aload_n 0, 1) := by decide +kernel
theorem dX8_carriesOut_74 : decode cX8_carriesOut 74 = .ok (.getfield 185, 3) := by decide +kernel
theorem dX8_carriesOut_77 : decode cX8_carriesOut 77 = .ok (.aload_n 0, 1) := by decide +kernel
theorem dX8_carriesOut_78 : decode cX8_carriesOut 78 = .ok (.getfield 191, 3) := by decide +kernel
theorem dX8_carriesOut_81 : decode cX8_carriesOut 81 = .ok (.invokevirtual 96, 3) := by decide +kernel
theorem dX8_carriesOut_84 : decode cX8_carriesOut 84 = .ok (.istore_n 2, 1) := by decide +kernel
theorem dX8_carriesOut_85 : decode cX8_carriesOut 85 = .ok (.iload_n 2, 1) := by decide +kernel
theorem dX8_carriesOut_86 : decode cX8_carriesOut 86 = .ok (.ifCond .ne 136, 3) := by decide +kernel
theorem dX8_carriesOut_89 : decode cX8_carriesOut 89 = .ok (.aload_n 0, 1) := by decide +kernel
theorem dX8_carriesOut_90 : decode cX8_carriesOut 90 = .ok (.iload_n 1, 1) := by decide +kernel
theorem dX8_carriesOut_91 : decode cX8_carriesOut 91 = .ok (.aload_n 0, 1) := by decide +kernel
theorem dX8_carriesOut_92 : decode cX8_carriesOut 92 = .ok (.getfield 191, 3) := by decide +kernel
theorem dX8_carriesOut_95 : decode cX8_carriesOut 95 = .ok (.invokevirtual 103, 3) := by decide +kernel
theorem dX8_carriesOut_98 : decode cX8_carriesOut 98 = .ok (.pop, 1) := by decide +kernel
theorem dX8_carriesOut_99 : decode cX8_carriesOut 99 = .ok (.goto 123, 3) := by decide +kernel
theorem dX8_carriesOut_102 : decode cX8_carriesOut 102 = .ok (.aload_n 0, 1) := by decide +kernel
theorem dX8_carriesOut_103 : decode cX8_carriesOut 103 = .ok (.aload_n 0, 1) := by decide +kernel
theorem dX8_carriesOut_104 : decode cX8_carriesOut 104 = .ok (.getfield 182, 3) := by decide +kernel
theorem dX8_carriesOut_107 : decode cX8_carriesOut 107 = .ok (.aload_n 0, 1) := by decide +kernel
theorem dX8_carriesOut_108 : decode cX8_carriesOut 108 = .ok (.getfield 185, 3) := by decide +kernel
theorem dX8_carriesOut_111 : decode cX8_carriesOut 111 = .ok (.invokevirtual 109, 3) := by decide +kernel
theorem dX8_carriesOut_114 : decode cX8_carriesOut 114 = .ok (.istore_n 2, 1) := by decide +kernel
theorem dX8_carriesOut_115 : decode cX8_carriesOut 115 = .ok (.iload_n 2, 1) := by decide +kernel
theorem dX8_carriesOut_116 : decode cX8_carriesOut 116 = .ok (.ifCond .ne 106, 3) := by decide +kernel
theorem dX8_carriesOut_119 : decode cX8_carriesOut 119 = .ok (.aload_n 0, 1) := by decide +kernel
theorem dX8_carriesOut_120 : decode cX8_carriesOut 120 = .ok (.iload_n 1, 1) := by decide +kernel
theorem dX8_carriesOut_121 : decode cX8_carriesOut 121 = .ok (.invokevirtual 112, 3) := by decide +kernel
theorem dX8_carriesOut_124 : decode cX8_carriesOut 124 = .ok (.pop, 1) := by decide +kernel
theorem dX8_carriesOut_125 : decode cX8_carriesOut 125 = .ok (.goto 97, 3) := by decide +kernel
theorem dX8_carriesOut_128 : decode cX8_carriesOut 128 = .ok (.aload_n 0, 1) := by decide +kernel
theorem dX8_carriesOut_129 : decode cX8_carriesOut 129 = .ok (.aload_n 0, 1) := by decide +kernel
theorem dX8_carriesOut_130 : decode cX8_carriesOut 130 = .ok (.getfield 182, 3) := by decide +kernel
theorem dX8_carriesOut_133 : decode cX8_carriesOut 133 = .ok (.aload_n 0, 1) := by decide +kernel
theorem dX8_carriesOut_134 : decode cX8_carriesOut 134 = .ok (.getfield 185, 3) := by decide +kernel
theorem dX8_carriesOut_137 : decode cX8_carriesOut 137 = .ok (.invokevirtual 121, 3) := by decide +kernel
theorem dX8_carriesOut_140 : decode cX8_carriesOut 140 = .ok (.istore_n 2, 1) := by decide +kernel
theorem dX8_carriesOut_141 : decode cX8_carriesOut 141 = .ok (.iload_n 2, 1) := by decide +kernel
theorem dX8_carriesOut_142 : decode cX8_carriesOut 142 = .ok (.ifCond .ne 80, 3) := by decide +kernel
theorem dX8_carriesOut_145 : decode cX8_carriesOut 145 = .ok (.aload_n 0, 1) := by decide +kernel
theorem dX8_carriesOut_146 : decode cX8_carriesOut 146 = .ok (.aload_n 0, 1) := by decide +kernel
theorem dX8_carriesOut_147 : decode cX8_carriesOut 147 = .ok (.iload_n 1, 1) := by decide +kernel
theorem dX8_carriesOut_148 : decode cX8_carriesOut 148 = .ok (.invokevirtual 89, 3) := by decide +kernel
theorem dX8_carriesOut_151 : decode cX8_carriesOut 151 = .ok (.invokevirtual 124, 3) := by decide +kernel
theorem dX8_carriesOut_154 : decode cX8_carriesOut 154 = .ok (.pop, 1) := by decide +kernel
theorem dX8_carriesOut_155 : decode cX8_carriesOut 155 = .ok (.goto 67, 3) := by decide +kernel
theorem dX8_carriesOut_158 : decode cX8_carriesOut 158 = .ok (.aload_n 0, 1) := by decide +kernel
theorem dX8_carriesOut_159 : decode cX8_carriesOut 159 = .ok (.aload_n 0, 1) := by decide +kernel
theorem dX8_carriesOut_160 : decode cX8_carriesOut 160 = .ok (.getfield 182, 3) := by decide +kernel
theorem dX8_carriesOut_163 : decode cX8_carriesOut 163 = .ok (.aload_n 0, 1) := by decide +kernel
theorem dX8_carriesOut_164 : decode cX8_carriesOut 164 = .ok (.getfield 185, 3) := by decide +kernel
theorem dX8_carriesOut_167 : decode cX8_carriesOut 167 = .ok (.invokevirtual 127, 3) := by decide +kernel
theorem dX8_carriesOut_170 : decode cX8_carriesOut 170 = .ok (.istore_n 2, 1) := by decide +kernel
theorem dX8_carriesOut_171 : decode cX8_carriesOut 171 = .ok (.iload_n 2, 1) := by decide +kernel
theorem dX8_carriesOut_172 : decode cX8_carriesOut 172 = .ok (.ifCond .ne 50, 3) := by decide +kernel
theorem dX8_carriesOut_175 : decode cX8_carriesOut 175 = .ok (.aload_n 0, 1) := by decide +kernel
theorem dX8_carriesOut_176 : decode cX8_carriesOut 176 = .ok (.iload_n 1, 1) := by decide +kernel
theorem dX8_carriesOut_177 : decode cX8_carriesOut 177 = .ok (.invokevirtual 130, 3) := by decide +kernel
theorem dX8_carriesOut_180 : decode cX8_carriesOut 180 = .ok (.pop, 1) := by decide +kernel
theorem dX8_carriesOut_181 : decode cX8_carriesOut 181 = .ok (.goto 41, 3) := by decide +kernel
theorem dX8_carriesOut_184 : decode cX8_carriesOut 184 = .ok (.aload_n 0, 1) := by decide +kernel
theorem dX8_carriesOut_185 : decode cX8_carriesOut 185 = .ok (.getfield 191, 3) := by decide +kernel
theorem dX8_carriesOut_188 : decode cX8_carriesOut 188 = .ok (.invokestatic 115, 3) := by decide +kernel
theorem dX8_carriesOut_191 : decode cX8_carriesOut 191 = .ok (.ifCond .eq 7, 3) := by decide +kernel
theorem dX8_carriesOut_194 : decode cX8_carriesOut 194 = .ok (.iconst 0, 1) := by decide +kernel
theorem dX8_carriesOut_195 : decode cX8_carriesOut 195 = .ok (.goto 4, 3) := by decide +kernel
theorem dX8_carriesOut_198 : decode cX8_carriesOut 198 = .ok (.iconst 1, 1) := by decide +kernel
theorem dX8_carriesOut_199 : decode cX8_carriesOut 199 = .ok (.istore_n 2, 1) := by decide +kernel
theorem dX8_carriesOut_200 : decode cX8_carriesOut 200 = .ok (.iload_n 2, 1) := by decide +kernel
theorem dX8_carriesOut_201 : decode cX8_carriesOut 201 = .ok (.ifCond .ne 21, 3) := by decide +kernel
theorem dX8_carriesOut_204 : decode cX8_carriesOut 204 = .ok (.aload_n 0, 1) := by decide +kernel
theorem dX8_carriesOut_205 : decode cX8_carriesOut 205 = .ok (.getfield 7, 3) := by decide +kernel
theorem dX8_carriesOut_208 : decode cX8_carriesOut 208 = .ok (.iconst 0, 1) := by decide +kernel
theorem dX8_carriesOut_209 : decode cX8_carriesOut 209 = .ok (.aload_n 0, 1) := by decide +kernel
theorem dX8_carriesOut_210 : decode cX8_carriesOut 210 = .ok (.getfield 191, 3) := by decide +kernel
theorem dX8_carriesOut_213 : decode cX8_carriesOut 213 = .ok (.iastore, 1) := by decide +kernel
theorem dX8_carriesOut_214 : decode cX8_carriesOut 214 = .ok (.goto 8, 3) := by decide +kernel
theorem dX8_carriesOut_217 : decode cX8_carriesOut 217 = .ok (.aload_n 0, 1) := by decide +kernel
theorem dX8_carriesOut_218 : decode cX8_carriesOut 218 = .ok (.invokevirtual 133, 3) := by decide +kernel
theorem dX8_carriesOut_221 : decode cX8_carriesOut 221 = .ok (.pop, 1) := by decide +kernel
theorem dX8_carriesOut_222 : decode cX8_carriesOut 222 = .ok (.iload_n 2, 1) := by decide +kernel
theorem dX8_carriesOut_223 : decode cX8_carriesOut 223 = .ok (.ifCond .ne 7, 3) := by decide +kernel
theorem dX8_carriesOut_226 : decode cX8_carriesOut 226 = .ok (.iconst 1, 1) := by decide +kernel
theorem dX8_carriesOut_227 : decode cX8_carriesOut 227 = .ok (.goto 4, 3) := by decide +kernel
theorem dX8_carriesOut_230 : decode cX8_carriesOut 230 = .ok (.iconst 0, 1) := by decide +kernel
theorem dX8_carriesOut_231 : decode cX8_carriesOut 231 = .ok (.ireturn, 1) := by decide +kernel
set_option maxRecDepth 20000 in
theorem ggX8_runCommands_X8_readsCommand : GoodIn wsX8_runCommands wsX8_readsCommand := goodIn_r _ [8, 9, 2, 10, 11, 12, 7, 13, 3, 14, 15, 16, 17, 18, 19, 20, 21, 22, 23, 24, 25, 26, 27, 28, 156, 157, 158, 159, 160, 161, 162, 163, 164, 165, 166, 167] (by decide +kernel) (by decide +kernel)
set_option maxRecDepth 20000 in
theorem gX8_runCommands_X8_readsCommand : GoodIn wsX8_runCommands (wsV RX8 204 RX8 yX8_readsCommand wsX8_readsCommand) := goodIn_app (goodIn_of _ (by decide +kernel)) ggX8_runCommands_X8_readsCommand
set_option maxRecDepth 20000 in
theorem ggX8_runCommands_X8_save : GoodIn wsX8_runCommands wsX8_save := goodIn_r _ [32, 33, 34, 35, 36, 37, 7, 38, 156, 157, 158, 159, 160, 161, 162, 163, 164, 165, 166, 167] (by decide +kernel) (by decide +kernel)
set_option maxRecDepth 20000 in
theorem gX8_runCommands_X8_save : GoodIn wsX8_runCommands (wsV RX8 100 RX8 yX8_save wsX8_save) := goodIn_app (goodIn_of _ (by decide +kernel)) ggX8_runCommands_X8_save
set_option maxRecDepth 20000 in
theorem ggX8_runCommands_X8_carriesOut : GoodIn wsX8_runCommands wsX8_carriesOut := goodIn_r _ [42, 27, 28, 9, 19, 35, 43, 44, 7, 45, 46, 47, 48, 49, 50, 51, 52, 20, 21, 22, 53, 54, 55, 56, 57, 58, 59, 60, 61, 62, 63, 64, 65, 66, 67, 68, 69, 70, 71, 72, 73, 74, 75, 76, 77, 78, 79, 80, 81, 82, 83, 84, 85, 86, 87, 88, 89, 90, 91, 92, 93, 94, 95, 96, 97, 98, 99, 100, 101, 102, 103, 104, 105, 106, 107, 108, 109, 110, 111, 112, 113, 114, 115, 116, 117, 118, 119, 120, 121, 122, 123, 124, 125, 126, 127, 128, 129, 130, 131, 132, 133, 134, 135, 136, 137, 138, 139, 140, 141, 142, 143, 144, 145, 146, 147, 148, 149, 150, 151, 152, 153, 154, 155, 156, 157, 158, 159, 160, 161, 162, 163, 164, 165, 166, 167] (by decide +kernel) (by decide +kernel)
set_option maxRecDepth 20000 in
theorem gX8_runCommands_X8_carriesOut : GoodIn wsX8_runCommands (wsV RX8 207 RX8 yX8_carriesOut wsX8_carriesOut) := goodIn_app (goodIn_of _ (by decide +kernel)) ggX8_runCommands_X8_carriesOut
theorem dX8_runCommands_0 : decode cX8_runCommands 0 = .ok (.aload_n 0, 1) := by decide +kernel
theorem dX8_runCommands_1 : decode cX8_runCommands 1 = .ok (.iconst 0, 1) := by decide +kernel
theorem dX8_runCommands_2 : decode cX8_runCommands 2 = .ok (.putfield 22, 3) := by decide +kernel
theorem dX8_runCommands_5 : decode cX8_runCommands 5 = .ok (.aload_n 0, 1) := by decide +kernel
theorem dX8_runCommands_6 : decode cX8_runCommands 6 = .ok (.iconst 0, 1) := by decide +kernel
theorem dX8_runCommands_7 : decode cX8_runCommands 7 = .ok (.putfield 179, 3) := by decide +kernel
theorem dX8_runCommands_10 : decode cX8_runCommands 10 = .ok (.iconst 1, 1) := by decide +kernel
theorem dX8_runCommands_11 : decode cX8_runCommands 11 = .ok (.istore_n 1, 1) := by decide +kernel
theorem dX8_runCommands_12 : decode cX8_runCommands 12 = .ok (.iload_n 1, 1) := by decide +kernel
theorem dX8_runCommands_13 : decode cX8_runCommands 13 = .ok (.ifCond .eq 22, 3) := by decide +kernel
theorem dX8_runCommands_16 : decode cX8_runCommands 16 = .ok (.aload_n 0, 1) := by decide +kernel
theorem dX8_runCommands_17 : decode cX8_runCommands 17 = .ok (.getfield 179, 3) := by decide +kernel
theorem dX8_runCommands_20 : decode cX8_runCommands 20 = .ok (.aload_n 0, 1) := by decide +kernel
theorem dX8_runCommands_21 : decode cX8_runCommands 21 = .ok (.getfield 167, 3) := by decide +kernel
theorem dX8_runCommands_24 : decode cX8_runCommands 24 = .ok (.if_icmp .ge 11, 3) := by decide +kernel
theorem dX8_runCommands_27 : decode cX8_runCommands 27 = .ok (.aload_n 0, 1) := by decide +kernel
theorem dX8_runCommands_28 : decode cX8_runCommands 28 = .ok (.invokevirtual 204, 3) := by decide +kernel
theorem dX8_runCommands_31 : decode cX8_runCommands 31 = .ok (.istore_n 1, 1) := by decide +kernel
theorem dX8_runCommands_32 : decode cX8_runCommands 32 = .ok (.goto (-20), 3) := by decide +kernel
theorem dX8_runCommands_35 : decode cX8_runCommands 35 = .ok (.iload_n 1, 1) := by decide +kernel
theorem dX8_runCommands_36 : decode cX8_runCommands 36 = .ok (.ifCond .ne 11, 3) := by decide +kernel
theorem dX8_runCommands_39 : decode cX8_runCommands 39 = .ok (.bipush (-10), 2) := by decide +kernel
theorem dX8_runCommands_41 : decode cX8_runCommands 41 = .ok (.aload_n 0, 1) := by decide +kernel
theorem dX8_runCommands_42 : decode cX8_runCommands 42 = .ok (.getfield 179, 3) := by decide +kernel
theorem dX8_runCommands_45 : decode cX8_runCommands 45 = .ok (.isub, 1) := by decide +kernel
theorem dX8_runCommands_46 : decode cX8_runCommands 46 = .ok (.ireturn, 1) := by decide +kernel
theorem dX8_runCommands_47 : decode cX8_runCommands 47 = .ok (.aload_n 0, 1) := by decide +kernel
theorem dX8_runCommands_48 : decode cX8_runCommands 48 = .ok (.invokevirtual 100, 3) := by decide +kernel
theorem dX8_runCommands_51 : decode cX8_runCommands 51 = .ok (.aload_n 0, 1) := by decide +kernel
theorem dX8_runCommands_52 : decode cX8_runCommands 52 = .ok (.iconst 0, 1) := by decide +kernel
theorem dX8_runCommands_53 : decode cX8_runCommands 53 = .ok (.putfield 179, 3) := by decide +kernel
theorem dX8_runCommands_56 : decode cX8_runCommands 56 = .ok (.iconst 0, 1) := by decide +kernel
theorem dX8_runCommands_57 : decode cX8_runCommands 57 = .ok (.istore_n 2, 1) := by decide +kernel
theorem dX8_runCommands_58 : decode cX8_runCommands 58 = .ok (.iconst 1, 1) := by decide +kernel
theorem dX8_runCommands_59 : decode cX8_runCommands 59 = .ok (.istore_n 3, 1) := by decide +kernel
theorem dX8_runCommands_60 : decode cX8_runCommands 60 = .ok (.iload_n 3, 1) := by decide +kernel
theorem dX8_runCommands_61 : decode cX8_runCommands 61 = .ok (.ifCond .eq 39, 3) := by decide +kernel
theorem dX8_runCommands_64 : decode cX8_runCommands 64 = .ok (.aload_n 0, 1) := by decide +kernel
theorem dX8_runCommands_65 : decode cX8_runCommands 65 = .ok (.getfield 179, 3) := by decide +kernel
theorem dX8_runCommands_68 : decode cX8_runCommands 68 = .ok (.aload_n 0, 1) := by decide +kernel
theorem dX8_runCommands_69 : decode cX8_runCommands 69 = .ok (.getfield 167, 3) := by decide +kernel
theorem dX8_runCommands_72 : decode cX8_runCommands 72 = .ok (.if_icmp .ge 28, 3) := by decide +kernel
theorem dX8_runCommands_75 : decode cX8_runCommands 75 = .ok (.aload_n 0, 1) := by decide +kernel
theorem dX8_runCommands_76 : decode cX8_runCommands 76 = .ok (.invokevirtual 204, 3) := by decide +kernel
theorem dX8_runCommands_79 : decode cX8_runCommands 79 = .ok (.pop, 1) := by decide +kernel
theorem dX8_runCommands_80 : decode cX8_runCommands 80 = .ok (.aload_n 0, 1) := by decide +kernel
theorem dX8_runCommands_81 : decode cX8_runCommands 81 = .ok (.invokevirtual 207, 3) := by decide +kernel
theorem dX8_runCommands_84 : decode cX8_runCommands 84 = .ok (.istore_n 3, 1) := by decide +kernel
theorem dX8_runCommands_85 : decode cX8_runCommands 85 = .ok (.iload_n 2, 1) := by decide +kernel
theorem dX8_runCommands_86 : decode cX8_runCommands 86 = .ok (.iload_n 3, 1) := by decide +kernel
theorem dX8_runCommands_87 : decode cX8_runCommands 87 = .ok (.ifCond .eq 7, 3) := by decide +kernel
theorem dX8_runCommands_90 : decode cX8_runCommands 90 = .ok (.iconst 1, 1) := by decide +kernel
theorem dX8_runCommands_91 : decode cX8_runCommands 91 = .ok (.goto 4, 3) := by decide +kernel
theorem dX8_runCommands_94 : decode cX8_runCommands 94 = .ok (.iconst 0, 1) := by decide +kernel
theorem dX8_runCommands_95 : decode cX8_runCommands 95 = .ok (.iadd, 1) := by decide +kernel
theorem dX8_runCommands_96 : decode cX8_runCommands 96 = .ok (.istore_n 2, 1) := by decide +kernel
theorem dX8_runCommands_97 : decode cX8_runCommands 97 = .ok (.goto (-37), 3) := by decide +kernel
theorem dX8_runCommands_100 : decode cX8_runCommands 100 = .ok (.iload_n 2, 1) := by decide +kernel
theorem dX8_runCommands_101 : decode cX8_runCommands 101 = .ok (.ireturn, 1) := by decide +kernel
set_option maxRecDepth 20000 in
theorem ggX8_undo_X8_copy : GoodIn wsX8_undo wsX8_copy := goodIn_r _ [8] (by decide +kernel) (by decide +kernel)
set_option maxRecDepth 20000 in
theorem gX8_undo_X8_copy : GoodIn wsX8_undo (va_wsS RX8 29 yX8_copy wsX8_copy) := goodIn_app (goodIn_of _ (by decide +kernel)) ggX8_undo_X8_copy
theorem dX8_undo_0 : decode cX8_undo 0 = .ok (.aload_n 0, 1) := by decide +kernel
theorem dX8_undo_1 : decode cX8_undo 1 = .ok (.aload_n 0, 1) := by decide +kernel
theorem dX8_undo_2 : decode cX8_undo 2 = .ok (.getfield 26, 3) := by decide +kernel
theorem dX8_undo_5 : decode cX8_undo 5 = .ok (.ifCond .le 7, 3) := by decide +kernel
theorem dX8_undo_8 : decode cX8_undo 8 = .ok (.iconst 0, 1) := by decide +kernel
theorem dX8_undo_9 : decode cX8_undo 9 = .ok (.goto 4, 3) := by decide +kernel
theorem dX8_undo_12 : decode cX8_undo 12 = .ok (.iconst 1, 1) := by decide +kernel
theorem dX8_undo_13 : decode cX8_undo 13 = .ok (.putfield 22, 3) := by decide +kernel
theorem dX8_undo_16 : decode cX8_undo 16 = .ok (.aload_n 0, 1) := by decide +kernel
theorem dX8_undo_17 : decode cX8_undo 17 = .ok (.getfield 22, 3) := by decide +kernel
theorem dX8_undo_20 : decode cX8_undo 20 = .ok (.ifCond .le 5, 3) := by decide +kernel
theorem dX8_undo_23 : decode cX8_undo 23 = .ok (.iconst 0, 1) := by decide +kernel
theorem dX8_undo_24 : decode cX8_undo 24 = .ok (.ireturn, 1) := by decide +kernel
theorem dX8_undo_25 : decode cX8_undo 25 = .ok (.aload_n 0, 1) := by decide +kernel
theorem dX8_undo_26 : decode cX8_undo 26 = .ok (.dup, 1) := by decide +kernel
theorem dX8_undo_27 : decode cX8_undo 27 = .ok (.getfield 26, 3) := by decide +kernel
theorem dX8_undo_30 : decode cX8_undo 30 = .ok (.iconst 1, 1) := by decide +kernel
theorem dX8_undo_31 : decode cX8_undo 31 = .ok (.isub, 1) := by decide +kernel
theorem dX8_undo_32 : decode cX8_undo 32 = .ok (.putfield 26, 3) := by decide +kernel
theorem dX8_undo_35 : decode cX8_undo 35 = .ok (.aload_n 0, 1) := by decide +kernel
theorem dX8_undo_36 : decode cX8_undo 36 = .ok (.getfield 16, 3) := by decide +kernel
theorem dX8_undo_39 : decode cX8_undo 39 = .ok (.aload_n 0, 1) := by decide +kernel
theorem dX8_undo_40 : decode cX8_undo 40 = .ok (.getfield 26, 3) := by decide +kernel
theorem dX8_undo_43 : decode cX8_undo 43 = .ok (.sipush 255, 3) := by decide +kernel
theorem dX8_undo_46 : decode cX8_undo 46 = .ok (.imul, 1) := by decide +kernel
theorem dX8_undo_47 : decode cX8_undo 47 = .ok (.aload_n 0, 1) := by decide +kernel
theorem dX8_undo_48 : decode cX8_undo 48 = .ok (.getfield 7, 3) := by decide +kernel
theorem dX8_undo_51 : decode cX8_undo 51 = .ok (.iconst 0, 1) := by decide +kernel
theorem dX8_undo_52 : decode cX8_undo 52 = .ok (.invokestatic 29, 3) := by decide +kernel
theorem dX8_undo_55 : decode cX8_undo 55 = .ok (.aload_n 0, 1) := by decide +kernel
theorem dX8_undo_56 : decode cX8_undo 56 = .ok (.getfield 26, 3) := by decide +kernel
theorem dX8_undo_59 : decode cX8_undo 59 = .ok (.ireturn, 1) := by decide +kernel
set_option maxRecDepth 20000 in
theorem ggX8_digest_X8_wholeValue : GoodIn wsX8_digest wsX8_wholeValue := goodIn_r _ [10, 5, 11, 12, 13, 14, 9, 15, 16, 17, 18, 19, 20, 21, 22, 23, 24, 25, 26, 27, 28, 29, 30, 31, 32, 33, 34, 35, 36, 37, 38, 39, 40, 41, 42, 43, 44, 45, 46, 47, 48, 49, 50, 99, 100, 101, 102, 103, 104, 105, 106, 107, 108, 109, 110] (by decide +kernel) (by decide +kernel)
set_option maxRecDepth 20000 in
theorem gX8_digest_X8_wholeValue : GoodIn wsX8_digest (wsV RX8 170 RX8 yX8_wholeValue wsX8_wholeValue) := goodIn_app (goodIn_of _ (by decide +kernel)) ggX8_digest_X8_wholeValue
set_option maxRecDepth 20000 in
theorem ggX8_digest_X8_nameValue : GoodIn wsX8_digest wsX8_nameValue := goodIn_r _ [54, 5, 39, 40, 41, 9, 42, 33, 34, 35, 20, 21, 22, 43, 44, 45, 46, 16, 17, 18, 19, 27, 28, 29, 30, 31, 32, 36, 37, 38, 99, 100, 101, 102, 103, 104, 105, 106, 107, 108, 109, 110] (by decide +kernel) (by decide +kernel)
set_option maxRecDepth 20000 in
theorem gX8_digest_X8_nameValue : GoodIn wsX8_digest (wsV RX8 146 RX8 yX8_nameValue wsX8_nameValue) := goodIn_app (goodIn_of _ (by decide +kernel)) ggX8_digest_X8_nameValue
set_option maxRecDepth 20000 in
theorem ggX8_digest_X8_houseValue : GoodIn wsX8_digest wsX8_houseValue := goodIn_r _ [58, 16, 17, 18, 9, 19, 5, 33, 34, 35, 20, 21, 22, 12, 13, 14, 15, 23, 24, 25, 26, 27, 28, 29, 30, 31, 32, 36, 37, 38, 59, 60, 61, 62, 63, 64, 65, 66, 67, 68, 69, 70, 39, 40, 41, 42, 71, 72, 73, 74, 75, 76, 77, 78, 43, 44, 45, 46, 99, 100, 101, 102, 103, 104, 105, 106, 107, 108, 109, 110] (by decide +kernel) (by decide +kernel)
set_option maxRecDepth 20000 in
theorem gX8_digest_X8_houseValue : GoodIn wsX8_digest (wsV RX8 155 RX8 yX8_houseValue wsX8_houseValue) := goodIn_app (goodIn_of _ (by decide +kernel)) ggX8_digest_X8_houseValue
set_option maxRecDepth 20000 in
theorem ggX8_digest_X8_saves : GoodIn wsX8_digest wsX8_saves := goodIn_r _ [82, 83, 84, 85, 9, 86, 5, 16, 17, 18, 19, 63, 64, 65, 66, 67, 68, 69, 70, 39, 40, 41, 42, 59, 60, 61, 62, 23, 24, 25, 26, 27, 28, 29, 20, 21, 22, 30, 31, 32, 33, 34, 35, 36, 37, 38, 12, 13, 14, 15, 75, 76, 77, 78, 99, 100, 101, 102, 103, 104, 105, 106, 107, 108, 109, 110] (by decide +kernel) (by decide +kernel)
set_option maxRecDepth 20000 in
theorem gX8_digest_X8_saves : GoodIn wsX8_digest (wsV RX8 173 RX8 yX8_saves wsX8_saves) := goodIn_app (goodIn_of _ (by decide +kernel)) ggX8_digest_X8_saves
set_option maxRecDepth 20000 in
theorem ggX8_digest_X8_tourOf : GoodIn wsX8_digest wsX8_tourOf := goodIn_r _ [90, 5, 39, 40, 41, 9, 42, 43, 44, 45, 46, 16, 17, 18, 19, 27, 28, 29, 20, 21, 22, 30, 31, 32, 33, 34, 35, 36, 37, 38, 91, 92, 93, 94, 99, 100, 101, 102, 103, 104, 105, 106, 107, 108, 109, 110] (by decide +kernel) (by decide +kernel)
set_option maxRecDepth 20000 in
theorem gX8_digest_X8_tourOf : GoodIn wsX8_digest (wsV RX8 161 RX8 yX8_tourOf wsX8_tourOf) := goodIn_app (goodIn_of _ (by decide +kernel)) ggX8_digest_X8_tourOf
set_option maxRecDepth 20000 in
theorem ggX8_digest_X8_bestOf : GoodIn wsX8_digest wsX8_bestOf := goodIn_r _ [98, 5, 79, 80, 81, 9, 82, 83, 84, 85, 86, 16, 17, 18, 19, 63, 64, 65, 66, 67, 68, 69, 70, 39, 40, 41, 42, 59, 60, 61, 62, 23, 24, 25, 26, 27, 28, 29, 20, 21, 22, 30, 31, 32, 33, 34, 35, 36, 37, 38, 12, 13, 14, 15, 75, 76, 77, 78, 99, 100, 101, 102, 103, 104, 105, 106, 107, 108, 109, 110] (by decide +kernel) (by decide +kernel)
set_option maxRecDepth 20000 in
theorem gX8_digest_X8_bestOf : GoodIn wsX8_digest (wsV RX8 176 RX8 yX8_bestOf wsX8_bestOf) := goodIn_app (goodIn_of _ (by decide +kernel)) ggX8_digest_X8_bestOf
theorem dX8_digest_0 : decode cX8_digest 0 = .ok (.aload_n 0, 1) := by decide +kernel
theorem dX8_digest_1 : decode cX8_digest 1 = .ok (.iconst 0, 1) := by decide +kernel
theorem dX8_digest_2 : decode cX8_digest 2 = .ok (.putfield 22, 3) := by decide +kernel
theorem dX8_digest_5 : decode cX8_digest 5 = .ok (.ldc2_w 210, 3) := by decide +kernel
theorem dX8_digest_8 : decode cX8_digest 8 = .ok (.aload_n 0, 1) := by decide +kernel
theorem dX8_digest_9 : decode cX8_digest 9 = .ok (.getfield 26, 3) := by decide +kernel
theorem dX8_digest_12 : decode cX8_digest 12 = .ok (.i2l, 1) := by decide +kernel
theorem dX8_digest_13 : decode cX8_digest 13 = .ok (.ladd, 1) := by decide +kernel
theorem dX8_digest_14 : decode cX8_digest 14 = .ok (.lstore_n 1, 1) := by decide +kernel
theorem dX8_digest_15 : decode cX8_digest 15 = .ok (.iconst 0, 1) := by decide +kernel
theorem dX8_digest_16 : decode cX8_digest 16 = .ok (.istore_n 3, 1) := by decide +kernel
theorem dX8_digest_17 : decode cX8_digest 17 = .ok (.iload_n 3, 1) := by decide +kernel
theorem dX8_digest_18 : decode cX8_digest 18 = .ok (.bipush 11, 2) := by decide +kernel
theorem dX8_digest_20 : decode cX8_digest 20 = .ok (.if_icmp .gt 22, 3) := by decide +kernel
theorem dX8_digest_23 : decode cX8_digest 23 = .ok (.ldc2_w 212, 3) := by decide +kernel
theorem dX8_digest_26 : decode cX8_digest 26 = .ok (.lload_n 1, 1) := by decide +kernel
theorem dX8_digest_27 : decode cX8_digest 27 = .ok (.lmul, 1) := by decide +kernel
theorem dX8_digest_28 : decode cX8_digest 28 = .ok (.aload_n 0, 1) := by decide +kernel
theorem dX8_digest_29 : decode cX8_digest 29 = .ok (.iload_n 3, 1) := by decide +kernel
theorem dX8_digest_30 : decode cX8_digest 30 = .ok (.invokevirtual 170, 3) := by decide +kernel
theorem dX8_digest_33 : decode cX8_digest 33 = .ok (.i2l, 1) := by decide +kernel
theorem dX8_digest_34 : decode cX8_digest 34 = .ok (.ladd, 1) := by decide +kernel
theorem dX8_digest_35 : decode cX8_digest 35 = .ok (.lstore_n 1, 1) := by decide +kernel
theorem dX8_digest_36 : decode cX8_digest 36 = .ok (.iinc 3 1, 3) := by decide +kernel
theorem dX8_digest_39 : decode cX8_digest 39 = .ok (.goto (-22), 3) := by decide +kernel
theorem dX8_digest_42 : decode cX8_digest 42 = .ok (.iconst 0, 1) := by decide +kernel
theorem dX8_digest_43 : decode cX8_digest 43 = .ok (.istore_n 3, 1) := by decide +kernel
theorem dX8_digest_44 : decode cX8_digest 44 = .ok (.iload_n 3, 1) := by decide +kernel
theorem dX8_digest_45 : decode cX8_digest 45 = .ok (.aload_n 0, 1) := by decide +kernel
theorem dX8_digest_46 : decode cX8_digest 46 = .ok (.getfield 7, 3) := by decide +kernel
theorem dX8_digest_49 : decode cX8_digest 49 = .ok (.iconst 1, 1) := by decide +kernel
theorem dX8_digest_50 : decode cX8_digest 50 = .ok (.iaload, 1) := by decide +kernel
theorem dX8_digest_51 : decode cX8_digest 51 = .ok (.if_icmp .ge 39, 3) := by decide +kernel
theorem dX8_digest_54 : decode cX8_digest 54 = .ok (.iconst 0, 1) := by decide +kernel
theorem dX8_digest_55 : decode cX8_digest 55 = .ok (.istore 4, 2) := by decide +kernel
theorem dX8_digest_57 : decode cX8_digest 57 = .ok (.iload 4, 2) := by decide +kernel
theorem dX8_digest_59 : decode cX8_digest 59 = .ok (.iconst 3, 1) := by decide +kernel
theorem dX8_digest_60 : decode cX8_digest 60 = .ok (.if_icmp .gt 24, 3) := by decide +kernel
theorem dX8_digest_63 : decode cX8_digest 63 = .ok (.ldc2_w 212, 3) := by decide +kernel
theorem dX8_digest_66 : decode cX8_digest 66 = .ok (.lload_n 1, 1) := by decide +kernel
theorem dX8_digest_67 : decode cX8_digest 67 = .ok (.lmul, 1) := by decide +kernel
theorem dX8_digest_68 : decode cX8_digest 68 = .ok (.aload_n 0, 1) := by decide +kernel
theorem dX8_digest_69 : decode cX8_digest 69 = .ok (.iload_n 3, 1) := by decide +kernel
theorem dX8_digest_70 : decode cX8_digest 70 = .ok (.iload 4, 2) := by decide +kernel
theorem dX8_digest_72 : decode cX8_digest 72 = .ok (.invokevirtual 146, 3) := by decide +kernel
theorem dX8_digest_75 : decode cX8_digest 75 = .ok (.i2l, 1) := by decide +kernel
theorem dX8_digest_76 : decode cX8_digest 76 = .ok (.ladd, 1) := by decide +kernel
theorem dX8_digest_77 : decode cX8_digest 77 = .ok (.lstore_n 1, 1) := by decide +kernel
theorem dX8_digest_78 : decode cX8_digest 78 = .ok (.iinc 4 1, 3) := by decide +kernel
theorem dX8_digest_81 : decode cX8_digest 81 = .ok (.goto (-24), 3) := by decide +kernel
theorem dX8_digest_84 : decode cX8_digest 84 = .ok (.iinc 3 1, 3) := by decide +kernel
theorem dX8_digest_87 : decode cX8_digest 87 = .ok (.goto (-43), 3) := by decide +kernel
theorem dX8_digest_90 : decode cX8_digest 90 = .ok (.iconst 0, 1) := by decide +kernel
theorem dX8_digest_91 : decode cX8_digest 91 = .ok (.istore_n 3, 1) := by decide +kernel
theorem dX8_digest_92 : decode cX8_digest 92 = .ok (.iload_n 3, 1) := by decide +kernel
theorem dX8_digest_93 : decode cX8_digest 93 = .ok (.aload_n 0, 1) := by decide +kernel
theorem dX8_digest_94 : decode cX8_digest 94 = .ok (.getfield 7, 3) := by decide +kernel
theorem dX8_digest_97 : decode cX8_digest 97 = .ok (.iconst 2, 1) := by decide +kernel
theorem dX8_digest_98 : decode cX8_digest 98 = .ok (.iaload, 1) := by decide +kernel
theorem dX8_digest_99 : decode cX8_digest 99 = .ok (.if_icmp .ge 53, 3) := by decide +kernel
theorem dX8_digest_102 : decode cX8_digest 102 = .ok (.iconst 0, 1) := by decide +kernel
theorem dX8_digest_103 : decode cX8_digest 103 = .ok (.istore 4, 2) := by decide +kernel
theorem dX8_digest_105 : decode cX8_digest 105 = .ok (.iload 4, 2) := by decide +kernel
theorem dX8_digest_107 : decode cX8_digest 107 = .ok (.bipush 8, 2) := by decide +kernel
theorem dX8_digest_109 : decode cX8_digest 109 = .ok (.if_icmp .gt 24, 3) := by decide +kernel
theorem dX8_digest_112 : decode cX8_digest 112 = .ok (.ldc2_w 212, 3) := by decide +kernel
theorem dX8_digest_115 : decode cX8_digest 115 = .ok (.lload_n 1, 1) := by decide +kernel
theorem dX8_digest_116 : decode cX8_digest 116 = .ok (.lmul, 1) := by decide +kernel
theorem dX8_digest_117 : decode cX8_digest 117 = .ok (.aload_n 0, 1) := by decide +kernel
theorem dX8_digest_118 : decode cX8_digest 118 = .ok (.iload_n 3, 1) := by decide +kernel
theorem dX8_digest_119 : decode cX8_digest 119 = .ok (.iload 4, 2) := by decide +kernel
theorem dX8_digest_121 : decode cX8_digest 121 = .ok (.invokevirtual 155, 3) := by decide +kernel
theorem dX8_digest_124 : decode cX8_digest 124 = .ok (.i2l, 1) := by decide +kernel
theorem dX8_digest_125 : decode cX8_digest 125 = .ok (.ladd, 1) := by decide +kernel
theorem dX8_digest_126 : decode cX8_digest 126 = .ok (.lstore_n 1, 1) := by decide +kernel
theorem dX8_digest_127 : decode cX8_digest 127 = .ok (.iinc 4 1, 3) := by decide +kernel
theorem dX8_digest_130 : decode cX8_digest 130 = .ok (.goto (-25), 3) := by decide +kernel
theorem dX8_digest_133 : decode cX8_digest 133 = .ok (.ldc2_w 212, 3) := by decide +kernel
theorem dX8_digest_136 : decode cX8_digest 136 = .ok (.lload_n 1, 1) := by decide +kernel
theorem dX8_digest_137 : decode cX8_digest 137 = .ok (.lmul, 1) := by decide +kernel
theorem dX8_digest_138 : decode cX8_digest 138 = .ok (.aload_n 0, 1) := by decide +kernel
theorem dX8_digest_139 : decode cX8_digest 139 = .ok (.iload_n 3, 1) := by decide +kernel
theorem dX8_digest_140 : decode cX8_digest 140 = .ok (.invokevirtual 173, 3) := by decide +kernel
theorem dX8_digest_143 : decode cX8_digest 143 = .ok (.i2l, 1) := by decide +kernel
theorem dX8_digest_144 : decode cX8_digest 144 = .ok (.ladd, 1) := by decide +kernel
theorem dX8_digest_145 : decode cX8_digest 145 = .ok (.lstore_n 1, 1) := by decide +kernel
theorem dX8_digest_146 : decode cX8_digest 146 = .ok (.iinc 3 1, 3) := by decide +kernel
theorem dX8_digest_149 : decode cX8_digest 149 = .ok (.goto (-57), 3) := by decide +kernel
theorem dX8_digest_152 : decode cX8_digest 152 = .ok (.ldc2_w 212, 3) := by decide +kernel
theorem dX8_digest_155 : decode cX8_digest 155 = .ok (.lload_n 1, 1) := by decide +kernel
theorem dX8_digest_156 : decode cX8_digest 156 = .ok (.lmul, 1) := by decide +kernel
theorem dX8_digest_157 : decode cX8_digest 157 = .ok (.aload_n 0, 1) := by decide +kernel
theorem dX8_digest_158 : decode cX8_digest 158 = .ok (.invokevirtual 161, 3) := by decide +kernel
theorem dX8_digest_161 : decode cX8_digest 161 = .ok (.i2l, 1) := by decide +kernel
theorem dX8_digest_162 : decode cX8_digest 162 = .ok (.ladd, 1) := by decide +kernel
theorem dX8_digest_163 : decode cX8_digest 163 = .ok (.lstore_n 1, 1) := by decide +kernel
theorem dX8_digest_164 : decode cX8_digest 164 = .ok (.ldc2_w 212, 3) := by decide +kernel
theorem dX8_digest_167 : decode cX8_digest 167 = .ok (.lload_n 1, 1) := by decide +kernel
theorem dX8_digest_168 : decode cX8_digest 168 = .ok (.lmul, 1) := by decide +kernel
theorem dX8_digest_169 : decode cX8_digest 169 = .ok (.aload_n 0, 1) := by decide +kernel
theorem dX8_digest_170 : decode cX8_digest 170 = .ok (.invokevirtual 176, 3) := by decide +kernel
theorem dX8_digest_173 : decode cX8_digest 173 = .ok (.i2l, 1) := by decide +kernel
theorem dX8_digest_174 : decode cX8_digest 174 = .ok (.ladd, 1) := by decide +kernel
theorem dX8_digest_175 : decode cX8_digest 175 = .ok (.lreturn, 1) := by decide +kernel
theorem dJ9_max_7cf53_0 : decode cJ9_max_7cf53 0 = .ok (.iload_n 0, 1) := by decide +kernel
theorem dJ9_max_7cf53_1 : decode cJ9_max_7cf53 1 = .ok (.iload_n 1, 1) := by decide +kernel
theorem dJ9_max_7cf53_2 : decode cJ9_max_7cf53 2 = .ok (.if_icmp .lt 7, 3) := by decide +kernel
theorem dJ9_max_7cf53_5 : decode cJ9_max_7cf53 5 = .ok (.iload_n 0, 1) := by decide +kernel
theorem dJ9_max_7cf53_6 : decode cJ9_max_7cf53 6 = .ok (.goto 4, 3) := by decide +kernel
theorem dJ9_max_7cf53_9 : decode cJ9_max_7cf53 9 = .ok (.iload_n 1, 1) := by decide +kernel
theorem dJ9_max_7cf53_10 : decode cJ9_max_7cf53 10 = .ok (.ireturn, 1) := by decide +kernel
theorem dJ9_min_7cf53_0 : decode cJ9_min_7cf53 0 = .ok (.iload_n 0, 1) := by decide +kernel
theorem dJ9_min_7cf53_1 : decode cJ9_min_7cf53 1 = .ok (.iload_n 1, 1) := by decide +kernel
theorem dJ9_min_7cf53_2 : decode cJ9_min_7cf53 2 = .ok (.if_icmp .gt 7, 3) := by decide +kernel
theorem dJ9_min_7cf53_5 : decode cJ9_min_7cf53 5 = .ok (.iload_n 0, 1) := by decide +kernel
theorem dJ9_min_7cf53_6 : decode cJ9_min_7cf53 6 = .ok (.goto 4, 3) := by decide +kernel
theorem dJ9_min_7cf53_9 : decode cJ9_min_7cf53 9 = .ok (.iload_n 1, 1) := by decide +kernel
theorem dJ9_min_7cf53_10 : decode cJ9_min_7cf53 10 = .ok (.ireturn, 1) := by decide +kernel

theorem dX0_init_0 : decode cX0_init 0 = .ok (.aload_n 0, 1) := by decide +kernel
theorem dX0_init_1 : decode cX0_init 1 = .ok (.invokespecial 3, 3) := by decide +kernel
theorem dX0_init_4 : decode cX0_init 4 = .ok (.aload_n 0, 1) := by decide +kernel
theorem dX0_init_5 : decode cX0_init 5 = .ok (.iconst 0, 1) := by decide +kernel
theorem dX0_init_6 : decode cX0_init 6 = .ok (.putfield 9, 3) := by decide +kernel
theorem dX0_init_9 : decode cX0_init 9 = .ok (.aload_n 0, 1) := by decide +kernel
theorem dX0_init_10 : decode cX0_init 10 = .ok (.iconst 0, 1) := by decide +kernel
theorem dX0_init_11 : decode cX0_init 11 = .ok (.putfield 15, 3) := by decide +kernel
theorem dX0_init_14 : decode cX0_init 14 = .ok (.aload_n 0, 1) := by decide +kernel
theorem dX0_init_15 : decode cX0_init 15 = .ok (.iconst 0, 1) := by decide +kernel
theorem dX0_init_16 : decode cX0_init 16 = .ok (.putfield 19, 3) := by decide +kernel
theorem dX0_init_19 : decode cX0_init 19 = .ok (.aload_n 0, 1) := by decide +kernel
theorem dX0_init_20 : decode cX0_init 20 = .ok (.iconst 0, 1) := by decide +kernel
theorem dX0_init_21 : decode cX0_init 21 = .ok (.putfield 22, 3) := by decide +kernel
theorem dX0_init_24 : decode cX0_init 24 = .ok (.aload_n 0, 1) := by decide +kernel
theorem dX0_init_25 : decode cX0_init 25 = .ok (.iconst 0, 1) := by decide +kernel
theorem dX0_init_26 : decode cX0_init 26 = .ok (.putfield 25, 3) := by decide +kernel
theorem dX0_init_29 : decode cX0_init 29 = .ok (.aload_n 0, 1) := by decide +kernel
theorem dX0_init_30 : decode cX0_init 30 = .ok (.iconst 0, 1) := by decide +kernel
theorem dX0_init_31 : decode cX0_init 31 = .ok (.putfield 28, 3) := by decide +kernel
theorem dX0_init_34 : decode cX0_init 34 = .ok (.return_, 1) := by decide +kernel
set_option maxRecDepth 20000 in
theorem ggX1_init_X3_init : GoodIn wsX1_init wsX3_init := goodIn_r _ [11, 12, 2, 3, 13, 14, 15, 16, 17, 18, 19] (by decide +kernel) (by decide +kernel)
set_option maxRecDepth 20000 in
theorem gX1_init_X3_init : GoodIn wsX1_init (wsX3_init) := ggX1_init_X3_init
theorem dX1_init_0 : decode cX1_init 0 = .ok (.aload_n 0, 1) := by decide +kernel
theorem dX1_init_1 : decode cX1_init 1 = .ok (.invokespecial 3, 3) := by decide +kernel
theorem dX1_init_4 : decode cX1_init 4 = .ok (.aload_n 0, 1) := by decide +kernel
theorem dX1_init_5 : decode cX1_init 5 = .ok (.new 9, 3) := by decide +kernel
theorem dX1_init_8 : decode cX1_init 8 = .ok (.dup, 1) := by decide +kernel
theorem dX1_init_9 : decode cX1_init 9 = .ok (.bipush 120, 2) := by decide +kernel
theorem dX1_init_11 : decode cX1_init 11 = .ok (.invokespecial 11, 3) := by decide +kernel
theorem dX1_init_14 : decode cX1_init 14 = .ok (.putfield 14, 3) := by decide +kernel
theorem dX1_init_17 : decode cX1_init 17 = .ok (.aload_n 0, 1) := by decide +kernel
theorem dX1_init_18 : decode cX1_init 18 = .ok (.iconst 0, 1) := by decide +kernel
theorem dX1_init_19 : decode cX1_init 19 = .ok (.putfield 20, 3) := by decide +kernel
theorem dX1_init_22 : decode cX1_init 22 = .ok (.return_, 1) := by decide +kernel
theorem dX1_length_0 : decode cX1_length 0 = .ok (.aload_n 0, 1) := by decide +kernel
theorem dX1_length_1 : decode cX1_length 1 = .ok (.getfield 20, 3) := by decide +kernel
theorem dX1_length_4 : decode cX1_length 4 = .ok (.ireturn, 1) := by decide +kernel
set_option maxRecDepth 20000 in
theorem ggX2_of_X2_bitsBehind : GoodIn wsX2_of wsX2_bitsBehind := goodIn_r _ [4] (by decide +kernel) (by decide +kernel)
set_option maxRecDepth 20000 in
theorem gX2_of_X2_bitsBehind : GoodIn wsX2_of (va_wsS RX2 9 yX2_bitsBehind wsX2_bitsBehind) := goodIn_app (goodIn_of _ (by decide +kernel)) ggX2_of_X2_bitsBehind
theorem dX2_of_0 : decode cX2_of 0 = .ok (.iload_n 0, 1) := by decide +kernel
theorem dX2_of_1 : decode cX2_of 1 = .ok (.iload_n 1, 1) := by decide +kernel
theorem dX2_of_2 : decode cX2_of 2 = .ok (.invokestatic 9, 3) := by decide +kernel
theorem dX2_of_5 : decode cX2_of 5 = .ok (.ishl, 1) := by decide +kernel
theorem dX2_of_6 : decode cX2_of 6 = .ok (.iload_n 1, 1) := by decide +kernel
theorem dX2_of_7 : decode cX2_of 7 = .ok (.ior, 1) := by decide +kernel
theorem dX2_of_8 : decode cX2_of 8 = .ok (.ireturn, 1) := by decide +kernel
theorem dX2_length_0 : decode cX2_length 0 = .ok (.iload_n 0, 1) := by decide +kernel
theorem dX2_length_1 : decode cX2_length 1 = .ok (.bipush 15, 2) := by decide +kernel
theorem dX2_length_3 : decode cX2_length 3 = .ok (.iand, 1) := by decide +kernel
theorem dX2_length_4 : decode cX2_length 4 = .ok (.ireturn, 1) := by decide +kernel
set_option maxRecDepth 20000 in
theorem ggX2_letters_X2_length : GoodIn wsX2_letters wsX2_length := goodIn_r _ [4] (by decide +kernel) (by decide +kernel)
set_option maxRecDepth 20000 in
theorem gX2_letters_X2_length : GoodIn wsX2_letters (va_wsS RX2 15 yX2_length wsX2_length) := goodIn_app (goodIn_of _ (by decide +kernel)) ggX2_letters_X2_length
set_option maxRecDepth 20000 in
theorem ggX2_letters_X2_bitsBehind : GoodIn wsX2_letters wsX2_bitsBehind := goodIn_r _ [7] (by decide +kernel) (by decide +kernel)
set_option maxRecDepth 20000 in
theorem gX2_letters_X2_bitsBehind : GoodIn wsX2_letters (va_wsS RX2 9 yX2_bitsBehind wsX2_bitsBehind) := goodIn_app (goodIn_of _ (by decide +kernel)) ggX2_letters_X2_bitsBehind
theorem dX2_letters_0 : decode cX2_letters 0 = .ok (.iload_n 0, 1) := by decide +kernel
theorem dX2_letters_1 : decode cX2_letters 1 = .ok (.iload_n 0, 1) := by decide +kernel
theorem dX2_letters_2 : decode cX2_letters 2 = .ok (.invokestatic 15, 3) := by decide +kernel
theorem dX2_letters_5 : decode cX2_letters 5 = .ok (.invokestatic 9, 3) := by decide +kernel
theorem dX2_letters_8 : decode cX2_letters 8 = .ok (.ishr, 1) := by decide +kernel
theorem dX2_letters_9 : decode cX2_letters 9 = .ok (.ireturn, 1) := by decide +kernel
set_option maxRecDepth 20000 in
theorem ggX2_lastLetters_X2_letters : GoodIn wsX2_lastLetters wsX2_letters := goodIn_r _ [4, 5, 6, 3, 7, 8, 9, 10] (by decide +kernel) (by decide +kernel)
set_option maxRecDepth 20000 in
theorem gX2_lastLetters_X2_letters : GoodIn wsX2_lastLetters (va_wsS RX2 18 yX2_letters wsX2_letters) := goodIn_app (goodIn_of _ (by decide +kernel)) ggX2_lastLetters_X2_letters
theorem dX2_lastLetters_0 : decode cX2_lastLetters 0 = .ok (.iload_n 0, 1) := by decide +kernel
theorem dX2_lastLetters_1 : decode cX2_lastLetters 1 = .ok (.invokestatic 18, 3) := by decide +kernel
theorem dX2_lastLetters_4 : decode cX2_lastLetters 4 = .ok (.iconst 1, 1) := by decide +kernel
theorem dX2_lastLetters_5 : decode cX2_lastLetters 5 = .ok (.iconst 3, 1) := by decide +kernel
theorem dX2_lastLetters_6 : decode cX2_lastLetters 6 = .ok (.iload_n 1, 1) := by decide +kernel
theorem dX2_lastLetters_7 : decode cX2_lastLetters 7 = .ok (.imul, 1) := by decide +kernel
theorem dX2_lastLetters_8 : decode cX2_lastLetters 8 = .ok (.ishl, 1) := by decide +kernel
theorem dX2_lastLetters_9 : decode cX2_lastLetters 9 = .ok (.iconst 1, 1) := by decide +kernel
theorem dX2_lastLetters_10 : decode cX2_lastLetters 10 = .ok (.isub, 1) := by decide +kernel
theorem dX2_lastLetters_11 : decode cX2_lastLetters 11 = .ok (.iand, 1) := by decide +kernel
theorem dX2_lastLetters_12 : decode cX2_lastLetters 12 = .ok (.ireturn, 1) := by decide +kernel
set_option maxRecDepth 20000 in
theorem ggX2_cut_X2_bitsBehind : GoodIn wsX2_cut wsX2_bitsBehind := goodIn_r _ [4] (by decide +kernel) (by decide +kernel)
set_option maxRecDepth 20000 in
theorem gX2_cut_X2_bitsBehind : GoodIn wsX2_cut (va_wsS RX2 9 yX2_bitsBehind wsX2_bitsBehind) := goodIn_app (goodIn_of _ (by decide +kernel)) ggX2_cut_X2_bitsBehind
theorem dX2_cut_0 : decode cX2_cut 0 = .ok (.iload_n 1, 1) := by decide +kernel
theorem dX2_cut_1 : decode cX2_cut 1 = .ok (.invokestatic 9, 3) := by decide +kernel
theorem dX2_cut_4 : decode cX2_cut 4 = .ok (.istore_n 2, 1) := by decide +kernel
theorem dX2_cut_5 : decode cX2_cut 5 = .ok (.iload_n 0, 1) := by decide +kernel
theorem dX2_cut_6 : decode cX2_cut 6 = .ok (.iload_n 2, 1) := by decide +kernel
theorem dX2_cut_7 : decode cX2_cut 7 = .ok (.ishr, 1) := by decide +kernel
theorem dX2_cut_8 : decode cX2_cut 8 = .ok (.iload_n 2, 1) := by decide +kernel
theorem dX2_cut_9 : decode cX2_cut 9 = .ok (.ishl, 1) := by decide +kernel
theorem dX2_cut_10 : decode cX2_cut 10 = .ok (.iload_n 1, 1) := by decide +kernel
theorem dX2_cut_11 : decode cX2_cut 11 = .ok (.ior, 1) := by decide +kernel
theorem dX2_cut_12 : decode cX2_cut 12 = .ok (.ireturn, 1) := by decide +kernel
set_option maxRecDepth 20000 in
theorem ggX2_isBeginning_X2_length : GoodIn wsX2_isBeginning wsX2_length := goodIn_r _ [4] (by decide +kernel) (by decide +kernel)
set_option maxRecDepth 20000 in
theorem gX2_isBeginning_X2_length : GoodIn wsX2_isBeginning (va_wsS RX2 15 yX2_length wsX2_length) := goodIn_app (goodIn_of _ (by decide +kernel)) ggX2_isBeginning_X2_length
set_option maxRecDepth 20000 in
theorem ggX2_isBeginning_X2_bitsBehind : GoodIn wsX2_isBeginning wsX2_bitsBehind := goodIn_r _ [7] (by decide +kernel) (by decide +kernel)
set_option maxRecDepth 20000 in
theorem gX2_isBeginning_X2_bitsBehind : GoodIn wsX2_isBeginning (va_wsS RX2 9 yX2_bitsBehind wsX2_bitsBehind) := goodIn_app (goodIn_of _ (by decide +kernel)) ggX2_isBeginning_X2_bitsBehind
theorem dX2_isBeginning_0 : decode cX2_isBeginning 0 = .ok (.iload_n 0, 1) := by decide +kernel
theorem dX2_isBeginning_1 : decode cX2_isBeginning 1 = .ok (.invokestatic 15, 3) := by decide +kernel
theorem dX2_isBeginning_4 : decode cX2_isBeginning 4 = .ok (.invokestatic 9, 3) := by decide +kernel
theorem dX2_isBeginning_7 : decode cX2_isBeginning 7 = .ok (.istore_n 2, 1) := by decide +kernel
theorem dX2_isBeginning_8 : decode cX2_isBeginning 8 = .ok (.iload_n 0, 1) := by decide +kernel
theorem dX2_isBeginning_9 : decode cX2_isBeginning 9 = .ok (.invokestatic 15, 3) := by decide +kernel
theorem dX2_isBeginning_12 : decode cX2_isBeginning 12 = .ok (.iload_n 1, 1) := by decide +kernel
theorem dX2_isBeginning_13 : decode cX2_isBeginning 13 = .ok (.invokestatic 15, 3) := by decide +kernel
theorem dX2_isBeginning_16 : decode cX2_isBeginning 16 = .ok (.if_icmp .gt 16, 3) := by decide +kernel
theorem dX2_isBeginning_19 : decode cX2_isBeginning 19 = .ok (.iload_n 0, 1) := by decide +kernel
theorem dX2_isBeginning_20 : decode cX2_isBeginning 20 = .ok (.iload_n 2, 1) := by decide +kernel
theorem dX2_isBeginning_21 : decode cX2_isBeginning 21 = .ok (.ishr, 1) := by decide +kernel
theorem dX2_isBeginning_22 : decode cX2_isBeginning 22 = .ok (.iload_n 1, 1) := by decide +kernel
theorem dX2_isBeginning_23 : decode cX2_isBeginning 23 = .ok (.iload_n 2, 1) := by decide +kernel
theorem dX2_isBeginning_24 : decode cX2_isBeginning 24 = .ok (.ishr, 1) := by decide +kernel
theorem dX2_isBeginning_25 : decode cX2_isBeginning 25 = .ok (.if_icmp .ne 7, 3) := by decide +kernel
theorem dX2_isBeginning_28 : decode cX2_isBeginning 28 = .ok (.iconst 1, 1) := by decide +kernel
theorem dX2_isBeginning_29 : decode cX2_isBeginning 29 = .ok (.goto 4, 3) := by decide +kernel
theorem dX2_isBeginning_32 : decode cX2_isBeginning 32 = .ok (.iconst 0, 1) := by decide +kernel
theorem dX2_isBeginning_33 : decode cX2_isBeginning 33 = .ok (.ireturn, 1) := by decide +kernel
theorem dX2_bitsBehind_0 : decode cX2_bitsBehind 0 = .ok (.iconst 4, 1) := by decide +kernel
theorem dX2_bitsBehind_1 : decode cX2_bitsBehind 1 = .ok (.iconst 3, 1) := by decide +kernel
theorem dX2_bitsBehind_2 : decode cX2_bitsBehind 2 = .ok (.bipush 8, 2) := by decide +kernel
theorem dX2_bitsBehind_4 : decode cX2_bitsBehind 4 = .ok (.iload_n 0, 1) := by decide +kernel
theorem dX2_bitsBehind_5 : decode cX2_bitsBehind 5 = .ok (.isub, 1) := by decide +kernel
theorem dX2_bitsBehind_6 : decode cX2_bitsBehind 6 = .ok (.imul, 1) := by decide +kernel
theorem dX2_bitsBehind_7 : decode cX2_bitsBehind 7 = .ok (.iadd, 1) := by decide +kernel
theorem dX2_bitsBehind_8 : decode cX2_bitsBehind 8 = .ok (.ireturn, 1) := by decide +kernel
theorem dX3_init_0 : decode cX3_init 0 = .ok (.aload_n 0, 1) := by decide +kernel
theorem dX3_init_1 : decode cX3_init 1 = .ok (.invokespecial 1, 3) := by decide +kernel
theorem dX3_init_4 : decode cX3_init 4 = .ok (.aload_n 0, 1) := by decide +kernel
theorem dX3_init_5 : decode cX3_init 5 = .ok (.iload_n 1, 1) := by decide +kernel
theorem dX3_init_6 : decode cX3_init 6 = .ok (.iconst 0, 1) := by decide +kernel
theorem dX3_init_7 : decode cX3_init 7 = .ok (.invokestatic 7, 3) := by decide +kernel
theorem dX3_init_10 : decode cX3_init 10 = .ok (.newarray .int, 2) := by decide +kernel
theorem dX3_init_12 : decode cX3_init 12 = .ok (.putfield 13, 3) := by decide +kernel
theorem dX3_init_15 : decode cX3_init 15 = .ok (.return_, 1) := by decide +kernel
theorem dX3_at_0 : decode cX3_at 0 = .ok (.iload_n 1, 1) := by decide +kernel
theorem dX3_at_1 : decode cX3_at 1 = .ok (.ifCond .lt 21, 3) := by decide +kernel
theorem dX3_at_4 : decode cX3_at 4 = .ok (.iload_n 1, 1) := by decide +kernel
theorem dX3_at_5 : decode cX3_at 5 = .ok (.aload_n 0, 1) := by decide +kernel
theorem dX3_at_6 : decode cX3_at 6 = .ok (.getfield 13, 3) := by decide +kernel
theorem dX3_at_9 : decode cX3_at 9 = .ok (.arraylength, 1) := by decide +kernel
theorem dX3_at_10 : decode cX3_at 10 = .ok (.if_icmp .ge 12, 3) := by decide +kernel
theorem dX3_at_13 : decode cX3_at 13 = .ok (.aload_n 0, 1) := by decide +kernel
theorem dX3_at_14 : decode cX3_at 14 = .ok (.getfield 13, 3) := by decide +kernel
theorem dX3_at_17 : decode cX3_at 17 = .ok (.iload_n 1, 1) := by decide +kernel
theorem dX3_at_18 : decode cX3_at 18 = .ok (.iaload, 1) := by decide +kernel
theorem dX3_at_19 : decode cX3_at 19 = .ok (.goto 4, 3) := by decide +kernel
theorem dX3_at_22 : decode cX3_at 22 = .ok (.iconst 0, 1) := by decide +kernel
theorem dX3_at_23 : decode cX3_at 23 = .ok (.ireturn, 1) := by decide +kernel
theorem dX3_put_0 : decode cX3_put 0 = .ok (.iload_n 1, 1) := by decide +kernel
theorem dX3_put_1 : decode cX3_put 1 = .ok (.ifCond .lt 19, 3) := by decide +kernel
theorem dX3_put_4 : decode cX3_put 4 = .ok (.iload_n 1, 1) := by decide +kernel
theorem dX3_put_5 : decode cX3_put 5 = .ok (.aload_n 0, 1) := by decide +kernel
theorem dX3_put_6 : decode cX3_put 6 = .ok (.getfield 13, 3) := by decide +kernel
theorem dX3_put_9 : decode cX3_put 9 = .ok (.arraylength, 1) := by decide +kernel
theorem dX3_put_10 : decode cX3_put 10 = .ok (.if_icmp .ge 10, 3) := by decide +kernel
theorem dX3_put_13 : decode cX3_put 13 = .ok (.aload_n 0, 1) := by decide +kernel
theorem dX3_put_14 : decode cX3_put 14 = .ok (.getfield 13, 3) := by decide +kernel
theorem dX3_put_17 : decode cX3_put 17 = .ok (.iload_n 1, 1) := by decide +kernel
theorem dX3_put_18 : decode cX3_put 18 = .ok (.iload_n 2, 1) := by decide +kernel
theorem dX3_put_19 : decode cX3_put 19 = .ok (.iastore, 1) := by decide +kernel
theorem dX3_put_20 : decode cX3_put 20 = .ok (.return_, 1) := by decide +kernel
set_option maxRecDepth 20000 in
theorem ggX3_increase_X3_at : GoodIn wsX3_increase wsX3_at := goodIn_r _ [5, 6, 11] (by decide +kernel) (by decide +kernel)
set_option maxRecDepth 20000 in
theorem gX3_increase_X3_at : GoodIn wsX3_increase (wsV RX3 19 RX3 yX3_at wsX3_at) := goodIn_app (goodIn_of _ (by decide +kernel)) ggX3_increase_X3_at
set_option maxRecDepth 20000 in
theorem ggX3_increase_X3_put : GoodIn wsX3_increase wsX3_put := goodIn_r _ [10, 6, 11] (by decide +kernel) (by decide +kernel)
set_option maxRecDepth 20000 in
theorem gX3_increase_X3_put : GoodIn wsX3_increase (wsV RX3 23 RX3 yX3_put wsX3_put) := goodIn_app (goodIn_of _ (by decide +kernel)) ggX3_increase_X3_put
theorem dX3_increase_0 : decode cX3_increase 0 = .ok (.aload_n 0, 1) := by decide +kernel
theorem dX3_increase_1 : decode cX3_increase 1 = .ok (.iload_n 1, 1) := by decide +kernel
theorem dX3_increase_2 : decode cX3_increase 2 = .ok (.aload_n 0, 1) := by decide +kernel
theorem dX3_increase_3 : decode cX3_increase 3 = .ok (.iload_n 1, 1) := by decide +kernel
theorem dX3_increase_4 : decode cX3_increase 4 = .ok (.invokevirtual 19, 3) := by decide +kernel
theorem dX3_increase_7 : decode cX3_increase 7 = .ok (.iload_n 2, 1) := by decide +kernel
theorem dX3_increase_8 : decode cX3_increase 8 = .ok (.iadd, 1) := by decide +kernel
theorem dX3_increase_9 : decode cX3_increase 9 = .ok (.invokevirtual 23, 3) := by decide +kernel
theorem dX3_increase_12 : decode cX3_increase 12 = .ok (.return_, 1) := by decide +kernel
set_option maxRecDepth 20000 in
theorem ggX3_openAt_X3_at : GoodIn wsX3_openAt wsX3_at := goodIn_r _ [5, 6, 11] (by decide +kernel) (by decide +kernel)
set_option maxRecDepth 20000 in
theorem gX3_openAt_X3_at : GoodIn wsX3_openAt (wsV RX3 19 RX3 yX3_at wsX3_at) := goodIn_app (goodIn_of _ (by decide +kernel)) ggX3_openAt_X3_at
set_option maxRecDepth 20000 in
theorem ggX3_openAt_X3_put : GoodIn wsX3_openAt wsX3_put := goodIn_r _ [10, 6, 11] (by decide +kernel) (by decide +kernel)
set_option maxRecDepth 20000 in
theorem gX3_openAt_X3_put : GoodIn wsX3_openAt (wsV RX3 23 RX3 yX3_put wsX3_put) := goodIn_app (goodIn_of _ (by decide +kernel)) ggX3_openAt_X3_put
theorem dX3_openAt_0 : decode cX3_openAt 0 = .ok (.iload_n 2, 1) := by decide +kernel
theorem dX3_openAt_1 : decode cX3_openAt 1 = .ok (.istore_n 3, 1) := by decide +kernel
theorem dX3_openAt_2 : decode cX3_openAt 2 = .ok (.iload_n 3, 1) := by decide +kernel
theorem dX3_openAt_3 : decode cX3_openAt 3 = .ok (.iload_n 1, 1) := by decide +kernel
theorem dX3_openAt_4 : decode cX3_openAt 4 = .ok (.if_icmp .le 21, 3) := by decide +kernel
theorem dX3_openAt_7 : decode cX3_openAt 7 = .ok (.aload_n 0, 1) := by decide +kernel
theorem dX3_openAt_8 : decode cX3_openAt 8 = .ok (.iload_n 3, 1) := by decide +kernel
theorem dX3_openAt_9 : decode cX3_openAt 9 = .ok (.aload_n 0, 1) := by decide +kernel
theorem dX3_openAt_10 : decode cX3_openAt 10 = .ok (.iload_n 3, 1) := by decide +kernel
theorem dX3_openAt_11 : decode cX3_openAt 11 = .ok (.iconst 1, 1) := by decide +kernel
theorem dX3_openAt_12 : decode cX3_openAt 12 = .ok (.isub, 1) := by decide +kernel
theorem dX3_openAt_13 : decode cX3_openAt 13 = .ok (.invokevirtual 19, 3) := by decide +kernel
theorem dX3_openAt_16 : decode cX3_openAt 16 = .ok (.invokevirtual 23, 3) := by decide +kernel
theorem dX3_openAt_19 : decode cX3_openAt 19 = .ok (.iinc 3 (-1), 3) := by decide +kernel
theorem dX3_openAt_22 : decode cX3_openAt 22 = .ok (.goto (-20), 3) := by decide +kernel
theorem dX3_openAt_25 : decode cX3_openAt 25 = .ok (.return_, 1) := by decide +kernel
set_option maxRecDepth 20000 in
theorem ggX3_closeAt_X3_at : GoodIn wsX3_closeAt wsX3_at := goodIn_r _ [5, 6, 11] (by decide +kernel) (by decide +kernel)
set_option maxRecDepth 20000 in
theorem gX3_closeAt_X3_at : GoodIn wsX3_closeAt (wsV RX3 19 RX3 yX3_at wsX3_at) := goodIn_app (goodIn_of _ (by decide +kernel)) ggX3_closeAt_X3_at
set_option maxRecDepth 20000 in
theorem ggX3_closeAt_X3_put : GoodIn wsX3_closeAt wsX3_put := goodIn_r _ [10, 6, 11] (by decide +kernel) (by decide +kernel)
set_option maxRecDepth 20000 in
theorem gX3_closeAt_X3_put : GoodIn wsX3_closeAt (wsV RX3 23 RX3 yX3_put wsX3_put) := goodIn_app (goodIn_of _ (by decide +kernel)) ggX3_closeAt_X3_put
theorem dX3_closeAt_0 : decode cX3_closeAt 0 = .ok (.iload_n 1, 1) := by decide +kernel
theorem dX3_closeAt_1 : decode cX3_closeAt 1 = .ok (.istore_n 3, 1) := by decide +kernel
theorem dX3_closeAt_2 : decode cX3_closeAt 2 = .ok (.iload_n 3, 1) := by decide +kernel
theorem dX3_closeAt_3 : decode cX3_closeAt 3 = .ok (.iload_n 2, 1) := by decide +kernel
theorem dX3_closeAt_4 : decode cX3_closeAt 4 = .ok (.iconst 1, 1) := by decide +kernel
theorem dX3_closeAt_5 : decode cX3_closeAt 5 = .ok (.isub, 1) := by decide +kernel
theorem dX3_closeAt_6 : decode cX3_closeAt 6 = .ok (.if_icmp .ge 21, 3) := by decide +kernel
theorem dX3_closeAt_9 : decode cX3_closeAt 9 = .ok (.aload_n 0, 1) := by decide +kernel
theorem dX3_closeAt_10 : decode cX3_closeAt 10 = .ok (.iload_n 3, 1) := by decide +kernel
theorem dX3_closeAt_11 : decode cX3_closeAt 11 = .ok (.aload_n 0, 1) := by decide +kernel
theorem dX3_closeAt_12 : decode cX3_closeAt 12 = .ok (.iload_n 3, 1) := by decide +kernel
theorem dX3_closeAt_13 : decode cX3_closeAt 13 = .ok (.iconst 1, 1) := by decide +kernel
theorem dX3_closeAt_14 : decode cX3_closeAt 14 = .ok (.iadd, 1) := by decide +kernel
theorem dX3_closeAt_15 : decode cX3_closeAt 15 = .ok (.invokevirtual 19, 3) := by decide +kernel
theorem dX3_closeAt_18 : decode cX3_closeAt 18 = .ok (.invokevirtual 23, 3) := by decide +kernel
theorem dX3_closeAt_21 : decode cX3_closeAt 21 = .ok (.iinc 3 1, 3) := by decide +kernel
theorem dX3_closeAt_24 : decode cX3_closeAt 24 = .ok (.goto (-22), 3) := by decide +kernel
theorem dX3_closeAt_27 : decode cX3_closeAt 27 = .ok (.return_, 1) := by decide +kernel
set_option maxRecDepth 20000 in
theorem ggX3_copyFrom_X3_at : GoodIn wsX3_copyFrom wsX3_at := goodIn_r _ [5, 6, 11] (by decide +kernel) (by decide +kernel)
set_option maxRecDepth 20000 in
theorem gX3_copyFrom_X3_at : GoodIn wsX3_copyFrom (wsV RX3 19 RX3 yX3_at wsX3_at) := goodIn_app (goodIn_of _ (by decide +kernel)) ggX3_copyFrom_X3_at
set_option maxRecDepth 20000 in
theorem ggX3_copyFrom_X3_put : GoodIn wsX3_copyFrom wsX3_put := goodIn_r _ [10, 6, 11] (by decide +kernel) (by decide +kernel)
set_option maxRecDepth 20000 in
theorem gX3_copyFrom_X3_put : GoodIn wsX3_copyFrom (wsV RX3 23 RX3 yX3_put wsX3_put) := goodIn_app (goodIn_of _ (by decide +kernel)) ggX3_copyFrom_X3_put
theorem dX3_copyFrom_0 : decode cX3_copyFrom 0 = .ok (.iconst 0, 1) := by decide +kernel
theorem dX3_copyFrom_1 : decode cX3_copyFrom 1 = .ok (.istore_n 3, 1) := by decide +kernel
theorem dX3_copyFrom_2 : decode cX3_copyFrom 2 = .ok (.iload_n 3, 1) := by decide +kernel
theorem dX3_copyFrom_3 : decode cX3_copyFrom 3 = .ok (.iload_n 2, 1) := by decide +kernel
theorem dX3_copyFrom_4 : decode cX3_copyFrom 4 = .ok (.if_icmp .ge 19, 3) := by decide +kernel
theorem dX3_copyFrom_7 : decode cX3_copyFrom 7 = .ok (.aload_n 0, 1) := by decide +kernel
theorem dX3_copyFrom_8 : decode cX3_copyFrom 8 = .ok (.iload_n 3, 1) := by decide +kernel
theorem dX3_copyFrom_9 : decode cX3_copyFrom 9 = .ok (.aload_n 1, 1) := by decide +kernel
theorem dX3_copyFrom_10 : decode cX3_copyFrom 10 = .ok (.iload_n 3, 1) := by decide +kernel
theorem dX3_copyFrom_11 : decode cX3_copyFrom 11 = .ok (.invokevirtual 19, 3) := by decide +kernel
theorem dX3_copyFrom_14 : decode cX3_copyFrom 14 = .ok (.invokevirtual 23, 3) := by decide +kernel
theorem dX3_copyFrom_17 : decode cX3_copyFrom 17 = .ok (.iinc 3 1, 3) := by decide +kernel
theorem dX3_copyFrom_20 : decode cX3_copyFrom 20 = .ok (.goto (-18), 3) := by decide +kernel
theorem dX3_copyFrom_23 : decode cX3_copyFrom 23 = .ok (.return_, 1) := by decide +kernel
set_option maxRecDepth 20000 in
theorem ggX4_init_X3_init : GoodIn wsX4_init wsX3_init := goodIn_r _ [17, 18, 2, 3, 19, 20, 21, 22, 23, 24, 34] (by decide +kernel) (by decide +kernel)
set_option maxRecDepth 20000 in
theorem gX4_init_X3_init : GoodIn wsX4_init (wsX3_init) := ggX4_init_X3_init
set_option maxRecDepth 20000 in
theorem ggX4_init_X4_write : GoodIn wsX4_init wsX4_write := goodIn_r _ [29, 7, 8, 30, 31, 32, 6, 33, 24, 35, 36, 37, 38, 39, 40, 41, 42, 34] (by decide +kernel) (by decide +kernel)
set_option maxRecDepth 20000 in
theorem gX4_init_X4_write : GoodIn wsX4_init (wsV RX4 42 RX4 yX4_write wsX4_write) := goodIn_app (goodIn_of _ (by decide +kernel)) ggX4_init_X4_write
theorem dX4_init_0 : decode cX4_init 0 = .ok (.aload_n 0, 1) := by decide +kernel
theorem dX4_init_1 : decode cX4_init 1 = .ok (.invokespecial 3, 3) := by decide +kernel
theorem dX4_init_4 : decode cX4_init 4 = .ok (.aload_n 0, 1) := by decide +kernel
theorem dX4_init_5 : decode cX4_init 5 = .ok (.new 9, 3) := by decide +kernel
theorem dX4_init_8 : decode cX4_init 8 = .ok (.dup, 1) := by decide +kernel
theorem dX4_init_9 : decode cX4_init 9 = .ok (.sipush 193, 3) := by decide +kernel
theorem dX4_init_12 : decode cX4_init 12 = .ok (.invokespecial 11, 3) := by decide +kernel
theorem dX4_init_15 : decode cX4_init 15 = .ok (.putfield 14, 3) := by decide +kernel
theorem dX4_init_18 : decode cX4_init 18 = .ok (.aload_n 0, 1) := by decide +kernel
theorem dX4_init_19 : decode cX4_init 19 = .ok (.new 9, 3) := by decide +kernel
theorem dX4_init_22 : decode cX4_init 22 = .ok (.dup, 1) := by decide +kernel
theorem dX4_init_23 : decode cX4_init 23 = .ok (.sipush 193, 3) := by decide +kernel
theorem dX4_init_26 : decode cX4_init 26 = .ok (.invokespecial 11, 3) := by decide +kernel
theorem dX4_init_29 : decode cX4_init 29 = .ok (.putfield 20, 3) := by decide +kernel
theorem dX4_init_32 : decode cX4_init 32 = .ok (.aload_n 0, 1) := by decide +kernel
theorem dX4_init_33 : decode cX4_init 33 = .ok (.iconst 1, 1) := by decide +kernel
theorem dX4_init_34 : decode cX4_init 34 = .ok (.putfield 23, 3) := by decide +kernel
theorem dX4_init_37 : decode cX4_init 37 = .ok (.aload_n 0, 1) := by decide +kernel
theorem dX4_init_38 : decode cX4_init 38 = .ok (.iconst 3, 1) := by decide +kernel
theorem dX4_init_39 : decode cX4_init 39 = .ok (.putfield 27, 3) := by decide +kernel
theorem dX4_init_42 : decode cX4_init 42 = .ok (.aload_n 0, 1) := by decide +kernel
theorem dX4_init_43 : decode cX4_init 43 = .ok (.iconst 0, 1) := by decide +kernel
theorem dX4_init_44 : decode cX4_init 44 = .ok (.putfield 30, 3) := by decide +kernel
theorem dX4_init_47 : decode cX4_init 47 = .ok (.aload_n 0, 1) := by decide +kernel
theorem dX4_init_48 : decode cX4_init 48 = .ok (.iconst 0, 1) := by decide +kernel
theorem dX4_init_49 : decode cX4_init 49 = .ok (.putfield 33, 3) := by decide +kernel
theorem dX4_init_52 : decode cX4_init 52 = .ok (.aload_n 0, 1) := by decide +kernel
theorem dX4_init_53 : decode cX4_init 53 = .ok (.iconst 0, 1) := by decide +kernel
theorem dX4_init_54 : decode cX4_init 54 = .ok (.putfield 36, 3) := by decide +kernel
theorem dX4_init_57 : decode cX4_init 57 = .ok (.aload_n 0, 1) := by decide +kernel
theorem dX4_init_58 : decode cX4_init 58 = .ok (.iconst 0, 1) := by decide +kernel
theorem dX4_init_59 : decode cX4_init 59 = .ok (.putfield 39, 3) := by decide +kernel
theorem dX4_init_62 : decode cX4_init 62 = .ok (.aload_n 0, 1) := by decide +kernel
theorem dX4_init_63 : decode cX4_init 63 = .ok (.iconst 0, 1) := by decide +kernel
theorem dX4_init_64 : decode cX4_init 64 = .ok (.iconst 0, 1) := by decide +kernel
theorem dX4_init_65 : decode cX4_init 65 = .ok (.iconst (-1), 1) := by decide +kernel
theorem dX4_init_66 : decode cX4_init 66 = .ok (.invokevirtual 42, 3) := by decide +kernel
theorem dX4_init_69 : decode cX4_init 69 = .ok (.return_, 1) := by decide +kernel
set_option maxRecDepth 20000 in
theorem ggX4_copyFrom_X3_copyFrom : GoodIn wsX4_copyFrom wsX3_copyFrom := goodIn_r _ [13, 14, 15, 16, 12, 17, 18, 19, 20, 21, 22, 31] (by decide +kernel) (by decide +kernel)
set_option maxRecDepth 20000 in
theorem gX4_copyFrom_X3_copyFrom : GoodIn wsX4_copyFrom (wsV RX4 46 RX3 yX3_copyFrom wsX3_copyFrom) := goodIn_app (goodIn_of _ (by decide +kernel)) ggX4_copyFrom_X3_copyFrom
theorem dX4_copyFrom_0 : decode cX4_copyFrom 0 = .ok (.aload_n 0, 1) := by decide +kernel
theorem dX4_copyFrom_1 : decode cX4_copyFrom 1 = .ok (.getfield 14, 3) := by decide +kernel
theorem dX4_copyFrom_4 : decode cX4_copyFrom 4 = .ok (.aload_n 1, 1) := by decide +kernel
theorem dX4_copyFrom_5 : decode cX4_copyFrom 5 = .ok (.getfield 14, 3) := by decide +kernel
theorem dX4_copyFrom_8 : decode cX4_copyFrom 8 = .ok (.aload_n 1, 1) := by decide +kernel
theorem dX4_copyFrom_9 : decode cX4_copyFrom 9 = .ok (.getfield 23, 3) := by decide +kernel
theorem dX4_copyFrom_12 : decode cX4_copyFrom 12 = .ok (.invokevirtual 46, 3) := by decide +kernel
theorem dX4_copyFrom_15 : decode cX4_copyFrom 15 = .ok (.aload_n 0, 1) := by decide +kernel
theorem dX4_copyFrom_16 : decode cX4_copyFrom 16 = .ok (.getfield 20, 3) := by decide +kernel
theorem dX4_copyFrom_19 : decode cX4_copyFrom 19 = .ok (.aload_n 1, 1) := by decide +kernel
theorem dX4_copyFrom_20 : decode cX4_copyFrom 20 = .ok (.getfield 20, 3) := by decide +kernel
theorem dX4_copyFrom_23 : decode cX4_copyFrom 23 = .ok (.aload_n 1, 1) := by decide +kernel
theorem dX4_copyFrom_24 : decode cX4_copyFrom 24 = .ok (.getfield 23, 3) := by decide +kernel
theorem dX4_copyFrom_27 : decode cX4_copyFrom 27 = .ok (.invokevirtual 46, 3) := by decide +kernel
theorem dX4_copyFrom_30 : decode cX4_copyFrom 30 = .ok (.aload_n 0, 1) := by decide +kernel
theorem dX4_copyFrom_31 : decode cX4_copyFrom 31 = .ok (.aload_n 1, 1) := by decide +kernel
theorem dX4_copyFrom_32 : decode cX4_copyFrom 32 = .ok (.getfield 23, 3) := by decide +kernel
theorem dX4_copyFrom_35 : decode cX4_copyFrom 35 = .ok (.putfield 23, 3) := by decide +kernel
theorem dX4_copyFrom_38 : decode cX4_copyFrom 38 = .ok (.aload_n 0, 1) := by decide +kernel
theorem dX4_copyFrom_39 : decode cX4_copyFrom 39 = .ok (.aload_n 1, 1) := by decide +kernel
theorem dX4_copyFrom_40 : decode cX4_copyFrom 40 = .ok (.getfield 27, 3) := by decide +kernel
theorem dX4_copyFrom_43 : decode cX4_copyFrom 43 = .ok (.putfield 27, 3) := by decide +kernel
theorem dX4_copyFrom_46 : decode cX4_copyFrom 46 = .ok (.aload_n 0, 1) := by decide +kernel
theorem dX4_copyFrom_47 : decode cX4_copyFrom 47 = .ok (.aload_n 1, 1) := by decide +kernel
theorem dX4_copyFrom_48 : decode cX4_copyFrom 48 = .ok (.getfield 30, 3) := by decide +kernel
theorem dX4_copyFrom_51 : decode cX4_copyFrom 51 = .ok (.putfield 30, 3) := by decide +kernel
theorem dX4_copyFrom_54 : decode cX4_copyFrom 54 = .ok (.aload_n 0, 1) := by decide +kernel
theorem dX4_copyFrom_55 : decode cX4_copyFrom 55 = .ok (.aload_n 1, 1) := by decide +kernel
theorem dX4_copyFrom_56 : decode cX4_copyFrom 56 = .ok (.getfield 33, 3) := by decide +kernel
theorem dX4_copyFrom_59 : decode cX4_copyFrom 59 = .ok (.putfield 33, 3) := by decide +kernel
theorem dX4_copyFrom_62 : decode cX4_copyFrom 62 = .ok (.aload_n 0, 1) := by decide +kernel
theorem dX4_copyFrom_63 : decode cX4_copyFrom 63 = .ok (.aload_n 1, 1) := by decide +kernel
theorem dX4_copyFrom_64 : decode cX4_copyFrom 64 = .ok (.getfield 36, 3) := by decide +kernel
theorem dX4_copyFrom_67 : decode cX4_copyFrom 67 = .ok (.putfield 36, 3) := by decide +kernel
theorem dX4_copyFrom_70 : decode cX4_copyFrom 70 = .ok (.aload_n 0, 1) := by decide +kernel
theorem dX4_copyFrom_71 : decode cX4_copyFrom 71 = .ok (.aload_n 1, 1) := by decide +kernel
theorem dX4_copyFrom_72 : decode cX4_copyFrom 72 = .ok (.getfield 39, 3) := by decide +kernel
theorem dX4_copyFrom_75 : decode cX4_copyFrom 75 = .ok (.putfield 39, 3) := by decide +kernel
theorem dX4_copyFrom_78 : decode cX4_copyFrom 78 = .ok (.return_, 1) := by decide +kernel
set_option maxRecDepth 20000 in
theorem ggX4_isHome_X3_at : GoodIn wsX4_isHome wsX3_at := goodIn_r _ [6, 7, 16] (by decide +kernel) (by decide +kernel)
set_option maxRecDepth 20000 in
theorem gX4_isHome_X3_at : GoodIn wsX4_isHome (wsV RX4 50 RX3 yX3_at wsX3_at) := goodIn_app (goodIn_of _ (by decide +kernel)) ggX4_isHome_X3_at
theorem dX4_isHome_0 : decode cX4_isHome 0 = .ok (.aload_n 0, 1) := by decide +kernel
theorem dX4_isHome_1 : decode cX4_isHome 1 = .ok (.getfield 20, 3) := by decide +kernel
theorem dX4_isHome_4 : decode cX4_isHome 4 = .ok (.iload_n 1, 1) := by decide +kernel
theorem dX4_isHome_5 : decode cX4_isHome 5 = .ok (.invokevirtual 50, 3) := by decide +kernel
theorem dX4_isHome_8 : decode cX4_isHome 8 = .ok (.iconst (-1), 1) := by decide +kernel
theorem dX4_isHome_9 : decode cX4_isHome 9 = .ok (.if_icmp .eq 7, 3) := by decide +kernel
theorem dX4_isHome_12 : decode cX4_isHome 12 = .ok (.iconst 1, 1) := by decide +kernel
theorem dX4_isHome_13 : decode cX4_isHome 13 = .ok (.goto 4, 3) := by decide +kernel
theorem dX4_isHome_16 : decode cX4_isHome 16 = .ok (.iconst 0, 1) := by decide +kernel
theorem dX4_isHome_17 : decode cX4_isHome 17 = .ok (.ireturn, 1) := by decide +kernel
set_option maxRecDepth 20000 in
theorem ggX4_placeOf_X3_at : GoodIn wsX4_placeOf wsX3_at := goodIn_r _ [7, 8, 17] (by decide +kernel) (by decide +kernel)
set_option maxRecDepth 20000 in
theorem gX4_placeOf_X3_at : GoodIn wsX4_placeOf (wsV RX4 50 RX3 yX3_at wsX3_at) := goodIn_app (goodIn_of _ (by decide +kernel)) ggX4_placeOf_X3_at
theorem dX4_placeOf_0 : decode cX4_placeOf 0 = .ok (.iconst 0, 1) := by decide +kernel
theorem dX4_placeOf_1 : decode cX4_placeOf 1 = .ok (.istore_n 2, 1) := by decide +kernel
theorem dX4_placeOf_2 : decode cX4_placeOf 2 = .ok (.iload_n 2, 1) := by decide +kernel
theorem dX4_placeOf_3 : decode cX4_placeOf 3 = .ok (.aload_n 0, 1) := by decide +kernel
theorem dX4_placeOf_4 : decode cX4_placeOf 4 = .ok (.getfield 23, 3) := by decide +kernel
theorem dX4_placeOf_7 : decode cX4_placeOf 7 = .ok (.if_icmp .ge 21, 3) := by decide +kernel
theorem dX4_placeOf_10 : decode cX4_placeOf 10 = .ok (.aload_n 0, 1) := by decide +kernel
theorem dX4_placeOf_11 : decode cX4_placeOf 11 = .ok (.getfield 14, 3) := by decide +kernel
theorem dX4_placeOf_14 : decode cX4_placeOf 14 = .ok (.iload_n 2, 1) := by decide +kernel
theorem dX4_placeOf_15 : decode cX4_placeOf 15 = .ok (.invokevirtual 50, 3) := by decide +kernel
theorem dX4_placeOf_18 : decode cX4_placeOf 18 = .ok (.iload_n 1, 1) := by decide +kernel
theorem dX4_placeOf_19 : decode cX4_placeOf 19 = .ok (.if_icmp .ge 9, 3) := by decide +kernel
theorem dX4_placeOf_22 : decode cX4_placeOf 22 = .ok (.iinc 2 1, 3) := by decide +kernel
theorem dX4_placeOf_25 : decode cX4_placeOf 25 = .ok (.goto (-23), 3) := by decide +kernel
theorem dX4_placeOf_28 : decode cX4_placeOf 28 = .ok (.iload_n 2, 1) := by decide +kernel
theorem dX4_placeOf_29 : decode cX4_placeOf 29 = .ok (.ireturn, 1) := by decide +kernel
set_option maxRecDepth 20000 in
theorem ggX4_indexOf_X4_placeOf : GoodIn wsX4_indexOf wsX4_placeOf := goodIn_r _ [7, 1, 2, 8, 9, 10, 11, 12, 13, 14, 15, 16, 17, 18, 19, 20, 21, 22] (by decide +kernel) (by decide +kernel)
set_option maxRecDepth 20000 in
theorem gX4_indexOf_X4_placeOf : GoodIn wsX4_indexOf (wsV RX4 54 RX4 yX4_placeOf wsX4_placeOf) := goodIn_app (goodIn_of _ (by decide +kernel)) ggX4_indexOf_X4_placeOf
set_option maxRecDepth 20000 in
theorem ggX4_indexOf_X3_at : GoodIn wsX4_indexOf wsX3_at := goodIn_r _ [12, 13, 22] (by decide +kernel) (by decide +kernel)
set_option maxRecDepth 20000 in
theorem gX4_indexOf_X3_at : GoodIn wsX4_indexOf (wsV RX4 50 RX3 yX3_at wsX3_at) := goodIn_app (goodIn_of _ (by decide +kernel)) ggX4_indexOf_X3_at
theorem dX4_indexOf_0 : decode cX4_indexOf 0 = .ok (.aload_n 0, 1) := by decide +kernel
theorem dX4_indexOf_1 : decode cX4_indexOf 1 = .ok (.iload_n 1, 1) := by decide +kernel
theorem dX4_indexOf_2 : decode cX4_indexOf 2 = .ok (.invokevirtual 54, 3) := by decide +kernel
theorem dX4_indexOf_5 : decode cX4_indexOf 5 = .ok (.istore_n 2, 1) := by decide +kernel
theorem dX4_indexOf_6 : decode cX4_indexOf 6 = .ok (.iload_n 2, 1) := by decide +kernel
theorem dX4_indexOf_7 : decode cX4_indexOf 7 = .ok (.aload_n 0, 1) := by decide +kernel
theorem dX4_indexOf_8 : decode cX4_indexOf 8 = .ok (.getfield 23, 3) := by decide +kernel
theorem dX4_indexOf_11 : decode cX4_indexOf 11 = .ok (.if_icmp .ge 19, 3) := by decide +kernel
theorem dX4_indexOf_14 : decode cX4_indexOf 14 = .ok (.aload_n 0, 1) := by decide +kernel
theorem dX4_indexOf_15 : decode cX4_indexOf 15 = .ok (.getfield 14, 3) := by decide +kernel
theorem dX4_indexOf_18 : decode cX4_indexOf 18 = .ok (.iload_n 2, 1) := by decide +kernel
theorem dX4_indexOf_19 : decode cX4_indexOf 19 = .ok (.invokevirtual 50, 3) := by decide +kernel
theorem dX4_indexOf_22 : decode cX4_indexOf 22 = .ok (.iload_n 1, 1) := by decide +kernel
theorem dX4_indexOf_23 : decode cX4_indexOf 23 = .ok (.if_icmp .ne 7, 3) := by decide +kernel
theorem dX4_indexOf_26 : decode cX4_indexOf 26 = .ok (.iload_n 2, 1) := by decide +kernel
theorem dX4_indexOf_27 : decode cX4_indexOf 27 = .ok (.goto 4, 3) := by decide +kernel
theorem dX4_indexOf_30 : decode cX4_indexOf 30 = .ok (.iconst (-1), 1) := by decide +kernel
theorem dX4_indexOf_31 : decode cX4_indexOf 31 = .ok (.ireturn, 1) := by decide +kernel
set_option maxRecDepth 20000 in
theorem ggX4_firstWith_X4_placeOf : GoodIn wsX4_firstWith wsX4_placeOf := goodIn_r _ [7, 1, 2, 8, 9, 10, 11, 12, 13, 24, 25, 26, 27, 28, 29, 30, 31, 32] (by decide +kernel) (by decide +kernel)
set_option maxRecDepth 20000 in
theorem gX4_firstWith_X4_placeOf : GoodIn wsX4_firstWith (wsV RX4 54 RX4 yX4_placeOf wsX4_placeOf) := goodIn_app (goodIn_of _ (by decide +kernel)) ggX4_firstWith_X4_placeOf
set_option maxRecDepth 20000 in
theorem ggX4_firstWith_X3_at : GoodIn wsX4_firstWith wsX3_at := goodIn_r _ [12, 13, 32] (by decide +kernel) (by decide +kernel)
set_option maxRecDepth 20000 in
theorem gX4_firstWith_X3_at : GoodIn wsX4_firstWith (wsV RX4 50 RX3 yX3_at wsX3_at) := goodIn_app (goodIn_of _ (by decide +kernel)) ggX4_firstWith_X3_at
set_option maxRecDepth 20000 in
theorem ggX4_firstWith_X2_isBeginning : GoodIn wsX4_firstWith wsX2_isBeginning := goodIn_r _ [17, 18, 19, 16, 20, 21, 22, 23] (by decide +kernel) (by decide +kernel)
set_option maxRecDepth 20000 in
theorem gX4_firstWith_X2_isBeginning : GoodIn wsX4_firstWith (va_wsS RX4 57 yX2_isBeginning wsX2_isBeginning) := goodIn_app (goodIn_of _ (by decide +kernel)) ggX4_firstWith_X2_isBeginning
theorem dX4_firstWith_0 : decode cX4_firstWith 0 = .ok (.aload_n 0, 1) := by decide +kernel
theorem dX4_firstWith_1 : decode cX4_firstWith 1 = .ok (.iload_n 1, 1) := by decide +kernel
theorem dX4_firstWith_2 : decode cX4_firstWith 2 = .ok (.invokevirtual 54, 3) := by decide +kernel
theorem dX4_firstWith_5 : decode cX4_firstWith 5 = .ok (.istore_n 2, 1) := by decide +kernel
theorem dX4_firstWith_6 : decode cX4_firstWith 6 = .ok (.iload_n 2, 1) := by decide +kernel
theorem dX4_firstWith_7 : decode cX4_firstWith 7 = .ok (.aload_n 0, 1) := by decide +kernel
theorem dX4_firstWith_8 : decode cX4_firstWith 8 = .ok (.getfield 23, 3) := by decide +kernel
theorem dX4_firstWith_11 : decode cX4_firstWith 11 = .ok (.if_icmp .ge 22, 3) := by decide +kernel
theorem dX4_firstWith_14 : decode cX4_firstWith 14 = .ok (.iload_n 1, 1) := by decide +kernel
theorem dX4_firstWith_15 : decode cX4_firstWith 15 = .ok (.aload_n 0, 1) := by decide +kernel
theorem dX4_firstWith_16 : decode cX4_firstWith 16 = .ok (.getfield 14, 3) := by decide +kernel
theorem dX4_firstWith_19 : decode cX4_firstWith 19 = .ok (.iload_n 2, 1) := by decide +kernel
theorem dX4_firstWith_20 : decode cX4_firstWith 20 = .ok (.invokevirtual 50, 3) := by decide +kernel
theorem dX4_firstWith_23 : decode cX4_firstWith 23 = .ok (.invokestatic 57, 3) := by decide +kernel
theorem dX4_firstWith_26 : decode cX4_firstWith 26 = .ok (.ifCond .eq 7, 3) := by decide +kernel
theorem dX4_firstWith_29 : decode cX4_firstWith 29 = .ok (.iload_n 2, 1) := by decide +kernel
theorem dX4_firstWith_30 : decode cX4_firstWith 30 = .ok (.goto 4, 3) := by decide +kernel
theorem dX4_firstWith_33 : decode cX4_firstWith 33 = .ok (.iconst (-1), 1) := by decide +kernel
theorem dX4_firstWith_34 : decode cX4_firstWith 34 = .ok (.ireturn, 1) := by decide +kernel
set_option maxRecDepth 20000 in
theorem ggX4_insertHouse_X4_placeOf : GoodIn wsX4_insertHouse wsX4_placeOf := goodIn_r _ [8, 2, 1, 9, 10, 11, 12, 13, 14, 29, 30, 31, 32, 33, 34, 35, 36, 37] (by decide +kernel) (by decide +kernel)
set_option maxRecDepth 20000 in
theorem gX4_insertHouse_X4_placeOf : GoodIn wsX4_insertHouse (wsV RX4 54 RX4 yX4_placeOf wsX4_placeOf) := goodIn_app (goodIn_of _ (by decide +kernel)) ggX4_insertHouse_X4_placeOf
set_option maxRecDepth 20000 in
theorem ggX4_insertHouse_X3_openAt : GoodIn wsX4_insertHouse wsX3_openAt := goodIn_r _ [18, 19, 10, 11, 12, 13, 14, 20, 21, 22, 23, 37] (by decide +kernel) (by decide +kernel)
set_option maxRecDepth 20000 in
theorem gX4_insertHouse_X3_openAt : GoodIn wsX4_insertHouse (wsV RX4 63 RX3 yX3_openAt wsX3_openAt) := goodIn_app (goodIn_of _ (by decide +kernel)) ggX4_insertHouse_X3_openAt
set_option maxRecDepth 20000 in
theorem ggX4_insertHouse_X4_write : GoodIn wsX4_insertHouse wsX4_write := goodIn_r _ [27, 1, 3, 28, 21, 22, 12, 23, 14, 29, 30, 31, 32, 33, 34, 35, 36, 37] (by decide +kernel) (by decide +kernel)
set_option maxRecDepth 20000 in
theorem gX4_insertHouse_X4_write : GoodIn wsX4_insertHouse (wsV RX4 42 RX4 yX4_write wsX4_write) := goodIn_app (goodIn_of _ (by decide +kernel)) ggX4_insertHouse_X4_write
theorem dX4_insertHouse_0 : decode cX4_insertHouse 0 = .ok (.aload_n 0, 1) := by decide +kernel
theorem dX4_insertHouse_1 : decode cX4_insertHouse 1 = .ok (.iload_n 1, 1) := by decide +kernel
theorem dX4_insertHouse_2 : decode cX4_insertHouse 2 = .ok (.invokevirtual 54, 3) := by decide +kernel
theorem dX4_insertHouse_5 : decode cX4_insertHouse 5 = .ok (.istore_n 2, 1) := by decide +kernel
theorem dX4_insertHouse_6 : decode cX4_insertHouse 6 = .ok (.aload_n 0, 1) := by decide +kernel
theorem dX4_insertHouse_7 : decode cX4_insertHouse 7 = .ok (.getfield 14, 3) := by decide +kernel
theorem dX4_insertHouse_10 : decode cX4_insertHouse 10 = .ok (.iload_n 2, 1) := by decide +kernel
theorem dX4_insertHouse_11 : decode cX4_insertHouse 11 = .ok (.aload_n 0, 1) := by decide +kernel
theorem dX4_insertHouse_12 : decode cX4_insertHouse 12 = .ok (.getfield 23, 3) := by decide +kernel
theorem dX4_insertHouse_15 : decode cX4_insertHouse 15 = .ok (.invokevirtual 63, 3) := by decide +kernel
theorem dX4_insertHouse_18 : decode cX4_insertHouse 18 = .ok (.aload_n 0, 1) := by decide +kernel
theorem dX4_insertHouse_19 : decode cX4_insertHouse 19 = .ok (.getfield 20, 3) := by decide +kernel
theorem dX4_insertHouse_22 : decode cX4_insertHouse 22 = .ok (.iload_n 2, 1) := by decide +kernel
theorem dX4_insertHouse_23 : decode cX4_insertHouse 23 = .ok (.aload_n 0, 1) := by decide +kernel
theorem dX4_insertHouse_24 : decode cX4_insertHouse 24 = .ok (.getfield 23, 3) := by decide +kernel
theorem dX4_insertHouse_27 : decode cX4_insertHouse 27 = .ok (.invokevirtual 63, 3) := by decide +kernel
theorem dX4_insertHouse_30 : decode cX4_insertHouse 30 = .ok (.aload_n 0, 1) := by decide +kernel
theorem dX4_insertHouse_31 : decode cX4_insertHouse 31 = .ok (.iload_n 2, 1) := by decide +kernel
theorem dX4_insertHouse_32 : decode cX4_insertHouse 32 = .ok (.iload_n 1, 1) := by decide +kernel
theorem dX4_insertHouse_33 : decode cX4_insertHouse 33 = .ok (.iconst (-1), 1) := by decide +kernel
theorem dX4_insertHouse_34 : decode cX4_insertHouse 34 = .ok (.invokevirtual 42, 3) := by decide +kernel
theorem dX4_insertHouse_37 : decode cX4_insertHouse 37 = .ok (.aload_n 0, 1) := by decide +kernel
theorem dX4_insertHouse_38 : decode cX4_insertHouse 38 = .ok (.dup, 1) := by decide +kernel
theorem dX4_insertHouse_39 : decode cX4_insertHouse 39 = .ok (.getfield 23, 3) := by decide +kernel
theorem dX4_insertHouse_42 : decode cX4_insertHouse 42 = .ok (.iconst 1, 1) := by decide +kernel
theorem dX4_insertHouse_43 : decode cX4_insertHouse 43 = .ok (.iadd, 1) := by decide +kernel
theorem dX4_insertHouse_44 : decode cX4_insertHouse 44 = .ok (.putfield 23, 3) := by decide +kernel
theorem dX4_insertHouse_47 : decode cX4_insertHouse 47 = .ok (.return_, 1) := by decide +kernel
set_option maxRecDepth 20000 in
theorem ggX4_dropHouse_X3_closeAt : GoodIn wsX4_dropHouse wsX3_closeAt := goodIn_r _ [8, 9, 10, 11, 7, 12, 13, 14, 15, 16, 17, 26] (by decide +kernel) (by decide +kernel)
set_option maxRecDepth 20000 in
theorem gX4_dropHouse_X3_closeAt : GoodIn wsX4_dropHouse (wsV RX4 67 RX3 yX3_closeAt wsX3_closeAt) := goodIn_app (goodIn_of _ (by decide +kernel)) ggX4_dropHouse_X3_closeAt
theorem dX4_dropHouse_0 : decode cX4_dropHouse 0 = .ok (.aload_n 0, 1) := by decide +kernel
theorem dX4_dropHouse_1 : decode cX4_dropHouse 1 = .ok (.getfield 14, 3) := by decide +kernel
theorem dX4_dropHouse_4 : decode cX4_dropHouse 4 = .ok (.iload_n 1, 1) := by decide +kernel
theorem dX4_dropHouse_5 : decode cX4_dropHouse 5 = .ok (.aload_n 0, 1) := by decide +kernel
theorem dX4_dropHouse_6 : decode cX4_dropHouse 6 = .ok (.getfield 23, 3) := by decide +kernel
theorem dX4_dropHouse_9 : decode cX4_dropHouse 9 = .ok (.invokevirtual 67, 3) := by decide +kernel
theorem dX4_dropHouse_12 : decode cX4_dropHouse 12 = .ok (.aload_n 0, 1) := by decide +kernel
theorem dX4_dropHouse_13 : decode cX4_dropHouse 13 = .ok (.getfield 20, 3) := by decide +kernel
theorem dX4_dropHouse_16 : decode cX4_dropHouse 16 = .ok (.iload_n 1, 1) := by decide +kernel
theorem dX4_dropHouse_17 : decode cX4_dropHouse 17 = .ok (.aload_n 0, 1) := by decide +kernel
theorem dX4_dropHouse_18 : decode cX4_dropHouse 18 = .ok (.getfield 23, 3) := by decide +kernel
theorem dX4_dropHouse_21 : decode cX4_dropHouse 21 = .ok (.invokevirtual 67, 3) := by decide +kernel
theorem dX4_dropHouse_24 : decode cX4_dropHouse 24 = .ok (.aload_n 0, 1) := by decide +kernel
theorem dX4_dropHouse_25 : decode cX4_dropHouse 25 = .ok (.dup, 1) := by decide +kernel
theorem dX4_dropHouse_26 : decode cX4_dropHouse 26 = .ok (.getfield 23, 3) := by decide +kernel
theorem dX4_dropHouse_29 : decode cX4_dropHouse 29 = .ok (.iconst 1, 1) := by decide +kernel
theorem dX4_dropHouse_30 : decode cX4_dropHouse 30 = .ok (.isub, 1) := by decide +kernel
theorem dX4_dropHouse_31 : decode cX4_dropHouse 31 = .ok (.putfield 23, 3) := by decide +kernel
theorem dX4_dropHouse_34 : decode cX4_dropHouse 34 = .ok (.return_, 1) := by decide +kernel
set_option maxRecDepth 20000 in
theorem ggX4_dropMarked_X3_at : GoodIn wsX4_dropMarked wsX3_at := goodIn_r _ [8, 9, 27] (by decide +kernel) (by decide +kernel)
set_option maxRecDepth 20000 in
theorem gX4_dropMarked_X3_at : GoodIn wsX4_dropMarked (wsV RX4 50 RX3 yX3_at wsX3_at) := goodIn_app (goodIn_of _ (by decide +kernel)) ggX4_dropMarked_X3_at
set_option maxRecDepth 20000 in
theorem ggX4_dropMarked_X4_write : GoodIn wsX4_dropMarked wsX4_write := goodIn_r _ [14, 2, 3, 15, 16, 17, 7, 18, 9, 19, 20, 21, 22, 23, 24, 25, 26, 27] (by decide +kernel) (by decide +kernel)
set_option maxRecDepth 20000 in
theorem gX4_dropMarked_X4_write : GoodIn wsX4_dropMarked (wsV RX4 42 RX4 yX4_write wsX4_write) := goodIn_app (goodIn_of _ (by decide +kernel)) ggX4_dropMarked_X4_write
theorem dX4_dropMarked_0 : decode cX4_dropMarked 0 = .ok (.iconst 0, 1) := by decide +kernel
theorem dX4_dropMarked_1 : decode cX4_dropMarked 1 = .ok (.istore_n 2, 1) := by decide +kernel
theorem dX4_dropMarked_2 : decode cX4_dropMarked 2 = .ok (.iconst 0, 1) := by decide +kernel
theorem dX4_dropMarked_3 : decode cX4_dropMarked 3 = .ok (.istore_n 3, 1) := by decide +kernel
theorem dX4_dropMarked_4 : decode cX4_dropMarked 4 = .ok (.iload_n 3, 1) := by decide +kernel
theorem dX4_dropMarked_5 : decode cX4_dropMarked 5 = .ok (.aload_n 0, 1) := by decide +kernel
theorem dX4_dropMarked_6 : decode cX4_dropMarked 6 = .ok (.getfield 23, 3) := by decide +kernel
theorem dX4_dropMarked_9 : decode cX4_dropMarked 9 = .ok (.if_icmp .ge 41, 3) := by decide +kernel
theorem dX4_dropMarked_12 : decode cX4_dropMarked 12 = .ok (.aload_n 1, 1) := by decide +kernel
theorem dX4_dropMarked_13 : decode cX4_dropMarked 13 = .ok (.iload_n 3, 1) := by decide +kernel
theorem dX4_dropMarked_14 : decode cX4_dropMarked 14 = .ok (.invokevirtual 50, 3) := by decide +kernel
theorem dX4_dropMarked_17 : decode cX4_dropMarked 17 = .ok (.ifCond .ne 27, 3) := by decide +kernel
theorem dX4_dropMarked_20 : decode cX4_dropMarked 20 = .ok (.aload_n 0, 1) := by decide +kernel
theorem dX4_dropMarked_21 : decode cX4_dropMarked 21 = .ok (.iload_n 2, 1) := by decide +kernel
theorem dX4_dropMarked_22 : decode cX4_dropMarked 22 = .ok (.aload_n 0, 1) := by decide +kernel
theorem dX4_dropMarked_23 : decode cX4_dropMarked 23 = .ok (.getfield 14, 3) := by decide +kernel
theorem dX4_dropMarked_26 : decode cX4_dropMarked 26 = .ok (.iload_n 3, 1) := by decide +kernel
theorem dX4_dropMarked_27 : decode cX4_dropMarked 27 = .ok (.invokevirtual 50, 3) := by decide +kernel
theorem dX4_dropMarked_30 : decode cX4_dropMarked 30 = .ok (.aload_n 0, 1) := by decide +kernel
theorem dX4_dropMarked_31 : decode cX4_dropMarked 31 = .ok (.getfield 20, 3) := by decide +kernel
theorem dX4_dropMarked_34 : decode cX4_dropMarked 34 = .ok (.iload_n 3, 1) := by decide +kernel
theorem dX4_dropMarked_35 : decode cX4_dropMarked 35 = .ok (.invokevirtual 50, 3) := by decide +kernel
theorem dX4_dropMarked_38 : decode cX4_dropMarked 38 = .ok (.invokevirtual 42, 3) := by decide +kernel
theorem dX4_dropMarked_41 : decode cX4_dropMarked 41 = .ok (.iinc 2 1, 3) := by decide +kernel
theorem dX4_dropMarked_44 : decode cX4_dropMarked 44 = .ok (.iinc 3 1, 3) := by decide +kernel
theorem dX4_dropMarked_47 : decode cX4_dropMarked 47 = .ok (.goto (-43), 3) := by decide +kernel
theorem dX4_dropMarked_50 : decode cX4_dropMarked 50 = .ok (.aload_n 0, 1) := by decide +kernel
theorem dX4_dropMarked_51 : decode cX4_dropMarked 51 = .ok (.getfield 23, 3) := by decide +kernel
theorem dX4_dropMarked_54 : decode cX4_dropMarked 54 = .ok (.iload_n 2, 1) := by decide +kernel
theorem dX4_dropMarked_55 : decode cX4_dropMarked 55 = .ok (.isub, 1) := by decide +kernel
theorem dX4_dropMarked_56 : decode cX4_dropMarked 56 = .ok (.istore_n 3, 1) := by decide +kernel
theorem dX4_dropMarked_57 : decode cX4_dropMarked 57 = .ok (.aload_n 0, 1) := by decide +kernel
theorem dX4_dropMarked_58 : decode cX4_dropMarked 58 = .ok (.iload_n 2, 1) := by decide +kernel
theorem dX4_dropMarked_59 : decode cX4_dropMarked 59 = .ok (.putfield 23, 3) := by decide +kernel
theorem dX4_dropMarked_62 : decode cX4_dropMarked 62 = .ok (.iload_n 3, 1) := by decide +kernel
theorem dX4_dropMarked_63 : decode cX4_dropMarked 63 = .ok (.ireturn, 1) := by decide +kernel
set_option maxRecDepth 20000 in
theorem ggX4_write_X3_put : GoodIn wsX4_write wsX3_put := goodIn_r _ [7, 8, 17] (by decide +kernel) (by decide +kernel)
set_option maxRecDepth 20000 in
theorem gX4_write_X3_put : GoodIn wsX4_write (wsV RX4 70 RX3 yX3_put wsX3_put) := goodIn_app (goodIn_of _ (by decide +kernel)) ggX4_write_X3_put
theorem dX4_write_0 : decode cX4_write 0 = .ok (.aload_n 0, 1) := by decide +kernel
theorem dX4_write_1 : decode cX4_write 1 = .ok (.getfield 14, 3) := by decide +kernel
theorem dX4_write_4 : decode cX4_write 4 = .ok (.iload_n 1, 1) := by decide +kernel
theorem dX4_write_5 : decode cX4_write 5 = .ok (.iload_n 2, 1) := by decide +kernel
theorem dX4_write_6 : decode cX4_write 6 = .ok (.invokevirtual 70, 3) := by decide +kernel
theorem dX4_write_9 : decode cX4_write 9 = .ok (.aload_n 0, 1) := by decide +kernel
theorem dX4_write_10 : decode cX4_write 10 = .ok (.getfield 20, 3) := by decide +kernel
theorem dX4_write_13 : decode cX4_write 13 = .ok (.iload_n 1, 1) := by decide +kernel
theorem dX4_write_14 : decode cX4_write 14 = .ok (.iload_n 3, 1) := by decide +kernel
theorem dX4_write_15 : decode cX4_write 15 = .ok (.invokevirtual 70, 3) := by decide +kernel
theorem dX4_write_18 : decode cX4_write 18 = .ok (.return_, 1) := by decide +kernel
set_option maxRecDepth 20000 in
theorem ggX5_init_X4_init : GoodIn wsX5_init wsX4_init := goodIn_r _ [20, 21, 2, 3, 22, 9, 10, 23, 24, 25, 26, 27, 28, 29, 30, 31, 32, 33, 34, 35, 36, 37, 38, 39, 40, 41, 42, 43, 6, 44, 45, 46, 47, 48, 109, 93, 94, 95, 96, 97, 98, 99, 100] (by decide +kernel) (by decide +kernel)
set_option maxRecDepth 20000 in
theorem gX5_init_X4_init : GoodIn wsX5_init (wsX4_init) := ggX5_init_X4_init
set_option maxRecDepth 20000 in
theorem ggX5_init_X3_init : GoodIn wsX5_init wsX3_init := goodIn_r _ [33, 34, 2, 3, 35, 36, 37, 38, 39, 40, 109] (by decide +kernel) (by decide +kernel)
set_option maxRecDepth 20000 in
theorem gX5_init_X3_init : GoodIn wsX5_init (wsX3_init) := ggX5_init_X3_init
set_option maxRecDepth 20000 in
theorem ggX5_init_X5_survey : GoodIn wsX5_init wsX5_survey := goodIn_r _ [54, 7, 55, 11, 16, 14, 15, 56, 57, 58, 53, 59, 60, 36, 37, 38, 61, 62, 63, 64, 10, 65, 40, 66, 67, 68, 69, 70, 71, 72, 73, 74, 75, 76, 46, 47, 48, 77, 78, 79, 80, 12, 13, 81, 82, 83, 84, 6, 85, 24, 86, 87, 88, 89, 90, 91, 92, 101, 102, 103, 104, 105, 106, 107, 108, 93, 94, 95, 96, 97, 98, 99, 100, 109] (by decide +kernel) (by decide +kernel)
set_option maxRecDepth 20000 in
theorem gX5_init_X5_survey : GoodIn wsX5_init (wsV RX5 45 RX5 yX5_survey wsX5_survey) := goodIn_app (goodIn_of _ (by decide +kernel)) ggX5_init_X5_survey
theorem dX5_init_0 : decode cX5_init 0 = .ok (.aload_n 0, 1) := by decide +kernel
theorem dX5_init_1 : decode cX5_init 1 = .ok (.invokespecial 3, 3) := by decide +kernel
theorem dX5_init_4 : decode cX5_init 4 = .ok (.aload_n 0, 1) := by decide +kernel
theorem dX5_init_5 : decode cX5_init 5 = .ok (.new 9, 3) := by decide +kernel
theorem dX5_init_8 : decode cX5_init 8 = .ok (.dup, 1) := by decide +kernel
theorem dX5_init_9 : decode cX5_init 9 = .ok (.invokespecial 11, 3) := by decide +kernel
theorem dX5_init_12 : decode cX5_init 12 = .ok (.putfield 12, 3) := by decide +kernel
theorem dX5_init_15 : decode cX5_init 15 = .ok (.aload_n 0, 1) := by decide +kernel
theorem dX5_init_16 : decode cX5_init 16 = .ok (.new 18, 3) := by decide +kernel
theorem dX5_init_19 : decode cX5_init 19 = .ok (.dup, 1) := by decide +kernel
theorem dX5_init_20 : decode cX5_init 20 = .ok (.sipush 193, 3) := by decide +kernel
theorem dX5_init_23 : decode cX5_init 23 = .ok (.invokespecial 20, 3) := by decide +kernel
theorem dX5_init_26 : decode cX5_init 26 = .ok (.putfield 23, 3) := by decide +kernel
theorem dX5_init_29 : decode cX5_init 29 = .ok (.aload_n 0, 1) := by decide +kernel
theorem dX5_init_30 : decode cX5_init 30 = .ok (.new 18, 3) := by decide +kernel
theorem dX5_init_33 : decode cX5_init 33 = .ok (.dup, 1) := by decide +kernel
theorem dX5_init_34 : decode cX5_init 34 = .ok (.sipush 193, 3) := by decide +kernel
theorem dX5_init_37 : decode cX5_init 37 = .ok (.invokespecial 20, 3) := by decide +kernel
theorem dX5_init_40 : decode cX5_init 40 = .ok (.putfield 27, 3) := by decide +kernel
theorem dX5_init_43 : decode cX5_init 43 = .ok (.aload_n 0, 1) := by decide +kernel
theorem dX5_init_44 : decode cX5_init 44 = .ok (.new 18, 3) := by decide +kernel
theorem dX5_init_47 : decode cX5_init 47 = .ok (.dup, 1) := by decide +kernel
theorem dX5_init_48 : decode cX5_init 48 = .ok (.sipush 193, 3) := by decide +kernel
theorem dX5_init_51 : decode cX5_init 51 = .ok (.invokespecial 20, 3) := by decide +kernel
theorem dX5_init_54 : decode cX5_init 54 = .ok (.putfield 30, 3) := by decide +kernel
theorem dX5_init_57 : decode cX5_init 57 = .ok (.aload_n 0, 1) := by decide +kernel
theorem dX5_init_58 : decode cX5_init 58 = .ok (.new 18, 3) := by decide +kernel
theorem dX5_init_61 : decode cX5_init 61 = .ok (.dup, 1) := by decide +kernel
theorem dX5_init_62 : decode cX5_init 62 = .ok (.sipush 193, 3) := by decide +kernel
theorem dX5_init_65 : decode cX5_init 65 = .ok (.invokespecial 20, 3) := by decide +kernel
theorem dX5_init_68 : decode cX5_init 68 = .ok (.putfield 33, 3) := by decide +kernel
theorem dX5_init_71 : decode cX5_init 71 = .ok (.aload_n 0, 1) := by decide +kernel
theorem dX5_init_72 : decode cX5_init 72 = .ok (.new 18, 3) := by decide +kernel
theorem dX5_init_75 : decode cX5_init 75 = .ok (.dup, 1) := by decide +kernel
theorem dX5_init_76 : decode cX5_init 76 = .ok (.sipush 193, 3) := by decide +kernel
theorem dX5_init_79 : decode cX5_init 79 = .ok (.invokespecial 20, 3) := by decide +kernel
theorem dX5_init_82 : decode cX5_init 82 = .ok (.putfield 36, 3) := by decide +kernel
theorem dX5_init_85 : decode cX5_init 85 = .ok (.aload_n 0, 1) := by decide +kernel
theorem dX5_init_86 : decode cX5_init 86 = .ok (.new 18, 3) := by decide +kernel
theorem dX5_init_89 : decode cX5_init 89 = .ok (.dup, 1) := by decide +kernel
theorem dX5_init_90 : decode cX5_init 90 = .ok (.bipush 24, 2) := by decide +kernel
theorem dX5_init_92 : decode cX5_init 92 = .ok (.invokespecial 20, 3) := by decide +kernel
theorem dX5_init_95 : decode cX5_init 95 = .ok (.putfield 39, 3) := by decide +kernel
theorem dX5_init_98 : decode cX5_init 98 = .ok (.aload_n 0, 1) := by decide +kernel
theorem dX5_init_99 : decode cX5_init 99 = .ok (.new 18, 3) := by decide +kernel
theorem dX5_init_102 : decode cX5_init 102 = .ok (.dup, 1) := by decide +kernel
theorem dX5_init_103 : decode cX5_init 103 = .ok (.sipush 193, 3) := by decide +kernel
theorem dX5_init_106 : decode cX5_init 106 = .ok (.invokespecial 20, 3) := by decide +kernel
theorem dX5_init_109 : decode cX5_init 109 = .ok (.putfield 42, 3) := by decide +kernel
theorem dX5_init_112 : decode cX5_init 112 = .ok (.aload_n 0, 1) := by decide +kernel
theorem dX5_init_113 : decode cX5_init 113 = .ok (.invokevirtual 45, 3) := by decide +kernel
theorem dX5_init_116 : decode cX5_init 116 = .ok (.return_, 1) := by decide +kernel
set_option maxRecDepth 20000 in
theorem ggX5_survey_X5_findParent : GoodIn wsX5_survey wsX5_findParent := goodIn_r _ [11, 12, 13, 14, 15, 1, 16, 3, 17, 18, 19, 20, 21, 22, 23, 24, 25, 26, 27, 28, 29, 30, 31, 32, 57, 58, 59, 60, 61, 62, 63, 64, 65, 66, 67, 68, 69, 70, 71, 72, 73] (by decide +kernel) (by decide +kernel)
set_option maxRecDepth 20000 in
theorem gX5_survey_X5_findParent : GoodIn wsX5_survey (wsV RX5 56 RX5 yX5_findParent wsX5_findParent) := goodIn_app (goodIn_of _ (by decide +kernel)) ggX5_survey_X5_findParent
set_option maxRecDepth 20000 in
theorem ggX5_survey_X3_put : GoodIn wsX5_survey wsX3_put := goodIn_r _ [36, 22, 73] (by decide +kernel) (by decide +kernel)
set_option maxRecDepth 20000 in
theorem gX5_survey_X3_put : GoodIn wsX5_survey (wsV RX5 60 RX3 yX3_put wsX3_put) := goodIn_app (goodIn_of _ (by decide +kernel)) ggX5_survey_X3_put
set_option maxRecDepth 20000 in
theorem ggX5_survey_X5_surveyHouse : GoodIn wsX5_survey wsX5_surveyHouse := goodIn_r _ [40, 1, 3, 41, 42, 5, 6, 43, 44, 45, 46, 47, 48, 49, 50, 18, 19, 20, 21, 22, 17, 33, 34, 35, 36, 51, 52, 53, 54, 55, 56, 57, 58, 59, 60, 61, 62, 63, 64, 65, 66, 67, 68, 69, 70, 71, 72, 73] (by decide +kernel) (by decide +kernel)
set_option maxRecDepth 20000 in
theorem gX5_survey_X5_surveyHouse : GoodIn wsX5_survey (wsV RX5 64 RX5 yX5_surveyHouse wsX5_surveyHouse) := goodIn_app (goodIn_of _ (by decide +kernel)) ggX5_survey_X5_surveyHouse
set_option maxRecDepth 20000 in
theorem ggX5_survey_X4_isHome : GoodIn wsX5_survey wsX4_isHome := goodIn_r _ [48, 49, 50, 18, 19, 20, 21, 22, 65, 66, 67, 68, 69, 70, 71, 72, 73] (by decide +kernel) (by decide +kernel)
set_option maxRecDepth 20000 in
theorem gX5_survey_X4_isHome : GoodIn wsX5_survey (wsV RX5 67 RX4 yX4_isHome wsX4_isHome) := goodIn_app (goodIn_of _ (by decide +kernel)) ggX5_survey_X4_isHome
set_option maxRecDepth 20000 in
theorem ggX5_survey_X3_at : GoodIn wsX5_survey wsX3_at := goodIn_r _ [21, 22, 73] (by decide +kernel) (by decide +kernel)
set_option maxRecDepth 20000 in
theorem gX5_survey_X3_at : GoodIn wsX5_survey (wsV RX5 71 RX3 yX3_at wsX3_at) := goodIn_app (goodIn_of _ (by decide +kernel)) ggX5_survey_X3_at
set_option maxRecDepth 20000 in
theorem ggX5_survey_X3_increase : GoodIn wsX5_survey wsX3_increase := goodIn_r _ [54, 55, 18, 19, 20, 21, 22, 56, 34, 35, 36, 73] (by decide +kernel) (by decide +kernel)
set_option maxRecDepth 20000 in
theorem gX5_survey_X3_increase : GoodIn wsX5_survey (wsV RX5 74 RX3 yX3_increase wsX3_increase) := goodIn_app (goodIn_of _ (by decide +kernel)) ggX5_survey_X3_increase
theorem dX5_survey_0 : decode cX5_survey 0 = .ok (.iconst 0, 1) := by decide +kernel
theorem dX5_survey_1 : decode cX5_survey 1 = .ok (.istore_n 1, 1) := by decide +kernel
theorem dX5_survey_2 : decode cX5_survey 2 = .ok (.iconst 0, 1) := by decide +kernel
theorem dX5_survey_3 : decode cX5_survey 3 = .ok (.istore_n 2, 1) := by decide +kernel
theorem dX5_survey_4 : decode cX5_survey 4 = .ok (.iload_n 2, 1) := by decide +kernel
theorem dX5_survey_5 : decode cX5_survey 5 = .ok (.aload_n 0, 1) := by decide +kernel
theorem dX5_survey_6 : decode cX5_survey 6 = .ok (.getfield 12, 3) := by decide +kernel
theorem dX5_survey_9 : decode cX5_survey 9 = .ok (.getfield 52, 3) := by decide +kernel
theorem dX5_survey_12 : decode cX5_survey 12 = .ok (.if_icmp .ge 50, 3) := by decide +kernel
theorem dX5_survey_15 : decode cX5_survey 15 = .ok (.aload_n 0, 1) := by decide +kernel
theorem dX5_survey_16 : decode cX5_survey 16 = .ok (.getfield 23, 3) := by decide +kernel
theorem dX5_survey_19 : decode cX5_survey 19 = .ok (.iload_n 2, 1) := by decide +kernel
theorem dX5_survey_20 : decode cX5_survey 20 = .ok (.aload_n 0, 1) := by decide +kernel
theorem dX5_survey_21 : decode cX5_survey 21 = .ok (.iload_n 2, 1) := by decide +kernel
theorem dX5_survey_22 : decode cX5_survey 22 = .ok (.invokevirtual 56, 3) := by decide +kernel
theorem dX5_survey_25 : decode cX5_survey 25 = .ok (.invokevirtual 60, 3) := by decide +kernel
theorem dX5_survey_28 : decode cX5_survey 28 = .ok (.aload_n 0, 1) := by decide +kernel
theorem dX5_survey_29 : decode cX5_survey 29 = .ok (.iload_n 2, 1) := by decide +kernel
theorem dX5_survey_30 : decode cX5_survey 30 = .ok (.invokevirtual 64, 3) := by decide +kernel
theorem dX5_survey_33 : decode cX5_survey 33 = .ok (.aload_n 0, 1) := by decide +kernel
theorem dX5_survey_34 : decode cX5_survey 34 = .ok (.getfield 12, 3) := by decide +kernel
theorem dX5_survey_37 : decode cX5_survey 37 = .ok (.iload_n 2, 1) := by decide +kernel
theorem dX5_survey_38 : decode cX5_survey 38 = .ok (.invokevirtual 67, 3) := by decide +kernel
theorem dX5_survey_41 : decode cX5_survey 41 = .ok (.ifCond .eq 15, 3) := by decide +kernel
theorem dX5_survey_44 : decode cX5_survey 44 = .ok (.aload_n 0, 1) := by decide +kernel
theorem dX5_survey_45 : decode cX5_survey 45 = .ok (.getfield 39, 3) := by decide +kernel
theorem dX5_survey_48 : decode cX5_survey 48 = .ok (.iload_n 1, 1) := by decide +kernel
theorem dX5_survey_49 : decode cX5_survey 49 = .ok (.iload_n 2, 1) := by decide +kernel
theorem dX5_survey_50 : decode cX5_survey 50 = .ok (.invokevirtual 60, 3) := by decide +kernel
theorem dX5_survey_53 : decode cX5_survey 53 = .ok (.iinc 1 1, 3) := by decide +kernel
theorem dX5_survey_56 : decode cX5_survey 56 = .ok (.iinc 2 1, 3) := by decide +kernel
theorem dX5_survey_59 : decode cX5_survey 59 = .ok (.goto (-55), 3) := by decide +kernel
theorem dX5_survey_62 : decode cX5_survey 62 = .ok (.aload_n 0, 1) := by decide +kernel
theorem dX5_survey_63 : decode cX5_survey 63 = .ok (.getfield 12, 3) := by decide +kernel
theorem dX5_survey_66 : decode cX5_survey 66 = .ok (.getfield 52, 3) := by decide +kernel
theorem dX5_survey_69 : decode cX5_survey 69 = .ok (.iconst 1, 1) := by decide +kernel
theorem dX5_survey_70 : decode cX5_survey 70 = .ok (.isub, 1) := by decide +kernel
theorem dX5_survey_71 : decode cX5_survey 71 = .ok (.istore_n 2, 1) := by decide +kernel
theorem dX5_survey_72 : decode cX5_survey 72 = .ok (.iload_n 2, 1) := by decide +kernel
theorem dX5_survey_73 : decode cX5_survey 73 = .ok (.ifCond .le 55, 3) := by decide +kernel
theorem dX5_survey_76 : decode cX5_survey 76 = .ok (.aload_n 0, 1) := by decide +kernel
theorem dX5_survey_77 : decode cX5_survey 77 = .ok (.getfield 33, 3) := by decide +kernel
theorem dX5_survey_80 : decode cX5_survey 80 = .ok (.aload_n 0, 1) := by decide +kernel
theorem dX5_survey_81 : decode cX5_survey 81 = .ok (.getfield 23, 3) := by decide +kernel
theorem dX5_survey_84 : decode cX5_survey 84 = .ok (.iload_n 2, 1) := by decide +kernel
theorem dX5_survey_85 : decode cX5_survey 85 = .ok (.invokevirtual 71, 3) := by decide +kernel
theorem dX5_survey_88 : decode cX5_survey 88 = .ok (.aload_n 0, 1) := by decide +kernel
theorem dX5_survey_89 : decode cX5_survey 89 = .ok (.getfield 33, 3) := by decide +kernel
theorem dX5_survey_92 : decode cX5_survey 92 = .ok (.iload_n 2, 1) := by decide +kernel
theorem dX5_survey_93 : decode cX5_survey 93 = .ok (.invokevirtual 71, 3) := by decide +kernel
theorem dX5_survey_96 : decode cX5_survey 96 = .ok (.invokevirtual 74, 3) := by decide +kernel
theorem dX5_survey_99 : decode cX5_survey 99 = .ok (.aload_n 0, 1) := by decide +kernel
theorem dX5_survey_100 : decode cX5_survey 100 = .ok (.getfield 36, 3) := by decide +kernel
theorem dX5_survey_103 : decode cX5_survey 103 = .ok (.aload_n 0, 1) := by decide +kernel
theorem dX5_survey_104 : decode cX5_survey 104 = .ok (.getfield 23, 3) := by decide +kernel
theorem dX5_survey_107 : decode cX5_survey 107 = .ok (.iload_n 2, 1) := by decide +kernel
theorem dX5_survey_108 : decode cX5_survey 108 = .ok (.invokevirtual 71, 3) := by decide +kernel
theorem dX5_survey_111 : decode cX5_survey 111 = .ok (.aload_n 0, 1) := by decide +kernel
theorem dX5_survey_112 : decode cX5_survey 112 = .ok (.getfield 36, 3) := by decide +kernel
theorem dX5_survey_115 : decode cX5_survey 115 = .ok (.iload_n 2, 1) := by decide +kernel
theorem dX5_survey_116 : decode cX5_survey 116 = .ok (.invokevirtual 71, 3) := by decide +kernel
theorem dX5_survey_119 : decode cX5_survey 119 = .ok (.invokevirtual 74, 3) := by decide +kernel
theorem dX5_survey_122 : decode cX5_survey 122 = .ok (.iinc 2 (-1), 3) := by decide +kernel
theorem dX5_survey_125 : decode cX5_survey 125 = .ok (.goto (-53), 3) := by decide +kernel
theorem dX5_survey_128 : decode cX5_survey 128 = .ok (.return_, 1) := by decide +kernel
set_option maxRecDepth 20000 in
theorem ggX5_surveyHouse_X4_isHome : GoodIn wsX5_surveyHouse wsX4_isHome := goodIn_r _ [12, 13, 14, 15, 16, 17, 18, 19, 39, 40, 41, 42, 43, 44, 45, 46, 47] (by decide +kernel) (by decide +kernel)
set_option maxRecDepth 20000 in
theorem gX5_surveyHouse_X4_isHome : GoodIn wsX5_surveyHouse (wsV RX5 67 RX4 yX4_isHome wsX4_isHome) := goodIn_app (goodIn_of _ (by decide +kernel)) ggX5_surveyHouse_X4_isHome
set_option maxRecDepth 20000 in
theorem ggX5_surveyHouse_X3_at : GoodIn wsX5_surveyHouse wsX3_at := goodIn_r _ [18, 19, 47] (by decide +kernel) (by decide +kernel)
set_option maxRecDepth 20000 in
theorem gX5_surveyHouse_X3_at : GoodIn wsX5_surveyHouse (wsV RX5 71 RX3 yX3_at wsX3_at) := goodIn_app (goodIn_of _ (by decide +kernel)) ggX5_surveyHouse_X3_at
set_option maxRecDepth 20000 in
theorem ggX5_surveyHouse_X3_put : GoodIn wsX5_surveyHouse wsX3_put := goodIn_r _ [24, 19, 47] (by decide +kernel) (by decide +kernel)
set_option maxRecDepth 20000 in
theorem gX5_surveyHouse_X3_put : GoodIn wsX5_surveyHouse (wsV RX5 60 RX3 yX3_put wsX3_put) := goodIn_app (goodIn_of _ (by decide +kernel)) ggX5_surveyHouse_X3_put
set_option maxRecDepth 20000 in
theorem ggX5_surveyHouse_X3_increase : GoodIn wsX5_surveyHouse wsX3_increase := goodIn_r _ [28, 29, 15, 16, 17, 18, 19, 30, 22, 23, 24, 47] (by decide +kernel) (by decide +kernel)
set_option maxRecDepth 20000 in
theorem gX5_surveyHouse_X3_increase : GoodIn wsX5_surveyHouse (wsV RX5 74 RX3 yX3_increase wsX3_increase) := goodIn_app (goodIn_of _ (by decide +kernel)) ggX5_surveyHouse_X3_increase
theorem dX5_surveyHouse_0 : decode cX5_surveyHouse 0 = .ok (.aload_n 0, 1) := by decide +kernel
theorem dX5_surveyHouse_1 : decode cX5_surveyHouse 1 = .ok (.getfield 12, 3) := by decide +kernel
theorem dX5_surveyHouse_4 : decode cX5_surveyHouse 4 = .ok (.iload_n 1, 1) := by decide +kernel
theorem dX5_surveyHouse_5 : decode cX5_surveyHouse 5 = .ok (.invokevirtual 67, 3) := by decide +kernel
theorem dX5_surveyHouse_8 : decode cX5_surveyHouse 8 = .ok (.istore_n 2, 1) := by decide +kernel
theorem dX5_surveyHouse_9 : decode cX5_surveyHouse 9 = .ok (.aload_n 0, 1) := by decide +kernel
theorem dX5_surveyHouse_10 : decode cX5_surveyHouse 10 = .ok (.getfield 23, 3) := by decide +kernel
theorem dX5_surveyHouse_13 : decode cX5_surveyHouse 13 = .ok (.iload_n 1, 1) := by decide +kernel
theorem dX5_surveyHouse_14 : decode cX5_surveyHouse 14 = .ok (.invokevirtual 71, 3) := by decide +kernel
theorem dX5_surveyHouse_17 : decode cX5_surveyHouse 17 = .ok (.istore_n 3, 1) := by decide +kernel
theorem dX5_surveyHouse_18 : decode cX5_surveyHouse 18 = .ok (.aload_n 0, 1) := by decide +kernel
theorem dX5_surveyHouse_19 : decode cX5_surveyHouse 19 = .ok (.getfield 27, 3) := by decide +kernel
theorem dX5_surveyHouse_22 : decode cX5_surveyHouse 22 = .ok (.iload_n 1, 1) := by decide +kernel
theorem dX5_surveyHouse_23 : decode cX5_surveyHouse 23 = .ok (.iconst 0, 1) := by decide +kernel
theorem dX5_surveyHouse_24 : decode cX5_surveyHouse 24 = .ok (.invokevirtual 60, 3) := by decide +kernel
theorem dX5_surveyHouse_27 : decode cX5_surveyHouse 27 = .ok (.aload_n 0, 1) := by decide +kernel
theorem dX5_surveyHouse_28 : decode cX5_surveyHouse 28 = .ok (.getfield 30, 3) := by decide +kernel
theorem dX5_surveyHouse_31 : decode cX5_surveyHouse 31 = .ok (.iload_n 1, 1) := by decide +kernel
theorem dX5_surveyHouse_32 : decode cX5_surveyHouse 32 = .ok (.iload_n 1, 1) := by decide +kernel
theorem dX5_surveyHouse_33 : decode cX5_surveyHouse 33 = .ok (.ifCond .ne 7, 3) := by decide +kernel
theorem dX5_surveyHouse_36 : decode cX5_surveyHouse 36 = .ok (.iconst 0, 1) := by decide +kernel
theorem dX5_surveyHouse_37 : decode cX5_surveyHouse 37 = .ok (.goto 13, 3) := by decide +kernel
theorem dX5_surveyHouse_40 : decode cX5_surveyHouse 40 = .ok (.aload_n 0, 1) := by decide +kernel
theorem dX5_surveyHouse_41 : decode cX5_surveyHouse 41 = .ok (.getfield 30, 3) := by decide +kernel
theorem dX5_surveyHouse_44 : decode cX5_surveyHouse 44 = .ok (.iload_n 3, 1) := by decide +kernel
theorem dX5_surveyHouse_45 : decode cX5_surveyHouse 45 = .ok (.invokevirtual 71, 3) := by decide +kernel
theorem dX5_surveyHouse_48 : decode cX5_surveyHouse 48 = .ok (.iconst 1, 1) := by decide +kernel
theorem dX5_surveyHouse_49 : decode cX5_surveyHouse 49 = .ok (.iadd, 1) := by decide +kernel
theorem dX5_surveyHouse_50 : decode cX5_surveyHouse 50 = .ok (.invokevirtual 60, 3) := by decide +kernel
theorem dX5_surveyHouse_53 : decode cX5_surveyHouse 53 = .ok (.aload_n 0, 1) := by decide +kernel
theorem dX5_surveyHouse_54 : decode cX5_surveyHouse 54 = .ok (.getfield 33, 3) := by decide +kernel
theorem dX5_surveyHouse_57 : decode cX5_surveyHouse 57 = .ok (.iload_n 1, 1) := by decide +kernel
theorem dX5_surveyHouse_58 : decode cX5_surveyHouse 58 = .ok (.iload_n 2, 1) := by decide +kernel
theorem dX5_surveyHouse_59 : decode cX5_surveyHouse 59 = .ok (.ifCond .eq 7, 3) := by decide +kernel
theorem dX5_surveyHouse_62 : decode cX5_surveyHouse 62 = .ok (.iconst 1, 1) := by decide +kernel
theorem dX5_surveyHouse_63 : decode cX5_surveyHouse 63 = .ok (.goto 4, 3) := by decide +kernel
theorem dX5_surveyHouse_66 : decode cX5_surveyHouse 66 = .ok (.iconst 0, 1) := by decide +kernel
theorem dX5_surveyHouse_67 : decode cX5_surveyHouse 67 = .ok (.invokevirtual 60, 3) := by decide +kernel
theorem dX5_surveyHouse_70 : decode cX5_surveyHouse 70 = .ok (.aload_n 0, 1) := by decide +kernel
theorem dX5_surveyHouse_71 : decode cX5_surveyHouse 71 = .ok (.getfield 36, 3) := by decide +kernel
theorem dX5_surveyHouse_74 : decode cX5_surveyHouse 74 = .ok (.iload_n 1, 1) := by decide +kernel
theorem dX5_surveyHouse_75 : decode cX5_surveyHouse 75 = .ok (.iload_n 2, 1) := by decide +kernel
theorem dX5_surveyHouse_76 : decode cX5_surveyHouse 76 = .ok (.ifCond .eq 17, 3) := by decide +kernel
theorem dX5_surveyHouse_79 : decode cX5_surveyHouse 79 = .ok (.aload_n 0, 1) := by decide +kernel
theorem dX5_surveyHouse_80 : decode cX5_surveyHouse 80 = .ok (.getfield 12, 3) := by decide +kernel
theorem dX5_surveyHouse_83 : decode cX5_surveyHouse 83 = .ok (.getfield 77, 3) := by decide +kernel
theorem dX5_surveyHouse_86 : decode cX5_surveyHouse 86 = .ok (.iload_n 1, 1) := by decide +kernel
theorem dX5_surveyHouse_87 : decode cX5_surveyHouse 87 = .ok (.invokevirtual 71, 3) := by decide +kernel
theorem dX5_surveyHouse_90 : decode cX5_surveyHouse 90 = .ok (.goto 4, 3) := by decide +kernel
theorem dX5_surveyHouse_93 : decode cX5_surveyHouse 93 = .ok (.iconst 0, 1) := by decide +kernel
theorem dX5_surveyHouse_94 : decode cX5_surveyHouse 94 = .ok (.invokevirtual 60, 3) := by decide +kernel
theorem dX5_surveyHouse_97 : decode cX5_surveyHouse 97 = .ok (.iload_n 1, 1) := by decide +kernel
theorem dX5_surveyHouse_98 : decode cX5_surveyHouse 98 = .ok (.ifCond .le 12, 3) := by decide +kernel
theorem dX5_surveyHouse_101 : decode cX5_surveyHouse 101 = .ok (.aload_n 0, 1) := by decide +kernel
theorem dX5_surveyHouse_102 : decode cX5_surveyHouse 102 = .ok (.getfield 27, 3) := by decide +kernel
theorem dX5_surveyHouse_105 : decode cX5_surveyHouse 105 = .ok (.iload_n 3, 1) := by decide +kernel
theorem dX5_surveyHouse_106 : decode cX5_surveyHouse 106 = .ok (.iconst 1, 1) := by decide +kernel
theorem dX5_surveyHouse_107 : decode cX5_surveyHouse 107 = .ok (.invokevirtual 74, 3) := by decide +kernel
theorem dX5_surveyHouse_110 : decode cX5_surveyHouse 110 = .ok (.return_, 1) := by decide +kernel
set_option maxRecDepth 20000 in
theorem ggX5_findParent_X3_at : GoodIn wsX5_findParent wsX3_at := goodIn_r _ [12, 13, 40] (by decide +kernel) (by decide +kernel)
set_option maxRecDepth 20000 in
theorem gX5_findParent_X3_at : GoodIn wsX5_findParent (wsV RX5 71 RX3 yX3_at wsX3_at) := goodIn_app (goodIn_of _ (by decide +kernel)) ggX5_findParent_X3_at
set_option maxRecDepth 20000 in
theorem ggX5_findParent_X2_isBeginning : GoodIn wsX5_findParent wsX2_isBeginning := goodIn_r _ [17, 18, 19, 16, 20, 21, 22, 23] (by decide +kernel) (by decide +kernel)
set_option maxRecDepth 20000 in
theorem gX5_findParent_X2_isBeginning : GoodIn wsX5_findParent (va_wsS RX5 89 yX2_isBeginning wsX2_isBeginning) := goodIn_app (goodIn_of _ (by decide +kernel)) ggX5_findParent_X2_isBeginning
theorem dX5_findParent_0 : decode cX5_findParent 0 = .ok (.iload_n 1, 1) := by decide +kernel
theorem dX5_findParent_1 : decode cX5_findParent 1 = .ok (.iconst 1, 1) := by decide +kernel
theorem dX5_findParent_2 : decode cX5_findParent 2 = .ok (.isub, 1) := by decide +kernel
theorem dX5_findParent_3 : decode cX5_findParent 3 = .ok (.iconst 0, 1) := by decide +kernel
theorem dX5_findParent_4 : decode cX5_findParent 4 = .ok (.invokestatic 80, 3) := by decide +kernel
theorem dX5_findParent_7 : decode cX5_findParent 7 = .ok (.istore_n 2, 1) := by decide +kernel
theorem dX5_findParent_8 : decode cX5_findParent 8 = .ok (.iconst 0, 1) := by decide +kernel
theorem dX5_findParent_9 : decode cX5_findParent 9 = .ok (.istore_n 3, 1) := by decide +kernel
theorem dX5_findParent_10 : decode cX5_findParent 10 = .ok (.iload_n 3, 1) := by decide +kernel
theorem dX5_findParent_11 : decode cX5_findParent 11 = .ok (.bipush 8, 2) := by decide +kernel
theorem dX5_findParent_13 : decode cX5_findParent 13 = .ok (.if_icmp .ge 49, 3) := by decide +kernel
theorem dX5_findParent_16 : decode cX5_findParent 16 = .ok (.aload_n 0, 1) := by decide +kernel
theorem dX5_findParent_17 : decode cX5_findParent 17 = .ok (.getfield 12, 3) := by decide +kernel
theorem dX5_findParent_20 : decode cX5_findParent 20 = .ok (.getfield 86, 3) := by decide +kernel
theorem dX5_findParent_23 : decode cX5_findParent 23 = .ok (.iload_n 2, 1) := by decide +kernel
theorem dX5_findParent_24 : decode cX5_findParent 24 = .ok (.invokevirtual 71, 3) := by decide +kernel
theorem dX5_findParent_27 : decode cX5_findParent 27 = .ok (.aload_n 0, 1) := by decide +kernel
theorem dX5_findParent_28 : decode cX5_findParent 28 = .ok (.getfield 12, 3) := by decide +kernel
theorem dX5_findParent_31 : decode cX5_findParent 31 = .ok (.getfield 86, 3) := by decide +kernel
theorem dX5_findParent_34 : decode cX5_findParent 34 = .ok (.iload_n 1, 1) := by decide +kernel
theorem dX5_findParent_35 : decode cX5_findParent 35 = .ok (.invokevirtual 71, 3) := by decide +kernel
theorem dX5_findParent_38 : decode cX5_findParent 38 = .ok (.invokestatic 89, 3) := by decide +kernel
theorem dX5_findParent_41 : decode cX5_findParent 41 = .ok (.ifCond .eq 6, 3) := by decide +kernel
theorem dX5_findParent_44 : decode cX5_findParent 44 = .ok (.goto 18, 3) := by decide +kernel
theorem dX5_findParent_47 : decode cX5_findParent 47 = .ok (.aload_n 0, 1) := by decide +kernel
theorem dX5_findParent_48 : decode cX5_findParent 48 = .ok (.getfield 23, 3) := by decide +kernel
theorem dX5_findParent_51 : decode cX5_findParent 51 = .ok (.iload_n 2, 1) := by decide +kernel
theorem dX5_findParent_52 : decode cX5_findParent 52 = .ok (.invokevirtual 71, 3) := by decide +kernel
theorem dX5_findParent_55 : decode cX5_findParent 55 = .ok (.istore_n 2, 1) := by decide +kernel
theorem dX5_findParent_56 : decode cX5_findParent 56 = .ok (.iinc 3 1, 3) := by decide +kernel
theorem dX5_findParent_59 : decode cX5_findParent 59 = .ok (.goto (-49), 3) := by decide +kernel
theorem dX5_findParent_62 : decode cX5_findParent 62 = .ok (.iload_n 2, 1) := by decide +kernel
theorem dX5_findParent_63 : decode cX5_findParent 63 = .ok (.ireturn, 1) := by decide +kernel
set_option maxRecDepth 20000 in
theorem ggX5_canTakeName_X5_weightOf : GoodIn wsX5_canTakeName wsX5_weightOf := goodIn_r _ [5, 6, 7, 8, 9, 10, 11, 12, 13, 14, 15, 16, 17, 18, 19, 20, 21, 22, 23, 24, 25, 31, 32, 33, 34, 35, 36, 37, 38, 39, 40, 41, 42, 43, 44, 45, 46, 47] (by decide +kernel) (by decide +kernel)
set_option maxRecDepth 20000 in
theorem gX5_canTakeName_X5_weightOf : GoodIn wsX5_canTakeName (wsV RX5 95 RX5 yX5_weightOf wsX5_weightOf) := goodIn_app (goodIn_of _ (by decide +kernel)) ggX5_canTakeName_X5_weightOf
set_option maxRecDepth 20000 in
theorem ggX5_canTakeName_X5_names : GoodIn wsX5_canTakeName wsX5_names := goodIn_r _ [29, 30, 25, 20, 21, 22, 23, 24, 31, 32, 33, 34, 35, 36, 37, 38, 47] (by decide +kernel) (by decide +kernel)
set_option maxRecDepth 20000 in
theorem gX5_canTakeName_X5_names : GoodIn wsX5_canTakeName (wsV RX5 98 RX5 yX5_names wsX5_names) := goodIn_app (goodIn_of _ (by decide +kernel)) ggX5_canTakeName_X5_names
theorem dX5_canTakeName_0 : decode cX5_canTakeName 0 = .ok (.aload_n 0, 1) := by decide +kernel
theorem dX5_canTakeName_1 : decode cX5_canTakeName 1 = .ok (.iload_n 1, 1) := by decide +kernel
theorem dX5_canTakeName_2 : decode cX5_canTakeName 2 = .ok (.invokevirtual 95, 3) := by decide +kernel
theorem dX5_canTakeName_5 : decode cX5_canTakeName 5 = .ok (.iconst (-1), 1) := by decide +kernel
theorem dX5_canTakeName_6 : decode cX5_canTakeName 6 = .ok (.if_icmp .ne 16, 3) := by decide +kernel
theorem dX5_canTakeName_9 : decode cX5_canTakeName 9 = .ok (.aload_n 0, 1) := by decide +kernel
theorem dX5_canTakeName_10 : decode cX5_canTakeName 10 = .ok (.invokevirtual 98, 3) := by decide +kernel
theorem dX5_canTakeName_13 : decode cX5_canTakeName 13 = .ok (.bipush 24, 2) := by decide +kernel
theorem dX5_canTakeName_15 : decode cX5_canTakeName 15 = .ok (.if_icmp .ge 7, 3) := by decide +kernel
theorem dX5_canTakeName_18 : decode cX5_canTakeName 18 = .ok (.iconst 1, 1) := by decide +kernel
theorem dX5_canTakeName_19 : decode cX5_canTakeName 19 = .ok (.goto 4, 3) := by decide +kernel
theorem dX5_canTakeName_22 : decode cX5_canTakeName 22 = .ok (.iconst 0, 1) := by decide +kernel
theorem dX5_canTakeName_23 : decode cX5_canTakeName 23 = .ok (.ireturn, 1) := by decide +kernel
set_option maxRecDepth 20000 in
theorem ggX5_takeName_X2_length : GoodIn wsX5_takeName wsX2_length := goodIn_r _ [8] (by decide +kernel) (by decide +kernel)
set_option maxRecDepth 20000 in
theorem gX5_takeName_X2_length : GoodIn wsX5_takeName (va_wsS RX5 102 yX2_length wsX2_length) := goodIn_app (goodIn_of _ (by decide +kernel)) ggX5_takeName_X2_length
set_option maxRecDepth 20000 in
theorem ggX5_takeName_X5_knownLength : GoodIn wsX5_takeName wsX5_knownLength := goodIn_r _ [13, 1, 5, 6, 7, 8, 14, 15, 16, 17, 18, 19, 20, 21, 22, 23, 24, 25, 26, 27, 28, 29, 30, 31, 32, 33, 34, 35, 36, 37, 38, 39, 40, 107, 108, 109, 110, 111, 112, 113, 114, 115, 116, 117, 118, 119, 120, 121, 122, 123] (by decide +kernel) (by decide +kernel)
set_option maxRecDepth 20000 in
theorem gX5_takeName_X5_knownLength : GoodIn wsX5_takeName (wsV RX5 105 RX5 yX5_knownLength wsX5_knownLength) := goodIn_app (goodIn_of _ (by decide +kernel)) ggX5_takeName_X5_knownLength
set_option maxRecDepth 20000 in
theorem ggX5_takeName_X2_cut : GoodIn wsX5_takeName wsX2_cut := goodIn_r _ [16, 17, 18, 7, 19] (by decide +kernel) (by decide +kernel)
set_option maxRecDepth 20000 in
theorem gX5_takeName_X2_cut : GoodIn wsX5_takeName (va_wsS RX5 108 yX2_cut wsX2_cut) := goodIn_app (goodIn_of _ (by decide +kernel)) ggX5_takeName_X2_cut
set_option maxRecDepth 20000 in
theorem ggX5_takeName_X4_indexOf : GoodIn wsX5_takeName wsX4_indexOf := goodIn_r _ [44, 25, 26, 27, 28, 29, 23, 30, 31, 32, 33, 34, 35, 36, 115, 116, 117, 118, 119, 120, 121, 122, 123] (by decide +kernel) (by decide +kernel)
set_option maxRecDepth 20000 in
theorem gX5_takeName_X4_indexOf : GoodIn wsX5_takeName (wsV RX5 111 RX4 yX4_indexOf wsX4_indexOf) := goodIn_app (goodIn_of _ (by decide +kernel)) ggX5_takeName_X4_indexOf
set_option maxRecDepth 20000 in
theorem ggX5_takeName_X4_insertHouse : GoodIn wsX5_takeName wsX4_insertHouse := goodIn_r _ [48, 26, 25, 49, 27, 28, 29, 23, 30, 31, 32, 33, 34, 35, 36, 50, 51, 52, 53, 54, 55, 56, 57, 58, 59, 60, 61, 62, 63, 115, 116, 117, 118, 119, 120, 121, 122, 123] (by decide +kernel) (by decide +kernel)
set_option maxRecDepth 20000 in
theorem gX5_takeName_X4_insertHouse : GoodIn wsX5_takeName (wsV RX5 114 RX4 yX4_insertHouse wsX4_insertHouse) := goodIn_app (goodIn_of _ (by decide +kernel)) ggX5_takeName_X4_insertHouse
set_option maxRecDepth 20000 in
theorem ggX5_takeName_X3_put : GoodIn wsX5_takeName wsX3_put := goodIn_r _ [58, 36, 123] (by decide +kernel) (by decide +kernel)
set_option maxRecDepth 20000 in
theorem gX5_takeName_X3_put : GoodIn wsX5_takeName (wsV RX5 60 RX3 yX3_put wsX3_put) := goodIn_app (goodIn_of _ (by decide +kernel)) ggX5_takeName_X3_put
set_option maxRecDepth 20000 in
theorem ggX5_takeName_X5_survey : GoodIn wsX5_takeName wsX5_survey := goodIn_r _ [68, 1, 69, 70, 71, 72, 73, 74, 75, 76, 12, 77, 78, 79, 80, 81, 82, 83, 32, 33, 34, 35, 36, 84, 38, 7, 39, 40, 6, 8, 17, 18, 19, 64, 56, 57, 58, 85, 86, 87, 88, 89, 90, 4, 91, 92, 93, 23, 94, 49, 31, 95, 96, 97, 98, 54, 55, 107, 108, 109, 110, 111, 112, 113, 114, 115, 116, 117, 118, 119, 120, 121, 122, 123] (by decide +kernel) (by decide +kernel)
set_option maxRecDepth 20000 in
theorem gX5_takeName_X5_survey : GoodIn wsX5_takeName (wsV RX5 45 RX5 yX5_survey wsX5_survey) := goodIn_app (goodIn_of _ (by decide +kernel)) ggX5_takeName_X5_survey
set_option maxRecDepth 20000 in
theorem ggX5_takeName_X5_namesBefore : GoodIn wsX5_takeName wsX5_namesBefore := goodIn_r _ [102, 1, 82, 71, 103, 104, 105, 12, 106, 72, 83, 32, 33, 34, 35, 36, 107, 108, 109, 110, 111, 112, 113, 114, 115, 116, 117, 118, 119, 120, 121, 122, 123] (by decide +kernel) (by decide +kernel)
set_option maxRecDepth 20000 in
theorem gX5_takeName_X5_namesBefore : GoodIn wsX5_takeName (wsV RX5 123 RX5 yX5_namesBefore wsX5_namesBefore) := goodIn_app (goodIn_of _ (by decide +kernel)) ggX5_takeName_X5_namesBefore
theorem dX5_takeName_0 : decode cX5_takeName 0 = .ok (.iload_n 1, 1) := by decide +kernel
theorem dX5_takeName_1 : decode cX5_takeName 1 = .ok (.invokestatic 102, 3) := by decide +kernel
theorem dX5_takeName_4 : decode cX5_takeName 4 = .ok (.istore_n 3, 1) := by decide +kernel
theorem dX5_takeName_5 : decode cX5_takeName 5 = .ok (.aload_n 0, 1) := by decide +kernel
theorem dX5_takeName_6 : decode cX5_takeName 6 = .ok (.iload_n 1, 1) := by decide +kernel
theorem dX5_takeName_7 : decode cX5_takeName 7 = .ok (.invokevirtual 105, 3) := by decide +kernel
theorem dX5_takeName_10 : decode cX5_takeName 10 = .ok (.istore 4, 2) := by decide +kernel
theorem dX5_takeName_12 : decode cX5_takeName 12 = .ok (.iload_n 1, 1) := by decide +kernel
theorem dX5_takeName_13 : decode cX5_takeName 13 = .ok (.iload 4, 2) := by decide +kernel
theorem dX5_takeName_15 : decode cX5_takeName 15 = .ok (.invokestatic 108, 3) := by decide +kernel
theorem dX5_takeName_18 : decode cX5_takeName 18 = .ok (.istore 5, 2) := by decide +kernel
theorem dX5_takeName_20 : decode cX5_takeName 20 = .ok (.aload_n 0, 1) := by decide +kernel
theorem dX5_takeName_21 : decode cX5_takeName 21 = .ok (.getfield 12, 3) := by decide +kernel
theorem dX5_takeName_24 : decode cX5_takeName 24 = .ok (.iload 5, 2) := by decide +kernel
theorem dX5_takeName_26 : decode cX5_takeName 26 = .ok (.invokevirtual 111, 3) := by decide +kernel
theorem dX5_takeName_29 : decode cX5_takeName 29 = .ok (.iconst (-1), 1) := by decide +kernel
theorem dX5_takeName_30 : decode cX5_takeName 30 = .ok (.if_icmp .ne 25, 3) := by decide +kernel
theorem dX5_takeName_33 : decode cX5_takeName 33 = .ok (.aload_n 0, 1) := by decide +kernel
theorem dX5_takeName_34 : decode cX5_takeName 34 = .ok (.getfield 12, 3) := by decide +kernel
theorem dX5_takeName_37 : decode cX5_takeName 37 = .ok (.iload 5, 2) := by decide +kernel
theorem dX5_takeName_39 : decode cX5_takeName 39 = .ok (.invokevirtual 114, 3) := by decide +kernel
theorem dX5_takeName_42 : decode cX5_takeName 42 = .ok (.aload_n 0, 1) := by decide +kernel
theorem dX5_takeName_43 : decode cX5_takeName 43 = .ok (.getfield 12, 3) := by decide +kernel
theorem dX5_takeName_46 : decode cX5_takeName 46 = .ok (.dup, 1) := by decide +kernel
theorem dX5_takeName_47 : decode cX5_takeName 47 = .ok (.getfield 117, 3) := by decide +kernel
theorem dX5_takeName_50 : decode cX5_takeName 50 = .ok (.iconst 1, 1) := by decide +kernel
theorem dX5_takeName_51 : decode cX5_takeName 51 = .ok (.iadd, 1) := by decide +kernel
theorem dX5_takeName_52 : decode cX5_takeName 52 = .ok (.putfield 117, 3) := by decide +kernel
theorem dX5_takeName_55 : decode cX5_takeName 55 = .ok (.iload 4, 2) := by decide +kernel
theorem dX5_takeName_57 : decode cX5_takeName 57 = .ok (.iconst 1, 1) := by decide +kernel
theorem dX5_takeName_58 : decode cX5_takeName 58 = .ok (.iadd, 1) := by decide +kernel
theorem dX5_takeName_59 : decode cX5_takeName 59 = .ok (.istore 6, 2) := by decide +kernel
theorem dX5_takeName_61 : decode cX5_takeName 61 = .ok (.iload 6, 2) := by decide +kernel
theorem dX5_takeName_63 : decode cX5_takeName 63 = .ok (.iload_n 3, 1) := by decide +kernel
theorem dX5_takeName_64 : decode cX5_takeName 64 = .ok (.if_icmp .gt 35, 3) := by decide +kernel
theorem dX5_takeName_67 : decode cX5_takeName 67 = .ok (.aload_n 0, 1) := by decide +kernel
theorem dX5_takeName_68 : decode cX5_takeName 68 = .ok (.getfield 12, 3) := by decide +kernel
theorem dX5_takeName_71 : decode cX5_takeName 71 = .ok (.iload_n 1, 1) := by decide +kernel
theorem dX5_takeName_72 : decode cX5_takeName 72 = .ok (.iload 6, 2) := by decide +kernel
theorem dX5_takeName_74 : decode cX5_takeName 74 = .ok (.invokestatic 108, 3) := by decide +kernel
theorem dX5_takeName_77 : decode cX5_takeName 77 = .ok (.invokevirtual 114, 3) := by decide +kernel
theorem dX5_takeName_80 : decode cX5_takeName 80 = .ok (.aload_n 0, 1) := by decide +kernel
theorem dX5_takeName_81 : decode cX5_takeName 81 = .ok (.getfield 12, 3) := by decide +kernel
theorem dX5_takeName_84 : decode cX5_takeName 84 = .ok (.dup, 1) := by decide +kernel
theorem dX5_takeName_85 : decode cX5_takeName 85 = .ok (.getfield 120, 3) := by decide +kernel
theorem dX5_takeName_88 : decode cX5_takeName 88 = .ok (.iconst 1, 1) := by decide +kernel
theorem dX5_takeName_89 : decode cX5_takeName 89 = .ok (.iadd, 1) := by decide +kernel
theorem dX5_takeName_90 : decode cX5_takeName 90 = .ok (.putfield 120, 3) := by decide +kernel
theorem dX5_takeName_93 : decode cX5_takeName 93 = .ok (.iinc 6 1, 3) := by decide +kernel
theorem dX5_takeName_96 : decode cX5_takeName 96 = .ok (.goto (-35), 3) := by decide +kernel
theorem dX5_takeName_99 : decode cX5_takeName 99 = .ok (.aload_n 0, 1) := by decide +kernel
theorem dX5_takeName_100 : decode cX5_takeName 100 = .ok (.getfield 12, 3) := by decide +kernel
theorem dX5_takeName_103 : decode cX5_takeName 103 = .ok (.getfield 77, 3) := by decide +kernel
theorem dX5_takeName_106 : decode cX5_takeName 106 = .ok (.aload_n 0, 1) := by decide +kernel
theorem dX5_takeName_107 : decode cX5_takeName 107 = .ok (.getfield 12, 3) := by decide +kernel
theorem dX5_takeName_110 : decode cX5_takeName 110 = .ok (.iload_n 1, 1) := by decide +kernel
theorem dX5_takeName_111 : decode cX5_takeName 111 = .ok (.invokevirtual 111, 3) := by decide +kernel
theorem dX5_takeName_114 : decode cX5_takeName 114 = .ok (.iload_n 2, 1) := by decide +kernel
theorem dX5_takeName_115 : decode cX5_takeName 115 = .ok (.invokevirtual 60, 3) := by decide +kernel
theorem dX5_takeName_118 : decode cX5_takeName 118 = .ok (.aload_n 0, 1) := by decide +kernel
theorem dX5_takeName_119 : decode cX5_takeName 119 = .ok (.invokevirtual 45, 3) := by decide +kernel
theorem dX5_takeName_122 : decode cX5_takeName 122 = .ok (.aload_n 0, 1) := by decide +kernel
theorem dX5_takeName_123 : decode cX5_takeName 123 = .ok (.iload_n 1, 1) := by decide +kernel
theorem dX5_takeName_124 : decode cX5_takeName 124 = .ok (.invokevirtual 123, 3) := by decide +kernel
theorem dX5_takeName_127 : decode cX5_takeName 127 = .ok (.ireturn, 1) := by decide +kernel
set_option maxRecDepth 20000 in
theorem ggX5_dropName_X4_indexOf : GoodIn wsX5_dropName wsX4_indexOf := goodIn_r _ [10, 11, 12, 13, 14, 15, 9, 16, 17, 18, 19, 20, 21, 22, 92, 93, 94, 95, 96, 97, 98, 99, 100] (by decide +kernel) (by decide +kernel)
set_option maxRecDepth 20000 in
theorem gX5_dropName_X4_indexOf : GoodIn wsX5_dropName (wsV RX5 111 RX4 yX4_indexOf wsX4_indexOf) := goodIn_app (goodIn_of _ (by decide +kernel)) ggX5_dropName_X4_indexOf
set_option maxRecDepth 20000 in
theorem ggX5_dropName_X3_put : GoodIn wsX5_dropName wsX3_put := goodIn_r _ [26, 22, 100] (by decide +kernel) (by decide +kernel)
set_option maxRecDepth 20000 in
theorem gX5_dropName_X3_put : GoodIn wsX5_dropName (wsV RX5 60 RX3 yX3_put wsX3_put) := goodIn_app (goodIn_of _ (by decide +kernel)) ggX5_dropName_X3_put
set_option maxRecDepth 20000 in
theorem ggX5_dropName_X5_isIdle : GoodIn wsX5_dropName wsX5_isIdle := goodIn_r _ [31, 1, 5, 32, 33, 34, 9, 35, 36, 17, 18, 19, 20, 21, 22, 37, 84, 85, 86, 87, 88, 89, 90, 91, 92, 93, 94, 95, 96, 97, 98, 99, 100] (by decide +kernel) (by decide +kernel)
set_option maxRecDepth 20000 in
theorem gX5_dropName_X5_isIdle : GoodIn wsX5_dropName (wsV RX5 129 RX5 yX5_isIdle wsX5_isIdle) := goodIn_app (goodIn_of _ (by decide +kernel)) ggX5_dropName_X5_isIdle
set_option maxRecDepth 20000 in
theorem ggX5_dropName_X3_at : GoodIn wsX5_dropName wsX3_at := goodIn_r _ [21, 22, 100] (by decide +kernel) (by decide +kernel)
set_option maxRecDepth 20000 in
theorem gX5_dropName_X3_at : GoodIn wsX5_dropName (wsV RX5 71 RX3 yX3_at wsX3_at) := goodIn_app (goodIn_of _ (by decide +kernel)) ggX5_dropName_X3_at
set_option maxRecDepth 20000 in
theorem ggX5_dropName_X4_dropHouse : GoodIn wsX5_dropName wsX4_dropHouse := goodIn_r _ [41, 12, 11, 36, 42, 43, 44, 20, 45, 46, 18, 19, 21, 22, 47, 24, 25, 26, 92, 93, 94, 95, 96, 97, 98, 99, 100] (by decide +kernel) (by decide +kernel)
set_option maxRecDepth 20000 in
theorem gX5_dropName_X4_dropHouse : GoodIn wsX5_dropName (wsV RX5 132 RX4 yX4_dropHouse wsX4_dropHouse) := goodIn_app (goodIn_of _ (by decide +kernel)) ggX5_dropName_X4_dropHouse
set_option maxRecDepth 20000 in
theorem ggX5_dropName_X3_increase : GoodIn wsX5_dropName wsX3_increase := goodIn_r _ [51, 46, 18, 19, 20, 21, 22, 47, 24, 25, 26, 100] (by decide +kernel) (by decide +kernel)
set_option maxRecDepth 20000 in
theorem gX5_dropName_X3_increase : GoodIn wsX5_dropName (wsV RX5 74 RX3 yX3_increase wsX3_increase) := goodIn_app (goodIn_of _ (by decide +kernel)) ggX5_dropName_X3_increase
set_option maxRecDepth 20000 in
theorem ggX5_dropName_X5_survey : GoodIn wsX5_dropName wsX5_survey := goodIn_r _ [55, 1, 56, 4, 57, 58, 59, 60, 61, 62, 30, 63, 64, 65, 66, 67, 68, 37, 18, 19, 20, 21, 22, 69, 70, 71, 72, 73, 74, 75, 76, 77, 78, 23, 24, 25, 26, 79, 80, 81, 82, 5, 83, 3, 32, 33, 34, 9, 35, 36, 17, 48, 49, 50, 51, 46, 47, 84, 85, 86, 87, 88, 89, 90, 91, 92, 93, 94, 95, 96, 97, 98, 99, 100] (by decide +kernel) (by decide +kernel)
set_option maxRecDepth 20000 in
theorem gX5_dropName_X5_survey : GoodIn wsX5_dropName (wsV RX5 45 RX5 yX5_survey wsX5_survey) := goodIn_app (goodIn_of _ (by decide +kernel)) ggX5_dropName_X5_survey
theorem dX5_dropName_0 : decode cX5_dropName 0 = .ok (.aload_n 0, 1) := by decide +kernel
theorem dX5_dropName_1 : decode cX5_dropName 1 = .ok (.getfield 12, 3) := by decide +kernel
theorem dX5_dropName_4 : decode cX5_dropName 4 = .ok (.iload_n 1, 1) := by decide +kernel
theorem dX5_dropName_5 : decode cX5_dropName 5 = .ok (.invokevirtual 111, 3) := by decide +kernel
theorem dX5_dropName_8 : decode cX5_dropName 8 = .ok (.istore_n 2, 1) := by decide +kernel
theorem dX5_dropName_9 : decode cX5_dropName 9 = .ok (.aload_n 0, 1) := by decide +kernel
theorem dX5_dropName_10 : decode cX5_dropName 10 = .ok (.getfield 12, 3) := by decide +kernel
theorem dX5_dropName_13 : decode cX5_dropName 13 = .ok (.getfield 126, 3) := by decide +kernel
theorem dX5_dropName_16 : decode cX5_dropName 16 = .ok (.istore_n 3, 1) := by decide +kernel
theorem dX5_dropName_17 : decode cX5_dropName 17 = .ok (.aload_n 0, 1) := by decide +kernel
theorem dX5_dropName_18 : decode cX5_dropName 18 = .ok (.getfield 12, 3) := by decide +kernel
theorem dX5_dropName_21 : decode cX5_dropName 21 = .ok (.getfield 77, 3) := by decide +kernel
theorem dX5_dropName_24 : decode cX5_dropName 24 = .ok (.iload_n 2, 1) := by decide +kernel
theorem dX5_dropName_25 : decode cX5_dropName 25 = .ok (.iconst (-1), 1) := by decide +kernel
theorem dX5_dropName_26 : decode cX5_dropName 26 = .ok (.invokevirtual 60, 3) := by decide +kernel
theorem dX5_dropName_29 : decode cX5_dropName 29 = .ok (.iconst 0, 1) := by decide +kernel
theorem dX5_dropName_30 : decode cX5_dropName 30 = .ok (.istore 4, 2) := by decide +kernel
theorem dX5_dropName_32 : decode cX5_dropName 32 = .ok (.iload 4, 2) := by decide +kernel
theorem dX5_dropName_34 : decode cX5_dropName 34 = .ok (.bipush 8, 2) := by decide +kernel
theorem dX5_dropName_36 : decode cX5_dropName 36 = .ok (.if_icmp .ge 61, 3) := by decide +kernel
theorem dX5_dropName_39 : decode cX5_dropName 39 = .ok (.aload_n 0, 1) := by decide +kernel
theorem dX5_dropName_40 : decode cX5_dropName 40 = .ok (.iload_n 2, 1) := by decide +kernel
theorem dX5_dropName_41 : decode cX5_dropName 41 = .ok (.invokevirtual 129, 3) := by decide +kernel
theorem dX5_dropName_44 : decode cX5_dropName 44 = .ok (.ifCond .eq 53, 3) := by decide +kernel
theorem dX5_dropName_47 : decode cX5_dropName 47 = .ok (.aload_n 0, 1) := by decide +kernel
theorem dX5_dropName_48 : decode cX5_dropName 48 = .ok (.getfield 23, 3) := by decide +kernel
theorem dX5_dropName_51 : decode cX5_dropName 51 = .ok (.iload_n 2, 1) := by decide +kernel
theorem dX5_dropName_52 : decode cX5_dropName 52 = .ok (.invokevirtual 71, 3) := by decide +kernel
theorem dX5_dropName_55 : decode cX5_dropName 55 = .ok (.istore 5, 2) := by decide +kernel
theorem dX5_dropName_57 : decode cX5_dropName 57 = .ok (.aload_n 0, 1) := by decide +kernel
theorem dX5_dropName_58 : decode cX5_dropName 58 = .ok (.getfield 12, 3) := by decide +kernel
theorem dX5_dropName_61 : decode cX5_dropName 61 = .ok (.iload_n 2, 1) := by decide +kernel
theorem dX5_dropName_62 : decode cX5_dropName 62 = .ok (.invokevirtual 132, 3) := by decide +kernel
theorem dX5_dropName_65 : decode cX5_dropName 65 = .ok (.aload_n 0, 1) := by decide +kernel
theorem dX5_dropName_66 : decode cX5_dropName 66 = .ok (.getfield 12, 3) := by decide +kernel
theorem dX5_dropName_69 : decode cX5_dropName 69 = .ok (.dup, 1) := by decide +kernel
theorem dX5_dropName_70 : decode cX5_dropName 70 = .ok (.getfield 126, 3) := by decide +kernel
theorem dX5_dropName_73 : decode cX5_dropName 73 = .ok (.iconst 1, 1) := by decide +kernel
theorem dX5_dropName_74 : decode cX5_dropName 74 = .ok (.iadd, 1) := by decide +kernel
theorem dX5_dropName_75 : decode cX5_dropName 75 = .ok (.putfield 126, 3) := by decide +kernel
theorem dX5_dropName_78 : decode cX5_dropName 78 = .ok (.aload_n 0, 1) := by decide +kernel
theorem dX5_dropName_79 : decode cX5_dropName 79 = .ok (.getfield 27, 3) := by decide +kernel
theorem dX5_dropName_82 : decode cX5_dropName 82 = .ok (.iload 5, 2) := by decide +kernel
theorem dX5_dropName_84 : decode cX5_dropName 84 = .ok (.iconst (-1), 1) := by decide +kernel
theorem dX5_dropName_85 : decode cX5_dropName 85 = .ok (.invokevirtual 74, 3) := by decide +kernel
theorem dX5_dropName_88 : decode cX5_dropName 88 = .ok (.iload 5, 2) := by decide +kernel
theorem dX5_dropName_90 : decode cX5_dropName 90 = .ok (.istore_n 2, 1) := by decide +kernel
theorem dX5_dropName_91 : decode cX5_dropName 91 = .ok (.iinc 4 1, 3) := by decide +kernel
theorem dX5_dropName_94 : decode cX5_dropName 94 = .ok (.goto (-62), 3) := by decide +kernel
theorem dX5_dropName_97 : decode cX5_dropName 97 = .ok (.aload_n 0, 1) := by decide +kernel
theorem dX5_dropName_98 : decode cX5_dropName 98 = .ok (.invokevirtual 45, 3) := by decide +kernel
theorem dX5_dropName_101 : decode cX5_dropName 101 = .ok (.aload_n 0, 1) := by decide +kernel
theorem dX5_dropName_102 : decode cX5_dropName 102 = .ok (.getfield 12, 3) := by decide +kernel
theorem dX5_dropName_105 : decode cX5_dropName 105 = .ok (.getfield 126, 3) := by decide +kernel
theorem dX5_dropName_108 : decode cX5_dropName 108 = .ok (.iload_n 3, 1) := by decide +kernel
theorem dX5_dropName_109 : decode cX5_dropName 109 = .ok (.isub, 1) := by decide +kernel
theorem dX5_dropName_110 : decode cX5_dropName 110 = .ok (.ireturn, 1) := by decide +kernel
set_option maxRecDepth 20000 in
theorem ggX5_isIdle_X4_isHome : GoodIn wsX5_isIdle wsX4_isHome := goodIn_r _ [7, 8, 9, 10, 11, 12, 13, 14, 24, 25, 26, 27, 28, 29, 30, 31, 32] (by decide +kernel) (by decide +kernel)
set_option maxRecDepth 20000 in
theorem gX5_isIdle_X4_isHome : GoodIn wsX5_isIdle (wsV RX5 67 RX4 yX4_isHome wsX4_isHome) := goodIn_app (goodIn_of _ (by decide +kernel)) ggX5_isIdle_X4_isHome
set_option maxRecDepth 20000 in
theorem ggX5_isIdle_X3_at : GoodIn wsX5_isIdle wsX3_at := goodIn_r _ [13, 14, 32] (by decide +kernel) (by decide +kernel)
set_option maxRecDepth 20000 in
theorem gX5_isIdle_X3_at : GoodIn wsX5_isIdle (wsV RX5 71 RX3 yX3_at wsX3_at) := goodIn_app (goodIn_of _ (by decide +kernel)) ggX5_isIdle_X3_at
theorem dX5_isIdle_0 : decode cX5_isIdle 0 = .ok (.iload_n 1, 1) := by decide +kernel
theorem dX5_isIdle_1 : decode cX5_isIdle 1 = .ok (.ifCond .le 29, 3) := by decide +kernel
theorem dX5_isIdle_4 : decode cX5_isIdle 4 = .ok (.aload_n 0, 1) := by decide +kernel
theorem dX5_isIdle_5 : decode cX5_isIdle 5 = .ok (.getfield 12, 3) := by decide +kernel
theorem dX5_isIdle_8 : decode cX5_isIdle 8 = .ok (.iload_n 1, 1) := by decide +kernel
theorem dX5_isIdle_9 : decode cX5_isIdle 9 = .ok (.invokevirtual 67, 3) := by decide +kernel
theorem dX5_isIdle_12 : decode cX5_isIdle 12 = .ok (.ifCond .ne 18, 3) := by decide +kernel
theorem dX5_isIdle_15 : decode cX5_isIdle 15 = .ok (.aload_n 0, 1) := by decide +kernel
theorem dX5_isIdle_16 : decode cX5_isIdle 16 = .ok (.getfield 27, 3) := by decide +kernel
theorem dX5_isIdle_19 : decode cX5_isIdle 19 = .ok (.iload_n 1, 1) := by decide +kernel
theorem dX5_isIdle_20 : decode cX5_isIdle 20 = .ok (.invokevirtual 71, 3) := by decide +kernel
theorem dX5_isIdle_23 : decode cX5_isIdle 23 = .ok (.ifCond .ne 7, 3) := by decide +kernel
theorem dX5_isIdle_26 : decode cX5_isIdle 26 = .ok (.iconst 1, 1) := by decide +kernel
theorem dX5_isIdle_27 : decode cX5_isIdle 27 = .ok (.goto 4, 3) := by decide +kernel
theorem dX5_isIdle_30 : decode cX5_isIdle 30 = .ok (.iconst 0, 1) := by decide +kernel
theorem dX5_isIdle_31 : decode cX5_isIdle 31 = .ok (.ireturn, 1) := by decide +kernel
theorem dX5_changeLimit_0 : decode cX5_changeLimit 0 = .ok (.aload_n 0, 1) := by decide +kernel
theorem dX5_changeLimit_1 : decode cX5_changeLimit 1 = .ok (.getfield 12, 3) := by decide +kernel
theorem dX5_changeLimit_4 : decode cX5_changeLimit 4 = .ok (.getfield 135, 3) := by decide +kernel
theorem dX5_changeLimit_7 : decode cX5_changeLimit 7 = .ok (.istore_n 2, 1) := by decide +kernel
theorem dX5_changeLimit_8 : decode cX5_changeLimit 8 = .ok (.aload_n 0, 1) := by decide +kernel
theorem dX5_changeLimit_9 : decode cX5_changeLimit 9 = .ok (.getfield 12, 3) := by decide +kernel
theorem dX5_changeLimit_12 : decode cX5_changeLimit 12 = .ok (.iload_n 1, 1) := by decide +kernel
theorem dX5_changeLimit_13 : decode cX5_changeLimit 13 = .ok (.putfield 135, 3) := by decide +kernel
theorem dX5_changeLimit_16 : decode cX5_changeLimit 16 = .ok (.iload_n 2, 1) := by decide +kernel
theorem dX5_changeLimit_17 : decode cX5_changeLimit 17 = .ok (.ireturn, 1) := by decide +kernel
set_option maxRecDepth 20000 in
theorem ggX5_canMove_X4_indexOf : GoodIn wsX5_canMove wsX4_indexOf := goodIn_r _ [6, 7, 8, 9, 10, 11, 5, 12, 13, 14, 15, 16, 17, 18, 54, 55, 56, 57, 58, 59, 60, 61, 62] (by decide +kernel) (by decide +kernel)
set_option maxRecDepth 20000 in
theorem gX5_canMove_X4_indexOf : GoodIn wsX5_canMove (wsV RX5 111 RX4 yX4_indexOf wsX4_indexOf) := goodIn_app (goodIn_of _ (by decide +kernel)) ggX5_canMove_X4_indexOf
set_option maxRecDepth 20000 in
theorem ggX5_canMove_X5_reasonToStay : GoodIn wsX5_canMove wsX5_reasonToStay := goodIn_r _ [23, 1, 24, 25, 26, 27, 28, 5, 29, 30, 13, 14, 15, 16, 17, 18, 31, 32, 33, 34, 22, 35, 36, 37, 38, 39, 40, 41, 42, 43, 44, 45, 46, 47, 48, 49, 50, 51, 52, 53, 54, 55, 56, 57, 58, 59, 60, 61, 62] (by decide +kernel) (by decide +kernel)
set_option maxRecDepth 20000 in
theorem gX5_canMove_X5_reasonToStay : GoodIn wsX5_canMove (wsV RX5 138 RX5 yX5_reasonToStay wsX5_reasonToStay) := goodIn_app (goodIn_of _ (by decide +kernel)) ggX5_canMove_X5_reasonToStay
theorem dX5_canMove_0 : decode cX5_canMove 0 = .ok (.aload_n 0, 1) := by decide +kernel
theorem dX5_canMove_1 : decode cX5_canMove 1 = .ok (.getfield 12, 3) := by decide +kernel
theorem dX5_canMove_4 : decode cX5_canMove 4 = .ok (.iload_n 1, 1) := by decide +kernel
theorem dX5_canMove_5 : decode cX5_canMove 5 = .ok (.invokevirtual 111, 3) := by decide +kernel
theorem dX5_canMove_8 : decode cX5_canMove 8 = .ok (.istore_n 2, 1) := by decide +kernel
theorem dX5_canMove_9 : decode cX5_canMove 9 = .ok (.iload_n 2, 1) := by decide +kernel
theorem dX5_canMove_10 : decode cX5_canMove 10 = .ok (.iconst (-1), 1) := by decide +kernel
theorem dX5_canMove_11 : decode cX5_canMove 11 = .ok (.if_icmp .eq 15, 3) := by decide +kernel
theorem dX5_canMove_14 : decode cX5_canMove 14 = .ok (.aload_n 0, 1) := by decide +kernel
theorem dX5_canMove_15 : decode cX5_canMove 15 = .ok (.iload_n 2, 1) := by decide +kernel
theorem dX5_canMove_16 : decode cX5_canMove 16 = .ok (.invokevirtual 138, 3) := by decide +kernel
theorem dX5_canMove_19 : decode cX5_canMove 19 = .ok (.ifCond .ne 7, 3) := by decide +kernel
theorem dX5_canMove_22 : decode cX5_canMove 22 = .ok (.iconst 1, 1) := by decide +kernel
theorem dX5_canMove_23 : decode cX5_canMove 23 = .ok (.goto 4, 3) := by decide +kernel
theorem dX5_canMove_26 : decode cX5_canMove 26 = .ok (.iconst 0, 1) := by decide +kernel
theorem dX5_canMove_27 : decode cX5_canMove 27 = .ok (.ireturn, 1) := by decide +kernel
set_option maxRecDepth 20000 in
theorem ggX5_move_X4_indexOf : GoodIn wsX5_move wsX4_indexOf := goodIn_r _ [7, 8, 9, 10, 11, 12, 6, 13, 14, 15, 16, 17, 18, 19, 97, 98, 99, 100, 101, 102, 103, 104, 105] (by decide +kernel) (by decide +kernel)
set_option maxRecDepth 20000 in
theorem gX5_move_X4_indexOf : GoodIn wsX5_move (wsV RX5 111 RX4 yX4_indexOf wsX4_indexOf) := goodIn_app (goodIn_of _ (by decide +kernel)) ggX5_move_X4_indexOf
set_option maxRecDepth 20000 in
theorem ggX5_move_X5_labelBehindMove : GoodIn wsX5_move wsX5_labelBehindMove := goodIn_r _ [24, 25, 26, 27, 23, 28, 1, 29, 30, 31, 15, 16, 17, 18, 19, 32, 33, 34, 35, 89, 90, 91, 92, 93, 94, 95, 96, 97, 98, 99, 100, 101, 102, 103, 104, 105] (by decide +kernel) (by decide +kernel)
set_option maxRecDepth 20000 in
theorem gX5_move_X5_labelBehindMove : GoodIn wsX5_move (wsV RX5 141 RX5 yX5_labelBehindMove wsX5_labelBehindMove) := goodIn_app (goodIn_of _ (by decide +kernel)) ggX5_move_X5_labelBehindMove
set_option maxRecDepth 20000 in
theorem ggX5_move_X4_dropHouse : GoodIn wsX5_move wsX4_dropHouse := goodIn_r _ [39, 9, 8, 40, 41, 42, 43, 17, 44, 45, 15, 16, 18, 19, 46, 47, 48, 49, 97, 98, 99, 100, 101, 102, 103, 104, 105] (by decide +kernel) (by decide +kernel)
set_option maxRecDepth 20000 in
theorem gX5_move_X4_dropHouse : GoodIn wsX5_move (wsV RX5 132 RX4 yX4_dropHouse wsX4_dropHouse) := goodIn_app (goodIn_of _ (by decide +kernel)) ggX5_move_X4_dropHouse
set_option maxRecDepth 20000 in
theorem ggX5_move_X5_survey : GoodIn wsX5_move wsX5_survey := goodIn_r _ [53, 1, 54, 30, 55, 56, 57, 58, 59, 60, 23, 61, 62, 63, 64, 65, 29, 31, 15, 16, 17, 18, 19, 66, 67, 34, 68, 69, 33, 35, 70, 71, 72, 73, 47, 48, 49, 74, 75, 76, 77, 78, 79, 80, 81, 82, 83, 6, 84, 40, 14, 85, 86, 87, 88, 45, 46, 89, 90, 91, 92, 93, 94, 95, 96, 97, 98, 99, 100, 101, 102, 103, 104, 105] (by decide +kernel) (by decide +kernel)
set_option maxRecDepth 20000 in
theorem gX5_move_X5_survey : GoodIn wsX5_move (wsV RX5 45 RX5 yX5_survey wsX5_survey) := goodIn_app (goodIn_of _ (by decide +kernel)) ggX5_move_X5_survey
theorem dX5_move_0 : decode cX5_move 0 = .ok (.aload_n 0, 1) := by decide +kernel
theorem dX5_move_1 : decode cX5_move 1 = .ok (.getfield 12, 3) := by decide +kernel
theorem dX5_move_4 : decode cX5_move 4 = .ok (.iload_n 1, 1) := by decide +kernel
theorem dX5_move_5 : decode cX5_move 5 = .ok (.invokevirtual 111, 3) := by decide +kernel
theorem dX5_move_8 : decode cX5_move 8 = .ok (.istore_n 2, 1) := by decide +kernel
theorem dX5_move_9 : decode cX5_move 9 = .ok (.aload_n 0, 1) := by decide +kernel
theorem dX5_move_10 : decode cX5_move 10 = .ok (.iload_n 2, 1) := by decide +kernel
theorem dX5_move_11 : decode cX5_move 11 = .ok (.invokevirtual 141, 3) := by decide +kernel
theorem dX5_move_14 : decode cX5_move 14 = .ok (.istore_n 3, 1) := by decide +kernel
theorem dX5_move_15 : decode cX5_move 15 = .ok (.aload_n 0, 1) := by decide +kernel
theorem dX5_move_16 : decode cX5_move 16 = .ok (.getfield 12, 3) := by decide +kernel
theorem dX5_move_19 : decode cX5_move 19 = .ok (.iload_n 2, 1) := by decide +kernel
theorem dX5_move_20 : decode cX5_move 20 = .ok (.invokevirtual 132, 3) := by decide +kernel
theorem dX5_move_23 : decode cX5_move 23 = .ok (.aload_n 0, 1) := by decide +kernel
theorem dX5_move_24 : decode cX5_move 24 = .ok (.getfield 12, 3) := by decide +kernel
theorem dX5_move_27 : decode cX5_move 27 = .ok (.dup, 1) := by decide +kernel
theorem dX5_move_28 : decode cX5_move 28 = .ok (.getfield 144, 3) := by decide +kernel
theorem dX5_move_31 : decode cX5_move 31 = .ok (.iconst 1, 1) := by decide +kernel
theorem dX5_move_32 : decode cX5_move 32 = .ok (.iadd, 1) := by decide +kernel
theorem dX5_move_33 : decode cX5_move 33 = .ok (.putfield 144, 3) := by decide +kernel
theorem dX5_move_36 : decode cX5_move 36 = .ok (.aload_n 0, 1) := by decide +kernel
theorem dX5_move_37 : decode cX5_move 37 = .ok (.invokevirtual 45, 3) := by decide +kernel
theorem dX5_move_40 : decode cX5_move 40 = .ok (.iload_n 3, 1) := by decide +kernel
theorem dX5_move_41 : decode cX5_move 41 = .ok (.ireturn, 1) := by decide +kernel
set_option maxRecDepth 20000 in
theorem ggX5_liesWithinLabel_X4_indexOf : GoodIn wsX5_liesWithinLabel wsX4_indexOf := goodIn_r _ [6, 7, 8, 9, 10, 11, 5, 12, 13, 14, 15, 16, 17, 18, 41, 42, 43, 44, 45, 46, 47, 48, 49] (by decide +kernel) (by decide +kernel)
set_option maxRecDepth 20000 in
theorem gX5_liesWithinLabel_X4_indexOf : GoodIn wsX5_liesWithinLabel (wsV RX5 111 RX4 yX4_indexOf wsX4_indexOf) := goodIn_app (goodIn_of _ (by decide +kernel)) ggX5_liesWithinLabel_X4_indexOf
set_option maxRecDepth 20000 in
theorem ggX5_liesWithinLabel_X4_firstWith : GoodIn wsX5_liesWithinLabel wsX4_firstWith := goodIn_r _ [22, 7, 8, 9, 10, 11, 5, 12, 13, 14, 15, 16, 17, 18, 23, 24, 25, 26, 27, 28, 29, 30, 31, 32, 41, 42, 43, 44, 45, 46, 47, 48, 49] (by decide +kernel) (by decide +kernel)
set_option maxRecDepth 20000 in
theorem gX5_liesWithinLabel_X4_firstWith : GoodIn wsX5_liesWithinLabel (wsV RX5 147 RX4 yX4_firstWith wsX4_firstWith) := goodIn_app (goodIn_of _ (by decide +kernel)) ggX5_liesWithinLabel_X4_firstWith
theorem dX5_liesWithinLabel_0 : decode cX5_liesWithinLabel 0 = .ok (.aload_n 0, 1) := by decide +kernel
theorem dX5_liesWithinLabel_1 : decode cX5_liesWithinLabel 1 = .ok (.getfield 12, 3) := by decide +kernel
theorem dX5_liesWithinLabel_4 : decode cX5_liesWithinLabel 4 = .ok (.iload_n 1, 1) := by decide +kernel
theorem dX5_liesWithinLabel_5 : decode cX5_liesWithinLabel 5 = .ok (.invokevirtual 111, 3) := by decide +kernel
theorem dX5_liesWithinLabel_8 : decode cX5_liesWithinLabel 8 = .ok (.iconst (-1), 1) := by decide +kernel
theorem dX5_liesWithinLabel_9 : decode cX5_liesWithinLabel 9 = .ok (.if_icmp .ne 19, 3) := by decide +kernel
theorem dX5_liesWithinLabel_12 : decode cX5_liesWithinLabel 12 = .ok (.aload_n 0, 1) := by decide +kernel
theorem dX5_liesWithinLabel_13 : decode cX5_liesWithinLabel 13 = .ok (.getfield 12, 3) := by decide +kernel
theorem dX5_liesWithinLabel_16 : decode cX5_liesWithinLabel 16 = .ok (.iload_n 1, 1) := by decide +kernel
theorem dX5_liesWithinLabel_17 : decode cX5_liesWithinLabel 17 = .ok (.invokevirtual 147, 3) := by decide +kernel
theorem dX5_liesWithinLabel_20 : decode cX5_liesWithinLabel 20 = .ok (.iconst (-1), 1) := by decide +kernel
theorem dX5_liesWithinLabel_21 : decode cX5_liesWithinLabel 21 = .ok (.if_icmp .eq 7, 3) := by decide +kernel
theorem dX5_liesWithinLabel_24 : decode cX5_liesWithinLabel 24 = .ok (.iconst 1, 1) := by decide +kernel
theorem dX5_liesWithinLabel_25 : decode cX5_liesWithinLabel 25 = .ok (.goto 4, 3) := by decide +kernel
theorem dX5_liesWithinLabel_28 : decode cX5_liesWithinLabel 28 = .ok (.iconst 0, 1) := by decide +kernel
theorem dX5_liesWithinLabel_29 : decode cX5_liesWithinLabel 29 = .ok (.ireturn, 1) := by decide +kernel
set_option maxRecDepth 20000 in
theorem ggX5_part_X4_insertHouse : GoodIn wsX5_part wsX4_insertHouse := goodIn_r _ [7, 8, 9, 10, 11, 12, 13, 6, 14, 15, 16, 17, 18, 19, 20, 21, 22, 23, 24, 25, 26, 27, 28, 29, 30, 31, 32, 33, 34, 102, 103, 104, 105, 106, 107, 108, 109, 110] (by decide +kernel) (by decide +kernel)
set_option maxRecDepth 20000 in
theorem gX5_part_X4_insertHouse : GoodIn wsX5_part (wsV RX5 114 RX4 yX4_insertHouse wsX4_insertHouse) := goodIn_app (goodIn_of _ (by decide +kernel)) ggX5_part_X4_insertHouse
set_option maxRecDepth 20000 in
theorem ggX5_part_X5_survey : GoodIn wsX5_part wsX5_survey := goodIn_r _ [39, 1, 40, 41, 42, 43, 44, 45, 46, 47, 38, 48, 49, 50, 51, 52, 53, 54, 16, 17, 18, 19, 20, 55, 56, 57, 58, 59, 60, 61, 62, 63, 64, 65, 27, 28, 29, 66, 67, 68, 69, 70, 71, 72, 73, 74, 75, 6, 76, 10, 15, 77, 78, 79, 80, 25, 26, 94, 95, 96, 97, 98, 99, 100, 101, 102, 103, 104, 105, 106, 107, 108, 109, 110] (by decide +kernel) (by decide +kernel)
set_option maxRecDepth 20000 in
theorem gX5_part_X5_survey : GoodIn wsX5_part (wsV RX5 45 RX5 yX5_survey wsX5_survey) := goodIn_app (goodIn_of _ (by decide +kernel)) ggX5_part_X5_survey
set_option maxRecDepth 20000 in
theorem ggX5_part_X4_indexOf : GoodIn wsX5_part wsX4_indexOf := goodIn_r _ [84, 9, 8, 11, 12, 13, 6, 14, 15, 16, 17, 18, 19, 20, 102, 103, 104, 105, 106, 107, 108, 109, 110] (by decide +kernel) (by decide +kernel)
set_option maxRecDepth 20000 in
theorem gX5_part_X4_indexOf : GoodIn wsX5_part (wsV RX5 111 RX4 yX4_indexOf wsX4_indexOf) := goodIn_app (goodIn_of _ (by decide +kernel)) ggX5_part_X4_indexOf
set_option maxRecDepth 20000 in
theorem ggX5_part_X5_labelLength : GoodIn wsX5_part wsX5_labelLength := goodIn_r _ [88, 89, 90, 91, 38, 92, 1, 53, 41, 54, 16, 17, 18, 19, 20, 93, 60, 57, 61, 94, 95, 96, 97, 98, 99, 100, 101, 102, 103, 104, 105, 106, 107, 108, 109, 110] (by decide +kernel) (by decide +kernel)
set_option maxRecDepth 20000 in
theorem gX5_part_X5_labelLength : GoodIn wsX5_part (wsV RX5 150 RX5 yX5_labelLength wsX5_labelLength) := goodIn_app (goodIn_of _ (by decide +kernel)) ggX5_part_X5_labelLength
theorem dX5_part_0 : decode cX5_part 0 = .ok (.aload_n 0, 1) := by decide +kernel
theorem dX5_part_1 : decode cX5_part 1 = .ok (.getfield 12, 3) := by decide +kernel
theorem dX5_part_4 : decode cX5_part 4 = .ok (.iload_n 1, 1) := by decide +kernel
theorem dX5_part_5 : decode cX5_part 5 = .ok (.invokevirtual 114, 3) := by decide +kernel
theorem dX5_part_8 : decode cX5_part 8 = .ok (.aload_n 0, 1) := by decide +kernel
theorem dX5_part_9 : decode cX5_part 9 = .ok (.getfield 12, 3) := by decide +kernel
theorem dX5_part_12 : decode cX5_part 12 = .ok (.dup, 1) := by decide +kernel
theorem dX5_part_13 : decode cX5_part 13 = .ok (.getfield 117, 3) := by decide +kernel
theorem dX5_part_16 : decode cX5_part 16 = .ok (.iconst 1, 1) := by decide +kernel
theorem dX5_part_17 : decode cX5_part 17 = .ok (.iadd, 1) := by decide +kernel
theorem dX5_part_18 : decode cX5_part 18 = .ok (.putfield 117, 3) := by decide +kernel
theorem dX5_part_21 : decode cX5_part 21 = .ok (.aload_n 0, 1) := by decide +kernel
theorem dX5_part_22 : decode cX5_part 22 = .ok (.invokevirtual 45, 3) := by decide +kernel
theorem dX5_part_25 : decode cX5_part 25 = .ok (.aload_n 0, 1) := by decide +kernel
theorem dX5_part_26 : decode cX5_part 26 = .ok (.aload_n 0, 1) := by decide +kernel
theorem dX5_part_27 : decode cX5_part 27 = .ok (.getfield 12, 3) := by decide +kernel
theorem dX5_part_30 : decode cX5_part 30 = .ok (.iload_n 1, 1) := by decide +kernel
theorem dX5_part_31 : decode cX5_part 31 = .ok (.invokevirtual 111, 3) := by decide +kernel
theorem dX5_part_34 : decode cX5_part 34 = .ok (.iconst 1, 1) := by decide +kernel
theorem dX5_part_35 : decode cX5_part 35 = .ok (.iadd, 1) := by decide +kernel
theorem dX5_part_36 : decode cX5_part 36 = .ok (.invokevirtual 150, 3) := by decide +kernel
theorem dX5_part_39 : decode cX5_part 39 = .ok (.ireturn, 1) := by decide +kernel
set_option maxRecDepth 20000 in
theorem ggX5_moveAll_X5_reasonToStay : GoodIn wsX5_moveAll wsX5_reasonToStay := goodIn_r _ [10, 1, 11, 12, 13, 14, 15, 16, 17, 18, 19, 20, 21, 22, 23, 24, 25, 26, 27, 28, 9, 29, 30, 31, 32, 33, 34, 4, 35, 36, 37, 38, 88, 89, 90, 91, 92, 93, 94, 95, 96, 97, 98, 99, 100, 101, 102, 103, 104] (by decide +kernel) (by decide +kernel)
set_option maxRecDepth 20000 in
theorem gX5_moveAll_X5_reasonToStay : GoodIn wsX5_moveAll (wsV RX5 138 RX5 yX5_reasonToStay wsX5_reasonToStay) := goodIn_app (goodIn_of _ (by decide +kernel)) ggX5_moveAll_X5_reasonToStay
set_option maxRecDepth 20000 in
theorem ggX5_moveAll_X3_put : GoodIn wsX5_moveAll wsX3_put := goodIn_r _ [42, 24, 104] (by decide +kernel) (by decide +kernel)
set_option maxRecDepth 20000 in
theorem gX5_moveAll_X3_put : GoodIn wsX5_moveAll (wsV RX5 60 RX3 yX3_put wsX3_put) := goodIn_app (goodIn_of _ (by decide +kernel)) ggX5_moveAll_X3_put
set_option maxRecDepth 20000 in
theorem ggX5_moveAll_X3_at : GoodIn wsX5_moveAll wsX3_at := goodIn_r _ [23, 24, 104] (by decide +kernel) (by decide +kernel)
set_option maxRecDepth 20000 in
theorem gX5_moveAll_X3_at : GoodIn wsX5_moveAll (wsV RX5 71 RX3 yX3_at wsX3_at) := goodIn_app (goodIn_of _ (by decide +kernel)) ggX5_moveAll_X3_at
set_option maxRecDepth 20000 in
theorem ggX5_moveAll_X4_dropMarked : GoodIn wsX5_moveAll wsX4_dropMarked := goodIn_r _ [46, 47, 48, 18, 19, 20, 21, 22, 23, 24, 49, 50, 51, 16, 52, 53, 40, 41, 42, 96, 97, 98, 99, 100, 101, 102, 103, 104] (by decide +kernel) (by decide +kernel)
set_option maxRecDepth 20000 in
theorem gX5_moveAll_X4_dropMarked : GoodIn wsX5_moveAll (wsV RX5 153 RX4 yX4_dropMarked wsX4_dropMarked) := goodIn_app (goodIn_of _ (by decide +kernel)) ggX5_moveAll_X4_dropMarked
set_option maxRecDepth 20000 in
theorem ggX5_moveAll_X5_survey : GoodIn wsX5_moveAll wsX5_survey := goodIn_r _ [57, 1, 2, 4, 58, 59, 60, 61, 62, 63, 9, 64, 65, 66, 67, 68, 34, 25, 20, 21, 22, 23, 24, 69, 70, 37, 71, 72, 36, 38, 73, 74, 75, 39, 40, 41, 42, 76, 77, 78, 79, 11, 80, 81, 13, 14, 15, 16, 17, 18, 19, 82, 83, 84, 85, 86, 87, 88, 89, 90, 91, 92, 93, 94, 95, 96, 97, 98, 99, 100, 101, 102, 103, 104] (by decide +kernel) (by decide +kernel)
set_option maxRecDepth 20000 in
theorem gX5_moveAll_X5_survey : GoodIn wsX5_moveAll (wsV RX5 45 RX5 yX5_survey wsX5_survey) := goodIn_app (goodIn_of _ (by decide +kernel)) ggX5_moveAll_X5_survey
theorem dX5_moveAll_0 : decode cX5_moveAll 0 = .ok (.iconst 0, 1) := by decide +kernel
theorem dX5_moveAll_1 : decode cX5_moveAll 1 = .ok (.istore_n 1, 1) := by decide +kernel
theorem dX5_moveAll_2 : decode cX5_moveAll 2 = .ok (.iload_n 1, 1) := by decide +kernel
theorem dX5_moveAll_3 : decode cX5_moveAll 3 = .ok (.aload_n 0, 1) := by decide +kernel
theorem dX5_moveAll_4 : decode cX5_moveAll 4 = .ok (.getfield 12, 3) := by decide +kernel
theorem dX5_moveAll_7 : decode cX5_moveAll 7 = .ok (.getfield 52, 3) := by decide +kernel
theorem dX5_moveAll_10 : decode cX5_moveAll 10 = .ok (.if_icmp .ge 62, 3) := by decide +kernel
theorem dX5_moveAll_13 : decode cX5_moveAll 13 = .ok (.aload_n 0, 1) := by decide +kernel
theorem dX5_moveAll_14 : decode cX5_moveAll 14 = .ok (.iload_n 1, 1) := by decide +kernel
theorem dX5_moveAll_15 : decode cX5_moveAll 15 = .ok (.invokevirtual 138, 3) := by decide +kernel
theorem dX5_moveAll_18 : decode cX5_moveAll 18 = .ok (.ifCond .ne 7, 3) := by decide +kernel
theorem dX5_moveAll_21 : decode cX5_moveAll 21 = .ok (.iconst 1, 1) := by decide +kernel
theorem dX5_moveAll_22 : decode cX5_moveAll 22 = .ok (.goto 4, 3) := by decide +kernel
theorem dX5_moveAll_25 : decode cX5_moveAll 25 = .ok (.iconst 0, 1) := by decide +kernel
theorem dX5_moveAll_26 : decode cX5_moveAll 26 = .ok (.istore_n 2, 1) := by decide +kernel
theorem dX5_moveAll_27 : decode cX5_moveAll 27 = .ok (.aload_n 0, 1) := by decide +kernel
theorem dX5_moveAll_28 : decode cX5_moveAll 28 = .ok (.getfield 42, 3) := by decide +kernel
theorem dX5_moveAll_31 : decode cX5_moveAll 31 = .ok (.iload_n 1, 1) := by decide +kernel
theorem dX5_moveAll_32 : decode cX5_moveAll 32 = .ok (.iload_n 2, 1) := by decide +kernel
theorem dX5_moveAll_33 : decode cX5_moveAll 33 = .ok (.ifCond .eq 7, 3) := by decide +kernel
theorem dX5_moveAll_36 : decode cX5_moveAll 36 = .ok (.iconst 1, 1) := by decide +kernel
theorem dX5_moveAll_37 : decode cX5_moveAll 37 = .ok (.goto 4, 3) := by decide +kernel
theorem dX5_moveAll_40 : decode cX5_moveAll 40 = .ok (.iconst 0, 1) := by decide +kernel
theorem dX5_moveAll_41 : decode cX5_moveAll 41 = .ok (.invokevirtual 60, 3) := by decide +kernel
theorem dX5_moveAll_44 : decode cX5_moveAll 44 = .ok (.iload_n 2, 1) := by decide +kernel
theorem dX5_moveAll_45 : decode cX5_moveAll 45 = .ok (.ifCond .eq 21, 3) := by decide +kernel
theorem dX5_moveAll_48 : decode cX5_moveAll 48 = .ok (.aload_n 0, 1) := by decide +kernel
theorem dX5_moveAll_49 : decode cX5_moveAll 49 = .ok (.getfield 23, 3) := by decide +kernel
theorem dX5_moveAll_52 : decode cX5_moveAll 52 = .ok (.iload_n 1, 1) := by decide +kernel
theorem dX5_moveAll_53 : decode cX5_moveAll 53 = .ok (.iconst 1, 1) := by decide +kernel
theorem dX5_moveAll_54 : decode cX5_moveAll 54 = .ok (.iadd, 1) := by decide +kernel
theorem dX5_moveAll_55 : decode cX5_moveAll 55 = .ok (.aload_n 0, 1) := by decide +kernel
theorem dX5_moveAll_56 : decode cX5_moveAll 56 = .ok (.getfield 23, 3) := by decide +kernel
theorem dX5_moveAll_59 : decode cX5_moveAll 59 = .ok (.iload_n 1, 1) := by decide +kernel
theorem dX5_moveAll_60 : decode cX5_moveAll 60 = .ok (.invokevirtual 71, 3) := by decide +kernel
theorem dX5_moveAll_63 : decode cX5_moveAll 63 = .ok (.invokevirtual 60, 3) := by decide +kernel
theorem dX5_moveAll_66 : decode cX5_moveAll 66 = .ok (.iinc 1 1, 3) := by decide +kernel
theorem dX5_moveAll_69 : decode cX5_moveAll 69 = .ok (.goto (-67), 3) := by decide +kernel
theorem dX5_moveAll_72 : decode cX5_moveAll 72 = .ok (.aload_n 0, 1) := by decide +kernel
theorem dX5_moveAll_73 : decode cX5_moveAll 73 = .ok (.getfield 12, 3) := by decide +kernel
theorem dX5_moveAll_76 : decode cX5_moveAll 76 = .ok (.aload_n 0, 1) := by decide +kernel
theorem dX5_moveAll_77 : decode cX5_moveAll 77 = .ok (.getfield 42, 3) := by decide +kernel
theorem dX5_moveAll_80 : decode cX5_moveAll 80 = .ok (.invokevirtual 153, 3) := by decide +kernel
theorem dX5_moveAll_83 : decode cX5_moveAll 83 = .ok (.istore_n 1, 1) := by decide +kernel
theorem dX5_moveAll_84 : decode cX5_moveAll 84 = .ok (.aload_n 0, 1) := by decide +kernel
theorem dX5_moveAll_85 : decode cX5_moveAll 85 = .ok (.getfield 12, 3) := by decide +kernel
theorem dX5_moveAll_88 : decode cX5_moveAll 88 = .ok (.dup, 1) := by decide +kernel
theorem dX5_moveAll_89 : decode cX5_moveAll 89 = .ok (.getfield 144, 3) := by decide +kernel
theorem dX5_moveAll_92 : decode cX5_moveAll 92 = .ok (.iload_n 1, 1) := by decide +kernel
theorem dX5_moveAll_93 : decode cX5_moveAll 93 = .ok (.iadd, 1) := by decide +kernel
theorem dX5_moveAll_94 : decode cX5_moveAll 94 = .ok (.putfield 144, 3) := by decide +kernel
theorem dX5_moveAll_97 : decode cX5_moveAll 97 = .ok (.aload_n 0, 1) := by decide +kernel
theorem dX5_moveAll_98 : decode cX5_moveAll 98 = .ok (.invokevirtual 45, 3) := by decide +kernel
theorem dX5_moveAll_101 : decode cX5_moveAll 101 = .ok (.iload_n 1, 1) := by decide +kernel
theorem dX5_moveAll_102 : decode cX5_moveAll 102 = .ok (.ireturn, 1) := by decide +kernel
set_option maxRecDepth 20000 in
theorem ggX5_partAll_X5_labelLetters : GoodIn wsX5_partAll wsX5_labelLetters := goodIn_r _ [8, 1, 2, 9, 10, 11, 7, 12, 13, 14, 15, 16, 17, 18, 19, 20, 21, 22, 23, 24, 25, 26, 27, 28, 88, 89, 90, 91, 92, 93, 94, 95, 96, 97, 98, 99, 100, 101, 102, 103, 104] (by decide +kernel) (by decide +kernel)
set_option maxRecDepth 20000 in
theorem gX5_partAll_X5_labelLetters : GoodIn wsX5_partAll (wsV RX5 157 RX5 yX5_labelLetters wsX5_labelLetters) := goodIn_app (goodIn_of _ (by decide +kernel)) ggX5_partAll_X5_labelLetters
set_option maxRecDepth 20000 in
theorem ggX5_partAll_X5_writeParted : GoodIn wsX5_partAll wsX5_writeParted := goodIn_r _ [32, 1, 17, 33, 19, 20, 21, 22, 23, 24, 25, 26, 27, 28, 9, 10, 11, 7, 12, 13, 14, 15, 16, 18, 34, 35, 36, 37, 38, 39, 40, 41, 42, 43, 44, 45, 46, 47, 48, 49, 50, 88, 89, 90, 91, 92, 93, 94, 95, 96, 97, 98, 99, 100, 101, 102, 103, 104] (by decide +kernel) (by decide +kernel)
set_option maxRecDepth 20000 in
theorem gX5_partAll_X5_writeParted : GoodIn wsX5_partAll (wsV RX5 160 RX5 yX5_writeParted wsX5_writeParted) := goodIn_app (goodIn_of _ (by decide +kernel)) ggX5_partAll_X5_writeParted
set_option maxRecDepth 20000 in
theorem ggX5_partAll_X5_survey : GoodIn wsX5_partAll wsX5_survey := goodIn_r _ [54, 1, 2, 18, 55, 56, 57, 58, 59, 60, 7, 61, 62, 63, 64, 65, 17, 19, 20, 21, 22, 23, 24, 66, 67, 27, 68, 69, 26, 28, 48, 49, 50, 70, 42, 43, 44, 71, 72, 73, 74, 75, 76, 33, 77, 78, 79, 37, 80, 40, 81, 82, 83, 84, 85, 86, 87, 88, 89, 90, 91, 92, 93, 94, 95, 96, 97, 98, 99, 100, 101, 102, 103, 104] (by decide +kernel) (by decide +kernel)
set_option maxRecDepth 20000 in
theorem gX5_partAll_X5_survey : GoodIn wsX5_partAll (wsV RX5 45 RX5 yX5_survey wsX5_survey) := goodIn_app (goodIn_of _ (by decide +kernel)) ggX5_partAll_X5_survey
theorem dX5_partAll_0 : decode cX5_partAll 0 = .ok (.aload_n 0, 1) := by decide +kernel
theorem dX5_partAll_1 : decode cX5_partAll 1 = .ok (.invokevirtual 157, 3) := by decide +kernel
theorem dX5_partAll_4 : decode cX5_partAll 4 = .ok (.aload_n 0, 1) := by decide +kernel
theorem dX5_partAll_5 : decode cX5_partAll 5 = .ok (.getfield 12, 3) := by decide +kernel
theorem dX5_partAll_8 : decode cX5_partAll 8 = .ok (.getfield 52, 3) := by decide +kernel
theorem dX5_partAll_11 : decode cX5_partAll 11 = .ok (.iconst 1, 1) := by decide +kernel
theorem dX5_partAll_12 : decode cX5_partAll 12 = .ok (.isub, 1) := by decide +kernel
theorem dX5_partAll_13 : decode cX5_partAll 13 = .ok (.isub, 1) := by decide +kernel
theorem dX5_partAll_14 : decode cX5_partAll 14 = .ok (.istore_n 1, 1) := by decide +kernel
theorem dX5_partAll_15 : decode cX5_partAll 15 = .ok (.aload_n 0, 1) := by decide +kernel
theorem dX5_partAll_16 : decode cX5_partAll 16 = .ok (.getfield 12, 3) := by decide +kernel
theorem dX5_partAll_19 : decode cX5_partAll 19 = .ok (.getfield 52, 3) := by decide +kernel
theorem dX5_partAll_22 : decode cX5_partAll 22 = .ok (.iload_n 1, 1) := by decide +kernel
theorem dX5_partAll_23 : decode cX5_partAll 23 = .ok (.iadd, 1) := by decide +kernel
theorem dX5_partAll_24 : decode cX5_partAll 24 = .ok (.istore_n 2, 1) := by decide +kernel
theorem dX5_partAll_25 : decode cX5_partAll 25 = .ok (.aload_n 0, 1) := by decide +kernel
theorem dX5_partAll_26 : decode cX5_partAll 26 = .ok (.getfield 12, 3) := by decide +kernel
theorem dX5_partAll_29 : decode cX5_partAll 29 = .ok (.getfield 52, 3) := by decide +kernel
theorem dX5_partAll_32 : decode cX5_partAll 32 = .ok (.iconst 1, 1) := by decide +kernel
theorem dX5_partAll_33 : decode cX5_partAll 33 = .ok (.isub, 1) := by decide +kernel
theorem dX5_partAll_34 : decode cX5_partAll 34 = .ok (.istore_n 3, 1) := by decide +kernel
theorem dX5_partAll_35 : decode cX5_partAll 35 = .ok (.iload_n 3, 1) := by decide +kernel
theorem dX5_partAll_36 : decode cX5_partAll 36 = .ok (.ifCond .le 16, 3) := by decide +kernel
theorem dX5_partAll_39 : decode cX5_partAll 39 = .ok (.aload_n 0, 1) := by decide +kernel
theorem dX5_partAll_40 : decode cX5_partAll 40 = .ok (.iload_n 3, 1) := by decide +kernel
theorem dX5_partAll_41 : decode cX5_partAll 41 = .ok (.iload_n 2, 1) := by decide +kernel
theorem dX5_partAll_42 : decode cX5_partAll 42 = .ok (.invokevirtual 160, 3) := by decide +kernel
theorem dX5_partAll_45 : decode cX5_partAll 45 = .ok (.istore_n 2, 1) := by decide +kernel
theorem dX5_partAll_46 : decode cX5_partAll 46 = .ok (.iinc 3 (-1), 3) := by decide +kernel
theorem dX5_partAll_49 : decode cX5_partAll 49 = .ok (.goto (-14), 3) := by decide +kernel
theorem dX5_partAll_52 : decode cX5_partAll 52 = .ok (.aload_n 0, 1) := by decide +kernel
theorem dX5_partAll_53 : decode cX5_partAll 53 = .ok (.getfield 12, 3) := by decide +kernel
theorem dX5_partAll_56 : decode cX5_partAll 56 = .ok (.dup, 1) := by decide +kernel
theorem dX5_partAll_57 : decode cX5_partAll 57 = .ok (.getfield 52, 3) := by decide +kernel
theorem dX5_partAll_60 : decode cX5_partAll 60 = .ok (.iload_n 1, 1) := by decide +kernel
theorem dX5_partAll_61 : decode cX5_partAll 61 = .ok (.iadd, 1) := by decide +kernel
theorem dX5_partAll_62 : decode cX5_partAll 62 = .ok (.putfield 52, 3) := by decide +kernel
theorem dX5_partAll_65 : decode cX5_partAll 65 = .ok (.aload_n 0, 1) := by decide +kernel
theorem dX5_partAll_66 : decode cX5_partAll 66 = .ok (.getfield 12, 3) := by decide +kernel
theorem dX5_partAll_69 : decode cX5_partAll 69 = .ok (.dup, 1) := by decide +kernel
theorem dX5_partAll_70 : decode cX5_partAll 70 = .ok (.getfield 117, 3) := by decide +kernel
theorem dX5_partAll_73 : decode cX5_partAll 73 = .ok (.iload_n 1, 1) := by decide +kernel
theorem dX5_partAll_74 : decode cX5_partAll 74 = .ok (.iadd, 1) := by decide +kernel
theorem dX5_partAll_75 : decode cX5_partAll 75 = .ok (.putfield 117, 3) := by decide +kernel
theorem dX5_partAll_78 : decode cX5_partAll 78 = .ok (.aload_n 0, 1) := by decide +kernel
theorem dX5_partAll_79 : decode cX5_partAll 79 = .ok (.invokevirtual 45, 3) := by decide +kernel
theorem dX5_partAll_82 : decode cX5_partAll 82 = .ok (.iload_n 1, 1) := by decide +kernel
theorem dX5_partAll_83 : decode cX5_partAll 83 = .ok (.ireturn, 1) := by decide +kernel
set_option maxRecDepth 20000 in
theorem ggX5_writeParted_X3_at : GoodIn wsX5_writeParted wsX3_at := goodIn_r _ [8, 9, 57] (by decide +kernel) (by decide +kernel)
set_option maxRecDepth 20000 in
theorem gX5_writeParted_X3_at : GoodIn wsX5_writeParted (wsV RX5 71 RX3 yX3_at wsX3_at) := goodIn_app (goodIn_of _ (by decide +kernel)) ggX5_writeParted_X3_at
set_option maxRecDepth 20000 in
theorem ggX5_writeParted_X2_length : GoodIn wsX5_writeParted wsX2_length := goodIn_r _ [13] (by decide +kernel) (by decide +kernel)
set_option maxRecDepth 20000 in
theorem gX5_writeParted_X2_length : GoodIn wsX5_writeParted (va_wsS RX5 102 yX2_length wsX2_length) := goodIn_app (goodIn_of _ (by decide +kernel)) ggX5_writeParted_X2_length
set_option maxRecDepth 20000 in
theorem ggX5_writeParted_X5_labelLength : GoodIn wsX5_writeParted wsX5_labelLength := goodIn_r _ [18, 19, 20, 21, 17, 22, 1, 2, 23, 4, 5, 6, 7, 8, 9, 10, 11, 12, 13, 41, 42, 43, 44, 45, 46, 47, 48, 49, 50, 51, 52, 53, 54, 55, 56, 57] (by decide +kernel) (by decide +kernel)
set_option maxRecDepth 20000 in
theorem gX5_writeParted_X5_labelLength : GoodIn wsX5_writeParted (wsV RX5 150 RX5 yX5_labelLength wsX5_labelLength) := goodIn_app (goodIn_of _ (by decide +kernel)) ggX5_writeParted_X5_labelLength
set_option maxRecDepth 20000 in
theorem ggX5_writeParted_X4_write : GoodIn wsX5_writeParted wsX4_write := goodIn_r _ [28, 29, 30, 31, 32, 33, 7, 34, 9, 49, 50, 51, 52, 53, 54, 55, 56, 57] (by decide +kernel) (by decide +kernel)
set_option maxRecDepth 20000 in
theorem gX5_writeParted_X4_write : GoodIn wsX5_writeParted (wsV RX5 163 RX4 yX4_write wsX4_write) := goodIn_app (goodIn_of _ (by decide +kernel)) ggX5_writeParted_X4_write
set_option maxRecDepth 20000 in
theorem ggX5_writeParted_X2_cut : GoodIn wsX5_writeParted wsX2_cut := goodIn_r _ [37, 38, 39, 12, 40] (by decide +kernel) (by decide +kernel)
set_option maxRecDepth 20000 in
theorem gX5_writeParted_X2_cut : GoodIn wsX5_writeParted (va_wsS RX5 108 yX2_cut wsX2_cut) := goodIn_app (goodIn_of _ (by decide +kernel)) ggX5_writeParted_X2_cut
theorem dX5_writeParted_0 : decode cX5_writeParted 0 = .ok (.aload_n 0, 1) := by decide +kernel
theorem dX5_writeParted_1 : decode cX5_writeParted 1 = .ok (.getfield 12, 3) := by decide +kernel
theorem dX5_writeParted_4 : decode cX5_writeParted 4 = .ok (.getfield 86, 3) := by decide +kernel
theorem dX5_writeParted_7 : decode cX5_writeParted 7 = .ok (.iload_n 1, 1) := by decide +kernel
theorem dX5_writeParted_8 : decode cX5_writeParted 8 = .ok (.invokevirtual 71, 3) := by decide +kernel
theorem dX5_writeParted_11 : decode cX5_writeParted 11 = .ok (.istore_n 3, 1) := by decide +kernel
theorem dX5_writeParted_12 : decode cX5_writeParted 12 = .ok (.iload_n 3, 1) := by decide +kernel
theorem dX5_writeParted_13 : decode cX5_writeParted 13 = .ok (.invokestatic 102, 3) := by decide +kernel
theorem dX5_writeParted_16 : decode cX5_writeParted 16 = .ok (.istore 4, 2) := by decide +kernel
theorem dX5_writeParted_18 : decode cX5_writeParted 18 = .ok (.iload_n 2, 1) := by decide +kernel
theorem dX5_writeParted_19 : decode cX5_writeParted 19 = .ok (.aload_n 0, 1) := by decide +kernel
theorem dX5_writeParted_20 : decode cX5_writeParted 20 = .ok (.iload_n 1, 1) := by decide +kernel
theorem dX5_writeParted_21 : decode cX5_writeParted 21 = .ok (.invokevirtual 150, 3) := by decide +kernel
theorem dX5_writeParted_24 : decode cX5_writeParted 24 = .ok (.isub, 1) := by decide +kernel
theorem dX5_writeParted_25 : decode cX5_writeParted 25 = .ok (.istore 5, 2) := by decide +kernel
theorem dX5_writeParted_27 : decode cX5_writeParted 27 = .ok (.aload_n 0, 1) := by decide +kernel
theorem dX5_writeParted_28 : decode cX5_writeParted 28 = .ok (.getfield 12, 3) := by decide +kernel
theorem dX5_writeParted_31 : decode cX5_writeParted 31 = .ok (.iload_n 2, 1) := by decide +kernel
theorem dX5_writeParted_32 : decode cX5_writeParted 32 = .ok (.iconst 1, 1) := by decide +kernel
theorem dX5_writeParted_33 : decode cX5_writeParted 33 = .ok (.isub, 1) := by decide +kernel
theorem dX5_writeParted_34 : decode cX5_writeParted 34 = .ok (.iload_n 3, 1) := by decide +kernel
theorem dX5_writeParted_35 : decode cX5_writeParted 35 = .ok (.aload_n 0, 1) := by decide +kernel
theorem dX5_writeParted_36 : decode cX5_writeParted 36 = .ok (.getfield 12, 3) := by decide +kernel
theorem dX5_writeParted_39 : decode cX5_writeParted 39 = .ok (.getfield 77, 3) := by decide +kernel
theorem dX5_writeParted_42 : decode cX5_writeParted 42 = .ok (.iload_n 1, 1) := by decide +kernel
theorem dX5_writeParted_43 : decode cX5_writeParted 43 = .ok (.invokevirtual 71, 3) := by decide +kernel
theorem dX5_writeParted_46 : decode cX5_writeParted 46 = .ok (.invokevirtual 163, 3) := by decide +kernel
theorem dX5_writeParted_49 : decode cX5_writeParted 49 = .ok (.iload_n 2, 1) := by decide +kernel
theorem dX5_writeParted_50 : decode cX5_writeParted 50 = .ok (.iconst 2, 1) := by decide +kernel
theorem dX5_writeParted_51 : decode cX5_writeParted 51 = .ok (.isub, 1) := by decide +kernel
theorem dX5_writeParted_52 : decode cX5_writeParted 52 = .ok (.istore 6, 2) := by decide +kernel
theorem dX5_writeParted_54 : decode cX5_writeParted 54 = .ok (.iload 6, 2) := by decide +kernel
theorem dX5_writeParted_56 : decode cX5_writeParted 56 = .ok (.iload 5, 2) := by decide +kernel
theorem dX5_writeParted_58 : decode cX5_writeParted 58 = .ok (.if_icmp .lt 28, 3) := by decide +kernel
theorem dX5_writeParted_61 : decode cX5_writeParted 61 = .ok (.iinc 4 (-1), 3) := by decide +kernel
theorem dX5_writeParted_64 : decode cX5_writeParted 64 = .ok (.aload_n 0, 1) := by decide +kernel
theorem dX5_writeParted_65 : decode cX5_writeParted 65 = .ok (.getfield 12, 3) := by decide +kernel
theorem dX5_writeParted_68 : decode cX5_writeParted 68 = .ok (.iload 6, 2) := by decide +kernel
theorem dX5_writeParted_70 : decode cX5_writeParted 70 = .ok (.iload_n 3, 1) := by decide +kernel
theorem dX5_writeParted_71 : decode cX5_writeParted 71 = .ok (.iload 4, 2) := by decide +kernel
theorem dX5_writeParted_73 : decode cX5_writeParted 73 = .ok (.invokestatic 108, 3) := by decide +kernel
theorem dX5_writeParted_76 : decode cX5_writeParted 76 = .ok (.iconst (-1), 1) := by decide +kernel
theorem dX5_writeParted_77 : decode cX5_writeParted 77 = .ok (.invokevirtual 163, 3) := by decide +kernel
theorem dX5_writeParted_80 : decode cX5_writeParted 80 = .ok (.iinc 6 (-1), 3) := by decide +kernel
theorem dX5_writeParted_83 : decode cX5_writeParted 83 = .ok (.goto (-29), 3) := by decide +kernel
theorem dX5_writeParted_86 : decode cX5_writeParted 86 = .ok (.iload 5, 2) := by decide +kernel
theorem dX5_writeParted_88 : decode cX5_writeParted 88 = .ok (.ireturn, 1) := by decide +kernel
set_option maxRecDepth 20000 in
theorem ggX5_names_X3_at : GoodIn wsX5_names wsX3_at := goodIn_r _ [6, 7, 16] (by decide +kernel) (by decide +kernel)
set_option maxRecDepth 20000 in
theorem gX5_names_X3_at : GoodIn wsX5_names (wsV RX5 71 RX3 yX3_at wsX3_at) := goodIn_app (goodIn_of _ (by decide +kernel)) ggX5_names_X3_at
theorem dX5_names_0 : decode cX5_names 0 = .ok (.aload_n 0, 1) := by decide +kernel
theorem dX5_names_1 : decode cX5_names 1 = .ok (.getfield 33, 3) := by decide +kernel
theorem dX5_names_4 : decode cX5_names 4 = .ok (.iconst 0, 1) := by decide +kernel
theorem dX5_names_5 : decode cX5_names 5 = .ok (.invokevirtual 71, 3) := by decide +kernel
theorem dX5_names_8 : decode cX5_names 8 = .ok (.ireturn, 1) := by decide +kernel
set_option maxRecDepth 20000 in
theorem ggX5_weightOf_X4_indexOf : GoodIn wsX5_weightOf wsX4_indexOf := goodIn_r _ [7, 8, 9, 10, 11, 12, 6, 13, 14, 15, 16, 17, 18, 19, 29, 30, 31, 32, 33, 34, 35, 36, 37] (by decide +kernel) (by decide +kernel)
set_option maxRecDepth 20000 in
theorem gX5_weightOf_X4_indexOf : GoodIn wsX5_weightOf (wsV RX5 111 RX4 yX4_indexOf wsX4_indexOf) := goodIn_app (goodIn_of _ (by decide +kernel)) ggX5_weightOf_X4_indexOf
set_option maxRecDepth 20000 in
theorem ggX5_weightOf_X3_at : GoodIn wsX5_weightOf wsX3_at := goodIn_r _ [18, 19, 37] (by decide +kernel) (by decide +kernel)
set_option maxRecDepth 20000 in
theorem gX5_weightOf_X3_at : GoodIn wsX5_weightOf (wsV RX5 71 RX3 yX3_at wsX3_at) := goodIn_app (goodIn_of _ (by decide +kernel)) ggX5_weightOf_X3_at
theorem dX5_weightOf_0 : decode cX5_weightOf 0 = .ok (.aload_n 0, 1) := by decide +kernel
theorem dX5_weightOf_1 : decode cX5_weightOf 1 = .ok (.getfield 12, 3) := by decide +kernel
theorem dX5_weightOf_4 : decode cX5_weightOf 4 = .ok (.iload_n 1, 1) := by decide +kernel
theorem dX5_weightOf_5 : decode cX5_weightOf 5 = .ok (.invokevirtual 111, 3) := by decide +kernel
theorem dX5_weightOf_8 : decode cX5_weightOf 8 = .ok (.istore_n 2, 1) := by decide +kernel
theorem dX5_weightOf_9 : decode cX5_weightOf 9 = .ok (.iload_n 2, 1) := by decide +kernel
theorem dX5_weightOf_10 : decode cX5_weightOf 10 = .ok (.iconst (-1), 1) := by decide +kernel
theorem dX5_weightOf_11 : decode cX5_weightOf 11 = .ok (.if_icmp .ne 7, 3) := by decide +kernel
theorem dX5_weightOf_14 : decode cX5_weightOf 14 = .ok (.iconst (-1), 1) := by decide +kernel
theorem dX5_weightOf_15 : decode cX5_weightOf 15 = .ok (.goto 14, 3) := by decide +kernel
theorem dX5_weightOf_18 : decode cX5_weightOf 18 = .ok (.aload_n 0, 1) := by decide +kernel
theorem dX5_weightOf_19 : decode cX5_weightOf 19 = .ok (.getfield 12, 3) := by decide +kernel
theorem dX5_weightOf_22 : decode cX5_weightOf 22 = .ok (.getfield 77, 3) := by decide +kernel
theorem dX5_weightOf_25 : decode cX5_weightOf 25 = .ok (.iload_n 2, 1) := by decide +kernel
theorem dX5_weightOf_26 : decode cX5_weightOf 26 = .ok (.invokevirtual 71, 3) := by decide +kernel
theorem dX5_weightOf_29 : decode cX5_weightOf 29 = .ok (.ireturn, 1) := by decide +kernel
set_option maxRecDepth 20000 in
theorem ggX5_namesBefore_X5_names : GoodIn wsX5_namesBefore wsX5_names := goodIn_r _ [8, 9, 10, 11, 12, 13, 14, 15, 16, 17, 18, 19, 20, 21, 22, 23, 32] (by decide +kernel) (by decide +kernel)
set_option maxRecDepth 20000 in
theorem gX5_namesBefore_X5_names : GoodIn wsX5_namesBefore (wsV RX5 98 RX5 yX5_names wsX5_names) := goodIn_app (goodIn_of _ (by decide +kernel)) ggX5_namesBefore_X5_names
set_option maxRecDepth 20000 in
theorem ggX5_namesBefore_X3_at : GoodIn wsX5_namesBefore wsX3_at := goodIn_r _ [14, 15, 32] (by decide +kernel) (by decide +kernel)
set_option maxRecDepth 20000 in
theorem gX5_namesBefore_X3_at : GoodIn wsX5_namesBefore (wsV RX5 71 RX3 yX3_at wsX3_at) := goodIn_app (goodIn_of _ (by decide +kernel)) ggX5_namesBefore_X3_at
theorem dX5_namesBefore_0 : decode cX5_namesBefore 0 = .ok (.iconst 0, 1) := by decide +kernel
theorem dX5_namesBefore_1 : decode cX5_namesBefore 1 = .ok (.istore_n 2, 1) := by decide +kernel
theorem dX5_namesBefore_2 : decode cX5_namesBefore 2 = .ok (.iload_n 2, 1) := by decide +kernel
theorem dX5_namesBefore_3 : decode cX5_namesBefore 3 = .ok (.aload_n 0, 1) := by decide +kernel
theorem dX5_namesBefore_4 : decode cX5_namesBefore 4 = .ok (.invokevirtual 98, 3) := by decide +kernel
theorem dX5_namesBefore_7 : decode cX5_namesBefore 7 = .ok (.if_icmp .ge 31, 3) := by decide +kernel
theorem dX5_namesBefore_10 : decode cX5_namesBefore 10 = .ok (.aload_n 0, 1) := by decide +kernel
theorem dX5_namesBefore_11 : decode cX5_namesBefore 11 = .ok (.getfield 12, 3) := by decide +kernel
theorem dX5_namesBefore_14 : decode cX5_namesBefore 14 = .ok (.getfield 86, 3) := by decide +kernel
theorem dX5_namesBefore_17 : decode cX5_namesBefore 17 = .ok (.aload_n 0, 1) := by decide +kernel
theorem dX5_namesBefore_18 : decode cX5_namesBefore 18 = .ok (.getfield 39, 3) := by decide +kernel
theorem dX5_namesBefore_21 : decode cX5_namesBefore 21 = .ok (.iload_n 2, 1) := by decide +kernel
theorem dX5_namesBefore_22 : decode cX5_namesBefore 22 = .ok (.invokevirtual 71, 3) := by decide +kernel
theorem dX5_namesBefore_25 : decode cX5_namesBefore 25 = .ok (.invokevirtual 71, 3) := by decide +kernel
theorem dX5_namesBefore_28 : decode cX5_namesBefore 28 = .ok (.iload_n 1, 1) := by decide +kernel
theorem dX5_namesBefore_29 : decode cX5_namesBefore 29 = .ok (.if_icmp .ge 9, 3) := by decide +kernel
theorem dX5_namesBefore_32 : decode cX5_namesBefore 32 = .ok (.iinc 2 1, 3) := by decide +kernel
theorem dX5_namesBefore_35 : decode cX5_namesBefore 35 = .ok (.goto (-33), 3) := by decide +kernel
theorem dX5_namesBefore_38 : decode cX5_namesBefore 38 = .ok (.iload_n 2, 1) := by decide +kernel
theorem dX5_namesBefore_39 : decode cX5_namesBefore 39 = .ok (.ireturn, 1) := by decide +kernel
set_option maxRecDepth 20000 in
theorem ggX5_namesWith_X4_firstWith : GoodIn wsX5_namesWith wsX4_firstWith := goodIn_r _ [7, 8, 9, 10, 11, 12, 6, 13, 14, 15, 16, 17, 18, 19, 20, 21, 22, 23, 24, 25, 26, 27, 28, 29, 39, 40, 41, 42, 43, 44, 45, 46, 47] (by decide +kernel) (by decide +kernel)
set_option maxRecDepth 20000 in
theorem gX5_namesWith_X4_firstWith : GoodIn wsX5_namesWith (wsV RX5 147 RX4 yX4_firstWith wsX4_firstWith) := goodIn_app (goodIn_of _ (by decide +kernel)) ggX5_namesWith_X4_firstWith
set_option maxRecDepth 20000 in
theorem ggX5_namesWith_X3_at : GoodIn wsX5_namesWith wsX3_at := goodIn_r _ [18, 19, 47] (by decide +kernel) (by decide +kernel)
set_option maxRecDepth 20000 in
theorem gX5_namesWith_X3_at : GoodIn wsX5_namesWith (wsV RX5 71 RX3 yX3_at wsX3_at) := goodIn_app (goodIn_of _ (by decide +kernel)) ggX5_namesWith_X3_at
theorem dX5_namesWith_0 : decode cX5_namesWith 0 = .ok (.aload_n 0, 1) := by decide +kernel
theorem dX5_namesWith_1 : decode cX5_namesWith 1 = .ok (.getfield 12, 3) := by decide +kernel
theorem dX5_namesWith_4 : decode cX5_namesWith 4 = .ok (.iload_n 1, 1) := by decide +kernel
theorem dX5_namesWith_5 : decode cX5_namesWith 5 = .ok (.invokevirtual 147, 3) := by decide +kernel
theorem dX5_namesWith_8 : decode cX5_namesWith 8 = .ok (.istore_n 2, 1) := by decide +kernel
theorem dX5_namesWith_9 : decode cX5_namesWith 9 = .ok (.iload_n 2, 1) := by decide +kernel
theorem dX5_namesWith_10 : decode cX5_namesWith 10 = .ok (.iconst (-1), 1) := by decide +kernel
theorem dX5_namesWith_11 : decode cX5_namesWith 11 = .ok (.if_icmp .ne 7, 3) := by decide +kernel
theorem dX5_namesWith_14 : decode cX5_namesWith 14 = .ok (.iconst 0, 1) := by decide +kernel
theorem dX5_namesWith_15 : decode cX5_namesWith 15 = .ok (.goto 11, 3) := by decide +kernel
theorem dX5_namesWith_18 : decode cX5_namesWith 18 = .ok (.aload_n 0, 1) := by decide +kernel
theorem dX5_namesWith_19 : decode cX5_namesWith 19 = .ok (.getfield 33, 3) := by decide +kernel
theorem dX5_namesWith_22 : decode cX5_namesWith 22 = .ok (.iload_n 2, 1) := by decide +kernel
theorem dX5_namesWith_23 : decode cX5_namesWith 23 = .ok (.invokevirtual 71, 3) := by decide +kernel
theorem dX5_namesWith_26 : decode cX5_namesWith 26 = .ok (.ireturn, 1) := by decide +kernel
set_option maxRecDepth 20000 in
theorem ggX5_nameValue_X3_at : GoodIn wsX5_nameValue wsX3_at := goodIn_r _ [10, 11, 39] (by decide +kernel) (by decide +kernel)
set_option maxRecDepth 20000 in
theorem gX5_nameValue_X3_at : GoodIn wsX5_nameValue (wsV RX5 71 RX3 yX3_at wsX3_at) := goodIn_app (goodIn_of _ (by decide +kernel)) ggX5_nameValue_X3_at
set_option maxRecDepth 20000 in
theorem ggX5_nameValue_X2_letters : GoodIn wsX5_nameValue wsX2_letters := goodIn_r _ [15, 16, 17, 14, 18, 19, 20, 21] (by decide +kernel) (by decide +kernel)
set_option maxRecDepth 20000 in
theorem gX5_nameValue_X2_letters : GoodIn wsX5_nameValue (va_wsS RX5 167 yX2_letters wsX2_letters) := goodIn_app (goodIn_of _ (by decide +kernel)) ggX5_nameValue_X2_letters
set_option maxRecDepth 20000 in
theorem ggX5_nameValue_X2_length : GoodIn wsX5_nameValue wsX2_length := goodIn_r _ [18] (by decide +kernel) (by decide +kernel)
set_option maxRecDepth 20000 in
theorem gX5_nameValue_X2_length : GoodIn wsX5_nameValue (va_wsS RX5 102 yX2_length wsX2_length) := goodIn_app (goodIn_of _ (by decide +kernel)) ggX5_nameValue_X2_length
theorem dX5_nameValue_0 : decode cX5_nameValue 0 = .ok (.aload_n 0, 1) := by decide +kernel
theorem dX5_nameValue_1 : decode cX5_nameValue 1 = .ok (.getfield 39, 3) := by decide +kernel
theorem dX5_nameValue_4 : decode cX5_nameValue 4 = .ok (.iload_n 1, 1) := by decide +kernel
theorem dX5_nameValue_5 : decode cX5_nameValue 5 = .ok (.invokevirtual 71, 3) := by decide +kernel
theorem dX5_nameValue_8 : decode cX5_nameValue 8 = .ok (.istore_n 3, 1) := by decide +kernel
theorem dX5_nameValue_9 : decode cX5_nameValue 9 = .ok (.iload_n 2, 1) := by decide +kernel
theorem dX5_nameValue_10 : decode cX5_nameValue 10 = .ok (.tableswitch 68 0 2 #[26, 41, 56], 26) := by decide +kernel
theorem dX5_nameValue_36 : decode cX5_nameValue 36 = .ok (.aload_n 0, 1) := by decide +kernel

set_option maxRecDepth 20000 in
theorem ggL_add_X7_add : GoodIn wsL_add wsX7_add := goodIn_ca (goodIn_ca (goodIn_r _ [7, 8, 9, 10, 11, 12, 13, 14, 6, 15, 16, 17, 18, 19, 20, 21, 22, 23, 24, 25, 26, 27, 28, 29, 30, 31, 32, 33, 34, 35, 36, 37, 38, 39, 40, 41, 42, 43, 44, 45, 46, 47, 48, 49, 50, 51, 52, 53, 54, 55, 56, 57, 58, 59, 60, 61, 62, 63, 64, 65, 66, 67, 68, 69, 70, 71, 72, 73, 74, 75, 76, 77, 78, 79, 80, 81, 82, 83, 84, 85, 86, 87, 88, 89, 90, 91, 92, 93, 94, 95, 96, 97, 98, 99, 100, 101, 102, 103, 104, 105, 106, 107, 108, 109, 110, 111, 112, 113, 114, 115, 116, 117, 118, 119, 120, 121, 122, 123, 124, 125, 126, 127, 128, 129, 130, 131, 132, 133, 134, 135, 136, 137, 138, 139, 140, 141, 142, 143, 144, 145, 146, 147, 148, 149, 150, 151, 152, 153, 154, 155, 156, 157, 158, 159, 160, 161, 162, 163, 164, 165, 166, 167, 168, 169, 170, 171, 172, 173, 174, 175, 176, 177, 178, 179, 180, 181, 182, 183, 184, 185, 186, 187, 188, 189, 190, 191, 192, 193, 194, 195, 196, 197] (by decide +kernel) (by decide +kernel)) (goodIn_sub (fun _ h => List.mem_cons_of_mem _ (List.mem_append_left _ (List.mem_append_right _ h))) (by decide +kernel))) (goodIn_sub (fun _ h => List.mem_cons_of_mem _ (List.mem_append_right _ h)) (by decide +kernel))
set_option maxRecDepth 20000 in
theorem gL_add_X7_add : GoodIn wsL_add (wsV RL 7 RX7 yX7_add wsX7_add) := goodIn_app (goodIn_of _ (by decide +kernel)) ggL_add_X7_add
theorem dL_add_0 : decode cL_add 0 = .ok (.aload 4, 2) := by decide +kernel
theorem dL_add_2 : decode cL_add 2 = .ok (.iconst 0, 1) := by decide +kernel
theorem dL_add_3 : decode cL_add 3 = .ok (.aload_n 0, 1) := by decide +kernel
theorem dL_add_4 : decode cL_add 4 = .ok (.iload_n 1, 1) := by decide +kernel
theorem dL_add_5 : decode cL_add 5 = .ok (.iload_n 2, 1) := by decide +kernel
theorem dL_add_6 : decode cL_add 6 = .ok (.iload_n 3, 1) := by decide +kernel
theorem dL_add_7 : decode cL_add 7 = .ok (.invokevirtual 7, 3) := by decide +kernel
theorem dL_add_10 : decode cL_add 10 = .ok (.i2l, 1) := by decide +kernel
theorem dL_add_11 : decode cL_add 11 = .ok (.lastore, 1) := by decide +kernel
theorem dL_add_12 : decode cL_add 12 = .ok (.goto 11, 3) := by decide +kernel
theorem dL_add_15 : decode cL_add 15 = .ok (.astore 5, 2) := by decide +kernel
theorem dL_add_17 : decode cL_add 17 = .ok (.iconst 1, 1) := by decide +kernel
theorem dL_add_18 : decode cL_add 18 = .ok (.ireturn, 1) := by decide +kernel
theorem dL_add_19 : decode cL_add 19 = .ok (.astore 5, 2) := by decide +kernel
theorem dL_add_21 : decode cL_add 21 = .ok (.iconst 2, 1) := by decide +kernel
theorem dL_add_22 : decode cL_add 22 = .ok (.ireturn, 1) := by decide +kernel
theorem dL_add_23 : decode cL_add 23 = .ok (.iconst 0, 1) := by decide +kernel
theorem dL_add_24 : decode cL_add 24 = .ok (.ireturn, 1) := by decide +kernel
set_option maxRecDepth 20000 in
theorem ggL_remove_X7_remove : GoodIn wsL_remove wsX7_remove := goodIn_ca (goodIn_ca (goodIn_r _ [7, 8, 9, 10, 11, 12, 6, 13, 14, 15, 16, 17, 18, 19, 20, 21, 22, 23, 24, 25, 26, 27, 28, 29, 30, 31, 32, 33, 34, 35, 36, 37, 38, 39, 40, 41, 42, 43, 44, 45, 46, 47, 48, 49, 50, 51, 52, 53, 54, 55, 56, 57, 58, 59, 60, 61, 62, 63, 64, 65, 66, 67, 68, 69, 70, 71, 72, 73, 74, 75, 76, 77, 78, 79, 80, 81, 82, 83, 84, 85, 86, 87, 88, 89, 90, 91, 92, 93, 94, 95, 96, 97, 98, 99, 100, 101, 102, 103, 104, 105, 106, 107, 108, 109, 110, 111, 112, 113, 114, 115, 116, 117, 118, 119, 120, 121, 122, 123, 124, 125, 126, 127, 128, 129, 130, 131, 132, 133, 134, 135, 136, 137, 138, 139, 140, 141, 142, 143, 144, 145, 146, 147, 148, 149, 150, 151, 152, 153, 154, 155, 156, 157, 158, 159, 160, 161, 162, 163, 164, 165, 166, 167, 168, 169, 170, 171] (by decide +kernel) (by decide +kernel)) (goodIn_sub (fun _ h => List.mem_cons_of_mem _ (List.mem_append_left _ (List.mem_append_right _ h))) (by decide +kernel))) (goodIn_sub (fun _ h => List.mem_cons_of_mem _ (List.mem_append_right _ h)) (by decide +kernel))
set_option maxRecDepth 20000 in
theorem gL_remove_X7_remove : GoodIn wsL_remove (wsV RL 17 RX7 yX7_remove wsX7_remove) := goodIn_app (goodIn_of _ (by decide +kernel)) ggL_remove_X7_remove
theorem dL_remove_0 : decode cL_remove 0 = .ok (.aload_n 3, 1) := by decide +kernel
theorem dL_remove_1 : decode cL_remove 1 = .ok (.iconst 0, 1) := by decide +kernel
theorem dL_remove_2 : decode cL_remove 2 = .ok (.aload_n 0, 1) := by decide +kernel
theorem dL_remove_3 : decode cL_remove 3 = .ok (.iload_n 1, 1) := by decide +kernel
theorem dL_remove_4 : decode cL_remove 4 = .ok (.iload_n 2, 1) := by decide +kernel
theorem dL_remove_5 : decode cL_remove 5 = .ok (.invokevirtual 17, 3) := by decide +kernel
theorem dL_remove_8 : decode cL_remove 8 = .ok (.i2l, 1) := by decide +kernel
theorem dL_remove_9 : decode cL_remove 9 = .ok (.lastore, 1) := by decide +kernel
theorem dL_remove_10 : decode cL_remove 10 = .ok (.goto 11, 3) := by decide +kernel
theorem dL_remove_13 : decode cL_remove 13 = .ok (.astore 4, 2) := by decide +kernel
theorem dL_remove_15 : decode cL_remove 15 = .ok (.iconst 1, 1) := by decide +kernel
theorem dL_remove_16 : decode cL_remove 16 = .ok (.ireturn, 1) := by decide +kernel
theorem dL_remove_17 : decode cL_remove 17 = .ok (.astore 4, 2) := by decide +kernel
theorem dL_remove_19 : decode cL_remove 19 = .ok (.iconst 2, 1) := by decide +kernel
theorem dL_remove_20 : decode cL_remove 20 = .ok (.ireturn, 1) := by decide +kernel
theorem dL_remove_21 : decode cL_remove 21 = .ok (.iconst 0, 1) := by decide +kernel
theorem dL_remove_22 : decode cL_remove 22 = .ok (.ireturn, 1) := by decide +kernel
set_option maxRecDepth 20000 in
theorem ggL_setWeight_X7_setWeight : GoodIn wsL_setWeight wsX7_setWeight := goodIn_ca (goodIn_ca (goodIn_r _ [7, 8, 9, 10, 11, 12, 6, 13, 14, 15, 16, 17, 18, 19, 20, 21, 22, 23, 24, 25, 26, 27, 28, 29, 30, 31, 32, 33, 34, 35, 36, 37, 38, 39, 40, 41, 42, 43, 44, 45, 46, 47, 48, 49, 50, 51, 52, 53, 54, 55, 56, 57, 58, 59, 60, 61, 62, 63, 64, 65, 66, 67, 68, 69, 70, 71, 72, 73, 74, 75, 76, 77, 78, 79, 80, 81, 82, 83, 84, 85, 86, 87, 88, 89, 90, 91, 92, 93, 94, 95, 96, 97, 98, 99, 100, 101, 102, 103, 104, 105, 106, 107, 108, 109, 110, 111, 112, 113, 114, 115, 116, 117, 118, 119, 120, 121, 122, 123, 124, 125, 126, 127, 128, 129, 130, 131, 132, 133, 134, 135, 136, 137, 138, 139, 140, 141, 142, 143, 144, 145, 146, 147, 148, 149, 150, 151, 152, 153, 154, 155, 156, 157, 158, 159, 160, 161] (by decide +kernel) (by decide +kernel)) (goodIn_sub (fun _ h => List.mem_cons_of_mem _ (List.mem_append_left _ (List.mem_append_right _ h))) (by decide +kernel))) (goodIn_sub (fun _ h => List.mem_cons_of_mem _ (List.mem_append_right _ h)) (by decide +kernel))
set_option maxRecDepth 20000 in
theorem gL_setWeight_X7_setWeight : GoodIn wsL_setWeight (wsV RL 21 RX7 yX7_setWeight wsX7_setWeight) := goodIn_app (goodIn_of _ (by decide +kernel)) ggL_setWeight_X7_setWeight
theorem dL_setWeight_0 : decode cL_setWeight 0 = .ok (.aload 4, 2) := by decide +kernel
theorem dL_setWeight_2 : decode cL_setWeight 2 = .ok (.iconst 0, 1) := by decide +kernel
theorem dL_setWeight_3 : decode cL_setWeight 3 = .ok (.aload_n 0, 1) := by decide +kernel
theorem dL_setWeight_4 : decode cL_setWeight 4 = .ok (.iload_n 1, 1) := by decide +kernel
theorem dL_setWeight_5 : decode cL_setWeight 5 = .ok (.iload_n 2, 1) := by decide +kernel
theorem dL_setWeight_6 : decode cL_setWeight 6 = .ok (.iload_n 3, 1) := by decide +kernel
theorem dL_setWeight_7 : decode cL_setWeight 7 = .ok (.invokevirtual 21, 3) := by decide +kernel
theorem dL_setWeight_10 : decode cL_setWeight 10 = .ok (.i2l, 1) := by decide +kernel
theorem dL_setWeight_11 : decode cL_setWeight 11 = .ok (.lastore, 1) := by decide +kernel
theorem dL_setWeight_12 : decode cL_setWeight 12 = .ok (.goto 11, 3) := by decide +kernel
theorem dL_setWeight_15 : decode cL_setWeight 15 = .ok (.astore 5, 2) := by decide +kernel
theorem dL_setWeight_17 : decode cL_setWeight 17 = .ok (.iconst 1, 1) := by decide +kernel
theorem dL_setWeight_18 : decode cL_setWeight 18 = .ok (.ireturn, 1) := by decide +kernel
theorem dL_setWeight_19 : decode cL_setWeight 19 = .ok (.astore 5, 2) := by decide +kernel
theorem dL_setWeight_21 : decode cL_setWeight 21 = .ok (.iconst 2, 1) := by decide +kernel
theorem dL_setWeight_22 : decode cL_setWeight 22 = .ok (.ireturn, 1) := by decide +kernel
theorem dL_setWeight_23 : decode cL_setWeight 23 = .ok (.iconst 0, 1) := by decide +kernel
theorem dL_setWeight_24 : decode cL_setWeight 24 = .ok (.ireturn, 1) := by decide +kernel
set_option maxRecDepth 20000 in
theorem ggL_setLimit_X7_setLimit : GoodIn wsL_setLimit wsX7_setLimit := goodIn_ca (goodIn_r _ [6, 7, 8, 9, 10, 11, 5, 12, 13, 14, 15, 16, 17, 18, 19, 20, 21, 22, 23, 24, 25, 26, 27, 28, 29, 30, 31, 32, 33, 34, 35, 36, 37, 38, 39, 40, 41, 42, 43, 44, 45, 46, 47, 48, 49, 50, 51, 52, 53, 54, 55, 56, 57, 58, 59, 60, 61, 62, 63, 64, 65, 66, 67, 68, 69, 70, 71, 72, 73, 74, 75, 76, 77, 78, 79, 80, 81, 82, 83, 84, 85, 86, 87, 88, 89, 90, 91, 92] (by decide +kernel) (by decide +kernel)) (goodIn_sub (fun _ h => List.mem_cons_of_mem _ (List.mem_append_right _ h)) (by decide +kernel))
set_option maxRecDepth 20000 in
theorem gL_setLimit_X7_setLimit : GoodIn wsL_setLimit (wsV RL 24 RX7 yX7_setLimit wsX7_setLimit) := goodIn_app (goodIn_of _ (by decide +kernel)) ggL_setLimit_X7_setLimit
theorem dL_setLimit_0 : decode cL_setLimit 0 = .ok (.aload_n 2, 1) := by decide +kernel
theorem dL_setLimit_1 : decode cL_setLimit 1 = .ok (.iconst 0, 1) := by decide +kernel
theorem dL_setLimit_2 : decode cL_setLimit 2 = .ok (.aload_n 0, 1) := by decide +kernel
theorem dL_setLimit_3 : decode cL_setLimit 3 = .ok (.iload_n 1, 1) := by decide +kernel
theorem dL_setLimit_4 : decode cL_setLimit 4 = .ok (.invokevirtual 24, 3) := by decide +kernel
theorem dL_setLimit_7 : decode cL_setLimit 7 = .ok (.i2l, 1) := by decide +kernel
theorem dL_setLimit_8 : decode cL_setLimit 8 = .ok (.lastore, 1) := by decide +kernel
theorem dL_setLimit_9 : decode cL_setLimit 9 = .ok (.goto 6, 3) := by decide +kernel
theorem dL_setLimit_12 : decode cL_setLimit 12 = .ok (.astore_n 3, 1) := by decide +kernel
theorem dL_setLimit_13 : decode cL_setLimit 13 = .ok (.iconst 1, 1) := by decide +kernel
theorem dL_setLimit_14 : decode cL_setLimit 14 = .ok (.ireturn, 1) := by decide +kernel
theorem dL_setLimit_15 : decode cL_setLimit 15 = .ok (.iconst 0, 1) := by decide +kernel
theorem dL_setLimit_16 : decode cL_setLimit 16 = .ok (.ireturn, 1) := by decide +kernel
set_option maxRecDepth 20000 in
theorem ggL_moveIn_X7_moveIn : GoodIn wsL_moveIn wsX7_moveIn := goodIn_ca (goodIn_ca (goodIn_r _ [7, 8, 9, 10, 11, 12, 13, 14, 6, 15, 16, 17, 18, 19, 20, 21, 22, 23, 24, 25, 26, 27, 28, 29, 30, 31, 32, 33, 34, 35, 36, 37, 38, 39, 40, 41, 42, 43, 44, 45, 46, 47, 48, 49, 50, 51, 52, 53, 54, 55, 56, 57, 58, 59, 60, 61, 62, 63, 64, 65, 66, 67, 68, 69, 70, 71, 72, 73, 74, 75, 76, 77, 78, 79, 80, 81, 82, 83, 84, 85, 86, 87, 88, 89, 90, 91, 92, 93, 94, 95, 96, 97, 98, 99, 100, 101, 102, 103, 104, 105, 106, 107, 108, 109, 110, 111, 112, 113, 114, 115, 116, 117, 118, 119, 120, 121, 122, 123, 124, 125, 126, 127, 128, 129, 130, 131, 132, 133, 134, 135, 136, 137, 138, 139, 140, 141, 142, 143, 144, 145, 146, 147, 148, 149, 150, 151, 152, 153, 154, 155, 156, 157, 158, 159, 160, 161, 162, 163, 164, 165, 166, 167, 168, 169, 170, 171, 172, 173, 174] (by decide +kernel) (by decide +kernel)) (goodIn_sub (fun _ h => List.mem_cons_of_mem _ (List.mem_append_left _ (List.mem_append_right _ h))) (by decide +kernel))) (goodIn_sub (fun _ h => List.mem_cons_of_mem _ (List.mem_append_right _ h)) (by decide +kernel))
set_option maxRecDepth 20000 in
theorem gL_moveIn_X7_moveIn : GoodIn wsL_moveIn (wsV RL 28 RX7 yX7_moveIn wsX7_moveIn) := goodIn_app (goodIn_of _ (by decide +kernel)) ggL_moveIn_X7_moveIn
theorem dL_moveIn_0 : decode cL_moveIn 0 = .ok (.aload_n 3, 1) := by decide +kernel
theorem dL_moveIn_1 : decode cL_moveIn 1 = .ok (.iconst 0, 1) := by decide +kernel
theorem dL_moveIn_2 : decode cL_moveIn 2 = .ok (.aload_n 0, 1) := by decide +kernel
theorem dL_moveIn_3 : decode cL_moveIn 3 = .ok (.iload_n 1, 1) := by decide +kernel
theorem dL_moveIn_4 : decode cL_moveIn 4 = .ok (.iload_n 2, 1) := by decide +kernel
theorem dL_moveIn_5 : decode cL_moveIn 5 = .ok (.invokevirtual 28, 3) := by decide +kernel
theorem dL_moveIn_8 : decode cL_moveIn 8 = .ok (.i2l, 1) := by decide +kernel
theorem dL_moveIn_9 : decode cL_moveIn 9 = .ok (.lastore, 1) := by decide +kernel
theorem dL_moveIn_10 : decode cL_moveIn 10 = .ok (.goto 11, 3) := by decide +kernel
theorem dL_moveIn_13 : decode cL_moveIn 13 = .ok (.astore 4, 2) := by decide +kernel
theorem dL_moveIn_15 : decode cL_moveIn 15 = .ok (.iconst 1, 1) := by decide +kernel
theorem dL_moveIn_16 : decode cL_moveIn 16 = .ok (.ireturn, 1) := by decide +kernel
theorem dL_moveIn_17 : decode cL_moveIn 17 = .ok (.astore 4, 2) := by decide +kernel
theorem dL_moveIn_19 : decode cL_moveIn 19 = .ok (.iconst 2, 1) := by decide +kernel
theorem dL_moveIn_20 : decode cL_moveIn 20 = .ok (.ireturn, 1) := by decide +kernel
theorem dL_moveIn_21 : decode cL_moveIn 21 = .ok (.iconst 0, 1) := by decide +kernel
theorem dL_moveIn_22 : decode cL_moveIn 22 = .ok (.ireturn, 1) := by decide +kernel
set_option maxRecDepth 20000 in
theorem ggL_evict_X7_evict : GoodIn wsL_evict wsX7_evict := goodIn_ca (goodIn_ca (goodIn_r _ [7, 8, 9, 10, 11, 12, 13, 14, 6, 15, 16, 17, 18, 19, 20, 21, 22, 23, 24, 25, 26, 27, 28, 29, 30, 31, 32, 33, 34, 35, 36, 37, 38, 39, 40, 41, 42, 43, 44, 45, 46, 47, 48, 49, 50, 51, 52, 53, 54, 55, 56, 57, 58, 59, 60, 61, 62, 63, 64, 65, 66, 67, 68, 69, 70, 71, 72, 73, 74, 75, 76, 77, 78, 79, 80, 81, 82, 83, 84, 85, 86, 87, 88, 89, 90, 91, 92, 93, 94, 95, 96, 97, 98, 99, 100, 101, 102, 103, 104, 105, 106, 107, 108, 109, 110, 111, 112, 113, 114, 115, 116, 117, 118, 119, 120, 121, 122, 123, 124, 125, 126, 127, 128, 129, 130, 131, 132, 133, 134, 135, 136, 137, 138, 139, 140, 141, 142, 143, 144, 145, 146, 147, 148, 149, 150, 151, 152, 153, 154, 155, 156, 157, 158, 159, 160, 161, 162, 163, 164, 165, 166, 167, 168, 169, 170, 171, 172, 173, 174, 175, 176, 177, 178, 179] (by decide +kernel) (by decide +kernel)) (goodIn_sub (fun _ h => List.mem_cons_of_mem _ (List.mem_append_left _ (List.mem_append_right _ h))) (by decide +kernel))) (goodIn_sub (fun _ h => List.mem_cons_of_mem _ (List.mem_append_right _ h)) (by decide +kernel))
set_option maxRecDepth 20000 in
theorem gL_evict_X7_evict : GoodIn wsL_evict (wsV RL 31 RX7 yX7_evict wsX7_evict) := goodIn_app (goodIn_of _ (by decide +kernel)) ggL_evict_X7_evict
theorem dL_evict_0 : decode cL_evict 0 = .ok (.aload_n 3, 1) := by decide +kernel
theorem dL_evict_1 : decode cL_evict 1 = .ok (.iconst 0, 1) := by decide +kernel
theorem dL_evict_2 : decode cL_evict 2 = .ok (.aload_n 0, 1) := by decide +kernel
theorem dL_evict_3 : decode cL_evict 3 = .ok (.iload_n 1, 1) := by decide +kernel
theorem dL_evict_4 : decode cL_evict 4 = .ok (.iload_n 2, 1) := by decide +kernel
theorem dL_evict_5 : decode cL_evict 5 = .ok (.invokevirtual 31, 3) := by decide +kernel
theorem dL_evict_8 : decode cL_evict 8 = .ok (.i2l, 1) := by decide +kernel
theorem dL_evict_9 : decode cL_evict 9 = .ok (.lastore, 1) := by decide +kernel
theorem dL_evict_10 : decode cL_evict 10 = .ok (.goto 11, 3) := by decide +kernel
theorem dL_evict_13 : decode cL_evict 13 = .ok (.astore 4, 2) := by decide +kernel
theorem dL_evict_15 : decode cL_evict 15 = .ok (.iconst 1, 1) := by decide +kernel
theorem dL_evict_16 : decode cL_evict 16 = .ok (.ireturn, 1) := by decide +kernel
theorem dL_evict_17 : decode cL_evict 17 = .ok (.astore 4, 2) := by decide +kernel
theorem dL_evict_19 : decode cL_evict 19 = .ok (.iconst 2, 1) := by decide +kernel
theorem dL_evict_20 : decode cL_evict 20 = .ok (.ireturn, 1) := by decide +kernel
theorem dL_evict_21 : decode cL_evict 21 = .ok (.iconst 0, 1) := by decide +kernel
theorem dL_evict_22 : decode cL_evict 22 = .ok (.ireturn, 1) := by decide +kernel
set_option maxRecDepth 20000 in
theorem ggL_rank_X7_rank : GoodIn wsL_rank wsX7_rank := goodIn_ca (goodIn_r _ [6, 7, 8, 9, 5, 10, 11, 12, 13, 14, 15, 16, 17, 18, 19, 20, 21, 22, 23, 24, 25, 26, 27, 28, 29, 30, 31, 32, 33, 34, 35, 36, 37, 38, 39, 40, 41, 42, 43, 44, 45, 46, 47, 48, 49, 50, 51, 52, 53, 54, 55, 56, 57, 58, 59, 60, 61, 62, 63] (by decide +kernel) (by decide +kernel)) (goodIn_sub (fun _ h => List.mem_cons_of_mem _ (List.mem_append_right _ h)) (by decide +kernel))
set_option maxRecDepth 20000 in
theorem gL_rank_X7_rank : GoodIn wsL_rank (wsV RL 34 RX7 yX7_rank wsX7_rank) := goodIn_app (goodIn_of _ (by decide +kernel)) ggL_rank_X7_rank
theorem dL_rank_0 : decode cL_rank 0 = .ok (.aload_n 3, 1) := by decide +kernel
theorem dL_rank_1 : decode cL_rank 1 = .ok (.iconst 0, 1) := by decide +kernel
theorem dL_rank_2 : decode cL_rank 2 = .ok (.aload_n 0, 1) := by decide +kernel
theorem dL_rank_3 : decode cL_rank 3 = .ok (.iload_n 1, 1) := by decide +kernel
theorem dL_rank_4 : decode cL_rank 4 = .ok (.iload_n 2, 1) := by decide +kernel
theorem dL_rank_5 : decode cL_rank 5 = .ok (.invokevirtual 34, 3) := by decide +kernel
theorem dL_rank_8 : decode cL_rank 8 = .ok (.i2l, 1) := by decide +kernel
theorem dL_rank_9 : decode cL_rank 9 = .ok (.lastore, 1) := by decide +kernel
theorem dL_rank_10 : decode cL_rank 10 = .ok (.goto 7, 3) := by decide +kernel
theorem dL_rank_13 : decode cL_rank 13 = .ok (.astore 4, 2) := by decide +kernel
theorem dL_rank_15 : decode cL_rank 15 = .ok (.iconst 1, 1) := by decide +kernel
theorem dL_rank_16 : decode cL_rank 16 = .ok (.ireturn, 1) := by decide +kernel
theorem dL_rank_17 : decode cL_rank 17 = .ok (.iconst 0, 1) := by decide +kernel
theorem dL_rank_18 : decode cL_rank 18 = .ok (.ireturn, 1) := by decide +kernel
set_option maxRecDepth 20000 in
theorem ggL_nth_X7_nth : GoodIn wsL_nth wsX7_nth := goodIn_ca (goodIn_ca (goodIn_r _ [7, 8, 9, 10, 11, 6, 12, 13, 14, 15, 16, 17, 18, 19, 20, 21, 22, 23, 24, 25, 26, 27, 28, 29, 30, 31, 32, 33, 34, 35, 36, 37, 38, 39, 40, 41, 42, 43, 44, 45, 46, 47, 48, 49, 50, 51, 52, 53, 54, 55, 56, 57, 58, 59, 60, 61, 62, 63, 64, 65, 66, 67, 68, 69, 70, 71, 72, 73] (by decide +kernel) (by decide +kernel)) (goodIn_sub (fun _ h => List.mem_cons_of_mem _ (List.mem_append_left _ (List.mem_append_right _ h))) (by decide +kernel))) (goodIn_sub (fun _ h => List.mem_cons_of_mem _ (List.mem_append_right _ h)) (by decide +kernel))
set_option maxRecDepth 20000 in
theorem gL_nth_X7_nth : GoodIn wsL_nth (wsV RL 37 RX7 yX7_nth wsX7_nth) := goodIn_app (goodIn_of _ (by decide +kernel)) ggL_nth_X7_nth
theorem dL_nth_0 : decode cL_nth 0 = .ok (.aload_n 3, 1) := by decide +kernel
theorem dL_nth_1 : decode cL_nth 1 = .ok (.iconst 0, 1) := by decide +kernel
theorem dL_nth_2 : decode cL_nth 2 = .ok (.aload_n 0, 1) := by decide +kernel
theorem dL_nth_3 : decode cL_nth 3 = .ok (.iload_n 1, 1) := by decide +kernel
theorem dL_nth_4 : decode cL_nth 4 = .ok (.iload_n 2, 1) := by decide +kernel
theorem dL_nth_5 : decode cL_nth 5 = .ok (.invokevirtual 37, 3) := by decide +kernel
theorem dL_nth_8 : decode cL_nth 8 = .ok (.i2l, 1) := by decide +kernel
theorem dL_nth_9 : decode cL_nth 9 = .ok (.lastore, 1) := by decide +kernel
theorem dL_nth_10 : decode cL_nth 10 = .ok (.goto 11, 3) := by decide +kernel
theorem dL_nth_13 : decode cL_nth 13 = .ok (.astore 4, 2) := by decide +kernel
theorem dL_nth_15 : decode cL_nth 15 = .ok (.iconst 1, 1) := by decide +kernel
theorem dL_nth_16 : decode cL_nth 16 = .ok (.ireturn, 1) := by decide +kernel
theorem dL_nth_17 : decode cL_nth 17 = .ok (.astore 4, 2) := by decide +kernel
theorem dL_nth_19 : decode cL_nth 19 = .ok (.iconst 2, 1) := by decide +kernel
theorem dL_nth_20 : decode cL_nth 20 = .ok (.ireturn, 1) := by decide +kernel
theorem dL_nth_21 : decode cL_nth 21 = .ok (.iconst 0, 1) := by decide +kernel
theorem dL_nth_22 : decode cL_nth 22 = .ok (.ireturn, 1) := by decide +kernel
set_option maxRecDepth 20000 in
theorem ggL_weight_X7_weight : GoodIn wsL_weight wsX7_weight := goodIn_ca (goodIn_r _ [6, 7, 8, 9, 5, 10, 11, 12, 13, 14, 15, 16, 17, 18, 19, 20, 21, 22, 23, 24, 25, 26, 27, 28, 29, 30, 31, 32, 33, 34, 35, 36, 37, 38, 39, 40, 41, 42, 43, 44, 45, 46, 47, 48, 49, 50, 51, 52, 53, 54, 55, 56, 57, 58, 59, 60, 61, 62, 63, 64, 65, 66, 67, 68, 69] (by decide +kernel) (by decide +kernel)) (goodIn_sub (fun _ h => List.mem_cons_of_mem _ (List.mem_append_right _ h)) (by decide +kernel))
set_option maxRecDepth 20000 in
theorem gL_weight_X7_weight : GoodIn wsL_weight (wsV RL 42 RX7 yX7_weight wsX7_weight) := goodIn_app (goodIn_of _ (by decide +kernel)) ggL_weight_X7_weight
theorem dL_weight_0 : decode cL_weight 0 = .ok (.aload_n 3, 1) := by decide +kernel
theorem dL_weight_1 : decode cL_weight 1 = .ok (.iconst 0, 1) := by decide +kernel
theorem dL_weight_2 : decode cL_weight 2 = .ok (.aload_n 0, 1) := by decide +kernel
theorem dL_weight_3 : decode cL_weight 3 = .ok (.iload_n 1, 1) := by decide +kernel
theorem dL_weight_4 : decode cL_weight 4 = .ok (.iload_n 2, 1) := by decide +kernel
theorem dL_weight_5 : decode cL_weight 5 = .ok (.invokevirtual 42, 3) := by decide +kernel
theorem dL_weight_8 : decode cL_weight 8 = .ok (.i2l, 1) := by decide +kernel
theorem dL_weight_9 : decode cL_weight 9 = .ok (.lastore, 1) := by decide +kernel
theorem dL_weight_10 : decode cL_weight 10 = .ok (.goto 7, 3) := by decide +kernel
theorem dL_weight_13 : decode cL_weight 13 = .ok (.astore 4, 2) := by decide +kernel
theorem dL_weight_15 : decode cL_weight 15 = .ok (.iconst 1, 1) := by decide +kernel
theorem dL_weight_16 : decode cL_weight 16 = .ok (.ireturn, 1) := by decide +kernel
theorem dL_weight_17 : decode cL_weight 17 = .ok (.iconst 0, 1) := by decide +kernel
theorem dL_weight_18 : decode cL_weight 18 = .ok (.ireturn, 1) := by decide +kernel
set_option maxRecDepth 20000 in
theorem ggL_count_X7_count : GoodIn wsL_count wsX7_count := goodIn_ca (goodIn_r _ [6, 7, 8, 9, 5, 10, 11, 12, 13, 14, 15, 16, 17, 18, 19, 20, 21, 22, 23, 24, 25, 26, 27, 28, 29, 30, 31, 32, 33, 34, 35, 36, 37, 38, 39, 40, 41, 42, 43, 44, 45, 46, 47, 48, 49, 50, 51, 52, 53, 54, 55, 56, 57, 58, 59, 60, 61, 62, 63, 64, 65, 66, 67, 68, 69, 70, 71, 72] (by decide +kernel) (by decide +kernel)) (goodIn_sub (fun _ h => List.mem_cons_of_mem _ (List.mem_append_right _ h)) (by decide +kernel))
set_option maxRecDepth 20000 in
theorem gL_count_X7_count : GoodIn wsL_count (wsV RL 45 RX7 yX7_count wsX7_count) := goodIn_app (goodIn_of _ (by decide +kernel)) ggL_count_X7_count
theorem dL_count_0 : decode cL_count 0 = .ok (.aload_n 3, 1) := by decide +kernel
theorem dL_count_1 : decode cL_count 1 = .ok (.iconst 0, 1) := by decide +kernel
theorem dL_count_2 : decode cL_count 2 = .ok (.aload_n 0, 1) := by decide +kernel
theorem dL_count_3 : decode cL_count 3 = .ok (.iload_n 1, 1) := by decide +kernel
theorem dL_count_4 : decode cL_count 4 = .ok (.iload_n 2, 1) := by decide +kernel
theorem dL_count_5 : decode cL_count 5 = .ok (.invokevirtual 45, 3) := by decide +kernel
theorem dL_count_8 : decode cL_count 8 = .ok (.i2l, 1) := by decide +kernel
theorem dL_count_9 : decode cL_count 9 = .ok (.lastore, 1) := by decide +kernel
theorem dL_count_10 : decode cL_count 10 = .ok (.goto 7, 3) := by decide +kernel
theorem dL_count_13 : decode cL_count 13 = .ok (.astore 4, 2) := by decide +kernel
theorem dL_count_15 : decode cL_count 15 = .ok (.iconst 1, 1) := by decide +kernel
theorem dL_count_16 : decode cL_count 16 = .ok (.ireturn, 1) := by decide +kernel
theorem dL_count_17 : decode cL_count 17 = .ok (.iconst 0, 1) := by decide +kernel
theorem dL_count_18 : decode cL_count 18 = .ok (.ireturn, 1) := by decide +kernel
set_option maxRecDepth 20000 in
theorem ggL_house_X7_house : GoodIn wsL_house wsX7_house := goodIn_ca (goodIn_ca (goodIn_r _ [7, 8, 9, 10, 11, 6, 12, 13, 14, 15, 16, 17, 18, 19, 20, 21, 22, 23, 24, 25, 26, 27, 28, 29, 30, 31, 32, 33, 34, 35, 36, 37, 38, 39, 40, 41, 42, 43, 44, 45, 46, 47, 48, 49, 50, 51, 52, 53, 54, 55, 56, 57, 58, 59, 60, 61, 62, 63, 64, 65, 66, 67, 68, 69, 70, 71, 72, 73, 74, 75, 76, 77, 78, 79, 80, 81, 82, 83, 84, 85, 86, 87, 88, 89, 90, 91] (by decide +kernel) (by decide +kernel)) (goodIn_sub (fun _ h => List.mem_cons_of_mem _ (List.mem_append_left _ (List.mem_append_right _ h))) (by decide +kernel))) (goodIn_sub (fun _ h => List.mem_cons_of_mem _ (List.mem_append_right _ h)) (by decide +kernel))
set_option maxRecDepth 20000 in
theorem gL_house_X7_house : GoodIn wsL_house (wsV RL 48 RX7 yX7_house wsX7_house) := goodIn_app (goodIn_of _ (by decide +kernel)) ggL_house_X7_house
theorem dL_house_0 : decode cL_house 0 = .ok (.aload_n 3, 1) := by decide +kernel
theorem dL_house_1 : decode cL_house 1 = .ok (.iconst 0, 1) := by decide +kernel
theorem dL_house_2 : decode cL_house 2 = .ok (.aload_n 0, 1) := by decide +kernel
theorem dL_house_3 : decode cL_house 3 = .ok (.iload_n 1, 1) := by decide +kernel
theorem dL_house_4 : decode cL_house 4 = .ok (.iload_n 2, 1) := by decide +kernel
theorem dL_house_5 : decode cL_house 5 = .ok (.invokevirtual 48, 3) := by decide +kernel
theorem dL_house_8 : decode cL_house 8 = .ok (.i2l, 1) := by decide +kernel
theorem dL_house_9 : decode cL_house 9 = .ok (.lastore, 1) := by decide +kernel
theorem dL_house_10 : decode cL_house 10 = .ok (.goto 11, 3) := by decide +kernel
theorem dL_house_13 : decode cL_house 13 = .ok (.astore 4, 2) := by decide +kernel
theorem dL_house_15 : decode cL_house 15 = .ok (.iconst 1, 1) := by decide +kernel
theorem dL_house_16 : decode cL_house 16 = .ok (.ireturn, 1) := by decide +kernel
theorem dL_house_17 : decode cL_house 17 = .ok (.astore 4, 2) := by decide +kernel
theorem dL_house_19 : decode cL_house 19 = .ok (.iconst 2, 1) := by decide +kernel
theorem dL_house_20 : decode cL_house 20 = .ok (.ireturn, 1) := by decide +kernel
theorem dL_house_21 : decode cL_house 21 = .ok (.iconst 0, 1) := by decide +kernel
theorem dL_house_22 : decode cL_house 22 = .ok (.ireturn, 1) := by decide +kernel
set_option maxRecDepth 20000 in
theorem ggL_houseOf_X7_houseOf : GoodIn wsL_houseOf wsX7_houseOf := goodIn_ca (goodIn_r _ [6, 7, 8, 9, 10, 5, 11, 12, 13, 14, 15, 16, 17, 18, 19, 20, 21, 22, 23, 24, 25, 26, 27, 28, 29, 30, 31, 32, 33, 34, 35, 36, 37, 38, 39, 40, 41, 42, 43, 44, 45, 46, 47, 48, 49, 50, 51, 52, 53, 54, 55, 56, 57, 58, 59] (by decide +kernel) (by decide +kernel)) (goodIn_sub (fun _ h => List.mem_cons_of_mem _ (List.mem_append_right _ h)) (by decide +kernel))
set_option maxRecDepth 20000 in
theorem gL_houseOf_X7_houseOf : GoodIn wsL_houseOf (wsV RL 51 RX7 yX7_houseOf wsX7_houseOf) := goodIn_app (goodIn_of _ (by decide +kernel)) ggL_houseOf_X7_houseOf
theorem dL_houseOf_0 : decode cL_houseOf 0 = .ok (.aload_n 3, 1) := by decide +kernel
theorem dL_houseOf_1 : decode cL_houseOf 1 = .ok (.iconst 0, 1) := by decide +kernel
theorem dL_houseOf_2 : decode cL_houseOf 2 = .ok (.aload_n 0, 1) := by decide +kernel
theorem dL_houseOf_3 : decode cL_houseOf 3 = .ok (.iload_n 1, 1) := by decide +kernel
theorem dL_houseOf_4 : decode cL_houseOf 4 = .ok (.iload_n 2, 1) := by decide +kernel
theorem dL_houseOf_5 : decode cL_houseOf 5 = .ok (.invokevirtual 51, 3) := by decide +kernel
theorem dL_houseOf_8 : decode cL_houseOf 8 = .ok (.i2l, 1) := by decide +kernel
theorem dL_houseOf_9 : decode cL_houseOf 9 = .ok (.lastore, 1) := by decide +kernel
theorem dL_houseOf_10 : decode cL_houseOf 10 = .ok (.goto 7, 3) := by decide +kernel
theorem dL_houseOf_13 : decode cL_houseOf 13 = .ok (.astore 4, 2) := by decide +kernel
theorem dL_houseOf_15 : decode cL_houseOf 15 = .ok (.iconst 1, 1) := by decide +kernel
theorem dL_houseOf_16 : decode cL_houseOf 16 = .ok (.ireturn, 1) := by decide +kernel
theorem dL_houseOf_17 : decode cL_houseOf 17 = .ok (.iconst 0, 1) := by decide +kernel
theorem dL_houseOf_18 : decode cL_houseOf 18 = .ok (.ireturn, 1) := by decide +kernel
set_option maxRecDepth 20000 in
theorem ggL_between_X7_between : GoodIn wsL_between wsX7_between := goodIn_ca (goodIn_r _ [6, 7, 8, 9, 10, 5, 11, 12, 13, 14, 15, 16, 17, 18, 19, 20, 21, 22, 23, 24, 25, 26, 27, 28, 29, 30, 31, 32, 33, 34, 35, 36, 37, 38, 39, 40, 41, 42, 43, 44, 45] (by decide +kernel) (by decide +kernel)) (goodIn_sub (fun _ h => List.mem_cons_of_mem _ (List.mem_append_right _ h)) (by decide +kernel))
set_option maxRecDepth 20000 in
theorem gL_between_X7_between : GoodIn wsL_between (wsV RL 54 RX7 yX7_between wsX7_between) := goodIn_app (goodIn_of _ (by decide +kernel)) ggL_between_X7_between
theorem dL_between_0 : decode cL_between 0 = .ok (.aload_n 3, 1) := by decide +kernel
theorem dL_between_1 : decode cL_between 1 = .ok (.iconst 0, 1) := by decide +kernel
theorem dL_between_2 : decode cL_between 2 = .ok (.aload_n 0, 1) := by decide +kernel
theorem dL_between_3 : decode cL_between 3 = .ok (.iload_n 1, 1) := by decide +kernel
theorem dL_between_4 : decode cL_between 4 = .ok (.iload_n 2, 1) := by decide +kernel
theorem dL_between_5 : decode cL_between 5 = .ok (.invokevirtual 54, 3) := by decide +kernel
theorem dL_between_8 : decode cL_between 8 = .ok (.i2l, 1) := by decide +kernel
theorem dL_between_9 : decode cL_between 9 = .ok (.lastore, 1) := by decide +kernel
theorem dL_between_10 : decode cL_between 10 = .ok (.goto 7, 3) := by decide +kernel
theorem dL_between_13 : decode cL_between 13 = .ok (.astore 4, 2) := by decide +kernel
theorem dL_between_15 : decode cL_between 15 = .ok (.iconst 1, 1) := by decide +kernel
theorem dL_between_16 : decode cL_between 16 = .ok (.ireturn, 1) := by decide +kernel
theorem dL_between_17 : decode cL_between 17 = .ok (.iconst 0, 1) := by decide +kernel
theorem dL_between_18 : decode cL_between 18 = .ok (.ireturn, 1) := by decide +kernel
set_option maxRecDepth 20000 in
theorem ggL_whole_X7_whole : GoodIn wsL_whole wsX7_whole := goodIn_ca (goodIn_r _ [6, 7, 8, 9, 10, 5, 11, 12, 13, 14, 15, 16, 17, 18, 19, 20, 21, 22, 23, 24, 25, 26, 27, 28, 29, 30, 31, 32, 33, 34, 35, 36, 37, 38, 39, 40, 41, 42, 43, 44, 45, 46, 47, 48, 49, 50, 51, 52, 53, 54, 55, 56, 57, 58, 59, 60, 61, 62, 63, 64, 65, 66, 67, 68, 69, 70, 71, 72, 73, 74, 75, 76, 77, 78, 79, 80, 81, 82, 83, 84, 85, 86, 87, 88, 89, 90, 91, 92, 93, 94, 95, 96, 97, 98, 99, 100, 101, 102, 103] (by decide +kernel) (by decide +kernel)) (goodIn_sub (fun _ h => List.mem_cons_of_mem _ (List.mem_append_right _ h)) (by decide +kernel))
set_option maxRecDepth 20000 in
theorem gL_whole_X7_whole : GoodIn wsL_whole (wsV RL 57 RX7 yX7_whole wsX7_whole) := goodIn_app (goodIn_of _ (by decide +kernel)) ggL_whole_X7_whole
theorem dL_whole_0 : decode cL_whole 0 = .ok (.aload_n 2, 1) := by decide +kernel
theorem dL_whole_1 : decode cL_whole 1 = .ok (.iconst 0, 1) := by decide +kernel
theorem dL_whole_2 : decode cL_whole 2 = .ok (.aload_n 0, 1) := by decide +kernel
theorem dL_whole_3 : decode cL_whole 3 = .ok (.iload_n 1, 1) := by decide +kernel
theorem dL_whole_4 : decode cL_whole 4 = .ok (.invokevirtual 57, 3) := by decide +kernel
theorem dL_whole_7 : decode cL_whole 7 = .ok (.i2l, 1) := by decide +kernel
theorem dL_whole_8 : decode cL_whole 8 = .ok (.lastore, 1) := by decide +kernel
theorem dL_whole_9 : decode cL_whole 9 = .ok (.goto 6, 3) := by decide +kernel
theorem dL_whole_12 : decode cL_whole 12 = .ok (.astore_n 3, 1) := by decide +kernel
theorem dL_whole_13 : decode cL_whole 13 = .ok (.iconst 1, 1) := by decide +kernel
theorem dL_whole_14 : decode cL_whole 14 = .ok (.ireturn, 1) := by decide +kernel
theorem dL_whole_15 : decode cL_whole 15 = .ok (.iconst 0, 1) := by decide +kernel
theorem dL_whole_16 : decode cL_whole 16 = .ok (.ireturn, 1) := by decide +kernel
set_option maxRecDepth 20000 in
theorem ggL_reason_X7_reason : GoodIn wsL_reason wsX7_reason := goodIn_ca (goodIn_r _ [6, 7, 8, 9, 10, 5, 11, 12, 13, 14, 15, 16, 17, 18, 19, 20, 21, 22, 23, 24, 25, 26, 27, 28, 29, 30, 31, 32, 33, 34, 35, 36, 37, 38, 39, 40, 41, 42, 43, 44, 45, 46, 47, 48, 49, 50, 51, 52, 53, 54, 55, 56, 57, 58, 59, 60, 61, 62, 63, 64, 65, 66, 67, 68, 69, 70, 71, 72, 73, 74, 75, 76, 77, 78, 79, 80, 81, 82, 83, 84, 85, 86] (by decide +kernel) (by decide +kernel)) (goodIn_sub (fun _ h => List.mem_cons_of_mem _ (List.mem_append_right _ h)) (by decide +kernel))
set_option maxRecDepth 20000 in
theorem gL_reason_X7_reason : GoodIn wsL_reason (wsV RL 60 RX7 yX7_reason wsX7_reason) := goodIn_app (goodIn_of _ (by decide +kernel)) ggL_reason_X7_reason
theorem dL_reason_0 : decode cL_reason 0 = .ok (.aload_n 3, 1) := by decide +kernel
theorem dL_reason_1 : decode cL_reason 1 = .ok (.iconst 0, 1) := by decide +kernel
theorem dL_reason_2 : decode cL_reason 2 = .ok (.aload_n 0, 1) := by decide +kernel
theorem dL_reason_3 : decode cL_reason 3 = .ok (.iload_n 1, 1) := by decide +kernel
theorem dL_reason_4 : decode cL_reason 4 = .ok (.iload_n 2, 1) := by decide +kernel
theorem dL_reason_5 : decode cL_reason 5 = .ok (.invokevirtual 60, 3) := by decide +kernel
theorem dL_reason_8 : decode cL_reason 8 = .ok (.i2l, 1) := by decide +kernel
theorem dL_reason_9 : decode cL_reason 9 = .ok (.lastore, 1) := by decide +kernel
theorem dL_reason_10 : decode cL_reason 10 = .ok (.goto 7, 3) := by decide +kernel
theorem dL_reason_13 : decode cL_reason 13 = .ok (.astore 4, 2) := by decide +kernel
theorem dL_reason_15 : decode cL_reason 15 = .ok (.iconst 1, 1) := by decide +kernel
theorem dL_reason_16 : decode cL_reason 16 = .ok (.ireturn, 1) := by decide +kernel
theorem dL_reason_17 : decode cL_reason 17 = .ok (.iconst 0, 1) := by decide +kernel
theorem dL_reason_18 : decode cL_reason 18 = .ok (.ireturn, 1) := by decide +kernel
set_option maxRecDepth 20000 in
theorem ggL_savedBy_X7_savedBy : GoodIn wsL_savedBy wsX7_savedBy := goodIn_ca (goodIn_r _ [6, 7, 8, 9, 10, 5, 11, 12, 13, 14, 15, 16, 17, 18, 19, 20, 21, 22, 23, 24, 25, 26, 27, 28, 29, 30, 31, 32, 33, 34, 35, 36, 37, 38, 39, 40, 41, 42, 43, 44, 45, 46, 47, 48, 49, 50, 51, 52, 53, 54, 55, 56, 57, 58, 59, 60, 61, 62, 63, 64, 65, 66, 67, 68, 69, 70, 71, 72, 73, 74, 75, 76, 77] (by decide +kernel) (by decide +kernel)) (goodIn_sub (fun _ h => List.mem_cons_of_mem _ (List.mem_append_right _ h)) (by decide +kernel))
set_option maxRecDepth 20000 in
theorem gL_savedBy_X7_savedBy : GoodIn wsL_savedBy (wsV RL 63 RX7 yX7_savedBy wsX7_savedBy) := goodIn_app (goodIn_of _ (by decide +kernel)) ggL_savedBy_X7_savedBy
theorem dL_savedBy_0 : decode cL_savedBy 0 = .ok (.aload_n 2, 1) := by decide +kernel
theorem dL_savedBy_1 : decode cL_savedBy 1 = .ok (.iconst 0, 1) := by decide +kernel
theorem dL_savedBy_2 : decode cL_savedBy 2 = .ok (.aload_n 0, 1) := by decide +kernel
theorem dL_savedBy_3 : decode cL_savedBy 3 = .ok (.iload_n 1, 1) := by decide +kernel
theorem dL_savedBy_4 : decode cL_savedBy 4 = .ok (.invokevirtual 63, 3) := by decide +kernel
theorem dL_savedBy_7 : decode cL_savedBy 7 = .ok (.i2l, 1) := by decide +kernel
theorem dL_savedBy_8 : decode cL_savedBy 8 = .ok (.lastore, 1) := by decide +kernel
theorem dL_savedBy_9 : decode cL_savedBy 9 = .ok (.goto 6, 3) := by decide +kernel
theorem dL_savedBy_12 : decode cL_savedBy 12 = .ok (.astore_n 3, 1) := by decide +kernel
theorem dL_savedBy_13 : decode cL_savedBy 13 = .ok (.iconst 1, 1) := by decide +kernel
theorem dL_savedBy_14 : decode cL_savedBy 14 = .ok (.ireturn, 1) := by decide +kernel
theorem dL_savedBy_15 : decode cL_savedBy 15 = .ok (.iconst 0, 1) := by decide +kernel
theorem dL_savedBy_16 : decode cL_savedBy 16 = .ok (.ireturn, 1) := by decide +kernel
set_option maxRecDepth 20000 in
theorem ggL_costWith_X7_costWith : GoodIn wsL_costWith wsX7_costWith := goodIn_ca (goodIn_r _ [6, 7, 8, 9, 10, 11, 5, 12, 13, 14, 15, 16, 17, 18, 19, 20, 21, 22, 23, 24, 25, 26, 27, 28, 29, 30, 31, 32, 33, 34, 35, 36, 37, 38, 39, 40, 41, 42, 43, 44, 45, 46, 47, 48, 49, 50, 51, 52, 53, 54, 55, 56, 57, 58, 59, 60, 61, 62, 63, 64, 65, 66, 67, 68, 69, 70, 71, 72, 73, 74, 75, 76, 77, 78, 79, 80, 81, 82, 83, 84, 85, 86, 87, 88, 89, 90, 91, 92, 93, 94, 95, 96, 97, 98, 99, 100, 101, 102, 103, 104, 105, 106, 107, 108, 109, 110, 111, 112, 113, 114, 115, 116, 117, 118, 119, 120, 121, 122, 123, 124, 125, 126, 127, 128, 129, 130, 131, 132, 133, 134, 135, 136, 137, 138, 139, 140, 141, 142, 143, 144, 145, 146, 147, 148, 149, 150, 151, 152, 153, 154, 155, 156, 157, 158, 159, 160, 161, 162, 163, 164, 165, 166, 167, 168, 169, 170, 171, 172, 173, 174, 175, 176, 177, 178, 179, 180] (by decide +kernel) (by decide +kernel)) (goodIn_sub (fun _ h => List.mem_cons_of_mem _ (List.mem_append_right _ h)) (by decide +kernel))
set_option maxRecDepth 20000 in
theorem gL_costWith_X7_costWith : GoodIn wsL_costWith (wsV RL 66 RX7 yX7_costWith wsX7_costWith) := goodIn_app (goodIn_of _ (by decide +kernel)) ggL_costWith_X7_costWith
theorem dL_costWith_0 : decode cL_costWith 0 = .ok (.aload_n 2, 1) := by decide +kernel
theorem dL_costWith_1 : decode cL_costWith 1 = .ok (.iconst 0, 1) := by decide +kernel
theorem dL_costWith_2 : decode cL_costWith 2 = .ok (.aload_n 0, 1) := by decide +kernel
theorem dL_costWith_3 : decode cL_costWith 3 = .ok (.iload_n 1, 1) := by decide +kernel
theorem dL_costWith_4 : decode cL_costWith 4 = .ok (.invokevirtual 66, 3) := by decide +kernel
theorem dL_costWith_7 : decode cL_costWith 7 = .ok (.i2l, 1) := by decide +kernel
theorem dL_costWith_8 : decode cL_costWith 8 = .ok (.lastore, 1) := by decide +kernel
theorem dL_costWith_9 : decode cL_costWith 9 = .ok (.goto 6, 3) := by decide +kernel
theorem dL_costWith_12 : decode cL_costWith 12 = .ok (.astore_n 3, 1) := by decide +kernel
theorem dL_costWith_13 : decode cL_costWith 13 = .ok (.iconst 1, 1) := by decide +kernel
theorem dL_costWith_14 : decode cL_costWith 14 = .ok (.ireturn, 1) := by decide +kernel
theorem dL_costWith_15 : decode cL_costWith 15 = .ok (.iconst 0, 1) := by decide +kernel
theorem dL_costWith_16 : decode cL_costWith 16 = .ok (.ireturn, 1) := by decide +kernel
set_option maxRecDepth 20000 in
theorem ggL_housesFor_X7_housesFor : GoodIn wsL_housesFor wsX7_housesFor := goodIn_ca (goodIn_r _ [6, 7, 8, 9, 5, 10, 11, 12, 13, 14, 15, 16, 17, 18, 19, 20, 21, 22, 23, 24, 25, 26, 27, 28, 29, 30, 31, 32, 33, 34, 35, 36, 37, 38, 39, 40, 41, 42, 43, 44, 45, 46, 47, 48, 49, 50, 51, 52, 53, 54, 55, 56, 57, 58, 59, 60, 61, 62, 63, 64, 65, 66, 67, 68, 69, 70, 71, 72, 73, 74, 75, 76, 77, 78, 79, 80, 81, 82, 83, 84, 85, 86, 87, 88, 89, 90, 91] (by decide +kernel) (by decide +kernel)) (goodIn_sub (fun _ h => List.mem_cons_of_mem _ (List.mem_append_right _ h)) (by decide +kernel))
set_option maxRecDepth 20000 in
theorem gL_housesFor_X7_housesFor : GoodIn wsL_housesFor (wsV RL 69 RX7 yX7_housesFor wsX7_housesFor) := goodIn_app (goodIn_of _ (by decide +kernel)) ggL_housesFor_X7_housesFor
theorem dL_housesFor_0 : decode cL_housesFor 0 = .ok (.aload_n 3, 1) := by decide +kernel
theorem dL_housesFor_1 : decode cL_housesFor 1 = .ok (.iconst 0, 1) := by decide +kernel
theorem dL_housesFor_2 : decode cL_housesFor 2 = .ok (.aload_n 0, 1) := by decide +kernel
theorem dL_housesFor_3 : decode cL_housesFor 3 = .ok (.iload_n 1, 1) := by decide +kernel
theorem dL_housesFor_4 : decode cL_housesFor 4 = .ok (.iload_n 2, 1) := by decide +kernel
theorem dL_housesFor_5 : decode cL_housesFor 5 = .ok (.invokevirtual 69, 3) := by decide +kernel
theorem dL_housesFor_8 : decode cL_housesFor 8 = .ok (.i2l, 1) := by decide +kernel
theorem dL_housesFor_9 : decode cL_housesFor 9 = .ok (.lastore, 1) := by decide +kernel
theorem dL_housesFor_10 : decode cL_housesFor 10 = .ok (.goto 7, 3) := by decide +kernel
theorem dL_housesFor_13 : decode cL_housesFor 13 = .ok (.astore 4, 2) := by decide +kernel
theorem dL_housesFor_15 : decode cL_housesFor 15 = .ok (.iconst 1, 1) := by decide +kernel
theorem dL_housesFor_16 : decode cL_housesFor 16 = .ok (.ireturn, 1) := by decide +kernel
theorem dL_housesFor_17 : decode cL_housesFor 17 = .ok (.iconst 0, 1) := by decide +kernel
theorem dL_housesFor_18 : decode cL_housesFor 18 = .ok (.ireturn, 1) := by decide +kernel
set_option maxRecDepth 20000 in
theorem ggL_type_X7_type : GoodIn wsL_type wsX7_type := goodIn_ca (goodIn_ca (goodIn_r _ [7, 8, 9, 10, 11, 12, 13, 14, 15, 16, 17, 18, 19, 20, 21, 22, 23, 24, 25, 26, 27, 28, 29, 30, 31, 32, 33, 34, 35, 36, 37] (by decide +kernel) (by decide +kernel)) (goodIn_sub (fun _ h => List.mem_cons_of_mem _ (List.mem_append_left _ (List.mem_append_right _ h))) (by decide +kernel))) (goodIn_sub (fun _ h => List.mem_cons_of_mem _ (List.mem_append_right _ h)) (by decide +kernel))
set_option maxRecDepth 20000 in
theorem gL_type_X7_type : GoodIn wsL_type (wsV RL 72 RX7 yX7_type wsX7_type) := goodIn_app (goodIn_of _ (by decide +kernel)) ggL_type_X7_type
theorem dL_type_0 : decode cL_type 0 = .ok (.aload_n 2, 1) := by decide +kernel
theorem dL_type_1 : decode cL_type 1 = .ok (.iconst 0, 1) := by decide +kernel
theorem dL_type_2 : decode cL_type 2 = .ok (.aload_n 0, 1) := by decide +kernel
theorem dL_type_3 : decode cL_type 3 = .ok (.iload_n 1, 1) := by decide +kernel
theorem dL_type_4 : decode cL_type 4 = .ok (.invokevirtual 72, 3) := by decide +kernel
theorem dL_type_7 : decode cL_type 7 = .ok (.i2l, 1) := by decide +kernel
theorem dL_type_8 : decode cL_type 8 = .ok (.lastore, 1) := by decide +kernel
theorem dL_type_9 : decode cL_type 9 = .ok (.goto 9, 3) := by decide +kernel
theorem dL_type_12 : decode cL_type 12 = .ok (.astore_n 3, 1) := by decide +kernel
theorem dL_type_13 : decode cL_type 13 = .ok (.iconst 1, 1) := by decide +kernel
theorem dL_type_14 : decode cL_type 14 = .ok (.ireturn, 1) := by decide +kernel
theorem dL_type_15 : decode cL_type 15 = .ok (.astore_n 3, 1) := by decide +kernel
theorem dL_type_16 : decode cL_type 16 = .ok (.iconst 2, 1) := by decide +kernel
theorem dL_type_17 : decode cL_type 17 = .ok (.ireturn, 1) := by decide +kernel
theorem dL_type_18 : decode cL_type 18 = .ok (.iconst 0, 1) := by decide +kernel
theorem dL_type_19 : decode cL_type 19 = .ok (.ireturn, 1) := by decide +kernel
set_option maxRecDepth 20000 in
theorem ggL_undo_X7_undo : GoodIn wsL_undo wsX7_undo := goodIn_ca (goodIn_r _ [6, 7, 8, 9, 10, 11, 12, 13, 14, 15, 16, 17, 18, 19, 20, 21, 22, 23, 24, 25, 26, 27, 28, 29, 30, 31, 32, 33, 34, 35, 36, 37, 38, 39, 40, 41, 42, 43, 44, 45, 46, 47, 48, 49, 50, 51, 52, 53, 54, 55, 56, 57, 58, 59, 60, 61, 62, 63, 64, 65, 66, 67, 68, 69, 70, 71, 72, 73, 74, 75, 76, 77, 78, 79, 80, 81, 82, 83, 84, 85, 86, 87, 88, 89, 90, 91, 92, 93, 94, 95, 96, 97, 98, 99, 100, 101, 102, 103, 104, 105, 106, 107, 108, 109, 110, 111, 112, 113, 114, 115, 116, 117, 118, 119, 120, 121, 122, 123, 124, 125, 126, 127] (by decide +kernel) (by decide +kernel)) (goodIn_sub (fun _ h => List.mem_cons_of_mem _ (List.mem_append_right _ h)) (by decide +kernel))
set_option maxRecDepth 20000 in
theorem gL_undo_X7_undo : GoodIn wsL_undo (wsV RL 75 RX7 yX7_undo wsX7_undo) := goodIn_app (goodIn_of _ (by decide +kernel)) ggL_undo_X7_undo
theorem dL_undo_0 : decode cL_undo 0 = .ok (.aload_n 1, 1) := by decide +kernel
theorem dL_undo_1 : decode cL_undo 1 = .ok (.iconst 0, 1) := by decide +kernel
theorem dL_undo_2 : decode cL_undo 2 = .ok (.aload_n 0, 1) := by decide +kernel
theorem dL_undo_3 : decode cL_undo 3 = .ok (.invokevirtual 75, 3) := by decide +kernel
theorem dL_undo_6 : decode cL_undo 6 = .ok (.i2l, 1) := by decide +kernel
theorem dL_undo_7 : decode cL_undo 7 = .ok (.lastore, 1) := by decide +kernel
theorem dL_undo_8 : decode cL_undo 8 = .ok (.goto 6, 3) := by decide +kernel
theorem dL_undo_11 : decode cL_undo 11 = .ok (.astore_n 2, 1) := by decide +kernel
theorem dL_undo_12 : decode cL_undo 12 = .ok (.iconst 1, 1) := by decide +kernel
theorem dL_undo_13 : decode cL_undo 13 = .ok (.ireturn, 1) := by decide +kernel
theorem dL_undo_14 : decode cL_undo 14 = .ok (.iconst 0, 1) := by decide +kernel
theorem dL_undo_15 : decode cL_undo 15 = .ok (.ireturn, 1) := by decide +kernel
set_option maxRecDepth 20000 in
theorem ggL_law_X7_init : GoodIn wsL_law wsX7_init := goodIn_r _ [9, 10, 11, 12, 13, 14, 15, 16, 17, 18, 19, 20, 21, 22, 23, 24, 25, 26, 27, 28, 29, 30, 31, 32, 33, 34, 35, 36, 37, 38, 39, 40, 41, 42, 43, 44, 45, 46, 47, 48, 49, 50, 51, 52, 53, 54, 55, 56, 57, 58, 59, 60, 61, 62, 63, 64, 65, 66, 67, 68, 69, 70, 71, 72, 73, 74, 75, 76, 77, 78, 79, 80, 81, 82, 83, 84, 85, 86, 87, 88, 89, 90, 91, 92, 93, 94, 95, 96, 97, 98, 99, 100, 101, 102, 103, 104, 105, 106, 107, 108, 109, 110, 111, 112, 113, 114, 115, 116, 117, 118, 119, 120, 121, 122, 123, 124, 125, 126, 127, 128, 129, 130, 131, 132, 133, 134, 135, 136, 137, 138, 139, 140, 141, 142, 143, 144, 145, 146, 1013, 1014, 1015, 1016, 1017, 1018, 1019, 1020, 996, 997, 998, 999, 1000, 1021, 1022, 1023, 1024, 1025, 1026, 1027, 1028, 1029, 1030, 1031, 1032, 1033, 1034, 1035, 1036, 1037, 1038, 1039, 1040] (by decide +kernel) (by decide +kernel)
set_option maxRecDepth 20000 in
theorem gL_law_X7_init : GoodIn wsL_law (wsX7_init) := ggL_law_X7_init
set_option maxRecDepth 20000 in
theorem ggL_law_X8_init : GoodIn wsL_law wsX8_init := goodIn_r _ [149, 150, 11, 12, 69, 151, 152, 153, 154, 1001, 1002, 1003, 1004, 1005, 1006, 1007, 1008, 1009, 1010, 1011, 1012] (by decide +kernel) (by decide +kernel)
set_option maxRecDepth 20000 in
theorem gL_law_X8_init : GoodIn wsL_law (wsX8_init) := ggL_law_X8_init
set_option maxRecDepth 20000 in
theorem ggL_law_L_add : GoodIn wsL_law wsL_add := goodIn_ca (goodIn_ca (goodIn_r _ [158, 159, 160, 161, 162, 163, 2, 164, 165, 166, 16, 21, 167, 168, 169, 170, 171, 172, 173, 174, 175, 176, 177, 178, 179, 180, 97, 181, 102, 103, 104, 182, 183, 184, 15, 185, 186, 187, 188, 189, 37, 110, 190, 191, 192, 36, 193, 55, 53, 194, 195, 196, 197, 115, 92, 93, 40, 94, 70, 91, 198, 199, 200, 201, 44, 202, 203, 204, 20, 205, 128, 129, 206, 207, 67, 208, 209, 210, 211, 212, 127, 213, 214, 215, 216, 54, 56, 57, 58, 59, 60, 217, 218, 219, 220, 120, 121, 76, 77, 78, 221, 222, 223, 224, 225, 226, 227, 100, 101, 228, 229, 230, 231, 232, 233, 234, 235, 236, 237, 238, 239, 96, 98, 99, 240, 241, 242, 243, 244, 245, 246, 247, 71, 72, 73, 74, 75, 105, 80, 81, 82, 83, 84, 41, 46, 45, 85, 86, 87, 88, 89, 66, 68, 90, 95, 106, 107, 108, 109, 42, 43, 111, 112, 113, 114, 116, 117, 118, 119, 248, 249, 250, 251, 996, 997, 998, 999, 1000, 1013, 1014, 1015, 1016, 1017, 1018, 1019, 1020, 1032, 1033, 1034, 1035, 1036, 1037, 1038, 1039, 1040, 1021, 1022, 1023] (by decide +kernel) (by decide +kernel)) (goodIn_sub (fun _ h => List.mem_append_left _ (List.mem_append_left _ (List.mem_append_right _ h))) (by decide +kernel))) (goodIn_sub (fun _ h => List.mem_append_left _ (List.mem_append_right _ h)) (by decide +kernel))
set_option maxRecDepth 20000 in
theorem gL_law_L_add : GoodIn wsL_law (va_wsS RL 83 yL_add wsL_add) := goodIn_app (goodIn_of _ (by decide +kernel)) ggL_law_L_add
set_option maxRecDepth 20000 in
theorem ggL_law_X8_add : GoodIn wsL_law wsX8_add := goodIn_r _ [255, 256, 257, 258, 259, 5, 260, 151, 261, 262, 263, 264, 265, 266, 267, 268, 269, 270, 271, 272, 273, 274, 275, 276, 277, 278, 279, 280, 281, 282, 283, 284, 285, 286, 153, 287, 288, 289, 290, 291, 292, 293, 294, 295, 296, 297, 298, 299, 300, 301, 302, 303, 304, 305, 306, 307, 308, 309, 310, 311, 312, 313, 314, 315, 316, 317, 318, 319, 320, 321, 322, 323, 324, 325, 326, 327, 328, 329, 1001, 1002, 1003, 1004, 1005, 1006, 1007, 1008, 1009, 1010, 1011, 1012] (by decide +kernel) (by decide +kernel)
set_option maxRecDepth 20000 in
theorem gL_law_X8_add : GoodIn wsL_law (wsV RL 88 RX8 yX8_add wsX8_add) := goodIn_app (goodIn_of _ (by decide +kernel)) ggL_law_X8_add
set_option maxRecDepth 20000 in
theorem ggL_law_X8_thrown : GoodIn wsL_law wsX8_thrown := goodIn_r _ [333, 256, 1001, 1002, 1003, 1004, 1005, 1006, 1007, 1008, 1009, 1010, 1011, 1012] (by decide +kernel) (by decide +kernel)
set_option maxRecDepth 20000 in
theorem gL_law_X8_thrown : GoodIn wsL_law (wsV RL 89 RX8 yX8_thrown wsX8_thrown) := goodIn_app (goodIn_of _ (by decide +kernel)) ggL_law_X8_thrown
set_option maxRecDepth 20000 in
theorem ggL_law_L_remove : GoodIn wsL_law wsL_remove := goodIn_ca (goodIn_ca (goodIn_r _ [336, 159, 160, 337, 338, 339, 2, 340, 21, 16, 167, 168, 169, 170, 171, 172, 173, 174, 175, 179, 180, 97, 181, 102, 103, 104, 341, 342, 343, 344, 165, 166, 345, 187, 188, 15, 189, 37, 110, 190, 191, 192, 36, 193, 55, 53, 194, 195, 196, 197, 115, 92, 93, 40, 94, 70, 91, 202, 203, 204, 20, 205, 128, 129, 206, 207, 67, 208, 209, 210, 211, 212, 127, 213, 214, 215, 216, 54, 56, 57, 58, 59, 60, 217, 218, 219, 220, 120, 121, 76, 77, 78, 346, 347, 348, 349, 350, 41, 42, 105, 351, 352, 353, 354, 111, 112, 113, 114, 355, 356, 357, 358, 359, 360, 361, 362, 116, 117, 118, 119, 80, 81, 82, 83, 84, 46, 44, 45, 85, 86, 87, 88, 89, 66, 68, 90, 95, 96, 98, 99, 100, 101, 106, 107, 108, 109, 43, 996, 997, 998, 999, 1000, 1013, 1014, 1015, 1016, 1017, 1018, 1019, 1020, 1032, 1033, 1034, 1035, 1036, 1037, 1038, 1039, 1040, 1021, 1022, 1023] (by decide +kernel) (by decide +kernel)) (goodIn_sub (fun _ h => List.mem_append_left _ (List.mem_append_right _ h)) (by decide +kernel))) (goodIn_sub (fun _ h => List.mem_append_left _ (List.mem_append_left _ (List.mem_append_right _ h))) (by decide +kernel))
set_option maxRecDepth 20000 in
theorem gL_law_L_remove : GoodIn wsL_law (va_wsS RL 92 yL_remove wsL_remove) := goodIn_app (goodIn_of _ (by decide +kernel)) ggL_law_L_remove
set_option maxRecDepth 20000 in
theorem ggL_law_X8_remove : GoodIn wsL_law wsX8_remove := goodIn_r _ [366, 256, 367, 368, 369, 5, 370, 261, 262, 263, 264, 265, 266, 267, 268, 269, 270, 271, 272, 273, 151, 274, 275, 276, 277, 278, 279, 280, 281, 282, 283, 284, 285, 286, 153, 287, 288, 289, 371, 372, 373, 374, 318, 319, 320, 321, 322, 323, 324, 325, 375, 376, 377, 378, 379, 380, 381, 382, 315, 316, 317, 298, 299, 300, 301, 302, 303, 304, 305, 306, 383, 384, 385, 386, 1001, 1002, 1003, 1004, 1005, 1006, 1007, 1008, 1009, 1010, 1011, 1012] (by decide +kernel) (by decide +kernel)
set_option maxRecDepth 20000 in
theorem gL_law_X8_remove : GoodIn wsL_law (wsV RL 95 RX8 yX8_remove wsX8_remove) := goodIn_app (goodIn_of _ (by decide +kernel)) ggL_law_X8_remove
set_option maxRecDepth 20000 in
theorem ggL_law_L_setWeight : GoodIn wsL_law wsL_setWeight := goodIn_ca (goodIn_ca (goodIn_r _ [389, 159, 160, 390, 391, 392, 2, 393, 21, 16, 167, 168, 169, 170, 171, 172, 173, 174, 175, 176, 177, 178, 179, 180, 97, 181, 102, 103, 104, 341, 342, 343, 344, 165, 166, 345, 187, 188, 15, 189, 37, 110, 190, 191, 192, 36, 193, 55, 53, 194, 195, 196, 197, 115, 92, 93, 40, 94, 70, 91, 202, 203, 204, 20, 205, 128, 129, 206, 207, 67, 208, 209, 210, 211, 212, 127, 213, 214, 215, 216, 54, 56, 57, 58, 59, 60, 217, 218, 219, 220, 120, 121, 76, 77, 78, 394, 395, 396, 397, 105, 80, 81, 82, 83, 84, 41, 46, 44, 45, 85, 86, 87, 88, 89, 66, 68, 90, 95, 96, 98, 99, 100, 101, 106, 107, 108, 109, 42, 43, 111, 112, 113, 114, 116, 117, 118, 119, 996, 997, 998, 999, 1000, 1013, 1014, 1015, 1016, 1017, 1018, 1019, 1020, 1032, 1033, 1034, 1035, 1036, 1037, 1038, 1039, 1040, 1021, 1022, 1023] (by decide +kernel) (by decide +kernel)) (goodIn_sub (fun _ h => List.mem_append_left _ (List.mem_append_right _ h)) (by decide +kernel))) (goodIn_sub (fun _ h => List.mem_append_left _ (List.mem_append_left _ (List.mem_append_right _ h))) (by decide +kernel))
set_option maxRecDepth 20000 in
theorem gL_law_L_setWeight : GoodIn wsL_law (va_wsS RL 96 yL_setWeight wsL_setWeight) := goodIn_app (goodIn_of _ (by decide +kernel)) ggL_law_L_setWeight
set_option maxRecDepth 20000 in
theorem ggL_law_X8_setWeight : GoodIn wsL_law wsX8_setWeight := goodIn_r _ [401, 256, 151, 264, 265, 5, 266, 367, 368, 369, 370, 261, 262, 263, 267, 268, 269, 270, 271, 272, 273, 274, 275, 276, 277, 278, 279, 280, 281, 282, 283, 284, 285, 286, 153, 287, 288, 289, 1001, 1002, 1003, 1004, 1005, 1006, 1007, 1008, 1009, 1010, 1011, 1012] (by decide +kernel) (by decide +kernel)
set_option maxRecDepth 20000 in
theorem gL_law_X8_setWeight : GoodIn wsL_law (wsV RL 98 RX8 yX8_setWeight wsX8_setWeight) := goodIn_app (goodIn_of _ (by decide +kernel)) ggL_law_X8_setWeight
set_option maxRecDepth 20000 in
theorem ggL_law_L_setLimit : GoodIn wsL_law wsL_setLimit := goodIn_ca (goodIn_r _ [404, 159, 405, 406, 407, 2, 408, 21, 16, 167, 409, 410, 411, 171, 172, 412, 413, 414, 202, 203, 204, 20, 205, 128, 129, 206, 207, 67, 208, 209, 210, 211, 212, 127, 213, 214, 215, 36, 216, 53, 55, 54, 56, 57, 58, 59, 60, 217, 218, 219, 40, 220, 120, 92, 93, 94, 70, 121, 76, 77, 78, 415, 416, 417, 15, 418, 37, 419, 996, 997, 998, 999, 1000, 1013, 1014, 1015, 1016, 1017, 1018, 1019, 1020, 1021, 1022, 1023, 1032, 1033, 1034, 1035, 1036, 1037, 1038, 1039, 1040] (by decide +kernel) (by decide +kernel)) (goodIn_sub (fun _ h => List.mem_append_left _ (List.mem_append_right _ h)) (by decide +kernel))
set_option maxRecDepth 20000 in
theorem gL_law_L_setLimit : GoodIn wsL_law (va_wsS RL 99 yL_setLimit wsL_setLimit) := goodIn_app (goodIn_of _ (by decide +kernel)) ggL_law_L_setLimit
set_option maxRecDepth 20000 in
theorem ggL_law_X8_setLimit : GoodIn wsL_law wsX8_setLimit := goodIn_r _ [423, 256, 151, 424, 425, 5, 426, 264, 265, 266, 282, 283, 284, 285, 286, 153, 287, 288, 289, 1001, 1002, 1003, 1004, 1005, 1006, 1007, 1008, 1009, 1010, 1011, 1012] (by decide +kernel) (by decide +kernel)
set_option maxRecDepth 20000 in
theorem gL_law_X8_setLimit : GoodIn wsL_law (wsV RL 102 RX8 yX8_setLimit wsX8_setLimit) := goodIn_app (goodIn_of _ (by decide +kernel)) ggL_law_X8_setLimit
set_option maxRecDepth 20000 in
theorem ggL_law_L_moveIn : GoodIn wsL_law wsL_moveIn := goodIn_ca (goodIn_ca (goodIn_r _ [429, 159, 160, 430, 431, 432, 2, 433, 165, 166, 16, 21, 167, 173, 174, 175, 171, 172, 179, 180, 97, 181, 102, 103, 104, 434, 435, 436, 15, 437, 37, 190, 191, 192, 36, 193, 55, 53, 194, 195, 196, 197, 115, 92, 93, 40, 94, 70, 438, 439, 440, 441, 42, 419, 111, 112, 113, 114, 54, 91, 442, 443, 444, 445, 446, 447, 448, 449, 90, 41, 227, 100, 101, 202, 203, 204, 20, 205, 128, 129, 206, 207, 67, 208, 209, 210, 211, 212, 127, 213, 214, 215, 216, 56, 57, 58, 59, 60, 217, 218, 219, 220, 120, 121, 76, 77, 78, 450, 451, 452, 453, 454, 355, 356, 357, 358, 359, 360, 361, 362, 80, 81, 82, 83, 84, 46, 44, 45, 85, 86, 87, 88, 89, 66, 68, 95, 96, 98, 99, 105, 106, 107, 108, 109, 43, 110, 116, 117, 118, 119, 996, 997, 998, 999, 1000, 1013, 1014, 1015, 1016, 1017, 1018, 1019, 1020, 1032, 1033, 1034, 1035, 1036, 1037, 1038, 1039, 1040, 1021, 1022, 1023] (by decide +kernel) (by decide +kernel)) (goodIn_sub (fun _ h => List.mem_append_left _ (List.mem_append_left _ (List.mem_append_right _ h))) (by decide +kernel))) (goodIn_sub (fun _ h => List.mem_append_left _ (List.mem_append_right _ h)) (by decide +kernel))
set_option maxRecDepth 20000 in
theorem gL_law_L_moveIn : GoodIn wsL_law (va_wsS RL 103 yL_moveIn wsL_moveIn) := goodIn_app (goodIn_of _ (by decide +kernel)) ggL_law_L_moveIn
set_option maxRecDepth 20000 in
theorem ggL_law_X8_moveIn : GoodIn wsL_law wsX8_moveIn := goodIn_r _ [458, 256, 459, 460, 461, 5, 462, 261, 262, 263, 264, 265, 266, 267, 268, 269, 318, 319, 320, 321, 151, 322, 323, 324, 325, 463, 464, 465, 466, 270, 271, 272, 273, 274, 275, 276, 277, 278, 279, 280, 281, 375, 376, 377, 378, 379, 380, 381, 382, 315, 316, 317, 298, 299, 300, 301, 302, 303, 304, 305, 306, 467, 468, 469, 470, 282, 283, 284, 285, 286, 153, 287, 288, 289, 471, 472, 473, 474, 383, 384, 385, 386, 1001, 1002, 1003, 1004, 1005, 1006, 1007, 1008, 1009, 1010, 1011, 1012] (by decide +kernel) (by decide +kernel)
set_option maxRecDepth 20000 in
theorem gL_law_X8_moveIn : GoodIn wsL_law (wsV RL 105 RX8 yX8_moveIn wsX8_moveIn) := goodIn_app (goodIn_of _ (by decide +kernel)) ggL_law_X8_moveIn
set_option maxRecDepth 20000 in
theorem ggL_law_L_evict : GoodIn wsL_law wsL_evict := goodIn_ca (goodIn_ca (goodIn_r _ [477, 159, 160, 478, 479, 480, 2, 481, 165, 166, 16, 21, 167, 173, 174, 175, 171, 172, 179, 180, 97, 181, 102, 103, 104, 482, 483, 484, 15, 485, 37, 190, 191, 192, 36, 193, 55, 53, 194, 195, 196, 197, 115, 92, 93, 40, 94, 70, 235, 236, 237, 238, 239, 96, 98, 99, 100, 101, 202, 203, 204, 20, 205, 128, 129, 206, 207, 67, 208, 209, 210, 211, 212, 127, 213, 214, 215, 216, 54, 56, 57, 58, 59, 60, 217, 218, 219, 220, 120, 121, 76, 77, 78, 486, 487, 488, 489, 225, 240, 241, 242, 243, 244, 245, 246, 247, 71, 72, 73, 74, 75, 80, 81, 82, 83, 84, 41, 46, 44, 45, 85, 86, 87, 88, 89, 66, 68, 90, 91, 95, 105, 106, 107, 108, 109, 42, 43, 110, 111, 112, 113, 114, 116, 117, 118, 119, 490, 491, 492, 493, 446, 447, 448, 449, 227, 996, 997, 998, 999, 1000, 1013, 1014, 1015, 1016, 1017, 1018, 1019, 1020, 1032, 1033, 1034, 1035, 1036, 1037, 1038, 1039, 1040, 1021, 1022, 1023] (by decide +kernel) (by decide +kernel)) (goodIn_sub (fun _ h => List.mem_append_left _ (List.mem_append_left _ (List.mem_append_right _ h))) (by decide +kernel))) (goodIn_sub (fun _ h => List.mem_append_left _ (List.mem_append_right _ h)) (by decide +kernel))
set_option maxRecDepth 20000 in
theorem gL_law_L_evict : GoodIn wsL_law (va_wsS RL 106 yL_evict wsL_evict) := goodIn_app (goodIn_of _ (by decide +kernel)) ggL_law_L_evict
set_option maxRecDepth 20000 in
theorem ggL_law_X8_evict : GoodIn wsL_law wsX8_evict := goodIn_r _ [497, 256, 498, 499, 500, 5, 501, 261, 262, 263, 264, 265, 266, 267, 268, 269, 307, 308, 309, 310, 298, 299, 300, 311, 312, 313, 314, 151, 278, 279, 280, 281, 315, 316, 317, 301, 302, 303, 304, 305, 306, 318, 319, 320, 321, 322, 323, 324, 325, 282, 283, 284, 285, 286, 153, 287, 288, 289, 502, 503, 504, 505, 326, 327, 328, 329, 467, 468, 469, 470, 379, 380, 381, 382, 1001, 1002, 1003, 1004, 1005, 1006, 1007, 1008, 1009, 1010, 1011, 1012] (by decide +kernel) (by decide +kernel)
set_option maxRecDepth 20000 in
theorem gL_law_X8_evict : GoodIn wsL_law (wsV RL 108 RX8 yX8_evict wsX8_evict) := goodIn_app (goodIn_of _ (by decide +kernel)) ggL_law_X8_evict
set_option maxRecDepth 20000 in
theorem ggL_law_X7_compress : GoodIn wsL_law wsX7_compress := goodIn_r _ [509, 21, 16, 167, 202, 203, 204, 20, 205, 128, 129, 206, 207, 67, 208, 209, 210, 211, 212, 127, 213, 214, 215, 36, 216, 53, 55, 54, 56, 57, 58, 59, 60, 217, 218, 219, 40, 220, 120, 92, 93, 94, 70, 121, 76, 77, 78, 510, 511, 512, 15, 513, 37, 84, 47, 41, 454, 438, 439, 440, 441, 42, 419, 111, 112, 113, 114, 115, 91, 442, 443, 444, 445, 446, 447, 448, 449, 90, 227, 100, 97, 101, 105, 514, 515, 516, 517, 71, 72, 73, 74, 75, 80, 81, 82, 83, 46, 44, 45, 85, 86, 87, 88, 89, 66, 68, 95, 96, 98, 99, 102, 103, 104, 106, 107, 108, 109, 43, 110, 116, 117, 118, 119, 996, 997, 998, 999, 1000, 1013, 1014, 1015, 1016, 1017, 1018, 1019, 1020, 1021, 1022, 1023, 1032, 1033, 1034, 1035, 1036, 1037, 1038, 1039, 1040] (by decide +kernel) (by decide +kernel)
set_option maxRecDepth 20000 in
theorem gL_law_X7_compress : GoodIn wsL_law (wsV RL 109 RX7 yX7_compress wsX7_compress) := goodIn_app (goodIn_of _ (by decide +kernel)) ggL_law_X7_compress
set_option maxRecDepth 20000 in
theorem ggL_law_X8_compress : GoodIn wsL_law wsX8_compress := goodIn_r _ [521, 256, 282, 283, 284, 5, 285, 286, 153, 151, 287, 288, 289, 522, 523, 524, 525, 463, 464, 465, 466, 322, 323, 324, 325, 270, 271, 272, 273, 274, 275, 276, 277, 278, 279, 280, 281, 375, 376, 377, 378, 379, 380, 381, 382, 315, 316, 317, 298, 299, 300, 301, 302, 303, 304, 305, 306, 267, 268, 269, 467, 468, 469, 470, 471, 472, 473, 474, 383, 384, 385, 386, 1001, 1002, 1003, 1004, 1005, 1006, 1007, 1008, 1009, 1010, 1011, 1012] (by decide +kernel) (by decide +kernel)
set_option maxRecDepth 20000 in
theorem gL_law_X8_compress : GoodIn wsL_law (wsV RL 112 RX8 yX8_compress wsX8_compress) := goodIn_app (goodIn_of _ (by decide +kernel)) ggL_law_X8_compress
set_option maxRecDepth 20000 in
theorem ggL_law_X7_expand : GoodIn wsL_law wsX7_expand := goodIn_r _ [529, 21, 16, 167, 202, 203, 204, 20, 205, 128, 129, 206, 207, 67, 208, 209, 210, 211, 212, 127, 213, 214, 215, 36, 216, 53, 55, 54, 56, 57, 58, 59, 60, 217, 218, 219, 40, 220, 120, 92, 93, 94, 70, 121, 76, 77, 78, 530, 531, 532, 15, 533, 37, 84, 225, 534, 535, 536, 537, 490, 491, 492, 493, 446, 447, 448, 449, 90, 41, 91, 227, 100, 97, 101, 538, 539, 540, 541, 110, 542, 72, 73, 74, 75, 232, 233, 234, 102, 103, 104, 80, 81, 82, 83, 46, 44, 45, 85, 86, 87, 88, 89, 66, 68, 95, 96, 98, 99, 105, 106, 107, 108, 109, 42, 43, 111, 112, 113, 114, 115, 116, 117, 118, 119, 996, 997, 998, 999, 1000, 1013, 1014, 1015, 1016, 1017, 1018, 1019, 1020, 1021, 1022, 1023, 1032, 1033, 1034, 1035, 1036, 1037, 1038, 1039, 1040] (by decide +kernel) (by decide +kernel)
set_option maxRecDepth 20000 in
theorem gL_law_X7_expand : GoodIn wsL_law (wsV RL 113 RX7 yX7_expand wsX7_expand) := goodIn_app (goodIn_of _ (by decide +kernel)) ggL_law_X7_expand
set_option maxRecDepth 20000 in
theorem ggL_law_X8_expand : GoodIn wsL_law wsX8_expand := goodIn_r _ [546, 256, 282, 283, 284, 5, 285, 286, 153, 151, 287, 288, 289, 547, 548, 549, 550, 278, 279, 280, 281, 298, 299, 300, 301, 302, 303, 304, 305, 306, 267, 268, 269, 318, 319, 320, 321, 322, 323, 324, 325, 502, 503, 504, 505, 326, 327, 328, 329, 467, 468, 469, 470, 379, 380, 381, 382, 315, 316, 317, 1001, 1002, 1003, 1004, 1005, 1006, 1007, 1008, 1009, 1010, 1011, 1012] (by decide +kernel) (by decide +kernel)
set_option maxRecDepth 20000 in
theorem gL_law_X8_expand : GoodIn wsL_law (wsV RL 116 RX8 yX8_expand wsX8_expand) := goodIn_app (goodIn_of _ (by decide +kernel)) ggL_law_X8_expand
set_option maxRecDepth 20000 in
theorem ggL_law_L_rank : GoodIn wsL_law wsL_rank := goodIn_ca (goodIn_r _ [553, 159, 554, 555, 556, 2, 557, 16, 168, 169, 170, 171, 172, 173, 174, 175, 179, 180, 97, 181, 102, 103, 104, 558, 249, 250, 15, 251, 37, 90, 46, 198, 199, 200, 201, 44, 91, 92, 93, 40, 94, 70, 996, 997, 998, 999, 1000, 1013, 1014, 1015, 1016, 1017, 1018, 1019, 1020, 1032, 1033, 1034, 1035, 1036, 1037, 1038, 1039, 1040] (by decide +kernel) (by decide +kernel)) (goodIn_sub (fun _ h => List.mem_append_left _ (List.mem_append_right _ h)) (by decide +kernel))
set_option maxRecDepth 20000 in
theorem gL_law_L_rank : GoodIn wsL_law (va_wsS RL 117 yL_rank wsL_rank) := goodIn_app (goodIn_of _ (by decide +kernel)) ggL_law_L_rank
set_option maxRecDepth 20000 in
theorem ggL_law_X8_rank : GoodIn wsL_law wsX8_rank := goodIn_r _ [562, 256, 261, 262, 5, 263, 264, 265, 266, 267, 268, 269, 274, 275, 276, 277, 151, 278, 279, 280, 281, 1001, 1002, 1003, 1004, 1005, 1006, 1007, 1008, 1009, 1010, 1011, 1012] (by decide +kernel) (by decide +kernel)
set_option maxRecDepth 20000 in
theorem gL_law_X8_rank : GoodIn wsL_law (wsV RL 119 RX8 yX8_rank wsX8_rank) := goodIn_app (goodIn_of _ (by decide +kernel)) ggL_law_X8_rank
set_option maxRecDepth 20000 in
theorem ggL_law_L_nth : GoodIn wsL_law wsL_nth := goodIn_ca (goodIn_ca (goodIn_r _ [565, 566, 159, 567, 568, 569, 2, 570, 16, 571, 572, 573, 574, 575, 576, 577, 199, 200, 15, 201, 44, 91, 92, 93, 40, 94, 70, 578, 579, 580, 171, 172, 581, 582, 583, 584, 46, 37, 90, 110, 43, 585, 586, 97, 587, 99, 100, 101, 102, 103, 104, 227, 996, 997, 998, 999, 1000, 1013, 1014, 1015, 1016, 1017, 1018, 1019, 1020, 1040, 1032, 1033, 1034, 1035, 1036, 1037, 1038, 1039] (by decide +kernel) (by decide +kernel)) (goodIn_sub (fun _ h => List.mem_append_right _ h) (by decide +kernel))) (goodIn_sub (fun _ h => List.mem_append_left _ (List.mem_append_right _ h)) (by decide +kernel))
set_option maxRecDepth 20000 in
theorem gL_law_L_nth : GoodIn wsL_law (va_wsS RL 120 yL_nth wsL_nth) := goodIn_app (goodIn_of _ (by decide +kernel)) ggL_law_L_nth
set_option maxRecDepth 20000 in
theorem ggL_law_X8_nth : GoodIn wsL_law wsX8_nth := goodIn_r _ [591, 256, 592, 593, 594, 5, 595, 151, 264, 265, 266, 596, 597, 598, 599, 278, 279, 280, 281, 304, 305, 306, 298, 299, 300, 600, 601, 602, 603, 322, 323, 324, 325, 315, 316, 317, 301, 302, 303, 267, 268, 269, 1001, 1002, 1003, 1004, 1005, 1006, 1007, 1008, 1009, 1010, 1011, 1012] (by decide +kernel) (by decide +kernel)
set_option maxRecDepth 20000 in
theorem gL_law_X8_nth : GoodIn wsL_law (wsV RL 122 RX8 yX8_nth wsX8_nth) := goodIn_app (goodIn_of _ (by decide +kernel)) ggL_law_X8_nth
set_option maxRecDepth 20000 in
theorem ggL_law_L_weight : GoodIn wsL_law wsL_weight := goodIn_ca (goodIn_r _ [606, 159, 607, 608, 609, 2, 610, 16, 168, 169, 170, 171, 172, 173, 174, 175, 179, 180, 97, 181, 102, 103, 104, 345, 187, 188, 15, 189, 37, 110, 190, 191, 192, 36, 193, 55, 53, 194, 195, 196, 197, 115, 92, 93, 40, 94, 70, 91, 996, 997, 998, 999, 1000, 1013, 1014, 1015, 1016, 1017, 1018, 1019, 1020, 1032, 1033, 1034, 1035, 1036, 1037, 1038, 1039, 1040] (by decide +kernel) (by decide +kernel)) (goodIn_sub (fun _ h => List.mem_append_left _ (List.mem_append_right _ h)) (by decide +kernel))
set_option maxRecDepth 20000 in
theorem gL_law_L_weight : GoodIn wsL_law (va_wsS RL 123 yL_weight wsL_weight) := goodIn_app (goodIn_of _ (by decide +kernel)) ggL_law_L_weight
set_option maxRecDepth 20000 in
theorem ggL_law_X8_weight : GoodIn wsL_law wsX8_weight := goodIn_r _ [614, 256, 151, 261, 262, 5, 263, 264, 265, 266, 267, 268, 269, 270, 271, 272, 273, 274, 275, 276, 277, 278, 279, 280, 281, 1001, 1002, 1003, 1004, 1005, 1006, 1007, 1008, 1009, 1010, 1011, 1012] (by decide +kernel) (by decide +kernel)
set_option maxRecDepth 20000 in
theorem gL_law_X8_weight : GoodIn wsL_law (wsV RL 125 RX8 yX8_weight wsX8_weight) := goodIn_app (goodIn_of _ (by decide +kernel)) ggL_law_X8_weight
set_option maxRecDepth 20000 in
theorem ggL_law_L_count : GoodIn wsL_law wsL_count := goodIn_ca (goodIn_r _ [617, 159, 618, 619, 620, 2, 621, 16, 173, 174, 175, 171, 172, 179, 180, 97, 181, 102, 103, 104, 622, 623, 624, 15, 625, 37, 44, 235, 236, 237, 36, 238, 55, 53, 194, 195, 196, 197, 115, 92, 93, 40, 94, 70, 239, 96, 98, 99, 100, 101, 91, 996, 997, 998, 999, 1000, 1013, 1014, 1015, 1016, 1017, 1018, 1019, 1020, 1032, 1033, 1034, 1035, 1036, 1037, 1038, 1039, 1040] (by decide +kernel) (by decide +kernel)) (goodIn_sub (fun _ h => List.mem_append_left _ (List.mem_append_right _ h)) (by decide +kernel))
set_option maxRecDepth 20000 in
theorem gL_law_L_count : GoodIn wsL_law (va_wsS RL 126 yL_count wsL_count) := goodIn_app (goodIn_of _ (by decide +kernel)) ggL_law_L_count
set_option maxRecDepth 20000 in
theorem ggL_law_X8_count : GoodIn wsL_law wsX8_count := goodIn_r _ [629, 256, 261, 262, 5, 263, 264, 265, 266, 267, 268, 269, 311, 312, 313, 314, 151, 278, 279, 280, 281, 315, 316, 317, 298, 299, 300, 301, 302, 303, 304, 305, 306, 1001, 1002, 1003, 1004, 1005, 1006, 1007, 1008, 1009, 1010, 1011, 1012] (by decide +kernel) (by decide +kernel)
set_option maxRecDepth 20000 in
theorem gL_law_X8_count : GoodIn wsL_law (wsV RL 128 RX8 yX8_count wsX8_count) := goodIn_app (goodIn_of _ (by decide +kernel)) ggL_law_X8_count
set_option maxRecDepth 20000 in
theorem ggL_law_L_house : GoodIn wsL_law wsL_house := goodIn_ca (goodIn_ca (goodIn_r _ [632, 566, 159, 633, 634, 635, 2, 636, 16, 637, 638, 639, 640, 575, 576, 167, 641, 578, 579, 580, 171, 172, 642, 643, 644, 15, 645, 37, 90, 42, 44, 45, 43, 91, 92, 93, 40, 94, 70, 585, 586, 97, 587, 99, 100, 101, 102, 103, 104, 227, 490, 491, 492, 493, 446, 447, 448, 449, 41, 646, 647, 648, 649, 111, 112, 113, 36, 114, 54, 115, 996, 997, 998, 999, 1000, 1013, 1014, 1015, 1016, 1017, 1018, 1019, 1020, 1032, 1033, 1034, 1035, 1036, 1037, 1038, 1039, 1040] (by decide +kernel) (by decide +kernel)) (goodIn_sub (fun _ h => List.mem_append_right _ h) (by decide +kernel))) (goodIn_sub (fun _ h => List.mem_append_left _ (List.mem_append_right _ h)) (by decide +kernel))
set_option maxRecDepth 20000 in
theorem gL_law_L_house : GoodIn wsL_law (va_wsS RL 129 yL_house wsL_house) := goodIn_app (goodIn_of _ (by decide +kernel)) ggL_law_L_house
set_option maxRecDepth 20000 in
theorem ggL_law_X8_house : GoodIn wsL_law wsX8_house := goodIn_r _ [653, 256, 654, 655, 656, 5, 657, 151, 264, 265, 266, 658, 659, 660, 661, 322, 323, 324, 325, 304, 305, 306, 298, 299, 300, 467, 468, 469, 470, 379, 380, 381, 382, 315, 316, 317, 301, 302, 303, 267, 268, 269, 375, 376, 377, 378, 270, 271, 272, 273, 274, 275, 276, 277, 278, 279, 280, 281, 311, 312, 313, 314, 662, 663, 664, 665, 600, 601, 602, 603, 1001, 1002, 1003, 1004, 1005, 1006, 1007, 1008, 1009, 1010, 1011, 1012] (by decide +kernel) (by decide +kernel)
set_option maxRecDepth 20000 in
theorem gL_law_X8_house : GoodIn wsL_law (wsV RL 131 RX8 yX8_house wsX8_house) := goodIn_app (goodIn_of _ (by decide +kernel)) ggL_law_X8_house
set_option maxRecDepth 20000 in
theorem ggL_law_L_houseOf : GoodIn wsL_law wsL_houseOf := goodIn_ca (goodIn_r _ [668, 159, 669, 670, 671, 2, 672, 16, 167, 173, 174, 175, 171, 172, 179, 180, 97, 181, 102, 103, 104, 673, 191, 192, 36, 193, 55, 53, 194, 195, 196, 197, 115, 92, 93, 40, 94, 70, 996, 997, 998, 999, 1000, 1013, 1014, 1015, 1016, 1017, 1018, 1019, 1020, 1032, 1033, 1034, 1035, 1036, 1037, 1038, 1039, 1040] (by decide +kernel) (by decide +kernel)) (goodIn_sub (fun _ h => List.mem_append_left _ (List.mem_append_right _ h)) (by decide +kernel))
set_option maxRecDepth 20000 in
theorem gL_law_L_houseOf : GoodIn wsL_law (va_wsS RL 132 yL_houseOf wsL_houseOf) := goodIn_app (goodIn_of _ (by decide +kernel)) ggL_law_L_houseOf
set_option maxRecDepth 20000 in
theorem ggL_law_X8_houseOf : GoodIn wsL_law wsX8_houseOf := goodIn_r _ [677, 256, 261, 262, 5, 263, 264, 265, 266, 267, 268, 269, 318, 319, 320, 321, 151, 322, 323, 324, 325, 1001, 1002, 1003, 1004, 1005, 1006, 1007, 1008, 1009, 1010, 1011, 1012] (by decide +kernel) (by decide +kernel)
set_option maxRecDepth 20000 in
theorem gL_law_X8_houseOf : GoodIn wsL_law (wsV RL 134 RX8 yX8_houseOf wsX8_houseOf) := goodIn_app (goodIn_of _ (by decide +kernel)) ggL_law_X8_houseOf
set_option maxRecDepth 20000 in
theorem ggL_law_L_between : GoodIn wsL_law wsL_between := goodIn_ca (goodIn_r _ [680, 566, 681, 682, 683, 2, 684, 16, 571, 572, 573, 574, 575, 576, 577, 199, 200, 15, 201, 44, 91, 92, 93, 40, 94, 70, 685, 686, 687, 688, 46, 41, 996, 997, 998, 999, 1000, 1013, 1014, 1015, 1016, 1017, 1018, 1019, 1020, 1040] (by decide +kernel) (by decide +kernel)) (goodIn_sub (fun _ h => List.mem_append_right _ h) (by decide +kernel))
set_option maxRecDepth 20000 in
theorem gL_law_L_between : GoodIn wsL_law (va_wsS RL 135 yL_between wsL_between) := goodIn_app (goodIn_of _ (by decide +kernel)) ggL_law_L_between
set_option maxRecDepth 20000 in
theorem ggL_law_X8_between : GoodIn wsL_law wsX8_between := goodIn_r _ [692, 256, 592, 593, 594, 5, 595, 151, 264, 265, 266, 693, 694, 695, 696, 322, 323, 324, 325, 278, 279, 280, 281, 315, 316, 317, 298, 299, 300, 301, 302, 303, 304, 305, 306, 267, 268, 269, 600, 601, 602, 603, 1001, 1002, 1003, 1004, 1005, 1006, 1007, 1008, 1009, 1010, 1011, 1012] (by decide +kernel) (by decide +kernel)
set_option maxRecDepth 20000 in
theorem gL_law_X8_between : GoodIn wsL_law (wsV RL 137 RX8 yX8_between wsX8_between) := goodIn_app (goodIn_of _ (by decide +kernel)) ggL_law_X8_between
set_option maxRecDepth 20000 in
theorem ggL_law_X7_tour : GoodIn wsL_law wsX7_tour := goodIn_r _ [700, 16, 701, 702, 703, 15, 704, 37, 84, 996, 997, 998, 999, 1000, 1013, 1014, 1015, 1016, 1017, 1018, 1019, 1020, 1032, 1033, 1034, 1035, 1036, 1037, 1038, 1039] (by decide +kernel) (by decide +kernel)
set_option maxRecDepth 20000 in
theorem gL_law_X7_tour : GoodIn wsL_law (wsV RL 138 RX7 yX7_tour wsX7_tour) := goodIn_app (goodIn_of _ (by decide +kernel)) ggL_law_X7_tour
set_option maxRecDepth 20000 in
theorem ggL_law_X8_tour : GoodIn wsL_law wsX8_tour := goodIn_r _ [708, 256, 709, 710, 711, 5, 712, 151, 278, 279, 280, 281, 600, 601, 602, 603, 322, 323, 324, 325, 315, 316, 317, 298, 299, 300, 301, 302, 303, 304, 305, 306, 267, 268, 269, 693, 694, 695, 696, 1001, 1002, 1003, 1004, 1005, 1006, 1007, 1008, 1009, 1010, 1011, 1012] (by decide +kernel) (by decide +kernel)
set_option maxRecDepth 20000 in
theorem gL_law_X8_tour : GoodIn wsL_law (wsV RL 141 RX8 yX8_tour wsX8_tour) := goodIn_app (goodIn_of _ (by decide +kernel)) ggL_law_X8_tour
set_option maxRecDepth 20000 in
theorem ggL_law_L_whole : GoodIn wsL_law wsL_whole := goodIn_ca (goodIn_r _ [715, 159, 716, 717, 718, 2, 719, 25, 16, 578, 579, 580, 171, 172, 720, 721, 722, 24, 723, 136, 724, 725, 726, 15, 727, 37, 84, 419, 454, 225, 226, 350, 198, 199, 200, 201, 44, 91, 92, 93, 40, 94, 70, 728, 729, 730, 731, 46, 110, 43, 534, 535, 536, 537, 490, 491, 492, 493, 446, 447, 448, 449, 90, 41, 227, 100, 97, 101, 732, 733, 734, 735, 89, 66, 67, 68, 736, 737, 738, 739, 996, 997, 998, 999, 1000, 1024, 1025, 1013, 1014, 1015, 1016, 1017, 1018, 1019, 1020, 1032, 1033, 1034, 1035, 1036, 1037, 1038, 1039, 1040] (by decide +kernel) (by decide +kernel)) (goodIn_sub (fun _ h => List.mem_append_left _ (List.mem_append_right _ h)) (by decide +kernel))
set_option maxRecDepth 20000 in
theorem gL_law_L_whole : GoodIn wsL_law (va_wsS RL 142 yL_whole wsL_whole) := goodIn_app (goodIn_of _ (by decide +kernel)) ggL_law_L_whole
set_option maxRecDepth 20000 in
theorem ggL_law_X8_whole : GoodIn wsL_law wsX8_whole := goodIn_r _ [743, 256, 264, 265, 5, 266, 744, 745, 746, 747, 151, 748, 467, 468, 469, 470, 322, 323, 324, 325, 298, 299, 300, 379, 380, 381, 382, 315, 316, 317, 301, 302, 303, 304, 305, 306, 267, 268, 269, 278, 279, 280, 281, 600, 601, 602, 603, 749, 750, 751, 752, 1001, 1002, 1003, 1004, 1005, 1006, 1007, 1008, 1009, 1010, 1011, 1012] (by decide +kernel) (by decide +kernel)
set_option maxRecDepth 20000 in
theorem gL_law_X8_whole : GoodIn wsL_law (wsV RL 144 RX8 yX8_whole wsX8_whole) := goodIn_app (goodIn_of _ (by decide +kernel)) ggL_law_X8_whole
set_option maxRecDepth 20000 in
theorem ggL_law_L_reason : GoodIn wsL_law wsL_reason := goodIn_ca (goodIn_r _ [755, 159, 756, 757, 758, 2, 759, 16, 167, 173, 174, 175, 171, 172, 179, 180, 97, 181, 102, 103, 104, 673, 191, 192, 36, 193, 55, 53, 194, 195, 196, 197, 115, 92, 93, 40, 94, 70, 760, 439, 440, 15, 441, 37, 42, 419, 111, 112, 113, 114, 54, 91, 442, 443, 444, 445, 446, 447, 448, 449, 90, 41, 227, 100, 101, 996, 997, 998, 999, 1000, 1013, 1014, 1015, 1016, 1017, 1018, 1019, 1020, 1032, 1033, 1034, 1035, 1036, 1037, 1038, 1039, 1040] (by decide +kernel) (by decide +kernel)) (goodIn_sub (fun _ h => List.mem_append_left _ (List.mem_append_right _ h)) (by decide +kernel))
set_option maxRecDepth 20000 in
theorem gL_law_L_reason : GoodIn wsL_law (va_wsS RL 145 yL_reason wsL_reason) := goodIn_app (goodIn_of _ (by decide +kernel)) ggL_law_L_reason
set_option maxRecDepth 20000 in
theorem ggL_law_X8_reason : GoodIn wsL_law wsX8_reason := goodIn_r _ [764, 256, 261, 262, 5, 263, 264, 265, 266, 267, 268, 269, 318, 319, 320, 321, 151, 322, 323, 324, 325, 463, 464, 465, 466, 270, 271, 272, 273, 274, 275, 276, 277, 278, 279, 280, 281, 375, 376, 377, 378, 379, 380, 381, 382, 315, 316, 317, 298, 299, 300, 301, 302, 303, 304, 305, 306, 467, 468, 469, 470, 1001, 1002, 1003, 1004, 1005, 1006, 1007, 1008, 1009, 1010, 1011, 1012] (by decide +kernel) (by decide +kernel)
set_option maxRecDepth 20000 in
theorem gL_law_X8_reason : GoodIn wsL_law (wsV RL 147 RX8 yX8_reason wsX8_reason) := goodIn_app (goodIn_of _ (by decide +kernel)) ggL_law_X8_reason
set_option maxRecDepth 20000 in
theorem ggL_law_L_savedBy : GoodIn wsL_law wsL_savedBy := goodIn_ca (goodIn_r _ [767, 566, 768, 769, 770, 2, 771, 16, 637, 638, 639, 640, 575, 576, 167, 641, 772, 773, 774, 15, 775, 45, 438, 439, 440, 441, 37, 42, 419, 111, 112, 113, 36, 114, 54, 115, 92, 93, 40, 94, 70, 91, 442, 443, 444, 445, 446, 447, 448, 449, 90, 41, 227, 100, 97, 101, 996, 997, 998, 999, 1000, 1013, 1014, 1015, 1016, 1017, 1018, 1019, 1020, 1032, 1033, 1034, 1035, 1036, 1037, 1038, 1039, 1040] (by decide +kernel) (by decide +kernel)) (goodIn_sub (fun _ h => List.mem_append_right _ h) (by decide +kernel))
set_option maxRecDepth 20000 in
theorem gL_law_L_savedBy : GoodIn wsL_law (va_wsS RL 148 yL_savedBy wsL_savedBy) := goodIn_app (goodIn_of _ (by decide +kernel)) ggL_law_L_savedBy
set_option maxRecDepth 20000 in
theorem ggL_law_X8_savedBy : GoodIn wsL_law wsX8_savedBy := goodIn_r _ [779, 256, 654, 655, 656, 5, 657, 151, 264, 265, 266, 780, 781, 782, 783, 463, 464, 465, 466, 322, 323, 324, 325, 270, 271, 272, 273, 274, 275, 276, 277, 278, 279, 280, 281, 375, 376, 377, 378, 379, 380, 381, 382, 315, 316, 317, 298, 299, 300, 301, 302, 303, 304, 305, 306, 267, 268, 269, 467, 468, 469, 470, 662, 663, 664, 665, 1001, 1002, 1003, 1004, 1005, 1006, 1007, 1008, 1009, 1010, 1011, 1012] (by decide +kernel) (by decide +kernel)
set_option maxRecDepth 20000 in
theorem gL_law_X8_savedBy : GoodIn wsL_law (wsV RL 150 RX8 yX8_savedBy wsX8_savedBy) := goodIn_app (goodIn_of _ (by decide +kernel)) ggL_law_X8_savedBy
set_option maxRecDepth 20000 in
theorem ggL_law_X7_bestMove : GoodIn wsL_law wsX7_bestMove := goodIn_r _ [787, 16, 788, 789, 790, 15, 791, 37, 84, 792, 773, 774, 775, 45, 438, 439, 440, 441, 42, 419, 111, 112, 113, 36, 114, 54, 115, 92, 93, 40, 94, 70, 91, 442, 443, 444, 445, 446, 447, 448, 449, 90, 41, 227, 100, 97, 101, 996, 997, 998, 999, 1000, 1013, 1014, 1015, 1016, 1017, 1018, 1019, 1020, 1032, 1033, 1034, 1035, 1036, 1037, 1038, 1039, 1040] (by decide +kernel) (by decide +kernel)
set_option maxRecDepth 20000 in
theorem gL_law_X7_bestMove : GoodIn wsL_law (wsV RL 151 RX7 yX7_bestMove wsX7_bestMove) := goodIn_app (goodIn_of _ (by decide +kernel)) ggL_law_X7_bestMove
set_option maxRecDepth 20000 in
theorem ggL_law_X8_bestMove : GoodIn wsL_law wsX8_bestMove := goodIn_r _ [796, 256, 797, 798, 799, 5, 800, 151, 780, 781, 782, 783, 463, 464, 465, 466, 322, 323, 324, 325, 270, 271, 272, 273, 274, 275, 276, 277, 278, 279, 280, 281, 375, 376, 377, 378, 379, 380, 381, 382, 315, 316, 317, 298, 299, 300, 301, 302, 303, 304, 305, 306, 267, 268, 269, 467, 468, 469, 470, 662, 663, 664, 665, 1001, 1002, 1003, 1004, 1005, 1006, 1007, 1008, 1009, 1010, 1011, 1012] (by decide +kernel) (by decide +kernel)
set_option maxRecDepth 20000 in
theorem gL_law_X8_bestMove : GoodIn wsL_law (wsV RL 154 RX8 yX8_bestMove wsX8_bestMove) := goodIn_app (goodIn_of _ (by decide +kernel)) ggL_law_X8_bestMove
set_option maxRecDepth 20000 in
theorem ggL_law_L_costWith : GoodIn wsL_law wsL_costWith := goodIn_ca (goodIn_r _ [803, 159, 804, 805, 806, 2, 807, 17, 16, 167, 409, 410, 411, 171, 172, 412, 413, 414, 808, 809, 810, 15, 811, 37, 812, 214, 215, 36, 216, 53, 55, 54, 56, 57, 58, 59, 60, 217, 218, 219, 40, 220, 120, 92, 93, 94, 70, 121, 76, 77, 78, 80, 81, 82, 83, 84, 41, 46, 44, 45, 85, 86, 87, 88, 89, 66, 67, 68, 90, 91, 95, 96, 97, 98, 99, 100, 101, 102, 103, 104, 105, 106, 107, 108, 109, 42, 43, 110, 111, 112, 113, 114, 115, 116, 117, 118, 119, 415, 416, 417, 418, 419, 530, 531, 532, 533, 225, 534, 535, 536, 537, 490, 491, 492, 493, 446, 447, 448, 449, 227, 538, 539, 540, 541, 542, 72, 73, 74, 75, 232, 233, 234, 510, 511, 512, 513, 47, 454, 438, 439, 440, 441, 442, 443, 444, 445, 514, 515, 516, 517, 71, 813, 729, 730, 731, 198, 199, 200, 201, 996, 997, 998, 999, 1000, 1013, 1014, 1015, 1016, 1017, 1018, 1019, 1020, 1032, 1033, 1034, 1035, 1036, 1037, 1038, 1039, 1040] (by decide +kernel) (by decide +kernel)) (goodIn_sub (fun _ h => List.mem_append_left _ (List.mem_append_right _ h)) (by decide +kernel))
set_option maxRecDepth 20000 in
theorem gL_law_L_costWith : GoodIn wsL_law (va_wsS RL 155 yL_costWith wsL_costWith) := goodIn_app (goodIn_of _ (by decide +kernel)) ggL_law_L_costWith
set_option maxRecDepth 20000 in
theorem ggL_law_X8_costWith : GoodIn wsL_law wsX8_costWith := goodIn_r _ [817, 256, 151, 152, 424, 425, 5, 426, 264, 265, 266, 287, 288, 289, 547, 548, 549, 550, 278, 279, 280, 281, 298, 299, 300, 301, 302, 303, 304, 305, 306, 267, 268, 269, 318, 319, 320, 321, 322, 323, 324, 325, 502, 503, 504, 505, 326, 327, 328, 329, 467, 468, 469, 470, 379, 380, 381, 382, 315, 316, 317, 522, 523, 524, 525, 463, 464, 465, 466, 270, 271, 272, 273, 274, 275, 276, 277, 375, 376, 377, 378, 471, 472, 473, 474, 383, 384, 385, 386, 749, 750, 751, 752, 600, 601, 602, 603, 1001, 1002, 1003, 1004, 1005, 1006, 1007, 1008, 1009, 1010, 1011, 1012] (by decide +kernel) (by decide +kernel)
set_option maxRecDepth 20000 in
theorem gL_law_X8_costWith : GoodIn wsL_law (wsV RL 157 RX8 yX8_costWith wsX8_costWith) := goodIn_app (goodIn_of _ (by decide +kernel)) ggL_law_X8_costWith
set_option maxRecDepth 20000 in
theorem ggL_law_L_housesFor : GoodIn wsL_law wsL_housesFor := goodIn_ca (goodIn_r _ [820, 159, 821, 822, 823, 2, 824, 16, 168, 169, 170, 171, 172, 173, 174, 175, 179, 180, 97, 181, 102, 103, 104, 825, 826, 827, 15, 828, 37, 186, 187, 188, 189, 110, 190, 191, 192, 36, 193, 55, 53, 194, 195, 196, 197, 115, 92, 93, 40, 94, 70, 91, 228, 229, 230, 231, 227, 100, 101, 232, 233, 234, 235, 236, 237, 238, 239, 96, 98, 99, 996, 997, 998, 999, 1000, 1013, 1014, 1015, 1016, 1017, 1018, 1019, 1020, 1032, 1033, 1034, 1035, 1036, 1037, 1038, 1039, 1040] (by decide +kernel) (by decide +kernel)) (goodIn_sub (fun _ h => List.mem_append_left _ (List.mem_append_right _ h)) (by decide +kernel))
set_option maxRecDepth 20000 in
theorem gL_law_L_housesFor : GoodIn wsL_law (va_wsS RL 158 yL_housesFor wsL_housesFor) := goodIn_app (goodIn_of _ (by decide +kernel)) ggL_law_L_housesFor
set_option maxRecDepth 20000 in
theorem ggL_law_X8_housesFor : GoodIn wsL_law wsX8_housesFor := goodIn_r _ [832, 256, 261, 262, 5, 263, 264, 265, 266, 267, 268, 269, 270, 271, 272, 273, 151, 274, 275, 276, 277, 278, 279, 280, 281, 294, 295, 296, 297, 298, 299, 300, 301, 302, 303, 304, 305, 306, 307, 308, 309, 310, 311, 312, 313, 314, 315, 316, 317, 318, 319, 320, 321, 322, 323, 324, 325, 1001, 1002, 1003, 1004, 1005, 1006, 1007, 1008, 1009, 1010, 1011, 1012] (by decide +kernel) (by decide +kernel)
set_option maxRecDepth 20000 in
theorem gL_law_X8_housesFor : GoodIn wsL_law (wsV RL 160 RX8 yX8_housesFor wsX8_housesFor) := goodIn_app (goodIn_of _ (by decide +kernel)) ggL_law_X8_housesFor
set_option maxRecDepth 20000 in
theorem ggL_law_L_type : GoodIn wsL_law wsL_type := goodIn_ca (goodIn_ca (goodIn_r _ [835, 159, 160, 836, 837, 838, 2, 839, 171, 172, 165, 166, 25, 720, 721, 722, 24, 723, 136, 840, 841, 842, 843, 135, 844, 76, 77, 40, 78, 70, 996, 997, 998, 999, 1000, 1024, 1025, 1040] (by decide +kernel) (by decide +kernel)) (goodIn_sub (fun _ h => List.mem_append_left _ (List.mem_append_right _ h)) (by decide +kernel))) (goodIn_sub (fun _ h => List.mem_append_left _ (List.mem_append_left _ (List.mem_append_right _ h))) (by decide +kernel))
set_option maxRecDepth 20000 in
theorem gL_law_L_type : GoodIn wsL_law (va_wsS RL 161 yL_type wsL_type) := goodIn_app (goodIn_of _ (by decide +kernel)) ggL_law_L_type
set_option maxRecDepth 20000 in
theorem ggL_law_X8_type : GoodIn wsL_law wsX8_type := goodIn_r _ [848, 748, 256, 154, 264, 265, 5, 266, 1001, 1002, 1003, 1004, 1005, 1006, 1007, 1008, 1009, 1010, 1011, 1012] (by decide +kernel) (by decide +kernel)
set_option maxRecDepth 20000 in
theorem gL_law_X8_type : GoodIn wsL_law (wsV RL 163 RX8 yX8_type wsX8_type) := goodIn_app (goodIn_of _ (by decide +kernel)) ggL_law_X8_type
set_option maxRecDepth 20000 in
theorem ggL_law_X7_clearCommands : GoodIn wsL_law wsX7_clearCommands := goodIn_r _ [852, 25, 853, 854, 855, 24, 856, 136, 996, 997, 998, 999, 1000, 1024, 1025] (by decide +kernel) (by decide +kernel)
set_option maxRecDepth 20000 in
theorem gL_law_X7_clearCommands : GoodIn wsL_law (wsV RL 164 RX7 yX7_clearCommands wsX7_clearCommands) := goodIn_app (goodIn_of _ (by decide +kernel)) ggL_law_X7_clearCommands
set_option maxRecDepth 20000 in
theorem ggL_law_X8_clearCommands : GoodIn wsL_law wsX8_clearCommands := goodIn_r _ [860, 256, 748, 1001, 1002, 1003, 1004, 1005, 1006, 1007, 1008, 1009, 1010, 1011, 1012] (by decide +kernel) (by decide +kernel)
set_option maxRecDepth 20000 in
theorem gL_law_X8_clearCommands : GoodIn wsL_law (wsV RL 167 RX8 yX8_clearCommands wsX8_clearCommands) := goodIn_app (goodIn_of _ (by decide +kernel)) ggL_law_X8_clearCommands
set_option maxRecDepth 20000 in
theorem ggL_law_X7_runCommands : GoodIn wsL_law wsX7_runCommands := goodIn_r _ [864, 21, 16, 167, 29, 25, 865, 866, 867, 2, 868, 869, 870, 871, 28, 872, 141, 720, 721, 722, 24, 723, 136, 873, 874, 875, 876, 135, 877, 92, 93, 40, 94, 70, 878, 879, 880, 881, 882, 883, 884, 885, 142, 143, 144, 145, 146, 886, 887, 888, 889, 890, 891, 892, 893, 894, 895, 896, 897, 898, 899, 900, 901, 902, 903, 904, 905, 906, 907, 908, 909, 202, 203, 204, 20, 205, 128, 129, 206, 207, 67, 208, 209, 210, 211, 212, 127, 213, 214, 215, 36, 216, 53, 55, 54, 56, 57, 58, 59, 60, 217, 218, 219, 220, 120, 121, 76, 77, 78, 910, 911, 912, 913, 914, 915, 916, 917, 918, 919, 920, 921, 922, 180, 97, 181, 102, 103, 104, 182, 183, 184, 15, 185, 186, 187, 188, 189, 37, 110, 190, 191, 192, 193, 194, 195, 196, 197, 115, 91, 198, 199, 200, 201, 44, 345, 434, 435, 436, 437, 438, 439, 440, 441, 42, 419, 111, 112, 113, 114, 442, 443, 444, 445, 446, 447, 448, 449, 90, 41, 227, 100, 101, 482, 483, 484, 485, 235, 236, 237, 238, 239, 96, 98, 99, 923, 924, 925, 926, 412, 413, 414, 927, 928, 929, 930, 221, 222, 223, 224, 225, 226, 228, 229, 230, 231, 232, 233, 234, 240, 241, 242, 243, 244, 245, 246, 247, 71, 72, 73, 74, 75, 105, 80, 81, 82, 83, 84, 46, 45, 85, 86, 87, 88, 89, 66, 68, 95, 106, 107, 108, 109, 43, 116, 117, 118, 119, 248, 249, 250, 251, 346, 347, 348, 349, 350, 351, 352, 353, 354, 355, 356, 357, 358, 359, 360, 361, 362, 450, 451, 452, 453, 454, 486, 487, 488, 489, 490, 491, 492, 493, 415, 416, 417, 418, 510, 511, 512, 513, 47, 514, 515, 516, 517, 996, 997, 998, 999, 1000, 1013, 1014, 1015, 1016, 1017, 1018, 1019, 1020, 1026, 1027, 1028, 1029, 1030, 1031, 1024, 1025, 1040, 1021, 1022, 1023, 1032, 1033, 1034, 1035, 1036, 1037, 1038, 1039] (by decide +kernel) (by decide +kernel)
set_option maxRecDepth 20000 in
theorem gL_law_X7_runCommands : GoodIn wsL_law (wsV RL 168 RX7 yX7_runCommands wsX7_runCommands) := goodIn_app (goodIn_of _ (by decide +kernel)) ggL_law_X7_runCommands
set_option maxRecDepth 20000 in
theorem ggL_law_X8_runCommands : GoodIn wsL_law wsX8_runCommands := goodIn_r _ [934, 256, 935, 748, 936, 937, 938, 5, 939, 940, 941, 942, 943, 944, 154, 945, 946, 947, 948, 949, 264, 265, 266, 950, 951, 952, 953, 954, 955, 282, 283, 284, 285, 286, 153, 151, 287, 288, 289, 956, 957, 958, 959, 267, 268, 269, 257, 258, 259, 260, 261, 262, 263, 270, 271, 272, 273, 274, 275, 276, 277, 278, 279, 280, 281, 290, 291, 292, 293, 294, 295, 296, 297, 298, 299, 300, 301, 302, 303, 304, 305, 306, 307, 308, 309, 310, 311, 312, 313, 314, 315, 316, 317, 318, 319, 320, 321, 322, 323, 324, 325, 326, 327, 328, 329, 367, 368, 369, 370, 371, 372, 373, 374, 375, 376, 377, 378, 379, 380, 381, 382, 383, 384, 385, 386, 459, 460, 461, 462, 463, 464, 465, 466, 467, 468, 469, 470, 471, 472, 473, 474, 498, 499, 500, 501, 502, 503, 504, 505, 424, 425, 426, 522, 523, 524, 525, 1001, 1002, 1003, 1004, 1005, 1006, 1007, 1008, 1009, 1010, 1011, 1012] (by decide +kernel) (by decide +kernel)
set_option maxRecDepth 20000 in
theorem gL_law_X8_runCommands : GoodIn wsL_law (wsV RL 171 RX8 yX8_runCommands wsX8_runCommands) := goodIn_app (goodIn_of _ (by decide +kernel)) ggL_law_X8_runCommands
set_option maxRecDepth 20000 in
theorem ggL_law_L_undo : GoodIn wsL_law wsL_undo := goodIn_ca (goodIn_r _ [962, 160, 963, 964, 965, 2, 966, 165, 166, 21, 16, 167, 967, 968, 969, 20, 970, 129, 971, 972, 973, 974, 128, 209, 210, 211, 212, 127, 213, 214, 215, 36, 216, 53, 55, 54, 56, 57, 58, 59, 60, 217, 218, 219, 40, 220, 120, 92, 93, 94, 70, 121, 76, 77, 78, 975, 81, 82, 15, 83, 37, 84, 41, 46, 44, 45, 85, 86, 87, 88, 89, 66, 67, 68, 90, 91, 95, 96, 97, 98, 99, 100, 101, 102, 103, 104, 105, 106, 107, 108, 109, 42, 43, 110, 111, 112, 113, 114, 115, 116, 117, 118, 119, 996, 997, 998, 999, 1000, 1013, 1014, 1015, 1016, 1017, 1018, 1019, 1020, 1021, 1022, 1023, 1032, 1033, 1034, 1035, 1036, 1037, 1038, 1039, 1040] (by decide +kernel) (by decide +kernel)) (goodIn_sub (fun _ h => List.mem_append_left _ (List.mem_append_left _ (List.mem_append_right _ h))) (by decide +kernel))
set_option maxRecDepth 20000 in
theorem gL_law_L_undo : GoodIn wsL_law (va_wsS RL 172 yL_undo wsL_undo) := goodIn_app (goodIn_of _ (by decide +kernel)) ggL_law_L_undo
set_option maxRecDepth 20000 in
theorem ggL_law_X8_undo : GoodIn wsL_law wsX8_undo := goodIn_r _ [979, 286, 256, 153, 151, 287, 288, 5, 289, 1001, 1002, 1003, 1004, 1005, 1006, 1007, 1008, 1009, 1010, 1011, 1012] (by decide +kernel) (by decide +kernel)
set_option maxRecDepth 20000 in
theorem gL_law_X8_undo : GoodIn wsL_law (wsV RL 175 RX8 yX8_undo wsX8_undo) := goodIn_app (goodIn_of _ (by decide +kernel)) ggL_law_X8_undo
set_option maxRecDepth 20000 in
theorem ggL_law_X7_digest : GoodIn wsL_law wsX7_digest := goodIn_ca (goodIn_r _ [983, 984, 21, 16, 167, 641, 967, 968, 969, 20, 970, 129, 985, 986, 2, 987, 988, 989, 717, 718, 719, 25, 578, 579, 580, 171, 172, 720, 721, 722, 24, 723, 136, 724, 725, 726, 15, 727, 37, 84, 419, 454, 225, 226, 350, 198, 199, 200, 201, 44, 91, 92, 93, 40, 94, 70, 728, 729, 730, 731, 46, 110, 43, 534, 535, 536, 537, 490, 491, 492, 493, 446, 447, 448, 449, 90, 41, 227, 100, 97, 101, 732, 733, 734, 735, 89, 66, 67, 68, 736, 737, 738, 739, 577, 581, 582, 583, 584, 585, 586, 587, 99, 102, 103, 104, 642, 643, 644, 645, 42, 45, 646, 647, 648, 649, 111, 112, 113, 36, 114, 54, 115, 772, 773, 774, 775, 438, 439, 440, 441, 442, 443, 444, 445, 701, 702, 703, 704, 788, 789, 790, 791, 792, 996, 997, 998, 999, 1000, 1013, 1014, 1015, 1016, 1017, 1018, 1019, 1020, 1032, 1033, 1034, 1035, 1036, 1037, 1038, 1039, 1021, 1022, 1023, 1024, 1025, 1040] (by decide +kernel) (by decide +kernel)) (goodIn_sub (fun _ h => List.mem_append_left _ (List.mem_append_right _ h)) (by decide +kernel))
set_option maxRecDepth 20000 in
theorem gL_law_X7_digest : GoodIn wsL_law (wsV RL 176 RX7 yX7_digest wsX7_digest) := goodIn_app (goodIn_of _ (by decide +kernel)) ggL_law_X7_digest
set_option maxRecDepth 20000 in
theorem ggL_law_X8_digest : GoodIn wsL_law wsX8_digest := goodIn_r _ [993, 256, 994, 286, 995, 151, 744, 745, 746, 5, 747, 748, 467, 468, 469, 470, 322, 323, 324, 325, 298, 299, 300, 379, 380, 381, 382, 315, 316, 317, 301, 302, 303, 304, 305, 306, 267, 268, 269, 278, 279, 280, 281, 600, 601, 602, 603, 749, 750, 751, 752, 596, 597, 598, 599, 658, 659, 660, 661, 375, 376, 377, 378, 270, 271, 272, 273, 274, 275, 276, 277, 311, 312, 313, 314, 662, 663, 664, 665, 780, 781, 782, 783, 463, 464, 465, 466, 709, 710, 711, 712, 693, 694, 695, 696, 797, 798, 799, 800, 1001, 1002, 1003, 1004, 1005, 1006, 1007, 1008, 1009, 1010, 1011, 1012] (by decide +kernel) (by decide +kernel)
set_option maxRecDepth 20000 in
theorem gL_law_X8_digest : GoodIn wsL_law (wsV RL 180 RX8 yX8_digest wsX8_digest) := goodIn_app (goodIn_of _ (by decide +kernel)) ggL_law_X8_digest

theorem dL_cell_0 : decode cL_cell 0 = .ok (.iload_n 1, 1) := by decide +kernel
theorem dL_cell_1 : decode cL_cell 1 = .ok (.aload_n 0, 1) := by decide +kernel
theorem dL_cell_2 : decode cL_cell 2 = .ok (.arraylength, 1) := by decide +kernel
theorem dL_cell_3 : decode cL_cell 3 = .ok (.if_icmp .ge 9, 3) := by decide +kernel
theorem dL_cell_6 : decode cL_cell 6 = .ok (.aload_n 0, 1) := by decide +kernel
theorem dL_cell_7 : decode cL_cell 7 = .ok (.iload_n 1, 1) := by decide +kernel
theorem dL_cell_8 : decode cL_cell 8 = .ok (.iaload, 1) := by decide +kernel
theorem dL_cell_9 : decode cL_cell 9 = .ok (.goto 12, 3) := by decide +kernel
theorem dL_cell_12 : decode cL_cell 12 = .ok (.ldc 7, 2) := by decide +kernel
theorem dL_cell_14 : decode cL_cell 14 = .ok (.iload_n 1, 1) := by decide +kernel
theorem dL_cell_15 : decode cL_cell 15 = .ok (.iconst 1, 1) := by decide +kernel
theorem dL_cell_16 : decode cL_cell 16 = .ok (.iadd, 1) := by decide +kernel
theorem dL_cell_17 : decode cL_cell 17 = .ok (.imul, 1) := by decide +kernel
theorem dL_cell_18 : decode cL_cell 18 = .ok (.ldc 8, 2) := by decide +kernel
theorem dL_cell_20 : decode cL_cell 20 = .ok (.iadd, 1) := by decide +kernel
theorem dL_cell_21 : decode cL_cell 21 = .ok (.ireturn, 1) := by decide +kernel
theorem dL_low_0 : decode cL_low 0 = .ok (.iload_n 0, 1) := by decide +kernel
theorem dL_low_1 : decode cL_low 1 = .ok (.ldc 9, 2) := by decide +kernel
theorem dL_low_3 : decode cL_low 3 = .ok (.iand, 1) := by decide +kernel
theorem dL_low_4 : decode cL_low 4 = .ok (.iload_n 1, 1) := by decide +kernel
theorem dL_low_5 : decode cL_low 5 = .ok (.irem, 1) := by decide +kernel
theorem dL_low_6 : decode cL_low 6 = .ok (.ireturn, 1) := by decide +kernel
set_option maxRecDepth 20000 in
theorem ggL_add_X7_add : GoodIn wsL_add wsX7_add := goodIn_ca (goodIn_ca (goodIn_r _ [7, 8, 9, 10, 11, 12, 13, 14, 6, 15, 16, 17, 18, 19, 20, 21, 22, 23, 24, 25, 26, 27, 28, 29, 30, 31, 32, 33, 34, 35, 36, 37, 38, 39, 40, 41, 42, 43, 44, 45, 46, 47, 48, 49, 50, 51, 52, 53, 54, 55, 56, 57, 58, 59, 60, 61, 62, 63, 64, 65, 66, 67, 68, 69, 70, 71, 72, 73, 74, 75, 76, 77, 78, 79, 80, 81, 82, 83, 84, 85, 86, 87, 88, 89, 90, 91, 92, 93, 94, 95, 96, 97, 98, 99, 100, 101, 102, 103, 104, 105, 106, 107, 108, 109, 110, 111, 112, 113, 114, 115, 116, 117, 118, 119, 120, 121, 122, 123, 124, 125, 126, 127, 128, 129, 130, 131, 132, 133, 134, 135, 136, 137, 138, 139, 140, 141, 142, 143, 144, 145, 146, 147, 148, 149, 150, 151, 152, 153, 154, 155, 156, 157, 158, 159, 160, 161, 162, 163, 164, 165, 166, 167, 168, 169, 170, 171, 172, 173, 174, 175, 176, 177, 178, 179, 180, 181, 182, 183, 184, 185, 186, 187, 188, 189, 190, 191, 192, 193, 194, 195, 196, 197] (by decide +kernel) (by decide +kernel)) (goodIn_sub (fun _ h => List.mem_cons_of_mem _ (List.mem_append_left _ (List.mem_append_right _ h))) (by decide +kernel))) (goodIn_sub (fun _ h => List.mem_cons_of_mem _ (List.mem_append_right _ h)) (by decide +kernel))
set_option maxRecDepth 20000 in
theorem gL_add_X7_add : GoodIn wsL_add (wsV RL 10 RX7 yX7_add wsX7_add) := goodIn_app (goodIn_of _ (by decide +kernel)) ggL_add_X7_add
theorem dL_add_0 : decode cL_add 0 = .ok (.aload_n 0, 1) := by decide +kernel
theorem dL_add_1 : decode cL_add 1 = .ok (.iload_n 1, 1) := by decide +kernel
theorem dL_add_2 : decode cL_add 2 = .ok (.iload_n 2, 1) := by decide +kernel
theorem dL_add_3 : decode cL_add 3 = .ok (.iload_n 3, 1) := by decide +kernel
theorem dL_add_4 : decode cL_add 4 = .ok (.invokevirtual 10, 3) := by decide +kernel
theorem dL_add_7 : decode cL_add 7 = .ok (.ireturn, 1) := by decide +kernel
theorem dL_add_8 : decode cL_add 8 = .ok (.astore 4, 2) := by decide +kernel
theorem dL_add_10 : decode cL_add 10 = .ok (.iconst (-1), 1) := by decide +kernel
theorem dL_add_11 : decode cL_add 11 = .ok (.ireturn, 1) := by decide +kernel
theorem dL_add_12 : decode cL_add 12 = .ok (.astore 4, 2) := by decide +kernel
theorem dL_add_14 : decode cL_add 14 = .ok (.bipush (-2), 2) := by decide +kernel
theorem dL_add_16 : decode cL_add 16 = .ok (.ireturn, 1) := by decide +kernel
set_option maxRecDepth 20000 in
theorem ggL_remove_X7_remove : GoodIn wsL_remove wsX7_remove := goodIn_ca (goodIn_ca (goodIn_r _ [7, 8, 9, 10, 11, 12, 6, 13, 14, 15, 16, 17, 18, 19, 20, 21, 22, 23, 24, 25, 26, 27, 28, 29, 30, 31, 32, 33, 34, 35, 36, 37, 38, 39, 40, 41, 42, 43, 44, 45, 46, 47, 48, 49, 50, 51, 52, 53, 54, 55, 56, 57, 58, 59, 60, 61, 62, 63, 64, 65, 66, 67, 68, 69, 70, 71, 72, 73, 74, 75, 76, 77, 78, 79, 80, 81, 82, 83, 84, 85, 86, 87, 88, 89, 90, 91, 92, 93, 94, 95, 96, 97, 98, 99, 100, 101, 102, 103, 104, 105, 106, 107, 108, 109, 110, 111, 112, 113, 114, 115, 116, 117, 118, 119, 120, 121, 122, 123, 124, 125, 126, 127, 128, 129, 130, 131, 132, 133, 134, 135, 136, 137, 138, 139, 140, 141, 142, 143, 144, 145, 146, 147, 148, 149, 150, 151, 152, 153, 154, 155, 156, 157, 158, 159, 160, 161, 162, 163, 164, 165, 166, 167, 168, 169, 170, 171] (by decide +kernel) (by decide +kernel)) (goodIn_sub (fun _ h => List.mem_cons_of_mem _ (List.mem_append_left _ (List.mem_append_right _ h))) (by decide +kernel))) (goodIn_sub (fun _ h => List.mem_cons_of_mem _ (List.mem_append_right _ h)) (by decide +kernel))
set_option maxRecDepth 20000 in
theorem gL_remove_X7_remove : GoodIn wsL_remove (wsV RL 20 RX7 yX7_remove wsX7_remove) := goodIn_app (goodIn_of _ (by decide +kernel)) ggL_remove_X7_remove
theorem dL_remove_0 : decode cL_remove 0 = .ok (.aload_n 0, 1) := by decide +kernel
theorem dL_remove_1 : decode cL_remove 1 = .ok (.iload_n 1, 1) := by decide +kernel
theorem dL_remove_2 : decode cL_remove 2 = .ok (.iload_n 2, 1) := by decide +kernel
theorem dL_remove_3 : decode cL_remove 3 = .ok (.invokevirtual 20, 3) := by decide +kernel
theorem dL_remove_6 : decode cL_remove 6 = .ok (.ireturn, 1) := by decide +kernel
theorem dL_remove_7 : decode cL_remove 7 = .ok (.astore_n 3, 1) := by decide +kernel
theorem dL_remove_8 : decode cL_remove 8 = .ok (.iconst (-1), 1) := by decide +kernel
theorem dL_remove_9 : decode cL_remove 9 = .ok (.ireturn, 1) := by decide +kernel
theorem dL_remove_10 : decode cL_remove 10 = .ok (.astore_n 3, 1) := by decide +kernel
theorem dL_remove_11 : decode cL_remove 11 = .ok (.bipush (-2), 2) := by decide +kernel
theorem dL_remove_13 : decode cL_remove 13 = .ok (.ireturn, 1) := by decide +kernel
set_option maxRecDepth 20000 in
theorem ggL_moveIn_X7_moveIn : GoodIn wsL_moveIn wsX7_moveIn := goodIn_ca (goodIn_ca (goodIn_r _ [7, 8, 9, 10, 11, 12, 13, 14, 6, 15, 16, 17, 18, 19, 20, 21, 22, 23, 24, 25, 26, 27, 28, 29, 30, 31, 32, 33, 34, 35, 36, 37, 38, 39, 40, 41, 42, 43, 44, 45, 46, 47, 48, 49, 50, 51, 52, 53, 54, 55, 56, 57, 58, 59, 60, 61, 62, 63, 64, 65, 66, 67, 68, 69, 70, 71, 72, 73, 74, 75, 76, 77, 78, 79, 80, 81, 82, 83, 84, 85, 86, 87, 88, 89, 90, 91, 92, 93, 94, 95, 96, 97, 98, 99, 100, 101, 102, 103, 104, 105, 106, 107, 108, 109, 110, 111, 112, 113, 114, 115, 116, 117, 118, 119, 120, 121, 122, 123, 124, 125, 126, 127, 128, 129, 130, 131, 132, 133, 134, 135, 136, 137, 138, 139, 140, 141, 142, 143, 144, 145, 146, 147, 148, 149, 150, 151, 152, 153, 154, 155, 156, 157, 158, 159, 160, 161, 162, 163, 164, 165, 166, 167, 168, 169, 170, 171, 172, 173, 174] (by decide +kernel) (by decide +kernel)) (goodIn_sub (fun _ h => List.mem_cons_of_mem _ (List.mem_append_left _ (List.mem_append_right _ h))) (by decide +kernel))) (goodIn_sub (fun _ h => List.mem_cons_of_mem _ (List.mem_append_right _ h)) (by decide +kernel))
set_option maxRecDepth 20000 in
theorem gL_moveIn_X7_moveIn : GoodIn wsL_moveIn (wsV RL 24 RX7 yX7_moveIn wsX7_moveIn) := goodIn_app (goodIn_of _ (by decide +kernel)) ggL_moveIn_X7_moveIn
theorem dL_moveIn_0 : decode cL_moveIn 0 = .ok (.aload_n 0, 1) := by decide +kernel
theorem dL_moveIn_1 : decode cL_moveIn 1 = .ok (.iload_n 1, 1) := by decide +kernel
theorem dL_moveIn_2 : decode cL_moveIn 2 = .ok (.iload_n 2, 1) := by decide +kernel
theorem dL_moveIn_3 : decode cL_moveIn 3 = .ok (.invokevirtual 24, 3) := by decide +kernel
theorem dL_moveIn_6 : decode cL_moveIn 6 = .ok (.ireturn, 1) := by decide +kernel
theorem dL_moveIn_7 : decode cL_moveIn 7 = .ok (.astore_n 3, 1) := by decide +kernel
theorem dL_moveIn_8 : decode cL_moveIn 8 = .ok (.iconst (-1), 1) := by decide +kernel
theorem dL_moveIn_9 : decode cL_moveIn 9 = .ok (.ireturn, 1) := by decide +kernel
theorem dL_moveIn_10 : decode cL_moveIn 10 = .ok (.astore_n 3, 1) := by decide +kernel
theorem dL_moveIn_11 : decode cL_moveIn 11 = .ok (.bipush (-2), 2) := by decide +kernel
theorem dL_moveIn_13 : decode cL_moveIn 13 = .ok (.ireturn, 1) := by decide +kernel
set_option maxRecDepth 20000 in
theorem ggL_evict_X7_evict : GoodIn wsL_evict wsX7_evict := goodIn_ca (goodIn_ca (goodIn_r _ [7, 8, 9, 10, 11, 12, 13, 14, 6, 15, 16, 17, 18, 19, 20, 21, 22, 23, 24, 25, 26, 27, 28, 29, 30, 31, 32, 33, 34, 35, 36, 37, 38, 39, 40, 41, 42, 43, 44, 45, 46, 47, 48, 49, 50, 51, 52, 53, 54, 55, 56, 57, 58, 59, 60, 61, 62, 63, 64, 65, 66, 67, 68, 69, 70, 71, 72, 73, 74, 75, 76, 77, 78, 79, 80, 81, 82, 83, 84, 85, 86, 87, 88, 89, 90, 91, 92, 93, 94, 95, 96, 97, 98, 99, 100, 101, 102, 103, 104, 105, 106, 107, 108, 109, 110, 111, 112, 113, 114, 115, 116, 117, 118, 119, 120, 121, 122, 123, 124, 125, 126, 127, 128, 129, 130, 131, 132, 133, 134, 135, 136, 137, 138, 139, 140, 141, 142, 143, 144, 145, 146, 147, 148, 149, 150, 151, 152, 153, 154, 155, 156, 157, 158, 159, 160, 161, 162, 163, 164, 165, 166, 167, 168, 169, 170, 171, 172, 173, 174, 175, 176, 177, 178, 179] (by decide +kernel) (by decide +kernel)) (goodIn_sub (fun _ h => List.mem_cons_of_mem _ (List.mem_append_left _ (List.mem_append_right _ h))) (by decide +kernel))) (goodIn_sub (fun _ h => List.mem_cons_of_mem _ (List.mem_append_right _ h)) (by decide +kernel))
set_option maxRecDepth 20000 in
theorem gL_evict_X7_evict : GoodIn wsL_evict (wsV RL 27 RX7 yX7_evict wsX7_evict) := goodIn_app (goodIn_of _ (by decide +kernel)) ggL_evict_X7_evict
theorem dL_evict_0 : decode cL_evict 0 = .ok (.aload_n 0, 1) := by decide +kernel
theorem dL_evict_1 : decode cL_evict 1 = .ok (.iload_n 1, 1) := by decide +kernel
theorem dL_evict_2 : decode cL_evict 2 = .ok (.iload_n 2, 1) := by decide +kernel
theorem dL_evict_3 : decode cL_evict 3 = .ok (.invokevirtual 27, 3) := by decide +kernel
theorem dL_evict_6 : decode cL_evict 6 = .ok (.ireturn, 1) := by decide +kernel
theorem dL_evict_7 : decode cL_evict 7 = .ok (.astore_n 3, 1) := by decide +kernel
theorem dL_evict_8 : decode cL_evict 8 = .ok (.iconst (-1), 1) := by decide +kernel
theorem dL_evict_9 : decode cL_evict 9 = .ok (.ireturn, 1) := by decide +kernel
theorem dL_evict_10 : decode cL_evict 10 = .ok (.astore_n 3, 1) := by decide +kernel
theorem dL_evict_11 : decode cL_evict 11 = .ok (.bipush (-2), 2) := by decide +kernel
theorem dL_evict_13 : decode cL_evict 13 = .ok (.ireturn, 1) := by decide +kernel
theorem dL_length_0 : decode cL_length 0 = .ok (.iload_n 0, 1) := by decide +kernel
theorem dL_length_1 : decode cL_length 1 = .ok (.ifCond .ne 7, 3) := by decide +kernel
theorem dL_length_4 : decode cL_length 4 = .ok (.iconst 0, 1) := by decide +kernel
theorem dL_length_5 : decode cL_length 5 = .ok (.goto 23, 3) := by decide +kernel
theorem dL_length_8 : decode cL_length 8 = .ok (.iload_n 0, 1) := by decide +kernel
theorem dL_length_9 : decode cL_length 9 = .ok (.iconst 3, 1) := by decide +kernel
theorem dL_length_10 : decode cL_length 10 = .ok (.if_icmp .ge 7, 3) := by decide +kernel
theorem dL_length_13 : decode cL_length 13 = .ok (.iconst 1, 1) := by decide +kernel
theorem dL_length_14 : decode cL_length 14 = .ok (.goto 14, 3) := by decide +kernel
theorem dL_length_17 : decode cL_length 17 = .ok (.iload_n 0, 1) := by decide +kernel
theorem dL_length_18 : decode cL_length 18 = .ok (.bipush 7, 2) := by decide +kernel
theorem dL_length_20 : decode cL_length 20 = .ok (.if_icmp .ge 7, 3) := by decide +kernel
theorem dL_length_23 : decode cL_length 23 = .ok (.iconst 2, 1) := by decide +kernel
theorem dL_length_24 : decode cL_length 24 = .ok (.goto 4, 3) := by decide +kernel
theorem dL_length_27 : decode cL_length 27 = .ok (.iconst 3, 1) := by decide +kernel
theorem dL_length_28 : decode cL_length 28 = .ok (.ireturn, 1) := by decide +kernel
theorem dL_letters_0 : decode cL_letters 0 = .ok (.iconst 0, 1) := by decide +kernel
theorem dL_letters_1 : decode cL_letters 1 = .ok (.istore_n 1, 1) := by decide +kernel
theorem dL_letters_2 : decode cL_letters 2 = .ok (.iconst 1, 1) := by decide +kernel
theorem dL_letters_3 : decode cL_letters 3 = .ok (.istore_n 2, 1) := by decide +kernel
theorem dL_letters_4 : decode cL_letters 4 = .ok (.iload_n 0, 1) := by decide +kernel
theorem dL_letters_5 : decode cL_letters 5 = .ok (.istore_n 3, 1) := by decide +kernel
theorem dL_letters_6 : decode cL_letters 6 = .ok (.iload_n 3, 1) := by decide +kernel
theorem dL_letters_7 : decode cL_letters 7 = .ok (.ifCond .le 27, 3) := by decide +kernel
theorem dL_letters_10 : decode cL_letters 10 = .ok (.iload_n 1, 1) := by decide +kernel
theorem dL_letters_11 : decode cL_letters 11 = .ok (.iload_n 2, 1) := by decide +kernel
theorem dL_letters_12 : decode cL_letters 12 = .ok (.iload_n 3, 1) := by decide +kernel
theorem dL_letters_13 : decode cL_letters 13 = .ok (.iconst 1, 1) := by decide +kernel
theorem dL_letters_14 : decode cL_letters 14 = .ok (.iadd, 1) := by decide +kernel
theorem dL_letters_15 : decode cL_letters 15 = .ok (.iconst 2, 1) := by decide +kernel
theorem dL_letters_16 : decode cL_letters 16 = .ok (.irem, 1) := by decide +kernel
theorem dL_letters_17 : decode cL_letters 17 = .ok (.imul, 1) := by decide +kernel
theorem dL_letters_18 : decode cL_letters 18 = .ok (.iadd, 1) := by decide +kernel
theorem dL_letters_19 : decode cL_letters 19 = .ok (.istore_n 1, 1) := by decide +kernel
theorem dL_letters_20 : decode cL_letters 20 = .ok (.iload_n 2, 1) := by decide +kernel
theorem dL_letters_21 : decode cL_letters 21 = .ok (.bipush 8, 2) := by decide +kernel
theorem dL_letters_23 : decode cL_letters 23 = .ok (.imul, 1) := by decide +kernel
theorem dL_letters_24 : decode cL_letters 24 = .ok (.istore_n 2, 1) := by decide +kernel
theorem dL_letters_25 : decode cL_letters 25 = .ok (.iload_n 3, 1) := by decide +kernel
theorem dL_letters_26 : decode cL_letters 26 = .ok (.iconst 1, 1) := by decide +kernel
theorem dL_letters_27 : decode cL_letters 27 = .ok (.isub, 1) := by decide +kernel
theorem dL_letters_28 : decode cL_letters 28 = .ok (.iconst 2, 1) := by decide +kernel
theorem dL_letters_29 : decode cL_letters 29 = .ok (.idiv, 1) := by decide +kernel
theorem dL_letters_30 : decode cL_letters 30 = .ok (.istore_n 3, 1) := by decide +kernel
theorem dL_letters_31 : decode cL_letters 31 = .ok (.goto (-25), 3) := by decide +kernel
theorem dL_letters_34 : decode cL_letters 34 = .ok (.iload_n 1, 1) := by decide +kernel
theorem dL_letters_35 : decode cL_letters 35 = .ok (.ireturn, 1) := by decide +kernel
theorem dL_above_0 : decode cL_above 0 = .ok (.iload_n 1, 1) := by decide +kernel
theorem dL_above_1 : decode cL_above 1 = .ok (.istore_n 2, 1) := by decide +kernel
theorem dL_above_2 : decode cL_above 2 = .ok (.iload_n 2, 1) := by decide +kernel
theorem dL_above_3 : decode cL_above 3 = .ok (.iload_n 0, 1) := by decide +kernel
theorem dL_above_4 : decode cL_above 4 = .ok (.if_icmp .le 12, 3) := by decide +kernel
theorem dL_above_7 : decode cL_above 7 = .ok (.iload_n 2, 1) := by decide +kernel
theorem dL_above_8 : decode cL_above 8 = .ok (.iconst 1, 1) := by decide +kernel
theorem dL_above_9 : decode cL_above 9 = .ok (.isub, 1) := by decide +kernel
theorem dL_above_10 : decode cL_above 10 = .ok (.iconst 2, 1) := by decide +kernel
theorem dL_above_11 : decode cL_above 11 = .ok (.idiv, 1) := by decide +kernel
theorem dL_above_12 : decode cL_above 12 = .ok (.istore_n 2, 1) := by decide +kernel
theorem dL_above_13 : decode cL_above 13 = .ok (.goto (-11), 3) := by decide +kernel
theorem dL_above_16 : decode cL_above 16 = .ok (.iload_n 2, 1) := by decide +kernel
theorem dL_above_17 : decode cL_above 17 = .ok (.iload_n 0, 1) := by decide +kernel
theorem dL_above_18 : decode cL_above 18 = .ok (.if_icmp .ne 7, 3) := by decide +kernel
theorem dL_above_21 : decode cL_above 21 = .ok (.iconst 1, 1) := by decide +kernel
theorem dL_above_22 : decode cL_above 22 = .ok (.goto 4, 3) := by decide +kernel
theorem dL_above_25 : decode cL_above 25 = .ok (.iconst 0, 1) := by decide +kernel
theorem dL_above_26 : decode cL_above 26 = .ok (.ireturn, 1) := by decide +kernel
set_option maxRecDepth 20000 in
theorem ggL_inTown_L_above : GoodIn wsL_inTown wsL_above := goodIn_r _ [4] (by decide +kernel) (by decide +kernel)
set_option maxRecDepth 20000 in
theorem gL_inTown_L_above : GoodIn wsL_inTown (va_wsS RL 30 yL_above wsL_above) := goodIn_app (goodIn_of _ (by decide +kernel)) ggL_inTown_L_above
theorem dL_inTown_0 : decode cL_inTown 0 = .ok (.iload_n 0, 1) := by decide +kernel
theorem dL_inTown_1 : decode cL_inTown 1 = .ok (.ifCond .ne 7, 3) := by decide +kernel
theorem dL_inTown_4 : decode cL_inTown 4 = .ok (.iconst 1, 1) := by decide +kernel
theorem dL_inTown_5 : decode cL_inTown 5 = .ok (.goto 4, 3) := by decide +kernel
theorem dL_inTown_8 : decode cL_inTown 8 = .ok (.iconst 0, 1) := by decide +kernel
theorem dL_inTown_9 : decode cL_inTown 9 = .ok (.istore_n 2, 1) := by decide +kernel
theorem dL_inTown_10 : decode cL_inTown 10 = .ok (.iload_n 0, 1) := by decide +kernel
theorem dL_inTown_11 : decode cL_inTown 11 = .ok (.istore_n 3, 1) := by decide +kernel
theorem dL_inTown_12 : decode cL_inTown 12 = .ok (.iload_n 3, 1) := by decide +kernel
theorem dL_inTown_13 : decode cL_inTown 13 = .ok (.bipush 15, 2) := by decide +kernel
theorem dL_inTown_15 : decode cL_inTown 15 = .ok (.if_icmp .ge 34, 3) := by decide +kernel
theorem dL_inTown_18 : decode cL_inTown 18 = .ok (.iload_n 2, 1) := by decide +kernel
theorem dL_inTown_19 : decode cL_inTown 19 = .ok (.ifCond .ne 18, 3) := by decide +kernel
theorem dL_inTown_22 : decode cL_inTown 22 = .ok (.aload_n 1, 1) := by decide +kernel
theorem dL_inTown_23 : decode cL_inTown 23 = .ok (.iload_n 3, 1) := by decide +kernel
theorem dL_inTown_24 : decode cL_inTown 24 = .ok (.iaload, 1) := by decide +kernel
theorem dL_inTown_25 : decode cL_inTown 25 = .ok (.iconst 1, 1) := by decide +kernel
theorem dL_inTown_26 : decode cL_inTown 26 = .ok (.if_icmp .ne 15, 3) := by decide +kernel
theorem dL_inTown_29 : decode cL_inTown 29 = .ok (.iload_n 0, 1) := by decide +kernel
theorem dL_inTown_30 : decode cL_inTown 30 = .ok (.iload_n 3, 1) := by decide +kernel
theorem dL_inTown_31 : decode cL_inTown 31 = .ok (.invokestatic 30, 3) := by decide +kernel
theorem dL_inTown_34 : decode cL_inTown 34 = .ok (.ifCond .eq 7, 3) := by decide +kernel
theorem dL_inTown_37 : decode cL_inTown 37 = .ok (.iconst 1, 1) := by decide +kernel
theorem dL_inTown_38 : decode cL_inTown 38 = .ok (.goto 4, 3) := by decide +kernel
theorem dL_inTown_41 : decode cL_inTown 41 = .ok (.iconst 0, 1) := by decide +kernel
theorem dL_inTown_42 : decode cL_inTown 42 = .ok (.istore_n 2, 1) := by decide +kernel
theorem dL_inTown_43 : decode cL_inTown 43 = .ok (.iinc 3 1, 3) := by decide +kernel
theorem dL_inTown_46 : decode cL_inTown 46 = .ok (.goto (-34), 3) := by decide +kernel
theorem dL_inTown_49 : decode cL_inTown 49 = .ok (.iload_n 2, 1) := by decide +kernel
theorem dL_inTown_50 : decode cL_inTown 50 = .ok (.ireturn, 1) := by decide +kernel
set_option maxRecDepth 20000 in
theorem ggL_before_L_letters : GoodIn wsL_before wsL_letters := goodIn_r _ [4] (by decide +kernel) (by decide +kernel)
set_option maxRecDepth 20000 in
theorem gL_before_L_letters : GoodIn wsL_before (va_wsS RL 36 yL_letters wsL_letters) := goodIn_app (goodIn_of _ (by decide +kernel)) ggL_before_L_letters
set_option maxRecDepth 20000 in
theorem ggL_before_L_length : GoodIn wsL_before wsL_length := goodIn_r _ [7] (by decide +kernel) (by decide +kernel)
set_option maxRecDepth 20000 in
theorem gL_before_L_length : GoodIn wsL_before (va_wsS RL 40 yL_length wsL_length) := goodIn_app (goodIn_of _ (by decide +kernel)) ggL_before_L_length
theorem dL_before_0 : decode cL_before 0 = .ok (.iload_n 0, 1) := by decide +kernel
theorem dL_before_1 : decode cL_before 1 = .ok (.invokestatic 36, 3) := by decide +kernel
theorem dL_before_4 : decode cL_before 4 = .ok (.iconst 3, 1) := by decide +kernel
theorem dL_before_5 : decode cL_before 5 = .ok (.iconst 3, 1) := by decide +kernel
theorem dL_before_6 : decode cL_before 6 = .ok (.iload_n 0, 1) := by decide +kernel
theorem dL_before_7 : decode cL_before 7 = .ok (.invokestatic 40, 3) := by decide +kernel
theorem dL_before_10 : decode cL_before 10 = .ok (.isub, 1) := by decide +kernel
theorem dL_before_11 : decode cL_before 11 = .ok (.imul, 1) := by decide +kernel
theorem dL_before_12 : decode cL_before 12 = .ok (.ishl, 1) := by decide +kernel
theorem dL_before_13 : decode cL_before 13 = .ok (.istore_n 2, 1) := by decide +kernel
theorem dL_before_14 : decode cL_before 14 = .ok (.iload_n 1, 1) := by decide +kernel
theorem dL_before_15 : decode cL_before 15 = .ok (.invokestatic 36, 3) := by decide +kernel
theorem dL_before_18 : decode cL_before 18 = .ok (.iconst 3, 1) := by decide +kernel
theorem dL_before_19 : decode cL_before 19 = .ok (.iconst 3, 1) := by decide +kernel
theorem dL_before_20 : decode cL_before 20 = .ok (.iload_n 1, 1) := by decide +kernel
theorem dL_before_21 : decode cL_before 21 = .ok (.invokestatic 40, 3) := by decide +kernel
theorem dL_before_24 : decode cL_before 24 = .ok (.isub, 1) := by decide +kernel
theorem dL_before_25 : decode cL_before 25 = .ok (.imul, 1) := by decide +kernel
theorem dL_before_26 : decode cL_before 26 = .ok (.ishl, 1) := by decide +kernel
theorem dL_before_27 : decode cL_before 27 = .ok (.istore_n 3, 1) := by decide +kernel
theorem dL_before_28 : decode cL_before 28 = .ok (.iload_n 2, 1) := by decide +kernel
theorem dL_before_29 : decode cL_before 29 = .ok (.iload_n 3, 1) := by decide +kernel
theorem dL_before_30 : decode cL_before 30 = .ok (.if_icmp .eq 16, 3) := by decide +kernel
theorem dL_before_33 : decode cL_before 33 = .ok (.iload_n 2, 1) := by decide +kernel
theorem dL_before_34 : decode cL_before 34 = .ok (.iload_n 3, 1) := by decide +kernel
theorem dL_before_35 : decode cL_before 35 = .ok (.if_icmp .ge 7, 3) := by decide +kernel
theorem dL_before_38 : decode cL_before 38 = .ok (.iconst 1, 1) := by decide +kernel
theorem dL_before_39 : decode cL_before 39 = .ok (.goto 23, 3) := by decide +kernel
theorem dL_before_42 : decode cL_before 42 = .ok (.iconst 0, 1) := by decide +kernel
theorem dL_before_43 : decode cL_before 43 = .ok (.goto 19, 3) := by decide +kernel
theorem dL_before_46 : decode cL_before 46 = .ok (.iload_n 0, 1) := by decide +kernel
theorem dL_before_47 : decode cL_before 47 = .ok (.invokestatic 40, 3) := by decide +kernel
theorem dL_before_50 : decode cL_before 50 = .ok (.iload_n 1, 1) := by decide +kernel
theorem dL_before_51 : decode cL_before 51 = .ok (.invokestatic 40, 3) := by decide +kernel
theorem dL_before_54 : decode cL_before 54 = .ok (.if_icmp .ge 7, 3) := by decide +kernel
theorem dL_before_57 : decode cL_before 57 = .ok (.iconst 1, 1) := by decide +kernel
theorem dL_before_58 : decode cL_before 58 = .ok (.goto 4, 3) := by decide +kernel
theorem dL_before_61 : decode cL_before 61 = .ok (.iconst 0, 1) := by decide +kernel
theorem dL_before_62 : decode cL_before 62 = .ok (.ireturn, 1) := by decide +kernel
theorem dL_parent_0 : decode cL_parent 0 = .ok (.iload_n 0, 1) := by decide +kernel
theorem dL_parent_1 : decode cL_parent 1 = .ok (.iconst 1, 1) := by decide +kernel
theorem dL_parent_2 : decode cL_parent 2 = .ok (.isub, 1) := by decide +kernel
theorem dL_parent_3 : decode cL_parent 3 = .ok (.iconst 2, 1) := by decide +kernel
theorem dL_parent_4 : decode cL_parent 4 = .ok (.idiv, 1) := by decide +kernel
theorem dL_parent_5 : decode cL_parent 5 = .ok (.istore_n 2, 1) := by decide +kernel
theorem dL_parent_6 : decode cL_parent 6 = .ok (.aload_n 1, 1) := by decide +kernel
theorem dL_parent_7 : decode cL_parent 7 = .ok (.iload_n 2, 1) := by decide +kernel
theorem dL_parent_8 : decode cL_parent 8 = .ok (.iaload, 1) := by decide +kernel
theorem dL_parent_9 : decode cL_parent 9 = .ok (.ifCond .ne 12, 3) := by decide +kernel
theorem dL_parent_12 : decode cL_parent 12 = .ok (.iload_n 2, 1) := by decide +kernel
theorem dL_parent_13 : decode cL_parent 13 = .ok (.iconst 1, 1) := by decide +kernel
theorem dL_parent_14 : decode cL_parent 14 = .ok (.isub, 1) := by decide +kernel
theorem dL_parent_15 : decode cL_parent 15 = .ok (.iconst 2, 1) := by decide +kernel
theorem dL_parent_16 : decode cL_parent 16 = .ok (.idiv, 1) := by decide +kernel
theorem dL_parent_17 : decode cL_parent 17 = .ok (.istore_n 2, 1) := by decide +kernel
theorem dL_parent_18 : decode cL_parent 18 = .ok (.goto (-12), 3) := by decide +kernel
theorem dL_parent_21 : decode cL_parent 21 = .ok (.iload_n 2, 1) := by decide +kernel
theorem dL_parent_22 : decode cL_parent 22 = .ok (.ireturn, 1) := by decide +kernel
set_option maxRecDepth 20000 in
theorem ggL_children_L_parent : GoodIn wsL_children wsL_parent := goodIn_r _ [4] (by decide +kernel) (by decide +kernel)
set_option maxRecDepth 20000 in
theorem gL_children_L_parent : GoodIn wsL_children (va_wsS RL 43 yL_parent wsL_parent) := goodIn_app (goodIn_of _ (by decide +kernel)) ggL_children_L_parent
theorem dL_children_0 : decode cL_children 0 = .ok (.iconst 0, 1) := by decide +kernel
theorem dL_children_1 : decode cL_children 1 = .ok (.istore_n 2, 1) := by decide +kernel
theorem dL_children_2 : decode cL_children 2 = .ok (.iload_n 0, 1) := by decide +kernel
theorem dL_children_3 : decode cL_children 3 = .ok (.iconst 1, 1) := by decide +kernel
theorem dL_children_4 : decode cL_children 4 = .ok (.iadd, 1) := by decide +kernel
theorem dL_children_5 : decode cL_children 5 = .ok (.istore_n 3, 1) := by decide +kernel
theorem dL_children_6 : decode cL_children 6 = .ok (.iload_n 3, 1) := by decide +kernel
theorem dL_children_7 : decode cL_children 7 = .ok (.bipush 15, 2) := by decide +kernel
theorem dL_children_9 : decode cL_children 9 = .ok (.if_icmp .ge 33, 3) := by decide +kernel
theorem dL_children_12 : decode cL_children 12 = .ok (.iload_n 2, 1) := by decide +kernel
theorem dL_children_13 : decode cL_children 13 = .ok (.aload_n 1, 1) := by decide +kernel
theorem dL_children_14 : decode cL_children 14 = .ok (.iload_n 3, 1) := by decide +kernel
theorem dL_children_15 : decode cL_children 15 = .ok (.iaload, 1) := by decide +kernel
theorem dL_children_16 : decode cL_children 16 = .ok (.iconst 1, 1) := by decide +kernel
theorem dL_children_17 : decode cL_children 17 = .ok (.if_icmp .ne 16, 3) := by decide +kernel
theorem dL_children_20 : decode cL_children 20 = .ok (.iload_n 3, 1) := by decide +kernel
theorem dL_children_21 : decode cL_children 21 = .ok (.aload_n 1, 1) := by decide +kernel
theorem dL_children_22 : decode cL_children 22 = .ok (.invokestatic 43, 3) := by decide +kernel
theorem dL_children_25 : decode cL_children 25 = .ok (.iload_n 0, 1) := by decide +kernel
theorem dL_children_26 : decode cL_children 26 = .ok (.if_icmp .ne 7, 3) := by decide +kernel
theorem dL_children_29 : decode cL_children 29 = .ok (.iconst 1, 1) := by decide +kernel
theorem dL_children_30 : decode cL_children 30 = .ok (.goto 4, 3) := by decide +kernel
theorem dL_children_33 : decode cL_children 33 = .ok (.iconst 0, 1) := by decide +kernel
theorem dL_children_34 : decode cL_children 34 = .ok (.iadd, 1) := by decide +kernel
theorem dL_children_35 : decode cL_children 35 = .ok (.istore_n 2, 1) := by decide +kernel
theorem dL_children_36 : decode cL_children 36 = .ok (.iinc 3 1, 3) := by decide +kernel
theorem dL_children_39 : decode cL_children 39 = .ok (.goto (-33), 3) := by decide +kernel
theorem dL_children_42 : decode cL_children 42 = .ok (.iload_n 2, 1) := by decide +kernel
theorem dL_children_43 : decode cL_children 43 = .ok (.ireturn, 1) := by decide +kernel
set_option maxRecDepth 20000 in
theorem ggL_child_L_parent : GoodIn wsL_child wsL_parent := goodIn_r _ [4] (by decide +kernel) (by decide +kernel)
set_option maxRecDepth 20000 in
theorem gL_child_L_parent : GoodIn wsL_child (va_wsS RL 43 yL_parent wsL_parent) := goodIn_app (goodIn_of _ (by decide +kernel)) ggL_child_L_parent
theorem dL_child_0 : decode cL_child 0 = .ok (.iconst (-1), 1) := by decide +kernel
theorem dL_child_1 : decode cL_child 1 = .ok (.istore_n 2, 1) := by decide +kernel
theorem dL_child_2 : decode cL_child 2 = .ok (.bipush 14, 2) := by decide +kernel
theorem dL_child_4 : decode cL_child 4 = .ok (.istore_n 3, 1) := by decide +kernel
theorem dL_child_5 : decode cL_child 5 = .ok (.iload_n 3, 1) := by decide +kernel
theorem dL_child_6 : decode cL_child 6 = .ok (.iload_n 0, 1) := by decide +kernel
theorem dL_child_7 : decode cL_child 7 = .ok (.if_icmp .le 31, 3) := by decide +kernel
theorem dL_child_10 : decode cL_child 10 = .ok (.aload_n 1, 1) := by decide +kernel
theorem dL_child_11 : decode cL_child 11 = .ok (.iload_n 3, 1) := by decide +kernel
theorem dL_child_12 : decode cL_child 12 = .ok (.iaload, 1) := by decide +kernel
theorem dL_child_13 : decode cL_child 13 = .ok (.iconst 1, 1) := by decide +kernel
theorem dL_child_14 : decode cL_child 14 = .ok (.if_icmp .ne 16, 3) := by decide +kernel
theorem dL_child_17 : decode cL_child 17 = .ok (.iload_n 3, 1) := by decide +kernel
theorem dL_child_18 : decode cL_child 18 = .ok (.aload_n 1, 1) := by decide +kernel
theorem dL_child_19 : decode cL_child 19 = .ok (.invokestatic 43, 3) := by decide +kernel
theorem dL_child_22 : decode cL_child 22 = .ok (.iload_n 0, 1) := by decide +kernel
theorem dL_child_23 : decode cL_child 23 = .ok (.if_icmp .ne 7, 3) := by decide +kernel
theorem dL_child_26 : decode cL_child 26 = .ok (.iload_n 3, 1) := by decide +kernel
theorem dL_child_27 : decode cL_child 27 = .ok (.goto 4, 3) := by decide +kernel
theorem dL_child_30 : decode cL_child 30 = .ok (.iload_n 2, 1) := by decide +kernel
theorem dL_child_31 : decode cL_child 31 = .ok (.istore_n 2, 1) := by decide +kernel
theorem dL_child_32 : decode cL_child 32 = .ok (.iinc 3 (-1), 3) := by decide +kernel
theorem dL_child_35 : decode cL_child 35 = .ok (.goto (-30), 3) := by decide +kernel
theorem dL_child_38 : decode cL_child 38 = .ok (.iload_n 2, 1) := by decide +kernel
theorem dL_child_39 : decode cL_child 39 = .ok (.ireturn, 1) := by decide +kernel
theorem dL_roads_0 : decode cL_roads 0 = .ok (.iconst 0, 1) := by decide +kernel
theorem dL_roads_1 : decode cL_roads 1 = .ok (.istore_n 2, 1) := by decide +kernel
theorem dL_roads_2 : decode cL_roads 2 = .ok (.iload_n 0, 1) := by decide +kernel
theorem dL_roads_3 : decode cL_roads 3 = .ok (.istore_n 3, 1) := by decide +kernel
theorem dL_roads_4 : decode cL_roads 4 = .ok (.iload_n 3, 1) := by decide +kernel
theorem dL_roads_5 : decode cL_roads 5 = .ok (.ifCond .le 18, 3) := by decide +kernel
theorem dL_roads_8 : decode cL_roads 8 = .ok (.iload_n 2, 1) := by decide +kernel
theorem dL_roads_9 : decode cL_roads 9 = .ok (.aload_n 1, 1) := by decide +kernel
theorem dL_roads_10 : decode cL_roads 10 = .ok (.iload_n 3, 1) := by decide +kernel
theorem dL_roads_11 : decode cL_roads 11 = .ok (.iaload, 1) := by decide +kernel
theorem dL_roads_12 : decode cL_roads 12 = .ok (.iadd, 1) := by decide +kernel
theorem dL_roads_13 : decode cL_roads 13 = .ok (.istore_n 2, 1) := by decide +kernel
theorem dL_roads_14 : decode cL_roads 14 = .ok (.iload_n 3, 1) := by decide +kernel
theorem dL_roads_15 : decode cL_roads 15 = .ok (.iconst 1, 1) := by decide +kernel
theorem dL_roads_16 : decode cL_roads 16 = .ok (.isub, 1) := by decide +kernel
theorem dL_roads_17 : decode cL_roads 17 = .ok (.iconst 2, 1) := by decide +kernel
theorem dL_roads_18 : decode cL_roads 18 = .ok (.idiv, 1) := by decide +kernel
theorem dL_roads_19 : decode cL_roads 19 = .ok (.istore_n 3, 1) := by decide +kernel
theorem dL_roads_20 : decode cL_roads 20 = .ok (.goto (-16), 3) := by decide +kernel
theorem dL_roads_23 : decode cL_roads 23 = .ok (.iload_n 2, 1) := by decide +kernel
theorem dL_roads_24 : decode cL_roads 24 = .ok (.ireturn, 1) := by decide +kernel
set_option maxRecDepth 20000 in
theorem ggL_reason_L_children : GoodIn wsL_reason wsL_children := goodIn_r _ [4, 5, 6, 3, 7] (by decide +kernel) (by decide +kernel)
set_option maxRecDepth 20000 in
theorem gL_reason_L_children : GoodIn wsL_reason (va_wsS RL 47 yL_children wsL_children) := goodIn_app (goodIn_of _ (by decide +kernel)) ggL_reason_L_children
set_option maxRecDepth 20000 in
theorem ggL_reason_L_child : GoodIn wsL_reason wsL_child := goodIn_r _ [10, 5, 6, 3, 7] (by decide +kernel) (by decide +kernel)
set_option maxRecDepth 20000 in
theorem gL_reason_L_child : GoodIn wsL_reason (va_wsS RL 50 yL_child wsL_child) := goodIn_app (goodIn_of _ (by decide +kernel)) ggL_reason_L_child
set_option maxRecDepth 20000 in
theorem ggL_reason_L_length : GoodIn wsL_reason wsL_length := goodIn_r _ [13] (by decide +kernel) (by decide +kernel)
set_option maxRecDepth 20000 in
theorem gL_reason_L_length : GoodIn wsL_reason (va_wsS RL 40 yL_length wsL_length) := goodIn_app (goodIn_of _ (by decide +kernel)) ggL_reason_L_length
set_option maxRecDepth 20000 in
theorem ggL_reason_L_parent : GoodIn wsL_reason wsL_parent := goodIn_r _ [7] (by decide +kernel) (by decide +kernel)
set_option maxRecDepth 20000 in
theorem gL_reason_L_parent : GoodIn wsL_reason (va_wsS RL 43 yL_parent wsL_parent) := goodIn_app (goodIn_of _ (by decide +kernel)) ggL_reason_L_parent
theorem dL_reason_0 : decode cL_reason 0 = .ok (.iload_n 0, 1) := by decide +kernel
theorem dL_reason_1 : decode cL_reason 1 = .ok (.ifCond .ne 5, 3) := by decide +kernel
theorem dL_reason_4 : decode cL_reason 4 = .ok (.iconst 1, 1) := by decide +kernel
theorem dL_reason_5 : decode cL_reason 5 = .ok (.ireturn, 1) := by decide +kernel
theorem dL_reason_6 : decode cL_reason 6 = .ok (.aload_n 2, 1) := by decide +kernel
theorem dL_reason_7 : decode cL_reason 7 = .ok (.iload_n 0, 1) := by decide +kernel
theorem dL_reason_8 : decode cL_reason 8 = .ok (.iaload, 1) := by decide +kernel
theorem dL_reason_9 : decode cL_reason 9 = .ok (.iconst 1, 1) := by decide +kernel
theorem dL_reason_10 : decode cL_reason 10 = .ok (.if_icmp .ne 5, 3) := by decide +kernel
theorem dL_reason_13 : decode cL_reason 13 = .ok (.iconst 2, 1) := by decide +kernel
theorem dL_reason_14 : decode cL_reason 14 = .ok (.ireturn, 1) := by decide +kernel
theorem dL_reason_15 : decode cL_reason 15 = .ok (.iload_n 0, 1) := by decide +kernel
theorem dL_reason_16 : decode cL_reason 16 = .ok (.aload_n 3, 1) := by decide +kernel
theorem dL_reason_17 : decode cL_reason 17 = .ok (.invokestatic 47, 3) := by decide +kernel
theorem dL_reason_20 : decode cL_reason 20 = .ok (.iconst 1, 1) := by decide +kernel
theorem dL_reason_21 : decode cL_reason 21 = .ok (.if_icmp .le 5, 3) := by decide +kernel
theorem dL_reason_24 : decode cL_reason 24 = .ok (.iconst 3, 1) := by decide +kernel
theorem dL_reason_25 : decode cL_reason 25 = .ok (.ireturn, 1) := by decide +kernel
theorem dL_reason_26 : decode cL_reason 26 = .ok (.iload_n 0, 1) := by decide +kernel
theorem dL_reason_27 : decode cL_reason 27 = .ok (.aload_n 3, 1) := by decide +kernel
theorem dL_reason_28 : decode cL_reason 28 = .ok (.invokestatic 50, 3) := by decide +kernel
theorem dL_reason_31 : decode cL_reason 31 = .ok (.invokestatic 40, 3) := by decide +kernel
theorem dL_reason_34 : decode cL_reason 34 = .ok (.iload_n 0, 1) := by decide +kernel
theorem dL_reason_35 : decode cL_reason 35 = .ok (.aload_n 3, 1) := by decide +kernel
theorem dL_reason_36 : decode cL_reason 36 = .ok (.invokestatic 43, 3) := by decide +kernel
theorem dL_reason_39 : decode cL_reason 39 = .ok (.invokestatic 40, 3) := by decide +kernel
theorem dL_reason_42 : decode cL_reason 42 = .ok (.isub, 1) := by decide +kernel
theorem dL_reason_43 : decode cL_reason 43 = .ok (.aload_n 1, 1) := by decide +kernel
theorem dL_reason_44 : decode cL_reason 44 = .ok (.iconst 0, 1) := by decide +kernel
theorem dL_reason_45 : decode cL_reason 45 = .ok (.iaload, 1) := by decide +kernel
theorem dL_reason_46 : decode cL_reason 46 = .ok (.if_icmp .le 7, 3) := by decide +kernel
theorem dL_reason_49 : decode cL_reason 49 = .ok (.iconst 4, 1) := by decide +kernel
theorem dL_reason_50 : decode cL_reason 50 = .ok (.goto 4, 3) := by decide +kernel
theorem dL_reason_53 : decode cL_reason 53 = .ok (.iconst 0, 1) := by decide +kernel
theorem dL_reason_54 : decode cL_reason 54 = .ok (.ireturn, 1) := by decide +kernel
set_option maxRecDepth 20000 in
theorem ggL_below_L_above : GoodIn wsL_below wsL_above := goodIn_r _ [4] (by decide +kernel) (by decide +kernel)
set_option maxRecDepth 20000 in
theorem gL_below_L_above : GoodIn wsL_below (va_wsS RL 30 yL_above wsL_above) := goodIn_app (goodIn_of _ (by decide +kernel)) ggL_below_L_above
theorem dL_below_0 : decode cL_below 0 = .ok (.iconst 0, 1) := by decide +kernel
theorem dL_below_1 : decode cL_below 1 = .ok (.istore 4, 2) := by decide +kernel
theorem dL_below_3 : decode cL_below 3 = .ok (.iload_n 0, 1) := by decide +kernel
theorem dL_below_4 : decode cL_below 4 = .ok (.istore 5, 2) := by decide +kernel
theorem dL_below_6 : decode cL_below 6 = .ok (.iload 5, 2) := by decide +kernel
theorem dL_below_8 : decode cL_below 8 = .ok (.bipush 15, 2) := by decide +kernel
theorem dL_below_10 : decode cL_below 10 = .ok (.if_icmp .ge 47, 3) := by decide +kernel
theorem dL_below_13 : decode cL_below 13 = .ok (.iload 4, 2) := by decide +kernel
theorem dL_below_15 : decode cL_below 15 = .ok (.aload_n 1, 1) := by decide +kernel
theorem dL_below_16 : decode cL_below 16 = .ok (.iload 5, 2) := by decide +kernel
theorem dL_below_18 : decode cL_below 18 = .ok (.iaload, 1) := by decide +kernel
theorem dL_below_19 : decode cL_below 19 = .ok (.iconst 1, 1) := by decide +kernel
theorem dL_below_20 : decode cL_below 20 = .ok (.if_icmp .ne 27, 3) := by decide +kernel
theorem dL_below_23 : decode cL_below 23 = .ok (.iload_n 0, 1) := by decide +kernel
theorem dL_below_24 : decode cL_below 24 = .ok (.iload 5, 2) := by decide +kernel
theorem dL_below_26 : decode cL_below 26 = .ok (.invokestatic 30, 3) := by decide +kernel
theorem dL_below_29 : decode cL_below 29 = .ok (.ifCond .eq 18, 3) := by decide +kernel
theorem dL_below_32 : decode cL_below 32 = .ok (.iload_n 3, 1) := by decide +kernel
theorem dL_below_33 : decode cL_below 33 = .ok (.ifCond .eq 10, 3) := by decide +kernel
theorem dL_below_36 : decode cL_below 36 = .ok (.aload_n 2, 1) := by decide +kernel
theorem dL_below_37 : decode cL_below 37 = .ok (.iload 5, 2) := by decide +kernel
theorem dL_below_39 : decode cL_below 39 = .ok (.iaload, 1) := by decide +kernel
theorem dL_below_40 : decode cL_below 40 = .ok (.goto 8, 3) := by decide +kernel
theorem dL_below_43 : decode cL_below 43 = .ok (.iconst 1, 1) := by decide +kernel
theorem dL_below_44 : decode cL_below 44 = .ok (.goto 4, 3) := by decide +kernel
theorem dL_below_47 : decode cL_below 47 = .ok (.iconst 0, 1) := by decide +kernel
theorem dL_below_48 : decode cL_below 48 = .ok (.iadd, 1) := by decide +kernel
theorem dL_below_49 : decode cL_below 49 = .ok (.istore 4, 2) := by decide +kernel
theorem dL_below_51 : decode cL_below 51 = .ok (.iinc 5 1, 3) := by decide +kernel
theorem dL_below_54 : decode cL_below 54 = .ok (.goto (-48), 3) := by decide +kernel
theorem dL_below_57 : decode cL_below 57 = .ok (.iload 4, 2) := by decide +kernel
theorem dL_below_59 : decode cL_below 59 = .ok (.ireturn, 1) := by decide +kernel
set_option maxRecDepth 20000 in
theorem ggL_rank_L_before : GoodIn wsL_rank wsL_before := goodIn_r _ [4, 5, 6, 3, 7, 8, 9, 10] (by decide +kernel) (by decide +kernel)
set_option maxRecDepth 20000 in
theorem gL_rank_L_before : GoodIn wsL_rank (va_wsS RL 53 yL_before wsL_before) := goodIn_app (goodIn_of _ (by decide +kernel)) ggL_rank_L_before
theorem dL_rank_0 : decode cL_rank 0 = .ok (.iconst 0, 1) := by decide +kernel
theorem dL_rank_1 : decode cL_rank 1 = .ok (.istore_n 2, 1) := by decide +kernel
theorem dL_rank_2 : decode cL_rank 2 = .ok (.iconst 1, 1) := by decide +kernel
theorem dL_rank_3 : decode cL_rank 3 = .ok (.istore_n 3, 1) := by decide +kernel
theorem dL_rank_4 : decode cL_rank 4 = .ok (.iload_n 3, 1) := by decide +kernel
theorem dL_rank_5 : decode cL_rank 5 = .ok (.bipush 15, 2) := by decide +kernel
theorem dL_rank_7 : decode cL_rank 7 = .ok (.if_icmp .ge 32, 3) := by decide +kernel
theorem dL_rank_10 : decode cL_rank 10 = .ok (.iload_n 2, 1) := by decide +kernel
theorem dL_rank_11 : decode cL_rank 11 = .ok (.aload_n 1, 1) := by decide +kernel
theorem dL_rank_12 : decode cL_rank 12 = .ok (.iload_n 3, 1) := by decide +kernel
theorem dL_rank_13 : decode cL_rank 13 = .ok (.iaload, 1) := by decide +kernel
theorem dL_rank_14 : decode cL_rank 14 = .ok (.iconst 1, 1) := by decide +kernel
theorem dL_rank_15 : decode cL_rank 15 = .ok (.if_icmp .ne 15, 3) := by decide +kernel
theorem dL_rank_18 : decode cL_rank 18 = .ok (.iload_n 3, 1) := by decide +kernel
theorem dL_rank_19 : decode cL_rank 19 = .ok (.iload_n 0, 1) := by decide +kernel
theorem dL_rank_20 : decode cL_rank 20 = .ok (.invokestatic 53, 3) := by decide +kernel
theorem dL_rank_23 : decode cL_rank 23 = .ok (.ifCond .eq 7, 3) := by decide +kernel
theorem dL_rank_26 : decode cL_rank 26 = .ok (.iconst 1, 1) := by decide +kernel
theorem dL_rank_27 : decode cL_rank 27 = .ok (.goto 4, 3) := by decide +kernel
theorem dL_rank_30 : decode cL_rank 30 = .ok (.iconst 0, 1) := by decide +kernel
theorem dL_rank_31 : decode cL_rank 31 = .ok (.iadd, 1) := by decide +kernel
theorem dL_rank_32 : decode cL_rank 32 = .ok (.istore_n 2, 1) := by decide +kernel
theorem dL_rank_33 : decode cL_rank 33 = .ok (.iinc 3 1, 3) := by decide +kernel
theorem dL_rank_36 : decode cL_rank 36 = .ok (.goto (-32), 3) := by decide +kernel
theorem dL_rank_39 : decode cL_rank 39 = .ok (.iload_n 2, 1) := by decide +kernel
theorem dL_rank_40 : decode cL_rank 40 = .ok (.ireturn, 1) := by decide +kernel
set_option maxRecDepth 20000 in
theorem ggL_index_L_before : GoodIn wsL_index wsL_before := goodIn_r _ [4, 5, 6, 3, 7, 8, 9, 10] (by decide +kernel) (by decide +kernel)
set_option maxRecDepth 20000 in
theorem gL_index_L_before : GoodIn wsL_index (va_wsS RL 53 yL_before wsL_before) := goodIn_app (goodIn_of _ (by decide +kernel)) ggL_index_L_before
theorem dL_index_0 : decode cL_index 0 = .ok (.iconst 0, 1) := by decide +kernel
theorem dL_index_1 : decode cL_index 1 = .ok (.istore_n 2, 1) := by decide +kernel
theorem dL_index_2 : decode cL_index 2 = .ok (.iconst 0, 1) := by decide +kernel
theorem dL_index_3 : decode cL_index 3 = .ok (.istore_n 3, 1) := by decide +kernel
theorem dL_index_4 : decode cL_index 4 = .ok (.iload_n 3, 1) := by decide +kernel
theorem dL_index_5 : decode cL_index 5 = .ok (.bipush 15, 2) := by decide +kernel
theorem dL_index_7 : decode cL_index 7 = .ok (.if_icmp .ge 32, 3) := by decide +kernel
theorem dL_index_10 : decode cL_index 10 = .ok (.iload_n 2, 1) := by decide +kernel
theorem dL_index_11 : decode cL_index 11 = .ok (.aload_n 1, 1) := by decide +kernel
theorem dL_index_12 : decode cL_index 12 = .ok (.iload_n 3, 1) := by decide +kernel
theorem dL_index_13 : decode cL_index 13 = .ok (.iaload, 1) := by decide +kernel
theorem dL_index_14 : decode cL_index 14 = .ok (.iconst 1, 1) := by decide +kernel
theorem dL_index_15 : decode cL_index 15 = .ok (.if_icmp .ne 15, 3) := by decide +kernel
theorem dL_index_18 : decode cL_index 18 = .ok (.iload_n 3, 1) := by decide +kernel
theorem dL_index_19 : decode cL_index 19 = .ok (.iload_n 0, 1) := by decide +kernel
theorem dL_index_20 : decode cL_index 20 = .ok (.invokestatic 53, 3) := by decide +kernel
theorem dL_index_23 : decode cL_index 23 = .ok (.ifCond .eq 7, 3) := by decide +kernel
theorem dL_index_26 : decode cL_index 26 = .ok (.iconst 1, 1) := by decide +kernel
theorem dL_index_27 : decode cL_index 27 = .ok (.goto 4, 3) := by decide +kernel
theorem dL_index_30 : decode cL_index 30 = .ok (.iconst 0, 1) := by decide +kernel
theorem dL_index_31 : decode cL_index 31 = .ok (.iadd, 1) := by decide +kernel
theorem dL_index_32 : decode cL_index 32 = .ok (.istore_n 2, 1) := by decide +kernel
theorem dL_index_33 : decode cL_index 33 = .ok (.iinc 3 1, 3) := by decide +kernel
theorem dL_index_36 : decode cL_index 36 = .ok (.goto (-32), 3) := by decide +kernel
theorem dL_index_39 : decode cL_index 39 = .ok (.aload_n 1, 1) := by decide +kernel
theorem dL_index_40 : decode cL_index 40 = .ok (.iload_n 0, 1) := by decide +kernel
theorem dL_index_41 : decode cL_index 41 = .ok (.iaload, 1) := by decide +kernel
theorem dL_index_42 : decode cL_index 42 = .ok (.iconst 1, 1) := by decide +kernel
theorem dL_index_43 : decode cL_index 43 = .ok (.if_icmp .ne 7, 3) := by decide +kernel
theorem dL_index_46 : decode cL_index 46 = .ok (.iload_n 2, 1) := by decide +kernel
theorem dL_index_47 : decode cL_index 47 = .ok (.goto 4, 3) := by decide +kernel
theorem dL_index_50 : decode cL_index 50 = .ok (.iconst (-1), 1) := by decide +kernel
theorem dL_index_51 : decode cL_index 51 = .ok (.ireturn, 1) := by decide +kernel
set_option maxRecDepth 20000 in
theorem ggL_cost_L_roads : GoodIn wsL_cost wsL_roads := goodIn_r _ [4] (by decide +kernel) (by decide +kernel)
set_option maxRecDepth 20000 in
theorem gL_cost_L_roads : GoodIn wsL_cost (va_wsS RL 56 yL_roads wsL_roads) := goodIn_app (goodIn_of _ (by decide +kernel)) ggL_cost_L_roads
theorem dL_cost_0 : decode cL_cost 0 = .ok (.iconst 0, 1) := by decide +kernel
theorem dL_cost_1 : decode cL_cost 1 = .ok (.istore_n 3, 1) := by decide +kernel
theorem dL_cost_2 : decode cL_cost 2 = .ok (.iconst 1, 1) := by decide +kernel
theorem dL_cost_3 : decode cL_cost 3 = .ok (.istore 4, 2) := by decide +kernel
theorem dL_cost_5 : decode cL_cost 5 = .ok (.iload 4, 2) := by decide +kernel
theorem dL_cost_7 : decode cL_cost 7 = .ok (.bipush 15, 2) := by decide +kernel
theorem dL_cost_9 : decode cL_cost 9 = .ok (.if_icmp .ge 35, 3) := by decide +kernel
theorem dL_cost_12 : decode cL_cost 12 = .ok (.iload_n 3, 1) := by decide +kernel
theorem dL_cost_13 : decode cL_cost 13 = .ok (.aload_n 0, 1) := by decide +kernel
theorem dL_cost_14 : decode cL_cost 14 = .ok (.iload 4, 2) := by decide +kernel
theorem dL_cost_16 : decode cL_cost 16 = .ok (.iaload, 1) := by decide +kernel
theorem dL_cost_17 : decode cL_cost 17 = .ok (.iconst 1, 1) := by decide +kernel
theorem dL_cost_18 : decode cL_cost 18 = .ok (.if_icmp .ne 17, 3) := by decide +kernel
theorem dL_cost_21 : decode cL_cost 21 = .ok (.aload_n 1, 1) := by decide +kernel
theorem dL_cost_22 : decode cL_cost 22 = .ok (.iload 4, 2) := by decide +kernel
theorem dL_cost_24 : decode cL_cost 24 = .ok (.iaload, 1) := by decide +kernel
theorem dL_cost_25 : decode cL_cost 25 = .ok (.iload 4, 2) := by decide +kernel
theorem dL_cost_27 : decode cL_cost 27 = .ok (.aload_n 2, 1) := by decide +kernel
theorem dL_cost_28 : decode cL_cost 28 = .ok (.invokestatic 56, 3) := by decide +kernel
theorem dL_cost_31 : decode cL_cost 31 = .ok (.imul, 1) := by decide +kernel
theorem dL_cost_32 : decode cL_cost 32 = .ok (.goto 4, 3) := by decide +kernel
theorem dL_cost_35 : decode cL_cost 35 = .ok (.iconst 0, 1) := by decide +kernel
theorem dL_cost_36 : decode cL_cost 36 = .ok (.iadd, 1) := by decide +kernel
theorem dL_cost_37 : decode cL_cost 37 = .ok (.istore_n 3, 1) := by decide +kernel
theorem dL_cost_38 : decode cL_cost 38 = .ok (.iinc 4 1, 3) := by decide +kernel
theorem dL_cost_41 : decode cL_cost 41 = .ok (.goto (-36), 3) := by decide +kernel
theorem dL_cost_44 : decode cL_cost 44 = .ok (.iload_n 3, 1) := by decide +kernel
theorem dL_cost_45 : decode cL_cost 45 = .ok (.ireturn, 1) := by decide +kernel
set_option maxRecDepth 20000 in
theorem ggL_between_L_above : GoodIn wsL_between wsL_above := goodIn_r _ [4] (by decide +kernel) (by decide +kernel)
set_option maxRecDepth 20000 in
theorem gL_between_L_above : GoodIn wsL_between (va_wsS RL 30 yL_above wsL_above) := goodIn_app (goodIn_of _ (by decide +kernel)) ggL_between_L_above
set_option maxRecDepth 20000 in
theorem ggL_between_L_roads : GoodIn wsL_between wsL_roads := goodIn_r _ [7] (by decide +kernel) (by decide +kernel)
set_option maxRecDepth 20000 in
theorem gL_between_L_roads : GoodIn wsL_between (va_wsS RL 56 yL_roads wsL_roads) := goodIn_app (goodIn_of _ (by decide +kernel)) ggL_between_L_roads
theorem dL_between_0 : decode cL_between 0 = .ok (.iconst 0, 1) := by decide +kernel
theorem dL_between_1 : decode cL_between 1 = .ok (.istore_n 3, 1) := by decide +kernel
theorem dL_between_2 : decode cL_between 2 = .ok (.iconst 1, 1) := by decide +kernel
theorem dL_between_3 : decode cL_between 3 = .ok (.istore 4, 2) := by decide +kernel
theorem dL_between_5 : decode cL_between 5 = .ok (.iload 4, 2) := by decide +kernel
theorem dL_between_7 : decode cL_between 7 = .ok (.bipush 15, 2) := by decide +kernel
theorem dL_between_9 : decode cL_between 9 = .ok (.if_icmp .ge 43, 3) := by decide +kernel
theorem dL_between_12 : decode cL_between 12 = .ok (.iload_n 3, 1) := by decide +kernel
theorem dL_between_13 : decode cL_between 13 = .ok (.aload_n 2, 1) := by decide +kernel
theorem dL_between_14 : decode cL_between 14 = .ok (.iload 4, 2) := by decide +kernel
theorem dL_between_16 : decode cL_between 16 = .ok (.iaload, 1) := by decide +kernel
theorem dL_between_17 : decode cL_between 17 = .ok (.iconst 1, 1) := by decide +kernel
theorem dL_between_18 : decode cL_between 18 = .ok (.if_icmp .ne 25, 3) := by decide +kernel
theorem dL_between_21 : decode cL_between 21 = .ok (.iload 4, 2) := by decide +kernel
theorem dL_between_23 : decode cL_between 23 = .ok (.iload_n 0, 1) := by decide +kernel
theorem dL_between_24 : decode cL_between 24 = .ok (.invokestatic 30, 3) := by decide +kernel
theorem dL_between_27 : decode cL_between 27 = .ok (.ifCond .eq 16, 3) := by decide +kernel
theorem dL_between_30 : decode cL_between 30 = .ok (.iload 4, 2) := by decide +kernel
theorem dL_between_32 : decode cL_between 32 = .ok (.iload_n 1, 1) := by decide +kernel
theorem dL_between_33 : decode cL_between 33 = .ok (.invokestatic 30, 3) := by decide +kernel
theorem dL_between_36 : decode cL_between 36 = .ok (.ifCond .eq 7, 3) := by decide +kernel
theorem dL_between_39 : decode cL_between 39 = .ok (.iconst 1, 1) := by decide +kernel
theorem dL_between_40 : decode cL_between 40 = .ok (.goto 4, 3) := by decide +kernel
theorem dL_between_43 : decode cL_between 43 = .ok (.iconst 0, 1) := by decide +kernel
theorem dL_between_44 : decode cL_between 44 = .ok (.iadd, 1) := by decide +kernel
theorem dL_between_45 : decode cL_between 45 = .ok (.istore_n 3, 1) := by decide +kernel
theorem dL_between_46 : decode cL_between 46 = .ok (.iinc 4 1, 3) := by decide +kernel
theorem dL_between_49 : decode cL_between 49 = .ok (.goto (-44), 3) := by decide +kernel
theorem dL_between_52 : decode cL_between 52 = .ok (.iload_n 0, 1) := by decide +kernel
theorem dL_between_53 : decode cL_between 53 = .ok (.aload_n 2, 1) := by decide +kernel
theorem dL_between_54 : decode cL_between 54 = .ok (.invokestatic 56, 3) := by decide +kernel
theorem dL_between_57 : decode cL_between 57 = .ok (.iload_n 1, 1) := by decide +kernel
theorem dL_between_58 : decode cL_between 58 = .ok (.aload_n 2, 1) := by decide +kernel
theorem dL_between_59 : decode cL_between 59 = .ok (.invokestatic 56, 3) := by decide +kernel
theorem dL_between_62 : decode cL_between 62 = .ok (.iadd, 1) := by decide +kernel
theorem dL_between_63 : decode cL_between 63 = .ok (.iconst 2, 1) := by decide +kernel
theorem dL_between_64 : decode cL_between 64 = .ok (.iload_n 3, 1) := by decide +kernel
theorem dL_between_65 : decode cL_between 65 = .ok (.imul, 1) := by decide +kernel
theorem dL_between_66 : decode cL_between 66 = .ok (.isub, 1) := by decide +kernel
theorem dL_between_67 : decode cL_between 67 = .ok (.ireturn, 1) := by decide +kernel
set_option maxRecDepth 20000 in
theorem ggL_same_L_letters : GoodIn wsL_same wsL_letters := goodIn_r _ [4] (by decide +kernel) (by decide +kernel)
set_option maxRecDepth 20000 in
theorem gL_same_L_letters : GoodIn wsL_same (va_wsS RL 36 yL_letters wsL_letters) := goodIn_app (goodIn_of _ (by decide +kernel)) ggL_same_L_letters
set_option maxRecDepth 20000 in
theorem ggL_same_L_length : GoodIn wsL_same wsL_length := goodIn_r _ [7] (by decide +kernel) (by decide +kernel)
set_option maxRecDepth 20000 in
theorem gL_same_L_length : GoodIn wsL_same (va_wsS RL 40 yL_length wsL_length) := goodIn_app (goodIn_of _ (by decide +kernel)) ggL_same_L_length
set_option maxRecDepth 20000 in
theorem ggL_same_X7_houseOf : GoodIn wsL_same wsX7_houseOf := goodIn_ca (goodIn_r _ [12, 13, 14, 15, 16, 11, 17, 18, 19, 20, 21, 22, 23, 24, 25, 26, 27, 28, 29, 30, 31, 32, 33, 34, 35, 36, 37, 38, 39, 40, 41, 42, 43, 253, 254, 255, 256, 257, 258, 259, 260, 261, 262, 263, 264, 265, 266, 267, 268, 269, 270, 271, 272, 273, 274] (by decide +kernel) (by decide +kernel)) (goodIn_sub (fun _ h => List.mem_cons_of_mem _ (List.mem_append_left _ (List.mem_append_right _ h))) (by decide +kernel))
set_option maxRecDepth 20000 in
theorem gL_same_X7_houseOf : GoodIn wsL_same (wsV RL 59 RX7 yX7_houseOf wsX7_houseOf) := goodIn_app (goodIn_of _ (by decide +kernel)) ggL_same_X7_houseOf
set_option maxRecDepth 20000 in
theorem ggL_same_L_index : GoodIn wsL_same wsL_index := goodIn_r _ [46, 47, 48, 3, 49, 1, 2, 4, 5, 6, 7] (by decide +kernel) (by decide +kernel)
set_option maxRecDepth 20000 in
theorem gL_same_L_index : GoodIn wsL_same (va_wsS RL 62 yL_index wsL_index) := goodIn_app (goodIn_of _ (by decide +kernel)) ggL_same_L_index
set_option maxRecDepth 20000 in
theorem ggL_same_X7_count : GoodIn wsL_same wsX7_count := goodIn_ca (goodIn_r _ [53, 13, 15, 16, 11, 17, 18, 19, 20, 21, 22, 23, 24, 25, 26, 54, 55, 56, 57, 58, 59, 60, 61, 62, 63, 30, 64, 32, 33, 34, 35, 36, 37, 38, 39, 40, 41, 42, 43, 65, 66, 67, 68, 69, 70, 71, 253, 254, 255, 256, 257, 258, 259, 260, 261, 262, 263, 264, 265, 266, 267, 268, 269, 270, 271, 272, 273, 274] (by decide +kernel) (by decide +kernel)) (goodIn_sub (fun _ h => List.mem_cons_of_mem _ (List.mem_append_left _ (List.mem_append_right _ h))) (by decide +kernel))
set_option maxRecDepth 20000 in
theorem gL_same_X7_count : GoodIn wsL_same (wsV RL 65 RX7 yX7_count wsX7_count) := goodIn_app (goodIn_of _ (by decide +kernel)) ggL_same_X7_count
set_option maxRecDepth 20000 in
theorem ggL_same_L_below : GoodIn wsL_same wsL_below := goodIn_r _ [74, 75, 76, 3, 77] (by decide +kernel) (by decide +kernel)
set_option maxRecDepth 20000 in
theorem gL_same_L_below : GoodIn wsL_same (va_wsS RL 68 yL_below wsL_below) := goodIn_app (goodIn_of _ (by decide +kernel)) ggL_same_L_below
set_option maxRecDepth 20000 in
theorem ggL_same_X7_rank : GoodIn wsL_same wsX7_rank := goodIn_ca (goodIn_r _ [81, 13, 82, 83, 11, 84, 18, 19, 15, 16, 17, 20, 21, 22, 23, 24, 25, 26, 85, 86, 87, 57, 88, 59, 89, 90, 91, 92, 93, 94, 60, 71, 39, 40, 41, 42, 43, 253, 254, 255, 256, 257, 258, 259, 260, 261, 262, 263, 264, 265, 266, 267, 268, 269, 270, 271, 272, 273, 274] (by decide +kernel) (by decide +kernel)) (goodIn_sub (fun _ h => List.mem_cons_of_mem _ (List.mem_append_left _ (List.mem_append_right _ h))) (by decide +kernel))
set_option maxRecDepth 20000 in
theorem gL_same_X7_rank : GoodIn wsL_same (wsV RL 72 RX7 yX7_rank wsX7_rank) := goodIn_app (goodIn_of _ (by decide +kernel)) ggL_same_X7_rank
set_option maxRecDepth 20000 in
theorem ggL_same_L_rank : GoodIn wsL_same wsL_rank := goodIn_r _ [97, 47, 48, 3, 49, 1, 2, 4, 5, 6, 7] (by decide +kernel) (by decide +kernel)
set_option maxRecDepth 20000 in
theorem gL_same_L_rank : GoodIn wsL_same (va_wsS RL 75 yL_rank wsL_rank) := goodIn_app (goodIn_of _ (by decide +kernel)) ggL_same_L_rank
set_option maxRecDepth 20000 in
theorem ggL_same_X7_weight : GoodIn wsL_same wsX7_weight := goodIn_ca (goodIn_r _ [101, 13, 82, 83, 11, 84, 18, 19, 15, 16, 17, 20, 21, 22, 23, 24, 25, 26, 102, 103, 104, 57, 105, 59, 106, 107, 28, 29, 30, 31, 32, 33, 34, 35, 36, 37, 38, 39, 40, 41, 42, 43, 71, 253, 254, 255, 256, 257, 258, 259, 260, 261, 262, 263, 264, 265, 266, 267, 268, 269, 270, 271, 272, 273, 274] (by decide +kernel) (by decide +kernel)) (goodIn_sub (fun _ h => List.mem_cons_of_mem _ (List.mem_append_left _ (List.mem_append_right _ h))) (by decide +kernel))
set_option maxRecDepth 20000 in
theorem gL_same_X7_weight : GoodIn wsL_same (wsV RL 77 RX7 yX7_weight wsX7_weight) := goodIn_app (goodIn_of _ (by decide +kernel)) ggL_same_X7_weight
set_option maxRecDepth 20000 in
theorem ggL_same_X7_reason : GoodIn wsL_same wsX7_reason := goodIn_ca (goodIn_r _ [111, 13, 14, 15, 16, 11, 17, 18, 19, 20, 21, 22, 23, 24, 25, 26, 27, 28, 29, 30, 31, 32, 33, 34, 35, 36, 37, 38, 39, 40, 41, 42, 43, 112, 113, 114, 57, 115, 59, 116, 117, 118, 119, 120, 121, 122, 71, 123, 124, 125, 126, 127, 128, 129, 130, 89, 131, 132, 69, 70, 253, 254, 255, 256, 257, 258, 259, 260, 261, 262, 263, 264, 265, 266, 267, 268, 269, 270, 271, 272, 273, 274] (by decide +kernel) (by decide +kernel)) (goodIn_sub (fun _ h => List.mem_cons_of_mem _ (List.mem_append_left _ (List.mem_append_right _ h))) (by decide +kernel))
set_option maxRecDepth 20000 in
theorem gL_same_X7_reason : GoodIn wsL_same (wsV RL 80 RX7 yX7_reason wsX7_reason) := goodIn_app (goodIn_of _ (by decide +kernel)) ggL_same_X7_reason
set_option maxRecDepth 20000 in
theorem ggL_same_L_reason : GoodIn wsL_same wsL_reason := goodIn_r _ [135, 136, 137, 3, 138, 139, 140, 141, 142, 143, 144, 5, 6, 7] (by decide +kernel) (by decide +kernel)
set_option maxRecDepth 20000 in
theorem gL_same_L_reason : GoodIn wsL_same (va_wsS RL 83 yL_reason wsL_reason) := goodIn_app (goodIn_of _ (by decide +kernel)) ggL_same_L_reason
set_option maxRecDepth 20000 in
theorem ggL_same_X7_nth : GoodIn wsL_same wsX7_nth := goodIn_ca (goodIn_ca (goodIn_r _ [148, 13, 149, 150, 151, 11, 152, 153, 154, 155, 92, 93, 57, 94, 60, 71, 39, 40, 41, 42, 43, 156, 157, 158, 18, 19, 159, 160, 161, 162, 90, 59, 89, 106, 163, 164, 165, 22, 166, 68, 69, 70, 24, 25, 26, 132, 253, 254, 255, 256, 257, 258, 259, 260, 261, 262, 263, 264, 265, 274, 266, 267, 268, 269, 270, 271, 272, 273] (by decide +kernel) (by decide +kernel)) (goodIn_sub (fun _ h => List.mem_cons_of_mem _ (List.mem_append_right _ h)) (by decide +kernel))) (goodIn_sub (fun _ h => List.mem_cons_of_mem _ (List.mem_append_left _ (List.mem_append_right _ h))) (by decide +kernel))
set_option maxRecDepth 20000 in
theorem gL_same_X7_nth : GoodIn wsL_same (wsV RL 86 RX7 yX7_nth wsX7_nth) := goodIn_app (goodIn_of _ (by decide +kernel)) ggL_same_X7_nth
set_option maxRecDepth 20000 in
theorem ggL_same_L_roads : GoodIn wsL_same wsL_roads := goodIn_r _ [169] (by decide +kernel) (by decide +kernel)
set_option maxRecDepth 20000 in
theorem gL_same_L_roads : GoodIn wsL_same (va_wsS RL 56 yL_roads wsL_roads) := goodIn_app (goodIn_of _ (by decide +kernel)) ggL_same_L_roads
set_option maxRecDepth 20000 in
theorem ggL_same_L_parent : GoodIn wsL_same wsL_parent := goodIn_r _ [141] (by decide +kernel) (by decide +kernel)
set_option maxRecDepth 20000 in
theorem gL_same_L_parent : GoodIn wsL_same (va_wsS RL 43 yL_parent wsL_parent) := goodIn_app (goodIn_of _ (by decide +kernel)) ggL_same_L_parent
set_option maxRecDepth 20000 in
theorem ggL_same_X7_house : GoodIn wsL_same wsX7_house := goodIn_ca (goodIn_ca (goodIn_r _ [173, 13, 174, 175, 176, 11, 177, 153, 154, 14, 178, 156, 157, 158, 18, 19, 179, 180, 181, 57, 182, 59, 89, 116, 60, 183, 163, 71, 39, 40, 41, 42, 43, 164, 165, 22, 166, 68, 69, 70, 24, 25, 26, 132, 184, 185, 186, 187, 127, 128, 129, 130, 131, 188, 189, 190, 191, 118, 119, 120, 30, 121, 122, 38, 253, 254, 255, 256, 257, 258, 259, 260, 261, 262, 263, 264, 265, 266, 267, 268, 269, 270, 271, 272, 273, 274] (by decide +kernel) (by decide +kernel)) (goodIn_sub (fun _ h => List.mem_cons_of_mem _ (List.mem_append_right _ h)) (by decide +kernel))) (goodIn_sub (fun _ h => List.mem_cons_of_mem _ (List.mem_append_left _ (List.mem_append_right _ h))) (by decide +kernel))
set_option maxRecDepth 20000 in
theorem gL_same_X7_house : GoodIn wsL_same (wsV RL 89 RX7 yX7_house wsX7_house) := goodIn_app (goodIn_of _ (by decide +kernel)) ggL_same_X7_house
set_option maxRecDepth 20000 in
theorem ggL_same_L_children : GoodIn wsL_same wsL_children := goodIn_r _ [138, 139, 140, 3, 141] (by decide +kernel) (by decide +kernel)
set_option maxRecDepth 20000 in
theorem gL_same_L_children : GoodIn wsL_same (va_wsS RL 47 yL_children wsL_children) := goodIn_app (goodIn_of _ (by decide +kernel)) ggL_same_L_children
set_option maxRecDepth 20000 in
theorem ggL_same_X7_savedBy : GoodIn wsL_same wsX7_savedBy := goodIn_ca (goodIn_r _ [195, 13, 174, 175, 176, 11, 177, 153, 154, 14, 178, 196, 197, 198, 57, 199, 183, 200, 113, 114, 115, 59, 116, 117, 118, 119, 120, 30, 121, 122, 38, 39, 40, 41, 42, 43, 71, 123, 124, 125, 126, 127, 128, 129, 130, 89, 131, 132, 69, 22, 70, 253, 254, 255, 256, 257, 258, 259, 260, 261, 262, 263, 264, 265, 266, 267, 268, 269, 270, 271, 272, 273, 274] (by decide +kernel) (by decide +kernel)) (goodIn_sub (fun _ h => List.mem_cons_of_mem _ (List.mem_append_right _ h)) (by decide +kernel))
set_option maxRecDepth 20000 in
theorem gL_same_X7_savedBy : GoodIn wsL_same (wsV RL 92 RX7 yX7_savedBy wsX7_savedBy) := goodIn_app (goodIn_of _ (by decide +kernel)) ggL_same_X7_savedBy
set_option maxRecDepth 20000 in
theorem ggL_same_X7_whole : GoodIn wsL_same wsX7_whole := goodIn_ca (goodIn_r _ [204, 205, 13, 156, 157, 11, 158, 18, 19, 206, 207, 208, 209, 210, 211, 212, 213, 214, 57, 215, 59, 216, 117, 217, 218, 219, 220, 91, 92, 93, 94, 60, 71, 39, 40, 41, 42, 43, 221, 222, 223, 224, 90, 106, 163, 225, 226, 227, 228, 184, 185, 186, 187, 127, 128, 129, 130, 89, 131, 132, 69, 22, 70, 229, 230, 231, 232, 233, 234, 235, 236, 237, 238, 239, 240, 253, 254, 255, 256, 257, 275, 276, 258, 259, 260, 261, 262, 263, 264, 265, 266, 267, 268, 269, 270, 271, 272, 273, 274] (by decide +kernel) (by decide +kernel)) (goodIn_sub (fun _ h => List.mem_cons_of_mem _ (List.mem_append_left _ (List.mem_append_right _ h))) (by decide +kernel))
set_option maxRecDepth 20000 in
theorem gL_same_X7_whole : GoodIn wsL_same (wsV RL 95 RX7 yX7_whole wsX7_whole) := goodIn_app (goodIn_of _ (by decide +kernel)) ggL_same_X7_whole
set_option maxRecDepth 20000 in
theorem ggL_same_L_cost : GoodIn wsL_same wsL_cost := goodIn_r _ [243, 167, 168, 3, 169] (by decide +kernel) (by decide +kernel)
set_option maxRecDepth 20000 in
theorem gL_same_L_cost : GoodIn wsL_same (va_wsS RL 98 yL_cost wsL_cost) := goodIn_app (goodIn_of _ (by decide +kernel)) ggL_same_L_cost
set_option maxRecDepth 20000 in
theorem ggL_same_X7_bestMove : GoodIn wsL_same wsX7_bestMove := goodIn_r _ [247, 13, 248, 249, 250, 57, 251, 59, 216, 252, 197, 198, 199, 183, 200, 113, 114, 115, 116, 117, 118, 119, 120, 30, 121, 122, 38, 39, 40, 41, 42, 43, 71, 123, 124, 125, 126, 127, 128, 129, 130, 89, 131, 132, 69, 22, 70, 253, 254, 255, 256, 257, 258, 259, 260, 261, 262, 263, 264, 265, 266, 267, 268, 269, 270, 271, 272, 273, 274] (by decide +kernel) (by decide +kernel)
set_option maxRecDepth 20000 in
theorem gL_same_X7_bestMove : GoodIn wsL_same (wsV RL 102 RX7 yX7_bestMove wsX7_bestMove) := goodIn_app (goodIn_of _ (by decide +kernel)) ggL_same_X7_bestMove
theorem dL_same_0 : decode cL_same 0 = .ok (.iconst 0, 1) := by decide +kernel
theorem dL_same_1 : decode cL_same 1 = .ok (.istore 5, 2) := by decide +kernel
theorem dL_same_3 : decode cL_same 3 = .ok (.iconst 0, 1) := by decide +kernel
theorem dL_same_4 : decode cL_same 4 = .ok (.istore 6, 2) := by decide +kernel
theorem dL_same_6 : decode cL_same 6 = .ok (.iconst 0, 1) := by decide +kernel
theorem dL_same_7 : decode cL_same 7 = .ok (.istore 7, 2) := by decide +kernel
theorem dL_same_9 : decode cL_same 9 = .ok (.iconst (-1), 1) := by decide +kernel
theorem dL_same_10 : decode cL_same 10 = .ok (.istore 8, 2) := by decide +kernel
theorem dL_same_12 : decode cL_same 12 = .ok (.iconst (-1), 1) := by decide +kernel
theorem dL_same_13 : decode cL_same 13 = .ok (.istore 9, 2) := by decide +kernel
theorem dL_same_15 : decode cL_same 15 = .ok (.iconst 0, 1) := by decide +kernel
theorem dL_same_16 : decode cL_same 16 = .ok (.istore 10, 2) := by decide +kernel
theorem dL_same_18 : decode cL_same 18 = .ok (.iload 10, 2) := by decide +kernel
theorem dL_same_20 : decode cL_same 20 = .ok (.bipush 15, 2) := by decide +kernel
theorem dL_same_22 : decode cL_same 22 = .ok (.if_icmp .ge 529, 3) := by decide +kernel
theorem dL_same_25 : decode cL_same 25 = .ok (.iload 10, 2) := by decide +kernel
theorem dL_same_27 : decode cL_same 27 = .ok (.invokestatic 36, 3) := by decide +kernel
theorem dL_same_30 : decode cL_same 30 = .ok (.istore 11, 2) := by decide +kernel
theorem dL_same_32 : decode cL_same 32 = .ok (.iload 10, 2) := by decide +kernel
theorem dL_same_34 : decode cL_same 34 = .ok (.invokestatic 40, 3) := by decide +kernel
theorem dL_same_37 : decode cL_same 37 = .ok (.istore 12, 2) := by decide +kernel
theorem dL_same_39 : decode cL_same 39 = .ok (.aload_n 0, 1) := by decide +kernel
theorem dL_same_40 : decode cL_same 40 = .ok (.iload 11, 2) := by decide +kernel
theorem dL_same_42 : decode cL_same 42 = .ok (.iload 12, 2) := by decide +kernel
theorem dL_same_44 : decode cL_same 44 = .ok (.invokevirtual 59, 3) := by decide +kernel
theorem dL_same_47 : decode cL_same 47 = .ok (.iload 10, 2) := by decide +kernel
theorem dL_same_49 : decode cL_same 49 = .ok (.aload 4, 2) := by decide +kernel
theorem dL_same_51 : decode cL_same 51 = .ok (.invokestatic 62, 3) := by decide +kernel
theorem dL_same_54 : decode cL_same 54 = .ok (.if_icmp .ne 22, 3) := by decide +kernel
theorem dL_same_57 : decode cL_same 57 = .ok (.aload_n 0, 1) := by decide +kernel
theorem dL_same_58 : decode cL_same 58 = .ok (.iload 11, 2) := by decide +kernel
theorem dL_same_60 : decode cL_same 60 = .ok (.iload 12, 2) := by decide +kernel
theorem dL_same_62 : decode cL_same 62 = .ok (.invokevirtual 65, 3) := by decide +kernel
theorem dL_same_65 : decode cL_same 65 = .ok (.iload 10, 2) := by decide +kernel
theorem dL_same_67 : decode cL_same 67 = .ok (.aload_n 2, 1) := by decide +kernel
theorem dL_same_68 : decode cL_same 68 = .ok (.aload_n 3, 1) := by decide +kernel
theorem dL_same_69 : decode cL_same 69 = .ok (.iconst 0, 1) := by decide +kernel
theorem dL_same_70 : decode cL_same 70 = .ok (.invokestatic 68, 3) := by decide +kernel
theorem dL_same_73 : decode cL_same 73 = .ok (.if_icmp .eq 5, 3) := by decide +kernel
theorem dL_same_76 : decode cL_same 76 = .ok (.iconst 0, 1) := by decide +kernel
theorem dL_same_77 : decode cL_same 77 = .ok (.ireturn, 1) := by decide +kernel
theorem dL_same_78 : decode cL_same 78 = .ok (.iload 10, 2) := by decide +kernel
theorem dL_same_80 : decode cL_same 80 = .ok (.ifCond .le 49, 3) := by decide +kernel
theorem dL_same_83 : decode cL_same 83 = .ok (.aload_n 0, 1) := by decide +kernel
theorem dL_same_84 : decode cL_same 84 = .ok (.iload 11, 2) := by decide +kernel
theorem dL_same_86 : decode cL_same 86 = .ok (.iload 12, 2) := by decide +kernel
theorem dL_same_88 : decode cL_same 88 = .ok (.invokevirtual 72, 3) := by decide +kernel
theorem dL_same_91 : decode cL_same 91 = .ok (.iload 10, 2) := by decide +kernel
theorem dL_same_93 : decode cL_same 93 = .ok (.aload_n 2, 1) := by decide +kernel
theorem dL_same_94 : decode cL_same 94 = .ok (.invokestatic 75, 3) := by decide +kernel
theorem dL_same_97 : decode cL_same 97 = .ok (.if_icmp .ne 30, 3) := by decide +kernel
theorem dL_same_100 : decode cL_same 100 = .ok (.aload_n 0, 1) := by decide +kernel
theorem dL_same_101 : decode cL_same 101 = .ok (.iload 11, 2) := by decide +kernel
theorem dL_same_103 : decode cL_same 103 = .ok (.iload 12, 2) := by decide +kernel

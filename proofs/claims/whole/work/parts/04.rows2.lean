theorem dX7_tour_7 : decode cX7_tour 7 = .ok (.ireturn, 1) := by decide +kernel
set_option maxRecDepth 20000 in
theorem ggX7_whole_X7_requireWhat : GoodIn wsX7_whole wsX7_requireWhat := goodIn_ca (goodIn_r _ [6, 7, 8] (by decide +kernel) (by decide +kernel)) (goodIn_sub (fun _ h => List.mem_cons_of_mem _ (List.mem_append_right _ h)) (by decide +kernel))
set_option maxRecDepth 20000 in
theorem gX7_whole_X7_requireWhat : GoodIn wsX7_whole (va_wsS RX7 124 yX7_requireWhat wsX7_requireWhat) := goodIn_app (goodIn_of _ (by decide +kernel)) ggX7_whole_X7_requireWhat
set_option maxRecDepth 20000 in
theorem ggX7_whole_X1_length : GoodIn wsX7_whole wsX1_length := goodIn_r _ [13, 14, 80, 81] (by decide +kernel) (by decide +kernel)
set_option maxRecDepth 20000 in
theorem gX7_whole_X1_length : GoodIn wsX7_whole (wsV RX7 153 RX1 yX1_length wsX1_length) := goodIn_app (goodIn_of _ (by decide +kernel)) ggX7_whole_X1_length
set_option maxRecDepth 20000 in
theorem ggX7_whole_X5_townValue : GoodIn wsX7_whole wsX5_townValue := goodIn_r _ [19, 20, 21, 22, 23, 24, 25, 26, 27, 28, 29, 18, 30, 31, 32, 33, 34, 35, 36, 37, 38, 39, 40, 41, 42, 43, 44, 45, 46, 47, 48, 49, 50, 51, 52, 53, 54, 55, 56, 57, 58, 59, 60, 61, 62, 63, 64, 65, 66, 67, 68, 69, 70, 71, 72, 73, 74, 82, 83, 84, 85, 86, 87, 88, 89, 90, 91, 92, 93, 94, 95, 96, 97, 98] (by decide +kernel) (by decide +kernel)
set_option maxRecDepth 20000 in
theorem gX7_whole_X5_townValue : GoodIn wsX7_whole (wsV RX7 156 RX5 yX5_townValue wsX5_townValue) := goodIn_app (goodIn_of _ (by decide +kernel)) ggX7_whole_X5_townValue
theorem dX7_whole_0 : decode cX7_whole 0 = .ok (.iload_n 1, 1) := by decide +kernel
theorem dX7_whole_1 : decode cX7_whole 1 = .ok (.bipush 12, 2) := by decide +kernel
theorem dX7_whole_3 : decode cX7_whole 3 = .ok (.invokestatic 124, 3) := by decide +kernel
theorem dX7_whole_6 : decode cX7_whole 6 = .ok (.iload_n 1, 1) := by decide +kernel
theorem dX7_whole_7 : decode cX7_whole 7 = .ok (.bipush 11, 2) := by decide +kernel
theorem dX7_whole_9 : decode cX7_whole 9 = .ok (.if_icmp .ne 13, 3) := by decide +kernel
theorem dX7_whole_12 : decode cX7_whole 12 = .ok (.aload_n 0, 1) := by decide +kernel
theorem dX7_whole_13 : decode cX7_whole 13 = .ok (.getfield 29, 3) := by decide +kernel
theorem dX7_whole_16 : decode cX7_whole 16 = .ok (.invokevirtual 153, 3) := by decide +kernel
theorem dX7_whole_19 : decode cX7_whole 19 = .ok (.goto 11, 3) := by decide +kernel
theorem dX7_whole_22 : decode cX7_whole 22 = .ok (.aload_n 0, 1) := by decide +kernel
theorem dX7_whole_23 : decode cX7_whole 23 = .ok (.getfield 12, 3) := by decide +kernel
theorem dX7_whole_26 : decode cX7_whole 26 = .ok (.iload_n 1, 1) := by decide +kernel
theorem dX7_whole_27 : decode cX7_whole 27 = .ok (.invokevirtual 156, 3) := by decide +kernel
theorem dX7_whole_30 : decode cX7_whole 30 = .ok (.ireturn, 1) := by decide +kernel
set_option maxRecDepth 20000 in
theorem ggX7_reason_X7_requirePrefix : GoodIn wsX7_reason wsX7_requirePrefix := goodIn_ca (goodIn_r _ [6, 7, 8] (by decide +kernel) (by decide +kernel)) (goodIn_sub (fun _ h => List.mem_cons_of_mem _ (List.mem_append_right _ h)) (by decide +kernel))
set_option maxRecDepth 20000 in
theorem gX7_reason_X7_requirePrefix : GoodIn wsX7_reason (va_wsS RX7 92 yX7_requirePrefix wsX7_requirePrefix) := goodIn_app (goodIn_of _ (by decide +kernel)) ggX7_reason_X7_requirePrefix
set_option maxRecDepth 20000 in
theorem ggX7_reason_X2_of : GoodIn wsX7_reason wsX2_of := goodIn_r _ [12, 13, 14, 11, 15] (by decide +kernel) (by decide +kernel)
set_option maxRecDepth 20000 in
theorem gX7_reason_X2_of : GoodIn wsX7_reason (va_wsS RX7 48 yX2_of wsX2_of) := goodIn_app (goodIn_of _ (by decide +kernel)) ggX7_reason_X2_of
set_option maxRecDepth 20000 in
theorem ggX7_reason_X4_indexOf : GoodIn wsX7_reason wsX4_indexOf := goodIn_r _ [20, 21, 22, 23, 24, 25, 19, 26, 27, 28, 29, 30, 31, 32, 73, 74, 75, 76, 77, 78, 79, 80, 81] (by decide +kernel) (by decide +kernel)
set_option maxRecDepth 20000 in
theorem gX7_reason_X4_indexOf : GoodIn wsX7_reason (wsV RX7 142 RX4 yX4_indexOf wsX4_indexOf) := goodIn_app (goodIn_of _ (by decide +kernel)) ggX7_reason_X4_indexOf
set_option maxRecDepth 20000 in
theorem ggX7_reason_X5_reasonToStay : GoodIn wsX7_reason wsX5_reasonToStay := goodIn_r _ [37, 38, 39, 40, 41, 42, 43, 19, 44, 45, 27, 28, 29, 30, 31, 32, 46, 47, 48, 49, 36, 50, 51, 52, 53, 54, 55, 56, 57, 58, 11, 59, 65, 66, 67, 68, 69, 70, 71, 72, 73, 74, 75, 76, 77, 78, 79, 80, 81] (by decide +kernel) (by decide +kernel)
set_option maxRecDepth 20000 in
theorem gX7_reason_X5_reasonToStay : GoodIn wsX7_reason (wsV RX7 159 RX5 yX5_reasonToStay wsX5_reasonToStay) := goodIn_app (goodIn_of _ (by decide +kernel)) ggX7_reason_X5_reasonToStay
theorem dX7_reason_0 : decode cX7_reason 0 = .ok (.iload_n 1, 1) := by decide +kernel
theorem dX7_reason_1 : decode cX7_reason 1 = .ok (.iload_n 2, 1) := by decide +kernel
theorem dX7_reason_2 : decode cX7_reason 2 = .ok (.invokestatic 92, 3) := by decide +kernel
theorem dX7_reason_5 : decode cX7_reason 5 = .ok (.aload_n 0, 1) := by decide +kernel
theorem dX7_reason_6 : decode cX7_reason 6 = .ok (.getfield 12, 3) := by decide +kernel
theorem dX7_reason_9 : decode cX7_reason 9 = .ok (.getfield 65, 3) := by decide +kernel
theorem dX7_reason_12 : decode cX7_reason 12 = .ok (.iload_n 1, 1) := by decide +kernel
theorem dX7_reason_13 : decode cX7_reason 13 = .ok (.iload_n 2, 1) := by decide +kernel
theorem dX7_reason_14 : decode cX7_reason 14 = .ok (.invokestatic 48, 3) := by decide +kernel
theorem dX7_reason_17 : decode cX7_reason 17 = .ok (.invokevirtual 142, 3) := by decide +kernel
theorem dX7_reason_20 : decode cX7_reason 20 = .ok (.istore_n 3, 1) := by decide +kernel
theorem dX7_reason_21 : decode cX7_reason 21 = .ok (.iload_n 3, 1) := by decide +kernel
theorem dX7_reason_22 : decode cX7_reason 22 = .ok (.iconst (-1), 1) := by decide +kernel
theorem dX7_reason_23 : decode cX7_reason 23 = .ok (.if_icmp .ne 7, 3) := by decide +kernel
theorem dX7_reason_26 : decode cX7_reason 26 = .ok (.iconst (-1), 1) := by decide +kernel
theorem dX7_reason_27 : decode cX7_reason 27 = .ok (.goto 11, 3) := by decide +kernel
theorem dX7_reason_30 : decode cX7_reason 30 = .ok (.aload_n 0, 1) := by decide +kernel
theorem dX7_reason_31 : decode cX7_reason 31 = .ok (.getfield 12, 3) := by decide +kernel
theorem dX7_reason_34 : decode cX7_reason 34 = .ok (.iload_n 3, 1) := by decide +kernel
theorem dX7_reason_35 : decode cX7_reason 35 = .ok (.invokevirtual 159, 3) := by decide +kernel
theorem dX7_reason_38 : decode cX7_reason 38 = .ok (.ireturn, 1) := by decide +kernel
set_option maxRecDepth 20000 in
theorem ggX7_savedBy_X7_requireHouse : GoodIn wsX7_savedBy wsX7_requireHouse := goodIn_ca (goodIn_r _ [6, 7, 8, 1, 9, 10, 51, 52, 53, 54, 55, 56, 57, 58, 59, 60, 61, 62, 63, 64, 65, 66, 67, 68, 69, 70, 71] (by decide +kernel) (by decide +kernel)) (goodIn_sub (fun _ h => List.mem_cons_of_mem _ (List.mem_append_right _ h)) (by decide +kernel))
set_option maxRecDepth 20000 in
theorem gX7_savedBy_X7_requireHouse : GoodIn wsX7_savedBy (wsV RX7 136 RX7 yX7_requireHouse wsX7_requireHouse) := goodIn_app (goodIn_of _ (by decide +kernel)) ggX7_savedBy_X7_requireHouse
set_option maxRecDepth 20000 in
theorem ggX7_savedBy_X5_saving : GoodIn wsX7_savedBy wsX5_saving := goodIn_r _ [15, 16, 17, 18, 19, 14, 20, 21, 22, 23, 24, 25, 26, 27, 28, 29, 30, 31, 32, 33, 34, 35, 36, 37, 38, 39, 40, 41, 42, 43, 44, 45, 46, 47, 48, 49, 50, 56, 57, 58, 59, 60, 61, 62, 63, 64, 65, 66, 67, 68, 69, 70, 71, 72] (by decide +kernel) (by decide +kernel)
set_option maxRecDepth 20000 in
theorem gX7_savedBy_X5_saving : GoodIn wsX7_savedBy (wsV RX7 162 RX5 yX5_saving wsX5_saving) := goodIn_app (goodIn_of _ (by decide +kernel)) ggX7_savedBy_X5_saving
theorem dX7_savedBy_0 : decode cX7_savedBy 0 = .ok (.aload_n 0, 1) := by decide +kernel
theorem dX7_savedBy_1 : decode cX7_savedBy 1 = .ok (.iload_n 1, 1) := by decide +kernel
theorem dX7_savedBy_2 : decode cX7_savedBy 2 = .ok (.invokevirtual 136, 3) := by decide +kernel
theorem dX7_savedBy_5 : decode cX7_savedBy 5 = .ok (.aload_n 0, 1) := by decide +kernel
theorem dX7_savedBy_6 : decode cX7_savedBy 6 = .ok (.getfield 12, 3) := by decide +kernel
theorem dX7_savedBy_9 : decode cX7_savedBy 9 = .ok (.iload_n 1, 1) := by decide +kernel
theorem dX7_savedBy_10 : decode cX7_savedBy 10 = .ok (.invokevirtual 162, 3) := by decide +kernel
theorem dX7_savedBy_13 : decode cX7_savedBy 13 = .ok (.ireturn, 1) := by decide +kernel
set_option maxRecDepth 20000 in
theorem ggX7_bestMove_X5_bestToMove : GoodIn wsX7_bestMove wsX5_bestToMove := goodIn_r _ [6, 7, 8, 9, 10, 11, 5, 12, 13, 14, 15, 16, 17, 18, 19, 20, 21, 22, 23, 24, 25, 26, 27, 28, 29, 30, 31, 32, 33, 34, 35, 36, 37, 38, 39, 40, 41, 42, 43, 44, 45, 46, 52, 53, 54, 55, 56, 57, 58, 59, 60, 61, 62, 63, 64, 65, 66, 67, 68] (by decide +kernel) (by decide +kernel)
set_option maxRecDepth 20000 in
theorem gX7_bestMove_X5_bestToMove : GoodIn wsX7_bestMove (wsV RX7 165 RX5 yX5_bestToMove wsX5_bestToMove) := goodIn_app (goodIn_of _ (by decide +kernel)) ggX7_bestMove_X5_bestToMove
theorem dX7_bestMove_0 : decode cX7_bestMove 0 = .ok (.aload_n 0, 1) := by decide +kernel
theorem dX7_bestMove_1 : decode cX7_bestMove 1 = .ok (.getfield 12, 3) := by decide +kernel
theorem dX7_bestMove_4 : decode cX7_bestMove 4 = .ok (.invokevirtual 165, 3) := by decide +kernel
theorem dX7_bestMove_7 : decode cX7_bestMove 7 = .ok (.ireturn, 1) := by decide +kernel
set_option maxRecDepth 20000 in
theorem ggX7_costWith_X7_requireLimit : GoodIn wsX7_costWith wsX7_requireLimit := goodIn_ca (goodIn_r _ [7, 8, 9, 10, 11, 6, 12] (by decide +kernel) (by decide +kernel)) (goodIn_sub (fun _ h => List.mem_cons_of_mem _ (List.mem_append_right _ h)) (by decide +kernel))
set_option maxRecDepth 20000 in
theorem gX7_costWith_X7_requireLimit : GoodIn wsX7_costWith (va_wsS RX7 86 yX7_requireLimit wsX7_requireLimit) := goodIn_app (goodIn_of _ (by decide +kernel)) ggX7_costWith_X7_requireLimit
set_option maxRecDepth 20000 in
theorem ggX7_costWith_X5_become : GoodIn wsX7_costWith wsX5_become := goodIn_r _ [17, 18, 19, 20, 21, 22, 23, 24, 25, 26, 27, 28, 29, 30, 31, 32, 33, 34, 35, 36, 37, 38, 39, 40, 41, 42, 43, 44, 45, 46, 47, 48, 16, 49, 50, 51, 52, 53, 54, 55, 56, 57, 58, 59, 60, 61, 62, 63, 64, 65, 66, 67, 68, 69, 70, 71, 72, 73, 74, 75, 76, 77, 78, 79, 80, 81, 82, 83, 84, 85, 86, 87, 88, 89, 90, 91, 159, 160, 161, 162, 163, 164, 165, 166, 167, 168, 169, 170, 171, 172, 173, 174, 175] (by decide +kernel) (by decide +kernel)
set_option maxRecDepth 20000 in
theorem gX7_costWith_X5_become : GoodIn wsX7_costWith (wsV RX7 168 RX5 yX5_become wsX5_become) := goodIn_app (goodIn_of _ (by decide +kernel)) ggX7_costWith_X5_become
set_option maxRecDepth 20000 in
theorem ggX7_costWith_X5_changeLimit : GoodIn wsX7_costWith wsX5_changeLimit := goodIn_r _ [95, 18, 96, 159, 160, 161, 162, 163, 164, 165, 166, 167, 168, 169, 170, 171, 172, 173, 174] (by decide +kernel) (by decide +kernel)
set_option maxRecDepth 20000 in
theorem gX7_costWith_X5_changeLimit : GoodIn wsX7_costWith (wsV RX7 89 RX5 yX5_changeLimit wsX5_changeLimit) := goodIn_app (goodIn_of _ (by decide +kernel)) ggX7_costWith_X5_changeLimit
set_option maxRecDepth 20000 in
theorem ggX7_costWith_X5_partAll : GoodIn wsX7_costWith wsX5_partAll := goodIn_r _ [100, 18, 50, 101, 102, 103, 104, 16, 105, 106, 107, 108, 109, 110, 111, 112, 113, 63, 51, 64, 38, 39, 35, 40, 41, 114, 70, 67, 71, 115, 116, 117, 118, 82, 119, 120, 121, 22, 122, 24, 26, 123, 43, 44, 45, 124, 125, 126, 72, 73, 74, 46, 47, 48, 49, 52, 53, 54, 55, 56, 57, 58, 59, 60, 61, 62, 65, 66, 68, 69, 75, 76, 77, 78, 79, 80, 81, 83, 84, 85, 86, 87, 88, 89, 90, 91, 37, 42, 159, 160, 161, 162, 163, 164, 165, 166, 167, 168, 169, 170, 171, 172, 173, 174, 175] (by decide +kernel) (by decide +kernel)
set_option maxRecDepth 20000 in
theorem gX7_costWith_X5_partAll : GoodIn wsX7_costWith (wsV RX7 115 RX5 yX5_partAll wsX5_partAll) := goodIn_app (goodIn_of _ (by decide +kernel)) ggX7_costWith_X5_partAll
set_option maxRecDepth 20000 in
theorem ggX7_costWith_X5_moveAll : GoodIn wsX7_costWith wsX5_moveAll := goodIn_r _ [130, 18, 50, 131, 51, 132, 133, 134, 135, 16, 136, 80, 96, 83, 84, 85, 22, 86, 26, 87, 38, 39, 35, 40, 41, 64, 137, 138, 139, 140, 110, 111, 112, 113, 63, 114, 70, 67, 71, 75, 43, 44, 45, 141, 142, 143, 144, 25, 24, 145, 120, 121, 122, 123, 46, 47, 48, 49, 52, 53, 54, 55, 56, 57, 58, 59, 60, 61, 62, 65, 66, 68, 69, 72, 73, 74, 76, 77, 78, 79, 81, 82, 88, 89, 90, 91, 37, 42, 159, 160, 161, 162, 163, 164, 165, 166, 167, 168, 169, 170, 171, 172, 173, 174, 175] (by decide +kernel) (by decide +kernel)
set_option maxRecDepth 20000 in
theorem gX7_costWith_X5_moveAll : GoodIn wsX7_costWith (wsV RX7 111 RX5 yX5_moveAll wsX5_moveAll) := goodIn_app (goodIn_of _ (by decide +kernel)) ggX7_costWith_X5_moveAll
set_option maxRecDepth 20000 in
theorem ggX7_costWith_X5_cost : GoodIn wsX7_costWith wsX5_cost := goodIn_r _ [149, 52, 18, 82, 81, 150, 151, 152, 16, 153, 53, 64, 38, 39, 35, 40, 41, 159, 160, 161, 162, 163, 164, 165, 166, 167, 168, 169, 170, 171, 172, 173, 174, 175] (by decide +kernel) (by decide +kernel)
set_option maxRecDepth 20000 in
theorem gX7_costWith_X5_cost : GoodIn wsX7_costWith (wsV RX7 171 RX5 yX5_cost wsX5_cost) := goodIn_app (goodIn_of _ (by decide +kernel)) ggX7_costWith_X5_cost
theorem dX7_costWith_0 : decode cX7_costWith 0 = .ok (.iload_n 1, 1) := by decide +kernel
theorem dX7_costWith_1 : decode cX7_costWith 1 = .ok (.invokestatic 86, 3) := by decide +kernel
theorem dX7_costWith_4 : decode cX7_costWith 4 = .ok (.aload_n 0, 1) := by decide +kernel
theorem dX7_costWith_5 : decode cX7_costWith 5 = .ok (.getfield 16, 3) := by decide +kernel
theorem dX7_costWith_8 : decode cX7_costWith 8 = .ok (.aload_n 0, 1) := by decide +kernel
theorem dX7_costWith_9 : decode cX7_costWith 9 = .ok (.getfield 12, 3) := by decide +kernel
theorem dX7_costWith_12 : decode cX7_costWith 12 = .ok (.getfield 65, 3) := by decide +kernel
theorem dX7_costWith_15 : decode cX7_costWith 15 = .ok (.invokevirtual 168, 3) := by decide +kernel
theorem dX7_costWith_18 : decode cX7_costWith 18 = .ok (.aload_n 0, 1) := by decide +kernel
theorem dX7_costWith_19 : decode cX7_costWith 19 = .ok (.getfield 16, 3) := by decide +kernel
theorem dX7_costWith_22 : decode cX7_costWith 22 = .ok (.iload_n 1, 1) := by decide +kernel
theorem dX7_costWith_23 : decode cX7_costWith 23 = .ok (.invokevirtual 89, 3) := by decide +kernel
theorem dX7_costWith_26 : decode cX7_costWith 26 = .ok (.pop, 1) := by decide +kernel
theorem dX7_costWith_27 : decode cX7_costWith 27 = .ok (.aload_n 0, 1) := by decide +kernel
theorem dX7_costWith_28 : decode cX7_costWith 28 = .ok (.getfield 16, 3) := by decide +kernel
theorem dX7_costWith_31 : decode cX7_costWith 31 = .ok (.invokevirtual 115, 3) := by decide +kernel
theorem dX7_costWith_34 : decode cX7_costWith 34 = .ok (.pop, 1) := by decide +kernel
theorem dX7_costWith_35 : decode cX7_costWith 35 = .ok (.aload_n 0, 1) := by decide +kernel
theorem dX7_costWith_36 : decode cX7_costWith 36 = .ok (.getfield 16, 3) := by decide +kernel
theorem dX7_costWith_39 : decode cX7_costWith 39 = .ok (.invokevirtual 111, 3) := by decide +kernel
theorem dX7_costWith_42 : decode cX7_costWith 42 = .ok (.pop, 1) := by decide +kernel
theorem dX7_costWith_43 : decode cX7_costWith 43 = .ok (.aload_n 0, 1) := by decide +kernel
theorem dX7_costWith_44 : decode cX7_costWith 44 = .ok (.getfield 16, 3) := by decide +kernel
theorem dX7_costWith_47 : decode cX7_costWith 47 = .ok (.invokevirtual 171, 3) := by decide +kernel
theorem dX7_costWith_50 : decode cX7_costWith 50 = .ok (.ireturn, 1) := by decide +kernel
set_option maxRecDepth 20000 in
theorem ggX7_housesFor_X7_requireName : GoodIn wsX7_housesFor wsX7_requireName := goodIn_ca (goodIn_r _ [5, 6, 7, 8, 9, 4, 10] (by decide +kernel) (by decide +kernel)) (goodIn_sub (fun _ h => List.mem_cons_of_mem _ (List.mem_append_right _ h)) (by decide +kernel))
set_option maxRecDepth 20000 in
theorem gX7_housesFor_X7_requireName : GoodIn wsX7_housesFor (va_wsS RX7 40 yX7_requireName wsX7_requireName) := goodIn_app (goodIn_of _ (by decide +kernel)) ggX7_housesFor_X7_requireName
set_option maxRecDepth 20000 in
theorem ggX7_housesFor_X2_of : GoodIn wsX7_housesFor wsX2_of := goodIn_r _ [14, 15, 16, 13, 17] (by decide +kernel) (by decide +kernel)
set_option maxRecDepth 20000 in
theorem gX7_housesFor_X2_of : GoodIn wsX7_housesFor (va_wsS RX7 48 yX2_of wsX2_of) := goodIn_app (goodIn_of _ (by decide +kernel)) ggX7_housesFor_X2_of
set_option maxRecDepth 20000 in
theorem ggX7_housesFor_X5_newHousesFor : GoodIn wsX7_housesFor wsX5_newHousesFor := goodIn_r _ [22, 23, 24, 25, 26, 21, 27, 28, 29, 30, 31, 32, 33, 34, 35, 36, 37, 38, 39, 40, 41, 42, 43, 44, 45, 46, 47, 48, 49, 50, 51, 52, 13, 53, 54, 55, 56, 15, 16, 17, 57, 58, 59, 60, 61, 62, 63, 64, 70, 71, 72, 73, 74, 75, 76, 77, 78, 79, 80, 81, 82, 83, 84, 85, 86] (by decide +kernel) (by decide +kernel)
set_option maxRecDepth 20000 in
theorem gX7_housesFor_X5_newHousesFor : GoodIn wsX7_housesFor (wsV RX7 174 RX5 yX5_newHousesFor wsX5_newHousesFor) := goodIn_app (goodIn_of _ (by decide +kernel)) ggX7_housesFor_X5_newHousesFor
theorem dX7_housesFor_0 : decode cX7_housesFor 0 = .ok (.iload_n 1, 1) := by decide +kernel
theorem dX7_housesFor_1 : decode cX7_housesFor 1 = .ok (.iload_n 2, 1) := by decide +kernel
theorem dX7_housesFor_2 : decode cX7_housesFor 2 = .ok (.invokestatic 40, 3) := by decide +kernel
theorem dX7_housesFor_5 : decode cX7_housesFor 5 = .ok (.aload_n 0, 1) := by decide +kernel
theorem dX7_housesFor_6 : decode cX7_housesFor 6 = .ok (.getfield 12, 3) := by decide +kernel
theorem dX7_housesFor_9 : decode cX7_housesFor 9 = .ok (.iload_n 1, 1) := by decide +kernel
theorem dX7_housesFor_10 : decode cX7_housesFor 10 = .ok (.iload_n 2, 1) := by decide +kernel
theorem dX7_housesFor_11 : decode cX7_housesFor 11 = .ok (.invokestatic 48, 3) := by decide +kernel
theorem dX7_housesFor_14 : decode cX7_housesFor 14 = .ok (.invokevirtual 174, 3) := by decide +kernel
theorem dX7_housesFor_17 : decode cX7_housesFor 17 = .ok (.ireturn, 1) := by decide +kernel
set_option maxRecDepth 20000 in
theorem ggX7_type_X1_length : GoodIn wsX7_type wsX1_length := goodIn_r _ [10, 11, 28, 29] (by decide +kernel) (by decide +kernel)
set_option maxRecDepth 20000 in
theorem gX7_type_X1_length : GoodIn wsX7_type (wsV RX7 153 RX1 yX1_length wsX1_length) := goodIn_app (goodIn_of _ (by decide +kernel)) ggX7_type_X1_length
set_option maxRecDepth 20000 in
theorem ggX7_type_X1_append : GoodIn wsX7_type wsX1_append := goodIn_r _ [15, 16, 11, 17, 18, 19, 20, 21, 22, 28, 29, 30] (by decide +kernel) (by decide +kernel)
set_option maxRecDepth 20000 in
theorem gX7_type_X1_append : GoodIn wsX7_type (wsV RX7 184 RX1 yX1_append wsX1_append) := goodIn_app (goodIn_of _ (by decide +kernel)) ggX7_type_X1_append
theorem dX7_type_0 : decode cX7_type 0 = .ok (.iload_n 1, 1) := by decide +kernel
theorem dX7_type_1 : decode cX7_type 1 = .ok (.ifCond .lt 9, 3) := by decide +kernel
theorem dX7_type_4 : decode cX7_type 4 = .ok (.iload_n 1, 1) := by decide +kernel
theorem dX7_type_5 : decode cX7_type 5 = .ok (.bipush 127, 2) := by decide +kernel
theorem dX7_type_7 : decode cX7_type 7 = .ok (.if_icmp .le 13, 3) := by decide +kernel
theorem dX7_type_10 : decode cX7_type 10 = .ok (.new 177, 3) := by decide +kernel
theorem dX7_type_13 : decode cX7_type 13 = .ok (.dup, 1) := by decide +kernel
theorem dX7_type_14 : decode cX7_type 14 = .ok (.ldc 179, 2) := by decide +kernel
theorem dX7_type_16 : decode cX7_type 16 = .ok (.invokespecial 181, 3) := by decide +kernel
theorem dX7_type_19 : decode cX7_type 19 = .ok (.athrow, 1) := by decide +kernel
theorem dX7_type_20 : decode cX7_type 20 = .ok (.aload_n 0, 1) := by decide +kernel
theorem dX7_type_21 : decode cX7_type 21 = .ok (.getfield 29, 3) := by decide +kernel
theorem dX7_type_24 : decode cX7_type 24 = .ok (.invokevirtual 153, 3) := by decide +kernel
theorem dX7_type_27 : decode cX7_type 27 = .ok (.bipush 120, 2) := by decide +kernel
theorem dX7_type_29 : decode cX7_type 29 = .ok (.if_icmp .lt 13, 3) := by decide +kernel
theorem dX7_type_32 : decode cX7_type 32 = .ok (.new 58, 3) := by decide +kernel
theorem dX7_type_35 : decode cX7_type 35 = .ok (.dup, 1) := by decide +kernel
theorem dX7_type_36 : decode cX7_type 36 = .ok (.ldc 182, 2) := by decide +kernel
theorem dX7_type_38 : decode cX7_type 38 = .ok (.invokespecial 62, 3) := by decide +kernel
theorem dX7_type_41 : decode cX7_type 41 = .ok (.athrow, 1) := by decide +kernel
theorem dX7_type_42 : decode cX7_type 42 = .ok (.aload_n 0, 1) := by decide +kernel
theorem dX7_type_43 : decode cX7_type 43 = .ok (.getfield 29, 3) := by decide +kernel
theorem dX7_type_46 : decode cX7_type 46 = .ok (.iload_n 1, 1) := by decide +kernel
theorem dX7_type_47 : decode cX7_type 47 = .ok (.invokevirtual 184, 3) := by decide +kernel
theorem dX7_type_50 : decode cX7_type 50 = .ok (.ireturn, 1) := by decide +kernel
set_option maxRecDepth 20000 in
theorem ggX7_clearCommands_X1_empty : GoodIn wsX7_clearCommands wsX1_empty := goodIn_r _ [6, 7, 13, 14] (by decide +kernel) (by decide +kernel)
set_option maxRecDepth 20000 in
theorem gX7_clearCommands_X1_empty : GoodIn wsX7_clearCommands (wsV RX7 187 RX1 yX1_empty wsX1_empty) := goodIn_app (goodIn_of _ (by decide +kernel)) ggX7_clearCommands_X1_empty
theorem dX7_clearCommands_0 : decode cX7_clearCommands 0 = .ok (.aload_n 0, 1) := by decide +kernel
theorem dX7_clearCommands_1 : decode cX7_clearCommands 1 = .ok (.getfield 29, 3) := by decide +kernel
theorem dX7_clearCommands_4 : decode cX7_clearCommands 4 = .ok (.invokevirtual 187, 3) := by decide +kernel
theorem dX7_clearCommands_7 : decode cX7_clearCommands 7 = .ok (.ireturn, 1) := by decide +kernel
set_option maxRecDepth 20000 in
theorem ggX7_runCommands_X7_findFault : GoodIn wsX7_runCommands wsX7_findFault := goodIn_r _ [10, 4, 5, 11, 12, 13, 14, 15, 16, 17, 18, 19, 20, 21, 22, 23, 24, 25, 26, 27, 28, 29, 30, 31, 32, 33, 34, 35, 36, 37, 38, 39, 40, 41, 42, 43, 44, 45, 46, 47, 48, 49, 50, 51, 52, 53, 54, 55, 56, 57, 58, 59, 60, 61, 62, 63, 64, 65, 66, 67, 68, 69, 70, 303, 304, 305, 306, 307, 316, 317, 318, 319, 320, 321, 322, 323, 324] (by decide +kernel) (by decide +kernel)
set_option maxRecDepth 20000 in
theorem gX7_runCommands_X7_findFault : GoodIn wsX7_runCommands (wsV RX7 190 RX7 yX7_findFault wsX7_findFault) := goodIn_app (goodIn_of _ (by decide +kernel)) ggX7_runCommands_X7_findFault
set_option maxRecDepth 20000 in
theorem ggX7_runCommands_X6_push : GoodIn wsX7_runCommands wsX6_push := goodIn_r _ [75, 76, 77, 78, 79, 80, 81, 82, 83, 84, 74, 85, 86, 87, 88, 89, 90, 91, 92, 93, 94, 95, 96, 97, 98, 99, 100, 101, 102, 31, 103, 104, 29, 30, 32, 33, 105, 106, 107, 108, 325, 326, 327, 328, 329, 330, 331, 332, 333, 334, 335, 324] (by decide +kernel) (by decide +kernel)
set_option maxRecDepth 20000 in
theorem gX7_runCommands_X6_push : GoodIn wsX7_runCommands (wsV RX7 69 RX6 yX6_push wsX6_push) := goodIn_app (goodIn_of _ (by decide +kernel)) ggX7_runCommands_X6_push
set_option maxRecDepth 20000 in
theorem ggX7_runCommands_X0_restart : GoodIn wsX7_runCommands wsX0_restart := goodIn_r _ [15, 16, 316, 317, 318, 319, 320, 321] (by decide +kernel) (by decide +kernel)
set_option maxRecDepth 20000 in
theorem gX7_runCommands_X0_restart : GoodIn wsX7_runCommands (wsV RX7 193 RX0 yX0_restart wsX0_restart) := goodIn_app (goodIn_of _ (by decide +kernel)) ggX7_runCommands_X0_restart
set_option maxRecDepth 20000 in
theorem ggX7_runCommands_X1_length : GoodIn wsX7_runCommands wsX1_length := goodIn_r _ [21, 22, 322, 323] (by decide +kernel) (by decide +kernel)
set_option maxRecDepth 20000 in
theorem gX7_runCommands_X1_length : GoodIn wsX7_runCommands (wsV RX7 153 RX1 yX1_length wsX1_length) := goodIn_app (goodIn_of _ (by decide +kernel)) ggX7_runCommands_X1_length
set_option maxRecDepth 20000 in
theorem ggX7_runCommands_X1_signAt : GoodIn wsX7_runCommands wsX1_signAt := goodIn_r _ [26, 27, 28, 29, 30, 31, 32, 33, 322, 323, 324] (by decide +kernel) (by decide +kernel)
set_option maxRecDepth 20000 in
theorem gX7_runCommands_X1_signAt : GoodIn wsX7_runCommands (wsV RX7 196 RX1 yX1_signAt wsX1_signAt) := goodIn_app (goodIn_of _ (by decide +kernel)) ggX7_runCommands_X1_signAt
set_option maxRecDepth 20000 in
theorem ggX7_runCommands_X0_read : GoodIn wsX7_runCommands wsX0_read := goodIn_r _ [37, 16, 38, 39, 40, 14, 41, 42, 43, 44, 45, 46, 47, 48, 49, 50, 51, 52, 53, 54, 55, 56, 57, 58, 59, 60, 61, 62, 63, 64, 65, 66, 316, 317, 318, 319, 320, 321] (by decide +kernel) (by decide +kernel)
set_option maxRecDepth 20000 in
theorem gX7_runCommands_X0_read : GoodIn wsX7_runCommands (wsV RX7 199 RX0 yX0_read wsX0_read) := goodIn_app (goodIn_of _ (by decide +kernel)) ggX7_runCommands_X0_read
set_option maxRecDepth 20000 in
theorem ggX7_runCommands_X0_isBetweenCommands : GoodIn wsX7_runCommands wsX0_isBetweenCommands := goodIn_r _ [70, 16, 316, 317, 318, 319, 320, 321] (by decide +kernel) (by decide +kernel)
set_option maxRecDepth 20000 in
theorem gX7_runCommands_X0_isBetweenCommands : GoodIn wsX7_runCommands (wsV RX7 202 RX0 yX0_isBetweenCommands wsX0_isBetweenCommands) := goodIn_app (goodIn_of _ (by decide +kernel)) ggX7_runCommands_X0_isBetweenCommands
set_option maxRecDepth 20000 in
theorem ggX7_runCommands_X7_canCarryOut : GoodIn wsX7_runCommands wsX7_canCarryOut := goodIn_r _ [112, 4, 2, 113, 114, 115, 14, 116, 42, 117, 118, 119, 120, 43, 44, 121, 122, 123, 124, 125, 126, 127, 128, 129, 130, 131, 132, 133, 134, 135, 136, 137, 138, 139, 140, 141, 90, 142, 93, 92, 143, 144, 145, 146, 147, 29, 30, 31, 32, 33, 148, 149, 150, 151, 152, 153, 154, 155, 156, 157, 158, 159, 160, 161, 162, 163, 164, 165, 166, 167, 168, 94, 169, 170, 171, 172, 173, 174, 175, 176, 177, 178, 179, 180, 181, 182, 183, 184, 185, 186, 187, 188, 189, 190, 191, 192, 193, 194, 195, 196, 197, 45, 198, 199, 9, 200, 303, 304, 305, 306, 307, 316, 317, 318, 319, 320, 321, 308, 309, 310, 311, 312, 313, 314, 315, 328, 329, 330, 331, 332, 333, 334, 335, 324] (by decide +kernel) (by decide +kernel)
set_option maxRecDepth 20000 in
theorem gX7_runCommands_X7_canCarryOut : GoodIn wsX7_runCommands (wsV RX7 206 RX7 yX7_canCarryOut wsX7_canCarryOut) := goodIn_app (goodIn_of _ (by decide +kernel)) ggX7_runCommands_X7_canCarryOut
set_option maxRecDepth 20000 in
theorem ggX7_runCommands_X7_carryOut : GoodIn wsX7_runCommands wsX7_carryOut := goodIn_r _ [204, 4, 2, 113, 114, 115, 14, 116, 42, 117, 118, 119, 120, 43, 44, 121, 122, 123, 124, 125, 126, 127, 194, 195, 196, 197, 45, 205, 206, 207, 131, 208, 137, 209, 210, 138, 179, 180, 181, 211, 212, 213, 214, 215, 216, 217, 186, 187, 188, 90, 189, 93, 92, 143, 144, 145, 146, 147, 29, 30, 31, 32, 33, 190, 191, 192, 193, 139, 140, 141, 142, 218, 219, 220, 221, 94, 222, 223, 224, 225, 104, 105, 106, 107, 108, 226, 227, 228, 229, 230, 231, 232, 233, 234, 235, 236, 178, 237, 153, 238, 239, 240, 241, 242, 243, 244, 80, 245, 177, 148, 246, 247, 248, 249, 250, 163, 251, 165, 166, 167, 168, 252, 253, 254, 255, 256, 257, 258, 259, 149, 150, 151, 152, 260, 261, 262, 263, 264, 265, 266, 267, 268, 269, 270, 271, 272, 273, 274, 275, 276, 277, 278, 279, 280, 281, 169, 170, 171, 172, 173, 174, 175, 176, 282, 283, 284, 285, 286, 287, 288, 289, 290, 291, 292, 293, 164, 294, 295, 296, 297, 298, 159, 160, 161, 162, 299, 300, 301, 302, 303, 304, 305, 306, 307, 316, 317, 318, 319, 320, 321, 308, 309, 310, 311, 312, 313, 314, 315, 328, 329, 330, 331, 332, 333, 334, 335, 324] (by decide +kernel) (by decide +kernel)
set_option maxRecDepth 20000 in
theorem gX7_runCommands_X7_carryOut : GoodIn wsX7_runCommands (wsV RX7 209 RX7 yX7_carryOut wsX7_carryOut) := goodIn_app (goodIn_of _ (by decide +kernel)) ggX7_runCommands_X7_carryOut
theorem dX7_runCommands_0 : decode cX7_runCommands 0 = .ok (.aload_n 0, 1) := by decide +kernel
theorem dX7_runCommands_1 : decode cX7_runCommands 1 = .ok (.invokevirtual 190, 3) := by decide +kernel
theorem dX7_runCommands_4 : decode cX7_runCommands 4 = .ok (.istore_n 1, 1) := by decide +kernel
theorem dX7_runCommands_5 : decode cX7_runCommands 5 = .ok (.iload_n 1, 1) := by decide +kernel
theorem dX7_runCommands_6 : decode cX7_runCommands 6 = .ok (.iconst (-1), 1) := by decide +kernel
theorem dX7_runCommands_7 : decode cX7_runCommands 7 = .ok (.if_icmp .eq 8, 3) := by decide +kernel
theorem dX7_runCommands_10 : decode cX7_runCommands 10 = .ok (.bipush (-10), 2) := by decide +kernel
theorem dX7_runCommands_12 : decode cX7_runCommands 12 = .ok (.iload_n 1, 1) := by decide +kernel
theorem dX7_runCommands_13 : decode cX7_runCommands 13 = .ok (.isub, 1) := by decide +kernel
theorem dX7_runCommands_14 : decode cX7_runCommands 14 = .ok (.ireturn, 1) := by decide +kernel
theorem dX7_runCommands_15 : decode cX7_runCommands 15 = .ok (.aload_n 0, 1) := by decide +kernel
theorem dX7_runCommands_16 : decode cX7_runCommands 16 = .ok (.getfield 22, 3) := by decide +kernel
theorem dX7_runCommands_19 : decode cX7_runCommands 19 = .ok (.aload_n 0, 1) := by decide +kernel
theorem dX7_runCommands_20 : decode cX7_runCommands 20 = .ok (.getfield 12, 3) := by decide +kernel
theorem dX7_runCommands_23 : decode cX7_runCommands 23 = .ok (.getfield 65, 3) := by decide +kernel
theorem dX7_runCommands_26 : decode cX7_runCommands 26 = .ok (.invokevirtual 69, 3) := by decide +kernel
theorem dX7_runCommands_29 : decode cX7_runCommands 29 = .ok (.iconst 0, 1) := by decide +kernel
theorem dX7_runCommands_30 : decode cX7_runCommands 30 = .ok (.istore_n 2, 1) := by decide +kernel
theorem dX7_runCommands_31 : decode cX7_runCommands 31 = .ok (.aload_n 0, 1) := by decide +kernel
theorem dX7_runCommands_32 : decode cX7_runCommands 32 = .ok (.getfield 36, 3) := by decide +kernel
theorem dX7_runCommands_35 : decode cX7_runCommands 35 = .ok (.invokevirtual 193, 3) := by decide +kernel
theorem dX7_runCommands_38 : decode cX7_runCommands 38 = .ok (.iconst 0, 1) := by decide +kernel
theorem dX7_runCommands_39 : decode cX7_runCommands 39 = .ok (.istore_n 3, 1) := by decide +kernel
theorem dX7_runCommands_40 : decode cX7_runCommands 40 = .ok (.iload_n 3, 1) := by decide +kernel
theorem dX7_runCommands_41 : decode cX7_runCommands 41 = .ok (.aload_n 0, 1) := by decide +kernel
theorem dX7_runCommands_42 : decode cX7_runCommands 42 = .ok (.getfield 29, 3) := by decide +kernel
theorem dX7_runCommands_45 : decode cX7_runCommands 45 = .ok (.invokevirtual 153, 3) := by decide +kernel
theorem dX7_runCommands_48 : decode cX7_runCommands 48 = .ok (.if_icmp .ge 51, 3) := by decide +kernel
theorem dX7_runCommands_51 : decode cX7_runCommands 51 = .ok (.aload_n 0, 1) := by decide +kernel
theorem dX7_runCommands_52 : decode cX7_runCommands 52 = .ok (.getfield 36, 3) := by decide +kernel
theorem dX7_runCommands_55 : decode cX7_runCommands 55 = .ok (.aload_n 0, 1) := by decide +kernel
theorem dX7_runCommands_56 : decode cX7_runCommands 56 = .ok (.getfield 29, 3) := by decide +kernel
theorem dX7_runCommands_59 : decode cX7_runCommands 59 = .ok (.iload_n 3, 1) := by decide +kernel
theorem dX7_runCommands_60 : decode cX7_runCommands 60 = .ok (.invokevirtual 196, 3) := by decide +kernel
theorem dX7_runCommands_63 : decode cX7_runCommands 63 = .ok (.invokevirtual 199, 3) := by decide +kernel
theorem dX7_runCommands_66 : decode cX7_runCommands 66 = .ok (.pop, 1) := by decide +kernel
theorem dX7_runCommands_67 : decode cX7_runCommands 67 = .ok (.aload_n 0, 1) := by decide +kernel
theorem dX7_runCommands_68 : decode cX7_runCommands 68 = .ok (.getfield 36, 3) := by decide +kernel
theorem dX7_runCommands_71 : decode cX7_runCommands 71 = .ok (.invokevirtual 202, 3) := by decide +kernel
theorem dX7_runCommands_74 : decode cX7_runCommands 74 = .ok (.ifCond .eq 19, 3) := by decide +kernel
theorem dX7_runCommands_77 : decode cX7_runCommands 77 = .ok (.aload_n 0, 1) := by decide +kernel
theorem dX7_runCommands_78 : decode cX7_runCommands 78 = .ok (.invokevirtual 206, 3) := by decide +kernel
theorem dX7_runCommands_81 : decode cX7_runCommands 81 = .ok (.ifCond .ne 5, 3) := by decide +kernel
theorem dX7_runCommands_84 : decode cX7_runCommands 84 = .ok (.iload_n 2, 1) := by decide +kernel
theorem dX7_runCommands_85 : decode cX7_runCommands 85 = .ok (.ireturn, 1) := by decide +kernel
theorem dX7_runCommands_86 : decode cX7_runCommands 86 = .ok (.aload_n 0, 1) := by decide +kernel
theorem dX7_runCommands_87 : decode cX7_runCommands 87 = .ok (.invokevirtual 209, 3) := by decide +kernel
theorem dX7_runCommands_90 : decode cX7_runCommands 90 = .ok (.iinc 2 1, 3) := by decide +kernel
theorem dX7_runCommands_93 : decode cX7_runCommands 93 = .ok (.iinc 3 1, 3) := by decide +kernel
theorem dX7_runCommands_96 : decode cX7_runCommands 96 = .ok (.goto (-56), 3) := by decide +kernel
theorem dX7_runCommands_99 : decode cX7_runCommands 99 = .ok (.iload_n 2, 1) := by decide +kernel
theorem dX7_runCommands_100 : decode cX7_runCommands 100 = .ok (.ireturn, 1) := by decide +kernel
set_option maxRecDepth 20000 in
theorem ggX7_undo_X6_size : GoodIn wsX7_undo wsX6_size := goodIn_r _ [10, 11, 110, 111, 112] (by decide +kernel) (by decide +kernel)
set_option maxRecDepth 20000 in
theorem gX7_undo_X6_size : GoodIn wsX7_undo (wsV RX7 212 RX6 yX6_size wsX6_size) := goodIn_app (goodIn_of _ (by decide +kernel)) ggX7_undo_X6_size
set_option maxRecDepth 20000 in
theorem ggX7_undo_X6_popInto : GoodIn wsX7_undo wsX6_popInto := goodIn_r _ [15, 16, 11, 17, 18, 19, 9, 20, 21, 22, 23, 24, 25, 26, 27, 28, 29, 30, 31, 32, 33, 34, 35, 36, 37, 38, 39, 40, 41, 42, 43, 44, 45, 46, 47, 48, 110, 111, 112, 113, 114, 115, 116, 117, 118, 119, 120, 121] (by decide +kernel) (by decide +kernel)
set_option maxRecDepth 20000 in
theorem gX7_undo_X6_popInto : GoodIn wsX7_undo (wsV RX7 217 RX6 yX6_popInto wsX6_popInto) := goodIn_app (goodIn_of _ (by decide +kernel)) ggX7_undo_X6_popInto
set_option maxRecDepth 20000 in
theorem ggX7_undo_X5_survey : GoodIn wsX7_undo wsX5_survey := goodIn_r _ [53, 54, 55, 56, 57, 58, 59, 60, 61, 62, 52, 63, 64, 65, 66, 67, 68, 69, 41, 42, 38, 43, 44, 70, 71, 72, 73, 74, 75, 76, 77, 78, 79, 80, 46, 47, 48, 81, 82, 83, 84, 85, 86, 87, 88, 89, 90, 25, 91, 29, 92, 93, 94, 95, 96, 40, 45, 102, 103, 104, 105, 106, 107, 108, 109, 113, 114, 115, 116, 117, 118, 119, 120, 121] (by decide +kernel) (by decide +kernel)
set_option maxRecDepth 20000 in
theorem gX7_undo_X5_survey : GoodIn wsX7_undo (wsV RX7 220 RX5 yX5_survey wsX5_survey) := goodIn_app (goodIn_of _ (by decide +kernel)) ggX7_undo_X5_survey
theorem dX7_undo_0 : decode cX7_undo 0 = .ok (.aload_n 0, 1) := by decide +kernel
theorem dX7_undo_1 : decode cX7_undo 1 = .ok (.getfield 22, 3) := by decide +kernel
theorem dX7_undo_4 : decode cX7_undo 4 = .ok (.invokevirtual 212, 3) := by decide +kernel
theorem dX7_undo_7 : decode cX7_undo 7 = .ok (.ifCond .ne 13, 3) := by decide +kernel
theorem dX7_undo_10 : decode cX7_undo 10 = .ok (.new 58, 3) := by decide +kernel
theorem dX7_undo_13 : decode cX7_undo 13 = .ok (.dup, 1) := by decide +kernel
theorem dX7_undo_14 : decode cX7_undo 14 = .ok (.ldc 215, 2) := by decide +kernel
theorem dX7_undo_16 : decode cX7_undo 16 = .ok (.invokespecial 62, 3) := by decide +kernel
theorem dX7_undo_19 : decode cX7_undo 19 = .ok (.athrow, 1) := by decide +kernel
theorem dX7_undo_20 : decode cX7_undo 20 = .ok (.aload_n 0, 1) := by decide +kernel
theorem dX7_undo_21 : decode cX7_undo 21 = .ok (.getfield 22, 3) := by decide +kernel
theorem dX7_undo_24 : decode cX7_undo 24 = .ok (.aload_n 0, 1) := by decide +kernel
theorem dX7_undo_25 : decode cX7_undo 25 = .ok (.getfield 12, 3) := by decide +kernel
theorem dX7_undo_28 : decode cX7_undo 28 = .ok (.getfield 65, 3) := by decide +kernel
theorem dX7_undo_31 : decode cX7_undo 31 = .ok (.invokevirtual 217, 3) := by decide +kernel
theorem dX7_undo_34 : decode cX7_undo 34 = .ok (.aload_n 0, 1) := by decide +kernel
theorem dX7_undo_35 : decode cX7_undo 35 = .ok (.getfield 12, 3) := by decide +kernel
theorem dX7_undo_38 : decode cX7_undo 38 = .ok (.invokevirtual 220, 3) := by decide +kernel
theorem dX7_undo_41 : decode cX7_undo 41 = .ok (.aload_n 0, 1) := by decide +kernel
theorem dX7_undo_42 : decode cX7_undo 42 = .ok (.getfield 22, 3) := by decide +kernel
theorem dX7_undo_45 : decode cX7_undo 45 = .ok (.invokevirtual 212, 3) := by decide +kernel
theorem dX7_undo_48 : decode cX7_undo 48 = .ok (.ireturn, 1) := by decide +kernel
set_option maxRecDepth 20000 in
theorem ggX7_digest_X6_size : GoodIn wsX7_digest wsX6_size := goodIn_r _ [10, 11, 164, 165, 166] (by decide +kernel) (by decide +kernel)
set_option maxRecDepth 20000 in
theorem gX7_digest_X6_size : GoodIn wsX7_digest (wsV RX7 212 RX6 yX6_size wsX6_size) := goodIn_app (goodIn_of _ (by decide +kernel)) ggX7_digest_X6_size
set_option maxRecDepth 20000 in
theorem ggX7_digest_X7_mix : GoodIn wsX7_digest wsX7_mix := goodIn_r _ [15, 16] (by decide +kernel) (by decide +kernel)
set_option maxRecDepth 20000 in
theorem gX7_digest_X7_mix : GoodIn wsX7_digest (va_wsS RX7 225 yX7_mix wsX7_mix) := goodIn_app (goodIn_of _ (by decide +kernel)) ggX7_digest_X7_mix
set_option maxRecDepth 20000 in
theorem ggX7_digest_X7_whole : GoodIn wsX7_digest wsX7_whole := goodIn_ca (goodIn_r _ [20, 21, 3, 22, 23, 14, 24, 25, 26, 27, 28, 29, 30, 31, 32, 33, 34, 35, 36, 37, 38, 39, 40, 41, 42, 43, 44, 45, 46, 47, 48, 49, 50, 51, 52, 53, 54, 55, 56, 57, 58, 59, 60, 61, 62, 63, 64, 65, 66, 67, 68, 69, 70, 71, 72, 73, 74, 75, 76, 77, 78, 79, 80, 81, 82, 83, 84, 85, 86, 87, 88, 89, 90, 91, 92, 143, 144, 145, 146, 147, 167, 168, 148, 149, 150, 151, 152, 153, 154, 155, 156, 157, 158, 159, 160, 161, 162, 163, 169] (by decide +kernel) (by decide +kernel)) (goodIn_sub (fun _ h => List.mem_cons_of_mem _ (List.mem_append_right _ h)) (by decide +kernel))
set_option maxRecDepth 20000 in
theorem gX7_digest_X7_whole : GoodIn wsX7_digest (wsV RX7 229 RX7 yX7_whole wsX7_whole) := goodIn_app (goodIn_of _ (by decide +kernel)) ggX7_digest_X7_whole
set_option maxRecDepth 20000 in
theorem ggX7_digest_X5_names : GoodIn wsX7_digest wsX5_names := goodIn_r _ [48, 49, 50, 51, 52, 53, 54, 55, 148, 149, 150, 151, 152, 153, 154, 155, 169] (by decide +kernel) (by decide +kernel)
set_option maxRecDepth 20000 in
theorem gX7_digest_X5_names : GoodIn wsX7_digest (wsV RX7 232 RX5 yX5_names wsX5_names) := goodIn_app (goodIn_of _ (by decide +kernel)) ggX7_digest_X5_names
set_option maxRecDepth 20000 in
theorem ggX7_digest_X5_nameValue : GoodIn wsX7_digest wsX5_nameValue := goodIn_r _ [97, 60, 38, 75, 61, 62, 50, 51, 52, 53, 54, 55, 98, 99, 79, 100, 101, 78, 80, 102, 103, 104, 77, 148, 149, 150, 151, 152, 153, 154, 155, 156, 157, 158, 159, 160, 161, 162, 163, 169] (by decide +kernel) (by decide +kernel)
set_option maxRecDepth 20000 in
theorem gX7_digest_X5_nameValue : GoodIn wsX7_digest (wsV RX7 127 RX5 yX5_nameValue wsX5_nameValue) := goodIn_app (goodIn_of _ (by decide +kernel)) ggX7_digest_X5_nameValue
set_option maxRecDepth 20000 in
theorem ggX7_digest_X5_houseValue : GoodIn wsX7_digest wsX5_houseValue := goodIn_r _ [108, 38, 75, 109, 49, 110, 62, 50, 51, 52, 53, 54, 55, 98, 99, 79, 100, 101, 78, 80, 102, 103, 104, 77, 67, 68, 69, 36, 70, 71, 72, 73, 74, 76, 111, 112, 113, 114, 115, 116, 117, 118, 119, 120, 121, 148, 149, 150, 151, 152, 153, 154, 155, 156, 157, 158, 159, 160, 161, 162, 163, 169] (by decide +kernel) (by decide +kernel)
set_option maxRecDepth 20000 in
theorem gX7_digest_X5_houseValue : GoodIn wsX7_digest (wsV RX7 139 RX5 yX5_houseValue wsX5_houseValue) := goodIn_app (goodIn_of _ (by decide +kernel)) ggX7_digest_X5_houseValue
set_option maxRecDepth 20000 in
theorem ggX7_digest_X5_saving : GoodIn wsX7_digest wsX5_saving := goodIn_r _ [125, 110, 126, 127, 128, 36, 129, 38, 109, 40, 115, 116, 117, 118, 119, 120, 121, 51, 52, 53, 54, 55, 50, 130, 131, 132, 133, 71, 72, 73, 74, 75, 76, 77, 78, 79, 80, 148, 149, 150, 151, 152, 153, 154, 155, 156, 157, 158, 159, 160, 161, 162, 163, 169] (by decide +kernel) (by decide +kernel)
set_option maxRecDepth 20000 in
theorem gX7_digest_X5_saving : GoodIn wsX7_digest (wsV RX7 162 RX5 yX5_saving wsX5_saving) := goodIn_app (goodIn_of _ (by decide +kernel)) ggX7_digest_X5_saving
set_option maxRecDepth 20000 in
theorem ggX7_digest_X5_tourRoads : GoodIn wsX7_digest wsX5_tourRoads := goodIn_r _ [137, 38, 39, 148, 149, 150, 151, 152, 153, 154, 155, 156, 157, 158, 159, 160, 161, 162, 163] (by decide +kernel) (by decide +kernel)
set_option maxRecDepth 20000 in
theorem gX7_digest_X5_tourRoads : GoodIn wsX7_digest (wsV RX7 150 RX5 yX5_tourRoads wsX5_tourRoads) := goodIn_app (goodIn_of _ (by decide +kernel)) ggX7_digest_X5_tourRoads
set_option maxRecDepth 20000 in
theorem ggX7_digest_X5_bestToMove : GoodIn wsX7_digest wsX5_bestToMove := goodIn_r _ [141, 38, 39, 142, 123, 124, 36, 125, 110, 126, 127, 128, 129, 109, 40, 115, 116, 117, 118, 119, 120, 121, 51, 52, 53, 54, 55, 50, 130, 131, 132, 133, 71, 72, 73, 74, 75, 76, 77, 78, 79, 80, 148, 149, 150, 151, 152, 153, 154, 155, 156, 157, 158, 159, 160, 161, 162, 163, 169] (by decide +kernel) (by decide +kernel)
set_option maxRecDepth 20000 in
theorem gX7_digest_X5_bestToMove : GoodIn wsX7_digest (wsV RX7 165 RX5 yX5_bestToMove wsX5_bestToMove) := goodIn_app (goodIn_of _ (by decide +kernel)) ggX7_digest_X5_bestToMove
theorem dX7_digest_0 : decode cX7_digest 0 = .ok (.ldc2_w 223, 3) := by decide +kernel
theorem dX7_digest_3 : decode cX7_digest 3 = .ok (.aload_n 0, 1) := by decide +kernel
theorem dX7_digest_4 : decode cX7_digest 4 = .ok (.getfield 22, 3) := by decide +kernel
theorem dX7_digest_7 : decode cX7_digest 7 = .ok (.invokevirtual 212, 3) := by decide +kernel
theorem dX7_digest_10 : decode cX7_digest 10 = .ok (.i2l, 1) := by decide +kernel
theorem dX7_digest_11 : decode cX7_digest 11 = .ok (.invokestatic 225, 3) := by decide +kernel
theorem dX7_digest_14 : decode cX7_digest 14 = .ok (.lstore_n 1, 1) := by decide +kernel
theorem dX7_digest_15 : decode cX7_digest 15 = .ok (.iconst 0, 1) := by decide +kernel
theorem dX7_digest_16 : decode cX7_digest 16 = .ok (.istore_n 3, 1) := by decide +kernel
theorem dX7_digest_17 : decode cX7_digest 17 = .ok (.iload_n 3, 1) := by decide +kernel
theorem dX7_digest_18 : decode cX7_digest 18 = .ok (.bipush 12, 2) := by decide +kernel
theorem dX7_digest_20 : decode cX7_digest 20 = .ok (.if_icmp .ge 20, 3) := by decide +kernel
theorem dX7_digest_23 : decode cX7_digest 23 = .ok (.lload_n 1, 1) := by decide +kernel
theorem dX7_digest_24 : decode cX7_digest 24 = .ok (.aload_n 0, 1) := by decide +kernel
theorem dX7_digest_25 : decode cX7_digest 25 = .ok (.iload_n 3, 1) := by decide +kernel
theorem dX7_digest_26 : decode cX7_digest 26 = .ok (.invokevirtual 229, 3) := by decide +kernel
theorem dX7_digest_29 : decode cX7_digest 29 = .ok (.i2l, 1) := by decide +kernel
theorem dX7_digest_30 : decode cX7_digest 30 = .ok (.invokestatic 225, 3) := by decide +kernel
theorem dX7_digest_33 : decode cX7_digest 33 = .ok (.lstore_n 1, 1) := by decide +kernel
theorem dX7_digest_34 : decode cX7_digest 34 = .ok (.iinc 3 1, 3) := by decide +kernel
theorem dX7_digest_37 : decode cX7_digest 37 = .ok (.goto (-20), 3) := by decide +kernel
theorem dX7_digest_40 : decode cX7_digest 40 = .ok (.iconst 0, 1) := by decide +kernel
theorem dX7_digest_41 : decode cX7_digest 41 = .ok (.istore_n 3, 1) := by decide +kernel
theorem dX7_digest_42 : decode cX7_digest 42 = .ok (.iload_n 3, 1) := by decide +kernel
theorem dX7_digest_43 : decode cX7_digest 43 = .ok (.aload_n 0, 1) := by decide +kernel
theorem dX7_digest_44 : decode cX7_digest 44 = .ok (.getfield 12, 3) := by decide +kernel
theorem dX7_digest_47 : decode cX7_digest 47 = .ok (.invokevirtual 232, 3) := by decide +kernel
theorem dX7_digest_50 : decode cX7_digest 50 = .ok (.if_icmp .ge 40, 3) := by decide +kernel
theorem dX7_digest_53 : decode cX7_digest 53 = .ok (.iconst 0, 1) := by decide +kernel
theorem dX7_digest_54 : decode cX7_digest 54 = .ok (.istore 4, 2) := by decide +kernel
theorem dX7_digest_56 : decode cX7_digest 56 = .ok (.iload 4, 2) := by decide +kernel
theorem dX7_digest_58 : decode cX7_digest 58 = .ok (.iconst 4, 1) := by decide +kernel
theorem dX7_digest_59 : decode cX7_digest 59 = .ok (.if_icmp .ge 25, 3) := by decide +kernel
theorem dX7_digest_62 : decode cX7_digest 62 = .ok (.lload_n 1, 1) := by decide +kernel
theorem dX7_digest_63 : decode cX7_digest 63 = .ok (.aload_n 0, 1) := by decide +kernel
theorem dX7_digest_64 : decode cX7_digest 64 = .ok (.getfield 12, 3) := by decide +kernel
theorem dX7_digest_67 : decode cX7_digest 67 = .ok (.iload_n 3, 1) := by decide +kernel
theorem dX7_digest_68 : decode cX7_digest 68 = .ok (.iload 4, 2) := by decide +kernel
theorem dX7_digest_70 : decode cX7_digest 70 = .ok (.invokevirtual 127, 3) := by decide +kernel
theorem dX7_digest_73 : decode cX7_digest 73 = .ok (.i2l, 1) := by decide +kernel
theorem dX7_digest_74 : decode cX7_digest 74 = .ok (.invokestatic 225, 3) := by decide +kernel
theorem dX7_digest_77 : decode cX7_digest 77 = .ok (.lstore_n 1, 1) := by decide +kernel
theorem dX7_digest_78 : decode cX7_digest 78 = .ok (.iinc 4 1, 3) := by decide +kernel
theorem dX7_digest_81 : decode cX7_digest 81 = .ok (.goto (-25), 3) := by decide +kernel
theorem dX7_digest_84 : decode cX7_digest 84 = .ok (.iinc 3 1, 3) := by decide +kernel
theorem dX7_digest_87 : decode cX7_digest 87 = .ok (.goto (-45), 3) := by decide +kernel
theorem dX7_digest_90 : decode cX7_digest 90 = .ok (.iconst 0, 1) := by decide +kernel
theorem dX7_digest_91 : decode cX7_digest 91 = .ok (.istore_n 3, 1) := by decide +kernel
theorem dX7_digest_92 : decode cX7_digest 92 = .ok (.iload_n 3, 1) := by decide +kernel
theorem dX7_digest_93 : decode cX7_digest 93 = .ok (.aload_n 0, 1) := by decide +kernel
theorem dX7_digest_94 : decode cX7_digest 94 = .ok (.getfield 12, 3) := by decide +kernel
theorem dX7_digest_97 : decode cX7_digest 97 = .ok (.getfield 65, 3) := by decide +kernel
theorem dX7_digest_100 : decode cX7_digest 100 = .ok (.getfield 235, 3) := by decide +kernel
theorem dX7_digest_103 : decode cX7_digest 103 = .ok (.if_icmp .ge 55, 3) := by decide +kernel
theorem dX7_digest_106 : decode cX7_digest 106 = .ok (.iconst 0, 1) := by decide +kernel
theorem dX7_digest_107 : decode cX7_digest 107 = .ok (.istore 4, 2) := by decide +kernel
theorem dX7_digest_109 : decode cX7_digest 109 = .ok (.iload 4, 2) := by decide +kernel
theorem dX7_digest_111 : decode cX7_digest 111 = .ok (.bipush 9, 2) := by decide +kernel
theorem dX7_digest_113 : decode cX7_digest 113 = .ok (.if_icmp .ge 25, 3) := by decide +kernel
theorem dX7_digest_116 : decode cX7_digest 116 = .ok (.lload_n 1, 1) := by decide +kernel
theorem dX7_digest_117 : decode cX7_digest 117 = .ok (.aload_n 0, 1) := by decide +kernel
theorem dX7_digest_118 : decode cX7_digest 118 = .ok (.getfield 12, 3) := by decide +kernel
theorem dX7_digest_121 : decode cX7_digest 121 = .ok (.iload_n 3, 1) := by decide +kernel
theorem dX7_digest_122 : decode cX7_digest 122 = .ok (.iload 4, 2) := by decide +kernel
theorem dX7_digest_124 : decode cX7_digest 124 = .ok (.invokevirtual 139, 3) := by decide +kernel
theorem dX7_digest_127 : decode cX7_digest 127 = .ok (.i2l, 1) := by decide +kernel
theorem dX7_digest_128 : decode cX7_digest 128 = .ok (.invokestatic 225, 3) := by decide +kernel
theorem dX7_digest_131 : decode cX7_digest 131 = .ok (.lstore_n 1, 1) := by decide +kernel
theorem dX7_digest_132 : decode cX7_digest 132 = .ok (.iinc 4 1, 3) := by decide +kernel
theorem dX7_digest_135 : decode cX7_digest 135 = .ok (.goto (-26), 3) := by decide +kernel
theorem dX7_digest_138 : decode cX7_digest 138 = .ok (.lload_n 1, 1) := by decide +kernel
theorem dX7_digest_139 : decode cX7_digest 139 = .ok (.aload_n 0, 1) := by decide +kernel
theorem dX7_digest_140 : decode cX7_digest 140 = .ok (.getfield 12, 3) := by decide +kernel
theorem dX7_digest_143 : decode cX7_digest 143 = .ok (.iload_n 3, 1) := by decide +kernel
theorem dX7_digest_144 : decode cX7_digest 144 = .ok (.invokevirtual 162, 3) := by decide +kernel
theorem dX7_digest_147 : decode cX7_digest 147 = .ok (.i2l, 1) := by decide +kernel
theorem dX7_digest_148 : decode cX7_digest 148 = .ok (.invokestatic 225, 3) := by decide +kernel
theorem dX7_digest_151 : decode cX7_digest 151 = .ok (.lstore_n 1, 1) := by decide +kernel
theorem dX7_digest_152 : decode cX7_digest 152 = .ok (.iinc 3 1, 3) := by decide +kernel
theorem dX7_digest_155 : decode cX7_digest 155 = .ok (.goto (-63), 3) := by decide +kernel
theorem dX7_digest_158 : decode cX7_digest 158 = .ok (.lload_n 1, 1) := by decide +kernel
theorem dX7_digest_159 : decode cX7_digest 159 = .ok (.aload_n 0, 1) := by decide +kernel
theorem dX7_digest_160 : decode cX7_digest 160 = .ok (.getfield 12, 3) := by decide +kernel
theorem dX7_digest_163 : decode cX7_digest 163 = .ok (.invokevirtual 150, 3) := by decide +kernel
theorem dX7_digest_166 : decode cX7_digest 166 = .ok (.i2l, 1) := by decide +kernel
theorem dX7_digest_167 : decode cX7_digest 167 = .ok (.invokestatic 225, 3) := by decide +kernel
theorem dX7_digest_170 : decode cX7_digest 170 = .ok (.lstore_n 1, 1) := by decide +kernel
theorem dX7_digest_171 : decode cX7_digest 171 = .ok (.lload_n 1, 1) := by decide +kernel
theorem dX7_digest_172 : decode cX7_digest 172 = .ok (.aload_n 0, 1) := by decide +kernel
theorem dX7_digest_173 : decode cX7_digest 173 = .ok (.getfield 12, 3) := by decide +kernel
theorem dX7_digest_176 : decode cX7_digest 176 = .ok (.invokevirtual 165, 3) := by decide +kernel
theorem dX7_digest_179 : decode cX7_digest 179 = .ok (.i2l, 1) := by decide +kernel
theorem dX7_digest_180 : decode cX7_digest 180 = .ok (.invokestatic 225, 3) := by decide +kernel
theorem dX7_digest_183 : decode cX7_digest 183 = .ok (.lreturn, 1) := by decide +kernel
theorem dX7_mix_0 : decode cX7_mix 0 = .ok (.ldc2_w 239, 3) := by decide +kernel
theorem dX7_mix_3 : decode cX7_mix 3 = .ok (.lload_n 0, 1) := by decide +kernel
theorem dX7_mix_4 : decode cX7_mix 4 = .ok (.lmul, 1) := by decide +kernel
theorem dX7_mix_5 : decode cX7_mix 5 = .ok (.lload_n 2, 1) := by decide +kernel
theorem dX7_mix_6 : decode cX7_mix 6 = .ok (.ladd, 1) := by decide +kernel
theorem dX7_mix_7 : decode cX7_mix 7 = .ok (.lreturn, 1) := by decide +kernel
set_option maxRecDepth 20000 in
theorem ggX7_requireName_X7_requirePrefix : GoodIn wsX7_requireName wsX7_requirePrefix := goodIn_ca (goodIn_r _ [6, 1, 2] (by decide +kernel) (by decide +kernel)) (goodIn_sub (fun _ h => List.mem_cons_of_mem _ (List.mem_append_right _ h)) (by decide +kernel))
set_option maxRecDepth 20000 in
theorem gX7_requireName_X7_requirePrefix : GoodIn wsX7_requireName (va_wsS RX7 92 yX7_requirePrefix wsX7_requirePrefix) := goodIn_app (goodIn_of _ (by decide +kernel)) ggX7_requireName_X7_requirePrefix
theorem dX7_requireName_0 : decode cX7_requireName 0 = .ok (.iload_n 1, 1) := by decide +kernel
theorem dX7_requireName_1 : decode cX7_requireName 1 = .ok (.ifCond .ne 13, 3) := by decide +kernel
theorem dX7_requireName_4 : decode cX7_requireName 4 = .ok (.new 177, 3) := by decide +kernel
theorem dX7_requireName_7 : decode cX7_requireName 7 = .ok (.dup, 1) := by decide +kernel
theorem dX7_requireName_8 : decode cX7_requireName 8 = .ok (.ldc 241, 2) := by decide +kernel
theorem dX7_requireName_10 : decode cX7_requireName 10 = .ok (.invokespecial 181, 3) := by decide +kernel
theorem dX7_requireName_13 : decode cX7_requireName 13 = .ok (.athrow, 1) := by decide +kernel
theorem dX7_requireName_14 : decode cX7_requireName 14 = .ok (.iload_n 0, 1) := by decide +kernel
theorem dX7_requireName_15 : decode cX7_requireName 15 = .ok (.iload_n 1, 1) := by decide +kernel
theorem dX7_requireName_16 : decode cX7_requireName 16 = .ok (.invokestatic 92, 3) := by decide +kernel
theorem dX7_requireName_19 : decode cX7_requireName 19 = .ok (.return_, 1) := by decide +kernel
theorem dX7_requirePrefix_0 : decode cX7_requirePrefix 0 = .ok (.iload_n 1, 1) := by decide +kernel
theorem dX7_requirePrefix_1 : decode cX7_requirePrefix 1 = .ok (.ifCond .lt 9, 3) := by decide +kernel
theorem dX7_requirePrefix_4 : decode cX7_requirePrefix 4 = .ok (.iload_n 1, 1) := by decide +kernel
theorem dX7_requirePrefix_5 : decode cX7_requirePrefix 5 = .ok (.bipush 8, 2) := by decide +kernel
theorem dX7_requirePrefix_7 : decode cX7_requirePrefix 7 = .ok (.if_icmp .le 13, 3) := by decide +kernel
theorem dX7_requirePrefix_10 : decode cX7_requirePrefix 10 = .ok (.new 177, 3) := by decide +kernel
theorem dX7_requirePrefix_13 : decode cX7_requirePrefix 13 = .ok (.dup, 1) := by decide +kernel
theorem dX7_requirePrefix_14 : decode cX7_requirePrefix 14 = .ok (.ldc 243, 2) := by decide +kernel
theorem dX7_requirePrefix_16 : decode cX7_requirePrefix 16 = .ok (.invokespecial 181, 3) := by decide +kernel
theorem dX7_requirePrefix_19 : decode cX7_requirePrefix 19 = .ok (.athrow, 1) := by decide +kernel
theorem dX7_requirePrefix_20 : decode cX7_requirePrefix 20 = .ok (.iload_n 0, 1) := by decide +kernel
theorem dX7_requirePrefix_21 : decode cX7_requirePrefix 21 = .ok (.ifCond .lt 12, 3) := by decide +kernel
theorem dX7_requirePrefix_24 : decode cX7_requirePrefix 24 = .ok (.iload_n 0, 1) := by decide +kernel
theorem dX7_requirePrefix_25 : decode cX7_requirePrefix 25 = .ok (.iconst 1, 1) := by decide +kernel
theorem dX7_requirePrefix_26 : decode cX7_requirePrefix 26 = .ok (.iconst 3, 1) := by decide +kernel
theorem dX7_requirePrefix_27 : decode cX7_requirePrefix 27 = .ok (.iload_n 1, 1) := by decide +kernel
theorem dX7_requirePrefix_28 : decode cX7_requirePrefix 28 = .ok (.imul, 1) := by decide +kernel
theorem dX7_requirePrefix_29 : decode cX7_requirePrefix 29 = .ok (.ishl, 1) := by decide +kernel
theorem dX7_requirePrefix_30 : decode cX7_requirePrefix 30 = .ok (.if_icmp .lt 13, 3) := by decide +kernel
theorem dX7_requirePrefix_33 : decode cX7_requirePrefix 33 = .ok (.new 177, 3) := by decide +kernel
theorem dX7_requirePrefix_36 : decode cX7_requirePrefix 36 = .ok (.dup, 1) := by decide +kernel
theorem dX7_requirePrefix_37 : decode cX7_requirePrefix 37 = .ok (.ldc 245, 2) := by decide +kernel
theorem dX7_requirePrefix_39 : decode cX7_requirePrefix 39 = .ok (.invokespecial 181, 3) := by decide +kernel
theorem dX7_requirePrefix_42 : decode cX7_requirePrefix 42 = .ok (.athrow, 1) := by decide +kernel
theorem dX7_requirePrefix_43 : decode cX7_requirePrefix 43 = .ok (.return_, 1) := by decide +kernel
theorem dX7_requireWeight_0 : decode cX7_requireWeight 0 = .ok (.iload_n 0, 1) := by decide +kernel
theorem dX7_requireWeight_1 : decode cX7_requireWeight 1 = .ok (.ifCond .lt 9, 3) := by decide +kernel
theorem dX7_requireWeight_4 : decode cX7_requireWeight 4 = .ok (.iload_n 0, 1) := by decide +kernel
theorem dX7_requireWeight_5 : decode cX7_requireWeight 5 = .ok (.bipush 99, 2) := by decide +kernel
theorem dX7_requireWeight_7 : decode cX7_requireWeight 7 = .ok (.if_icmp .le 13, 3) := by decide +kernel
theorem dX7_requireWeight_10 : decode cX7_requireWeight 10 = .ok (.new 177, 3) := by decide +kernel
theorem dX7_requireWeight_13 : decode cX7_requireWeight 13 = .ok (.dup, 1) := by decide +kernel
theorem dX7_requireWeight_14 : decode cX7_requireWeight 14 = .ok (.ldc 247, 2) := by decide +kernel
theorem dX7_requireWeight_16 : decode cX7_requireWeight 16 = .ok (.invokespecial 181, 3) := by decide +kernel
theorem dX7_requireWeight_19 : decode cX7_requireWeight 19 = .ok (.athrow, 1) := by decide +kernel
theorem dX7_requireWeight_20 : decode cX7_requireWeight 20 = .ok (.return_, 1) := by decide +kernel
set_option maxRecDepth 20000 in
theorem ggX7_requireLimit_X7_isLimit : GoodIn wsX7_requireLimit wsX7_isLimit := goodIn_r _ [6] (by decide +kernel) (by decide +kernel)
set_option maxRecDepth 20000 in
theorem gX7_requireLimit_X7_isLimit : GoodIn wsX7_requireLimit (va_wsS RX7 249 yX7_isLimit wsX7_isLimit) := goodIn_app (goodIn_of _ (by decide +kernel)) ggX7_requireLimit_X7_isLimit
theorem dX7_requireLimit_0 : decode cX7_requireLimit 0 = .ok (.iload_n 0, 1) := by decide +kernel
theorem dX7_requireLimit_1 : decode cX7_requireLimit 1 = .ok (.invokestatic 249, 3) := by decide +kernel
theorem dX7_requireLimit_4 : decode cX7_requireLimit 4 = .ok (.ifCond .ne 13, 3) := by decide +kernel
theorem dX7_requireLimit_7 : decode cX7_requireLimit 7 = .ok (.new 177, 3) := by decide +kernel
theorem dX7_requireLimit_10 : decode cX7_requireLimit 10 = .ok (.dup, 1) := by decide +kernel
theorem dX7_requireLimit_11 : decode cX7_requireLimit 11 = .ok (.ldc 252, 2) := by decide +kernel
theorem dX7_requireLimit_13 : decode cX7_requireLimit 13 = .ok (.invokespecial 181, 3) := by decide +kernel
theorem dX7_requireLimit_16 : decode cX7_requireLimit 16 = .ok (.athrow, 1) := by decide +kernel
theorem dX7_requireLimit_17 : decode cX7_requireLimit 17 = .ok (.return_, 1) := by decide +kernel
theorem dX7_isLimit_0 : decode cX7_isLimit 0 = .ok (.iload_n 0, 1) := by decide +kernel
theorem dX7_isLimit_1 : decode cX7_isLimit 1 = .ok (.iconst 1, 1) := by decide +kernel
theorem dX7_isLimit_2 : decode cX7_isLimit 2 = .ok (.if_icmp .lt 13, 3) := by decide +kernel
theorem dX7_isLimit_5 : decode cX7_isLimit 5 = .ok (.iload_n 0, 1) := by decide +kernel
theorem dX7_isLimit_6 : decode cX7_isLimit 6 = .ok (.bipush 8, 2) := by decide +kernel
theorem dX7_isLimit_8 : decode cX7_isLimit 8 = .ok (.if_icmp .gt 7, 3) := by decide +kernel
theorem dX7_isLimit_11 : decode cX7_isLimit 11 = .ok (.iconst 1, 1) := by decide +kernel
theorem dX7_isLimit_12 : decode cX7_isLimit 12 = .ok (.goto 4, 3) := by decide +kernel
theorem dX7_isLimit_15 : decode cX7_isLimit 15 = .ok (.iconst 0, 1) := by decide +kernel
theorem dX7_isLimit_16 : decode cX7_isLimit 16 = .ok (.ireturn, 1) := by decide +kernel
theorem dX7_requireWhat_0 : decode cX7_requireWhat 0 = .ok (.iload_n 0, 1) := by decide +kernel
theorem dX7_requireWhat_1 : decode cX7_requireWhat 1 = .ok (.ifCond .lt 8, 3) := by decide +kernel
theorem dX7_requireWhat_4 : decode cX7_requireWhat 4 = .ok (.iload_n 0, 1) := by decide +kernel
theorem dX7_requireWhat_5 : decode cX7_requireWhat 5 = .ok (.iload_n 1, 1) := by decide +kernel
theorem dX7_requireWhat_6 : decode cX7_requireWhat 6 = .ok (.if_icmp .lt 13, 3) := by decide +kernel
theorem dX7_requireWhat_9 : decode cX7_requireWhat 9 = .ok (.new 177, 3) := by decide +kernel
theorem dX7_requireWhat_12 : decode cX7_requireWhat 12 = .ok (.dup, 1) := by decide +kernel
theorem dX7_requireWhat_13 : decode cX7_requireWhat 13 = .ok (.ldc 254, 2) := by decide +kernel
theorem dX7_requireWhat_15 : decode cX7_requireWhat 15 = .ok (.invokespecial 181, 3) := by decide +kernel
theorem dX7_requireWhat_18 : decode cX7_requireWhat 18 = .ok (.athrow, 1) := by decide +kernel
theorem dX7_requireWhat_19 : decode cX7_requireWhat 19 = .ok (.return_, 1) := by decide +kernel
set_option maxRecDepth 20000 in
theorem ggX7_requireInTown_X5_weightOf : GoodIn wsX7_requireInTown wsX5_weightOf := goodIn_r _ [8, 9, 10, 11, 12, 13, 14, 15, 16, 17, 18, 19, 20, 21, 22, 23, 24, 25, 26, 27, 28, 34, 35, 36, 37, 38, 39, 40, 41, 42, 43, 44, 45, 46, 47, 48, 49, 50] (by decide +kernel) (by decide +kernel)
set_option maxRecDepth 20000 in
theorem gX7_requireInTown_X5_weightOf : GoodIn wsX7_requireInTown (wsV RX7 130 RX5 yX5_weightOf wsX5_weightOf) := goodIn_app (goodIn_of _ (by decide +kernel)) ggX7_requireInTown_X5_weightOf
theorem dX7_requireInTown_0 : decode cX7_requireInTown 0 = .ok (.aload_n 0, 1) := by decide +kernel
theorem dX7_requireInTown_1 : decode cX7_requireInTown 1 = .ok (.getfield 12, 3) := by decide +kernel
theorem dX7_requireInTown_4 : decode cX7_requireInTown 4 = .ok (.iload_n 1, 1) := by decide +kernel
theorem dX7_requireInTown_5 : decode cX7_requireInTown 5 = .ok (.invokevirtual 130, 3) := by decide +kernel
theorem dX7_requireInTown_8 : decode cX7_requireInTown 8 = .ok (.iconst (-1), 1) := by decide +kernel
theorem dX7_requireInTown_9 : decode cX7_requireInTown 9 = .ok (.if_icmp .ne 14, 3) := by decide +kernel
theorem dX7_requireInTown_12 : decode cX7_requireInTown 12 = .ok (.new 58, 3) := by decide +kernel
theorem dX7_requireInTown_15 : decode cX7_requireInTown 15 = .ok (.dup, 1) := by decide +kernel
theorem dX7_requireInTown_16 : decode cX7_requireInTown 16 = .ok (.ldc_w 256, 3) := by decide +kernel
theorem dX7_requireInTown_19 : decode cX7_requireInTown 19 = .ok (.invokespecial 62, 3) := by decide +kernel
theorem dX7_requireInTown_22 : decode cX7_requireInTown 22 = .ok (.athrow, 1) := by decide +kernel
theorem dX7_requireInTown_23 : decode cX7_requireInTown 23 = .ok (.return_, 1) := by decide +kernel
set_option maxRecDepth 20000 in
theorem ggX7_requireRank_X5_names : GoodIn wsX7_requireRank wsX5_names := goodIn_r _ [8, 9, 10, 11, 12, 13, 14, 15, 21, 22, 23, 24, 25, 26, 27, 28, 29] (by decide +kernel) (by decide +kernel)
set_option maxRecDepth 20000 in
theorem gX7_requireRank_X5_names : GoodIn wsX7_requireRank (wsV RX7 232 RX5 yX5_names wsX5_names) := goodIn_app (goodIn_of _ (by decide +kernel)) ggX7_requireRank_X5_names
theorem dX7_requireRank_0 : decode cX7_requireRank 0 = .ok (.iload_n 1, 1) := by decide +kernel
theorem dX7_requireRank_1 : decode cX7_requireRank 1 = .ok (.ifCond .lt 14, 3) := by decide +kernel
theorem dX7_requireRank_4 : decode cX7_requireRank 4 = .ok (.iload_n 1, 1) := by decide +kernel
theorem dX7_requireRank_5 : decode cX7_requireRank 5 = .ok (.aload_n 0, 1) := by decide +kernel
theorem dX7_requireRank_6 : decode cX7_requireRank 6 = .ok (.getfield 12, 3) := by decide +kernel
theorem dX7_requireRank_9 : decode cX7_requireRank 9 = .ok (.invokevirtual 232, 3) := by decide +kernel
theorem dX7_requireRank_12 : decode cX7_requireRank 12 = .ok (.if_icmp .lt 14, 3) := by decide +kernel
theorem dX7_requireRank_15 : decode cX7_requireRank 15 = .ok (.new 258, 3) := by decide +kernel
theorem dX7_requireRank_18 : decode cX7_requireRank 18 = .ok (.dup, 1) := by decide +kernel
theorem dX7_requireRank_19 : decode cX7_requireRank 19 = .ok (.ldc_w 260, 3) := by decide +kernel
theorem dX7_requireRank_22 : decode cX7_requireRank 22 = .ok (.invokespecial 262, 3) := by decide +kernel
theorem dX7_requireRank_25 : decode cX7_requireRank 25 = .ok (.athrow, 1) := by decide +kernel
theorem dX7_requireRank_26 : decode cX7_requireRank 26 = .ok (.return_, 1) := by decide +kernel
theorem dX7_requireHouse_0 : decode cX7_requireHouse 0 = .ok (.iload_n 1, 1) := by decide +kernel
theorem dX7_requireHouse_1 : decode cX7_requireHouse 1 = .ok (.ifCond .lt 17, 3) := by decide +kernel
theorem dX7_requireHouse_4 : decode cX7_requireHouse 4 = .ok (.iload_n 1, 1) := by decide +kernel
theorem dX7_requireHouse_5 : decode cX7_requireHouse 5 = .ok (.aload_n 0, 1) := by decide +kernel
theorem dX7_requireHouse_6 : decode cX7_requireHouse 6 = .ok (.getfield 12, 3) := by decide +kernel
theorem dX7_requireHouse_9 : decode cX7_requireHouse 9 = .ok (.getfield 65, 3) := by decide +kernel
theorem dX7_requireHouse_12 : decode cX7_requireHouse 12 = .ok (.getfield 235, 3) := by decide +kernel
theorem dX7_requireHouse_15 : decode cX7_requireHouse 15 = .ok (.if_icmp .lt 14, 3) := by decide +kernel
theorem dX7_requireHouse_18 : decode cX7_requireHouse 18 = .ok (.new 258, 3) := by decide +kernel
theorem dX7_requireHouse_21 : decode cX7_requireHouse 21 = .ok (.dup, 1) := by decide +kernel
theorem dX7_requireHouse_22 : decode cX7_requireHouse 22 = .ok (.ldc_w 263, 3) := by decide +kernel
theorem dX7_requireHouse_25 : decode cX7_requireHouse 25 = .ok (.invokespecial 262, 3) := by decide +kernel
theorem dX7_requireHouse_28 : decode cX7_requireHouse 28 = .ok (.athrow, 1) := by decide +kernel
theorem dX7_requireHouse_29 : decode cX7_requireHouse 29 = .ok (.return_, 1) := by decide +kernel
set_option maxRecDepth 20000 in
theorem ggX7_findFault_X0_restart : GoodIn wsX7_findFault wsX0_restart := goodIn_r _ [7, 8, 68, 69, 70, 71, 72, 73] (by decide +kernel) (by decide +kernel)
set_option maxRecDepth 20000 in
theorem gX7_findFault_X0_restart : GoodIn wsX7_findFault (wsV RX7 193 RX0 yX0_restart wsX0_restart) := goodIn_app (goodIn_of _ (by decide +kernel)) ggX7_findFault_X0_restart
set_option maxRecDepth 20000 in
theorem ggX7_findFault_X1_length : GoodIn wsX7_findFault wsX1_length := goodIn_r _ [13, 14, 74, 75] (by decide +kernel) (by decide +kernel)
set_option maxRecDepth 20000 in
theorem gX7_findFault_X1_length : GoodIn wsX7_findFault (wsV RX7 153 RX1 yX1_length wsX1_length) := goodIn_app (goodIn_of _ (by decide +kernel)) ggX7_findFault_X1_length
set_option maxRecDepth 20000 in
theorem ggX7_findFault_X1_signAt : GoodIn wsX7_findFault wsX1_signAt := goodIn_r _ [18, 19, 20, 21, 22, 23, 24, 25, 74, 75, 76] (by decide +kernel) (by decide +kernel)
set_option maxRecDepth 20000 in
theorem gX7_findFault_X1_signAt : GoodIn wsX7_findFault (wsV RX7 196 RX1 yX1_signAt wsX1_signAt) := goodIn_app (goodIn_of _ (by decide +kernel)) ggX7_findFault_X1_signAt
set_option maxRecDepth 20000 in
theorem ggX7_findFault_X0_read : GoodIn wsX7_findFault wsX0_read := goodIn_r _ [29, 8, 30, 31, 32, 6, 33, 34, 35, 36, 37, 38, 39, 40, 41, 42, 43, 44, 45, 46, 47, 48, 49, 50, 51, 52, 53, 54, 55, 56, 57, 58, 68, 69, 70, 71, 72, 73] (by decide +kernel) (by decide +kernel)
set_option maxRecDepth 20000 in
theorem gX7_findFault_X0_read : GoodIn wsX7_findFault (wsV RX7 199 RX0 yX0_read wsX0_read) := goodIn_app (goodIn_of _ (by decide +kernel)) ggX7_findFault_X0_read
set_option maxRecDepth 20000 in
theorem ggX7_findFault_X0_isBetweenCommands : GoodIn wsX7_findFault wsX0_isBetweenCommands := goodIn_r _ [62, 8, 68, 69, 70, 71, 72, 73] (by decide +kernel) (by decide +kernel)
set_option maxRecDepth 20000 in
theorem gX7_findFault_X0_isBetweenCommands : GoodIn wsX7_findFault (wsV RX7 202 RX0 yX0_isBetweenCommands wsX0_isBetweenCommands) := goodIn_app (goodIn_of _ (by decide +kernel)) ggX7_findFault_X0_isBetweenCommands
theorem dX7_findFault_0 : decode cX7_findFault 0 = .ok (.aload_n 0, 1) := by decide +kernel
theorem dX7_findFault_1 : decode cX7_findFault 1 = .ok (.getfield 36, 3) := by decide +kernel
theorem dX7_findFault_4 : decode cX7_findFault 4 = .ok (.invokevirtual 193, 3) := by decide +kernel
theorem dX7_findFault_7 : decode cX7_findFault 7 = .ok (.iconst 0, 1) := by decide +kernel
theorem dX7_findFault_8 : decode cX7_findFault 8 = .ok (.istore_n 1, 1) := by decide +kernel
theorem dX7_findFault_9 : decode cX7_findFault 9 = .ok (.iload_n 1, 1) := by decide +kernel
theorem dX7_findFault_10 : decode cX7_findFault 10 = .ok (.aload_n 0, 1) := by decide +kernel
theorem dX7_findFault_11 : decode cX7_findFault 11 = .ok (.getfield 29, 3) := by decide +kernel
theorem dX7_findFault_14 : decode cX7_findFault 14 = .ok (.invokevirtual 153, 3) := by decide +kernel
theorem dX7_findFault_17 : decode cX7_findFault 17 = .ok (.if_icmp .ge 29, 3) := by decide +kernel
theorem dX7_findFault_20 : decode cX7_findFault 20 = .ok (.aload_n 0, 1) := by decide +kernel
theorem dX7_findFault_21 : decode cX7_findFault 21 = .ok (.getfield 36, 3) := by decide +kernel
theorem dX7_findFault_24 : decode cX7_findFault 24 = .ok (.aload_n 0, 1) := by decide +kernel
theorem dX7_findFault_25 : decode cX7_findFault 25 = .ok (.getfield 29, 3) := by decide +kernel
theorem dX7_findFault_28 : decode cX7_findFault 28 = .ok (.iload_n 1, 1) := by decide +kernel
theorem dX7_findFault_29 : decode cX7_findFault 29 = .ok (.invokevirtual 196, 3) := by decide +kernel
theorem dX7_findFault_32 : decode cX7_findFault 32 = .ok (.invokevirtual 199, 3) := by decide +kernel
theorem dX7_findFault_35 : decode cX7_findFault 35 = .ok (.ifCond .ne 5, 3) := by decide +kernel
theorem dX7_findFault_38 : decode cX7_findFault 38 = .ok (.iload_n 1, 1) := by decide +kernel
theorem dX7_findFault_39 : decode cX7_findFault 39 = .ok (.ireturn, 1) := by decide +kernel
theorem dX7_findFault_40 : decode cX7_findFault 40 = .ok (.iinc 1 1, 3) := by decide +kernel
theorem dX7_findFault_43 : decode cX7_findFault 43 = .ok (.goto (-34), 3) := by decide +kernel
theorem dX7_findFault_46 : decode cX7_findFault 46 = .ok (.aload_n 0, 1) := by decide +kernel
theorem dX7_findFault_47 : decode cX7_findFault 47 = .ok (.getfield 36, 3) := by decide +kernel
theorem dX7_findFault_50 : decode cX7_findFault 50 = .ok (.invokevirtual 202, 3) := by decide +kernel
theorem dX7_findFault_53 : decode cX7_findFault 53 = .ok (.ifCond .eq 7, 3) := by decide +kernel
theorem dX7_findFault_56 : decode cX7_findFault 56 = .ok (.iconst (-1), 1) := by decide +kernel
theorem dX7_findFault_57 : decode cX7_findFault 57 = .ok (.goto 10, 3) := by decide +kernel
theorem dX7_findFault_60 : decode cX7_findFault 60 = .ok (.aload_n 0, 1) := by decide +kernel
theorem dX7_findFault_61 : decode cX7_findFault 61 = .ok (.getfield 29, 3) := by decide +kernel
theorem dX7_findFault_64 : decode cX7_findFault 64 = .ok (.invokevirtual 153, 3) := by decide +kernel
theorem dX7_findFault_67 : decode cX7_findFault 67 = .ok (.ireturn, 1) := by decide +kernel
set_option maxRecDepth 20000 in
theorem ggX7_canCarryOut_X0_kind : GoodIn wsX7_canCarryOut wsX0_kind := goodIn_r _ [7, 8, 111, 112, 113, 114, 115, 116] (by decide +kernel) (by decide +kernel)
set_option maxRecDepth 20000 in
theorem gX7_canCarryOut_X0_kind : GoodIn wsX7_canCarryOut (wsV RX7 265 RX0 yX0_kind wsX0_kind) := goodIn_app (goodIn_of _ (by decide +kernel)) ggX7_canCarryOut_X0_kind
set_option maxRecDepth 20000 in
theorem ggX7_canCarryOut_X0_key : GoodIn wsX7_canCarryOut wsX0_key := goodIn_r _ [12, 13, 14, 15, 16, 17, 18, 19, 20, 21, 111, 112, 113, 114, 115, 116] (by decide +kernel) (by decide +kernel)
set_option maxRecDepth 20000 in
theorem gX7_canCarryOut_X0_key : GoodIn wsX7_canCarryOut (wsV RX7 268 RX0 yX0_key wsX0_key) := goodIn_app (goodIn_of _ (by decide +kernel)) ggX7_canCarryOut_X0_key
set_option maxRecDepth 20000 in
theorem ggX7_canCarryOut_X5_canTakeName : GoodIn wsX7_canCarryOut wsX5_canTakeName := goodIn_r _ [26, 27, 28, 29, 25, 30, 31, 32, 33, 34, 35, 36, 37, 38, 39, 40, 41, 42, 43, 44, 45, 46, 47, 48, 49, 50, 51, 52, 53, 54, 55, 117, 118, 119, 120, 121, 122, 123, 124, 125, 126, 127, 128, 129, 130, 131, 132, 133] (by decide +kernel) (by decide +kernel)
set_option maxRecDepth 20000 in
theorem gX7_canCarryOut_X5_canTakeName : GoodIn wsX7_canCarryOut (wsV RX7 54 RX5 yX5_canTakeName wsX5_canTakeName) := goodIn_app (goodIn_of _ (by decide +kernel)) ggX7_canCarryOut_X5_canTakeName
set_option maxRecDepth 20000 in
theorem ggX7_canCarryOut_X5_weightOf : GoodIn wsX7_canCarryOut wsX5_weightOf := goodIn_r _ [30, 31, 32, 33, 34, 35, 36, 37, 38, 39, 40, 41, 42, 43, 44, 45, 46, 47, 48, 49, 50, 117, 118, 119, 120, 121, 122, 123, 124, 125, 126, 127, 128, 129, 130, 131, 132, 133] (by decide +kernel) (by decide +kernel)
set_option maxRecDepth 20000 in
theorem gX7_canCarryOut_X5_weightOf : GoodIn wsX7_canCarryOut (wsV RX7 130 RX5 yX5_weightOf wsX5_weightOf) := goodIn_app (goodIn_of _ (by decide +kernel)) ggX7_canCarryOut_X5_weightOf
set_option maxRecDepth 20000 in
theorem ggX7_canCarryOut_X5_canMove : GoodIn wsX7_canCarryOut wsX5_canMove := goodIn_r _ [60, 31, 33, 34, 35, 36, 37, 38, 39, 40, 41, 42, 43, 44, 45, 46, 47, 48, 49, 61, 62, 63, 25, 64, 65, 66, 67, 68, 69, 70, 71, 50, 72, 73, 74, 75, 76, 77, 78, 79, 80, 81, 82, 83, 17, 84, 117, 118, 119, 120, 121, 122, 123, 124, 125, 126, 127, 128, 129, 130, 131, 132, 133] (by decide +kernel) (by decide +kernel)
set_option maxRecDepth 20000 in
theorem gX7_canCarryOut_X5_canMove : GoodIn wsX7_canCarryOut (wsV RX7 95 RX5 yX5_canMove wsX5_canMove) := goodIn_app (goodIn_of _ (by decide +kernel)) ggX7_canCarryOut_X5_canMove
set_option maxRecDepth 20000 in
theorem ggX7_canCarryOut_X5_liesWithinLabel : GoodIn wsX7_canCarryOut wsX5_liesWithinLabel := goodIn_r _ [88, 31, 33, 34, 35, 36, 37, 38, 39, 40, 41, 42, 43, 44, 45, 46, 47, 48, 49, 89, 90, 91, 92, 93, 94, 17, 95, 96, 83, 84, 19, 20, 21, 117, 118, 119, 120, 121, 122, 123, 124, 125, 126, 127, 128, 129, 130, 131, 132, 133] (by decide +kernel) (by decide +kernel)
set_option maxRecDepth 20000 in
theorem gX7_canCarryOut_X5_liesWithinLabel : GoodIn wsX7_canCarryOut (wsV RX7 103 RX5 yX5_liesWithinLabel wsX5_liesWithinLabel) := goodIn_app (goodIn_of _ (by decide +kernel)) ggX7_canCarryOut_X5_liesWithinLabel
set_option maxRecDepth 20000 in
theorem ggX7_canCarryOut_X0_number : GoodIn wsX7_canCarryOut wsX0_number := goodIn_r _ [100, 101, 111, 112, 113, 114, 115, 116] (by decide +kernel) (by decide +kernel)
set_option maxRecDepth 20000 in
theorem gX7_canCarryOut_X0_number : GoodIn wsX7_canCarryOut (wsV RX7 271 RX0 yX0_number wsX0_number) := goodIn_app (goodIn_of _ (by decide +kernel)) ggX7_canCarryOut_X0_number
set_option maxRecDepth 20000 in
theorem ggX7_canCarryOut_X7_isLimit : GoodIn wsX7_canCarryOut wsX7_isLimit := goodIn_r _ [105] (by decide +kernel) (by decide +kernel)
set_option maxRecDepth 20000 in
theorem gX7_canCarryOut_X7_isLimit : GoodIn wsX7_canCarryOut (va_wsS RX7 249 yX7_isLimit wsX7_isLimit) := goodIn_app (goodIn_of _ (by decide +kernel)) ggX7_canCarryOut_X7_isLimit
theorem dX7_canCarryOut_0 : decode cX7_canCarryOut 0 = .ok (.aload_n 0, 1) := by decide +kernel
theorem dX7_canCarryOut_1 : decode cX7_canCarryOut 1 = .ok (.getfield 36, 3) := by decide +kernel
theorem dX7_canCarryOut_4 : decode cX7_canCarryOut 4 = .ok (.invokevirtual 265, 3) := by decide +kernel
theorem dX7_canCarryOut_7 : decode cX7_canCarryOut 7 = .ok (.lookupswitch 129 #[(43, 49), (45, 64), (60, 88), (61, 118), (62, 103)], 49) := by decide +kernel
theorem dX7_canCarryOut_56 : decode cX7_canCarryOut 56 = .ok (.aload_n 0, 1) := by decide +kernel
theorem dX7_canCarryOut_57 : decode cX7_canCarryOut 57 = .ok (.getfield 12, 3) := by decide +kernel
theorem dX7_canCarryOut_60 : decode cX7_canCarryOut 60 = .ok (.aload_n 0, 1) := by decide +kernel
theorem dX7_canCarryOut_61 : decode cX7_canCarryOut 61 = .ok (.getfield 36, 3) := by decide +kernel
theorem dX7_canCarryOut_64 : decode cX7_canCarryOut 64 = .ok (.invokevirtual 268, 3) := by decide +kernel
theorem dX7_canCarryOut_67 : decode cX7_canCarryOut 67 = .ok (.invokevirtual 54, 3) := by decide +kernel
theorem dX7_canCarryOut_70 : decode cX7_canCarryOut 70 = .ok (.ireturn, 1) := by decide +kernel
theorem dX7_canCarryOut_71 : decode cX7_canCarryOut 71 = .ok (.aload_n 0, 1) := by decide +kernel
theorem dX7_canCarryOut_72 : decode cX7_canCarryOut 72 = .ok (.getfield 12, 3) := by decide +kernel
theorem dX7_canCarryOut_75 : decode cX7_canCarryOut 75 = .ok (.aload_n 0, 1) := by decide +kernel
theorem dX7_canCarryOut_76 : decode cX7_canCarryOut 76 = .ok (.getfield 36, 3) := by decide +kernel
theorem dX7_canCarryOut_79 : decode cX7_canCarryOut 79 = .ok (.invokevirtual 268, 3) := by decide +kernel
theorem dX7_canCarryOut_82 : decode cX7_canCarryOut 82 = .ok (.invokevirtual 130, 3) := by decide +kernel
theorem dX7_canCarryOut_85 : decode cX7_canCarryOut 85 = .ok (.iconst (-1), 1) := by decide +kernel
theorem dX7_canCarryOut_86 : decode cX7_canCarryOut 86 = .ok (.if_icmp .eq 7, 3) := by decide +kernel
theorem dX7_canCarryOut_89 : decode cX7_canCarryOut 89 = .ok (.iconst 1, 1) := by decide +kernel
theorem dX7_canCarryOut_90 : decode cX7_canCarryOut 90 = .ok (.goto 4, 3) := by decide +kernel
theorem dX7_canCarryOut_93 : decode cX7_canCarryOut 93 = .ok (.iconst 0, 1) := by decide +kernel
theorem dX7_canCarryOut_94 : decode cX7_canCarryOut 94 = .ok (.ireturn, 1) := by decide +kernel
theorem dX7_canCarryOut_95 : decode cX7_canCarryOut 95 = .ok (.aload_n 0, 1) := by decide +kernel
theorem dX7_canCarryOut_96 : decode cX7_canCarryOut 96 = .ok (.getfield 12, 3) := by decide +kernel
theorem dX7_canCarryOut_99 : decode cX7_canCarryOut 99 = .ok (.aload_n 0, 1) := by decide +kernel
theorem dX7_canCarryOut_100 : decode cX7_canCarryOut 100 = .ok (.getfield 36, 3) := by decide +kernel
theorem dX7_canCarryOut_103 : decode cX7_canCarryOut 103 = .ok (.invokevirtual 268, 3) := by decide +kernel
theorem dX7_canCarryOut_106 : decode cX7_canCarryOut 106 = .ok (.invokevirtual 95, 3) := by decide +kernel
theorem dX7_canCarryOut_109 : decode cX7_canCarryOut 109 = .ok (.ireturn, 1) := by decide +kernel
theorem dX7_canCarryOut_110 : decode cX7_canCarryOut 110 = .ok (.aload_n 0, 1) := by decide +kernel
theorem dX7_canCarryOut_111 : decode cX7_canCarryOut 111 = .ok (.getfield 12, 3) := by decide +kernel
theorem dX7_canCarryOut_114 : decode cX7_canCarryOut 114 = .ok (.aload_n 0, 1) := by decide +kernel
theorem dX7_canCarryOut_115 : decode cX7_canCarryOut 115 = .ok (.getfield 36, 3) := by decide +kernel
theorem dX7_canCarryOut_118 : decode cX7_canCarryOut 118 = .ok (.invokevirtual 268, 3) := by decide +kernel
theorem dX7_canCarryOut_121 : decode cX7_canCarryOut 121 = .ok (.invokevirtual 103, 3) := by decide +kernel
theorem dX7_canCarryOut_124 : decode cX7_canCarryOut 124 = .ok (.ireturn, 1) := by decide +kernel
theorem dX7_canCarryOut_125 : decode cX7_canCarryOut 125 = .ok (.aload_n 0, 1) := by decide +kernel
theorem dX7_canCarryOut_126 : decode cX7_canCarryOut 126 = .ok (.getfield 36, 3) := by decide +kernel
theorem dX7_canCarryOut_129 : decode cX7_canCarryOut 129 = .ok (.invokevirtual 271, 3) := by decide +kernel
theorem dX7_canCarryOut_132 : decode cX7_canCarryOut 132 = .ok (.invokestatic 249, 3) := by decide +kernel
theorem dX7_canCarryOut_135 : decode cX7_canCarryOut 135 = .ok (.ireturn, 1) := by decide +kernel
theorem dX7_canCarryOut_136 : decode cX7_canCarryOut 136 = .ok (.iconst 1, 1) := by decide +kernel
theorem dX7_canCarryOut_137 : decode cX7_canCarryOut 137 = .ok (.ireturn, 1) := by decide +kernel
set_option maxRecDepth 20000 in
theorem ggX7_carryOut_X0_kind : GoodIn wsX7_carryOut wsX0_kind := goodIn_r _ [7, 8, 194, 195, 196, 197, 198, 199] (by decide +kernel) (by decide +kernel)
set_option maxRecDepth 20000 in
theorem gX7_carryOut_X0_kind : GoodIn wsX7_carryOut (wsV RX7 265 RX0 yX0_kind wsX0_kind) := goodIn_app (goodIn_of _ (by decide +kernel)) ggX7_carryOut_X0_kind
set_option maxRecDepth 20000 in
theorem ggX7_carryOut_X0_key : GoodIn wsX7_carryOut wsX0_key := goodIn_r _ [12, 13, 14, 15, 16, 17, 18, 19, 20, 21, 194, 195, 196, 197, 198, 199] (by decide +kernel) (by decide +kernel)
set_option maxRecDepth 20000 in
theorem gX7_carryOut_X0_key : GoodIn wsX7_carryOut (wsV RX7 268 RX0 yX0_key wsX0_key) := goodIn_app (goodIn_of _ (by decide +kernel)) ggX7_carryOut_X0_key
set_option maxRecDepth 20000 in
theorem ggX7_carryOut_X0_number : GoodIn wsX7_carryOut wsX0_number := goodIn_r _ [25, 26, 194, 195, 196, 197, 198, 199] (by decide +kernel) (by decide +kernel)
set_option maxRecDepth 20000 in
theorem gX7_carryOut_X0_number : GoodIn wsX7_carryOut (wsV RX7 271 RX0 yX0_number wsX0_number) := goodIn_app (goodIn_of _ (by decide +kernel)) ggX7_carryOut_X0_number
set_option maxRecDepth 20000 in
theorem ggX7_carryOut_X5_takeName : GoodIn wsX7_carryOut wsX5_takeName := goodIn_r _ [31, 32, 33, 34, 35, 36, 37, 17, 38, 39, 40, 41, 30, 42, 43, 44, 45, 19, 20, 21, 46, 47, 48, 49, 50, 51, 52, 53, 54, 55, 56, 57, 58, 59, 60, 61, 62, 63, 64, 65, 66, 67, 68, 69, 70, 71, 72, 73, 74, 75, 76, 77, 78, 79, 80, 81, 82, 83, 84, 85, 86, 87, 88, 89, 90, 91, 92, 93, 94, 95, 96, 97, 98, 99, 100, 101, 102, 103, 104, 105, 106, 107, 108, 109, 110, 111, 112, 113, 114, 115, 116, 117, 118, 119, 120, 121, 122, 123, 124, 125, 126, 127, 128, 129, 130, 131, 132, 200, 201, 202, 203, 204, 205, 206, 207, 208, 209, 210, 211, 212, 213, 214, 215, 216] (by decide +kernel) (by decide +kernel)
set_option maxRecDepth 20000 in
theorem gX7_carryOut_X5_takeName : GoodIn wsX7_carryOut (wsV RX7 73 RX5 yX5_takeName wsX5_takeName) := goodIn_app (goodIn_of _ (by decide +kernel)) ggX7_carryOut_X5_takeName
set_option maxRecDepth 20000 in
theorem ggX7_carryOut_X5_dropName : GoodIn wsX7_carryOut wsX5_dropName := goodIn_r _ [136, 32, 137, 35, 96, 115, 67, 68, 69, 49, 70, 51, 52, 53, 54, 55, 56, 57, 58, 59, 60, 61, 62, 90, 82, 83, 84, 138, 139, 140, 30, 141, 117, 118, 119, 120, 75, 109, 142, 143, 144, 145, 146, 147, 148, 149, 80, 81, 121, 122, 123, 124, 91, 92, 93, 94, 95, 97, 98, 99, 100, 101, 102, 103, 104, 105, 106, 107, 108, 110, 64, 17, 65, 66, 37, 38, 19, 20, 21, 111, 112, 113, 114, 116, 200, 201, 202, 203, 204, 205, 206, 207, 208, 209, 210, 211, 212, 213, 214, 215, 216] (by decide +kernel) (by decide +kernel)
set_option maxRecDepth 20000 in
theorem gX7_carryOut_X5_dropName : GoodIn wsX7_carryOut (wsV RX7 79 RX5 yX5_dropName wsX5_dropName) := goodIn_app (goodIn_of _ (by decide +kernel)) ggX7_carryOut_X5_dropName
set_option maxRecDepth 20000 in
theorem ggX7_carryOut_X5_move : GoodIn wsX7_carryOut wsX5_move := goodIn_r _ [153, 32, 154, 67, 68, 69, 49, 70, 51, 52, 53, 54, 55, 56, 57, 58, 59, 60, 61, 62, 155, 156, 157, 30, 158, 159, 160, 161, 162, 108, 96, 109, 36, 37, 17, 38, 142, 143, 144, 145, 75, 146, 147, 148, 149, 80, 81, 82, 83, 84, 91, 92, 93, 94, 95, 97, 98, 99, 100, 101, 102, 103, 104, 105, 106, 107, 110, 64, 65, 66, 19, 20, 21, 90, 111, 112, 113, 114, 115, 116, 35, 117, 118, 119, 120, 121, 122, 123, 124, 200, 201, 202, 203, 204, 205, 206, 207, 208, 209, 210, 211, 212, 213, 214, 215, 216] (by decide +kernel) (by decide +kernel)
set_option maxRecDepth 20000 in
theorem gX7_carryOut_X5_move : GoodIn wsX7_carryOut (wsV RX7 100 RX5 yX5_move wsX5_move) := goodIn_app (goodIn_of _ (by decide +kernel)) ggX7_carryOut_X5_move
set_option maxRecDepth 20000 in
theorem ggX7_carryOut_X5_part : GoodIn wsX7_carryOut wsX5_part := goodIn_r _ [166, 32, 33, 71, 72, 73, 49, 74, 52, 51, 75, 53, 54, 55, 56, 57, 58, 59, 60, 61, 62, 76, 77, 78, 79, 80, 81, 82, 83, 84, 85, 86, 87, 88, 89, 91, 92, 93, 30, 94, 95, 96, 97, 98, 99, 100, 101, 102, 103, 104, 105, 106, 107, 108, 109, 110, 64, 17, 65, 66, 37, 38, 19, 20, 21, 90, 111, 112, 113, 114, 115, 116, 35, 117, 118, 119, 120, 121, 122, 123, 124, 67, 68, 69, 70, 167, 168, 169, 170, 159, 160, 161, 162, 36, 200, 201, 202, 203, 204, 205, 206, 207, 208, 209, 210, 211, 212, 213, 214, 215, 216] (by decide +kernel) (by decide +kernel)
set_option maxRecDepth 20000 in
theorem gX7_carryOut_X5_part : GoodIn wsX7_carryOut (wsV RX7 108 RX5 yX5_part wsX5_part) := goodIn_app (goodIn_of _ (by decide +kernel)) ggX7_carryOut_X5_part
set_option maxRecDepth 20000 in
theorem ggX7_carryOut_X5_changeLimit : GoodIn wsX7_carryOut wsX5_changeLimit := goodIn_r _ [174, 32, 175, 200, 201, 202, 203, 204, 205, 206, 207, 208, 209, 210, 211, 212, 213, 214, 215] (by decide +kernel) (by decide +kernel)
set_option maxRecDepth 20000 in
theorem gX7_carryOut_X5_changeLimit : GoodIn wsX7_carryOut (wsV RX7 89 RX5 yX5_changeLimit wsX5_changeLimit) := goodIn_app (goodIn_of _ (by decide +kernel)) ggX7_carryOut_X5_changeLimit
set_option maxRecDepth 20000 in
theorem ggX7_carryOut_X5_moveAll : GoodIn wsX7_carryOut wsX5_moveAll := goodIn_r _ [179, 32, 95, 180, 96, 154, 181, 182, 183, 30, 184, 115, 175, 117, 118, 119, 49, 120, 75, 57, 58, 59, 60, 61, 62, 109, 155, 156, 157, 158, 159, 160, 161, 162, 108, 36, 37, 17, 38, 90, 82, 83, 84, 185, 186, 187, 188, 51, 52, 85, 86, 87, 88, 89, 91, 92, 93, 94, 97, 98, 99, 100, 101, 102, 103, 104, 105, 106, 107, 110, 64, 65, 66, 19, 20, 21, 111, 112, 113, 114, 116, 35, 121, 122, 123, 124, 80, 81, 200, 201, 202, 203, 204, 205, 206, 207, 208, 209, 210, 211, 212, 213, 214, 215, 216] (by decide +kernel) (by decide +kernel)
set_option maxRecDepth 20000 in
theorem gX7_carryOut_X5_moveAll : GoodIn wsX7_carryOut (wsV RX7 111 RX5 yX5_moveAll wsX5_moveAll) := goodIn_app (goodIn_of _ (by decide +kernel)) ggX7_carryOut_X5_moveAll
theorem dX7_carryOut_0 : decode cX7_carryOut 0 = .ok (.aload_n 0, 1) := by decide +kernel
theorem dX7_carryOut_1 : decode cX7_carryOut 1 = .ok (.getfield 36, 3) := by decide +kernel
theorem dX7_carryOut_4 : decode cX7_carryOut 4 = .ok (.invokevirtual 265, 3) := by decide +kernel
theorem dX7_carryOut_7 : decode cX7_carryOut 7 = .ok (.lookupswitch 146 #[(43, 49), (45, 74), (60, 92), (61, 128), (62, 110)], 49) := by decide +kernel
theorem dX7_carryOut_56 : decode cX7_carryOut 56 = .ok (.aload_n 0, 1) := by decide +kernel
theorem dX7_carryOut_57 : decode cX7_carryOut 57 = .ok (.getfield 12, 3) := by decide +kernel
theorem dX7_carryOut_60 : decode cX7_carryOut 60 = .ok (.aload_n 0, 1) := by decide +kernel
theorem dX7_carryOut_61 : decode cX7_carryOut 61 = .ok (.getfield 36, 3) := by decide +kernel
theorem dX7_carryOut_64 : decode cX7_carryOut 64 = .ok (.invokevirtual 268, 3) := by decide +kernel
theorem dX7_carryOut_67 : decode cX7_carryOut 67 = .ok (.aload_n 0, 1) := by decide +kernel
theorem dX7_carryOut_68 : decode cX7_carryOut 68 = .ok (.getfield 36, 3) := by decide +kernel
theorem dX7_carryOut_71 : decode cX7_carryOut 71 = .ok (.invokevirtual 271, 3) := by decide +kernel
theorem dX7_carryOut_74 : decode cX7_carryOut 74 = .ok (.invokevirtual 73, 3) := by decide +kernel
theorem dX7_carryOut_77 : decode cX7_carryOut 77 = .ok (.pop, 1) := by decide +kernel
theorem dX7_carryOut_78 : decode cX7_carryOut 78 = .ok (.goto 83, 3) := by decide +kernel
theorem dX7_carryOut_81 : decode cX7_carryOut 81 = .ok (.aload_n 0, 1) := by decide +kernel
theorem dX7_carryOut_82 : decode cX7_carryOut 82 = .ok (.getfield 12, 3) := by decide +kernel
theorem dX7_carryOut_85 : decode cX7_carryOut 85 = .ok (.aload_n 0, 1) := by decide +kernel
theorem dX7_carryOut_86 : decode cX7_carryOut 86 = .ok (.getfield 36, 3) := by decide +kernel
theorem dX7_carryOut_89 : decode cX7_carryOut 89 = .ok (.invokevirtual 268, 3) := by decide +kernel
theorem dX7_carryOut_92 : decode cX7_carryOut 92 = .ok (.invokevirtual 79, 3) := by decide +kernel
theorem dX7_carryOut_95 : decode cX7_carryOut 95 = .ok (.pop, 1) := by decide +kernel
theorem dX7_carryOut_96 : decode cX7_carryOut 96 = .ok (.goto 65, 3) := by decide +kernel
theorem dX7_carryOut_99 : decode cX7_carryOut 99 = .ok (.aload_n 0, 1) := by decide +kernel
theorem dX7_carryOut_100 : decode cX7_carryOut 100 = .ok (.getfield 12, 3) := by decide +kernel
theorem dX7_carryOut_103 : decode cX7_carryOut 103 = .ok (.aload_n 0, 1) := by decide +kernel
theorem dX7_carryOut_104 : decode cX7_carryOut 104 = .ok (.getfield 36, 3) := by decide +kernel
theorem dX7_carryOut_107 : decode cX7_carryOut 107 = .ok (.invokevirtual 268, 3) := by decide +kernel
theorem dX7_carryOut_110 : decode cX7_carryOut 110 = .ok (.invokevirtual 100, 3) := by decide +kernel
theorem dX7_carryOut_113 : decode cX7_carryOut 113 = .ok (.pop, 1) := by decide +kernel
theorem dX7_carryOut_114 : decode cX7_carryOut 114 = .ok (.goto 47, 3) := by decide +kernel
theorem dX7_carryOut_117 : decode cX7_carryOut 117 = .ok (.aload_n 0, 1) := by decide +kernel
theorem dX7_carryOut_118 : decode cX7_carryOut 118 = .ok (.getfield 12, 3) := by decide +kernel
theorem dX7_carryOut_121 : decode cX7_carryOut 121 = .ok (.aload_n 0, 1) := by decide +kernel
theorem dX7_carryOut_122 : decode cX7_carryOut 122 = .ok (.getfield 36, 3) := by decide +kernel
theorem dX7_carryOut_125 : decode cX7_carryOut 125 = .ok (.invokevirtual 268, 3) := by decide +kernel
theorem dX7_carryOut_128 : decode cX7_carryOut 128 = .ok (.invokevirtual 108, 3) := by decide +kernel
theorem dX7_carryOut_131 : decode cX7_carryOut 131 = .ok (.pop, 1) := by decide +kernel
theorem dX7_carryOut_132 : decode cX7_carryOut 132 = .ok (.goto 29, 3) := by decide +kernel
theorem dX7_carryOut_135 : decode cX7_carryOut 135 = .ok (.aload_n 0, 1) := by decide +kernel
theorem dX7_carryOut_136 : decode cX7_carryOut 136 = .ok (.getfield 12, 3) := by decide +kernel
theorem dX7_carryOut_139 : decode cX7_carryOut 139 = .ok (.aload_n 0, 1) := by decide +kernel
theorem dX7_carryOut_140 : decode cX7_carryOut 140 = .ok (.getfield 36, 3) := by decide +kernel
theorem dX7_carryOut_143 : decode cX7_carryOut 143 = .ok (.invokevirtual 271, 3) := by decide +kernel
theorem dX7_carryOut_146 : decode cX7_carryOut 146 = .ok (.invokevirtual 89, 3) := by decide +kernel
theorem dX7_carryOut_149 : decode cX7_carryOut 149 = .ok (.pop, 1) := by decide +kernel
theorem dX7_carryOut_150 : decode cX7_carryOut 150 = .ok (.goto 11, 3) := by decide +kernel
theorem dX7_carryOut_153 : decode cX7_carryOut 153 = .ok (.aload_n 0, 1) := by decide +kernel
theorem dX7_carryOut_154 : decode cX7_carryOut 154 = .ok (.getfield 12, 3) := by decide +kernel
theorem dX7_carryOut_157 : decode cX7_carryOut 157 = .ok (.invokevirtual 111, 3) := by decide +kernel
theorem dX7_carryOut_160 : decode cX7_carryOut 160 = .ok (.pop, 1) := by decide +kernel
theorem dX7_carryOut_161 : decode cX7_carryOut 161 = .ok (.return_, 1) := by decide +kernel
theorem dX8_init_0 : decode cX8_init 0 = .ok (.aload_n 0, 1) := by decide +kernel
theorem dX8_init_1 : decode cX8_init 1 = .ok (.invokespecial 1, 3) := by decide +kernel
theorem dX8_init_4 : decode cX8_init 4 = .ok (.aload_n 0, 1) := by decide +kernel
theorem dX8_init_5 : decode cX8_init 5 = .ok (.sipush 255, 3) := by decide +kernel
theorem dX8_init_8 : decode cX8_init 8 = .ok (.newarray .int, 2) := by decide +kernel
theorem dX8_init_10 : decode cX8_init 10 = .ok (.putfield 7, 3) := by decide +kernel
theorem dX8_init_13 : decode cX8_init 13 = .ok (.aload_n 0, 1) := by decide +kernel
theorem dX8_init_14 : decode cX8_init 14 = .ok (.sipush 255, 3) := by decide +kernel
theorem dX8_init_17 : decode cX8_init 17 = .ok (.newarray .int, 2) := by decide +kernel
theorem dX8_init_19 : decode cX8_init 19 = .ok (.putfield 13, 3) := by decide +kernel
theorem dX8_init_22 : decode cX8_init 22 = .ok (.aload_n 0, 1) := by decide +kernel
theorem dX8_init_23 : decode cX8_init 23 = .ok (.sipush 1020, 3) := by decide +kernel
theorem dX8_init_26 : decode cX8_init 26 = .ok (.newarray .int, 2) := by decide +kernel
theorem dX8_init_28 : decode cX8_init 28 = .ok (.putfield 16, 3) := by decide +kernel
theorem dX8_init_31 : decode cX8_init 31 = .ok (.aload_n 0, 1) := by decide +kernel
theorem dX8_init_32 : decode cX8_init 32 = .ok (.bipush 120, 2) := by decide +kernel
theorem dX8_init_34 : decode cX8_init 34 = .ok (.newarray .int, 2) := by decide +kernel
theorem dX8_init_36 : decode cX8_init 36 = .ok (.putfield 19, 3) := by decide +kernel
theorem dX8_init_39 : decode cX8_init 39 = .ok (.aload_n 0, 1) := by decide +kernel
theorem dX8_init_40 : decode cX8_init 40 = .ok (.getfield 7, 3) := by decide +kernel
theorem dX8_init_43 : decode cX8_init 43 = .ok (.iconst 0, 1) := by decide +kernel
theorem dX8_init_44 : decode cX8_init 44 = .ok (.iconst 3, 1) := by decide +kernel
theorem dX8_init_45 : decode cX8_init 45 = .ok (.iastore, 1) := by decide +kernel
theorem dX8_init_46 : decode cX8_init 46 = .ok (.aload_n 0, 1) := by decide +kernel
theorem dX8_init_47 : decode cX8_init 47 = .ok (.getfield 7, 3) := by decide +kernel
theorem dX8_init_50 : decode cX8_init 50 = .ok (.iconst 2, 1) := by decide +kernel
theorem dX8_init_51 : decode cX8_init 51 = .ok (.iconst 1, 1) := by decide +kernel
theorem dX8_init_52 : decode cX8_init 52 = .ok (.iastore, 1) := by decide +kernel
theorem dX8_init_53 : decode cX8_init 53 = .ok (.return_, 1) := by decide +kernel
theorem dX8_thrown_0 : decode cX8_thrown 0 = .ok (.aload_n 0, 1) := by decide +kernel
theorem dX8_thrown_1 : decode cX8_thrown 1 = .ok (.getfield 22, 3) := by decide +kernel
theorem dX8_thrown_4 : decode cX8_thrown 4 = .ok (.ireturn, 1) := by decide +kernel
theorem dX8_copy_0 : decode cX8_copy 0 = .ok (.iconst 0, 1) := by decide +kernel
theorem dX8_copy_1 : decode cX8_copy 1 = .ok (.istore 4, 2) := by decide +kernel
theorem dX8_copy_3 : decode cX8_copy 3 = .ok (.iload 4, 2) := by decide +kernel
theorem dX8_copy_5 : decode cX8_copy 5 = .ok (.sipush 255, 3) := by decide +kernel
theorem dX8_copy_8 : decode cX8_copy 8 = .ok (.if_icmp .ge 21, 3) := by decide +kernel
theorem dX8_copy_11 : decode cX8_copy 11 = .ok (.aload_n 2, 1) := by decide +kernel
theorem dX8_copy_12 : decode cX8_copy 12 = .ok (.iload_n 3, 1) := by decide +kernel
theorem dX8_copy_13 : decode cX8_copy 13 = .ok (.iload 4, 2) := by decide +kernel
theorem dX8_copy_15 : decode cX8_copy 15 = .ok (.iadd, 1) := by decide +kernel
theorem dX8_copy_16 : decode cX8_copy 16 = .ok (.aload_n 0, 1) := by decide +kernel
theorem dX8_copy_17 : decode cX8_copy 17 = .ok (.iload_n 1, 1) := by decide +kernel
theorem dX8_copy_18 : decode cX8_copy 18 = .ok (.iload 4, 2) := by decide +kernel
theorem dX8_copy_20 : decode cX8_copy 20 = .ok (.iadd, 1) := by decide +kernel
theorem dX8_copy_21 : decode cX8_copy 21 = .ok (.iaload, 1) := by decide +kernel
theorem dX8_copy_22 : decode cX8_copy 22 = .ok (.iastore, 1) := by decide +kernel
theorem dX8_copy_23 : decode cX8_copy 23 = .ok (.iinc 4 1, 3) := by decide +kernel
theorem dX8_copy_26 : decode cX8_copy 26 = .ok (.goto (-23), 3) := by decide +kernel
theorem dX8_copy_29 : decode cX8_copy 29 = .ok (.return_, 1) := by decide +kernel
theorem dX8_within_0 : decode cX8_within 0 = .ok (.iload_n 0, 1) := by decide +kernel
theorem dX8_within_1 : decode cX8_within 1 = .ok (.iload_n 1, 1) := by decide +kernel
theorem dX8_within_2 : decode cX8_within 2 = .ok (.if_icmp .lt 12, 3) := by decide +kernel
theorem dX8_within_5 : decode cX8_within 5 = .ok (.iload_n 0, 1) := by decide +kernel
theorem dX8_within_6 : decode cX8_within 6 = .ok (.iload_n 2, 1) := by decide +kernel
theorem dX8_within_7 : decode cX8_within 7 = .ok (.if_icmp .gt 7, 3) := by decide +kernel
theorem dX8_within_10 : decode cX8_within 10 = .ok (.iconst 1, 1) := by decide +kernel
theorem dX8_within_11 : decode cX8_within 11 = .ok (.goto 4, 3) := by decide +kernel
theorem dX8_within_14 : decode cX8_within 14 = .ok (.iconst 0, 1) := by decide +kernel
theorem dX8_within_15 : decode cX8_within 15 = .ok (.ireturn, 1) := by decide +kernel
set_option maxRecDepth 20000 in
theorem ggX8_save_X8_copy : GoodIn wsX8_save wsX8_copy := goodIn_r _ [7] (by decide +kernel) (by decide +kernel)
set_option maxRecDepth 20000 in
theorem gX8_save_X8_copy : GoodIn wsX8_save (va_wsS RX8 29 yX8_copy wsX8_copy) := goodIn_app (goodIn_of _ (by decide +kernel)) ggX8_save_X8_copy
theorem dX8_save_0 : decode cX8_save 0 = .ok (.aload_n 0, 1) := by decide +kernel
theorem dX8_save_1 : decode cX8_save 1 = .ok (.getfield 26, 3) := by decide +kernel
theorem dX8_save_4 : decode cX8_save 4 = .ok (.iconst 4, 1) := by decide +kernel
theorem dX8_save_5 : decode cX8_save 5 = .ok (.if_icmp .ne 44, 3) := by decide +kernel
theorem dX8_save_8 : decode cX8_save 8 = .ok (.iconst 0, 1) := by decide +kernel
theorem dX8_save_9 : decode cX8_save 9 = .ok (.istore_n 1, 1) := by decide +kernel
theorem dX8_save_10 : decode cX8_save 10 = .ok (.iload_n 1, 1) := by decide +kernel
theorem dX8_save_11 : decode cX8_save 11 = .ok (.sipush 765, 3) := by decide +kernel
theorem dX8_save_14 : decode cX8_save 14 = .ok (.if_icmp .ge 25, 3) := by decide +kernel
theorem dX8_save_17 : decode cX8_save 17 = .ok (.aload_n 0, 1) := by decide +kernel
theorem dX8_save_18 : decode cX8_save 18 = .ok (.getfield 16, 3) := by decide +kernel
theorem dX8_save_21 : decode cX8_save 21 = .ok (.iload_n 1, 1) := by decide +kernel
theorem dX8_save_22 : decode cX8_save 22 = .ok (.aload_n 0, 1) := by decide +kernel
theorem dX8_save_23 : decode cX8_save 23 = .ok (.getfield 16, 3) := by decide +kernel
theorem dX8_save_26 : decode cX8_save 26 = .ok (.iload_n 1, 1) := by decide +kernel
theorem dX8_save_27 : decode cX8_save 27 = .ok (.sipush 255, 3) := by decide +kernel
theorem dX8_save_30 : decode cX8_save 30 = .ok (.iadd, 1) := by decide +kernel
theorem dX8_save_31 : decode cX8_save 31 = .ok (.iaload, 1) := by decide +kernel
theorem dX8_save_32 : decode cX8_save 32 = .ok (.iastore, 1) := by decide +kernel
theorem dX8_save_33 : decode cX8_save 33 = .ok (.iinc 1 1, 3) := by decide +kernel
theorem dX8_save_36 : decode cX8_save 36 = .ok (.goto (-26), 3) := by decide +kernel
theorem dX8_save_39 : decode cX8_save 39 = .ok (.aload_n 0, 1) := by decide +kernel
theorem dX8_save_40 : decode cX8_save 40 = .ok (.dup, 1) := by decide +kernel
theorem dX8_save_41 : decode cX8_save 41 = .ok (.getfield 26, 3) := by decide +kernel
theorem dX8_save_44 : decode cX8_save 44 = .ok (.iconst 1, 1) := by decide +kernel
theorem dX8_save_45 : decode cX8_save 45 = .ok (.isub, 1) := by decide +kernel
theorem dX8_save_46 : decode cX8_save 46 = .ok (.putfield 26, 3) := by decide +kernel
theorem dX8_save_49 : decode cX8_save 49 = .ok (.aload_n 0, 1) := by decide +kernel
theorem dX8_save_50 : decode cX8_save 50 = .ok (.getfield 7, 3) := by decide +kernel
theorem dX8_save_53 : decode cX8_save 53 = .ok (.iconst 0, 1) := by decide +kernel
theorem dX8_save_54 : decode cX8_save 54 = .ok (.aload_n 0, 1) := by decide +kernel
theorem dX8_save_55 : decode cX8_save 55 = .ok (.getfield 16, 3) := by decide +kernel
theorem dX8_save_58 : decode cX8_save 58 = .ok (.aload_n 0, 1) := by decide +kernel
theorem dX8_save_59 : decode cX8_save 59 = .ok (.getfield 26, 3) := by decide +kernel
theorem dX8_save_62 : decode cX8_save 62 = .ok (.sipush 255, 3) := by decide +kernel
theorem dX8_save_65 : decode cX8_save 65 = .ok (.imul, 1) := by decide +kernel
theorem dX8_save_66 : decode cX8_save 66 = .ok (.invokestatic 29, 3) := by decide +kernel
theorem dX8_save_69 : decode cX8_save 69 = .ok (.aload_n 0, 1) := by decide +kernel
theorem dX8_save_70 : decode cX8_save 70 = .ok (.dup, 1) := by decide +kernel
theorem dX8_save_71 : decode cX8_save 71 = .ok (.getfield 26, 3) := by decide +kernel
theorem dX8_save_74 : decode cX8_save 74 = .ok (.iconst 1, 1) := by decide +kernel
theorem dX8_save_75 : decode cX8_save 75 = .ok (.iadd, 1) := by decide +kernel
theorem dX8_save_76 : decode cX8_save 76 = .ok (.putfield 26, 3) := by decide +kernel
theorem dX8_save_79 : decode cX8_save 79 = .ok (.return_, 1) := by decide +kernel
set_option maxRecDepth 20000 in
theorem ggX8_isPrefix_X8_within : GoodIn wsX8_isPrefix wsX8_within := goodIn_r _ [4] (by decide +kernel) (by decide +kernel)
set_option maxRecDepth 20000 in
theorem gX8_isPrefix_X8_within : GoodIn wsX8_isPrefix (va_wsS RX8 33 yX8_within wsX8_within) := goodIn_app (goodIn_of _ (by decide +kernel)) ggX8_isPrefix_X8_within
theorem dX8_isPrefix_0 : decode cX8_isPrefix 0 = .ok (.iload_n 1, 1) := by decide +kernel
theorem dX8_isPrefix_1 : decode cX8_isPrefix 1 = .ok (.iload_n 2, 1) := by decide +kernel
theorem dX8_isPrefix_2 : decode cX8_isPrefix 2 = .ok (.bipush 8, 2) := by decide +kernel
theorem dX8_isPrefix_4 : decode cX8_isPrefix 4 = .ok (.invokestatic 33, 3) := by decide +kernel
theorem dX8_isPrefix_7 : decode cX8_isPrefix 7 = .ok (.ifCond .eq 22, 3) := by decide +kernel
theorem dX8_isPrefix_10 : decode cX8_isPrefix 10 = .ok (.iload_n 0, 1) := by decide +kernel
theorem dX8_isPrefix_11 : decode cX8_isPrefix 11 = .ok (.iconst 0, 1) := by decide +kernel
theorem dX8_isPrefix_12 : decode cX8_isPrefix 12 = .ok (.iconst 1, 1) := by decide +kernel
theorem dX8_isPrefix_13 : decode cX8_isPrefix 13 = .ok (.iconst 3, 1) := by decide +kernel
theorem dX8_isPrefix_14 : decode cX8_isPrefix 14 = .ok (.iload_n 1, 1) := by decide +kernel
theorem dX8_isPrefix_15 : decode cX8_isPrefix 15 = .ok (.imul, 1) := by decide +kernel
theorem dX8_isPrefix_16 : decode cX8_isPrefix 16 = .ok (.ishl, 1) := by decide +kernel
theorem dX8_isPrefix_17 : decode cX8_isPrefix 17 = .ok (.iconst 1, 1) := by decide +kernel
theorem dX8_isPrefix_18 : decode cX8_isPrefix 18 = .ok (.isub, 1) := by decide +kernel
theorem dX8_isPrefix_19 : decode cX8_isPrefix 19 = .ok (.invokestatic 33, 3) := by decide +kernel
theorem dX8_isPrefix_22 : decode cX8_isPrefix 22 = .ok (.ifCond .eq 7, 3) := by decide +kernel
theorem dX8_isPrefix_25 : decode cX8_isPrefix 25 = .ok (.iconst 1, 1) := by decide +kernel
theorem dX8_isPrefix_26 : decode cX8_isPrefix 26 = .ok (.goto 4, 3) := by decide +kernel
theorem dX8_isPrefix_29 : decode cX8_isPrefix 29 = .ok (.iconst 0, 1) := by decide +kernel
theorem dX8_isPrefix_30 : decode cX8_isPrefix 30 = .ok (.ireturn, 1) := by decide +kernel
theorem dX8_code_0 : decode cX8_code 0 = .ok (.iload_n 0, 1) := by decide +kernel
theorem dX8_code_1 : decode cX8_code 1 = .ok (.iconst 3, 1) := by decide +kernel
theorem dX8_code_2 : decode cX8_code 2 = .ok (.bipush 8, 2) := by decide +kernel
theorem dX8_code_4 : decode cX8_code 4 = .ok (.iload_n 1, 1) := by decide +kernel
theorem dX8_code_5 : decode cX8_code 5 = .ok (.isub, 1) := by decide +kernel
theorem dX8_code_6 : decode cX8_code 6 = .ok (.imul, 1) := by decide +kernel
theorem dX8_code_7 : decode cX8_code 7 = .ok (.ishl, 1) := by decide +kernel
theorem dX8_code_8 : decode cX8_code 8 = .ok (.iconst 4, 1) := by decide +kernel
theorem dX8_code_9 : decode cX8_code 9 = .ok (.ishl, 1) := by decide +kernel
theorem dX8_code_10 : decode cX8_code 10 = .ok (.iload_n 1, 1) := by decide +kernel
theorem dX8_code_11 : decode cX8_code 11 = .ok (.ior, 1) := by decide +kernel
theorem dX8_code_12 : decode cX8_code 12 = .ok (.ireturn, 1) := by decide +kernel
theorem dX8_lengthOf_0 : decode cX8_lengthOf 0 = .ok (.iload_n 0, 1) := by decide +kernel
theorem dX8_lengthOf_1 : decode cX8_lengthOf 1 = .ok (.bipush 15, 2) := by decide +kernel
theorem dX8_lengthOf_3 : decode cX8_lengthOf 3 = .ok (.iand, 1) := by decide +kernel
theorem dX8_lengthOf_4 : decode cX8_lengthOf 4 = .ok (.ireturn, 1) := by decide +kernel
set_option maxRecDepth 20000 in
theorem ggX8_lettersOf_X8_lengthOf : GoodIn wsX8_lettersOf wsX8_lengthOf := goodIn_r _ [4] (by decide +kernel) (by decide +kernel)
set_option maxRecDepth 20000 in
theorem gX8_lettersOf_X8_lengthOf : GoodIn wsX8_lettersOf (va_wsS RX8 37 yX8_lengthOf wsX8_lengthOf) := goodIn_app (goodIn_of _ (by decide +kernel)) ggX8_lettersOf_X8_lengthOf
theorem dX8_lettersOf_0 : decode cX8_lettersOf 0 = .ok (.iload_n 0, 1) := by decide +kernel
theorem dX8_lettersOf_1 : decode cX8_lettersOf 1 = .ok (.iconst 4, 1) := by decide +kernel
theorem dX8_lettersOf_2 : decode cX8_lettersOf 2 = .ok (.ishr, 1) := by decide +kernel
theorem dX8_lettersOf_3 : decode cX8_lettersOf 3 = .ok (.iconst 3, 1) := by decide +kernel
theorem dX8_lettersOf_4 : decode cX8_lettersOf 4 = .ok (.bipush 8, 2) := by decide +kernel
theorem dX8_lettersOf_6 : decode cX8_lettersOf 6 = .ok (.iload_n 0, 1) := by decide +kernel
theorem dX8_lettersOf_7 : decode cX8_lettersOf 7 = .ok (.invokestatic 37, 3) := by decide +kernel
theorem dX8_lettersOf_10 : decode cX8_lettersOf 10 = .ok (.isub, 1) := by decide +kernel
theorem dX8_lettersOf_11 : decode cX8_lettersOf 11 = .ok (.imul, 1) := by decide +kernel
theorem dX8_lettersOf_12 : decode cX8_lettersOf 12 = .ok (.ishr, 1) := by decide +kernel
theorem dX8_lettersOf_13 : decode cX8_lettersOf 13 = .ok (.ireturn, 1) := by decide +kernel
set_option maxRecDepth 20000 in
theorem ggX8_shortened_X8_lettersOf : GoodIn wsX8_shortened wsX8_lettersOf := goodIn_r _ [4, 5, 6, 3, 7] (by decide +kernel) (by decide +kernel)
set_option maxRecDepth 20000 in
theorem gX8_shortened_X8_lettersOf : GoodIn wsX8_shortened (va_wsS RX8 41 yX8_lettersOf wsX8_lettersOf) := goodIn_app (goodIn_of _ (by decide +kernel)) ggX8_shortened_X8_lettersOf
set_option maxRecDepth 20000 in
theorem ggX8_shortened_X8_lengthOf : GoodIn wsX8_shortened wsX8_lengthOf := goodIn_r _ [7] (by decide +kernel) (by decide +kernel)
set_option maxRecDepth 20000 in
theorem gX8_shortened_X8_lengthOf : GoodIn wsX8_shortened (va_wsS RX8 37 yX8_lengthOf wsX8_lengthOf) := goodIn_app (goodIn_of _ (by decide +kernel)) ggX8_shortened_X8_lengthOf
set_option maxRecDepth 20000 in
theorem ggX8_shortened_X8_code : GoodIn wsX8_shortened wsX8_code := goodIn_r _ [10] (by decide +kernel) (by decide +kernel)
set_option maxRecDepth 20000 in
theorem gX8_shortened_X8_code : GoodIn wsX8_shortened (va_wsS RX8 44 yX8_code wsX8_code) := goodIn_app (goodIn_of _ (by decide +kernel)) ggX8_shortened_X8_code
theorem dX8_shortened_0 : decode cX8_shortened 0 = .ok (.iload_n 0, 1) := by decide +kernel
theorem dX8_shortened_1 : decode cX8_shortened 1 = .ok (.invokestatic 41, 3) := by decide +kernel
theorem dX8_shortened_4 : decode cX8_shortened 4 = .ok (.iconst 3, 1) := by decide +kernel
theorem dX8_shortened_5 : decode cX8_shortened 5 = .ok (.iload_n 0, 1) := by decide +kernel
theorem dX8_shortened_6 : decode cX8_shortened 6 = .ok (.invokestatic 37, 3) := by decide +kernel
theorem dX8_shortened_9 : decode cX8_shortened 9 = .ok (.iload_n 1, 1) := by decide +kernel
theorem dX8_shortened_10 : decode cX8_shortened 10 = .ok (.isub, 1) := by decide +kernel
theorem dX8_shortened_11 : decode cX8_shortened 11 = .ok (.imul, 1) := by decide +kernel
theorem dX8_shortened_12 : decode cX8_shortened 12 = .ok (.ishr, 1) := by decide +kernel
theorem dX8_shortened_13 : decode cX8_shortened 13 = .ok (.iload_n 1, 1) := by decide +kernel
theorem dX8_shortened_14 : decode cX8_shortened 14 = .ok (.invokestatic 44, 3) := by decide +kernel
theorem dX8_shortened_17 : decode cX8_shortened 17 = .ok (.ireturn, 1) := by decide +kernel
set_option maxRecDepth 20000 in
theorem ggX8_begins_X8_lengthOf : GoodIn wsX8_begins wsX8_lengthOf := goodIn_r _ [4] (by decide +kernel) (by decide +kernel)
set_option maxRecDepth 20000 in
theorem gX8_begins_X8_lengthOf : GoodIn wsX8_begins (va_wsS RX8 37 yX8_lengthOf wsX8_lengthOf) := goodIn_app (goodIn_of _ (by decide +kernel)) ggX8_begins_X8_lengthOf
set_option maxRecDepth 20000 in
theorem ggX8_begins_X8_shortened : GoodIn wsX8_begins wsX8_shortened := goodIn_r _ [7, 8, 9, 3, 10, 1, 2, 4, 11, 12, 13] (by decide +kernel) (by decide +kernel)
set_option maxRecDepth 20000 in
theorem gX8_begins_X8_shortened : GoodIn wsX8_begins (va_wsS RX8 48 yX8_shortened wsX8_shortened) := goodIn_app (goodIn_of _ (by decide +kernel)) ggX8_begins_X8_shortened
theorem dX8_begins_0 : decode cX8_begins 0 = .ok (.iload_n 0, 1) := by decide +kernel
theorem dX8_begins_1 : decode cX8_begins 1 = .ok (.invokestatic 37, 3) := by decide +kernel
theorem dX8_begins_4 : decode cX8_begins 4 = .ok (.iload_n 1, 1) := by decide +kernel
theorem dX8_begins_5 : decode cX8_begins 5 = .ok (.invokestatic 37, 3) := by decide +kernel
theorem dX8_begins_8 : decode cX8_begins 8 = .ok (.if_icmp .gt 19, 3) := by decide +kernel
theorem dX8_begins_11 : decode cX8_begins 11 = .ok (.iload_n 1, 1) := by decide +kernel
theorem dX8_begins_12 : decode cX8_begins 12 = .ok (.iload_n 0, 1) := by decide +kernel
theorem dX8_begins_13 : decode cX8_begins 13 = .ok (.invokestatic 37, 3) := by decide +kernel
theorem dX8_begins_16 : decode cX8_begins 16 = .ok (.invokestatic 48, 3) := by decide +kernel
theorem dX8_begins_19 : decode cX8_begins 19 = .ok (.iload_n 0, 1) := by decide +kernel
theorem dX8_begins_20 : decode cX8_begins 20 = .ok (.if_icmp .ne 7, 3) := by decide +kernel
theorem dX8_begins_23 : decode cX8_begins 23 = .ok (.iconst 1, 1) := by decide +kernel
theorem dX8_begins_24 : decode cX8_begins 24 = .ok (.goto 4, 3) := by decide +kernel
theorem dX8_begins_27 : decode cX8_begins 27 = .ok (.iconst 0, 1) := by decide +kernel
theorem dX8_begins_28 : decode cX8_begins 28 = .ok (.ireturn, 1) := by decide +kernel
theorem dX8_name_0 : decode cX8_name 0 = .ok (.aload_n 0, 1) := by decide +kernel
theorem dX8_name_1 : decode cX8_name 1 = .ok (.getfield 7, 3) := by decide +kernel
theorem dX8_name_4 : decode cX8_name 4 = .ok (.bipush 7, 2) := by decide +kernel
theorem dX8_name_6 : decode cX8_name 6 = .ok (.iload_n 1, 1) := by decide +kernel
theorem dX8_name_7 : decode cX8_name 7 = .ok (.iadd, 1) := by decide +kernel
theorem dX8_name_8 : decode cX8_name 8 = .ok (.iaload, 1) := by decide +kernel
theorem dX8_name_9 : decode cX8_name 9 = .ok (.ireturn, 1) := by decide +kernel
theorem dX8_prefixOf_0 : decode cX8_prefixOf 0 = .ok (.aload_n 0, 1) := by decide +kernel
theorem dX8_prefixOf_1 : decode cX8_prefixOf 1 = .ok (.getfield 7, 3) := by decide +kernel
theorem dX8_prefixOf_4 : decode cX8_prefixOf 4 = .ok (.bipush 55, 2) := by decide +kernel
theorem dX8_prefixOf_6 : decode cX8_prefixOf 6 = .ok (.iload_n 1, 1) := by decide +kernel
theorem dX8_prefixOf_7 : decode cX8_prefixOf 7 = .ok (.iadd, 1) := by decide +kernel
theorem dX8_prefixOf_8 : decode cX8_prefixOf 8 = .ok (.iaload, 1) := by decide +kernel
theorem dX8_prefixOf_9 : decode cX8_prefixOf 9 = .ok (.ireturn, 1) := by decide +kernel
set_option maxRecDepth 20000 in
theorem ggX8_rankOf_X8_name : GoodIn wsX8_rankOf wsX8_name := goodIn_r _ [6, 1, 7, 8, 9, 10, 11, 12, 13, 14, 15, 16, 17, 18] (by decide +kernel) (by decide +kernel)
set_option maxRecDepth 20000 in
theorem gX8_rankOf_X8_name : GoodIn wsX8_rankOf (wsV RX8 51 RX8 yX8_name wsX8_name) := goodIn_app (goodIn_of _ (by decide +kernel)) ggX8_rankOf_X8_name
theorem dX8_rankOf_0 : decode cX8_rankOf 0 = .ok (.iconst 0, 1) := by decide +kernel
theorem dX8_rankOf_1 : decode cX8_rankOf 1 = .ok (.istore_n 2, 1) := by decide +kernel
theorem dX8_rankOf_2 : decode cX8_rankOf 2 = .ok (.iconst 0, 1) := by decide +kernel
theorem dX8_rankOf_3 : decode cX8_rankOf 3 = .ok (.istore_n 3, 1) := by decide +kernel
theorem dX8_rankOf_4 : decode cX8_rankOf 4 = .ok (.iload_n 3, 1) := by decide +kernel
theorem dX8_rankOf_5 : decode cX8_rankOf 5 = .ok (.aload_n 0, 1) := by decide +kernel
theorem dX8_rankOf_6 : decode cX8_rankOf 6 = .ok (.getfield 7, 3) := by decide +kernel
theorem dX8_rankOf_9 : decode cX8_rankOf 9 = .ok (.iconst 1, 1) := by decide +kernel
theorem dX8_rankOf_10 : decode cX8_rankOf 10 = .ok (.iaload, 1) := by decide +kernel
theorem dX8_rankOf_11 : decode cX8_rankOf 11 = .ok (.if_icmp .ge 26, 3) := by decide +kernel
theorem dX8_rankOf_14 : decode cX8_rankOf 14 = .ok (.iload_n 2, 1) := by decide +kernel
theorem dX8_rankOf_15 : decode cX8_rankOf 15 = .ok (.aload_n 0, 1) := by decide +kernel
theorem dX8_rankOf_16 : decode cX8_rankOf 16 = .ok (.iload_n 3, 1) := by decide +kernel
theorem dX8_rankOf_17 : decode cX8_rankOf 17 = .ok (.invokevirtual 51, 3) := by decide +kernel
theorem dX8_rankOf_20 : decode cX8_rankOf 20 = .ok (.iload_n 1, 1) := by decide +kernel
theorem dX8_rankOf_21 : decode cX8_rankOf 21 = .ok (.if_icmp .ge 7, 3) := by decide +kernel
theorem dX8_rankOf_24 : decode cX8_rankOf 24 = .ok (.iconst 1, 1) := by decide +kernel
theorem dX8_rankOf_25 : decode cX8_rankOf 25 = .ok (.goto 4, 3) := by decide +kernel
theorem dX8_rankOf_28 : decode cX8_rankOf 28 = .ok (.iconst 0, 1) := by decide +kernel
theorem dX8_rankOf_29 : decode cX8_rankOf 29 = .ok (.iadd, 1) := by decide +kernel
theorem dX8_rankOf_30 : decode cX8_rankOf 30 = .ok (.istore_n 2, 1) := by decide +kernel
theorem dX8_rankOf_31 : decode cX8_rankOf 31 = .ok (.iinc 3 1, 3) := by decide +kernel
theorem dX8_rankOf_34 : decode cX8_rankOf 34 = .ok (.goto (-30), 3) := by decide +kernel
theorem dX8_rankOf_37 : decode cX8_rankOf 37 = .ok (.iload_n 2, 1) := by decide +kernel
theorem dX8_rankOf_38 : decode cX8_rankOf 38 = .ok (.ireturn, 1) := by decide +kernel
set_option maxRecDepth 20000 in
theorem ggX8_findName_X8_rankOf : GoodIn wsX8_findName wsX8_rankOf := goodIn_r _ [6, 1, 7, 8, 9, 5, 10, 11, 12, 13, 14, 15, 16, 17, 18, 19, 20, 21, 22] (by decide +kernel) (by decide +kernel)
set_option maxRecDepth 20000 in
theorem gX8_findName_X8_rankOf : GoodIn wsX8_findName (wsV RX8 54 RX8 yX8_rankOf wsX8_rankOf) := goodIn_app (goodIn_of _ (by decide +kernel)) ggX8_findName_X8_rankOf
set_option maxRecDepth 20000 in
theorem ggX8_findName_X8_name : GoodIn wsX8_findName wsX8_name := goodIn_r _ [10, 1, 11, 12, 13, 14, 15, 16, 17, 18, 19, 20, 21, 22] (by decide +kernel) (by decide +kernel)
set_option maxRecDepth 20000 in
theorem gX8_findName_X8_name : GoodIn wsX8_findName (wsV RX8 51 RX8 yX8_name wsX8_name) := goodIn_app (goodIn_of _ (by decide +kernel)) ggX8_findName_X8_name
theorem dX8_findName_0 : decode cX8_findName 0 = .ok (.aload_n 0, 1) := by decide +kernel
theorem dX8_findName_1 : decode cX8_findName 1 = .ok (.iload_n 1, 1) := by decide +kernel
theorem dX8_findName_2 : decode cX8_findName 2 = .ok (.invokevirtual 54, 3) := by decide +kernel
theorem dX8_findName_5 : decode cX8_findName 5 = .ok (.istore_n 2, 1) := by decide +kernel
theorem dX8_findName_6 : decode cX8_findName 6 = .ok (.iload_n 2, 1) := by decide +kernel
theorem dX8_findName_7 : decode cX8_findName 7 = .ok (.aload_n 0, 1) := by decide +kernel
theorem dX8_findName_8 : decode cX8_findName 8 = .ok (.getfield 7, 3) := by decide +kernel
theorem dX8_findName_11 : decode cX8_findName 11 = .ok (.iconst 1, 1) := by decide +kernel
theorem dX8_findName_12 : decode cX8_findName 12 = .ok (.iaload, 1) := by decide +kernel
theorem dX8_findName_13 : decode cX8_findName 13 = .ok (.if_icmp .ge 16, 3) := by decide +kernel
theorem dX8_findName_16 : decode cX8_findName 16 = .ok (.aload_n 0, 1) := by decide +kernel
theorem dX8_findName_17 : decode cX8_findName 17 = .ok (.iload_n 2, 1) := by decide +kernel
theorem dX8_findName_18 : decode cX8_findName 18 = .ok (.invokevirtual 51, 3) := by decide +kernel
theorem dX8_findName_21 : decode cX8_findName 21 = .ok (.iload_n 1, 1) := by decide +kernel
theorem dX8_findName_22 : decode cX8_findName 22 = .ok (.if_icmp .ne 7, 3) := by decide +kernel
theorem dX8_findName_25 : decode cX8_findName 25 = .ok (.iload_n 2, 1) := by decide +kernel
theorem dX8_findName_26 : decode cX8_findName 26 = .ok (.goto 4, 3) := by decide +kernel
theorem dX8_findName_29 : decode cX8_findName 29 = .ok (.iconst (-1), 1) := by decide +kernel
theorem dX8_findName_30 : decode cX8_findName 30 = .ok (.ireturn, 1) := by decide +kernel
set_option maxRecDepth 20000 in
theorem ggX8_countBelow_X8_name : GoodIn wsX8_countBelow wsX8_name := goodIn_r _ [6, 1, 22, 23, 24, 25, 26, 27, 28, 29, 30, 31, 32, 33] (by decide +kernel) (by decide +kernel)
set_option maxRecDepth 20000 in
theorem gX8_countBelow_X8_name : GoodIn wsX8_countBelow (wsV RX8 51 RX8 yX8_name wsX8_name) := goodIn_app (goodIn_of _ (by decide +kernel)) ggX8_countBelow_X8_name
set_option maxRecDepth 20000 in
theorem ggX8_countBelow_X8_begins : GoodIn wsX8_countBelow wsX8_begins := goodIn_r _ [9, 10, 11, 5, 12, 13, 14, 15, 16, 17, 18, 19, 20, 21] (by decide +kernel) (by decide +kernel)
set_option maxRecDepth 20000 in
theorem gX8_countBelow_X8_begins : GoodIn wsX8_countBelow (va_wsS RX8 57 yX8_begins wsX8_begins) := goodIn_app (goodIn_of _ (by decide +kernel)) ggX8_countBelow_X8_begins
theorem dX8_countBelow_0 : decode cX8_countBelow 0 = .ok (.iconst 0, 1) := by decide +kernel
theorem dX8_countBelow_1 : decode cX8_countBelow 1 = .ok (.istore_n 2, 1) := by decide +kernel
theorem dX8_countBelow_2 : decode cX8_countBelow 2 = .ok (.iconst 0, 1) := by decide +kernel
theorem dX8_countBelow_3 : decode cX8_countBelow 3 = .ok (.istore_n 3, 1) := by decide +kernel
theorem dX8_countBelow_4 : decode cX8_countBelow 4 = .ok (.iload_n 3, 1) := by decide +kernel
theorem dX8_countBelow_5 : decode cX8_countBelow 5 = .ok (.aload_n 0, 1) := by decide +kernel
theorem dX8_countBelow_6 : decode cX8_countBelow 6 = .ok (.getfield 7, 3) := by decide +kernel
theorem dX8_countBelow_9 : decode cX8_countBelow 9 = .ok (.iconst 1, 1) := by decide +kernel
theorem dX8_countBelow_10 : decode cX8_countBelow 10 = .ok (.iaload, 1) := by decide +kernel
theorem dX8_countBelow_11 : decode cX8_countBelow 11 = .ok (.if_icmp .ge 29, 3) := by decide +kernel
theorem dX8_countBelow_14 : decode cX8_countBelow 14 = .ok (.iload_n 2, 1) := by decide +kernel
theorem dX8_countBelow_15 : decode cX8_countBelow 15 = .ok (.iload_n 1, 1) := by decide +kernel
theorem dX8_countBelow_16 : decode cX8_countBelow 16 = .ok (.aload_n 0, 1) := by decide +kernel
theorem dX8_countBelow_17 : decode cX8_countBelow 17 = .ok (.iload_n 3, 1) := by decide +kernel
theorem dX8_countBelow_18 : decode cX8_countBelow 18 = .ok (.invokevirtual 51, 3) := by decide +kernel
theorem dX8_countBelow_21 : decode cX8_countBelow 21 = .ok (.invokestatic 57, 3) := by decide +kernel
theorem dX8_countBelow_24 : decode cX8_countBelow 24 = .ok (.ifCond .eq 7, 3) := by decide +kernel
theorem dX8_countBelow_27 : decode cX8_countBelow 27 = .ok (.iconst 1, 1) := by decide +kernel
theorem dX8_countBelow_28 : decode cX8_countBelow 28 = .ok (.goto 4, 3) := by decide +kernel
theorem dX8_countBelow_31 : decode cX8_countBelow 31 = .ok (.iconst 0, 1) := by decide +kernel
theorem dX8_countBelow_32 : decode cX8_countBelow 32 = .ok (.iadd, 1) := by decide +kernel
theorem dX8_countBelow_33 : decode cX8_countBelow 33 = .ok (.istore_n 2, 1) := by decide +kernel
theorem dX8_countBelow_34 : decode cX8_countBelow 34 = .ok (.iinc 3 1, 3) := by decide +kernel
theorem dX8_countBelow_37 : decode cX8_countBelow 37 = .ok (.goto (-33), 3) := by decide +kernel
theorem dX8_countBelow_40 : decode cX8_countBelow 40 = .ok (.iload_n 2, 1) := by decide +kernel
theorem dX8_countBelow_41 : decode cX8_countBelow 41 = .ok (.ireturn, 1) := by decide +kernel
set_option maxRecDepth 20000 in
theorem ggX8_weightBelow_X8_name : GoodIn wsX8_weightBelow wsX8_name := goodIn_r _ [6, 1, 22, 23, 24, 25, 26, 27, 28, 29, 30, 31, 32, 33] (by decide +kernel) (by decide +kernel)
set_option maxRecDepth 20000 in
theorem gX8_weightBelow_X8_name : GoodIn wsX8_weightBelow (wsV RX8 51 RX8 yX8_name wsX8_name) := goodIn_app (goodIn_of _ (by decide +kernel)) ggX8_weightBelow_X8_name
set_option maxRecDepth 20000 in
theorem ggX8_weightBelow_X8_begins : GoodIn wsX8_weightBelow wsX8_begins := goodIn_r _ [9, 10, 11, 5, 12, 13, 14, 15, 16, 17, 18, 19, 20, 21] (by decide +kernel) (by decide +kernel)
set_option maxRecDepth 20000 in
theorem gX8_weightBelow_X8_begins : GoodIn wsX8_weightBelow (va_wsS RX8 57 yX8_begins wsX8_begins) := goodIn_app (goodIn_of _ (by decide +kernel)) ggX8_weightBelow_X8_begins
theorem dX8_weightBelow_0 : decode cX8_weightBelow 0 = .ok (.iconst 0, 1) := by decide +kernel
theorem dX8_weightBelow_1 : decode cX8_weightBelow 1 = .ok (.istore_n 2, 1) := by decide +kernel
theorem dX8_weightBelow_2 : decode cX8_weightBelow 2 = .ok (.iconst 0, 1) := by decide +kernel
theorem dX8_weightBelow_3 : decode cX8_weightBelow 3 = .ok (.istore_n 3, 1) := by decide +kernel
theorem dX8_weightBelow_4 : decode cX8_weightBelow 4 = .ok (.iload_n 3, 1) := by decide +kernel
theorem dX8_weightBelow_5 : decode cX8_weightBelow 5 = .ok (.aload_n 0, 1) := by decide +kernel
theorem dX8_weightBelow_6 : decode cX8_weightBelow 6 = .ok (.getfield 7, 3) := by decide +kernel
theorem dX8_weightBelow_9 : decode cX8_weightBelow 9 = .ok (.iconst 1, 1) := by decide +kernel
theorem dX8_weightBelow_10 : decode cX8_weightBelow 10 = .ok (.iaload, 1) := by decide +kernel
theorem dX8_weightBelow_11 : decode cX8_weightBelow 11 = .ok (.if_icmp .ge 37, 3) := by decide +kernel
theorem dX8_weightBelow_14 : decode cX8_weightBelow 14 = .ok (.iload_n 2, 1) := by decide +kernel
theorem dX8_weightBelow_15 : decode cX8_weightBelow 15 = .ok (.iload_n 1, 1) := by decide +kernel
theorem dX8_weightBelow_16 : decode cX8_weightBelow 16 = .ok (.aload_n 0, 1) := by decide +kernel
theorem dX8_weightBelow_17 : decode cX8_weightBelow 17 = .ok (.iload_n 3, 1) := by decide +kernel
theorem dX8_weightBelow_18 : decode cX8_weightBelow 18 = .ok (.invokevirtual 51, 3) := by decide +kernel
theorem dX8_weightBelow_21 : decode cX8_weightBelow 21 = .ok (.invokestatic 57, 3) := by decide +kernel
theorem dX8_weightBelow_24 : decode cX8_weightBelow 24 = .ok (.ifCond .eq 15, 3) := by decide +kernel
theorem dX8_weightBelow_27 : decode cX8_weightBelow 27 = .ok (.aload_n 0, 1) := by decide +kernel
theorem dX8_weightBelow_28 : decode cX8_weightBelow 28 = .ok (.getfield 7, 3) := by decide +kernel
theorem dX8_weightBelow_31 : decode cX8_weightBelow 31 = .ok (.bipush 31, 2) := by decide +kernel
theorem dX8_weightBelow_33 : decode cX8_weightBelow 33 = .ok (.iload_n 3, 1) := by decide +kernel
theorem dX8_weightBelow_34 : decode cX8_weightBelow 34 = .ok (.iadd, 1) := by decide +kernel
theorem dX8_weightBelow_35 : decode cX8_weightBelow 35 = .ok (.iaload, 1) := by decide +kernel
theorem dX8_weightBelow_36 : decode cX8_weightBelow 36 = .ok (.goto 4, 3) := by decide +kernel
theorem dX8_weightBelow_39 : decode cX8_weightBelow 39 = .ok (.iconst 0, 1) := by decide +kernel
theorem dX8_weightBelow_40 : decode cX8_weightBelow 40 = .ok (.iadd, 1) := by decide +kernel
theorem dX8_weightBelow_41 : decode cX8_weightBelow 41 = .ok (.istore_n 2, 1) := by decide +kernel
theorem dX8_weightBelow_42 : decode cX8_weightBelow 42 = .ok (.iinc 3 1, 3) := by decide +kernel
theorem dX8_weightBelow_45 : decode cX8_weightBelow 45 = .ok (.goto (-41), 3) := by decide +kernel
theorem dX8_weightBelow_48 : decode cX8_weightBelow 48 = .ok (.iload_n 2, 1) := by decide +kernel
theorem dX8_weightBelow_49 : decode cX8_weightBelow 49 = .ok (.ireturn, 1) := by decide +kernel
set_option maxRecDepth 20000 in
theorem ggX8_isInTown_X8_lengthOf : GoodIn wsX8_isInTown wsX8_lengthOf := goodIn_r _ [4] (by decide +kernel) (by decide +kernel)
set_option maxRecDepth 20000 in
theorem gX8_isInTown_X8_lengthOf : GoodIn wsX8_isInTown (va_wsS RX8 37 yX8_lengthOf wsX8_lengthOf) := goodIn_app (goodIn_of _ (by decide +kernel)) ggX8_isInTown_X8_lengthOf
set_option maxRecDepth 20000 in
theorem ggX8_isInTown_X8_countBelow : GoodIn wsX8_isInTown wsX8_countBelow := goodIn_r _ [8, 9, 10, 11, 12, 3, 13, 14, 15, 16, 1, 2, 4, 17, 18, 19, 20, 21, 22, 23, 24, 25, 26, 27, 28, 29, 30, 31, 32, 33, 34, 35, 36, 37] (by decide +kernel) (by decide +kernel)
set_option maxRecDepth 20000 in
theorem gX8_isInTown_X8_countBelow : GoodIn wsX8_isInTown (wsV RX8 61 RX8 yX8_countBelow wsX8_countBelow) := goodIn_app (goodIn_of _ (by decide +kernel)) ggX8_isInTown_X8_countBelow
theorem dX8_isInTown_0 : decode cX8_isInTown 0 = .ok (.iload_n 1, 1) := by decide +kernel
theorem dX8_isInTown_1 : decode cX8_isInTown 1 = .ok (.invokestatic 37, 3) := by decide +kernel
theorem dX8_isInTown_4 : decode cX8_isInTown 4 = .ok (.ifCond .eq 11, 3) := by decide +kernel
theorem dX8_isInTown_7 : decode cX8_isInTown 7 = .ok (.aload_n 0, 1) := by decide +kernel
theorem dX8_isInTown_8 : decode cX8_isInTown 8 = .ok (.iload_n 1, 1) := by decide +kernel
theorem dX8_isInTown_9 : decode cX8_isInTown 9 = .ok (.invokevirtual 61, 3) := by decide +kernel
theorem dX8_isInTown_12 : decode cX8_isInTown 12 = .ok (.ifCond .le 7, 3) := by decide +kernel
theorem dX8_isInTown_15 : decode cX8_isInTown 15 = .ok (.iconst 1, 1) := by decide +kernel
theorem dX8_isInTown_16 : decode cX8_isInTown 16 = .ok (.goto 4, 3) := by decide +kernel
theorem dX8_isInTown_19 : decode cX8_isInTown 19 = .ok (.iconst 0, 1) := by decide +kernel
theorem dX8_isInTown_20 : decode cX8_isInTown 20 = .ok (.ireturn, 1) := by decide +kernel
set_option maxRecDepth 20000 in
theorem ggX8_findHouse_X8_prefixOf : GoodIn wsX8_findHouse wsX8_prefixOf := goodIn_r _ [6, 1, 7, 8, 9, 10, 11, 12, 13, 14, 15, 16, 17, 18] (by decide +kernel) (by decide +kernel)
set_option maxRecDepth 20000 in
theorem gX8_findHouse_X8_prefixOf : GoodIn wsX8_findHouse (wsV RX8 64 RX8 yX8_prefixOf wsX8_prefixOf) := goodIn_app (goodIn_of _ (by decide +kernel)) ggX8_findHouse_X8_prefixOf
theorem dX8_findHouse_0 : decode cX8_findHouse 0 = .ok (.iconst (-1), 1) := by decide +kernel
theorem dX8_findHouse_1 : decode cX8_findHouse 1 = .ok (.istore_n 2, 1) := by decide +kernel
theorem dX8_findHouse_2 : decode cX8_findHouse 2 = .ok (.iconst 0, 1) := by decide +kernel
theorem dX8_findHouse_3 : decode cX8_findHouse 3 = .ok (.istore_n 3, 1) := by decide +kernel
theorem dX8_findHouse_4 : decode cX8_findHouse 4 = .ok (.iload_n 3, 1) := by decide +kernel
theorem dX8_findHouse_5 : decode cX8_findHouse 5 = .ok (.aload_n 0, 1) := by decide +kernel
theorem dX8_findHouse_6 : decode cX8_findHouse 6 = .ok (.getfield 7, 3) := by decide +kernel
theorem dX8_findHouse_9 : decode cX8_findHouse 9 = .ok (.iconst 2, 1) := by decide +kernel
theorem dX8_findHouse_10 : decode cX8_findHouse 10 = .ok (.iaload, 1) := by decide +kernel
theorem dX8_findHouse_11 : decode cX8_findHouse 11 = .ok (.if_icmp .ge 24, 3) := by decide +kernel
theorem dX8_findHouse_14 : decode cX8_findHouse 14 = .ok (.aload_n 0, 1) := by decide +kernel
theorem dX8_findHouse_15 : decode cX8_findHouse 15 = .ok (.iload_n 3, 1) := by decide +kernel
theorem dX8_findHouse_16 : decode cX8_findHouse 16 = .ok (.invokevirtual 64, 3) := by decide +kernel
theorem dX8_findHouse_19 : decode cX8_findHouse 19 = .ok (.iload_n 1, 1) := by decide +kernel
theorem dX8_findHouse_20 : decode cX8_findHouse 20 = .ok (.if_icmp .ne 7, 3) := by decide +kernel
theorem dX8_findHouse_23 : decode cX8_findHouse 23 = .ok (.iload_n 3, 1) := by decide +kernel
theorem dX8_findHouse_24 : decode cX8_findHouse 24 = .ok (.goto 4, 3) := by decide +kernel
theorem dX8_findHouse_27 : decode cX8_findHouse 27 = .ok (.iload_n 2, 1) := by decide +kernel
theorem dX8_findHouse_28 : decode cX8_findHouse 28 = .ok (.istore_n 2, 1) := by decide +kernel
theorem dX8_findHouse_29 : decode cX8_findHouse 29 = .ok (.iinc 3 1, 3) := by decide +kernel
theorem dX8_findHouse_32 : decode cX8_findHouse 32 = .ok (.goto (-28), 3) := by decide +kernel
theorem dX8_findHouse_35 : decode cX8_findHouse 35 = .ok (.iload_n 2, 1) := by decide +kernel
theorem dX8_findHouse_36 : decode cX8_findHouse 36 = .ok (.ireturn, 1) := by decide +kernel
set_option maxRecDepth 20000 in
theorem ggX8_addHouse_X8_prefixOf : GoodIn wsX8_addHouse wsX8_prefixOf := goodIn_r _ [6, 1, 7, 8, 9, 10, 11, 12, 13, 14, 15, 16, 17, 18] (by decide +kernel) (by decide +kernel)
set_option maxRecDepth 20000 in
theorem gX8_addHouse_X8_prefixOf : GoodIn wsX8_addHouse (wsV RX8 64 RX8 yX8_prefixOf wsX8_prefixOf) := goodIn_app (goodIn_of _ (by decide +kernel)) ggX8_addHouse_X8_prefixOf
theorem dX8_addHouse_0 : decode cX8_addHouse 0 = .ok (.aload_n 0, 1) := by decide +kernel
theorem dX8_addHouse_1 : decode cX8_addHouse 1 = .ok (.getfield 7, 3) := by decide +kernel
theorem dX8_addHouse_4 : decode cX8_addHouse 4 = .ok (.iconst 2, 1) := by decide +kernel
theorem dX8_addHouse_5 : decode cX8_addHouse 5 = .ok (.iaload, 1) := by decide +kernel
theorem dX8_addHouse_6 : decode cX8_addHouse 6 = .ok (.istore_n 2, 1) := by decide +kernel
theorem dX8_addHouse_7 : decode cX8_addHouse 7 = .ok (.aload_n 0, 1) := by decide +kernel
theorem dX8_addHouse_8 : decode cX8_addHouse 8 = .ok (.iload_n 2, 1) := by decide +kernel
theorem dX8_addHouse_9 : decode cX8_addHouse 9 = .ok (.iconst 1, 1) := by decide +kernel
theorem dX8_addHouse_10 : decode cX8_addHouse 10 = .ok (.isub, 1) := by decide +kernel
theorem dX8_addHouse_11 : decode cX8_addHouse 11 = .ok (.invokevirtual 64, 3) := by decide +kernel
theorem dX8_addHouse_14 : decode cX8_addHouse 14 = .ok (.iload_n 1, 1) := by decide +kernel
theorem dX8_addHouse_15 : decode cX8_addHouse 15 = .ok (.if_icmp .le 25, 3) := by decide +kernel
theorem dX8_addHouse_18 : decode cX8_addHouse 18 = .ok (.aload_n 0, 1) := by decide +kernel
theorem dX8_addHouse_19 : decode cX8_addHouse 19 = .ok (.getfield 7, 3) := by decide +kernel
theorem dX8_addHouse_22 : decode cX8_addHouse 22 = .ok (.bipush 55, 2) := by decide +kernel
theorem dX8_addHouse_24 : decode cX8_addHouse 24 = .ok (.iload_n 2, 1) := by decide +kernel
theorem dX8_addHouse_25 : decode cX8_addHouse 25 = .ok (.iadd, 1) := by decide +kernel
theorem dX8_addHouse_26 : decode cX8_addHouse 26 = .ok (.aload_n 0, 1) := by decide +kernel
theorem dX8_addHouse_27 : decode cX8_addHouse 27 = .ok (.iload_n 2, 1) := by decide +kernel
theorem dX8_addHouse_28 : decode cX8_addHouse 28 = .ok (.iconst 1, 1) := by decide +kernel
theorem dX8_addHouse_29 : decode cX8_addHouse 29 = .ok (.isub, 1) := by decide +kernel
theorem dX8_addHouse_30 : decode cX8_addHouse 30 = .ok (.invokevirtual 64, 3) := by decide +kernel
theorem dX8_addHouse_33 : decode cX8_addHouse 33 = .ok (.iastore, 1) := by decide +kernel
theorem dX8_addHouse_34 : decode cX8_addHouse 34 = .ok (.iinc 2 (-1), 3) := by decide +kernel
theorem dX8_addHouse_37 : decode cX8_addHouse 37 = .ok (.goto (-30), 3) := by decide +kernel
theorem dX8_addHouse_40 : decode cX8_addHouse 40 = .ok (.aload_n 0, 1) := by decide +kernel
theorem dX8_addHouse_41 : decode cX8_addHouse 41 = .ok (.getfield 7, 3) := by decide +kernel
theorem dX8_addHouse_44 : decode cX8_addHouse 44 = .ok (.bipush 55, 2) := by decide +kernel
theorem dX8_addHouse_46 : decode cX8_addHouse 46 = .ok (.iload_n 2, 1) := by decide +kernel
theorem dX8_addHouse_47 : decode cX8_addHouse 47 = .ok (.iadd, 1) := by decide +kernel
theorem dX8_addHouse_48 : decode cX8_addHouse 48 = .ok (.iload_n 1, 1) := by decide +kernel
theorem dX8_addHouse_49 : decode cX8_addHouse 49 = .ok (.iastore, 1) := by decide +kernel
theorem dX8_addHouse_50 : decode cX8_addHouse 50 = .ok (.aload_n 0, 1) := by decide +kernel
theorem dX8_addHouse_51 : decode cX8_addHouse 51 = .ok (.getfield 7, 3) := by decide +kernel
theorem dX8_addHouse_54 : decode cX8_addHouse 54 = .ok (.iconst 2, 1) := by decide +kernel
theorem dX8_addHouse_55 : decode cX8_addHouse 55 = .ok (.dup2, 1) := by decide +kernel
theorem dX8_addHouse_56 : decode cX8_addHouse 56 = .ok (.iaload, 1) := by decide +kernel
theorem dX8_addHouse_57 : decode cX8_addHouse 57 = .ok (.iconst 1, 1) := by decide +kernel
theorem dX8_addHouse_58 : decode cX8_addHouse 58 = .ok (.iadd, 1) := by decide +kernel
theorem dX8_addHouse_59 : decode cX8_addHouse 59 = .ok (.iastore, 1) := by decide +kernel
theorem dX8_addHouse_60 : decode cX8_addHouse 60 = .ok (.return_, 1) := by decide +kernel
set_option maxRecDepth 20000 in
theorem ggX8_dropHouse_X8_prefixOf : GoodIn wsX8_dropHouse wsX8_prefixOf := goodIn_r _ [6, 1, 7, 8, 9, 10, 11, 12, 13, 14, 15, 16, 17, 18] (by decide +kernel) (by decide +kernel)
set_option maxRecDepth 20000 in
theorem gX8_dropHouse_X8_prefixOf : GoodIn wsX8_dropHouse (wsV RX8 64 RX8 yX8_prefixOf wsX8_prefixOf) := goodIn_app (goodIn_of _ (by decide +kernel)) ggX8_dropHouse_X8_prefixOf
theorem dX8_dropHouse_0 : decode cX8_dropHouse 0 = .ok (.iload_n 1, 1) := by decide +kernel
theorem dX8_dropHouse_1 : decode cX8_dropHouse 1 = .ok (.istore_n 2, 1) := by decide +kernel
theorem dX8_dropHouse_2 : decode cX8_dropHouse 2 = .ok (.iload_n 2, 1) := by decide +kernel
theorem dX8_dropHouse_3 : decode cX8_dropHouse 3 = .ok (.iconst 1, 1) := by decide +kernel
theorem dX8_dropHouse_4 : decode cX8_dropHouse 4 = .ok (.iadd, 1) := by decide +kernel
theorem dX8_dropHouse_5 : decode cX8_dropHouse 5 = .ok (.aload_n 0, 1) := by decide +kernel
theorem dX8_dropHouse_6 : decode cX8_dropHouse 6 = .ok (.getfield 7, 3) := by decide +kernel
theorem dX8_dropHouse_9 : decode cX8_dropHouse 9 = .ok (.iconst 2, 1) := by decide +kernel
theorem dX8_dropHouse_10 : decode cX8_dropHouse 10 = .ok (.iaload, 1) := by decide +kernel
theorem dX8_dropHouse_11 : decode cX8_dropHouse 11 = .ok (.if_icmp .ge 25, 3) := by decide +kernel
theorem dX8_dropHouse_14 : decode cX8_dropHouse 14 = .ok (.aload_n 0, 1) := by decide +kernel
theorem dX8_dropHouse_15 : decode cX8_dropHouse 15 = .ok (.getfield 7, 3) := by decide +kernel
theorem dX8_dropHouse_18 : decode cX8_dropHouse 18 = .ok (.bipush 55, 2) := by decide +kernel
theorem dX8_dropHouse_20 : decode cX8_dropHouse 20 = .ok (.iload_n 2, 1) := by decide +kernel
theorem dX8_dropHouse_21 : decode cX8_dropHouse 21 = .ok (.iadd, 1) := by decide +kernel
theorem dX8_dropHouse_22 : decode cX8_dropHouse 22 = .ok (.aload_n 0, 1) := by decide +kernel
theorem dX8_dropHouse_23 : decode cX8_dropHouse 23 = .ok (.iload_n 2, 1) := by decide +kernel
theorem dX8_dropHouse_24 : decode cX8_dropHouse 24 = .ok (.iconst 1, 1) := by decide +kernel
theorem dX8_dropHouse_25 : decode cX8_dropHouse 25 = .ok (.iadd, 1) := by decide +kernel
theorem dX8_dropHouse_26 : decode cX8_dropHouse 26 = .ok (.invokevirtual 64, 3) := by decide +kernel
theorem dX8_dropHouse_29 : decode cX8_dropHouse 29 = .ok (.iastore, 1) := by decide +kernel
theorem dX8_dropHouse_30 : decode cX8_dropHouse 30 = .ok (.iinc 2 1, 3) := by decide +kernel
theorem dX8_dropHouse_33 : decode cX8_dropHouse 33 = .ok (.goto (-31), 3) := by decide +kernel
theorem dX8_dropHouse_36 : decode cX8_dropHouse 36 = .ok (.aload_n 0, 1) := by decide +kernel
theorem dX8_dropHouse_37 : decode cX8_dropHouse 37 = .ok (.getfield 7, 3) := by decide +kernel
theorem dX8_dropHouse_40 : decode cX8_dropHouse 40 = .ok (.iconst 2, 1) := by decide +kernel
theorem dX8_dropHouse_41 : decode cX8_dropHouse 41 = .ok (.dup2, 1) := by decide +kernel
theorem dX8_dropHouse_42 : decode cX8_dropHouse 42 = .ok (.iaload, 1) := by decide +kernel
theorem dX8_dropHouse_43 : decode cX8_dropHouse 43 = .ok (.iconst 1, 1) := by decide +kernel
theorem dX8_dropHouse_44 : decode cX8_dropHouse 44 = .ok (.isub, 1) := by decide +kernel
theorem dX8_dropHouse_45 : decode cX8_dropHouse 45 = .ok (.iastore, 1) := by decide +kernel
theorem dX8_dropHouse_46 : decode cX8_dropHouse 46 = .ok (.return_, 1) := by decide +kernel
set_option maxRecDepth 20000 in
theorem ggX8_parentOf_X8_prefixOf : GoodIn wsX8_parentOf wsX8_prefixOf := goodIn_r _ [5, 6, 22, 23, 24, 25, 26, 27, 28, 29, 30, 31, 32, 33] (by decide +kernel) (by decide +kernel)
set_option maxRecDepth 20000 in
theorem gX8_parentOf_X8_prefixOf : GoodIn wsX8_parentOf (wsV RX8 64 RX8 yX8_prefixOf wsX8_prefixOf) := goodIn_app (goodIn_of _ (by decide +kernel)) ggX8_parentOf_X8_prefixOf
set_option maxRecDepth 20000 in
theorem ggX8_parentOf_X8_begins : GoodIn wsX8_parentOf wsX8_begins := goodIn_r _ [9, 10, 11, 4, 12, 13, 14, 15, 16, 17, 18, 19, 20, 21] (by decide +kernel) (by decide +kernel)
set_option maxRecDepth 20000 in
theorem gX8_parentOf_X8_begins : GoodIn wsX8_parentOf (va_wsS RX8 57 yX8_begins wsX8_begins) := goodIn_app (goodIn_of _ (by decide +kernel)) ggX8_parentOf_X8_begins
theorem dX8_parentOf_0 : decode cX8_parentOf 0 = .ok (.iload_n 1, 1) := by decide +kernel
theorem dX8_parentOf_1 : decode cX8_parentOf 1 = .ok (.iconst 1, 1) := by decide +kernel
theorem dX8_parentOf_2 : decode cX8_parentOf 2 = .ok (.isub, 1) := by decide +kernel
theorem dX8_parentOf_3 : decode cX8_parentOf 3 = .ok (.istore_n 2, 1) := by decide +kernel
theorem dX8_parentOf_4 : decode cX8_parentOf 4 = .ok (.aload_n 0, 1) := by decide +kernel
theorem dX8_parentOf_5 : decode cX8_parentOf 5 = .ok (.iload_n 2, 1) := by decide +kernel
theorem dX8_parentOf_6 : decode cX8_parentOf 6 = .ok (.invokevirtual 64, 3) := by decide +kernel
theorem dX8_parentOf_9 : decode cX8_parentOf 9 = .ok (.aload_n 0, 1) := by decide +kernel
theorem dX8_parentOf_10 : decode cX8_parentOf 10 = .ok (.iload_n 1, 1) := by decide +kernel
theorem dX8_parentOf_11 : decode cX8_parentOf 11 = .ok (.invokevirtual 64, 3) := by decide +kernel
theorem dX8_parentOf_14 : decode cX8_parentOf 14 = .ok (.invokestatic 57, 3) := by decide +kernel
theorem dX8_parentOf_17 : decode cX8_parentOf 17 = .ok (.ifCond .ne 9, 3) := by decide +kernel
theorem dX8_parentOf_20 : decode cX8_parentOf 20 = .ok (.iinc 2 (-1), 3) := by decide +kernel
theorem dX8_parentOf_23 : decode cX8_parentOf 23 = .ok (.goto (-19), 3) := by decide +kernel
theorem dX8_parentOf_26 : decode cX8_parentOf 26 = .ok (.iload_n 2, 1) := by decide +kernel
theorem dX8_parentOf_27 : decode cX8_parentOf 27 = .ok (.ireturn, 1) := by decide +kernel
set_option maxRecDepth 20000 in
theorem ggX8_childrenOf_X8_parentOf : GoodIn wsX8_childrenOf wsX8_parentOf := goodIn_r _ [6, 7, 8, 9, 5, 10, 1, 11, 12, 13, 14, 15, 16, 17, 18, 19, 20, 21, 22, 23, 24, 25, 26, 27, 28, 29, 30, 31, 32, 33, 34, 35, 36, 37] (by decide +kernel) (by decide +kernel)
set_option maxRecDepth 20000 in
theorem gX8_childrenOf_X8_parentOf : GoodIn wsX8_childrenOf (wsV RX8 67 RX8 yX8_parentOf wsX8_parentOf) := goodIn_app (goodIn_of _ (by decide +kernel)) ggX8_childrenOf_X8_parentOf
theorem dX8_childrenOf_0 : decode cX8_childrenOf 0 = .ok (.iconst 0, 1) := by decide +kernel
theorem dX8_childrenOf_1 : decode cX8_childrenOf 1 = .ok (.istore_n 2, 1) := by decide +kernel
theorem dX8_childrenOf_2 : decode cX8_childrenOf 2 = .ok (.iload_n 1, 1) := by decide +kernel
theorem dX8_childrenOf_3 : decode cX8_childrenOf 3 = .ok (.iconst 1, 1) := by decide +kernel
theorem dX8_childrenOf_4 : decode cX8_childrenOf 4 = .ok (.iadd, 1) := by decide +kernel
theorem dX8_childrenOf_5 : decode cX8_childrenOf 5 = .ok (.istore_n 3, 1) := by decide +kernel
theorem dX8_childrenOf_6 : decode cX8_childrenOf 6 = .ok (.iload_n 3, 1) := by decide +kernel
theorem dX8_childrenOf_7 : decode cX8_childrenOf 7 = .ok (.aload_n 0, 1) := by decide +kernel
theorem dX8_childrenOf_8 : decode cX8_childrenOf 8 = .ok (.getfield 7, 3) := by decide +kernel
theorem dX8_childrenOf_11 : decode cX8_childrenOf 11 = .ok (.iconst 2, 1) := by decide +kernel
theorem dX8_childrenOf_12 : decode cX8_childrenOf 12 = .ok (.iaload, 1) := by decide +kernel
theorem dX8_childrenOf_13 : decode cX8_childrenOf 13 = .ok (.if_icmp .ge 26, 3) := by decide +kernel
theorem dX8_childrenOf_16 : decode cX8_childrenOf 16 = .ok (.iload_n 2, 1) := by decide +kernel
theorem dX8_childrenOf_17 : decode cX8_childrenOf 17 = .ok (.aload_n 0, 1) := by decide +kernel
theorem dX8_childrenOf_18 : decode cX8_childrenOf 18 = .ok (.iload_n 3, 1) := by decide +kernel
theorem dX8_childrenOf_19 : decode cX8_childrenOf 19 = .ok (.invokevirtual 67, 3) := by decide +kernel
theorem dX8_childrenOf_22 : decode cX8_childrenOf 22 = .ok (.iload_n 1, 1) := by decide +kernel
theorem dX8_childrenOf_23 : decode cX8_childrenOf 23 = .ok (.if_icmp .ne 7, 3) := by decide +kernel
theorem dX8_childrenOf_26 : decode cX8_childrenOf 26 = .ok (.iconst 1, 1) := by decide +kernel
theorem dX8_childrenOf_27 : decode cX8_childrenOf 27 = .ok (.goto 4, 3) := by decide +kernel
theorem dX8_childrenOf_30 : decode cX8_childrenOf 30 = .ok (.iconst 0, 1) := by decide +kernel
theorem dX8_childrenOf_31 : decode cX8_childrenOf 31 = .ok (.iadd, 1) := by decide +kernel
theorem dX8_childrenOf_32 : decode cX8_childrenOf 32 = .ok (.istore_n 2, 1) := by decide +kernel
theorem dX8_childrenOf_33 : decode cX8_childrenOf 33 = .ok (.iinc 3 1, 3) := by decide +kernel
theorem dX8_childrenOf_36 : decode cX8_childrenOf 36 = .ok (.goto (-30), 3) := by decide +kernel
theorem dX8_childrenOf_39 : decode cX8_childrenOf 39 = .ok (.iload_n 2, 1) := by decide +kernel
theorem dX8_childrenOf_40 : decode cX8_childrenOf 40 = .ok (.ireturn, 1) := by decide +kernel
set_option maxRecDepth 20000 in
theorem ggX8_roadsTo_X8_prefixOf : GoodIn wsX8_roadsTo wsX8_prefixOf := goodIn_r _ [6, 1, 22, 23, 24, 25, 26, 27, 28, 29, 30, 31, 32, 33] (by decide +kernel) (by decide +kernel)
set_option maxRecDepth 20000 in
theorem gX8_roadsTo_X8_prefixOf : GoodIn wsX8_roadsTo (wsV RX8 64 RX8 yX8_prefixOf wsX8_prefixOf) := goodIn_app (goodIn_of _ (by decide +kernel)) ggX8_roadsTo_X8_prefixOf
set_option maxRecDepth 20000 in
theorem ggX8_roadsTo_X8_begins : GoodIn wsX8_roadsTo wsX8_begins := goodIn_r _ [9, 10, 11, 5, 12, 13, 14, 15, 16, 17, 18, 19, 20, 21] (by decide +kernel) (by decide +kernel)
set_option maxRecDepth 20000 in
theorem gX8_roadsTo_X8_begins : GoodIn wsX8_roadsTo (va_wsS RX8 57 yX8_begins wsX8_begins) := goodIn_app (goodIn_of _ (by decide +kernel)) ggX8_roadsTo_X8_begins
theorem dX8_roadsTo_0 : decode cX8_roadsTo 0 = .ok (.iconst (-1), 1) := by decide +kernel
theorem dX8_roadsTo_1 : decode cX8_roadsTo 1 = .ok (.istore_n 2, 1) := by decide +kernel
theorem dX8_roadsTo_2 : decode cX8_roadsTo 2 = .ok (.iconst 0, 1) := by decide +kernel
theorem dX8_roadsTo_3 : decode cX8_roadsTo 3 = .ok (.istore_n 3, 1) := by decide +kernel
theorem dX8_roadsTo_4 : decode cX8_roadsTo 4 = .ok (.iload_n 3, 1) := by decide +kernel
theorem dX8_roadsTo_5 : decode cX8_roadsTo 5 = .ok (.aload_n 0, 1) := by decide +kernel
theorem dX8_roadsTo_6 : decode cX8_roadsTo 6 = .ok (.getfield 7, 3) := by decide +kernel
theorem dX8_roadsTo_9 : decode cX8_roadsTo 9 = .ok (.iconst 2, 1) := by decide +kernel
theorem dX8_roadsTo_10 : decode cX8_roadsTo 10 = .ok (.iaload, 1) := by decide +kernel
theorem dX8_roadsTo_11 : decode cX8_roadsTo 11 = .ok (.if_icmp .ge 29, 3) := by decide +kernel
theorem dX8_roadsTo_14 : decode cX8_roadsTo 14 = .ok (.iload_n 2, 1) := by decide +kernel
theorem dX8_roadsTo_15 : decode cX8_roadsTo 15 = .ok (.aload_n 0, 1) := by decide +kernel
theorem dX8_roadsTo_16 : decode cX8_roadsTo 16 = .ok (.iload_n 3, 1) := by decide +kernel
theorem dX8_roadsTo_17 : decode cX8_roadsTo 17 = .ok (.invokevirtual 64, 3) := by decide +kernel
theorem dX8_roadsTo_20 : decode cX8_roadsTo 20 = .ok (.iload_n 1, 1) := by decide +kernel
theorem dX8_roadsTo_21 : decode cX8_roadsTo 21 = .ok (.invokestatic 57, 3) := by decide +kernel
theorem dX8_roadsTo_24 : decode cX8_roadsTo 24 = .ok (.ifCond .eq 7, 3) := by decide +kernel
theorem dX8_roadsTo_27 : decode cX8_roadsTo 27 = .ok (.iconst 1, 1) := by decide +kernel
theorem dX8_roadsTo_28 : decode cX8_roadsTo 28 = .ok (.goto 4, 3) := by decide +kernel
theorem dX8_roadsTo_31 : decode cX8_roadsTo 31 = .ok (.iconst 0, 1) := by decide +kernel
theorem dX8_roadsTo_32 : decode cX8_roadsTo 32 = .ok (.iadd, 1) := by decide +kernel
theorem dX8_roadsTo_33 : decode cX8_roadsTo 33 = .ok (.istore_n 2, 1) := by decide +kernel
theorem dX8_roadsTo_34 : decode cX8_roadsTo 34 = .ok (.iinc 3 1, 3) := by decide +kernel
theorem dX8_roadsTo_37 : decode cX8_roadsTo 37 = .ok (.goto (-33), 3) := by decide +kernel
theorem dX8_roadsTo_40 : decode cX8_roadsTo 40 = .ok (.iload_n 2, 1) := by decide +kernel
theorem dX8_roadsTo_41 : decode cX8_roadsTo 41 = .ok (.ireturn, 1) := by decide +kernel
set_option maxRecDepth 20000 in
theorem ggX8_labelOf_X8_prefixOf : GoodIn wsX8_labelOf wsX8_prefixOf := goodIn_r _ [5, 6, 26, 27, 28, 29, 30, 31, 32, 33, 34, 35, 36, 37] (by decide +kernel) (by decide +kernel)
set_option maxRecDepth 20000 in
theorem gX8_labelOf_X8_prefixOf : GoodIn wsX8_labelOf (wsV RX8 64 RX8 yX8_prefixOf wsX8_prefixOf) := goodIn_app (goodIn_of _ (by decide +kernel)) ggX8_labelOf_X8_prefixOf
set_option maxRecDepth 20000 in
theorem ggX8_labelOf_X8_lengthOf : GoodIn wsX8_labelOf wsX8_lengthOf := goodIn_r _ [9] (by decide +kernel) (by decide +kernel)
set_option maxRecDepth 20000 in
theorem gX8_labelOf_X8_lengthOf : GoodIn wsX8_labelOf (va_wsS RX8 37 yX8_lengthOf wsX8_lengthOf) := goodIn_app (goodIn_of _ (by decide +kernel)) ggX8_labelOf_X8_lengthOf
set_option maxRecDepth 20000 in
theorem ggX8_labelOf_X8_parentOf : GoodIn wsX8_labelOf wsX8_parentOf := goodIn_r _ [13, 1, 2, 3, 4, 5, 6, 14, 15, 16, 7, 8, 9, 17, 18, 19, 20, 21, 22, 23, 24, 25, 26, 27, 28, 29, 30, 31, 32, 33, 34, 35, 36, 37] (by decide +kernel) (by decide +kernel)
set_option maxRecDepth 20000 in
theorem gX8_labelOf_X8_parentOf : GoodIn wsX8_labelOf (wsV RX8 67 RX8 yX8_parentOf wsX8_parentOf) := goodIn_app (goodIn_of _ (by decide +kernel)) ggX8_labelOf_X8_parentOf
theorem dX8_labelOf_0 : decode cX8_labelOf 0 = .ok (.iload_n 1, 1) := by decide +kernel
theorem dX8_labelOf_1 : decode cX8_labelOf 1 = .ok (.ifCond .ne 7, 3) := by decide +kernel
theorem dX8_labelOf_4 : decode cX8_labelOf 4 = .ok (.iconst 0, 1) := by decide +kernel
theorem dX8_labelOf_5 : decode cX8_labelOf 5 = .ok (.goto 24, 3) := by decide +kernel
theorem dX8_labelOf_8 : decode cX8_labelOf 8 = .ok (.aload_n 0, 1) := by decide +kernel
theorem dX8_labelOf_9 : decode cX8_labelOf 9 = .ok (.iload_n 1, 1) := by decide +kernel
theorem dX8_labelOf_10 : decode cX8_labelOf 10 = .ok (.invokevirtual 64, 3) := by decide +kernel
theorem dX8_labelOf_13 : decode cX8_labelOf 13 = .ok (.invokestatic 37, 3) := by decide +kernel
theorem dX8_labelOf_16 : decode cX8_labelOf 16 = .ok (.aload_n 0, 1) := by decide +kernel
theorem dX8_labelOf_17 : decode cX8_labelOf 17 = .ok (.aload_n 0, 1) := by decide +kernel
theorem dX8_labelOf_18 : decode cX8_labelOf 18 = .ok (.iload_n 1, 1) := by decide +kernel
theorem dX8_labelOf_19 : decode cX8_labelOf 19 = .ok (.invokevirtual 67, 3) := by decide +kernel
theorem dX8_labelOf_22 : decode cX8_labelOf 22 = .ok (.invokevirtual 64, 3) := by decide +kernel
theorem dX8_labelOf_25 : decode cX8_labelOf 25 = .ok (.invokestatic 37, 3) := by decide +kernel
theorem dX8_labelOf_28 : decode cX8_labelOf 28 = .ok (.isub, 1) := by decide +kernel
theorem dX8_labelOf_29 : decode cX8_labelOf 29 = .ok (.ireturn, 1) := by decide +kernel
set_option maxRecDepth 20000 in
theorem ggX8_whyNoMove_X8_prefixOf : GoodIn wsX8_whyNoMove wsX8_prefixOf := goodIn_r _ [6, 1, 46, 47, 48, 49, 50, 51, 52, 53, 54, 55, 56, 57] (by decide +kernel) (by decide +kernel)
set_option maxRecDepth 20000 in
theorem gX8_whyNoMove_X8_prefixOf : GoodIn wsX8_whyNoMove (wsV RX8 64 RX8 yX8_prefixOf wsX8_prefixOf) := goodIn_app (goodIn_of _ (by decide +kernel)) ggX8_whyNoMove_X8_prefixOf
set_option maxRecDepth 20000 in
theorem ggX8_whyNoMove_X8_findName : GoodIn wsX8_whyNoMove wsX8_findName := goodIn_r _ [10, 1, 11, 12, 13, 5, 14, 15, 16, 17, 18, 46, 47, 48, 49, 50, 51, 52, 53, 54, 55, 56, 57] (by decide +kernel) (by decide +kernel)
set_option maxRecDepth 20000 in
theorem gX8_whyNoMove_X8_findName : GoodIn wsX8_whyNoMove (wsV RX8 70 RX8 yX8_findName wsX8_findName) := goodIn_app (goodIn_of _ (by decide +kernel)) ggX8_whyNoMove_X8_findName
set_option maxRecDepth 20000 in
theorem ggX8_whyNoMove_X8_childrenOf : GoodIn wsX8_whyNoMove wsX8_childrenOf := goodIn_r _ [22, 1, 23, 24, 25, 5, 26, 2, 3, 4, 6, 27, 28, 29, 30, 31, 32, 33, 34, 35, 36, 37, 38, 39, 40, 41, 46, 47, 48, 49, 50, 51, 52, 53, 54, 55, 56, 57] (by decide +kernel) (by decide +kernel)
set_option maxRecDepth 20000 in
theorem gX8_whyNoMove_X8_childrenOf : GoodIn wsX8_whyNoMove (wsV RX8 73 RX8 yX8_childrenOf wsX8_childrenOf) := goodIn_app (goodIn_of _ (by decide +kernel)) ggX8_whyNoMove_X8_childrenOf
set_option maxRecDepth 20000 in
theorem ggX8_whyNoMove_X8_labelOf : GoodIn wsX8_whyNoMove wsX8_labelOf := goodIn_r _ [45, 2, 3, 4, 5, 6, 1, 30, 31, 32, 23, 24, 25, 26, 27, 28, 29, 33, 34, 35, 36, 37, 38, 39, 40, 41, 46, 47, 48, 49, 50, 51, 52, 53, 54, 55, 56, 57] (by decide +kernel) (by decide +kernel)
set_option maxRecDepth 20000 in
theorem gX8_whyNoMove_X8_labelOf : GoodIn wsX8_whyNoMove (wsV RX8 76 RX8 yX8_labelOf wsX8_labelOf) := goodIn_app (goodIn_of _ (by decide +kernel)) ggX8_whyNoMove_X8_labelOf
theorem dX8_whyNoMove_0 : decode cX8_whyNoMove 0 = .ok (.iload_n 1, 1) := by decide +kernel
theorem dX8_whyNoMove_1 : decode cX8_whyNoMove 1 = .ok (.ifCond .ne 5, 3) := by decide +kernel
theorem dX8_whyNoMove_4 : decode cX8_whyNoMove 4 = .ok (.iconst 1, 1) := by decide +kernel
theorem dX8_whyNoMove_5 : decode cX8_whyNoMove 5 = .ok (.ireturn, 1) := by decide +kernel
theorem dX8_whyNoMove_6 : decode cX8_whyNoMove 6 = .ok (.aload_n 0, 1) := by decide +kernel
theorem dX8_whyNoMove_7 : decode cX8_whyNoMove 7 = .ok (.aload_n 0, 1) := by decide +kernel
theorem dX8_whyNoMove_8 : decode cX8_whyNoMove 8 = .ok (.iload_n 1, 1) := by decide +kernel
theorem dX8_whyNoMove_9 : decode cX8_whyNoMove 9 = .ok (.invokevirtual 64, 3) := by decide +kernel
theorem dX8_whyNoMove_12 : decode cX8_whyNoMove 12 = .ok (.invokevirtual 70, 3) := by decide +kernel
theorem dX8_whyNoMove_15 : decode cX8_whyNoMove 15 = .ok (.iconst (-1), 1) := by decide +kernel
theorem dX8_whyNoMove_16 : decode cX8_whyNoMove 16 = .ok (.if_icmp .eq 5, 3) := by decide +kernel
theorem dX8_whyNoMove_19 : decode cX8_whyNoMove 19 = .ok (.iconst 2, 1) := by decide +kernel
theorem dX8_whyNoMove_20 : decode cX8_whyNoMove 20 = .ok (.ireturn, 1) := by decide +kernel
theorem dX8_whyNoMove_21 : decode cX8_whyNoMove 21 = .ok (.aload_n 0, 1) := by decide +kernel
theorem dX8_whyNoMove_22 : decode cX8_whyNoMove 22 = .ok (.iload_n 1, 1) := by decide +kernel
theorem dX8_whyNoMove_23 : decode cX8_whyNoMove 23 = .ok (.invokevirtual 73, 3) := by decide +kernel
theorem dX8_whyNoMove_26 : decode cX8_whyNoMove 26 = .ok (.iconst 1, 1) := by decide +kernel
theorem dX8_whyNoMove_27 : decode cX8_whyNoMove 27 = .ok (.if_icmp .le 5, 3) := by decide +kernel
theorem dX8_whyNoMove_30 : decode cX8_whyNoMove 30 = .ok (.iconst 3, 1) := by decide +kernel
theorem dX8_whyNoMove_31 : decode cX8_whyNoMove 31 = .ok (.ireturn, 1) := by decide +kernel
theorem dX8_whyNoMove_32 : decode cX8_whyNoMove 32 = .ok (.aload_n 0, 1) := by decide +kernel
theorem dX8_whyNoMove_33 : decode cX8_whyNoMove 33 = .ok (.iload_n 1, 1) := by decide +kernel
theorem dX8_whyNoMove_34 : decode cX8_whyNoMove 34 = .ok (.invokevirtual 76, 3) := by decide +kernel
theorem dX8_whyNoMove_37 : decode cX8_whyNoMove 37 = .ok (.aload_n 0, 1) := by decide +kernel
theorem dX8_whyNoMove_38 : decode cX8_whyNoMove 38 = .ok (.iload_n 1, 1) := by decide +kernel
theorem dX8_whyNoMove_39 : decode cX8_whyNoMove 39 = .ok (.iconst 1, 1) := by decide +kernel
theorem dX8_whyNoMove_40 : decode cX8_whyNoMove 40 = .ok (.iadd, 1) := by decide +kernel
theorem dX8_whyNoMove_41 : decode cX8_whyNoMove 41 = .ok (.invokevirtual 76, 3) := by decide +kernel
theorem dX8_whyNoMove_44 : decode cX8_whyNoMove 44 = .ok (.iadd, 1) := by decide +kernel
theorem dX8_whyNoMove_45 : decode cX8_whyNoMove 45 = .ok (.aload_n 0, 1) := by decide +kernel
theorem dX8_whyNoMove_46 : decode cX8_whyNoMove 46 = .ok (.getfield 7, 3) := by decide +kernel
theorem dX8_whyNoMove_49 : decode cX8_whyNoMove 49 = .ok (.iconst 0, 1) := by decide +kernel
theorem dX8_whyNoMove_50 : decode cX8_whyNoMove 50 = .ok (.iaload, 1) := by decide +kernel
theorem dX8_whyNoMove_51 : decode cX8_whyNoMove 51 = .ok (.if_icmp .le 7, 3) := by decide +kernel
theorem dX8_whyNoMove_54 : decode cX8_whyNoMove 54 = .ok (.iconst 4, 1) := by decide +kernel
theorem dX8_whyNoMove_55 : decode cX8_whyNoMove 55 = .ok (.goto 4, 3) := by decide +kernel
theorem dX8_whyNoMove_58 : decode cX8_whyNoMove 58 = .ok (.iconst 0, 1) := by decide +kernel
theorem dX8_whyNoMove_59 : decode cX8_whyNoMove 59 = .ok (.ireturn, 1) := by decide +kernel
set_option maxRecDepth 20000 in
theorem ggX8_longestPrefix_X8_lengthOf : GoodIn wsX8_longestPrefix wsX8_lengthOf := goodIn_r _ [4] (by decide +kernel) (by decide +kernel)
set_option maxRecDepth 20000 in
theorem gX8_longestPrefix_X8_lengthOf : GoodIn wsX8_longestPrefix (va_wsS RX8 37 yX8_lengthOf wsX8_lengthOf) := goodIn_app (goodIn_of _ (by decide +kernel)) ggX8_longestPrefix_X8_lengthOf
set_option maxRecDepth 20000 in
theorem ggX8_longestPrefix_X8_shortened : GoodIn wsX8_longestPrefix wsX8_shortened := goodIn_r _ [7, 8, 9, 3, 10, 1, 2, 4, 11, 12, 13] (by decide +kernel) (by decide +kernel)
set_option maxRecDepth 20000 in
theorem gX8_longestPrefix_X8_shortened : GoodIn wsX8_longestPrefix (va_wsS RX8 48 yX8_shortened wsX8_shortened) := goodIn_app (goodIn_of _ (by decide +kernel)) ggX8_longestPrefix_X8_shortened
set_option maxRecDepth 20000 in
theorem ggX8_longestPrefix_X8_isInTown : GoodIn wsX8_longestPrefix wsX8_isInTown := goodIn_r _ [17, 1, 2, 3, 4, 18, 19, 20, 21, 22, 23, 24, 25, 26, 27, 28, 29, 5, 6, 7, 8, 9, 10, 11, 12, 13, 30, 31, 32, 33, 34, 35, 36, 37, 38, 39, 40, 41] (by decide +kernel) (by decide +kernel)
set_option maxRecDepth 20000 in
theorem gX8_longestPrefix_X8_isInTown : GoodIn wsX8_longestPrefix (wsV RX8 79 RX8 yX8_isInTown wsX8_isInTown) := goodIn_app (goodIn_of _ (by decide +kernel)) ggX8_longestPrefix_X8_isInTown
theorem dX8_longestPrefix_0 : decode cX8_longestPrefix 0 = .ok (.iload_n 1, 1) := by decide +kernel
theorem dX8_longestPrefix_1 : decode cX8_longestPrefix 1 = .ok (.invokestatic 37, 3) := by decide +kernel
theorem dX8_longestPrefix_4 : decode cX8_longestPrefix 4 = .ok (.istore_n 2, 1) := by decide +kernel
theorem dX8_longestPrefix_5 : decode cX8_longestPrefix 5 = .ok (.aload_n 0, 1) := by decide +kernel
theorem dX8_longestPrefix_6 : decode cX8_longestPrefix 6 = .ok (.iload_n 1, 1) := by decide +kernel
theorem dX8_longestPrefix_7 : decode cX8_longestPrefix 7 = .ok (.iload_n 2, 1) := by decide +kernel
theorem dX8_longestPrefix_8 : decode cX8_longestPrefix 8 = .ok (.invokestatic 48, 3) := by decide +kernel
theorem dX8_longestPrefix_11 : decode cX8_longestPrefix 11 = .ok (.invokevirtual 79, 3) := by decide +kernel
theorem dX8_longestPrefix_14 : decode cX8_longestPrefix 14 = .ok (.ifCond .ne 9, 3) := by decide +kernel
theorem dX8_longestPrefix_17 : decode cX8_longestPrefix 17 = .ok (.iinc 2 (-1), 3) := by decide +kernel
theorem dX8_longestPrefix_20 : decode cX8_longestPrefix 20 = .ok (.goto (-15), 3) := by decide +kernel
theorem dX8_longestPrefix_23 : decode cX8_longestPrefix 23 = .ok (.iload_n 2, 1) := by decide +kernel
theorem dX8_longestPrefix_24 : decode cX8_longestPrefix 24 = .ok (.ireturn, 1) := by decide +kernel
set_option maxRecDepth 20000 in
theorem ggX8_whyNotAdded_X8_isPrefix : GoodIn wsX8_whyNotAdded wsX8_isPrefix := goodIn_r _ [5, 6, 7, 4, 8] (by decide +kernel) (by decide +kernel)
set_option maxRecDepth 20000 in
theorem gX8_whyNotAdded_X8_isPrefix : GoodIn wsX8_whyNotAdded (va_wsS RX8 83 yX8_isPrefix wsX8_isPrefix) := goodIn_app (goodIn_of _ (by decide +kernel)) ggX8_whyNotAdded_X8_isPrefix
set_option maxRecDepth 20000 in
theorem ggX8_whyNotAdded_X8_within : GoodIn wsX8_whyNotAdded wsX8_within := goodIn_r _ [8] (by decide +kernel) (by decide +kernel)
set_option maxRecDepth 20000 in
theorem gX8_whyNotAdded_X8_within : GoodIn wsX8_whyNotAdded (va_wsS RX8 33 yX8_within wsX8_within) := goodIn_app (goodIn_of _ (by decide +kernel)) ggX8_whyNotAdded_X8_within
set_option maxRecDepth 20000 in
theorem ggX8_whyNotAdded_X8_code : GoodIn wsX8_whyNotAdded wsX8_code := goodIn_r _ [11] (by decide +kernel) (by decide +kernel)
set_option maxRecDepth 20000 in
theorem gX8_whyNotAdded_X8_code : GoodIn wsX8_whyNotAdded (va_wsS RX8 44 yX8_code wsX8_code) := goodIn_app (goodIn_of _ (by decide +kernel)) ggX8_whyNotAdded_X8_code
set_option maxRecDepth 20000 in
theorem ggX8_whyNotAdded_X8_findName : GoodIn wsX8_whyNotAdded wsX8_findName := goodIn_r _ [15, 1, 16, 17, 18, 4, 19, 20, 21, 22, 23, 24, 25, 26, 27, 28, 29, 30, 31, 32, 33, 34, 35] (by decide +kernel) (by decide +kernel)
set_option maxRecDepth 20000 in
theorem gX8_whyNotAdded_X8_findName : GoodIn wsX8_whyNotAdded (wsV RX8 70 RX8 yX8_findName wsX8_findName) := goodIn_app (goodIn_of _ (by decide +kernel)) ggX8_whyNotAdded_X8_findName
theorem dX8_whyNotAdded_0 : decode cX8_whyNotAdded 0 = .ok (.iload_n 1, 1) := by decide +kernel

theorem dL_cell_0 : decode cL_cell 0 = .ok (.aload_n 0, 1) := by decide +kernel
theorem dL_cell_1 : decode cL_cell 1 = .ok (.arraylength, 1) := by decide +kernel
theorem dL_cell_2 : decode cL_cell 2 = .ok (.ifCond .ne 11, 3) := by decide +kernel
theorem dL_cell_5 : decode cL_cell 5 = .ok (.sipush 577, 3) := by decide +kernel
theorem dL_cell_8 : decode cL_cell 8 = .ok (.iload_n 1, 1) := by decide +kernel
theorem dL_cell_9 : decode cL_cell 9 = .ok (.imul, 1) := by decide +kernel
theorem dL_cell_10 : decode cL_cell 10 = .ok (.goto 12, 3) := by decide +kernel
theorem dL_cell_13 : decode cL_cell 13 = .ok (.aload_n 0, 1) := by decide +kernel
theorem dL_cell_14 : decode cL_cell 14 = .ok (.iload_n 1, 1) := by decide +kernel
theorem dL_cell_15 : decode cL_cell 15 = .ok (.ldc 7, 2) := by decide +kernel
theorem dL_cell_17 : decode cL_cell 17 = .ok (.iand, 1) := by decide +kernel
theorem dL_cell_18 : decode cL_cell 18 = .ok (.aload_n 0, 1) := by decide +kernel
theorem dL_cell_19 : decode cL_cell 19 = .ok (.arraylength, 1) := by decide +kernel
theorem dL_cell_20 : decode cL_cell 20 = .ok (.irem, 1) := by decide +kernel
theorem dL_cell_21 : decode cL_cell 21 = .ok (.iaload, 1) := by decide +kernel
theorem dL_cell_22 : decode cL_cell 22 = .ok (.ireturn, 1) := by decide +kernel
set_option maxRecDepth 20000 in
theorem ggL_lay_X4_lay : GoodIn wsL_lay wsX4_lay := goodIn_ca (goodIn_ca (goodIn_ca (goodIn_ca (goodIn_r _ [9, 10, 11, 12, 13, 14, 15, 16, 17, 8, 18, 19, 20, 21, 22, 23, 24, 25, 26, 27, 28, 29, 30, 31, 32, 33, 34, 35, 36, 37, 38, 39, 40, 41, 42, 43, 44, 45, 46, 47, 48, 49, 50, 51, 52, 53, 54, 55, 56, 57, 58, 59, 60, 61, 62, 63, 64, 65, 66, 67, 68, 69, 70, 71, 72, 73, 74, 75, 76, 77, 78, 79, 80, 81, 82, 83, 84, 85, 86, 87, 88, 89, 90, 91, 92, 93, 94, 95, 96, 97, 98, 99, 100, 101, 102, 103, 104, 105, 106, 107, 108, 109, 110, 111, 112, 113, 114] (by decide +kernel) (by decide +kernel)) (goodIn_sub (fun _ h => List.mem_cons_of_mem _ (List.mem_append_left _ (List.mem_append_left _ (List.mem_append_left _ (List.mem_append_right _ h))))) (by decide +kernel))) (goodIn_sub (fun _ h => List.mem_cons_of_mem _ (List.mem_append_left _ (List.mem_append_left _ (List.mem_append_right _ h)))) (by decide +kernel))) (goodIn_sub (fun _ h => List.mem_cons_of_mem _ (List.mem_append_left _ (List.mem_append_right _ h))) (by decide +kernel))) (goodIn_sub (fun _ h => List.mem_cons_of_mem _ (List.mem_append_right _ h)) (by decide +kernel))
set_option maxRecDepth 20000 in
theorem gL_lay_X4_lay : GoodIn wsL_lay (wsV RL 11 RX4 yX4_lay wsX4_lay) := goodIn_app (goodIn_of _ (by decide +kernel)) ggL_lay_X4_lay
theorem dL_lay_0 : decode cL_lay 0 = .ok (.ldc 10, 2) := by decide +kernel
theorem dL_lay_2 : decode cL_lay 2 = .ok (.istore 4, 2) := by decide +kernel
theorem dL_lay_4 : decode cL_lay 4 = .ok (.aload_n 0, 1) := by decide +kernel
theorem dL_lay_5 : decode cL_lay 5 = .ok (.iload_n 1, 1) := by decide +kernel
theorem dL_lay_6 : decode cL_lay 6 = .ok (.iload_n 2, 1) := by decide +kernel
theorem dL_lay_7 : decode cL_lay 7 = .ok (.iload_n 3, 1) := by decide +kernel
theorem dL_lay_8 : decode cL_lay 8 = .ok (.invokevirtual 11, 3) := by decide +kernel
theorem dL_lay_11 : decode cL_lay 11 = .ok (.istore 4, 2) := by decide +kernel
theorem dL_lay_13 : decode cL_lay 13 = .ok (.goto 18, 3) := by decide +kernel
theorem dL_lay_16 : decode cL_lay 16 = .ok (.astore 5, 2) := by decide +kernel
theorem dL_lay_18 : decode cL_lay 18 = .ok (.ldc 10, 2) := by decide +kernel
theorem dL_lay_20 : decode cL_lay 20 = .ok (.ireturn, 1) := by decide +kernel
theorem dL_lay_21 : decode cL_lay 21 = .ok (.astore 5, 2) := by decide +kernel
theorem dL_lay_23 : decode cL_lay 23 = .ok (.ldc 10, 2) := by decide +kernel
theorem dL_lay_25 : decode cL_lay 25 = .ok (.ireturn, 1) := by decide +kernel
theorem dL_lay_26 : decode cL_lay 26 = .ok (.astore 5, 2) := by decide +kernel
theorem dL_lay_28 : decode cL_lay 28 = .ok (.ldc 10, 2) := by decide +kernel
theorem dL_lay_30 : decode cL_lay 30 = .ok (.ireturn, 1) := by decide +kernel
theorem dL_lay_31 : decode cL_lay 31 = .ok (.iload 4, 2) := by decide +kernel
theorem dL_lay_33 : decode cL_lay 33 = .ok (.ireturn, 1) := by decide +kernel
set_option maxRecDepth 20000 in
theorem ggL_wall_X4_wall : GoodIn wsL_wall wsX4_wall := goodIn_ca (goodIn_ca (goodIn_ca (goodIn_r _ [8, 9, 10, 11, 12, 7, 13, 14, 15, 16, 17, 18, 19, 20, 21, 22, 23, 24, 25, 26, 27, 28, 29, 30, 31, 32, 33, 34, 35, 36, 37, 38, 39, 40, 41, 42, 43, 44, 45, 46, 47, 48, 49, 50, 51, 52, 53, 54, 55, 56, 57, 58, 59, 60, 61, 62, 63, 64, 65, 66, 67, 68, 69, 70, 71, 72, 73, 74, 75, 76, 77, 78, 79, 80, 81, 82, 83, 84, 85, 86, 87, 88, 89, 90, 91, 92, 93, 94, 95, 96, 97] (by decide +kernel) (by decide +kernel)) (goodIn_sub (fun _ h => List.mem_cons_of_mem _ (List.mem_append_left _ (List.mem_append_left _ (List.mem_append_right _ h)))) (by decide +kernel))) (goodIn_sub (fun _ h => List.mem_cons_of_mem _ (List.mem_append_left _ (List.mem_append_right _ h))) (by decide +kernel))) (goodIn_sub (fun _ h => List.mem_cons_of_mem _ (List.mem_append_right _ h)) (by decide +kernel))
set_option maxRecDepth 20000 in
theorem gL_wall_X4_wall : GoodIn wsL_wall (wsV RL 23 RX4 yX4_wall wsX4_wall) := goodIn_app (goodIn_of _ (by decide +kernel)) ggL_wall_X4_wall
theorem dL_wall_0 : decode cL_wall 0 = .ok (.ldc 10, 2) := by decide +kernel
theorem dL_wall_2 : decode cL_wall 2 = .ok (.istore_n 2, 1) := by decide +kernel
theorem dL_wall_3 : decode cL_wall 3 = .ok (.aload_n 0, 1) := by decide +kernel
theorem dL_wall_4 : decode cL_wall 4 = .ok (.iload_n 1, 1) := by decide +kernel
theorem dL_wall_5 : decode cL_wall 5 = .ok (.invokevirtual 23, 3) := by decide +kernel
theorem dL_wall_8 : decode cL_wall 8 = .ok (.istore_n 2, 1) := by decide +kernel
theorem dL_wall_9 : decode cL_wall 9 = .ok (.goto 11, 3) := by decide +kernel
theorem dL_wall_12 : decode cL_wall 12 = .ok (.astore_n 3, 1) := by decide +kernel
theorem dL_wall_13 : decode cL_wall 13 = .ok (.ldc 10, 2) := by decide +kernel
theorem dL_wall_15 : decode cL_wall 15 = .ok (.ireturn, 1) := by decide +kernel
theorem dL_wall_16 : decode cL_wall 16 = .ok (.astore_n 3, 1) := by decide +kernel
theorem dL_wall_17 : decode cL_wall 17 = .ok (.ldc 10, 2) := by decide +kernel
theorem dL_wall_19 : decode cL_wall 19 = .ok (.ireturn, 1) := by decide +kernel
theorem dL_wall_20 : decode cL_wall 20 = .ok (.iload_n 2, 1) := by decide +kernel
theorem dL_wall_21 : decode cL_wall 21 = .ok (.ireturn, 1) := by decide +kernel
set_option maxRecDepth 20000 in
theorem ggL_move_X4_move : GoodIn wsL_move wsX4_move := goodIn_ca (goodIn_ca (goodIn_ca (goodIn_r _ [8, 9, 10, 11, 12, 7, 13, 14, 15, 16, 17, 18, 19, 20, 21, 22, 23, 24, 25, 26, 27, 28, 29, 30, 31, 32, 33, 34, 35, 36, 37, 38, 39, 40, 41, 42, 43, 44, 45, 46, 47, 48, 49, 50, 51, 52, 53, 54, 55, 56, 57, 58, 59, 60, 61, 62, 63, 64, 65, 66, 67, 68, 69, 70, 71, 72, 73, 74, 75, 76, 77, 78, 79, 80, 81, 82, 83, 84, 85, 86, 87, 88, 89, 90, 91, 92, 93, 94, 95, 96, 97, 98, 99, 100, 101, 102, 103, 104, 105, 106, 107, 108, 109, 110, 111, 112, 113, 114, 115, 116, 117, 118, 119, 120, 121, 122, 123, 124, 125, 126, 127, 128, 129, 130, 131, 132, 133, 134, 135, 136, 137, 138, 139, 140, 141, 142, 143, 144, 145, 146, 147, 148, 149, 150, 151, 152, 153, 154, 155, 156, 157, 158, 159, 160, 161, 162, 163, 164, 165, 166, 167, 168, 169, 170, 171, 172, 173, 174, 175, 176, 177, 178, 179, 180, 181, 182, 183, 184, 185, 186, 187, 188, 189, 190, 191, 192, 193] (by decide +kernel) (by decide +kernel)) (goodIn_sub (fun _ h => List.mem_cons_of_mem _ (List.mem_append_left _ (List.mem_append_left _ (List.mem_append_right _ h)))) (by decide +kernel))) (goodIn_sub (fun _ h => List.mem_cons_of_mem _ (List.mem_append_left _ (List.mem_append_right _ h))) (by decide +kernel))) (goodIn_sub (fun _ h => List.mem_cons_of_mem _ (List.mem_append_right _ h)) (by decide +kernel))
set_option maxRecDepth 20000 in
theorem gL_move_X4_move : GoodIn wsL_move (wsV RL 27 RX4 yX4_move wsX4_move) := goodIn_app (goodIn_of _ (by decide +kernel)) ggL_move_X4_move
theorem dL_move_0 : decode cL_move 0 = .ok (.ldc 10, 2) := by decide +kernel
theorem dL_move_2 : decode cL_move 2 = .ok (.istore_n 3, 1) := by decide +kernel
theorem dL_move_3 : decode cL_move 3 = .ok (.aload_n 0, 1) := by decide +kernel
theorem dL_move_4 : decode cL_move 4 = .ok (.iload_n 1, 1) := by decide +kernel
theorem dL_move_5 : decode cL_move 5 = .ok (.iload_n 2, 1) := by decide +kernel
theorem dL_move_6 : decode cL_move 6 = .ok (.invokevirtual 27, 3) := by decide +kernel
theorem dL_move_9 : decode cL_move 9 = .ok (.istore_n 3, 1) := by decide +kernel
theorem dL_move_10 : decode cL_move 10 = .ok (.goto 13, 3) := by decide +kernel
theorem dL_move_13 : decode cL_move 13 = .ok (.astore 4, 2) := by decide +kernel
theorem dL_move_15 : decode cL_move 15 = .ok (.ldc 10, 2) := by decide +kernel
theorem dL_move_17 : decode cL_move 17 = .ok (.ireturn, 1) := by decide +kernel
theorem dL_move_18 : decode cL_move 18 = .ok (.astore 4, 2) := by decide +kernel
theorem dL_move_20 : decode cL_move 20 = .ok (.ldc 10, 2) := by decide +kernel
theorem dL_move_22 : decode cL_move 22 = .ok (.ireturn, 1) := by decide +kernel
theorem dL_move_23 : decode cL_move 23 = .ok (.iload_n 3, 1) := by decide +kernel
theorem dL_move_24 : decode cL_move 24 = .ok (.ireturn, 1) := by decide +kernel
set_option maxRecDepth 20000 in
theorem ggL_door_X4_door : GoodIn wsL_door wsX4_door := goodIn_ca (goodIn_ca (goodIn_ca (goodIn_r _ [8, 9, 10, 11, 12, 7, 13, 14, 15, 16, 17, 18, 19, 20, 21, 22, 23, 24, 25, 26, 27, 28, 29, 30, 31, 32, 33, 34, 35, 36, 37, 38, 39, 40, 41, 42, 43, 44, 45, 46, 47, 48, 49, 50, 51, 52, 53, 54, 55, 56, 57, 58, 59, 60, 61, 62, 63, 64, 65, 66, 67, 68, 69, 70, 71, 72, 73, 74, 75, 76, 77, 78, 79, 80, 81, 82, 83, 84, 85, 86, 87, 88, 89, 90, 91, 92, 93, 94, 95, 96, 97, 98, 99, 100, 101, 102, 103, 104, 105, 106, 107, 108, 109, 110, 111, 112, 113, 114, 115, 116, 117, 118, 119, 120, 121, 122, 123, 124, 125, 126, 127, 128, 129, 130, 131, 132, 133, 134, 135, 136, 137, 138, 139, 140, 141, 142, 143, 144, 145, 146, 147, 148, 149, 150, 151, 152, 153, 154, 155, 156, 157, 158, 159, 160, 161, 162, 163] (by decide +kernel) (by decide +kernel)) (goodIn_sub (fun _ h => List.mem_cons_of_mem _ (List.mem_append_left _ (List.mem_append_left _ (List.mem_append_right _ h)))) (by decide +kernel))) (goodIn_sub (fun _ h => List.mem_cons_of_mem _ (List.mem_append_left _ (List.mem_append_right _ h))) (by decide +kernel))) (goodIn_sub (fun _ h => List.mem_cons_of_mem _ (List.mem_append_right _ h)) (by decide +kernel))
set_option maxRecDepth 20000 in
theorem gL_door_X4_door : GoodIn wsL_door (wsV RL 33 RX4 yX4_door wsX4_door) := goodIn_app (goodIn_of _ (by decide +kernel)) ggL_door_X4_door
theorem dL_door_0 : decode cL_door 0 = .ok (.ldc 10, 2) := by decide +kernel
theorem dL_door_2 : decode cL_door 2 = .ok (.istore_n 2, 1) := by decide +kernel
theorem dL_door_3 : decode cL_door 3 = .ok (.aload_n 0, 1) := by decide +kernel
theorem dL_door_4 : decode cL_door 4 = .ok (.iload_n 1, 1) := by decide +kernel
theorem dL_door_5 : decode cL_door 5 = .ok (.invokevirtual 33, 3) := by decide +kernel
theorem dL_door_8 : decode cL_door 8 = .ok (.istore_n 2, 1) := by decide +kernel
theorem dL_door_9 : decode cL_door 9 = .ok (.goto 11, 3) := by decide +kernel
theorem dL_door_12 : decode cL_door 12 = .ok (.astore_n 3, 1) := by decide +kernel
theorem dL_door_13 : decode cL_door 13 = .ok (.ldc 10, 2) := by decide +kernel
theorem dL_door_15 : decode cL_door 15 = .ok (.ireturn, 1) := by decide +kernel
theorem dL_door_16 : decode cL_door 16 = .ok (.astore_n 3, 1) := by decide +kernel
theorem dL_door_17 : decode cL_door 17 = .ok (.ldc 10, 2) := by decide +kernel
theorem dL_door_19 : decode cL_door 19 = .ok (.ireturn, 1) := by decide +kernel
theorem dL_door_20 : decode cL_door 20 = .ok (.iload_n 2, 1) := by decide +kernel
theorem dL_door_21 : decode cL_door 21 = .ok (.ireturn, 1) := by decide +kernel
set_option maxRecDepth 20000 in
theorem ggL_buy_X4_buy : GoodIn wsL_buy wsX4_buy := goodIn_ca (goodIn_ca (goodIn_ca (goodIn_r _ [8, 9, 10, 11, 12, 7, 13, 14, 15, 16, 17, 18, 19, 20, 21, 22, 23, 24, 25, 26, 27, 28, 29, 30, 31, 32, 33, 34, 35, 36, 37, 38, 39, 40, 41, 42, 43, 44, 45, 46, 47, 48, 49, 50, 51, 52, 53, 54, 55, 56, 57, 58, 59, 60, 61, 62, 63, 64, 65, 66, 67, 68, 69, 70, 71, 72, 73, 74, 75, 76, 77, 78, 79, 80, 81, 82, 83, 84, 85, 86, 87, 88, 89, 90, 91, 92, 93, 94, 95, 96, 97, 98, 99, 100, 101, 102, 103, 104, 105, 106, 107, 108, 109, 110, 111, 112, 113, 114, 115, 116, 117, 118, 119, 120, 121, 122, 123, 124, 125, 126, 127, 128, 129, 130, 131, 132, 133, 134, 135, 136, 137, 138, 139, 140, 141, 142, 143, 144, 145, 146, 147, 148, 149, 150, 151, 152, 153, 154, 155, 156, 157, 158, 159, 160, 161, 162, 163] (by decide +kernel) (by decide +kernel)) (goodIn_sub (fun _ h => List.mem_cons_of_mem _ (List.mem_append_left _ (List.mem_append_left _ (List.mem_append_right _ h)))) (by decide +kernel))) (goodIn_sub (fun _ h => List.mem_cons_of_mem _ (List.mem_append_left _ (List.mem_append_right _ h))) (by decide +kernel))) (goodIn_sub (fun _ h => List.mem_cons_of_mem _ (List.mem_append_right _ h)) (by decide +kernel))
set_option maxRecDepth 20000 in
theorem gL_buy_X4_buy : GoodIn wsL_buy (wsV RL 36 RX4 yX4_buy wsX4_buy) := goodIn_app (goodIn_of _ (by decide +kernel)) ggL_buy_X4_buy
theorem dL_buy_0 : decode cL_buy 0 = .ok (.ldc 10, 2) := by decide +kernel
theorem dL_buy_2 : decode cL_buy 2 = .ok (.istore_n 2, 1) := by decide +kernel
theorem dL_buy_3 : decode cL_buy 3 = .ok (.aload_n 0, 1) := by decide +kernel
theorem dL_buy_4 : decode cL_buy 4 = .ok (.iload_n 1, 1) := by decide +kernel
theorem dL_buy_5 : decode cL_buy 5 = .ok (.invokevirtual 36, 3) := by decide +kernel
theorem dL_buy_8 : decode cL_buy 8 = .ok (.istore_n 2, 1) := by decide +kernel
theorem dL_buy_9 : decode cL_buy 9 = .ok (.goto 11, 3) := by decide +kernel
theorem dL_buy_12 : decode cL_buy 12 = .ok (.astore_n 3, 1) := by decide +kernel
theorem dL_buy_13 : decode cL_buy 13 = .ok (.ldc 10, 2) := by decide +kernel
theorem dL_buy_15 : decode cL_buy 15 = .ok (.ireturn, 1) := by decide +kernel
theorem dL_buy_16 : decode cL_buy 16 = .ok (.astore_n 3, 1) := by decide +kernel
theorem dL_buy_17 : decode cL_buy 17 = .ok (.ldc 10, 2) := by decide +kernel
theorem dL_buy_19 : decode cL_buy 19 = .ok (.ireturn, 1) := by decide +kernel
theorem dL_buy_20 : decode cL_buy 20 = .ok (.iload_n 2, 1) := by decide +kernel
theorem dL_buy_21 : decode cL_buy 21 = .ok (.ireturn, 1) := by decide +kernel
set_option maxRecDepth 20000 in
theorem ggL_moves_X4_moves : GoodIn wsL_moves wsX4_moves := goodIn_ca (goodIn_ca (goodIn_ca (goodIn_r _ [7, 8, 9, 10, 6, 11, 12, 13, 14, 15, 16, 17, 18, 19, 20, 21, 22, 23, 24, 25, 26, 27, 28, 29, 30, 31, 32, 33, 34, 35, 36, 37, 38, 39, 40, 41, 42, 43, 44, 45, 46, 47, 48, 49, 50, 51, 52, 53, 54, 55, 56, 57, 58, 59, 60, 61, 62, 63, 64, 65, 66, 67, 68, 69, 70, 71, 72, 73, 74, 75, 76, 77, 78, 79, 80, 81, 82, 83, 84, 85, 86, 87, 88, 89, 90, 91, 92, 93, 94, 95, 96, 97, 98, 99, 100, 101, 102, 103, 104, 105, 106, 107, 108, 109, 110, 111, 112, 113] (by decide +kernel) (by decide +kernel)) (goodIn_sub (fun _ h => List.mem_cons_of_mem _ (List.mem_append_left _ (List.mem_append_left _ (List.mem_append_right _ h)))) (by decide +kernel))) (goodIn_sub (fun _ h => List.mem_cons_of_mem _ (List.mem_append_left _ (List.mem_append_right _ h))) (by decide +kernel))) (goodIn_sub (fun _ h => List.mem_cons_of_mem _ (List.mem_append_right _ h)) (by decide +kernel))
set_option maxRecDepth 20000 in
theorem gL_moves_X4_moves : GoodIn wsL_moves (wsV RL 39 RX4 yX4_moves wsX4_moves) := goodIn_app (goodIn_of _ (by decide +kernel)) ggL_moves_X4_moves
theorem dL_moves_0 : decode cL_moves 0 = .ok (.sipush (-1000), 3) := by decide +kernel
theorem dL_moves_3 : decode cL_moves 3 = .ok (.istore_n 2, 1) := by decide +kernel
theorem dL_moves_4 : decode cL_moves 4 = .ok (.aload_n 0, 1) := by decide +kernel
theorem dL_moves_5 : decode cL_moves 5 = .ok (.iload_n 1, 1) := by decide +kernel
theorem dL_moves_6 : decode cL_moves 6 = .ok (.invokevirtual 39, 3) := by decide +kernel
theorem dL_moves_9 : decode cL_moves 9 = .ok (.istore_n 2, 1) := by decide +kernel
theorem dL_moves_10 : decode cL_moves 10 = .ok (.goto 13, 3) := by decide +kernel
theorem dL_moves_13 : decode cL_moves 13 = .ok (.astore_n 3, 1) := by decide +kernel
theorem dL_moves_14 : decode cL_moves 14 = .ok (.sipush (-1000), 3) := by decide +kernel
theorem dL_moves_17 : decode cL_moves 17 = .ok (.ireturn, 1) := by decide +kernel
theorem dL_moves_18 : decode cL_moves 18 = .ok (.astore_n 3, 1) := by decide +kernel
theorem dL_moves_19 : decode cL_moves 19 = .ok (.sipush (-1000), 3) := by decide +kernel
theorem dL_moves_22 : decode cL_moves 22 = .ok (.ireturn, 1) := by decide +kernel
theorem dL_moves_23 : decode cL_moves 23 = .ok (.iload_n 2, 1) := by decide +kernel
theorem dL_moves_24 : decode cL_moves 24 = .ok (.ireturn, 1) := by decide +kernel
set_option maxRecDepth 20000 in
theorem ggL_captures_X4_captures : GoodIn wsL_captures wsX4_captures := goodIn_ca (goodIn_ca (goodIn_ca (goodIn_r _ [7, 8, 9, 10, 11, 6, 12, 13, 14, 15, 16, 17, 18, 19, 20, 21, 22, 23, 24, 25, 26, 27, 28, 29, 30, 31, 32, 33, 34, 35, 36, 37, 38, 39, 40, 41, 42, 43, 44, 45, 46, 47, 48, 49, 50, 51, 52, 53, 54, 55, 56, 57, 58, 59, 60, 61, 62, 63, 64, 65, 66, 67, 68, 69, 70, 71, 72, 73, 74, 75, 76, 77, 78, 79, 80, 81, 82, 83, 84, 85, 86, 87, 88, 89, 90, 91, 92, 93, 94, 95, 96, 97, 98, 99, 100, 101, 102, 103, 104, 105, 106, 107, 108, 109, 110, 111, 112, 113, 114, 115, 116, 117, 118, 119, 120, 121, 122, 123, 124, 125, 126, 127, 128, 129, 130, 131, 132, 133, 134, 135, 136, 137, 138, 139, 140, 141, 142, 143, 144, 145, 146, 147, 148, 149, 150] (by decide +kernel) (by decide +kernel)) (goodIn_sub (fun _ h => List.mem_cons_of_mem _ (List.mem_append_left _ (List.mem_append_left _ (List.mem_append_right _ h)))) (by decide +kernel))) (goodIn_sub (fun _ h => List.mem_cons_of_mem _ (List.mem_append_left _ (List.mem_append_right _ h))) (by decide +kernel))) (goodIn_sub (fun _ h => List.mem_cons_of_mem _ (List.mem_append_right _ h)) (by decide +kernel))
set_option maxRecDepth 20000 in
theorem gL_captures_X4_captures : GoodIn wsL_captures (wsV RL 44 RX4 yX4_captures wsX4_captures) := goodIn_app (goodIn_of _ (by decide +kernel)) ggL_captures_X4_captures
theorem dL_captures_0 : decode cL_captures 0 = .ok (.sipush (-1000), 3) := by decide +kernel
theorem dL_captures_3 : decode cL_captures 3 = .ok (.istore_n 3, 1) := by decide +kernel
theorem dL_captures_4 : decode cL_captures 4 = .ok (.aload_n 0, 1) := by decide +kernel
theorem dL_captures_5 : decode cL_captures 5 = .ok (.iload_n 1, 1) := by decide +kernel
theorem dL_captures_6 : decode cL_captures 6 = .ok (.iload_n 2, 1) := by decide +kernel
theorem dL_captures_7 : decode cL_captures 7 = .ok (.invokevirtual 44, 3) := by decide +kernel
theorem dL_captures_10 : decode cL_captures 10 = .ok (.istore_n 3, 1) := by decide +kernel
theorem dL_captures_11 : decode cL_captures 11 = .ok (.goto 15, 3) := by decide +kernel
theorem dL_captures_14 : decode cL_captures 14 = .ok (.astore 4, 2) := by decide +kernel
theorem dL_captures_16 : decode cL_captures 16 = .ok (.sipush (-1000), 3) := by decide +kernel
theorem dL_captures_19 : decode cL_captures 19 = .ok (.ireturn, 1) := by decide +kernel
theorem dL_captures_20 : decode cL_captures 20 = .ok (.astore 4, 2) := by decide +kernel
theorem dL_captures_22 : decode cL_captures 22 = .ok (.sipush (-1000), 3) := by decide +kernel
theorem dL_captures_25 : decode cL_captures 25 = .ok (.ireturn, 1) := by decide +kernel
theorem dL_captures_26 : decode cL_captures 26 = .ok (.iload_n 3, 1) := by decide +kernel
theorem dL_captures_27 : decode cL_captures 27 = .ok (.ireturn, 1) := by decide +kernel
set_option maxRecDepth 20000 in
theorem ggL_best_X4_best : GoodIn wsL_best wsX4_best := goodIn_ca (goodIn_ca (goodIn_r _ [6, 7, 8, 9, 10, 11, 12, 13, 14, 15, 16, 17, 18, 5, 19, 20, 21, 22, 23, 24, 25, 26, 27, 28, 29, 30, 31, 32, 33, 34, 35, 36, 37, 38, 39, 40, 41, 42, 43, 44, 45, 46, 47, 48, 49, 50, 51, 52, 53, 54, 55, 56, 57, 58, 59, 60, 61, 62, 63, 64, 65, 66, 67, 68, 69, 70, 71, 72, 73, 74, 75, 76, 77, 78, 79, 80, 81, 82, 83, 84, 85, 86, 87, 88, 89, 90, 91, 92, 93, 94, 95, 96, 97, 98, 99, 100, 101, 102, 103, 104, 105, 106, 107, 108, 109, 110, 111, 112, 113, 114, 115, 116, 117, 118, 119, 120, 121, 122, 123, 124, 125, 126, 127, 128, 129, 130, 131, 132, 133, 134, 135, 136, 137, 138, 139, 140, 141, 142, 143, 144, 145, 146, 147, 148, 149, 150, 151, 152, 153, 154, 155, 156] (by decide +kernel) (by decide +kernel)) (goodIn_sub (fun _ h => List.mem_cons_of_mem _ (List.mem_append_left _ (List.mem_append_right _ h))) (by decide +kernel))) (goodIn_sub (fun _ h => List.mem_cons_of_mem _ (List.mem_append_right _ h)) (by decide +kernel))
set_option maxRecDepth 20000 in
theorem gL_best_X4_best : GoodIn wsL_best (wsV RL 47 RX4 yX4_best wsX4_best) := goodIn_app (goodIn_of _ (by decide +kernel)) ggL_best_X4_best
theorem dL_best_0 : decode cL_best 0 = .ok (.sipush (-1000), 3) := by decide +kernel
theorem dL_best_3 : decode cL_best 3 = .ok (.istore_n 1, 1) := by decide +kernel
theorem dL_best_4 : decode cL_best 4 = .ok (.aload_n 0, 1) := by decide +kernel
theorem dL_best_5 : decode cL_best 5 = .ok (.invokevirtual 47, 3) := by decide +kernel
theorem dL_best_8 : decode cL_best 8 = .ok (.istore_n 1, 1) := by decide +kernel
theorem dL_best_9 : decode cL_best 9 = .ok (.goto 8, 3) := by decide +kernel
theorem dL_best_12 : decode cL_best 12 = .ok (.astore_n 2, 1) := by decide +kernel
theorem dL_best_13 : decode cL_best 13 = .ok (.sipush (-1000), 3) := by decide +kernel
theorem dL_best_16 : decode cL_best 16 = .ok (.ireturn, 1) := by decide +kernel
theorem dL_best_17 : decode cL_best 17 = .ok (.iload_n 1, 1) := by decide +kernel
theorem dL_best_18 : decode cL_best 18 = .ok (.ireturn, 1) := by decide +kernel
set_option maxRecDepth 20000 in
theorem ggL_worth_X4_worth : GoodIn wsL_worth wsX4_worth := goodIn_ca (goodIn_ca (goodIn_ca (goodIn_r _ [7, 8, 9, 10, 11, 12, 6, 13, 14, 15, 16, 17, 18, 19, 20, 21, 22, 23, 24, 25, 26, 27, 28, 29, 30, 31, 32, 33, 34, 35, 36, 37, 38, 39, 40, 41, 42, 43, 44, 45, 46, 47, 48, 49, 50, 51, 52, 53, 54, 55, 56, 57, 58, 59, 60, 61, 62, 63, 64, 65, 66, 67, 68, 69, 70, 71, 72, 73, 74, 75, 76, 77, 78, 79, 80, 81, 82, 83, 84, 85, 86, 87, 88, 89, 90, 91, 92, 93, 94, 95, 96, 97, 98, 99, 100, 101, 102, 103, 104, 105, 106, 107, 108, 109, 110, 111, 112, 113, 114, 115, 116, 117, 118, 119, 120, 121, 122, 123, 124, 125, 126, 127, 128, 129, 130, 131, 132, 133, 134, 135, 136, 137, 138, 139, 140, 141, 142, 143, 144, 145, 146, 147, 148, 149, 150, 151, 152, 153, 154, 155, 156, 157, 158] (by decide +kernel) (by decide +kernel)) (goodIn_sub (fun _ h => List.mem_cons_of_mem _ (List.mem_append_left _ (List.mem_append_left _ (List.mem_append_right _ h)))) (by decide +kernel))) (goodIn_sub (fun _ h => List.mem_cons_of_mem _ (List.mem_append_left _ (List.mem_append_right _ h))) (by decide +kernel))) (goodIn_sub (fun _ h => List.mem_cons_of_mem _ (List.mem_append_right _ h)) (by decide +kernel))
set_option maxRecDepth 20000 in
theorem gL_worth_X4_worth : GoodIn wsL_worth (wsV RL 51 RX4 yX4_worth wsX4_worth) := goodIn_app (goodIn_of _ (by decide +kernel)) ggL_worth_X4_worth
theorem dL_worth_0 : decode cL_worth 0 = .ok (.sipush (-1000), 3) := by decide +kernel
theorem dL_worth_3 : decode cL_worth 3 = .ok (.istore_n 3, 1) := by decide +kernel
theorem dL_worth_4 : decode cL_worth 4 = .ok (.aload_n 0, 1) := by decide +kernel
theorem dL_worth_5 : decode cL_worth 5 = .ok (.iload_n 1, 1) := by decide +kernel
theorem dL_worth_6 : decode cL_worth 6 = .ok (.iload_n 2, 1) := by decide +kernel
theorem dL_worth_7 : decode cL_worth 7 = .ok (.invokevirtual 51, 3) := by decide +kernel
theorem dL_worth_10 : decode cL_worth 10 = .ok (.istore_n 3, 1) := by decide +kernel
theorem dL_worth_11 : decode cL_worth 11 = .ok (.goto 15, 3) := by decide +kernel
theorem dL_worth_14 : decode cL_worth 14 = .ok (.astore 4, 2) := by decide +kernel
theorem dL_worth_16 : decode cL_worth 16 = .ok (.sipush (-1000), 3) := by decide +kernel
theorem dL_worth_19 : decode cL_worth 19 = .ok (.ireturn, 1) := by decide +kernel
theorem dL_worth_20 : decode cL_worth 20 = .ok (.astore 4, 2) := by decide +kernel
theorem dL_worth_22 : decode cL_worth 22 = .ok (.sipush (-1000), 3) := by decide +kernel
theorem dL_worth_25 : decode cL_worth 25 = .ok (.ireturn, 1) := by decide +kernel
theorem dL_worth_26 : decode cL_worth 26 = .ok (.iload_n 3, 1) := by decide +kernel
theorem dL_worth_27 : decode cL_worth 27 = .ok (.ireturn, 1) := by decide +kernel
set_option maxRecDepth 20000 in
theorem ggL_room_X4_room : GoodIn wsL_room wsX4_room := goodIn_ca (goodIn_ca (goodIn_ca (goodIn_r _ [7, 8, 9, 10, 11, 12, 6, 13, 14, 15, 16, 17, 18, 19, 20, 21, 22, 23, 24, 25, 26, 27, 28, 29, 30, 31, 32, 33, 34, 35, 36, 37, 38, 39, 40, 41, 42, 43, 44, 45, 46, 47, 48, 49, 50, 51, 52, 53, 54, 55] (by decide +kernel) (by decide +kernel)) (goodIn_sub (fun _ h => List.mem_cons_of_mem _ (List.mem_append_left _ (List.mem_append_left _ (List.mem_append_right _ h)))) (by decide +kernel))) (goodIn_sub (fun _ h => List.mem_cons_of_mem _ (List.mem_append_left _ (List.mem_append_right _ h))) (by decide +kernel))) (goodIn_sub (fun _ h => List.mem_cons_of_mem _ (List.mem_append_right _ h)) (by decide +kernel))
set_option maxRecDepth 20000 in
theorem gL_room_X4_room : GoodIn wsL_room (wsV RL 54 RX4 yX4_room wsX4_room) := goodIn_app (goodIn_of _ (by decide +kernel)) ggL_room_X4_room
theorem dL_room_0 : decode cL_room 0 = .ok (.sipush (-1000), 3) := by decide +kernel
theorem dL_room_3 : decode cL_room 3 = .ok (.istore_n 3, 1) := by decide +kernel
theorem dL_room_4 : decode cL_room 4 = .ok (.aload_n 0, 1) := by decide +kernel
theorem dL_room_5 : decode cL_room 5 = .ok (.iload_n 1, 1) := by decide +kernel
theorem dL_room_6 : decode cL_room 6 = .ok (.iload_n 2, 1) := by decide +kernel
theorem dL_room_7 : decode cL_room 7 = .ok (.invokevirtual 54, 3) := by decide +kernel
theorem dL_room_10 : decode cL_room 10 = .ok (.istore_n 3, 1) := by decide +kernel
theorem dL_room_11 : decode cL_room 11 = .ok (.goto 15, 3) := by decide +kernel
theorem dL_room_14 : decode cL_room 14 = .ok (.astore 4, 2) := by decide +kernel
theorem dL_room_16 : decode cL_room 16 = .ok (.sipush (-1000), 3) := by decide +kernel
theorem dL_room_19 : decode cL_room 19 = .ok (.ireturn, 1) := by decide +kernel
theorem dL_room_20 : decode cL_room 20 = .ok (.astore 4, 2) := by decide +kernel
theorem dL_room_22 : decode cL_room 22 = .ok (.sipush (-1000), 3) := by decide +kernel
theorem dL_room_25 : decode cL_room 25 = .ok (.ireturn, 1) := by decide +kernel
theorem dL_room_26 : decode cL_room 26 = .ok (.iload_n 3, 1) := by decide +kernel
theorem dL_room_27 : decode cL_room 27 = .ok (.ireturn, 1) := by decide +kernel
set_option maxRecDepth 20000 in
theorem ggL_steps_X4_steps : GoodIn wsL_steps wsX4_steps := goodIn_ca (goodIn_ca (goodIn_ca (goodIn_r _ [7, 8, 9, 10, 11, 12, 6, 13, 14, 15, 16, 17, 18, 19, 20, 21, 22, 23, 24, 25, 26, 27, 28, 29, 30, 31, 32, 33, 34, 35, 36, 37, 38, 39, 40, 41, 42, 43, 44, 45, 46, 47, 48, 49, 50, 51, 52, 53] (by decide +kernel) (by decide +kernel)) (goodIn_sub (fun _ h => List.mem_cons_of_mem _ (List.mem_append_left _ (List.mem_append_left _ (List.mem_append_right _ h)))) (by decide +kernel))) (goodIn_sub (fun _ h => List.mem_cons_of_mem _ (List.mem_append_left _ (List.mem_append_right _ h))) (by decide +kernel))) (goodIn_sub (fun _ h => List.mem_cons_of_mem _ (List.mem_append_right _ h)) (by decide +kernel))
set_option maxRecDepth 20000 in
theorem gL_steps_X4_steps : GoodIn wsL_steps (wsV RL 57 RX4 yX4_steps wsX4_steps) := goodIn_app (goodIn_of _ (by decide +kernel)) ggL_steps_X4_steps
theorem dL_steps_0 : decode cL_steps 0 = .ok (.sipush (-1000), 3) := by decide +kernel
theorem dL_steps_3 : decode cL_steps 3 = .ok (.istore_n 3, 1) := by decide +kernel
theorem dL_steps_4 : decode cL_steps 4 = .ok (.aload_n 0, 1) := by decide +kernel
theorem dL_steps_5 : decode cL_steps 5 = .ok (.iload_n 1, 1) := by decide +kernel
theorem dL_steps_6 : decode cL_steps 6 = .ok (.iload_n 2, 1) := by decide +kernel
theorem dL_steps_7 : decode cL_steps 7 = .ok (.invokevirtual 57, 3) := by decide +kernel
theorem dL_steps_10 : decode cL_steps 10 = .ok (.istore_n 3, 1) := by decide +kernel
theorem dL_steps_11 : decode cL_steps 11 = .ok (.goto 15, 3) := by decide +kernel
theorem dL_steps_14 : decode cL_steps 14 = .ok (.astore 4, 2) := by decide +kernel
theorem dL_steps_16 : decode cL_steps 16 = .ok (.sipush (-1000), 3) := by decide +kernel
theorem dL_steps_19 : decode cL_steps 19 = .ok (.ireturn, 1) := by decide +kernel
theorem dL_steps_20 : decode cL_steps 20 = .ok (.astore 4, 2) := by decide +kernel
theorem dL_steps_22 : decode cL_steps 22 = .ok (.sipush (-1000), 3) := by decide +kernel
theorem dL_steps_25 : decode cL_steps 25 = .ok (.ireturn, 1) := by decide +kernel
theorem dL_steps_26 : decode cL_steps 26 = .ok (.iload_n 3, 1) := by decide +kernel
theorem dL_steps_27 : decode cL_steps 27 = .ok (.ireturn, 1) := by decide +kernel
set_option maxRecDepth 20000 in
theorem ggL_sealedShare_X4_sealedShare : GoodIn wsL_sealedShare wsX4_sealedShare := goodIn_ca (goodIn_ca (goodIn_ca (goodIn_r _ [8, 9, 10, 11, 12, 13, 7, 14, 15, 16, 17, 18, 19, 20, 21, 22, 23, 24, 25, 26, 27, 28, 29, 30, 31, 32, 33, 34, 35, 36, 37, 38, 39, 40, 41, 42, 43, 44, 45, 46, 47, 48, 49, 50, 51, 52, 53, 54, 55, 56, 57, 58, 59, 60, 61, 62, 63, 64, 65, 66] (by decide +kernel) (by decide +kernel)) (goodIn_sub (fun _ h => List.mem_cons_of_mem _ (List.mem_append_left _ (List.mem_append_left _ (List.mem_append_right _ h)))) (by decide +kernel))) (goodIn_sub (fun _ h => List.mem_cons_of_mem _ (List.mem_append_left _ (List.mem_append_right _ h))) (by decide +kernel))) (goodIn_sub (fun _ h => List.mem_cons_of_mem _ (List.mem_append_right _ h)) (by decide +kernel))
set_option maxRecDepth 20000 in
theorem gL_sealedShare_X4_sealedShare : GoodIn wsL_sealedShare (wsV RL 62 RX4 yX4_sealedShare wsX4_sealedShare) := goodIn_app (goodIn_of _ (by decide +kernel)) ggL_sealedShare_X4_sealedShare
theorem dL_sealedShare_0 : decode cL_sealedShare 0 = .ok (.ldc2_w 60, 3) := by decide +kernel
theorem dL_sealedShare_3 : decode cL_sealedShare 3 = .ok (.dstore_n 2, 1) := by decide +kernel
theorem dL_sealedShare_4 : decode cL_sealedShare 4 = .ok (.aload_n 0, 1) := by decide +kernel
theorem dL_sealedShare_5 : decode cL_sealedShare 5 = .ok (.iload_n 1, 1) := by decide +kernel
theorem dL_sealedShare_6 : decode cL_sealedShare 6 = .ok (.invokevirtual 62, 3) := by decide +kernel
theorem dL_sealedShare_9 : decode cL_sealedShare 9 = .ok (.dstore_n 2, 1) := by decide +kernel
theorem dL_sealedShare_10 : decode cL_sealedShare 10 = .ok (.goto 15, 3) := by decide +kernel
theorem dL_sealedShare_13 : decode cL_sealedShare 13 = .ok (.astore 4, 2) := by decide +kernel
theorem dL_sealedShare_15 : decode cL_sealedShare 15 = .ok (.ldc2_w 60, 3) := by decide +kernel
theorem dL_sealedShare_18 : decode cL_sealedShare 18 = .ok (.dreturn, 1) := by decide +kernel
theorem dL_sealedShare_19 : decode cL_sealedShare 19 = .ok (.astore 4, 2) := by decide +kernel
theorem dL_sealedShare_21 : decode cL_sealedShare 21 = .ok (.ldc2_w 60, 3) := by decide +kernel
theorem dL_sealedShare_24 : decode cL_sealedShare 24 = .ok (.dreturn, 1) := by decide +kernel
theorem dL_sealedShare_25 : decode cL_sealedShare 25 = .ok (.dload_n 2, 1) := by decide +kernel
theorem dL_sealedShare_26 : decode cL_sealedShare 26 = .ok (.dreturn, 1) := by decide +kernel
set_option maxRecDepth 20000 in
theorem ggL_undo_X4_undo : GoodIn wsL_undo wsX4_undo := goodIn_ca (goodIn_ca (goodIn_r _ [7, 8, 9, 10, 11, 12, 13, 14, 15, 16, 17, 18, 19, 20, 21, 22, 23, 24, 25, 26, 27, 28, 29, 30, 31, 32, 33, 34, 35, 36, 37, 38, 39, 40, 41] (by decide +kernel) (by decide +kernel)) (goodIn_sub (fun _ h => List.mem_cons_of_mem _ (List.mem_append_left _ (List.mem_append_right _ h))) (by decide +kernel))) (goodIn_sub (fun _ h => List.mem_cons_of_mem _ (List.mem_append_right _ h)) (by decide +kernel))
set_option maxRecDepth 20000 in
theorem gL_undo_X4_undo : GoodIn wsL_undo (wsV RL 68 RX4 yX4_undo wsX4_undo) := goodIn_app (goodIn_of _ (by decide +kernel)) ggL_undo_X4_undo
theorem dL_undo_0 : decode cL_undo 0 = .ok (.ldc 10, 2) := by decide +kernel
theorem dL_undo_2 : decode cL_undo 2 = .ok (.istore_n 1, 1) := by decide +kernel
theorem dL_undo_3 : decode cL_undo 3 = .ok (.aload_n 0, 1) := by decide +kernel
theorem dL_undo_4 : decode cL_undo 4 = .ok (.invokevirtual 68, 3) := by decide +kernel
theorem dL_undo_7 : decode cL_undo 7 = .ok (.istore_n 1, 1) := by decide +kernel
theorem dL_undo_8 : decode cL_undo 8 = .ok (.goto 7, 3) := by decide +kernel
theorem dL_undo_11 : decode cL_undo 11 = .ok (.astore_n 2, 1) := by decide +kernel
theorem dL_undo_12 : decode cL_undo 12 = .ok (.ldc 10, 2) := by decide +kernel
theorem dL_undo_14 : decode cL_undo 14 = .ok (.ireturn, 1) := by decide +kernel
theorem dL_undo_15 : decode cL_undo 15 = .ok (.iload_n 1, 1) := by decide +kernel
theorem dL_undo_16 : decode cL_undo 16 = .ok (.ireturn, 1) := by decide +kernel
set_option maxRecDepth 20000 in
theorem ggL_restore_X4_restore : GoodIn wsL_restore wsX4_restore := goodIn_ca (goodIn_ca (goodIn_r _ [7, 8, 9, 10, 11, 12, 13, 14, 15, 16, 17, 18, 19, 20, 21, 22, 23, 24, 25, 26, 27, 28, 29, 30, 31, 32, 33, 34, 35, 36, 37, 38, 39, 40, 41, 42, 43, 44, 45, 46, 47, 48, 49, 50, 51, 52] (by decide +kernel) (by decide +kernel)) (goodIn_sub (fun _ h => List.mem_cons_of_mem _ (List.mem_append_left _ (List.mem_append_right _ h))) (by decide +kernel))) (goodIn_sub (fun _ h => List.mem_cons_of_mem _ (List.mem_append_right _ h)) (by decide +kernel))
set_option maxRecDepth 20000 in
theorem gL_restore_X4_restore : GoodIn wsL_restore (wsV RL 71 RX4 yX4_restore wsX4_restore) := goodIn_app (goodIn_of _ (by decide +kernel)) ggL_restore_X4_restore
theorem dL_restore_0 : decode cL_restore 0 = .ok (.ldc 10, 2) := by decide +kernel
theorem dL_restore_2 : decode cL_restore 2 = .ok (.istore_n 1, 1) := by decide +kernel
theorem dL_restore_3 : decode cL_restore 3 = .ok (.aload_n 0, 1) := by decide +kernel
theorem dL_restore_4 : decode cL_restore 4 = .ok (.invokevirtual 71, 3) := by decide +kernel
theorem dL_restore_7 : decode cL_restore 7 = .ok (.istore_n 1, 1) := by decide +kernel
theorem dL_restore_8 : decode cL_restore 8 = .ok (.goto 7, 3) := by decide +kernel
theorem dL_restore_11 : decode cL_restore 11 = .ok (.astore_n 2, 1) := by decide +kernel
theorem dL_restore_12 : decode cL_restore 12 = .ok (.ldc 10, 2) := by decide +kernel
theorem dL_restore_14 : decode cL_restore 14 = .ok (.ireturn, 1) := by decide +kernel
theorem dL_restore_15 : decode cL_restore 15 = .ok (.iload_n 1, 1) := by decide +kernel
theorem dL_restore_16 : decode cL_restore 16 = .ok (.ireturn, 1) := by decide +kernel
set_option maxRecDepth 20000 in
theorem ggL_read_X4_read : GoodIn wsL_read wsX4_read := goodIn_ca (goodIn_ca (goodIn_ca (goodIn_r _ [8, 9, 10, 11, 12, 13, 14, 15, 16, 17, 18, 19, 20, 21, 22, 23, 24, 25, 26, 27, 28, 29, 30, 31, 32, 33, 34, 35, 36, 37, 38, 39, 40, 41, 42, 43, 44, 45, 46, 47, 48, 49, 50, 51, 52, 53, 54, 55, 56, 7, 57, 58, 59, 60, 61, 62, 63, 64, 65, 66, 67, 68, 69, 70, 71, 72, 73, 74, 75, 76, 77, 78, 79, 80, 81, 82, 83, 84, 85, 86, 87, 88, 89, 90, 91, 92, 93, 94, 95, 96, 97, 98, 99, 100, 101, 102, 103, 104, 105, 106, 107, 108, 109, 110, 111, 112, 113, 114, 115, 116, 117, 118, 119, 120, 121, 122, 123, 124, 125, 126, 127, 128, 129, 130, 131, 132, 133, 134, 135, 136, 137, 138, 139, 140, 141, 142, 143, 144, 145, 146, 147, 148, 149, 150, 151, 152, 153, 154, 155, 156, 157, 158, 159, 160, 161, 162, 163, 164, 165, 166, 167, 168, 169, 170, 171, 172, 173, 174, 175, 176, 177, 178, 179, 180, 181, 182, 183, 184, 185, 186, 187, 188, 189, 190, 191, 192, 193, 194, 195, 196, 197, 198, 199, 200, 201, 202, 203, 204, 205, 206, 207, 208, 209, 210, 211, 212, 213, 214, 215, 216, 217, 218, 219, 220, 221, 222, 223, 224, 225, 226, 227, 228, 229, 230, 231, 232, 233, 234, 235, 236, 237, 238, 239, 240, 241, 242, 243, 244, 245, 246, 247, 248, 249, 250, 251, 252, 253, 254, 255, 256, 257, 258, 259, 260, 261, 262, 263, 264, 265, 266, 267, 268, 269] (by decide +kernel) (by decide +kernel)) (goodIn_sub (fun _ h => List.mem_cons_of_mem _ (List.mem_append_left _ (List.mem_append_left _ (List.mem_append_right _ h)))) (by decide +kernel))) (goodIn_sub (fun _ h => List.mem_cons_of_mem _ (List.mem_append_left _ (List.mem_append_right _ h))) (by decide +kernel))) (goodIn_sub (fun _ h => List.mem_cons_of_mem _ (List.mem_append_right _ h)) (by decide +kernel))
set_option maxRecDepth 20000 in
theorem gL_read_X4_read : GoodIn wsL_read (wsV RL 74 RX4 yX4_read wsX4_read) := goodIn_app (goodIn_of _ (by decide +kernel)) ggL_read_X4_read
theorem dL_read_0 : decode cL_read 0 = .ok (.ldc 10, 2) := by decide +kernel
theorem dL_read_2 : decode cL_read 2 = .ok (.istore_n 1, 1) := by decide +kernel
theorem dL_read_3 : decode cL_read 3 = .ok (.aload_n 0, 1) := by decide +kernel
theorem dL_read_4 : decode cL_read 4 = .ok (.invokevirtual 74, 3) := by decide +kernel
theorem dL_read_7 : decode cL_read 7 = .ok (.istore_n 1, 1) := by decide +kernel
theorem dL_read_8 : decode cL_read 8 = .ok (.goto 11, 3) := by decide +kernel
theorem dL_read_11 : decode cL_read 11 = .ok (.astore_n 2, 1) := by decide +kernel
theorem dL_read_12 : decode cL_read 12 = .ok (.ldc 10, 2) := by decide +kernel
theorem dL_read_14 : decode cL_read 14 = .ok (.ireturn, 1) := by decide +kernel
theorem dL_read_15 : decode cL_read 15 = .ok (.astore_n 2, 1) := by decide +kernel
theorem dL_read_16 : decode cL_read 16 = .ok (.ldc 10, 2) := by decide +kernel
theorem dL_read_18 : decode cL_read 18 = .ok (.ireturn, 1) := by decide +kernel
theorem dL_read_19 : decode cL_read 19 = .ok (.iload_n 1, 1) := by decide +kernel
theorem dL_read_20 : decode cL_read 20 = .ok (.ireturn, 1) := by decide +kernel
set_option maxRecDepth 20000 in
theorem ggL_append_X4_append : GoodIn wsL_append wsX4_append := goodIn_ca (goodIn_ca (goodIn_ca (goodIn_r _ [7, 8, 9, 10, 11, 12, 13, 14, 15, 16, 17, 18, 19, 20, 21, 22, 23, 24, 25, 26, 27, 28, 29, 30, 31, 32, 33] (by decide +kernel) (by decide +kernel)) (goodIn_sub (fun _ h => List.mem_cons_of_mem _ (List.mem_append_left _ (List.mem_append_left _ (List.mem_append_right _ h)))) (by decide +kernel))) (goodIn_sub (fun _ h => List.mem_cons_of_mem _ (List.mem_append_left _ (List.mem_append_right _ h))) (by decide +kernel))) (goodIn_sub (fun _ h => List.mem_cons_of_mem _ (List.mem_append_right _ h)) (by decide +kernel))
set_option maxRecDepth 20000 in
theorem gL_append_X4_append : GoodIn wsL_append (wsV RL 77 RX4 yX4_append wsX4_append) := goodIn_app (goodIn_of _ (by decide +kernel)) ggL_append_X4_append
theorem dL_append_0 : decode cL_append 0 = .ok (.aload_n 0, 1) := by decide +kernel
theorem dL_append_1 : decode cL_append 1 = .ok (.iload_n 1, 1) := by decide +kernel
theorem dL_append_2 : decode cL_append 2 = .ok (.invokevirtual 77, 3) := by decide +kernel
theorem dL_append_5 : decode cL_append 5 = .ok (.pop, 1) := by decide +kernel
theorem dL_append_6 : decode cL_append 6 = .ok (.goto 9, 3) := by decide +kernel
theorem dL_append_9 : decode cL_append 9 = .ok (.astore_n 2, 1) := by decide +kernel
theorem dL_append_10 : decode cL_append 10 = .ok (.iconst 0, 1) := by decide +kernel
theorem dL_append_11 : decode cL_append 11 = .ok (.ireturn, 1) := by decide +kernel
theorem dL_append_12 : decode cL_append 12 = .ok (.astore_n 2, 1) := by decide +kernel
theorem dL_append_13 : decode cL_append 13 = .ok (.iconst 0, 1) := by decide +kernel
theorem dL_append_14 : decode cL_append 14 = .ok (.ireturn, 1) := by decide +kernel
theorem dL_append_15 : decode cL_append 15 = .ok (.iconst 1, 1) := by decide +kernel
theorem dL_append_16 : decode cL_append 16 = .ok (.ireturn, 1) := by decide +kernel
set_option maxRecDepth 20000 in
theorem ggL_read__J0_length_8abf5 : GoodIn wsL_read_ wsJ0_length_8abf5 := goodIn_r _ [5, 6, 7, 8, 9, 4, 10, 11, 12, 327, 328] (by decide +kernel) (by decide +kernel)
set_option maxRecDepth 20000 in
theorem gL_read__J0_length_8abf5 : GoodIn wsL_read_ (wsV RL 81 RJ0 yJ0_length_8abf5 wsJ0_length_8abf5) := goodIn_app (goodIn_of _ (by decide +kernel)) ggL_read__J0_length_8abf5
set_option maxRecDepth 20000 in
theorem ggL_read__J0_charAt_5068e : GoodIn wsL_read_ wsJ0_charAt_5068e := goodIn_r _ [16, 6, 17, 18, 19, 4, 20, 11, 12, 21, 22, 23, 24, 25, 26, 27, 28, 29, 30, 31, 32, 33, 34, 35, 36, 37, 38, 39, 40, 41, 42, 43, 44, 45, 46, 47, 48, 49, 327, 328] (by decide +kernel) (by decide +kernel)
set_option maxRecDepth 20000 in
theorem gL_read__J0_charAt_5068e : GoodIn wsL_read_ (wsV RL 86 RJ0 yJ0_charAt_5068e wsJ0_charAt_5068e) := goodIn_app (goodIn_of _ (by decide +kernel)) ggL_read__J0_charAt_5068e
set_option maxRecDepth 20000 in
theorem ggL_read__L_append : GoodIn wsL_read_ wsL_append := goodIn_ca (goodIn_ca (goodIn_ca (goodIn_r _ [53, 54, 55, 56, 57, 58, 59, 60, 61, 62, 63, 64, 65, 66, 67, 68, 69, 70, 71, 72, 73, 74, 75, 76, 329, 330, 331, 332, 333, 334, 335, 336, 337, 338] (by decide +kernel) (by decide +kernel)) (goodIn_sub (fun _ h => List.mem_cons_of_mem _ (List.mem_append_left _ (List.mem_append_left _ (List.mem_append_left _ (List.mem_append_right _ h))))) (by decide +kernel))) (goodIn_sub (fun _ h => List.mem_cons_of_mem _ (List.mem_append_left _ (List.mem_append_left _ (List.mem_append_right _ h)))) (by decide +kernel))) (goodIn_sub (fun _ h => List.mem_cons_of_mem _ (List.mem_append_left _ (List.mem_append_right _ h))) (by decide +kernel))
set_option maxRecDepth 20000 in
theorem gL_read__L_append : GoodIn wsL_read_ (va_wsS RL 90 yL_append wsL_append) := goodIn_app (goodIn_of _ (by decide +kernel)) ggL_read__L_append
set_option maxRecDepth 20000 in
theorem ggL_read__L_read : GoodIn wsL_read_ wsL_read := goodIn_ca (goodIn_ca (goodIn_ca (goodIn_r _ [79, 54, 80, 81, 82, 83, 84, 59, 85, 61, 62, 65, 86, 87, 88, 89, 90, 91, 92, 69, 93, 71, 94, 95, 96, 97, 76, 98, 99, 100, 101, 102, 103, 104, 105, 106, 107, 108, 109, 110, 111, 112, 113, 114, 115, 116, 117, 118, 119, 120, 121, 122, 123, 124, 125, 126, 127, 128, 129, 130, 131, 132, 133, 134, 135, 136, 137, 138, 139, 140, 141, 142, 143, 144, 145, 146, 147, 148, 149, 150, 151, 152, 153, 154, 155, 156, 157, 158, 159, 160, 161, 162, 163, 164, 165, 166, 167, 168, 169, 170, 171, 172, 173, 174, 175, 176, 177, 178, 179, 180, 181, 182, 183, 184, 185, 186, 187, 188, 189, 190, 191, 192, 193, 194, 195, 196, 197, 198, 199, 200, 201, 202, 203, 204, 205, 206, 207, 208, 209, 210, 211, 212, 213, 214, 215, 216, 217, 218, 219, 220, 221, 222, 223, 224, 225, 226, 227, 228, 229, 230, 231, 232, 233, 234, 235, 236, 237, 238, 239, 240, 241, 242, 243, 244, 245, 246, 247, 248, 249, 250, 251, 252, 253, 254, 255, 256, 257, 258, 259, 260, 261, 262, 263, 264, 265, 266, 267, 268, 269, 270, 271, 272, 273, 274, 275, 276, 277, 278, 279, 280, 281, 282, 283, 284, 285, 286, 287, 288, 289, 290, 291, 292, 293, 294, 295, 296, 297, 298, 299, 300, 301, 302, 303, 304, 305, 306, 307, 308, 309, 310, 311, 312, 313, 314, 315, 316, 317, 318, 319, 320, 321, 322, 323, 324, 325, 326, 329, 330, 331, 332, 333, 334, 335, 336, 337, 338, 339, 340, 341, 342] (by decide +kernel) (by decide +kernel)) (goodIn_sub (fun _ h => List.mem_cons_of_mem _ (List.mem_append_left _ (List.mem_append_left _ (List.mem_append_left _ (List.mem_append_right _ h))))) (by decide +kernel))) (goodIn_sub (fun _ h => List.mem_cons_of_mem _ (List.mem_append_left _ (List.mem_append_right _ h))) (by decide +kernel))) (goodIn_sub (fun _ h => List.mem_cons_of_mem _ (List.mem_append_right _ h)) (by decide +kernel))
set_option maxRecDepth 20000 in
theorem gL_read__L_read : GoodIn wsL_read_ (va_wsS RL 93 yL_read wsL_read) := goodIn_app (goodIn_of _ (by decide +kernel)) ggL_read__L_read
theorem dL_read__0 : decode cL_read_ 0 = .ok (.iconst 0, 1) := by decide +kernel
theorem dL_read__1 : decode cL_read_ 1 = .ok (.istore_n 2, 1) := by decide +kernel
theorem dL_read__2 : decode cL_read_ 2 = .ok (.iload_n 2, 1) := by decide +kernel
theorem dL_read__3 : decode cL_read_ 3 = .ok (.aload_n 1, 1) := by decide +kernel
theorem dL_read__4 : decode cL_read_ 4 = .ok (.invokevirtual 81, 3) := by decide +kernel
theorem dL_read__7 : decode cL_read_ 7 = .ok (.if_icmp .ge 19, 3) := by decide +kernel
theorem dL_read__10 : decode cL_read_ 10 = .ok (.aload_n 0, 1) := by decide +kernel
theorem dL_read__11 : decode cL_read_ 11 = .ok (.aload_n 1, 1) := by decide +kernel
theorem dL_read__12 : decode cL_read_ 12 = .ok (.iload_n 2, 1) := by decide +kernel
theorem dL_read__13 : decode cL_read_ 13 = .ok (.invokevirtual 86, 3) := by decide +kernel
theorem dL_read__16 : decode cL_read_ 16 = .ok (.invokestatic 90, 3) := by decide +kernel
theorem dL_read__19 : decode cL_read_ 19 = .ok (.pop, 1) := by decide +kernel
theorem dL_read__20 : decode cL_read_ 20 = .ok (.iinc 2 1, 3) := by decide +kernel
theorem dL_read__23 : decode cL_read_ 23 = .ok (.goto (-21), 3) := by decide +kernel
theorem dL_read__26 : decode cL_read_ 26 = .ok (.aload_n 0, 1) := by decide +kernel
theorem dL_read__27 : decode cL_read_ 27 = .ok (.invokestatic 93, 3) := by decide +kernel
theorem dL_read__30 : decode cL_read_ 30 = .ok (.ireturn, 1) := by decide +kernel
set_option maxRecDepth 20000 in
theorem ggL_play_X4_square : GoodIn wsL_play wsX4_square := goodIn_ca (goodIn_ca (goodIn_ca (goodIn_r _ [5, 6, 7, 8, 9, 10, 4, 11, 12, 13, 14, 15, 16, 17, 18, 19, 20, 21, 22, 23, 24, 25, 26, 27, 28, 29, 30, 31, 32, 33, 34, 35, 36, 37, 38, 39, 40, 41, 42, 43, 44, 45, 46, 47, 48, 49, 50, 51, 52, 53, 54, 55, 56, 57, 58, 59, 60, 61, 247, 248, 249, 250, 251, 252, 253, 254, 255] (by decide +kernel) (by decide +kernel)) (goodIn_sub (fun _ h => List.mem_cons_of_mem _ (List.mem_append_left _ (List.mem_append_left _ (List.mem_append_left _ (List.mem_append_left _ (List.mem_append_right _ h)))))) (by decide +kernel))) (goodIn_sub (fun _ h => List.mem_cons_of_mem _ (List.mem_append_left _ (List.mem_append_left _ (List.mem_append_left _ (List.mem_append_right _ h))))) (by decide +kernel))) (goodIn_sub (fun _ h => List.mem_cons_of_mem _ (List.mem_append_left _ (List.mem_append_left _ (List.mem_append_right _ h)))) (by decide +kernel))
set_option maxRecDepth 20000 in
theorem gL_play_X4_square : GoodIn wsL_play (wsV RL 96 RX4 yX4_square wsX4_square) := goodIn_app (goodIn_of _ (by decide +kernel)) ggL_play_X4_square
set_option maxRecDepth 20000 in
theorem ggL_play_X4_account : GoodIn wsL_play wsX4_account := goodIn_ca (goodIn_ca (goodIn_r _ [65, 6, 7, 8, 66, 67, 68, 41, 42, 17, 43, 23, 69, 70, 26, 71, 72, 73, 74, 75, 76, 77, 78, 79, 29, 30, 31, 60, 33, 34, 35, 80, 81, 82, 83, 84, 85, 86, 87, 88, 89, 90, 91, 92, 93, 94, 95, 96, 97, 98, 99, 100, 101, 102, 103, 104, 105, 106, 107, 108, 247, 248, 249, 250, 251, 252, 253, 254, 255, 256, 257, 258, 259, 260] (by decide +kernel) (by decide +kernel)) (goodIn_sub (fun _ h => List.mem_cons_of_mem _ (List.mem_append_left _ (List.mem_append_left _ (List.mem_append_left _ (List.mem_append_left _ (List.mem_append_right _ h)))))) (by decide +kernel))) (goodIn_sub (fun _ h => List.mem_cons_of_mem _ (List.mem_append_left _ (List.mem_append_left _ (List.mem_append_right _ h)))) (by decide +kernel))
set_option maxRecDepth 20000 in
theorem gL_play_X4_account : GoodIn wsL_play (wsV RL 99 RX4 yX4_account wsX4_account) := goodIn_app (goodIn_of _ (by decide +kernel)) ggL_play_X4_account
set_option maxRecDepth 20000 in
theorem ggL_play_X4_canMove : GoodIn wsL_play wsX4_canMove := goodIn_ca (goodIn_ca (goodIn_ca (goodIn_r _ [112, 8, 9, 10, 4, 11, 12, 13, 113, 114, 115, 116, 117, 118, 14, 15, 16, 17, 18, 19, 20, 21, 22, 23, 24, 25, 26, 27, 28, 29, 30, 31, 32, 33, 34, 35, 119, 120, 121, 122, 123, 124, 37, 38, 39, 40, 41, 42, 43, 44, 45, 46, 47, 48, 49, 50, 51, 125, 126, 127, 128, 129, 130, 131, 132, 133, 53, 54, 55, 56, 57, 58, 59, 134, 135, 136, 137, 138, 139, 140, 141, 142, 143, 144, 145, 146, 147, 148, 149, 61, 247, 248, 249, 250, 251, 252, 253, 254, 255] (by decide +kernel) (by decide +kernel)) (goodIn_sub (fun _ h => List.mem_cons_of_mem _ (List.mem_append_left _ (List.mem_append_left _ (List.mem_append_left _ (List.mem_append_right _ h))))) (by decide +kernel))) (goodIn_sub (fun _ h => List.mem_cons_of_mem _ (List.mem_append_left _ (List.mem_append_right _ h))) (by decide +kernel))) (goodIn_sub (fun _ h => List.mem_cons_of_mem _ (List.mem_append_left _ (List.mem_append_left _ (List.mem_append_right _ h)))) (by decide +kernel))
set_option maxRecDepth 20000 in
theorem gL_play_X4_canMove : GoodIn wsL_play (wsV RL 102 RX4 yX4_canMove wsX4_canMove) := goodIn_app (goodIn_of _ (by decide +kernel)) ggL_play_X4_canMove
set_option maxRecDepth 20000 in
theorem ggL_play_L_move : GoodIn wsL_play wsL_move := goodIn_ca (goodIn_ca (goodIn_ca (goodIn_r _ [153, 154, 155, 156, 157, 158, 159, 4, 160, 8, 67, 9, 10, 11, 12, 13, 161, 162, 163, 17, 164, 165, 166, 167, 168, 23, 92, 85, 86, 87, 169, 170, 171, 172, 89, 90, 91, 40, 41, 42, 43, 24, 25, 26, 27, 173, 120, 121, 122, 123, 124, 37, 38, 39, 44, 45, 46, 47, 48, 49, 50, 51, 125, 126, 127, 128, 129, 130, 131, 132, 19, 20, 21, 22, 133, 53, 54, 55, 56, 57, 58, 59, 134, 135, 136, 137, 138, 139, 140, 141, 142, 143, 144, 145, 146, 147, 148, 149, 174, 175, 176, 177, 178, 179, 180, 181, 182, 183, 106, 184, 185, 186, 108, 187, 188, 189, 190, 191, 192, 193, 194, 195, 196, 197, 198, 199, 200, 201, 202, 203, 204, 205, 206, 207, 72, 73, 74, 75, 76, 77, 78, 208, 209, 210, 211, 212, 213, 214, 215, 216, 217, 218, 219, 220, 221, 222, 223, 224, 225, 226, 227, 228, 229, 230, 231, 232, 233, 70, 71, 234, 235, 236, 237, 238, 239, 240, 241, 242, 243, 244, 245, 246, 247, 248, 249, 250, 251, 252, 253, 254, 255, 258, 259, 260] (by decide +kernel) (by decide +kernel)) (goodIn_sub (fun _ h => List.mem_cons_of_mem _ (List.mem_append_left _ (List.mem_append_left _ (List.mem_append_left _ (List.mem_append_right _ h))))) (by decide +kernel))) (goodIn_sub (fun _ h => List.mem_cons_of_mem _ (List.mem_append_left _ (List.mem_append_left _ (List.mem_append_right _ h)))) (by decide +kernel))) (goodIn_sub (fun _ h => List.mem_cons_of_mem _ (List.mem_append_right _ h)) (by decide +kernel))
set_option maxRecDepth 20000 in
theorem gL_play_L_move : GoodIn wsL_play (va_wsS RL 106 yL_move wsL_move) := goodIn_app (goodIn_of _ (by decide +kernel)) ggL_play_L_move
theorem dL_play_0 : decode cL_play 0 = .ok (.iload_n 1, 1) := by decide +kernel
theorem dL_play_1 : decode cL_play 1 = .ok (.bipush 30, 2) := by decide +kernel
theorem dL_play_3 : decode cL_play 3 = .ok (.irem, 1) := by decide +kernel
theorem dL_play_4 : decode cL_play 4 = .ok (.istore_n 2, 1) := by decide +kernel
theorem dL_play_5 : decode cL_play 5 = .ok (.iconst 0, 1) := by decide +kernel
theorem dL_play_6 : decode cL_play 6 = .ok (.istore_n 3, 1) := by decide +kernel
theorem dL_play_7 : decode cL_play 7 = .ok (.iload_n 3, 1) := by decide +kernel
theorem dL_play_8 : decode cL_play 8 = .ok (.bipush 72, 2) := by decide +kernel
theorem dL_play_10 : decode cL_play 10 = .ok (.if_icmp .ge 87, 3) := by decide +kernel
theorem dL_play_13 : decode cL_play 13 = .ok (.iload_n 3, 1) := by decide +kernel
theorem dL_play_14 : decode cL_play 14 = .ok (.iload_n 1, 1) := by decide +kernel
theorem dL_play_15 : decode cL_play 15 = .ok (.iadd, 1) := by decide +kernel
theorem dL_play_16 : decode cL_play 16 = .ok (.bipush 36, 2) := by decide +kernel
theorem dL_play_18 : decode cL_play 18 = .ok (.irem, 1) := by decide +kernel
theorem dL_play_19 : decode cL_play 19 = .ok (.istore 4, 2) := by decide +kernel
theorem dL_play_21 : decode cL_play 21 = .ok (.aload_n 0, 1) := by decide +kernel
theorem dL_play_22 : decode cL_play 22 = .ok (.iload 4, 2) := by decide +kernel
theorem dL_play_24 : decode cL_play 24 = .ok (.iconst 0, 1) := by decide +kernel
theorem dL_play_25 : decode cL_play 25 = .ok (.invokevirtual 96, 3) := by decide +kernel
theorem dL_play_28 : decode cL_play 28 = .ok (.iconst 1, 1) := by decide +kernel
theorem dL_play_29 : decode cL_play 29 = .ok (.if_icmp .ne 62, 3) := by decide +kernel
theorem dL_play_32 : decode cL_play 32 = .ok (.aload_n 0, 1) := by decide +kernel
theorem dL_play_33 : decode cL_play 33 = .ok (.iload 4, 2) := by decide +kernel
theorem dL_play_35 : decode cL_play 35 = .ok (.iconst 1, 1) := by decide +kernel
theorem dL_play_36 : decode cL_play 36 = .ok (.invokevirtual 96, 3) := by decide +kernel
theorem dL_play_39 : decode cL_play 39 = .ok (.aload_n 0, 1) := by decide +kernel
theorem dL_play_40 : decode cL_play 40 = .ok (.bipush 7, 2) := by decide +kernel
theorem dL_play_42 : decode cL_play 42 = .ok (.invokevirtual 99, 3) := by decide +kernel
theorem dL_play_45 : decode cL_play 45 = .ok (.if_icmp .ne 46, 3) := by decide +kernel
theorem dL_play_48 : decode cL_play 48 = .ok (.iconst 0, 1) := by decide +kernel
theorem dL_play_49 : decode cL_play 49 = .ok (.istore 5, 2) := by decide +kernel
theorem dL_play_51 : decode cL_play 51 = .ok (.iload 5, 2) := by decide +kernel
theorem dL_play_53 : decode cL_play 53 = .ok (.bipush 36, 2) := by decide +kernel
theorem dL_play_55 : decode cL_play 55 = .ok (.if_icmp .ge 36, 3) := by decide +kernel
theorem dL_play_58 : decode cL_play 58 = .ok (.aload_n 0, 1) := by decide +kernel
theorem dL_play_59 : decode cL_play 59 = .ok (.iload 4, 2) := by decide +kernel
theorem dL_play_61 : decode cL_play 61 = .ok (.iload 5, 2) := by decide +kernel
theorem dL_play_63 : decode cL_play 63 = .ok (.invokevirtual 102, 3) := by decide +kernel
theorem dL_play_66 : decode cL_play 66 = .ok (.ifCond .eq 19, 3) := by decide +kernel
theorem dL_play_69 : decode cL_play 69 = .ok (.iinc 2 (-1), 3) := by decide +kernel
theorem dL_play_72 : decode cL_play 72 = .ok (.iload_n 2, 1) := by decide +kernel
theorem dL_play_73 : decode cL_play 73 = .ok (.ifCond .ge 12, 3) := by decide +kernel
theorem dL_play_76 : decode cL_play 76 = .ok (.aload_n 0, 1) := by decide +kernel
theorem dL_play_77 : decode cL_play 77 = .ok (.iload 4, 2) := by decide +kernel
theorem dL_play_79 : decode cL_play 79 = .ok (.iload 5, 2) := by decide +kernel
theorem dL_play_81 : decode cL_play 81 = .ok (.invokestatic 106, 3) := by decide +kernel
theorem dL_play_84 : decode cL_play 84 = .ok (.ireturn, 1) := by decide +kernel
theorem dL_play_85 : decode cL_play 85 = .ok (.iinc 5 1, 3) := by decide +kernel
theorem dL_play_88 : decode cL_play 88 = .ok (.goto (-37), 3) := by decide +kernel
theorem dL_play_91 : decode cL_play 91 = .ok (.iinc 3 1, 3) := by decide +kernel
theorem dL_play_94 : decode cL_play 94 = .ok (.goto (-87), 3) := by decide +kernel
theorem dL_play_97 : decode cL_play 97 = .ok (.aload_n 0, 1) := by decide +kernel
theorem dL_play_98 : decode cL_play 98 = .ok (.iconst 0, 1) := by decide +kernel
theorem dL_play_99 : decode cL_play 99 = .ok (.iconst 0, 1) := by decide +kernel
theorem dL_play_100 : decode cL_play 100 = .ok (.invokestatic 106, 3) := by decide +kernel
theorem dL_play_103 : decode cL_play 103 = .ok (.ireturn, 1) := by decide +kernel
set_option maxRecDepth 20000 in
theorem ggL_act_X4_start : GoodIn wsL_act wsX4_start := goodIn_ca (goodIn_r _ [7, 8, 9, 10, 11, 12, 13, 14, 15, 16, 17, 18, 19, 20, 21, 22, 23, 24, 25, 26, 27, 28, 29, 30, 31, 32, 33, 34, 35, 36, 37, 38, 39, 40, 41, 42, 43, 44, 45, 46, 47, 48, 49, 50, 51, 52, 53, 54, 55, 56, 57, 58, 59, 60, 61, 62, 63, 481, 482, 483, 484, 485, 486, 487, 488, 489, 490, 491, 492] (by decide +kernel) (by decide +kernel)) (goodIn_sub (fun _ h => List.mem_cons_of_mem _ (List.mem_append_left _ (List.mem_append_left _ (List.mem_append_left _ (List.mem_append_left _ (List.mem_append_left _ (List.mem_append_right _ h))))))) (by decide +kernel))
set_option maxRecDepth 20000 in
theorem gL_act_X4_start : GoodIn wsL_act (wsV RL 109 RX4 yX4_start wsX4_start) := goodIn_app (goodIn_of _ (by decide +kernel)) ggL_act_X4_start
set_option maxRecDepth 20000 in
theorem ggL_act_L_lay : GoodIn wsL_act wsL_lay := goodIn_ca (goodIn_ca (goodIn_ca (goodIn_ca (goodIn_r _ [67, 68, 69, 70, 71, 72, 73, 74, 6, 75, 76, 77, 78, 79, 9, 8, 80, 81, 82, 83, 84, 85, 86, 87, 88, 89, 90, 91, 92, 93, 94, 25, 95, 27, 96, 97, 98, 99, 100, 51, 52, 53, 101, 102, 40, 103, 104, 105, 106, 107, 108, 109, 110, 111, 112, 113, 114, 115, 116, 117, 118, 119, 120, 121, 122, 57, 58, 59, 60, 61, 62, 63, 10, 11, 12, 13, 14, 15, 16, 17, 18, 19, 20, 21, 22, 23, 24, 26, 123, 39, 41, 124, 43, 44, 45, 46, 47, 48, 49, 125, 54, 55, 56, 481, 482, 483, 484, 485, 486, 487, 488, 492, 489, 490, 491] (by decide +kernel) (by decide +kernel)) (goodIn_sub (fun _ h => List.mem_cons_of_mem _ (List.mem_append_left _ (List.mem_append_left _ (List.mem_append_left _ (List.mem_append_left _ (List.mem_append_right _ h)))))) (by decide +kernel))) (goodIn_sub (fun _ h => List.mem_cons_of_mem _ (List.mem_append_left _ (List.mem_append_left _ (List.mem_append_left _ (List.mem_append_right _ h))))) (by decide +kernel))) (goodIn_sub (fun _ h => List.mem_cons_of_mem _ (List.mem_append_left _ (List.mem_append_left _ (List.mem_append_right _ h)))) (by decide +kernel))) (goodIn_sub (fun _ h => List.mem_cons_of_mem _ (List.mem_append_left _ (List.mem_append_left _ (List.mem_append_left _ (List.mem_append_left _ (List.mem_append_left _ (List.mem_append_right _ h))))))) (by decide +kernel))
set_option maxRecDepth 20000 in
theorem gL_act_L_lay : GoodIn wsL_act (va_wsS RL 112 yL_lay wsL_lay) := goodIn_app (goodIn_of _ (by decide +kernel)) ggL_act_L_lay
set_option maxRecDepth 20000 in
theorem ggL_act_L_wall : GoodIn wsL_act wsL_wall := goodIn_ca (goodIn_ca (goodIn_ca (goodIn_r _ [128, 68, 70, 71, 129, 130, 131, 6, 132, 8, 9, 85, 86, 87, 83, 84, 88, 89, 90, 91, 78, 79, 92, 93, 94, 25, 95, 27, 96, 97, 98, 99, 100, 51, 52, 53, 101, 102, 40, 103, 104, 105, 106, 107, 108, 109, 110, 111, 10, 11, 12, 13, 14, 15, 16, 17, 18, 19, 20, 21, 22, 23, 24, 26, 123, 39, 41, 133, 134, 135, 136, 46, 47, 48, 49, 137, 54, 55, 56, 57, 58, 59, 60, 61, 62, 63, 481, 482, 483, 484, 485, 486, 487, 488, 492, 489, 490, 491] (by decide +kernel) (by decide +kernel)) (goodIn_sub (fun _ h => List.mem_cons_of_mem _ (List.mem_append_left _ (List.mem_append_left _ (List.mem_append_right _ h)))) (by decide +kernel))) (goodIn_sub (fun _ h => List.mem_cons_of_mem _ (List.mem_append_left _ (List.mem_append_left _ (List.mem_append_left _ (List.mem_append_right _ h))))) (by decide +kernel))) (goodIn_sub (fun _ h => List.mem_cons_of_mem _ (List.mem_append_left _ (List.mem_append_left _ (List.mem_append_left _ (List.mem_append_left _ (List.mem_append_left _ (List.mem_append_right _ h))))))) (by decide +kernel))
set_option maxRecDepth 20000 in
theorem gL_act_L_wall : GoodIn wsL_act (va_wsS RL 115 yL_wall wsL_wall) := goodIn_app (goodIn_of _ (by decide +kernel)) ggL_act_L_wall
set_option maxRecDepth 20000 in
theorem ggL_act_L_restore : GoodIn wsL_act wsL_restore := goodIn_ca (goodIn_ca (goodIn_r _ [140, 70, 71, 141, 142, 143, 6, 144, 78, 79, 145, 9, 146, 8, 147, 148, 149, 25, 150, 27, 151, 152, 153, 13, 154, 17, 50, 51, 52, 53, 54, 55, 40, 56, 57, 58, 59, 60, 61, 62, 63, 481, 482, 483, 484, 485, 486, 487, 488, 492, 489, 490, 491] (by decide +kernel) (by decide +kernel)) (goodIn_sub (fun _ h => List.mem_cons_of_mem _ (List.mem_append_left _ (List.mem_append_left _ (List.mem_append_left _ (List.mem_append_right _ h))))) (by decide +kernel))) (goodIn_sub (fun _ h => List.mem_cons_of_mem _ (List.mem_append_left _ (List.mem_append_left _ (List.mem_append_left _ (List.mem_append_left _ (List.mem_append_left _ (List.mem_append_right _ h))))))) (by decide +kernel))
set_option maxRecDepth 20000 in
theorem gL_act_L_restore : GoodIn wsL_act (va_wsS RL 118 yL_restore wsL_restore) := goodIn_app (goodIn_of _ (by decide +kernel)) ggL_act_L_restore
set_option maxRecDepth 20000 in
theorem ggL_act_L_door : GoodIn wsL_act wsL_door := goodIn_ca (goodIn_ca (goodIn_ca (goodIn_r _ [157, 68, 158, 71, 159, 160, 161, 6, 162, 9, 8, 85, 86, 87, 83, 84, 163, 164, 165, 25, 166, 167, 168, 169, 170, 171, 93, 94, 95, 27, 172, 173, 174, 175, 176, 177, 178, 104, 105, 106, 107, 101, 102, 40, 103, 179, 180, 181, 182, 38, 39, 41, 183, 184, 185, 186, 187, 188, 116, 117, 118, 119, 189, 190, 191, 192, 193, 194, 195, 196, 197, 113, 114, 115, 120, 121, 122, 57, 58, 59, 60, 61, 62, 63, 198, 199, 200, 201, 202, 203, 204, 205, 206, 207, 208, 209, 210, 211, 212, 10, 11, 12, 13, 14, 15, 16, 17, 18, 19, 20, 21, 22, 23, 24, 26, 213, 214, 215, 216, 217, 218, 219, 220, 221, 46, 47, 48, 49, 222, 223, 224, 225, 226, 227, 228, 229, 37, 230, 231, 232, 233, 234, 235, 236, 237, 238, 239, 240, 100, 51, 52, 53, 481, 482, 483, 484, 485, 486, 487, 488, 492, 489, 490, 491] (by decide +kernel) (by decide +kernel)) (goodIn_sub (fun _ h => List.mem_cons_of_mem _ (List.mem_append_left _ (List.mem_append_left _ (List.mem_append_right _ h)))) (by decide +kernel))) (goodIn_sub (fun _ h => List.mem_cons_of_mem _ (List.mem_append_left _ (List.mem_append_left _ (List.mem_append_left _ (List.mem_append_left _ (List.mem_append_left _ (List.mem_append_right _ h))))))) (by decide +kernel))) (goodIn_sub (fun _ h => List.mem_cons_of_mem _ (List.mem_append_left _ (List.mem_append_right _ h))) (by decide +kernel))
set_option maxRecDepth 20000 in
theorem gL_act_L_door : GoodIn wsL_act (va_wsS RL 120 yL_door wsL_door) := goodIn_app (goodIn_of _ (by decide +kernel)) ggL_act_L_door
set_option maxRecDepth 20000 in
theorem ggL_act_X4_save : GoodIn wsL_act wsX4_save := goodIn_ca (goodIn_r _ [244, 146, 9, 145, 147, 148, 149, 25, 150, 27, 50, 51, 52, 53, 54, 55, 40, 56, 57, 58, 59, 60, 61, 62, 63, 481, 482, 483, 484, 485, 486, 487, 488, 492] (by decide +kernel) (by decide +kernel)) (goodIn_sub (fun _ h => List.mem_cons_of_mem _ (List.mem_append_left _ (List.mem_append_left _ (List.mem_append_left _ (List.mem_append_left _ (List.mem_append_left _ (List.mem_append_right _ h))))))) (by decide +kernel))
set_option maxRecDepth 20000 in
theorem gL_act_X4_save : GoodIn wsL_act (wsV RL 122 RX4 yX4_save wsX4_save) := goodIn_app (goodIn_of _ (by decide +kernel)) ggL_act_X4_save
set_option maxRecDepth 20000 in
theorem ggL_act_L_buy : GoodIn wsL_act wsL_buy := goodIn_ca (goodIn_ca (goodIn_ca (goodIn_r _ [247, 68, 158, 71, 248, 249, 250, 6, 251, 9, 8, 85, 86, 87, 83, 84, 163, 164, 165, 25, 166, 167, 168, 169, 170, 171, 93, 94, 95, 27, 172, 173, 174, 175, 176, 177, 178, 104, 105, 106, 107, 101, 102, 40, 103, 179, 180, 181, 182, 38, 39, 41, 183, 184, 185, 186, 187, 188, 116, 117, 118, 119, 189, 190, 191, 192, 193, 194, 195, 196, 197, 113, 114, 115, 120, 121, 122, 57, 58, 59, 60, 61, 62, 63, 198, 199, 200, 201, 202, 203, 204, 205, 206, 207, 208, 209, 210, 211, 212, 10, 11, 12, 13, 14, 15, 16, 17, 18, 19, 20, 21, 22, 23, 24, 26, 252, 253, 254, 255, 217, 218, 219, 220, 221, 46, 47, 48, 49, 222, 223, 224, 225, 226, 227, 228, 229, 37, 230, 231, 232, 233, 234, 235, 236, 237, 238, 239, 240, 100, 51, 52, 53, 481, 482, 483, 484, 485, 486, 487, 488, 492, 489, 490, 491] (by decide +kernel) (by decide +kernel)) (goodIn_sub (fun _ h => List.mem_cons_of_mem _ (List.mem_append_left _ (List.mem_append_left _ (List.mem_append_right _ h)))) (by decide +kernel))) (goodIn_sub (fun _ h => List.mem_cons_of_mem _ (List.mem_append_left _ (List.mem_append_left _ (List.mem_append_left _ (List.mem_append_left _ (List.mem_append_left _ (List.mem_append_right _ h))))))) (by decide +kernel))) (goodIn_sub (fun _ h => List.mem_cons_of_mem _ (List.mem_append_left _ (List.mem_append_right _ h))) (by decide +kernel))
set_option maxRecDepth 20000 in
theorem gL_act_L_buy : GoodIn wsL_act (va_wsS RL 125 yL_buy wsL_buy) := goodIn_app (goodIn_of _ (by decide +kernel)) ggL_act_L_buy
set_option maxRecDepth 20000 in
theorem ggL_act_L_undo : GoodIn wsL_act wsL_undo := goodIn_ca (goodIn_ca (goodIn_r _ [258, 259, 71, 260, 261, 262, 6, 263, 264, 265, 8, 9, 266, 267, 268, 13, 269, 17, 270, 271, 272, 273, 16, 15, 274, 275, 276, 25, 277, 27, 481, 482, 483, 484, 485, 486, 487, 488, 489, 490, 491, 492] (by decide +kernel) (by decide +kernel)) (goodIn_sub (fun _ h => List.mem_cons_of_mem _ (List.mem_append_right _ h)) (by decide +kernel))) (goodIn_sub (fun _ h => List.mem_cons_of_mem _ (List.mem_append_left _ (List.mem_append_left _ (List.mem_append_left _ (List.mem_append_left _ (List.mem_append_left _ (List.mem_append_right _ h))))))) (by decide +kernel))
set_option maxRecDepth 20000 in
theorem gL_act_L_undo : GoodIn wsL_act (va_wsS RL 127 yL_undo wsL_undo) := goodIn_app (goodIn_of _ (by decide +kernel)) ggL_act_L_undo
set_option maxRecDepth 20000 in
theorem ggL_act_L_read_ : GoodIn wsL_act wsL_read_ := goodIn_ca (goodIn_ca (goodIn_ca (goodIn_ca (goodIn_r _ [280, 281, 282, 283, 284, 285, 286, 287, 288, 289, 290, 291, 292, 293, 294, 295, 296, 297, 298, 299, 300, 301, 302, 303, 304, 305, 306, 307, 308, 309, 310, 311, 312, 313, 314, 315, 316, 317, 318, 319, 320, 321, 322, 323, 324, 325, 326, 327, 328, 329, 330, 331, 66, 332, 69, 70, 333, 334, 335, 6, 336, 76, 77, 78, 79, 337, 338, 339, 340, 341, 342, 343, 344, 345, 346, 347, 348, 349, 350, 351, 158, 71, 352, 353, 354, 355, 356, 357, 9, 8, 358, 359, 360, 361, 362, 363, 364, 365, 366, 367, 368, 369, 370, 371, 372, 373, 374, 375, 376, 377, 378, 147, 148, 149, 25, 150, 27, 379, 380, 381, 382, 383, 384, 385, 386, 387, 388, 389, 390, 391, 392, 393, 394, 395, 396, 397, 398, 399, 163, 164, 165, 166, 167, 168, 169, 170, 171, 93, 94, 95, 172, 173, 174, 175, 176, 177, 178, 104, 105, 106, 107, 101, 102, 40, 103, 179, 180, 181, 182, 38, 39, 41, 183, 184, 185, 186, 187, 188, 116, 117, 118, 119, 189, 190, 191, 192, 193, 194, 195, 196, 197, 113, 114, 115, 120, 121, 122, 57, 58, 59, 60, 61, 62, 63, 198, 199, 200, 201, 202, 203, 204, 205, 252, 253, 254, 255, 217, 218, 219, 220, 221, 46, 47, 48, 49, 222, 223, 224, 225, 226, 227, 228, 229, 37, 230, 231, 232, 233, 234, 235, 236, 237, 238, 239, 240, 100, 51, 52, 53, 213, 214, 215, 216, 400, 401, 402, 403, 404, 405, 406, 407, 408, 409, 410, 411, 412, 413, 414, 415, 416, 417, 418, 419, 420, 421, 422, 423, 424, 425, 426, 427, 428, 429, 430, 431, 432, 433, 42, 43, 44, 45, 434, 435, 436, 437, 438, 439, 440, 441, 442, 443, 55, 56, 206, 207, 208, 209, 210, 211, 212, 92, 10, 11, 12, 13, 14, 15, 16, 17, 18, 19, 20, 21, 22, 23, 24, 26, 493, 494, 481, 482, 483, 484, 485, 486, 487, 488, 495, 496, 492, 489, 490, 491] (by decide +kernel) (by decide +kernel)) (goodIn_sub (fun _ h => List.mem_cons_of_mem _ (List.mem_append_left _ (List.mem_append_left _ (List.mem_append_left _ (List.mem_append_left _ (List.mem_append_right _ h)))))) (by decide +kernel))) (goodIn_sub (fun _ h => List.mem_cons_of_mem _ (List.mem_append_left _ (List.mem_append_left _ (List.mem_append_left _ (List.mem_append_right _ h))))) (by decide +kernel))) (goodIn_sub (fun _ h => List.mem_cons_of_mem _ (List.mem_append_left _ (List.mem_append_left _ (List.mem_append_left _ (List.mem_append_left _ (List.mem_append_left _ (List.mem_append_right _ h))))))) (by decide +kernel))) (goodIn_sub (fun _ h => List.mem_cons_of_mem _ (List.mem_append_left _ (List.mem_append_right _ h))) (by decide +kernel))
set_option maxRecDepth 20000 in
theorem gL_act_L_read_ : GoodIn wsL_act (va_wsS RL 133 yL_read_ wsL_read_) := goodIn_app (goodIn_of _ (by decide +kernel)) ggL_act_L_read_
set_option maxRecDepth 20000 in
theorem ggL_act_L_play : GoodIn wsL_act wsL_play := goodIn_ca (goodIn_ca (goodIn_ca (goodIn_ca (goodIn_ca (goodIn_r _ [446, 447, 448, 449, 6, 450, 76, 77, 9, 85, 86, 87, 83, 84, 96, 97, 98, 25, 99, 100, 51, 52, 53, 27, 101, 102, 40, 103, 104, 105, 106, 107, 108, 109, 110, 111, 451, 409, 410, 411, 116, 117, 118, 119, 412, 413, 414, 415, 179, 180, 181, 182, 452, 190, 191, 192, 193, 194, 195, 196, 453, 454, 455, 456, 457, 458, 337, 8, 125, 54, 55, 56, 57, 58, 59, 60, 61, 62, 63, 137, 459, 203, 204, 205, 92, 93, 94, 95, 460, 168, 169, 170, 171, 461, 462, 463, 464, 379, 380, 381, 341, 382, 343, 266, 267, 268, 13, 269, 17, 465, 466, 467, 468, 469, 470, 471, 472, 264, 265, 473, 405, 406, 407, 221, 408, 38, 39, 41, 236, 237, 238, 239, 240, 189, 416, 417, 418, 419, 420, 421, 186, 187, 188, 422, 423, 424, 425, 184, 185, 183, 474, 475, 66, 476, 68, 158, 71, 477, 478, 479, 480, 400, 401, 402, 403, 172, 173, 174, 175, 176, 177, 178, 167, 404, 206, 207, 208, 209, 210, 211, 212, 10, 11, 12, 14, 15, 16, 18, 19, 20, 21, 22, 23, 24, 26, 426, 427, 428, 429, 230, 231, 197, 113, 114, 115, 120, 121, 122, 430, 431, 432, 433, 217, 218, 219, 220, 42, 43, 44, 45, 46, 47, 48, 49, 434, 435, 436, 437, 438, 439, 440, 441, 442, 443, 222, 223, 224, 225, 226, 227, 228, 229, 37, 232, 233, 234, 235, 481, 482, 483, 484, 485, 486, 487, 488, 492, 495, 496, 489, 490, 491] (by decide +kernel) (by decide +kernel)) (goodIn_sub (fun _ h => List.mem_cons_of_mem _ (List.mem_append_left _ (List.mem_append_left _ (List.mem_append_left _ (List.mem_append_left _ (List.mem_append_right _ h)))))) (by decide +kernel))) (goodIn_sub (fun _ h => List.mem_cons_of_mem _ (List.mem_append_left _ (List.mem_append_left _ (List.mem_append_right _ h)))) (by decide +kernel))) (goodIn_sub (fun _ h => List.mem_cons_of_mem _ (List.mem_append_left _ (List.mem_append_left _ (List.mem_append_left _ (List.mem_append_left _ (List.mem_append_left _ (List.mem_append_right _ h))))))) (by decide +kernel))) (goodIn_sub (fun _ h => List.mem_cons_of_mem _ (List.mem_append_right _ h)) (by decide +kernel))) (goodIn_sub (fun _ h => List.mem_cons_of_mem _ (List.mem_append_left _ (List.mem_append_right _ h))) (by decide +kernel))
set_option maxRecDepth 20000 in
theorem gL_act_L_play : GoodIn wsL_act (va_wsS RL 136 yL_play wsL_play) := goodIn_app (goodIn_of _ (by decide +kernel)) ggL_act_L_play
theorem dL_act_0 : decode cL_act 0 = .ok (.iload_n 1, 1) := by decide +kernel
theorem dL_act_1 : decode cL_act 1 = .ok (.iconst 4, 1) := by decide +kernel
theorem dL_act_2 : decode cL_act 2 = .ok (.ishr, 1) := by decide +kernel
theorem dL_act_3 : decode cL_act 3 = .ok (.ldc 7, 2) := by decide +kernel
theorem dL_act_5 : decode cL_act 5 = .ok (.iand, 1) := by decide +kernel
theorem dL_act_6 : decode cL_act 6 = .ok (.istore_n 2, 1) := by decide +kernel
theorem dL_act_7 : decode cL_act 7 = .ok (.iload_n 1, 1) := by decide +kernel
theorem dL_act_8 : decode cL_act 8 = .ok (.bipush 15, 2) := by decide +kernel
theorem dL_act_10 : decode cL_act 10 = .ok (.iand, 1) := by decide +kernel
theorem dL_act_11 : decode cL_act 11 = .ok (.tableswitch 199 0 7 #[45, 78, 78, 97, 108, 133, 158, 182], 45) := by decide +kernel
theorem dL_act_56 : decode cL_act 56 = .ok (.iload_n 2, 1) := by decide +kernel
theorem dL_act_57 : decode cL_act 57 = .ok (.bipush 7, 2) := by decide +kernel
theorem dL_act_59 : decode cL_act 59 = .ok (.iand, 1) := by decide +kernel
theorem dL_act_60 : decode cL_act 60 = .ok (.ifCond .ne 10, 3) := by decide +kernel
theorem dL_act_63 : decode cL_act 63 = .ok (.aload_n 0, 1) := by decide +kernel
theorem dL_act_64 : decode cL_act 64 = .ok (.invokevirtual 109, 3) := by decide +kernel
theorem dL_act_67 : decode cL_act 67 = .ok (.goto 21, 3) := by decide +kernel
theorem dL_act_70 : decode cL_act 70 = .ok (.aload_n 0, 1) := by decide +kernel
theorem dL_act_71 : decode cL_act 71 = .ok (.iload_n 2, 1) := by decide +kernel
theorem dL_act_72 : decode cL_act 72 = .ok (.iconst 1, 1) := by decide +kernel
theorem dL_act_73 : decode cL_act 73 = .ok (.iand, 1) := by decide +kernel
theorem dL_act_74 : decode cL_act 74 = .ok (.iload_n 2, 1) := by decide +kernel
theorem dL_act_75 : decode cL_act 75 = .ok (.iconst 1, 1) := by decide +kernel
theorem dL_act_76 : decode cL_act 76 = .ok (.ishr, 1) := by decide +kernel
theorem dL_act_77 : decode cL_act 77 = .ok (.iconst 4, 1) := by decide +kernel
theorem dL_act_78 : decode cL_act 78 = .ok (.irem, 1) := by decide +kernel
theorem dL_act_79 : decode cL_act 79 = .ok (.iload_n 2, 1) := by decide +kernel
theorem dL_act_80 : decode cL_act 80 = .ok (.iconst 3, 1) := by decide +kernel
theorem dL_act_81 : decode cL_act 81 = .ok (.ishr, 1) := by decide +kernel
theorem dL_act_82 : decode cL_act 82 = .ok (.bipush 36, 2) := by decide +kernel
theorem dL_act_84 : decode cL_act 84 = .ok (.irem, 1) := by decide +kernel
theorem dL_act_85 : decode cL_act 85 = .ok (.invokestatic 112, 3) := by decide +kernel
theorem dL_act_88 : decode cL_act 88 = .ok (.ireturn, 1) := by decide +kernel
theorem dL_act_89 : decode cL_act 89 = .ok (.aload_n 0, 1) := by decide +kernel
theorem dL_act_90 : decode cL_act 90 = .ok (.iload_n 2, 1) := by decide +kernel
theorem dL_act_91 : decode cL_act 91 = .ok (.iconst 1, 1) := by decide +kernel
theorem dL_act_92 : decode cL_act 92 = .ok (.iand, 1) := by decide +kernel
theorem dL_act_93 : decode cL_act 93 = .ok (.iload_n 2, 1) := by decide +kernel
theorem dL_act_94 : decode cL_act 94 = .ok (.iconst 1, 1) := by decide +kernel
theorem dL_act_95 : decode cL_act 95 = .ok (.ishr, 1) := by decide +kernel
theorem dL_act_96 : decode cL_act 96 = .ok (.iconst 4, 1) := by decide +kernel
theorem dL_act_97 : decode cL_act 97 = .ok (.irem, 1) := by decide +kernel
theorem dL_act_98 : decode cL_act 98 = .ok (.iload_n 2, 1) := by decide +kernel
theorem dL_act_99 : decode cL_act 99 = .ok (.iconst 3, 1) := by decide +kernel
theorem dL_act_100 : decode cL_act 100 = .ok (.ishr, 1) := by decide +kernel
theorem dL_act_101 : decode cL_act 101 = .ok (.bipush 36, 2) := by decide +kernel
theorem dL_act_103 : decode cL_act 103 = .ok (.irem, 1) := by decide +kernel
theorem dL_act_104 : decode cL_act 104 = .ok (.invokestatic 112, 3) := by decide +kernel
theorem dL_act_107 : decode cL_act 107 = .ok (.ireturn, 1) := by decide +kernel
theorem dL_act_108 : decode cL_act 108 = .ok (.aload_n 0, 1) := by decide +kernel
theorem dL_act_109 : decode cL_act 109 = .ok (.iload_n 2, 1) := by decide +kernel
theorem dL_act_110 : decode cL_act 110 = .ok (.iconst 1, 1) := by decide +kernel
theorem dL_act_111 : decode cL_act 111 = .ok (.ishr, 1) := by decide +kernel
theorem dL_act_112 : decode cL_act 112 = .ok (.bipush 36, 2) := by decide +kernel
theorem dL_act_114 : decode cL_act 114 = .ok (.irem, 1) := by decide +kernel
theorem dL_act_115 : decode cL_act 115 = .ok (.invokestatic 115, 3) := by decide +kernel
theorem dL_act_118 : decode cL_act 118 = .ok (.ireturn, 1) := by decide +kernel
theorem dL_act_119 : decode cL_act 119 = .ok (.iload_n 2, 1) := by decide +kernel
theorem dL_act_120 : decode cL_act 120 = .ok (.bipush 7, 2) := by decide +kernel
theorem dL_act_122 : decode cL_act 122 = .ok (.iand, 1) := by decide +kernel
theorem dL_act_123 : decode cL_act 123 = .ok (.ifCond .ne 10, 3) := by decide +kernel
theorem dL_act_126 : decode cL_act 126 = .ok (.aload_n 0, 1) := by decide +kernel
theorem dL_act_127 : decode cL_act 127 = .ok (.invokestatic 118, 3) := by decide +kernel
theorem dL_act_130 : decode cL_act 130 = .ok (.goto 13, 3) := by decide +kernel
theorem dL_act_133 : decode cL_act 133 = .ok (.aload_n 0, 1) := by decide +kernel
theorem dL_act_134 : decode cL_act 134 = .ok (.iload_n 2, 1) := by decide +kernel
theorem dL_act_135 : decode cL_act 135 = .ok (.iconst 3, 1) := by decide +kernel
theorem dL_act_136 : decode cL_act 136 = .ok (.ishr, 1) := by decide +kernel
theorem dL_act_137 : decode cL_act 137 = .ok (.bipush 36, 2) := by decide +kernel
theorem dL_act_139 : decode cL_act 139 = .ok (.irem, 1) := by decide +kernel
theorem dL_act_140 : decode cL_act 140 = .ok (.invokestatic 120, 3) := by decide +kernel
theorem dL_act_143 : decode cL_act 143 = .ok (.ireturn, 1) := by decide +kernel
theorem dL_act_144 : decode cL_act 144 = .ok (.iload_n 2, 1) := by decide +kernel
theorem dL_act_145 : decode cL_act 145 = .ok (.bipush 7, 2) := by decide +kernel
theorem dL_act_147 : decode cL_act 147 = .ok (.iand, 1) := by decide +kernel
theorem dL_act_148 : decode cL_act 148 = .ok (.ifCond .ne 10, 3) := by decide +kernel
theorem dL_act_151 : decode cL_act 151 = .ok (.aload_n 0, 1) := by decide +kernel
theorem dL_act_152 : decode cL_act 152 = .ok (.invokevirtual 122, 3) := by decide +kernel
theorem dL_act_155 : decode cL_act 155 = .ok (.goto 13, 3) := by decide +kernel
theorem dL_act_158 : decode cL_act 158 = .ok (.aload_n 0, 1) := by decide +kernel
theorem dL_act_159 : decode cL_act 159 = .ok (.iload_n 2, 1) := by decide +kernel
theorem dL_act_160 : decode cL_act 160 = .ok (.iconst 3, 1) := by decide +kernel
theorem dL_act_161 : decode cL_act 161 = .ok (.ishr, 1) := by decide +kernel
theorem dL_act_162 : decode cL_act 162 = .ok (.bipush 36, 2) := by decide +kernel
theorem dL_act_164 : decode cL_act 164 = .ok (.irem, 1) := by decide +kernel
theorem dL_act_165 : decode cL_act 165 = .ok (.invokestatic 125, 3) := by decide +kernel
theorem dL_act_168 : decode cL_act 168 = .ok (.ireturn, 1) := by decide +kernel
theorem dL_act_169 : decode cL_act 169 = .ok (.iload_n 2, 1) := by decide +kernel
theorem dL_act_170 : decode cL_act 170 = .ok (.iconst 1, 1) := by decide +kernel
theorem dL_act_171 : decode cL_act 171 = .ok (.iand, 1) := by decide +kernel
theorem dL_act_172 : decode cL_act 172 = .ok (.ifCond .ne 10, 3) := by decide +kernel
theorem dL_act_175 : decode cL_act 175 = .ok (.aload_n 0, 1) := by decide +kernel
theorem dL_act_176 : decode cL_act 176 = .ok (.invokestatic 127, 3) := by decide +kernel
theorem dL_act_179 : decode cL_act 179 = .ok (.goto 13, 3) := by decide +kernel
theorem dL_act_182 : decode cL_act 182 = .ok (.aload_n 0, 1) := by decide +kernel
theorem dL_act_183 : decode cL_act 183 = .ok (.iload_n 2, 1) := by decide +kernel
theorem dL_act_184 : decode cL_act 184 = .ok (.iconst 1, 1) := by decide +kernel
theorem dL_act_185 : decode cL_act 185 = .ok (.ishr, 1) := by decide +kernel
theorem dL_act_186 : decode cL_act 186 = .ok (.bipush 36, 2) := by decide +kernel
theorem dL_act_188 : decode cL_act 188 = .ok (.irem, 1) := by decide +kernel
theorem dL_act_189 : decode cL_act 189 = .ok (.invokestatic 120, 3) := by decide +kernel
theorem dL_act_192 : decode cL_act 192 = .ok (.ireturn, 1) := by decide +kernel
theorem dL_act_193 : decode cL_act 193 = .ok (.aload_n 0, 1) := by decide +kernel
theorem dL_act_194 : decode cL_act 194 = .ok (.getstatic 129, 3) := by decide +kernel
theorem dL_act_197 : decode cL_act 197 = .ok (.iload_n 2, 1) := by decide +kernel
theorem dL_act_198 : decode cL_act 198 = .ok (.iconst 1, 1) := by decide +kernel
theorem dL_act_199 : decode cL_act 199 = .ok (.ishr, 1) := by decide +kernel
theorem dL_act_200 : decode cL_act 200 = .ok (.getstatic 129, 3) := by decide +kernel
theorem dL_act_203 : decode cL_act 203 = .ok (.arraylength, 1) := by decide +kernel
theorem dL_act_204 : decode cL_act 204 = .ok (.irem, 1) := by decide +kernel
theorem dL_act_205 : decode cL_act 205 = .ok (.aaload, 1) := by decide +kernel
theorem dL_act_206 : decode cL_act 206 = .ok (.invokestatic 133, 3) := by decide +kernel
theorem dL_act_209 : decode cL_act 209 = .ok (.ireturn, 1) := by decide +kernel
theorem dL_act_210 : decode cL_act 210 = .ok (.aload_n 0, 1) := by decide +kernel
theorem dL_act_211 : decode cL_act 211 = .ok (.iload_n 2, 1) := by decide +kernel
theorem dL_act_212 : decode cL_act 212 = .ok (.invokestatic 136, 3) := by decide +kernel
theorem dL_act_215 : decode cL_act 215 = .ok (.ireturn, 1) := by decide +kernel
set_option maxRecDepth 20000 in
theorem ggL_digest_X4_account : GoodIn wsL_digest wsX4_account := goodIn_ca (goodIn_ca (goodIn_r _ [7, 8, 9, 10, 11, 12, 13, 14, 15, 16, 17, 18, 19, 20, 21, 22, 23, 24, 25, 26, 27, 28, 29, 30, 31, 32, 33, 34, 35, 36, 37, 38, 39, 40, 41, 42, 43, 44, 45, 46, 47, 48, 49, 50, 51, 52, 53, 54, 55, 56, 57, 58, 59, 60, 61, 62, 63, 64, 65, 66, 148, 149, 150, 151, 152, 153, 154, 155, 156, 157, 158, 159, 160, 161] (by decide +kernel) (by decide +kernel)) (goodIn_sub (fun _ h => List.mem_cons_of_mem _ (List.mem_append_left _ (List.mem_append_left _ (List.mem_append_right _ h)))) (by decide +kernel))) (goodIn_sub (fun _ h => List.mem_cons_of_mem _ (List.mem_append_left _ (List.mem_append_right _ h))) (by decide +kernel))
set_option maxRecDepth 20000 in
theorem gL_digest_X4_account : GoodIn wsL_digest (wsV RL 99 RX4 yX4_account wsX4_account) := goodIn_app (goodIn_of _ (by decide +kernel)) ggL_digest_X4_account
set_option maxRecDepth 20000 in
theorem ggL_digest_X4_square : GoodIn wsL_digest wsX4_square := goodIn_ca (goodIn_ca (goodIn_ca (goodIn_r _ [70, 8, 9, 10, 71, 72, 6, 73, 74, 75, 76, 77, 78, 16, 79, 80, 81, 82, 83, 18, 84, 85, 21, 86, 87, 31, 32, 33, 88, 35, 36, 37, 89, 90, 91, 92, 93, 14, 15, 17, 94, 95, 96, 97, 98, 99, 100, 101, 102, 103, 104, 105, 106, 107, 108, 109, 34, 110, 148, 149, 150, 151, 152, 153, 154, 155, 156] (by decide +kernel) (by decide +kernel)) (goodIn_sub (fun _ h => List.mem_cons_of_mem _ (List.mem_append_left _ (List.mem_append_left _ (List.mem_append_right _ h)))) (by decide +kernel))) (goodIn_sub (fun _ h => List.mem_cons_of_mem _ (List.mem_append_right _ h)) (by decide +kernel))) (goodIn_sub (fun _ h => List.mem_cons_of_mem _ (List.mem_append_left _ (List.mem_append_right _ h))) (by decide +kernel))
set_option maxRecDepth 20000 in
theorem gL_digest_X4_square : GoodIn wsL_digest (wsV RL 96 RX4 yX4_square wsX4_square) := goodIn_app (goodIn_of _ (by decide +kernel)) ggL_digest_X4_square
set_option maxRecDepth 20000 in
theorem ggL_digest_X4_picture : GoodIn wsL_digest wsX4_picture := goodIn_ca (goodIn_ca (goodIn_r _ [114, 10, 71, 72, 6, 73, 74, 75, 89, 90, 91, 16, 92, 93, 14, 15, 17, 18, 94, 95, 96, 97, 98, 99, 100, 101, 84, 85, 21, 86, 76, 77, 78, 79, 80, 81, 82, 83, 87, 31, 32, 33, 88, 35, 36, 37, 102, 103, 104, 105, 106, 107, 108, 109, 115, 116, 117, 148, 149, 150, 151, 152, 153, 154, 155, 156] (by decide +kernel) (by decide +kernel)) (goodIn_sub (fun _ h => List.mem_cons_of_mem _ (List.mem_append_right _ h)) (by decide +kernel))) (goodIn_sub (fun _ h => List.mem_cons_of_mem _ (List.mem_append_left _ (List.mem_append_right _ h))) (by decide +kernel))
set_option maxRecDepth 20000 in
theorem gL_digest_X4_picture : GoodIn wsL_digest (wsV RL 143 RX4 yX4_picture wsX4_picture) := goodIn_app (goodIn_of _ (by decide +kernel)) ggL_digest_X4_picture
set_option maxRecDepth 20000 in
theorem ggL_digest_X4_sealed : GoodIn wsL_digest wsX4_sealed := goodIn_ca (goodIn_ca (goodIn_r _ [121, 10, 122, 123, 6, 124, 74, 75, 125, 126, 127, 16, 128, 129, 130, 131, 132, 133, 18, 134, 135, 136, 21, 137, 138, 139, 140, 141, 142, 143, 144, 145, 146, 93, 14, 15, 17, 147, 20, 22, 23, 24, 25, 26, 27, 28, 29, 148, 149, 150, 151, 152, 153, 154, 155, 156] (by decide +kernel) (by decide +kernel)) (goodIn_sub (fun _ h => List.mem_cons_of_mem _ (List.mem_append_right _ h)) (by decide +kernel))) (goodIn_sub (fun _ h => List.mem_cons_of_mem _ (List.mem_append_left _ (List.mem_append_right _ h))) (by decide +kernel))
set_option maxRecDepth 20000 in
theorem gL_digest_X4_sealed : GoodIn wsL_digest (wsV RL 146 RX4 yX4_sealed wsX4_sealed) := goodIn_app (goodIn_of _ (by decide +kernel)) ggL_digest_X4_sealed
theorem dL_digest_0 : decode cL_digest 0 = .ok (.ldc2_w 139, 3) := by decide +kernel
theorem dL_digest_3 : decode cL_digest 3 = .ok (.lstore_n 1, 1) := by decide +kernel
theorem dL_digest_4 : decode cL_digest 4 = .ok (.iconst 0, 1) := by decide +kernel
theorem dL_digest_5 : decode cL_digest 5 = .ok (.istore_n 3, 1) := by decide +kernel
theorem dL_digest_6 : decode cL_digest 6 = .ok (.iload_n 3, 1) := by decide +kernel
theorem dL_digest_7 : decode cL_digest 7 = .ok (.bipush 9, 2) := by decide +kernel
theorem dL_digest_9 : decode cL_digest 9 = .ok (.if_icmp .ge 22, 3) := by decide +kernel
theorem dL_digest_12 : decode cL_digest 12 = .ok (.ldc2_w 141, 3) := by decide +kernel
theorem dL_digest_15 : decode cL_digest 15 = .ok (.lload_n 1, 1) := by decide +kernel
theorem dL_digest_16 : decode cL_digest 16 = .ok (.lmul, 1) := by decide +kernel
theorem dL_digest_17 : decode cL_digest 17 = .ok (.aload_n 0, 1) := by decide +kernel
theorem dL_digest_18 : decode cL_digest 18 = .ok (.iload_n 3, 1) := by decide +kernel
theorem dL_digest_19 : decode cL_digest 19 = .ok (.invokevirtual 99, 3) := by decide +kernel
theorem dL_digest_22 : decode cL_digest 22 = .ok (.i2l, 1) := by decide +kernel
theorem dL_digest_23 : decode cL_digest 23 = .ok (.ladd, 1) := by decide +kernel
theorem dL_digest_24 : decode cL_digest 24 = .ok (.lstore_n 1, 1) := by decide +kernel
theorem dL_digest_25 : decode cL_digest 25 = .ok (.iinc 3 1, 3) := by decide +kernel
theorem dL_digest_28 : decode cL_digest 28 = .ok (.goto (-22), 3) := by decide +kernel
theorem dL_digest_31 : decode cL_digest 31 = .ok (.iconst 0, 1) := by decide +kernel
theorem dL_digest_32 : decode cL_digest 32 = .ok (.istore_n 3, 1) := by decide +kernel
theorem dL_digest_33 : decode cL_digest 33 = .ok (.iload_n 3, 1) := by decide +kernel
theorem dL_digest_34 : decode cL_digest 34 = .ok (.bipush 36, 2) := by decide +kernel
theorem dL_digest_36 : decode cL_digest 36 = .ok (.if_icmp .ge 52, 3) := by decide +kernel
theorem dL_digest_39 : decode cL_digest 39 = .ok (.iconst 0, 1) := by decide +kernel
theorem dL_digest_40 : decode cL_digest 40 = .ok (.istore 4, 2) := by decide +kernel
theorem dL_digest_42 : decode cL_digest 42 = .ok (.iload 4, 2) := by decide +kernel
theorem dL_digest_44 : decode cL_digest 44 = .ok (.iconst 4, 1) := by decide +kernel
theorem dL_digest_45 : decode cL_digest 45 = .ok (.if_icmp .ge 24, 3) := by decide +kernel
theorem dL_digest_48 : decode cL_digest 48 = .ok (.ldc2_w 141, 3) := by decide +kernel
theorem dL_digest_51 : decode cL_digest 51 = .ok (.lload_n 1, 1) := by decide +kernel
theorem dL_digest_52 : decode cL_digest 52 = .ok (.lmul, 1) := by decide +kernel
theorem dL_digest_53 : decode cL_digest 53 = .ok (.aload_n 0, 1) := by decide +kernel
theorem dL_digest_54 : decode cL_digest 54 = .ok (.iload_n 3, 1) := by decide +kernel
theorem dL_digest_55 : decode cL_digest 55 = .ok (.iload 4, 2) := by decide +kernel
theorem dL_digest_57 : decode cL_digest 57 = .ok (.invokevirtual 96, 3) := by decide +kernel
theorem dL_digest_60 : decode cL_digest 60 = .ok (.i2l, 1) := by decide +kernel
theorem dL_digest_61 : decode cL_digest 61 = .ok (.ladd, 1) := by decide +kernel
theorem dL_digest_62 : decode cL_digest 62 = .ok (.lstore_n 1, 1) := by decide +kernel
theorem dL_digest_63 : decode cL_digest 63 = .ok (.iinc 4 1, 3) := by decide +kernel
theorem dL_digest_66 : decode cL_digest 66 = .ok (.goto (-24), 3) := by decide +kernel
theorem dL_digest_69 : decode cL_digest 69 = .ok (.ldc2_w 141, 3) := by decide +kernel
theorem dL_digest_72 : decode cL_digest 72 = .ok (.lload_n 1, 1) := by decide +kernel
theorem dL_digest_73 : decode cL_digest 73 = .ok (.lmul, 1) := by decide +kernel
theorem dL_digest_74 : decode cL_digest 74 = .ok (.aload_n 0, 1) := by decide +kernel
theorem dL_digest_75 : decode cL_digest 75 = .ok (.iload_n 3, 1) := by decide +kernel
theorem dL_digest_76 : decode cL_digest 76 = .ok (.invokevirtual 143, 3) := by decide +kernel
theorem dL_digest_79 : decode cL_digest 79 = .ok (.i2l, 1) := by decide +kernel
theorem dL_digest_80 : decode cL_digest 80 = .ok (.ladd, 1) := by decide +kernel
theorem dL_digest_81 : decode cL_digest 81 = .ok (.lstore_n 1, 1) := by decide +kernel
theorem dL_digest_82 : decode cL_digest 82 = .ok (.iinc 3 1, 3) := by decide +kernel
theorem dL_digest_85 : decode cL_digest 85 = .ok (.goto (-52), 3) := by decide +kernel
theorem dL_digest_88 : decode cL_digest 88 = .ok (.ldc2_w 141, 3) := by decide +kernel
theorem dL_digest_91 : decode cL_digest 91 = .ok (.ldc2_w 141, 3) := by decide +kernel
theorem dL_digest_94 : decode cL_digest 94 = .ok (.lload_n 1, 1) := by decide +kernel
theorem dL_digest_95 : decode cL_digest 95 = .ok (.lmul, 1) := by decide +kernel
theorem dL_digest_96 : decode cL_digest 96 = .ok (.aload_n 0, 1) := by decide +kernel
theorem dL_digest_97 : decode cL_digest 97 = .ok (.iconst 0, 1) := by decide +kernel
theorem dL_digest_98 : decode cL_digest 98 = .ok (.invokevirtual 146, 3) := by decide +kernel
theorem dL_digest_101 : decode cL_digest 101 = .ok (.i2l, 1) := by decide +kernel
theorem dL_digest_102 : decode cL_digest 102 = .ok (.ladd, 1) := by decide +kernel
theorem dL_digest_103 : decode cL_digest 103 = .ok (.lmul, 1) := by decide +kernel
theorem dL_digest_104 : decode cL_digest 104 = .ok (.aload_n 0, 1) := by decide +kernel
theorem dL_digest_105 : decode cL_digest 105 = .ok (.iconst 1, 1) := by decide +kernel
theorem dL_digest_106 : decode cL_digest 106 = .ok (.invokevirtual 146, 3) := by decide +kernel
theorem dL_digest_109 : decode cL_digest 109 = .ok (.i2l, 1) := by decide +kernel
theorem dL_digest_110 : decode cL_digest 110 = .ok (.ladd, 1) := by decide +kernel
theorem dL_digest_111 : decode cL_digest 111 = .ok (.lreturn, 1) := by decide +kernel
set_option maxRecDepth 20000 in
theorem ggL_areSquares_X4_square : GoodIn wsL_areSquares wsX4_square := goodIn_ca (goodIn_ca (goodIn_ca (goodIn_r _ [6, 7, 8, 9, 10, 11, 5, 12, 13, 14, 15, 16, 17, 18, 19, 20, 21, 22, 23, 24, 25, 26, 27, 28, 29, 30, 31, 32, 33, 34, 35, 36, 37, 38, 39, 40, 41, 42, 43, 44, 45, 46, 47, 48, 49, 50, 51, 52, 53, 54, 55, 56, 57, 58, 59, 60, 61, 62, 164, 165, 166, 167, 168, 169, 170, 171, 172] (by decide +kernel) (by decide +kernel)) (goodIn_sub (fun _ h => List.mem_cons_of_mem _ (List.mem_append_left _ (List.mem_append_left _ (List.mem_append_right _ h)))) (by decide +kernel))) (goodIn_sub (fun _ h => List.mem_cons_of_mem _ (List.mem_append_left _ (List.mem_append_right _ h))) (by decide +kernel))) (goodIn_sub (fun _ h => List.mem_cons_of_mem _ (List.mem_append_left _ (List.mem_append_left _ (List.mem_append_left _ (List.mem_append_right _ h))))) (by decide +kernel))
set_option maxRecDepth 20000 in
theorem gL_areSquares_X4_square : GoodIn wsL_areSquares (wsV RL 96 RX4 yX4_square wsX4_square) := goodIn_app (goodIn_of _ (by decide +kernel)) ggL_areSquares_X4_square
set_option maxRecDepth 20000 in
theorem ggL_areSquares_X4_picture : GoodIn wsL_areSquares wsX4_picture := goodIn_ca (goodIn_ca (goodIn_r _ [66, 9, 10, 11, 5, 12, 13, 14, 37, 38, 39, 18, 40, 41, 42, 43, 44, 24, 45, 46, 47, 48, 49, 50, 51, 52, 25, 26, 27, 28, 15, 16, 17, 19, 20, 21, 22, 23, 29, 30, 31, 32, 33, 34, 35, 36, 53, 54, 55, 56, 57, 58, 59, 60, 67, 68, 69, 164, 165, 166, 167, 168, 169, 170, 171, 172] (by decide +kernel) (by decide +kernel)) (goodIn_sub (fun _ h => List.mem_cons_of_mem _ (List.mem_append_left _ (List.mem_append_right _ h))) (by decide +kernel))) (goodIn_sub (fun _ h => List.mem_cons_of_mem _ (List.mem_append_left _ (List.mem_append_left _ (List.mem_append_left _ (List.mem_append_right _ h))))) (by decide +kernel))
set_option maxRecDepth 20000 in
theorem gL_areSquares_X4_picture : GoodIn wsL_areSquares (wsV RL 143 RX4 yX4_picture wsX4_picture) := goodIn_app (goodIn_of _ (by decide +kernel)) ggL_areSquares_X4_picture
set_option maxRecDepth 20000 in
theorem ggL_areSquares_L_moves : GoodIn wsL_areSquares wsL_moves := goodIn_ca (goodIn_ca (goodIn_ca (goodIn_r _ [73, 74, 75, 76, 77, 78, 5, 79, 9, 10, 11, 12, 13, 14, 80, 81, 82, 83, 84, 85, 15, 16, 17, 18, 19, 20, 21, 22, 23, 24, 25, 26, 27, 28, 29, 30, 31, 32, 33, 34, 35, 36, 86, 87, 88, 89, 90, 91, 38, 39, 40, 41, 42, 43, 44, 45, 46, 47, 48, 49, 50, 51, 52, 92, 93, 94, 95, 96, 97, 98, 99, 100, 54, 55, 56, 57, 58, 59, 60, 101, 102, 103, 104, 105, 106, 107, 108, 109, 110, 111, 112, 113, 114, 115, 116, 117, 118, 119, 120, 121, 122, 123, 124, 125, 126, 164, 165, 166, 167, 168, 169, 170, 171, 172] (by decide +kernel) (by decide +kernel)) (goodIn_sub (fun _ h => List.mem_cons_of_mem _ (List.mem_append_left _ (List.mem_append_right _ h))) (by decide +kernel))) (goodIn_sub (fun _ h => List.mem_cons_of_mem _ (List.mem_append_right _ h)) (by decide +kernel))) (goodIn_sub (fun _ h => List.mem_cons_of_mem _ (List.mem_append_left _ (List.mem_append_left _ (List.mem_append_left _ (List.mem_append_right _ h))))) (by decide +kernel))
set_option maxRecDepth 20000 in
theorem gL_areSquares_L_moves : GoodIn wsL_areSquares (va_wsS RL 149 yL_moves wsL_moves) := goodIn_app (goodIn_of _ (by decide +kernel)) ggL_areSquares_L_moves
set_option maxRecDepth 20000 in
theorem ggL_areSquares_X4_account : GoodIn wsL_areSquares wsX4_account := goodIn_ca (goodIn_ca (goodIn_r _ [130, 7, 8, 9, 131, 132, 133, 42, 43, 18, 44, 24, 117, 118, 27, 119, 120, 121, 122, 123, 124, 125, 126, 134, 30, 31, 32, 61, 34, 35, 36, 135, 136, 137, 138, 139, 140, 141, 142, 143, 144, 145, 146, 147, 148, 149, 150, 151, 152, 153, 154, 155, 156, 157, 158, 159, 160, 161, 162, 163, 164, 165, 166, 167, 168, 169, 170, 171, 172, 173, 174, 175, 176, 177] (by decide +kernel) (by decide +kernel)) (goodIn_sub (fun _ h => List.mem_cons_of_mem _ (List.mem_append_left _ (List.mem_append_left _ (List.mem_append_right _ h)))) (by decide +kernel))) (goodIn_sub (fun _ h => List.mem_cons_of_mem _ (List.mem_append_left _ (List.mem_append_left _ (List.mem_append_left _ (List.mem_append_right _ h))))) (by decide +kernel))
set_option maxRecDepth 20000 in
theorem gL_areSquares_X4_account : GoodIn wsL_areSquares (wsV RL 99 RX4 yX4_account wsX4_account) := goodIn_app (goodIn_of _ (by decide +kernel)) ggL_areSquares_X4_account
theorem dL_areSquares_0 : decode cL_areSquares 0 = .ok (.iconst 4, 1) := by decide +kernel
theorem dL_areSquares_1 : decode cL_areSquares 1 = .ok (.newarray .int, 2) := by decide +kernel
theorem dL_areSquares_3 : decode cL_areSquares 3 = .ok (.astore_n 1, 1) := by decide +kernel
theorem dL_areSquares_4 : decode cL_areSquares 4 = .ok (.iconst 2, 1) := by decide +kernel
theorem dL_areSquares_5 : decode cL_areSquares 5 = .ok (.newarray .int, 2) := by decide +kernel
theorem dL_areSquares_7 : decode cL_areSquares 7 = .ok (.astore_n 2, 1) := by decide +kernel
theorem dL_areSquares_8 : decode cL_areSquares 8 = .ok (.iconst 2, 1) := by decide +kernel
theorem dL_areSquares_9 : decode cL_areSquares 9 = .ok (.newarray .int, 2) := by decide +kernel
theorem dL_areSquares_11 : decode cL_areSquares 11 = .ok (.astore_n 3, 1) := by decide +kernel
theorem dL_areSquares_12 : decode cL_areSquares 12 = .ok (.iconst 0, 1) := by decide +kernel
theorem dL_areSquares_13 : decode cL_areSquares 13 = .ok (.istore 4, 2) := by decide +kernel
theorem dL_areSquares_15 : decode cL_areSquares 15 = .ok (.iconst 1, 1) := by decide +kernel
theorem dL_areSquares_16 : decode cL_areSquares 16 = .ok (.istore 5, 2) := by decide +kernel
theorem dL_areSquares_18 : decode cL_areSquares 18 = .ok (.iconst 0, 1) := by decide +kernel
theorem dL_areSquares_19 : decode cL_areSquares 19 = .ok (.istore 6, 2) := by decide +kernel
theorem dL_areSquares_21 : decode cL_areSquares 21 = .ok (.iload 5, 2) := by decide +kernel
theorem dL_areSquares_23 : decode cL_areSquares 23 = .ok (.ifCond .eq 239, 3) := by decide +kernel
theorem dL_areSquares_26 : decode cL_areSquares 26 = .ok (.iload 6, 2) := by decide +kernel
theorem dL_areSquares_28 : decode cL_areSquares 28 = .ok (.bipush 36, 2) := by decide +kernel
theorem dL_areSquares_30 : decode cL_areSquares 30 = .ok (.if_icmp .ge 232, 3) := by decide +kernel
theorem dL_areSquares_33 : decode cL_areSquares 33 = .ok (.aload_n 0, 1) := by decide +kernel
theorem dL_areSquares_34 : decode cL_areSquares 34 = .ok (.iload 6, 2) := by decide +kernel
theorem dL_areSquares_36 : decode cL_areSquares 36 = .ok (.iconst 0, 1) := by decide +kernel
theorem dL_areSquares_37 : decode cL_areSquares 37 = .ok (.invokevirtual 96, 3) := by decide +kernel
theorem dL_areSquares_40 : decode cL_areSquares 40 = .ok (.istore 7, 2) := by decide +kernel
theorem dL_areSquares_42 : decode cL_areSquares 42 = .ok (.aload_n 0, 1) := by decide +kernel
theorem dL_areSquares_43 : decode cL_areSquares 43 = .ok (.iload 6, 2) := by decide +kernel
theorem dL_areSquares_45 : decode cL_areSquares 45 = .ok (.iconst 1, 1) := by decide +kernel
theorem dL_areSquares_46 : decode cL_areSquares 46 = .ok (.invokevirtual 96, 3) := by decide +kernel
theorem dL_areSquares_49 : decode cL_areSquares 49 = .ok (.istore 8, 2) := by decide +kernel
theorem dL_areSquares_51 : decode cL_areSquares 51 = .ok (.aload_n 1, 1) := by decide +kernel
theorem dL_areSquares_52 : decode cL_areSquares 52 = .ok (.iload 7, 2) := by decide +kernel
theorem dL_areSquares_54 : decode cL_areSquares 54 = .ok (.dup2, 1) := by decide +kernel
theorem dL_areSquares_55 : decode cL_areSquares 55 = .ok (.iaload, 1) := by decide +kernel
theorem dL_areSquares_56 : decode cL_areSquares 56 = .ok (.iconst 1, 1) := by decide +kernel
theorem dL_areSquares_57 : decode cL_areSquares 57 = .ok (.iadd, 1) := by decide +kernel
theorem dL_areSquares_58 : decode cL_areSquares 58 = .ok (.iastore, 1) := by decide +kernel
theorem dL_areSquares_59 : decode cL_areSquares 59 = .ok (.iload 4, 2) := by decide +kernel
theorem dL_areSquares_61 : decode cL_areSquares 61 = .ok (.aload_n 0, 1) := by decide +kernel
theorem dL_areSquares_62 : decode cL_areSquares 62 = .ok (.iload 6, 2) := by decide +kernel
theorem dL_areSquares_64 : decode cL_areSquares 64 = .ok (.iconst 3, 1) := by decide +kernel
theorem dL_areSquares_65 : decode cL_areSquares 65 = .ok (.invokevirtual 96, 3) := by decide +kernel
theorem dL_areSquares_68 : decode cL_areSquares 68 = .ok (.iadd, 1) := by decide +kernel
theorem dL_areSquares_69 : decode cL_areSquares 69 = .ok (.istore 4, 2) := by decide +kernel
theorem dL_areSquares_71 : decode cL_areSquares 71 = .ok (.iload 7, 2) := by decide +kernel
theorem dL_areSquares_73 : decode cL_areSquares 73 = .ok (.ifCond .ne 31, 3) := by decide +kernel
theorem dL_areSquares_76 : decode cL_areSquares 76 = .ok (.iload 8, 2) := by decide +kernel
theorem dL_areSquares_78 : decode cL_areSquares 78 = .ok (.iconst (-1), 1) := by decide +kernel
theorem dL_areSquares_79 : decode cL_areSquares 79 = .ok (.if_icmp .ne 29, 3) := by decide +kernel
theorem dL_areSquares_82 : decode cL_areSquares 82 = .ok (.aload_n 0, 1) := by decide +kernel
theorem dL_areSquares_83 : decode cL_areSquares 83 = .ok (.iload 6, 2) := by decide +kernel
theorem dL_areSquares_85 : decode cL_areSquares 85 = .ok (.iconst 2, 1) := by decide +kernel
theorem dL_areSquares_86 : decode cL_areSquares 86 = .ok (.invokevirtual 96, 3) := by decide +kernel
theorem dL_areSquares_89 : decode cL_areSquares 89 = .ok (.iconst (-1), 1) := by decide +kernel
theorem dL_areSquares_90 : decode cL_areSquares 90 = .ok (.if_icmp .ne 18, 3) := by decide +kernel
theorem dL_areSquares_93 : decode cL_areSquares 93 = .ok (.aload_n 0, 1) := by decide +kernel
theorem dL_areSquares_94 : decode cL_areSquares 94 = .ok (.iload 6, 2) := by decide +kernel
theorem dL_areSquares_96 : decode cL_areSquares 96 = .ok (.invokevirtual 143, 3) := by decide +kernel
theorem dL_areSquares_99 : decode cL_areSquares 99 = .ok (.bipush 46, 2) := by decide +kernel
theorem dL_areSquares_101 : decode cL_areSquares 101 = .ok (.if_icmp .ne 7, 3) := by decide +kernel
theorem dL_areSquares_104 : decode cL_areSquares 104 = .ok (.iconst 1, 1) := by decide +kernel
theorem dL_areSquares_105 : decode cL_areSquares 105 = .ok (.goto 4, 3) := by decide +kernel
theorem dL_areSquares_108 : decode cL_areSquares 108 = .ok (.iconst 0, 1) := by decide +kernel
theorem dL_areSquares_109 : decode cL_areSquares 109 = .ok (.istore 5, 2) := by decide +kernel
theorem dL_areSquares_111 : decode cL_areSquares 111 = .ok (.iload 5, 2) := by decide +kernel
theorem dL_areSquares_113 : decode cL_areSquares 113 = .ok (.iload 7, 2) := by decide +kernel
theorem dL_areSquares_115 : decode cL_areSquares 115 = .ok (.iconst 2, 1) := by decide +kernel
theorem dL_areSquares_116 : decode cL_areSquares 116 = .ok (.if_icmp .ne 54, 3) := by decide +kernel
theorem dL_areSquares_119 : decode cL_areSquares 119 = .ok (.aload_n 0, 1) := by decide +kernel
theorem dL_areSquares_120 : decode cL_areSquares 120 = .ok (.iload 6, 2) := by decide +kernel
theorem dL_areSquares_122 : decode cL_areSquares 122 = .ok (.iconst 3, 1) := by decide +kernel
theorem dL_areSquares_123 : decode cL_areSquares 123 = .ok (.invokevirtual 96, 3) := by decide +kernel
theorem dL_areSquares_126 : decode cL_areSquares 126 = .ok (.ifCond .ne 48, 3) := by decide +kernel
theorem dL_areSquares_129 : decode cL_areSquares 129 = .ok (.aload_n 0, 1) := by decide +kernel
theorem dL_areSquares_130 : decode cL_areSquares 130 = .ok (.iload 6, 2) := by decide +kernel
theorem dL_areSquares_132 : decode cL_areSquares 132 = .ok (.invokevirtual 143, 3) := by decide +kernel
theorem dL_areSquares_135 : decode cL_areSquares 135 = .ok (.bipush 35, 2) := by decide +kernel
theorem dL_areSquares_137 : decode cL_areSquares 137 = .ok (.if_icmp .ne 37, 3) := by decide +kernel
theorem dL_areSquares_140 : decode cL_areSquares 140 = .ok (.iload 8, 2) := by decide +kernel
theorem dL_areSquares_142 : decode cL_areSquares 142 = .ok (.iconst (-1), 1) := by decide +kernel
theorem dL_areSquares_143 : decode cL_areSquares 143 = .ok (.if_icmp .ne 7, 3) := by decide +kernel
theorem dL_areSquares_146 : decode cL_areSquares 146 = .ok (.iconst 1, 1) := by decide +kernel
theorem dL_areSquares_147 : decode cL_areSquares 147 = .ok (.goto 4, 3) := by decide +kernel
theorem dL_areSquares_150 : decode cL_areSquares 150 = .ok (.iconst 0, 1) := by decide +kernel
theorem dL_areSquares_151 : decode cL_areSquares 151 = .ok (.aload_n 0, 1) := by decide +kernel
theorem dL_areSquares_152 : decode cL_areSquares 152 = .ok (.iload 6, 2) := by decide +kernel
theorem dL_areSquares_154 : decode cL_areSquares 154 = .ok (.iconst 2, 1) := by decide +kernel
theorem dL_areSquares_155 : decode cL_areSquares 155 = .ok (.invokevirtual 96, 3) := by decide +kernel
theorem dL_areSquares_158 : decode cL_areSquares 158 = .ok (.iconst (-1), 1) := by decide +kernel
theorem dL_areSquares_159 : decode cL_areSquares 159 = .ok (.if_icmp .ne 7, 3) := by decide +kernel
theorem dL_areSquares_162 : decode cL_areSquares 162 = .ok (.iconst 1, 1) := by decide +kernel
theorem dL_areSquares_163 : decode cL_areSquares 163 = .ok (.goto 4, 3) := by decide +kernel
theorem dL_areSquares_166 : decode cL_areSquares 166 = .ok (.iconst 0, 1) := by decide +kernel
theorem dL_areSquares_167 : decode cL_areSquares 167 = .ok (.if_icmp .ne 7, 3) := by decide +kernel
theorem dL_areSquares_170 : decode cL_areSquares 170 = .ok (.iconst 1, 1) := by decide +kernel
theorem dL_areSquares_171 : decode cL_areSquares 171 = .ok (.goto 4, 3) := by decide +kernel
theorem dL_areSquares_174 : decode cL_areSquares 174 = .ok (.iconst 0, 1) := by decide +kernel
theorem dL_areSquares_175 : decode cL_areSquares 175 = .ok (.iand, 1) := by decide +kernel
theorem dL_areSquares_176 : decode cL_areSquares 176 = .ok (.istore 5, 2) := by decide +kernel
theorem dL_areSquares_178 : decode cL_areSquares 178 = .ok (.iload 7, 2) := by decide +kernel
theorem dL_areSquares_180 : decode cL_areSquares 180 = .ok (.iconst 1, 1) := by decide +kernel
theorem dL_areSquares_181 : decode cL_areSquares 181 = .ok (.if_icmp .ne 34, 3) := by decide +kernel
theorem dL_areSquares_184 : decode cL_areSquares 184 = .ok (.aload_n 2, 1) := by decide +kernel
theorem dL_areSquares_185 : decode cL_areSquares 185 = .ok (.iload 8, 2) := by decide +kernel
theorem dL_areSquares_187 : decode cL_areSquares 187 = .ok (.dup2, 1) := by decide +kernel
theorem dL_areSquares_188 : decode cL_areSquares 188 = .ok (.iaload, 1) := by decide +kernel
theorem dL_areSquares_189 : decode cL_areSquares 189 = .ok (.iconst 1, 1) := by decide +kernel
theorem dL_areSquares_190 : decode cL_areSquares 190 = .ok (.iadd, 1) := by decide +kernel
theorem dL_areSquares_191 : decode cL_areSquares 191 = .ok (.iastore, 1) := by decide +kernel
theorem dL_areSquares_192 : decode cL_areSquares 192 = .ok (.aload_n 3, 1) := by decide +kernel
theorem dL_areSquares_193 : decode cL_areSquares 193 = .ok (.iload 8, 2) := by decide +kernel
theorem dL_areSquares_195 : decode cL_areSquares 195 = .ok (.dup2, 1) := by decide +kernel
theorem dL_areSquares_196 : decode cL_areSquares 196 = .ok (.iaload, 1) := by decide +kernel
theorem dL_areSquares_197 : decode cL_areSquares 197 = .ok (.aload_n 0, 1) := by decide +kernel
theorem dL_areSquares_198 : decode cL_areSquares 198 = .ok (.iload 6, 2) := by decide +kernel
theorem dL_areSquares_200 : decode cL_areSquares 200 = .ok (.iconst 2, 1) := by decide +kernel
theorem dL_areSquares_201 : decode cL_areSquares 201 = .ok (.invokevirtual 96, 3) := by decide +kernel
theorem dL_areSquares_204 : decode cL_areSquares 204 = .ok (.iconst 3, 1) := by decide +kernel
theorem dL_areSquares_205 : decode cL_areSquares 205 = .ok (.if_icmp .ne 7, 3) := by decide +kernel
theorem dL_areSquares_208 : decode cL_areSquares 208 = .ok (.iconst 1, 1) := by decide +kernel
theorem dL_areSquares_209 : decode cL_areSquares 209 = .ok (.goto 4, 3) := by decide +kernel
theorem dL_areSquares_212 : decode cL_areSquares 212 = .ok (.iconst 0, 1) := by decide +kernel
theorem dL_areSquares_213 : decode cL_areSquares 213 = .ok (.iadd, 1) := by decide +kernel
theorem dL_areSquares_214 : decode cL_areSquares 214 = .ok (.iastore, 1) := by decide +kernel
theorem dL_areSquares_215 : decode cL_areSquares 215 = .ok (.iload 5, 2) := by decide +kernel
theorem dL_areSquares_217 : decode cL_areSquares 217 = .ok (.aload_n 0, 1) := by decide +kernel
theorem dL_areSquares_218 : decode cL_areSquares 218 = .ok (.iload 6, 2) := by decide +kernel
theorem dL_areSquares_220 : decode cL_areSquares 220 = .ok (.invokestatic 149, 3) := by decide +kernel
theorem dL_areSquares_223 : decode cL_areSquares 223 = .ok (.sipush (-1000), 3) := by decide +kernel
theorem dL_areSquares_226 : decode cL_areSquares 226 = .ok (.if_icmp .ne 7, 3) := by decide +kernel
theorem dL_areSquares_229 : decode cL_areSquares 229 = .ok (.iconst 1, 1) := by decide +kernel
theorem dL_areSquares_230 : decode cL_areSquares 230 = .ok (.goto 4, 3) := by decide +kernel
theorem dL_areSquares_233 : decode cL_areSquares 233 = .ok (.iconst 0, 1) := by decide +kernel
theorem dL_areSquares_234 : decode cL_areSquares 234 = .ok (.iload 7, 2) := by decide +kernel
theorem dL_areSquares_236 : decode cL_areSquares 236 = .ok (.iconst 1, 1) := by decide +kernel
theorem dL_areSquares_237 : decode cL_areSquares 237 = .ok (.if_icmp .eq 7, 3) := by decide +kernel
theorem dL_areSquares_240 : decode cL_areSquares 240 = .ok (.iconst 1, 1) := by decide +kernel
theorem dL_areSquares_241 : decode cL_areSquares 241 = .ok (.goto 4, 3) := by decide +kernel
theorem dL_areSquares_244 : decode cL_areSquares 244 = .ok (.iconst 0, 1) := by decide +kernel
theorem dL_areSquares_245 : decode cL_areSquares 245 = .ok (.if_icmp .ne 7, 3) := by decide +kernel
theorem dL_areSquares_248 : decode cL_areSquares 248 = .ok (.iconst 1, 1) := by decide +kernel
theorem dL_areSquares_249 : decode cL_areSquares 249 = .ok (.goto 4, 3) := by decide +kernel
theorem dL_areSquares_252 : decode cL_areSquares 252 = .ok (.iconst 0, 1) := by decide +kernel
theorem dL_areSquares_253 : decode cL_areSquares 253 = .ok (.iand, 1) := by decide +kernel
theorem dL_areSquares_254 : decode cL_areSquares 254 = .ok (.istore 5, 2) := by decide +kernel
theorem dL_areSquares_256 : decode cL_areSquares 256 = .ok (.iinc 6 1, 3) := by decide +kernel
theorem dL_areSquares_259 : decode cL_areSquares 259 = .ok (.goto (-238), 3) := by decide +kernel
theorem dL_areSquares_262 : decode cL_areSquares 262 = .ok (.iload 5, 2) := by decide +kernel
theorem dL_areSquares_264 : decode cL_areSquares 264 = .ok (.ifCond .eq 64, 3) := by decide +kernel
theorem dL_areSquares_267 : decode cL_areSquares 267 = .ok (.aload_n 2, 1) := by decide +kernel
theorem dL_areSquares_268 : decode cL_areSquares 268 = .ok (.iconst 0, 1) := by decide +kernel
theorem dL_areSquares_269 : decode cL_areSquares 269 = .ok (.iaload, 1) := by decide +kernel
theorem dL_areSquares_270 : decode cL_areSquares 270 = .ok (.aload_n 0, 1) := by decide +kernel
theorem dL_areSquares_271 : decode cL_areSquares 271 = .ok (.iconst 0, 1) := by decide +kernel
theorem dL_areSquares_272 : decode cL_areSquares 272 = .ok (.invokevirtual 99, 3) := by decide +kernel
theorem dL_areSquares_275 : decode cL_areSquares 275 = .ok (.if_icmp .ne 53, 3) := by decide +kernel
theorem dL_areSquares_278 : decode cL_areSquares 278 = .ok (.aload_n 2, 1) := by decide +kernel
theorem dL_areSquares_279 : decode cL_areSquares 279 = .ok (.iconst 1, 1) := by decide +kernel
theorem dL_areSquares_280 : decode cL_areSquares 280 = .ok (.iaload, 1) := by decide +kernel
theorem dL_areSquares_281 : decode cL_areSquares 281 = .ok (.aload_n 0, 1) := by decide +kernel
theorem dL_areSquares_282 : decode cL_areSquares 282 = .ok (.iconst 1, 1) := by decide +kernel
theorem dL_areSquares_283 : decode cL_areSquares 283 = .ok (.invokevirtual 99, 3) := by decide +kernel
theorem dL_areSquares_286 : decode cL_areSquares 286 = .ok (.if_icmp .ne 42, 3) := by decide +kernel
theorem dL_areSquares_289 : decode cL_areSquares 289 = .ok (.aload_n 1, 1) := by decide +kernel
theorem dL_areSquares_290 : decode cL_areSquares 290 = .ok (.iconst 2, 1) := by decide +kernel
theorem dL_areSquares_291 : decode cL_areSquares 291 = .ok (.iaload, 1) := by decide +kernel
theorem dL_areSquares_292 : decode cL_areSquares 292 = .ok (.aload_n 0, 1) := by decide +kernel
theorem dL_areSquares_293 : decode cL_areSquares 293 = .ok (.iconst 2, 1) := by decide +kernel
theorem dL_areSquares_294 : decode cL_areSquares 294 = .ok (.invokevirtual 99, 3) := by decide +kernel
theorem dL_areSquares_297 : decode cL_areSquares 297 = .ok (.if_icmp .ne 31, 3) := by decide +kernel
theorem dL_areSquares_300 : decode cL_areSquares 300 = .ok (.iload 4, 2) := by decide +kernel
theorem dL_areSquares_302 : decode cL_areSquares 302 = .ok (.aload_n 0, 1) := by decide +kernel
theorem dL_areSquares_303 : decode cL_areSquares 303 = .ok (.iconst 3, 1) := by decide +kernel
theorem dL_areSquares_304 : decode cL_areSquares 304 = .ok (.invokevirtual 99, 3) := by decide +kernel
theorem dL_areSquares_307 : decode cL_areSquares 307 = .ok (.if_icmp .ne 21, 3) := by decide +kernel
theorem dL_areSquares_310 : decode cL_areSquares 310 = .ok (.aload_n 3, 1) := by decide +kernel
theorem dL_areSquares_311 : decode cL_areSquares 311 = .ok (.iconst 0, 1) := by decide +kernel
theorem dL_areSquares_312 : decode cL_areSquares 312 = .ok (.iaload, 1) := by decide +kernel
theorem dL_areSquares_313 : decode cL_areSquares 313 = .ok (.iconst 1, 1) := by decide +kernel
theorem dL_areSquares_314 : decode cL_areSquares 314 = .ok (.if_icmp .gt 14, 3) := by decide +kernel
theorem dL_areSquares_317 : decode cL_areSquares 317 = .ok (.aload_n 3, 1) := by decide +kernel
theorem dL_areSquares_318 : decode cL_areSquares 318 = .ok (.iconst 1, 1) := by decide +kernel
theorem dL_areSquares_319 : decode cL_areSquares 319 = .ok (.iaload, 1) := by decide +kernel
theorem dL_areSquares_320 : decode cL_areSquares 320 = .ok (.iconst 1, 1) := by decide +kernel
theorem dL_areSquares_321 : decode cL_areSquares 321 = .ok (.if_icmp .gt 7, 3) := by decide +kernel
theorem dL_areSquares_324 : decode cL_areSquares 324 = .ok (.iconst 1, 1) := by decide +kernel
theorem dL_areSquares_325 : decode cL_areSquares 325 = .ok (.goto 4, 3) := by decide +kernel
theorem dL_areSquares_328 : decode cL_areSquares 328 = .ok (.iconst 0, 1) := by decide +kernel
theorem dL_areSquares_329 : decode cL_areSquares 329 = .ok (.ireturn, 1) := by decide +kernel
set_option maxRecDepth 20000 in
theorem ggL_areRooms_X4_rooms : GoodIn wsL_areRooms wsX4_rooms := goodIn_ca (goodIn_ca (goodIn_r _ [6, 7, 8, 9, 5, 10, 11, 12, 13, 14, 15, 16, 17, 18, 19, 20, 21, 22, 23, 24, 25, 26, 27, 28, 29, 30, 31, 32, 33, 34, 35, 36, 37, 175, 176, 177, 178, 179, 180, 181, 182, 183] (by decide +kernel) (by decide +kernel)) (goodIn_sub (fun _ h => List.mem_cons_of_mem _ (List.mem_append_left _ (List.mem_append_left _ (List.mem_append_left _ (List.mem_append_left _ (List.mem_append_right _ h)))))) (by decide +kernel))) (goodIn_sub (fun _ h => List.mem_cons_of_mem _ (List.mem_append_left _ (List.mem_append_left _ (List.mem_append_left _ (List.mem_append_right _ h))))) (by decide +kernel))
set_option maxRecDepth 20000 in
theorem gL_areRooms_X4_rooms : GoodIn wsL_areRooms (wsV RL 151 RX4 yX4_rooms wsX4_rooms) := goodIn_app (goodIn_of _ (by decide +kernel)) ggL_areRooms_X4_rooms
set_option maxRecDepth 20000 in
theorem ggL_areRooms_X4_roomOf : GoodIn wsL_areRooms wsX4_roomOf := goodIn_ca (goodIn_ca (goodIn_ca (goodIn_r _ [41, 11, 12, 42, 43, 7, 8, 9, 5, 10, 44, 45, 46, 16, 47, 18, 19, 20, 21, 22, 23, 24, 25, 26, 27, 28, 29, 30, 31, 32, 33, 34, 35, 36, 37, 48, 49, 50, 51, 52, 53, 54, 55, 56, 57, 58, 59, 60, 61, 62, 63, 64, 65, 66, 67, 68, 69, 70, 71, 175, 176, 177, 178, 179, 180, 181, 182, 183] (by decide +kernel) (by decide +kernel)) (goodIn_sub (fun _ h => List.mem_cons_of_mem _ (List.mem_append_left _ (List.mem_append_left _ (List.mem_append_left _ (List.mem_append_left _ (List.mem_append_right _ h)))))) (by decide +kernel))) (goodIn_sub (fun _ h => List.mem_cons_of_mem _ (List.mem_append_left _ (List.mem_append_left _ (List.mem_append_right _ h)))) (by decide +kernel))) (goodIn_sub (fun _ h => List.mem_cons_of_mem _ (List.mem_append_left _ (List.mem_append_left _ (List.mem_append_left _ (List.mem_append_right _ h))))) (by decide +kernel))
set_option maxRecDepth 20000 in
theorem gL_areRooms_X4_roomOf : GoodIn wsL_areRooms (wsV RL 154 RX4 yX4_roomOf wsX4_roomOf) := goodIn_app (goodIn_of _ (by decide +kernel)) ggL_areRooms_X4_roomOf
set_option maxRecDepth 20000 in
theorem ggL_areRooms_L_room : GoodIn wsL_areRooms wsL_room := goodIn_ca (goodIn_ca (goodIn_ca (goodIn_r _ [75, 76, 77, 78, 79, 80, 5, 81, 82, 83, 7, 8, 9, 10, 11, 12, 84, 85, 86, 87, 88, 89, 16, 90, 18, 19, 20, 21, 22, 23, 24, 91, 92, 27, 93, 25, 26, 28, 29, 30, 31, 32, 33, 34, 35, 36, 37, 175, 176, 177, 178, 179, 180, 181, 182, 183] (by decide +kernel) (by decide +kernel)) (goodIn_sub (fun _ h => List.mem_cons_of_mem _ (List.mem_append_left _ (List.mem_append_right _ h))) (by decide +kernel))) (goodIn_sub (fun _ h => List.mem_cons_of_mem _ (List.mem_append_left _ (List.mem_append_left _ (List.mem_append_left _ (List.mem_append_left _ (List.mem_append_right _ h)))))) (by decide +kernel))) (goodIn_sub (fun _ h => List.mem_cons_of_mem _ (List.mem_append_left _ (List.mem_append_left _ (List.mem_append_left _ (List.mem_append_right _ h))))) (by decide +kernel))
set_option maxRecDepth 20000 in
theorem gL_areRooms_L_room : GoodIn wsL_areRooms (va_wsS RL 157 yL_room wsL_room) := goodIn_app (goodIn_of _ (by decide +kernel)) ggL_areRooms_L_room
set_option maxRecDepth 20000 in
theorem ggL_areRooms_L_steps : GoodIn wsL_areRooms wsL_steps := goodIn_ca (goodIn_ca (goodIn_ca (goodIn_r _ [96, 76, 77, 97, 98, 99, 5, 100, 82, 83, 7, 8, 9, 10, 11, 12, 84, 85, 86, 101, 102, 103, 16, 104, 19, 20, 21, 22, 23, 24, 18, 105, 59, 60, 61, 91, 92, 27, 93, 106, 33, 34, 35, 36, 37, 175, 176, 177, 178, 179, 180, 181, 182, 183] (by decide +kernel) (by decide +kernel)) (goodIn_sub (fun _ h => List.mem_cons_of_mem _ (List.mem_append_left _ (List.mem_append_right _ h))) (by decide +kernel))) (goodIn_sub (fun _ h => List.mem_cons_of_mem _ (List.mem_append_left _ (List.mem_append_left _ (List.mem_append_left _ (List.mem_append_left _ (List.mem_append_right _ h)))))) (by decide +kernel))) (goodIn_sub (fun _ h => List.mem_cons_of_mem _ (List.mem_append_left _ (List.mem_append_left _ (List.mem_append_left _ (List.mem_append_right _ h))))) (by decide +kernel))
set_option maxRecDepth 20000 in
theorem gL_areRooms_L_steps : GoodIn wsL_areRooms (va_wsS RL 159 yL_steps wsL_steps) := goodIn_app (goodIn_of _ (by decide +kernel)) ggL_areRooms_L_steps
set_option maxRecDepth 20000 in
theorem ggL_areRooms_X4_account : GoodIn wsL_areRooms wsX4_account := goodIn_ca (goodIn_ca (goodIn_r _ [110, 42, 43, 7, 111, 112, 58, 59, 60, 16, 61, 23, 48, 49, 27, 50, 51, 52, 53, 54, 55, 56, 57, 113, 114, 115, 116, 65, 66, 67, 68, 117, 118, 119, 120, 121, 122, 123, 124, 125, 126, 127, 128, 129, 130, 131, 132, 133, 134, 135, 136, 137, 138, 139, 140, 141, 142, 143, 144, 145, 175, 176, 177, 178, 179, 180, 181, 182, 183, 184, 185, 186, 187, 188] (by decide +kernel) (by decide +kernel)) (goodIn_sub (fun _ h => List.mem_cons_of_mem _ (List.mem_append_left _ (List.mem_append_left _ (List.mem_append_right _ h)))) (by decide +kernel))) (goodIn_sub (fun _ h => List.mem_cons_of_mem _ (List.mem_append_left _ (List.mem_append_left _ (List.mem_append_left _ (List.mem_append_right _ h))))) (by decide +kernel))
set_option maxRecDepth 20000 in
theorem gL_areRooms_X4_account : GoodIn wsL_areRooms (wsV RL 99 RX4 yX4_account wsX4_account) := goodIn_app (goodIn_of _ (by decide +kernel)) ggL_areRooms_X4_account
set_option maxRecDepth 20000 in
theorem ggL_areRooms_X4_sealed : GoodIn wsL_areRooms wsX4_sealed := goodIn_ca (goodIn_ca (goodIn_r _ [149, 7, 8, 9, 5, 10, 11, 12, 150, 151, 152, 16, 153, 18, 19, 20, 21, 22, 23, 24, 25, 26, 27, 28, 29, 30, 31, 32, 33, 34, 35, 36, 37, 105, 59, 60, 61, 154, 49, 50, 51, 52, 53, 54, 55, 56, 57, 175, 176, 177, 178, 179, 180, 181, 182, 183] (by decide +kernel) (by decide +kernel)) (goodIn_sub (fun _ h => List.mem_cons_of_mem _ (List.mem_append_left _ (List.mem_append_left _ (List.mem_append_left _ (List.mem_append_left _ (List.mem_append_right _ h)))))) (by decide +kernel))) (goodIn_sub (fun _ h => List.mem_cons_of_mem _ (List.mem_append_left _ (List.mem_append_left _ (List.mem_append_left _ (List.mem_append_right _ h))))) (by decide +kernel))
set_option maxRecDepth 20000 in
theorem gL_areRooms_X4_sealed : GoodIn wsL_areRooms (wsV RL 146 RX4 yX4_sealed wsX4_sealed) := goodIn_app (goodIn_of _ (by decide +kernel)) ggL_areRooms_X4_sealed
set_option maxRecDepth 20000 in
theorem ggL_areRooms_X4_sealedAgain : GoodIn wsL_areRooms wsX4_sealedAgain := goodIn_ca (goodIn_ca (goodIn_r _ [158, 7, 8, 9, 5, 10, 11, 12, 159, 160, 161, 16, 162, 18, 19, 20, 21, 22, 23, 24, 105, 59, 60, 61, 163, 30, 27, 31, 32, 33, 34, 35, 36, 37, 154, 49, 50, 51, 52, 53, 54, 55, 56, 57, 175, 176, 177, 178, 179, 180, 181, 182, 183] (by decide +kernel) (by decide +kernel)) (goodIn_sub (fun _ h => List.mem_cons_of_mem _ (List.mem_append_left _ (List.mem_append_left _ (List.mem_append_left _ (List.mem_append_left _ (List.mem_append_right _ h)))))) (by decide +kernel))) (goodIn_sub (fun _ h => List.mem_cons_of_mem _ (List.mem_append_left _ (List.mem_append_left _ (List.mem_append_left _ (List.mem_append_right _ h))))) (by decide +kernel))
set_option maxRecDepth 20000 in
theorem gL_areRooms_X4_sealedAgain : GoodIn wsL_areRooms (wsV RL 161 RX4 yX4_sealedAgain wsX4_sealedAgain) := goodIn_app (goodIn_of _ (by decide +kernel)) ggL_areRooms_X4_sealedAgain
set_option maxRecDepth 20000 in
theorem ggL_areRooms_L_sealedShare : GoodIn wsL_areRooms wsL_sealedShare := goodIn_ca (goodIn_ca (goodIn_ca (goodIn_r _ [166, 76, 167, 1, 168, 169, 170, 5, 171, 172, 173, 7, 8, 9, 10, 11, 12, 174, 20, 21, 16, 22, 23, 24, 18, 48, 49, 27, 50, 51, 52, 53, 54, 55, 56, 57, 150, 151, 152, 153, 19, 25, 26, 28, 29, 30, 31, 32, 33, 34, 35, 36, 37, 105, 59, 60, 61, 154, 175, 176, 177, 178, 179, 180, 181, 182, 183] (by decide +kernel) (by decide +kernel)) (goodIn_sub (fun _ h => List.mem_cons_of_mem _ (List.mem_append_right _ h)) (by decide +kernel))) (goodIn_sub (fun _ h => List.mem_cons_of_mem _ (List.mem_append_left _ (List.mem_append_left _ (List.mem_append_left _ (List.mem_append_left _ (List.mem_append_right _ h)))))) (by decide +kernel))) (goodIn_sub (fun _ h => List.mem_cons_of_mem _ (List.mem_append_left _ (List.mem_append_left _ (List.mem_append_left _ (List.mem_append_right _ h))))) (by decide +kernel))
set_option maxRecDepth 20000 in
theorem gL_areRooms_L_sealedShare : GoodIn wsL_areRooms (va_wsS RL 164 yL_sealedShare wsL_sealedShare) := goodIn_app (goodIn_of _ (by decide +kernel)) ggL_areRooms_L_sealedShare
theorem dL_areRooms_0 : decode cL_areRooms 0 = .ok (.iconst 0, 1) := by decide +kernel
theorem dL_areRooms_1 : decode cL_areRooms 1 = .ok (.istore_n 2, 1) := by decide +kernel
theorem dL_areRooms_2 : decode cL_areRooms 2 = .ok (.iconst 0, 1) := by decide +kernel
theorem dL_areRooms_3 : decode cL_areRooms 3 = .ok (.istore_n 3, 1) := by decide +kernel
theorem dL_areRooms_4 : decode cL_areRooms 4 = .ok (.iconst 0, 1) := by decide +kernel
theorem dL_areRooms_5 : decode cL_areRooms 5 = .ok (.istore 4, 2) := by decide +kernel
theorem dL_areRooms_7 : decode cL_areRooms 7 = .ok (.iconst (-1), 1) := by decide +kernel
theorem dL_areRooms_8 : decode cL_areRooms 8 = .ok (.istore 5, 2) := by decide +kernel
theorem dL_areRooms_10 : decode cL_areRooms 10 = .ok (.iconst 1, 1) := by decide +kernel
theorem dL_areRooms_11 : decode cL_areRooms 11 = .ok (.istore 6, 2) := by decide +kernel
theorem dL_areRooms_13 : decode cL_areRooms 13 = .ok (.iconst 0, 1) := by decide +kernel
theorem dL_areRooms_14 : decode cL_areRooms 14 = .ok (.istore 7, 2) := by decide +kernel
theorem dL_areRooms_16 : decode cL_areRooms 16 = .ok (.iload 6, 2) := by decide +kernel
theorem dL_areRooms_18 : decode cL_areRooms 18 = .ok (.ifCond .eq 158, 3) := by decide +kernel
theorem dL_areRooms_21 : decode cL_areRooms 21 = .ok (.iload 7, 2) := by decide +kernel
theorem dL_areRooms_23 : decode cL_areRooms 23 = .ok (.aload_n 0, 1) := by decide +kernel
theorem dL_areRooms_24 : decode cL_areRooms 24 = .ok (.iload_n 1, 1) := by decide +kernel
theorem dL_areRooms_25 : decode cL_areRooms 25 = .ok (.invokevirtual 151, 3) := by decide +kernel
theorem dL_areRooms_28 : decode cL_areRooms 28 = .ok (.if_icmp .ge 148, 3) := by decide +kernel
theorem dL_areRooms_31 : decode cL_areRooms 31 = .ok (.iload_n 2, 1) := by decide +kernel
theorem dL_areRooms_32 : decode cL_areRooms 32 = .ok (.aload_n 0, 1) := by decide +kernel
theorem dL_areRooms_33 : decode cL_areRooms 33 = .ok (.iload_n 1, 1) := by decide +kernel
theorem dL_areRooms_34 : decode cL_areRooms 34 = .ok (.iload 7, 2) := by decide +kernel
theorem dL_areRooms_36 : decode cL_areRooms 36 = .ok (.iconst 0, 1) := by decide +kernel
theorem dL_areRooms_37 : decode cL_areRooms 37 = .ok (.invokevirtual 154, 3) := by decide +kernel
theorem dL_areRooms_40 : decode cL_areRooms 40 = .ok (.iadd, 1) := by decide +kernel
theorem dL_areRooms_41 : decode cL_areRooms 41 = .ok (.istore_n 2, 1) := by decide +kernel
theorem dL_areRooms_42 : decode cL_areRooms 42 = .ok (.iload 4, 2) := by decide +kernel
theorem dL_areRooms_44 : decode cL_areRooms 44 = .ok (.aload_n 0, 1) := by decide +kernel
theorem dL_areRooms_45 : decode cL_areRooms 45 = .ok (.iload_n 1, 1) := by decide +kernel
theorem dL_areRooms_46 : decode cL_areRooms 46 = .ok (.iload 7, 2) := by decide +kernel
theorem dL_areRooms_48 : decode cL_areRooms 48 = .ok (.iconst 1, 1) := by decide +kernel
theorem dL_areRooms_49 : decode cL_areRooms 49 = .ok (.invokevirtual 154, 3) := by decide +kernel
theorem dL_areRooms_52 : decode cL_areRooms 52 = .ok (.iadd, 1) := by decide +kernel
theorem dL_areRooms_53 : decode cL_areRooms 53 = .ok (.istore 4, 2) := by decide +kernel
theorem dL_areRooms_55 : decode cL_areRooms 55 = .ok (.iload_n 3, 1) := by decide +kernel
theorem dL_areRooms_56 : decode cL_areRooms 56 = .ok (.aload_n 0, 1) := by decide +kernel
theorem dL_areRooms_57 : decode cL_areRooms 57 = .ok (.iload_n 1, 1) := by decide +kernel
theorem dL_areRooms_58 : decode cL_areRooms 58 = .ok (.iload 7, 2) := by decide +kernel
theorem dL_areRooms_60 : decode cL_areRooms 60 = .ok (.iconst 5, 1) := by decide +kernel
theorem dL_areRooms_61 : decode cL_areRooms 61 = .ok (.invokevirtual 154, 3) := by decide +kernel
theorem dL_areRooms_64 : decode cL_areRooms 64 = .ok (.iconst 1, 1) := by decide +kernel
theorem dL_areRooms_65 : decode cL_areRooms 65 = .ok (.if_icmp .ne 14, 3) := by decide +kernel
theorem dL_areRooms_68 : decode cL_areRooms 68 = .ok (.aload_n 0, 1) := by decide +kernel
theorem dL_areRooms_69 : decode cL_areRooms 69 = .ok (.iload_n 1, 1) := by decide +kernel
theorem dL_areRooms_70 : decode cL_areRooms 70 = .ok (.iload 7, 2) := by decide +kernel
theorem dL_areRooms_72 : decode cL_areRooms 72 = .ok (.iconst 0, 1) := by decide +kernel
theorem dL_areRooms_73 : decode cL_areRooms 73 = .ok (.invokevirtual 154, 3) := by decide +kernel
theorem dL_areRooms_76 : decode cL_areRooms 76 = .ok (.goto 4, 3) := by decide +kernel
theorem dL_areRooms_79 : decode cL_areRooms 79 = .ok (.iconst 0, 1) := by decide +kernel
theorem dL_areRooms_80 : decode cL_areRooms 80 = .ok (.iadd, 1) := by decide +kernel
theorem dL_areRooms_81 : decode cL_areRooms 81 = .ok (.istore_n 3, 1) := by decide +kernel
theorem dL_areRooms_82 : decode cL_areRooms 82 = .ok (.aload_n 0, 1) := by decide +kernel
theorem dL_areRooms_83 : decode cL_areRooms 83 = .ok (.iload_n 1, 1) := by decide +kernel
theorem dL_areRooms_84 : decode cL_areRooms 84 = .ok (.iload 7, 2) := by decide +kernel
theorem dL_areRooms_86 : decode cL_areRooms 86 = .ok (.iconst 4, 1) := by decide +kernel
theorem dL_areRooms_87 : decode cL_areRooms 87 = .ok (.invokevirtual 154, 3) := by decide +kernel
theorem dL_areRooms_90 : decode cL_areRooms 90 = .ok (.iload 5, 2) := by decide +kernel
theorem dL_areRooms_92 : decode cL_areRooms 92 = .ok (.if_icmp .le 43, 3) := by decide +kernel
theorem dL_areRooms_95 : decode cL_areRooms 95 = .ok (.aload_n 0, 1) := by decide +kernel
theorem dL_areRooms_96 : decode cL_areRooms 96 = .ok (.iload_n 1, 1) := by decide +kernel
theorem dL_areRooms_97 : decode cL_areRooms 97 = .ok (.iload 7, 2) := by decide +kernel
theorem dL_areRooms_99 : decode cL_areRooms 99 = .ok (.iconst 5, 1) := by decide +kernel
theorem dL_areRooms_100 : decode cL_areRooms 100 = .ok (.invokevirtual 154, 3) := by decide +kernel
theorem dL_areRooms_103 : decode cL_areRooms 103 = .ok (.iconst 1, 1) := by decide +kernel
theorem dL_areRooms_104 : decode cL_areRooms 104 = .ok (.if_icmp .ne 7, 3) := by decide +kernel
theorem dL_areRooms_107 : decode cL_areRooms 107 = .ok (.iconst 1, 1) := by decide +kernel
theorem dL_areRooms_108 : decode cL_areRooms 108 = .ok (.goto 4, 3) := by decide +kernel
theorem dL_areRooms_111 : decode cL_areRooms 111 = .ok (.iconst 0, 1) := by decide +kernel
theorem dL_areRooms_112 : decode cL_areRooms 112 = .ok (.aload_n 0, 1) := by decide +kernel
theorem dL_areRooms_113 : decode cL_areRooms 113 = .ok (.iload_n 1, 1) := by decide +kernel
theorem dL_areRooms_114 : decode cL_areRooms 114 = .ok (.iload 7, 2) := by decide +kernel
theorem dL_areRooms_116 : decode cL_areRooms 116 = .ok (.iconst 1, 1) := by decide +kernel
theorem dL_areRooms_117 : decode cL_areRooms 117 = .ok (.invokevirtual 154, 3) := by decide +kernel
theorem dL_areRooms_120 : decode cL_areRooms 120 = .ok (.ifCond .ne 7, 3) := by decide +kernel
theorem dL_areRooms_123 : decode cL_areRooms 123 = .ok (.iconst 1, 1) := by decide +kernel
theorem dL_areRooms_124 : decode cL_areRooms 124 = .ok (.goto 4, 3) := by decide +kernel
theorem dL_areRooms_127 : decode cL_areRooms 127 = .ok (.iconst 0, 1) := by decide +kernel
theorem dL_areRooms_128 : decode cL_areRooms 128 = .ok (.if_icmp .ne 7, 3) := by decide +kernel
theorem dL_areRooms_131 : decode cL_areRooms 131 = .ok (.iconst 1, 1) := by decide +kernel
theorem dL_areRooms_132 : decode cL_areRooms 132 = .ok (.goto 4, 3) := by decide +kernel
theorem dL_areRooms_135 : decode cL_areRooms 135 = .ok (.iconst 0, 1) := by decide +kernel
theorem dL_areRooms_136 : decode cL_areRooms 136 = .ok (.istore 6, 2) := by decide +kernel
theorem dL_areRooms_138 : decode cL_areRooms 138 = .ok (.aload_n 0, 1) := by decide +kernel
theorem dL_areRooms_139 : decode cL_areRooms 139 = .ok (.iload_n 1, 1) := by decide +kernel
theorem dL_areRooms_140 : decode cL_areRooms 140 = .ok (.iload 7, 2) := by decide +kernel
theorem dL_areRooms_142 : decode cL_areRooms 142 = .ok (.iconst 4, 1) := by decide +kernel
theorem dL_areRooms_143 : decode cL_areRooms 143 = .ok (.invokevirtual 154, 3) := by decide +kernel
theorem dL_areRooms_146 : decode cL_areRooms 146 = .ok (.istore 5, 2) := by decide +kernel
theorem dL_areRooms_148 : decode cL_areRooms 148 = .ok (.iload 6, 2) := by decide +kernel
theorem dL_areRooms_150 : decode cL_areRooms 150 = .ok (.aload_n 0, 1) := by decide +kernel
theorem dL_areRooms_151 : decode cL_areRooms 151 = .ok (.iload_n 1, 1) := by decide +kernel
theorem dL_areRooms_152 : decode cL_areRooms 152 = .ok (.iload 5, 2) := by decide +kernel
theorem dL_areRooms_154 : decode cL_areRooms 154 = .ok (.invokestatic 157, 3) := by decide +kernel
theorem dL_areRooms_157 : decode cL_areRooms 157 = .ok (.iload 7, 2) := by decide +kernel
theorem dL_areRooms_159 : decode cL_areRooms 159 = .ok (.if_icmp .ne 7, 3) := by decide +kernel
theorem dL_areRooms_162 : decode cL_areRooms 162 = .ok (.iconst 1, 1) := by decide +kernel
theorem dL_areRooms_163 : decode cL_areRooms 163 = .ok (.goto 4, 3) := by decide +kernel
theorem dL_areRooms_166 : decode cL_areRooms 166 = .ok (.iconst 0, 1) := by decide +kernel
theorem dL_areRooms_167 : decode cL_areRooms 167 = .ok (.iand, 1) := by decide +kernel
theorem dL_areRooms_168 : decode cL_areRooms 168 = .ok (.istore 6, 2) := by decide +kernel
theorem dL_areRooms_170 : decode cL_areRooms 170 = .ok (.iinc 7 1, 3) := by decide +kernel
theorem dL_areRooms_173 : decode cL_areRooms 173 = .ok (.goto (-157), 3) := by decide +kernel
theorem dL_areRooms_176 : decode cL_areRooms 176 = .ok (.iconst 0, 1) := by decide +kernel
theorem dL_areRooms_177 : decode cL_areRooms 177 = .ok (.istore 7, 2) := by decide +kernel
theorem dL_areRooms_179 : decode cL_areRooms 179 = .ok (.iload 6, 2) := by decide +kernel
theorem dL_areRooms_181 : decode cL_areRooms 181 = .ok (.ifCond .eq 201, 3) := by decide +kernel
theorem dL_areRooms_184 : decode cL_areRooms 184 = .ok (.iload 7, 2) := by decide +kernel
theorem dL_areRooms_186 : decode cL_areRooms 186 = .ok (.bipush 36, 2) := by decide +kernel
theorem dL_areRooms_188 : decode cL_areRooms 188 = .ok (.if_icmp .ge 194, 3) := by decide +kernel
theorem dL_areRooms_191 : decode cL_areRooms 191 = .ok (.aload_n 0, 1) := by decide +kernel
theorem dL_areRooms_192 : decode cL_areRooms 192 = .ok (.iload_n 1, 1) := by decide +kernel
theorem dL_areRooms_193 : decode cL_areRooms 193 = .ok (.iload 7, 2) := by decide +kernel
theorem dL_areRooms_195 : decode cL_areRooms 195 = .ok (.invokestatic 157, 3) := by decide +kernel
theorem dL_areRooms_198 : decode cL_areRooms 198 = .ok (.istore 8, 2) := by decide +kernel
theorem dL_areRooms_200 : decode cL_areRooms 200 = .ok (.aload_n 0, 1) := by decide +kernel
theorem dL_areRooms_201 : decode cL_areRooms 201 = .ok (.iload_n 1, 1) := by decide +kernel
theorem dL_areRooms_202 : decode cL_areRooms 202 = .ok (.iload 7, 2) := by decide +kernel
theorem dL_areRooms_204 : decode cL_areRooms 204 = .ok (.invokestatic 159, 3) := by decide +kernel
theorem dL_areRooms_207 : decode cL_areRooms 207 = .ok (.istore 9, 2) := by decide +kernel
theorem dL_areRooms_209 : decode cL_areRooms 209 = .ok (.iload 8, 2) := by decide +kernel
theorem dL_areRooms_211 : decode cL_areRooms 211 = .ok (.sipush (-1000), 3) := by decide +kernel
theorem dL_areRooms_214 : decode cL_areRooms 214 = .ok (.if_icmp .ne 19, 3) := by decide +kernel
theorem dL_areRooms_217 : decode cL_areRooms 217 = .ok (.iload 9, 2) := by decide +kernel
theorem dL_areRooms_219 : decode cL_areRooms 219 = .ok (.sipush (-1000), 3) := by decide +kernel
theorem dL_areRooms_222 : decode cL_areRooms 222 = .ok (.if_icmp .ne 7, 3) := by decide +kernel
theorem dL_areRooms_225 : decode cL_areRooms 225 = .ok (.iconst 1, 1) := by decide +kernel
theorem dL_areRooms_226 : decode cL_areRooms 226 = .ok (.goto 45, 3) := by decide +kernel
theorem dL_areRooms_229 : decode cL_areRooms 229 = .ok (.iconst 0, 1) := by decide +kernel
theorem dL_areRooms_230 : decode cL_areRooms 230 = .ok (.goto 41, 3) := by decide +kernel
theorem dL_areRooms_233 : decode cL_areRooms 233 = .ok (.iload 9, 2) := by decide +kernel
theorem dL_areRooms_235 : decode cL_areRooms 235 = .ok (.sipush (-1000), 3) := by decide +kernel
theorem dL_areRooms_238 : decode cL_areRooms 238 = .ok (.if_icmp .ne 7, 3) := by decide +kernel
theorem dL_areRooms_241 : decode cL_areRooms 241 = .ok (.iconst 1, 1) := by decide +kernel
theorem dL_areRooms_242 : decode cL_areRooms 242 = .ok (.goto 4, 3) := by decide +kernel
theorem dL_areRooms_245 : decode cL_areRooms 245 = .ok (.iconst 0, 1) := by decide +kernel
theorem dL_areRooms_246 : decode cL_areRooms 246 = .ok (.aload_n 0, 1) := by decide +kernel
theorem dL_areRooms_247 : decode cL_areRooms 247 = .ok (.iload_n 1, 1) := by decide +kernel
theorem dL_areRooms_248 : decode cL_areRooms 248 = .ok (.iload 8, 2) := by decide +kernel
theorem dL_areRooms_250 : decode cL_areRooms 250 = .ok (.iconst 5, 1) := by decide +kernel
theorem dL_areRooms_251 : decode cL_areRooms 251 = .ok (.invokevirtual 154, 3) := by decide +kernel
theorem dL_areRooms_254 : decode cL_areRooms 254 = .ok (.iconst 1, 1) := by decide +kernel
theorem dL_areRooms_255 : decode cL_areRooms 255 = .ok (.if_icmp .ne 7, 3) := by decide +kernel
theorem dL_areRooms_258 : decode cL_areRooms 258 = .ok (.iconst 1, 1) := by decide +kernel
theorem dL_areRooms_259 : decode cL_areRooms 259 = .ok (.goto 4, 3) := by decide +kernel
theorem dL_areRooms_262 : decode cL_areRooms 262 = .ok (.iconst 0, 1) := by decide +kernel
theorem dL_areRooms_263 : decode cL_areRooms 263 = .ok (.if_icmp .ne 7, 3) := by decide +kernel
theorem dL_areRooms_266 : decode cL_areRooms 266 = .ok (.iconst 1, 1) := by decide +kernel
theorem dL_areRooms_267 : decode cL_areRooms 267 = .ok (.goto 4, 3) := by decide +kernel
theorem dL_areRooms_270 : decode cL_areRooms 270 = .ok (.iconst 0, 1) := by decide +kernel
theorem dL_areRooms_271 : decode cL_areRooms 271 = .ok (.istore 6, 2) := by decide +kernel
theorem dL_areRooms_273 : decode cL_areRooms 273 = .ok (.iload 6, 2) := by decide +kernel
theorem dL_areRooms_275 : decode cL_areRooms 275 = .ok (.ifCond .eq 85, 3) := by decide +kernel
theorem dL_areRooms_278 : decode cL_areRooms 278 = .ok (.iload 7, 2) := by decide +kernel
theorem dL_areRooms_280 : decode cL_areRooms 280 = .ok (.bipush 6, 2) := by decide +kernel
theorem dL_areRooms_282 : decode cL_areRooms 282 = .ok (.irem, 1) := by decide +kernel
theorem dL_areRooms_283 : decode cL_areRooms 283 = .ok (.iconst 5, 1) := by decide +kernel
theorem dL_areRooms_284 : decode cL_areRooms 284 = .ok (.if_icmp .ge 76, 3) := by decide +kernel
theorem dL_areRooms_287 : decode cL_areRooms 287 = .ok (.iload 8, 2) := by decide +kernel
theorem dL_areRooms_289 : decode cL_areRooms 289 = .ok (.sipush (-1000), 3) := by decide +kernel
theorem dL_areRooms_292 : decode cL_areRooms 292 = .ok (.if_icmp .eq 68, 3) := by decide +kernel
theorem dL_areRooms_295 : decode cL_areRooms 295 = .ok (.aload_n 0, 1) := by decide +kernel
theorem dL_areRooms_296 : decode cL_areRooms 296 = .ok (.iload_n 1, 1) := by decide +kernel
theorem dL_areRooms_297 : decode cL_areRooms 297 = .ok (.iload 7, 2) := by decide +kernel
theorem dL_areRooms_299 : decode cL_areRooms 299 = .ok (.iconst 1, 1) := by decide +kernel
theorem dL_areRooms_300 : decode cL_areRooms 300 = .ok (.iadd, 1) := by decide +kernel
theorem dL_areRooms_301 : decode cL_areRooms 301 = .ok (.invokestatic 157, 3) := by decide +kernel
theorem dL_areRooms_304 : decode cL_areRooms 304 = .ok (.sipush (-1000), 3) := by decide +kernel
theorem dL_areRooms_307 : decode cL_areRooms 307 = .ok (.if_icmp .eq 53, 3) := by decide +kernel
theorem dL_areRooms_310 : decode cL_areRooms 310 = .ok (.aload_n 0, 1) := by decide +kernel
theorem dL_areRooms_311 : decode cL_areRooms 311 = .ok (.iload_n 1, 1) := by decide +kernel
theorem dL_areRooms_312 : decode cL_areRooms 312 = .ok (.iload 7, 2) := by decide +kernel
theorem dL_areRooms_314 : decode cL_areRooms 314 = .ok (.iconst 1, 1) := by decide +kernel
theorem dL_areRooms_315 : decode cL_areRooms 315 = .ok (.iadd, 1) := by decide +kernel
theorem dL_areRooms_316 : decode cL_areRooms 316 = .ok (.invokestatic 159, 3) := by decide +kernel
theorem dL_areRooms_319 : decode cL_areRooms 319 = .ok (.istore 10, 2) := by decide +kernel
theorem dL_areRooms_321 : decode cL_areRooms 321 = .ok (.aload_n 0, 1) := by decide +kernel
theorem dL_areRooms_322 : decode cL_areRooms 322 = .ok (.iload_n 1, 1) := by decide +kernel
theorem dL_areRooms_323 : decode cL_areRooms 323 = .ok (.iload 7, 2) := by decide +kernel
theorem dL_areRooms_325 : decode cL_areRooms 325 = .ok (.iconst 1, 1) := by decide +kernel
theorem dL_areRooms_326 : decode cL_areRooms 326 = .ok (.iadd, 1) := by decide +kernel
theorem dL_areRooms_327 : decode cL_areRooms 327 = .ok (.invokestatic 157, 3) := by decide +kernel
theorem dL_areRooms_330 : decode cL_areRooms 330 = .ok (.iload 8, 2) := by decide +kernel
theorem dL_areRooms_332 : decode cL_areRooms 332 = .ok (.if_icmp .ne 25, 3) := by decide +kernel
theorem dL_areRooms_335 : decode cL_areRooms 335 = .ok (.iload 10, 2) := by decide +kernel
theorem dL_areRooms_337 : decode cL_areRooms 337 = .ok (.iload 9, 2) := by decide +kernel
theorem dL_areRooms_339 : decode cL_areRooms 339 = .ok (.isub, 1) := by decide +kernel
theorem dL_areRooms_340 : decode cL_areRooms 340 = .ok (.iconst 1, 1) := by decide +kernel
theorem dL_areRooms_341 : decode cL_areRooms 341 = .ok (.if_icmp .gt 16, 3) := by decide +kernel
theorem dL_areRooms_344 : decode cL_areRooms 344 = .ok (.iload 9, 2) := by decide +kernel
theorem dL_areRooms_346 : decode cL_areRooms 346 = .ok (.iload 10, 2) := by decide +kernel
theorem dL_areRooms_348 : decode cL_areRooms 348 = .ok (.isub, 1) := by decide +kernel
theorem dL_areRooms_349 : decode cL_areRooms 349 = .ok (.iconst 1, 1) := by decide +kernel
theorem dL_areRooms_350 : decode cL_areRooms 350 = .ok (.if_icmp .gt 7, 3) := by decide +kernel
theorem dL_areRooms_353 : decode cL_areRooms 353 = .ok (.iconst 1, 1) := by decide +kernel
theorem dL_areRooms_354 : decode cL_areRooms 354 = .ok (.goto 4, 3) := by decide +kernel
theorem dL_areRooms_357 : decode cL_areRooms 357 = .ok (.iconst 0, 1) := by decide +kernel
theorem dL_areRooms_358 : decode cL_areRooms 358 = .ok (.istore 6, 2) := by decide +kernel
theorem dL_areRooms_360 : decode cL_areRooms 360 = .ok (.iload_n 2, 1) := by decide +kernel
theorem dL_areRooms_361 : decode cL_areRooms 361 = .ok (.iload 8, 2) := by decide +kernel
theorem dL_areRooms_363 : decode cL_areRooms 363 = .ok (.sipush (-1000), 3) := by decide +kernel
theorem dL_areRooms_366 : decode cL_areRooms 366 = .ok (.if_icmp .ne 7, 3) := by decide +kernel
theorem dL_areRooms_369 : decode cL_areRooms 369 = .ok (.iconst 0, 1) := by decide +kernel
theorem dL_areRooms_370 : decode cL_areRooms 370 = .ok (.goto 4, 3) := by decide +kernel
theorem dL_areRooms_373 : decode cL_areRooms 373 = .ok (.iconst 1, 1) := by decide +kernel
theorem dL_areRooms_374 : decode cL_areRooms 374 = .ok (.isub, 1) := by decide +kernel
theorem dL_areRooms_375 : decode cL_areRooms 375 = .ok (.istore_n 2, 1) := by decide +kernel
theorem dL_areRooms_376 : decode cL_areRooms 376 = .ok (.iinc 7 1, 3) := by decide +kernel
theorem dL_areRooms_379 : decode cL_areRooms 379 = .ok (.goto (-200), 3) := by decide +kernel
theorem dL_areRooms_382 : decode cL_areRooms 382 = .ok (.iload 6, 2) := by decide +kernel
theorem dL_areRooms_384 : decode cL_areRooms 384 = .ok (.iload_n 2, 1) := by decide +kernel
theorem dL_areRooms_385 : decode cL_areRooms 385 = .ok (.ifCond .ne 35, 3) := by decide +kernel
theorem dL_areRooms_388 : decode cL_areRooms 388 = .ok (.iload 4, 2) := by decide +kernel
theorem dL_areRooms_390 : decode cL_areRooms 390 = .ok (.aload_n 0, 1) := by decide +kernel
theorem dL_areRooms_391 : decode cL_areRooms 391 = .ok (.iload_n 1, 1) := by decide +kernel
theorem dL_areRooms_392 : decode cL_areRooms 392 = .ok (.invokevirtual 99, 3) := by decide +kernel
theorem dL_areRooms_395 : decode cL_areRooms 395 = .ok (.if_icmp .ne 25, 3) := by decide +kernel
theorem dL_areRooms_398 : decode cL_areRooms 398 = .ok (.iload_n 3, 1) := by decide +kernel
theorem dL_areRooms_399 : decode cL_areRooms 399 = .ok (.aload_n 0, 1) := by decide +kernel
theorem dL_areRooms_400 : decode cL_areRooms 400 = .ok (.iload_n 1, 1) := by decide +kernel
theorem dL_areRooms_401 : decode cL_areRooms 401 = .ok (.invokevirtual 146, 3) := by decide +kernel
theorem dL_areRooms_404 : decode cL_areRooms 404 = .ok (.if_icmp .ne 16, 3) := by decide +kernel
theorem dL_areRooms_407 : decode cL_areRooms 407 = .ok (.iload_n 3, 1) := by decide +kernel
theorem dL_areRooms_408 : decode cL_areRooms 408 = .ok (.aload_n 0, 1) := by decide +kernel
theorem dL_areRooms_409 : decode cL_areRooms 409 = .ok (.iload_n 1, 1) := by decide +kernel
theorem dL_areRooms_410 : decode cL_areRooms 410 = .ok (.invokevirtual 161, 3) := by decide +kernel
theorem dL_areRooms_413 : decode cL_areRooms 413 = .ok (.if_icmp .ne 7, 3) := by decide +kernel
theorem dL_areRooms_416 : decode cL_areRooms 416 = .ok (.iconst 1, 1) := by decide +kernel
theorem dL_areRooms_417 : decode cL_areRooms 417 = .ok (.goto 4, 3) := by decide +kernel
theorem dL_areRooms_420 : decode cL_areRooms 420 = .ok (.iconst 0, 1) := by decide +kernel
theorem dL_areRooms_421 : decode cL_areRooms 421 = .ok (.iand, 1) := by decide +kernel
theorem dL_areRooms_422 : decode cL_areRooms 422 = .ok (.istore 6, 2) := by decide +kernel
theorem dL_areRooms_424 : decode cL_areRooms 424 = .ok (.iload 6, 2) := by decide +kernel
theorem dL_areRooms_426 : decode cL_areRooms 426 = .ok (.ifCond .eq 29, 3) := by decide +kernel
theorem dL_areRooms_429 : decode cL_areRooms 429 = .ok (.aload_n 0, 1) := by decide +kernel
theorem dL_areRooms_430 : decode cL_areRooms 430 = .ok (.iload_n 1, 1) := by decide +kernel
theorem dL_areRooms_431 : decode cL_areRooms 431 = .ok (.invokestatic 164, 3) := by decide +kernel
theorem dL_areRooms_434 : decode cL_areRooms 434 = .ok (.ldc2_w 60, 3) := by decide +kernel
theorem dL_areRooms_437 : decode cL_areRooms 437 = .ok (.dcmp .l, 1) := by decide +kernel
theorem dL_areRooms_438 : decode cL_areRooms 438 = .ok (.ifCond .eq 13, 3) := by decide +kernel
theorem dL_areRooms_441 : decode cL_areRooms 441 = .ok (.aload_n 0, 1) := by decide +kernel
theorem dL_areRooms_442 : decode cL_areRooms 442 = .ok (.iload_n 1, 1) := by decide +kernel
theorem dL_areRooms_443 : decode cL_areRooms 443 = .ok (.invokestatic 164, 3) := by decide +kernel
theorem dL_areRooms_446 : decode cL_areRooms 446 = .ok (.dconst 1, 1) := by decide +kernel
theorem dL_areRooms_447 : decode cL_areRooms 447 = .ok (.dcmp .g, 1) := by decide +kernel
theorem dL_areRooms_448 : decode cL_areRooms 448 = .ok (.ifCond .gt 7, 3) := by decide +kernel
theorem dL_areRooms_451 : decode cL_areRooms 451 = .ok (.iconst 1, 1) := by decide +kernel
theorem dL_areRooms_452 : decode cL_areRooms 452 = .ok (.goto 4, 3) := by decide +kernel
theorem dL_areRooms_455 : decode cL_areRooms 455 = .ok (.iconst 0, 1) := by decide +kernel
theorem dL_areRooms_456 : decode cL_areRooms 456 = .ok (.ireturn, 1) := by decide +kernel
set_option maxRecDepth 20000 in
theorem ggL_areMoves_L_best : GoodIn wsL_areMoves wsL_best := goodIn_ca (goodIn_ca (goodIn_r _ [4, 5, 6, 7, 8, 9, 10, 11, 12, 13, 14, 15, 16, 17, 18, 19, 20, 21, 22, 23, 24, 25, 26, 27, 28, 29, 30, 31, 32, 33, 34, 35, 36, 37, 38, 39, 40, 41, 42, 43, 44, 45, 46, 47, 48, 49, 50, 51, 52, 53, 54, 55, 56, 57, 58, 59, 60, 61, 62, 63, 64, 65, 66, 67, 68, 69, 70, 71, 72, 73, 74, 75, 76, 77, 78, 79, 80, 81, 82, 83, 84, 85, 86, 87, 88, 89, 90, 91, 92, 93, 94, 95, 96, 97, 98, 99, 100, 101, 102, 103, 104, 105, 106, 107, 108, 109, 110, 111, 112, 113, 114, 115, 116, 117, 118, 119, 120, 121, 122, 123, 124, 125, 126, 127, 128, 129, 130, 131, 132, 133, 134, 135, 136, 137, 138, 139, 140, 141, 142, 143, 144, 145, 146, 147, 148, 149, 150, 151, 327, 328, 329, 330, 331, 332, 333, 334, 335] (by decide +kernel) (by decide +kernel)) (goodIn_sub (fun _ h => List.mem_cons_of_mem _ (List.mem_append_left _ (List.mem_append_left _ (List.mem_append_left _ (List.mem_append_left _ (List.mem_append_right _ h)))))) (by decide +kernel))) (goodIn_sub (fun _ h => List.mem_cons_of_mem _ (List.mem_append_left _ (List.mem_append_left _ (List.mem_append_left _ (List.mem_append_right _ h))))) (by decide +kernel))
set_option maxRecDepth 20000 in
theorem gL_areMoves_L_best : GoodIn wsL_areMoves (va_wsS RL 167 yL_best wsL_best) := goodIn_app (goodIn_of _ (by decide +kernel)) ggL_areMoves_L_best
set_option maxRecDepth 20000 in
theorem ggL_areMoves_X4_account : GoodIn wsL_areMoves wsX4_account := goodIn_ca (goodIn_ca (goodIn_r _ [155, 156, 157, 13, 158, 159, 32, 33, 34, 17, 35, 19, 160, 132, 38, 133, 134, 135, 136, 137, 138, 139, 140, 161, 162, 163, 164, 165, 166, 167, 168, 169, 170, 171, 172, 173, 29, 30, 31, 24, 25, 26, 27, 28, 174, 175, 176, 177, 178, 179, 180, 181, 182, 183, 184, 185, 186, 187, 188, 189, 327, 328, 329, 330, 331, 332, 333, 334, 335, 336, 337, 338, 339, 340] (by decide +kernel) (by decide +kernel)) (goodIn_sub (fun _ h => List.mem_cons_of_mem _ (List.mem_append_left _ (List.mem_append_left _ (List.mem_append_right _ h)))) (by decide +kernel))) (goodIn_sub (fun _ h => List.mem_cons_of_mem _ (List.mem_append_left _ (List.mem_append_left _ (List.mem_append_left _ (List.mem_append_right _ h))))) (by decide +kernel))
set_option maxRecDepth 20000 in
theorem gL_areMoves_X4_account : GoodIn wsL_areMoves (wsV RL 99 RX4 yX4_account wsX4_account) := goodIn_app (goodIn_of _ (by decide +kernel)) ggL_areMoves_X4_account
set_option maxRecDepth 20000 in
theorem ggL_areMoves_L_countMoves : GoodIn wsL_areMoves wsL_countMoves := goodIn_ca (goodIn_ca (goodIn_ca (goodIn_ca (goodIn_r _ [192, 193, 194, 195, 9, 196, 156, 157, 13, 197, 198, 199, 200, 201, 202, 203, 204, 17, 205, 67, 68, 69, 70, 19, 58, 37, 38, 39, 206, 162, 163, 164, 207, 166, 167, 168, 208, 46, 47, 48, 49, 33, 34, 35, 50, 51, 52, 53, 54, 55, 56, 57, 209, 72, 73, 74, 75, 76, 77, 78, 165, 36, 152, 153, 154, 155, 158, 159, 32, 160, 132, 133, 134, 135, 136, 137, 138, 139, 140, 161, 169, 170, 171, 172, 173, 29, 30, 31, 24, 25, 26, 27, 28, 174, 175, 176, 177, 178, 179, 180, 181, 182, 183, 184, 185, 186, 187, 188, 189, 210, 211, 3, 212, 213, 5, 214, 215, 216, 217, 218, 219, 220, 221, 11, 12, 40, 41, 42, 43, 44, 45, 59, 60, 61, 62, 63, 64, 65, 66, 71, 79, 80, 81, 82, 83, 84, 85, 86, 87, 88, 89, 90, 91, 92, 93, 94, 327, 328, 329, 330, 331, 332, 333, 334, 335, 336, 337, 338, 339, 340] (by decide +kernel) (by decide +kernel)) (goodIn_sub (fun _ h => List.mem_cons_of_mem _ (List.mem_append_left _ (List.mem_append_left _ (List.mem_append_right _ h)))) (by decide +kernel))) (goodIn_sub (fun _ h => List.mem_cons_of_mem _ (List.mem_append_left _ (List.mem_append_right _ h))) (by decide +kernel))) (goodIn_sub (fun _ h => List.mem_cons_of_mem _ (List.mem_append_left _ (List.mem_append_left _ (List.mem_append_left _ (List.mem_append_right _ h))))) (by decide +kernel))) (goodIn_sub (fun _ h => List.mem_cons_of_mem _ (List.mem_append_left _ (List.mem_append_left _ (List.mem_append_left _ (List.mem_append_left _ (List.mem_append_right _ h)))))) (by decide +kernel))
set_option maxRecDepth 20000 in
theorem gL_areMoves_L_countMoves : GoodIn wsL_areMoves (va_wsS RL 169 yL_countMoves wsL_countMoves) := goodIn_app (goodIn_of _ (by decide +kernel)) ggL_areMoves_L_countMoves
set_option maxRecDepth 20000 in
theorem ggL_areMoves_L_worth : GoodIn wsL_areMoves wsL_worth := goodIn_ca (goodIn_ca (goodIn_ca (goodIn_r _ [224, 213, 5, 225, 226, 227, 9, 228, 11, 12, 13, 197, 198, 199, 200, 201, 24, 25, 26, 17, 27, 28, 29, 30, 31, 19, 32, 33, 34, 35, 36, 37, 38, 39, 229, 230, 231, 232, 40, 41, 42, 43, 44, 45, 46, 47, 48, 49, 50, 51, 52, 53, 54, 55, 56, 57, 58, 59, 60, 61, 62, 63, 64, 65, 66, 67, 68, 69, 70, 71, 72, 73, 74, 75, 76, 77, 78, 79, 80, 81, 82, 83, 84, 85, 86, 87, 88, 89, 90, 91, 92, 93, 94, 95, 96, 97, 98, 99, 100, 101, 102, 103, 104, 105, 106, 107, 108, 109, 110, 111, 112, 113, 114, 115, 116, 117, 118, 119, 120, 121, 122, 123, 124, 125, 126, 127, 128, 129, 130, 131, 132, 133, 134, 135, 136, 137, 138, 139, 140, 141, 142, 143, 144, 145, 146, 147, 148, 149, 150, 151, 327, 328, 329, 330, 331, 332, 333, 334, 335] (by decide +kernel) (by decide +kernel)) (goodIn_sub (fun _ h => List.mem_cons_of_mem _ (List.mem_append_left _ (List.mem_append_left _ (List.mem_append_left _ (List.mem_append_left _ (List.mem_append_right _ h)))))) (by decide +kernel))) (goodIn_sub (fun _ h => List.mem_cons_of_mem _ (List.mem_append_left _ (List.mem_append_right _ h))) (by decide +kernel))) (goodIn_sub (fun _ h => List.mem_cons_of_mem _ (List.mem_append_left _ (List.mem_append_left _ (List.mem_append_left _ (List.mem_append_right _ h))))) (by decide +kernel))
set_option maxRecDepth 20000 in
theorem gL_areMoves_L_worth : GoodIn wsL_areMoves (va_wsS RL 172 yL_worth wsL_worth) := goodIn_app (goodIn_of _ (by decide +kernel)) ggL_areMoves_L_worth
set_option maxRecDepth 20000 in
theorem ggL_areMoves_L_captures : GoodIn wsL_areMoves wsL_captures := goodIn_ca (goodIn_ca (goodIn_ca (goodIn_r _ [235, 213, 5, 236, 237, 238, 9, 239, 99, 13, 197, 198, 199, 200, 201, 218, 219, 220, 221, 11, 12, 202, 203, 204, 17, 205, 67, 68, 69, 70, 19, 58, 37, 38, 39, 206, 162, 163, 164, 207, 166, 167, 168, 229, 230, 231, 232, 40, 41, 42, 43, 44, 45, 46, 47, 48, 49, 33, 34, 35, 50, 51, 52, 53, 54, 55, 56, 57, 59, 60, 61, 62, 63, 64, 65, 66, 71, 72, 73, 74, 75, 76, 77, 78, 79, 80, 81, 82, 83, 84, 85, 86, 87, 88, 89, 90, 91, 92, 93, 94, 36, 100, 101, 102, 103, 104, 105, 106, 107, 108, 109, 110, 111, 112, 113, 114, 115, 116, 117, 118, 119, 120, 121, 122, 123, 124, 125, 126, 127, 128, 129, 130, 131, 132, 133, 134, 135, 136, 137, 138, 139, 140, 327, 328, 329, 330, 331, 332, 333, 334, 335] (by decide +kernel) (by decide +kernel)) (goodIn_sub (fun _ h => List.mem_cons_of_mem _ (List.mem_append_left _ (List.mem_append_right _ h))) (by decide +kernel))) (goodIn_sub (fun _ h => List.mem_cons_of_mem _ (List.mem_append_left _ (List.mem_append_left _ (List.mem_append_left _ (List.mem_append_left _ (List.mem_append_right _ h)))))) (by decide +kernel))) (goodIn_sub (fun _ h => List.mem_cons_of_mem _ (List.mem_append_left _ (List.mem_append_left _ (List.mem_append_left _ (List.mem_append_right _ h))))) (by decide +kernel))
set_option maxRecDepth 20000 in
theorem gL_areMoves_L_captures : GoodIn wsL_areMoves (va_wsS RL 174 yL_captures wsL_captures) := goodIn_app (goodIn_of _ (by decide +kernel)) ggL_areMoves_L_captures
set_option maxRecDepth 20000 in
theorem ggL_areMoves_L_move : GoodIn wsL_areMoves wsL_move := goodIn_ca (goodIn_ca (goodIn_ca (goodIn_r _ [242, 213, 243, 244, 245, 246, 247, 9, 248, 13, 159, 197, 198, 199, 200, 201, 249, 250, 251, 17, 252, 253, 15, 16, 18, 19, 28, 29, 30, 31, 254, 255, 256, 257, 25, 26, 27, 49, 33, 34, 35, 58, 37, 38, 39, 258, 41, 42, 43, 44, 45, 46, 47, 48, 50, 51, 52, 53, 54, 55, 56, 57, 59, 60, 61, 62, 63, 64, 65, 66, 67, 68, 69, 70, 71, 72, 73, 74, 75, 76, 77, 78, 79, 80, 81, 82, 83, 84, 85, 86, 87, 88, 89, 90, 91, 92, 93, 94, 259, 260, 261, 262, 263, 264, 265, 266, 267, 268, 187, 269, 270, 271, 189, 272, 273, 274, 275, 276, 277, 278, 279, 280, 281, 282, 283, 125, 126, 284, 285, 286, 287, 288, 289, 290, 134, 135, 136, 137, 138, 139, 140, 291, 105, 106, 107, 108, 109, 110, 111, 112, 113, 114, 115, 116, 117, 118, 119, 120, 121, 122, 123, 124, 127, 128, 129, 130, 131, 132, 133, 292, 293, 294, 295, 296, 297, 298, 299, 300, 301, 302, 303, 304, 327, 328, 329, 330, 331, 332, 333, 334, 335, 338, 339, 340] (by decide +kernel) (by decide +kernel)) (goodIn_sub (fun _ h => List.mem_cons_of_mem _ (List.mem_append_left _ (List.mem_append_right _ h))) (by decide +kernel))) (goodIn_sub (fun _ h => List.mem_cons_of_mem _ (List.mem_append_left _ (List.mem_append_left _ (List.mem_append_left _ (List.mem_append_right _ h))))) (by decide +kernel))) (goodIn_sub (fun _ h => List.mem_cons_of_mem _ (List.mem_append_right _ h)) (by decide +kernel))
set_option maxRecDepth 20000 in
theorem gL_areMoves_L_move : GoodIn wsL_areMoves (va_wsS RL 106 yL_move wsL_move) := goodIn_app (goodIn_of _ (by decide +kernel)) ggL_areMoves_L_move
set_option maxRecDepth 20000 in
theorem ggL_areMoves_X4_sealed : GoodIn wsL_areMoves wsX4_sealed := goodIn_ca (goodIn_ca (goodIn_r _ [308, 13, 309, 310, 9, 311, 200, 201, 142, 143, 144, 17, 145, 44, 62, 63, 64, 65, 19, 66, 146, 147, 38, 148, 149, 150, 151, 91, 92, 93, 85, 86, 87, 49, 33, 34, 35, 131, 132, 133, 134, 135, 136, 137, 138, 139, 140, 327, 328, 329, 330, 331, 332, 333, 334, 335] (by decide +kernel) (by decide +kernel)) (goodIn_sub (fun _ h => List.mem_cons_of_mem _ (List.mem_append_left _ (List.mem_append_right _ h))) (by decide +kernel))) (goodIn_sub (fun _ h => List.mem_cons_of_mem _ (List.mem_append_left _ (List.mem_append_left _ (List.mem_append_left _ (List.mem_append_right _ h))))) (by decide +kernel))
set_option maxRecDepth 20000 in
theorem gL_areMoves_X4_sealed : GoodIn wsL_areMoves (wsV RL 146 RX4 yX4_sealed wsX4_sealed) := goodIn_app (goodIn_of _ (by decide +kernel)) ggL_areMoves_X4_sealed
set_option maxRecDepth 20000 in
theorem ggL_areMoves_L_undo : GoodIn wsL_areMoves wsL_undo := goodIn_ca (goodIn_ca (goodIn_r _ [314, 5, 244, 315, 316, 317, 9, 318, 11, 12, 159, 13, 184, 185, 186, 187, 188, 189, 319, 320, 321, 322, 271, 270, 323, 324, 325, 17, 326, 19, 327, 328, 329, 330, 331, 332, 333, 334, 338, 339, 340, 335] (by decide +kernel) (by decide +kernel)) (goodIn_sub (fun _ h => List.mem_cons_of_mem _ (List.mem_append_left _ (List.mem_append_left _ (List.mem_append_left _ (List.mem_append_left _ (List.mem_append_right _ h)))))) (by decide +kernel))) (goodIn_sub (fun _ h => List.mem_cons_of_mem _ (List.mem_append_left _ (List.mem_append_left _ (List.mem_append_left _ (List.mem_append_right _ h))))) (by decide +kernel))
set_option maxRecDepth 20000 in
theorem gL_areMoves_L_undo : GoodIn wsL_areMoves (va_wsS RL 127 yL_undo wsL_undo) := goodIn_app (goodIn_of _ (by decide +kernel)) ggL_areMoves_L_undo
theorem dL_areMoves_0 : decode cL_areMoves 0 = .ok (.aload_n 0, 1) := by decide +kernel
theorem dL_areMoves_1 : decode cL_areMoves 1 = .ok (.invokestatic 167, 3) := by decide +kernel
theorem dL_areMoves_4 : decode cL_areMoves 4 = .ok (.istore_n 1, 1) := by decide +kernel
theorem dL_areMoves_5 : decode cL_areMoves 5 = .ok (.iload_n 1, 1) := by decide +kernel
theorem dL_areMoves_6 : decode cL_areMoves 6 = .ok (.sipush (-1000), 3) := by decide +kernel
theorem dL_areMoves_9 : decode cL_areMoves 9 = .ok (.if_icmp .ne 7, 3) := by decide +kernel
theorem dL_areMoves_12 : decode cL_areMoves 12 = .ok (.iconst 1, 1) := by decide +kernel
theorem dL_areMoves_13 : decode cL_areMoves 13 = .ok (.goto 4, 3) := by decide +kernel
theorem dL_areMoves_16 : decode cL_areMoves 16 = .ok (.iconst 0, 1) := by decide +kernel
theorem dL_areMoves_17 : decode cL_areMoves 17 = .ok (.aload_n 0, 1) := by decide +kernel
theorem dL_areMoves_18 : decode cL_areMoves 18 = .ok (.bipush 8, 2) := by decide +kernel
theorem dL_areMoves_20 : decode cL_areMoves 20 = .ok (.invokevirtual 99, 3) := by decide +kernel
theorem dL_areMoves_23 : decode cL_areMoves 23 = .ok (.ifCond .gt 10, 3) := by decide +kernel
theorem dL_areMoves_26 : decode cL_areMoves 26 = .ok (.aload_n 0, 1) := by decide +kernel
theorem dL_areMoves_27 : decode cL_areMoves 27 = .ok (.invokestatic 169, 3) := by decide +kernel
theorem dL_areMoves_30 : decode cL_areMoves 30 = .ok (.ifCond .ne 7, 3) := by decide +kernel
theorem dL_areMoves_33 : decode cL_areMoves 33 = .ok (.iconst 1, 1) := by decide +kernel
theorem dL_areMoves_34 : decode cL_areMoves 34 = .ok (.goto 4, 3) := by decide +kernel
theorem dL_areMoves_37 : decode cL_areMoves 37 = .ok (.iconst 0, 1) := by decide +kernel
theorem dL_areMoves_38 : decode cL_areMoves 38 = .ok (.if_icmp .ne 7, 3) := by decide +kernel
theorem dL_areMoves_41 : decode cL_areMoves 41 = .ok (.iconst 1, 1) := by decide +kernel
theorem dL_areMoves_42 : decode cL_areMoves 42 = .ok (.goto 4, 3) := by decide +kernel
theorem dL_areMoves_45 : decode cL_areMoves 45 = .ok (.iconst 0, 1) := by decide +kernel
theorem dL_areMoves_46 : decode cL_areMoves 46 = .ok (.istore_n 2, 1) := by decide +kernel
theorem dL_areMoves_47 : decode cL_areMoves 47 = .ok (.iload_n 2, 1) := by decide +kernel
theorem dL_areMoves_48 : decode cL_areMoves 48 = .ok (.ifCond .eq 22, 3) := by decide +kernel
theorem dL_areMoves_51 : decode cL_areMoves 51 = .ok (.iload_n 1, 1) := by decide +kernel
theorem dL_areMoves_52 : decode cL_areMoves 52 = .ok (.ifCond .lt 18, 3) := by decide +kernel
theorem dL_areMoves_55 : decode cL_areMoves 55 = .ok (.aload_n 0, 1) := by decide +kernel
theorem dL_areMoves_56 : decode cL_areMoves 56 = .ok (.iload_n 1, 1) := by decide +kernel
theorem dL_areMoves_57 : decode cL_areMoves 57 = .ok (.bipush 36, 2) := by decide +kernel
theorem dL_areMoves_59 : decode cL_areMoves 59 = .ok (.idiv, 1) := by decide +kernel
theorem dL_areMoves_60 : decode cL_areMoves 60 = .ok (.iload_n 1, 1) := by decide +kernel
theorem dL_areMoves_61 : decode cL_areMoves 61 = .ok (.bipush 36, 2) := by decide +kernel
theorem dL_areMoves_63 : decode cL_areMoves 63 = .ok (.irem, 1) := by decide +kernel
theorem dL_areMoves_64 : decode cL_areMoves 64 = .ok (.invokestatic 172, 3) := by decide +kernel
theorem dL_areMoves_67 : decode cL_areMoves 67 = .ok (.goto 4, 3) := by decide +kernel
theorem dL_areMoves_70 : decode cL_areMoves 70 = .ok (.iconst 0, 1) := by decide +kernel
theorem dL_areMoves_71 : decode cL_areMoves 71 = .ok (.istore_n 3, 1) := by decide +kernel
theorem dL_areMoves_72 : decode cL_areMoves 72 = .ok (.iconst 0, 1) := by decide +kernel
theorem dL_areMoves_73 : decode cL_areMoves 73 = .ok (.istore 4, 2) := by decide +kernel
theorem dL_areMoves_75 : decode cL_areMoves 75 = .ok (.iload_n 2, 1) := by decide +kernel
theorem dL_areMoves_76 : decode cL_areMoves 76 = .ok (.ifCond .eq 61, 3) := by decide +kernel
theorem dL_areMoves_79 : decode cL_areMoves 79 = .ok (.iload_n 1, 1) := by decide +kernel
theorem dL_areMoves_80 : decode cL_areMoves 80 = .ok (.ifCond .lt 57, 3) := by decide +kernel
theorem dL_areMoves_83 : decode cL_areMoves 83 = .ok (.iload 4, 2) := by decide +kernel
theorem dL_areMoves_85 : decode cL_areMoves 85 = .ok (.sipush 1296, 3) := by decide +kernel
theorem dL_areMoves_88 : decode cL_areMoves 88 = .ok (.if_icmp .ge 49, 3) := by decide +kernel
theorem dL_areMoves_91 : decode cL_areMoves 91 = .ok (.aload_n 0, 1) := by decide +kernel
theorem dL_areMoves_92 : decode cL_areMoves 92 = .ok (.iload 4, 2) := by decide +kernel
theorem dL_areMoves_94 : decode cL_areMoves 94 = .ok (.bipush 36, 2) := by decide +kernel
theorem dL_areMoves_96 : decode cL_areMoves 96 = .ok (.idiv, 1) := by decide +kernel
theorem dL_areMoves_97 : decode cL_areMoves 97 = .ok (.iload 4, 2) := by decide +kernel
theorem dL_areMoves_99 : decode cL_areMoves 99 = .ok (.bipush 36, 2) := by decide +kernel
theorem dL_areMoves_101 : decode cL_areMoves 101 = .ok (.irem, 1) := by decide +kernel
theorem dL_areMoves_102 : decode cL_areMoves 102 = .ok (.invokestatic 172, 3) := by decide +kernel
theorem dL_areMoves_105 : decode cL_areMoves 105 = .ok (.istore 5, 2) := by decide +kernel
theorem dL_areMoves_107 : decode cL_areMoves 107 = .ok (.iload 5, 2) := by decide +kernel
theorem dL_areMoves_109 : decode cL_areMoves 109 = .ok (.iload_n 3, 1) := by decide +kernel
theorem dL_areMoves_110 : decode cL_areMoves 110 = .ok (.if_icmp .gt 19, 3) := by decide +kernel
theorem dL_areMoves_113 : decode cL_areMoves 113 = .ok (.iload 4, 2) := by decide +kernel
theorem dL_areMoves_115 : decode cL_areMoves 115 = .ok (.iload_n 1, 1) := by decide +kernel
theorem dL_areMoves_116 : decode cL_areMoves 116 = .ok (.if_icmp .ge 9, 3) := by decide +kernel
theorem dL_areMoves_119 : decode cL_areMoves 119 = .ok (.iload 5, 2) := by decide +kernel
theorem dL_areMoves_121 : decode cL_areMoves 121 = .ok (.iload_n 3, 1) := by decide +kernel
theorem dL_areMoves_122 : decode cL_areMoves 122 = .ok (.if_icmp .ge 7, 3) := by decide +kernel
theorem dL_areMoves_125 : decode cL_areMoves 125 = .ok (.iconst 1, 1) := by decide +kernel
theorem dL_areMoves_126 : decode cL_areMoves 126 = .ok (.goto 4, 3) := by decide +kernel
theorem dL_areMoves_129 : decode cL_areMoves 129 = .ok (.iconst 0, 1) := by decide +kernel
theorem dL_areMoves_130 : decode cL_areMoves 130 = .ok (.istore_n 2, 1) := by decide +kernel
theorem dL_areMoves_131 : decode cL_areMoves 131 = .ok (.iinc 4 1, 3) := by decide +kernel
theorem dL_areMoves_134 : decode cL_areMoves 134 = .ok (.goto (-59), 3) := by decide +kernel
theorem dL_areMoves_137 : decode cL_areMoves 137 = .ok (.iload_n 2, 1) := by decide +kernel
theorem dL_areMoves_138 : decode cL_areMoves 138 = .ok (.ifCond .eq 141, 3) := by decide +kernel
theorem dL_areMoves_141 : decode cL_areMoves 141 = .ok (.iload_n 1, 1) := by decide +kernel
theorem dL_areMoves_142 : decode cL_areMoves 142 = .ok (.ifCond .lt 137, 3) := by decide +kernel
theorem dL_areMoves_145 : decode cL_areMoves 145 = .ok (.aload_n 0, 1) := by decide +kernel
theorem dL_areMoves_146 : decode cL_areMoves 146 = .ok (.bipush 7, 2) := by decide +kernel
theorem dL_areMoves_148 : decode cL_areMoves 148 = .ok (.invokevirtual 99, 3) := by decide +kernel
theorem dL_areMoves_151 : decode cL_areMoves 151 = .ok (.istore 4, 2) := by decide +kernel
theorem dL_areMoves_153 : decode cL_areMoves 153 = .ok (.aload_n 0, 1) := by decide +kernel
theorem dL_areMoves_154 : decode cL_areMoves 154 = .ok (.iload_n 1, 1) := by decide +kernel
theorem dL_areMoves_155 : decode cL_areMoves 155 = .ok (.bipush 36, 2) := by decide +kernel
theorem dL_areMoves_157 : decode cL_areMoves 157 = .ok (.idiv, 1) := by decide +kernel
theorem dL_areMoves_158 : decode cL_areMoves 158 = .ok (.iload_n 1, 1) := by decide +kernel
theorem dL_areMoves_159 : decode cL_areMoves 159 = .ok (.bipush 36, 2) := by decide +kernel
theorem dL_areMoves_161 : decode cL_areMoves 161 = .ok (.irem, 1) := by decide +kernel
theorem dL_areMoves_162 : decode cL_areMoves 162 = .ok (.invokestatic 174, 3) := by decide +kernel
theorem dL_areMoves_165 : decode cL_areMoves 165 = .ok (.istore 5, 2) := by decide +kernel
theorem dL_areMoves_167 : decode cL_areMoves 167 = .ok (.aload_n 0, 1) := by decide +kernel
theorem dL_areMoves_168 : decode cL_areMoves 168 = .ok (.iconst 1, 1) := by decide +kernel
theorem dL_areMoves_169 : decode cL_areMoves 169 = .ok (.iload 4, 2) := by decide +kernel
theorem dL_areMoves_171 : decode cL_areMoves 171 = .ok (.isub, 1) := by decide +kernel
theorem dL_areMoves_172 : decode cL_areMoves 172 = .ok (.invokevirtual 99, 3) := by decide +kernel
theorem dL_areMoves_175 : decode cL_areMoves 175 = .ok (.istore 6, 2) := by decide +kernel
theorem dL_areMoves_177 : decode cL_areMoves 177 = .ok (.aload_n 0, 1) := by decide +kernel
theorem dL_areMoves_178 : decode cL_areMoves 178 = .ok (.iconst 4, 1) := by decide +kernel
theorem dL_areMoves_179 : decode cL_areMoves 179 = .ok (.iload 4, 2) := by decide +kernel
theorem dL_areMoves_181 : decode cL_areMoves 181 = .ok (.iadd, 1) := by decide +kernel
theorem dL_areMoves_182 : decode cL_areMoves 182 = .ok (.invokevirtual 99, 3) := by decide +kernel
theorem dL_areMoves_185 : decode cL_areMoves 185 = .ok (.istore 7, 2) := by decide +kernel
theorem dL_areMoves_187 : decode cL_areMoves 187 = .ok (.aload_n 0, 1) := by decide +kernel
theorem dL_areMoves_188 : decode cL_areMoves 188 = .ok (.iload_n 1, 1) := by decide +kernel
theorem dL_areMoves_189 : decode cL_areMoves 189 = .ok (.bipush 36, 2) := by decide +kernel
theorem dL_areMoves_191 : decode cL_areMoves 191 = .ok (.idiv, 1) := by decide +kernel
theorem dL_areMoves_192 : decode cL_areMoves 192 = .ok (.iload_n 1, 1) := by decide +kernel
theorem dL_areMoves_193 : decode cL_areMoves 193 = .ok (.bipush 36, 2) := by decide +kernel
theorem dL_areMoves_195 : decode cL_areMoves 195 = .ok (.irem, 1) := by decide +kernel
theorem dL_areMoves_196 : decode cL_areMoves 196 = .ok (.invokestatic 106, 3) := by decide +kernel
theorem dL_areMoves_199 : decode cL_areMoves 199 = .ok (.iload 5, 2) := by decide +kernel
theorem dL_areMoves_201 : decode cL_areMoves 201 = .ok (.if_icmp .ne 59, 3) := by decide +kernel
theorem dL_areMoves_204 : decode cL_areMoves 204 = .ok (.aload_n 0, 1) := by decide +kernel
theorem dL_areMoves_205 : decode cL_areMoves 205 = .ok (.iconst 1, 1) := by decide +kernel
theorem dL_areMoves_206 : decode cL_areMoves 206 = .ok (.iload 4, 2) := by decide +kernel
theorem dL_areMoves_208 : decode cL_areMoves 208 = .ok (.isub, 1) := by decide +kernel
theorem dL_areMoves_209 : decode cL_areMoves 209 = .ok (.invokevirtual 99, 3) := by decide +kernel
theorem dL_areMoves_212 : decode cL_areMoves 212 = .ok (.iload 6, 2) := by decide +kernel
theorem dL_areMoves_214 : decode cL_areMoves 214 = .ok (.iload 5, 2) := by decide +kernel
theorem dL_areMoves_216 : decode cL_areMoves 216 = .ok (.isub, 1) := by decide +kernel
theorem dL_areMoves_217 : decode cL_areMoves 217 = .ok (.if_icmp .ne 43, 3) := by decide +kernel
theorem dL_areMoves_220 : decode cL_areMoves 220 = .ok (.aload_n 0, 1) := by decide +kernel
theorem dL_areMoves_221 : decode cL_areMoves 221 = .ok (.iconst 4, 1) := by decide +kernel
theorem dL_areMoves_222 : decode cL_areMoves 222 = .ok (.iload 4, 2) := by decide +kernel
theorem dL_areMoves_224 : decode cL_areMoves 224 = .ok (.iadd, 1) := by decide +kernel
theorem dL_areMoves_225 : decode cL_areMoves 225 = .ok (.invokevirtual 99, 3) := by decide +kernel
theorem dL_areMoves_228 : decode cL_areMoves 228 = .ok (.iload 7, 2) := by decide +kernel
theorem dL_areMoves_230 : decode cL_areMoves 230 = .ok (.iconst 2, 1) := by decide +kernel
theorem dL_areMoves_231 : decode cL_areMoves 231 = .ok (.iload 5, 2) := by decide +kernel
theorem dL_areMoves_233 : decode cL_areMoves 233 = .ok (.imul, 1) := by decide +kernel
theorem dL_areMoves_234 : decode cL_areMoves 234 = .ok (.iadd, 1) := by decide +kernel
theorem dL_areMoves_235 : decode cL_areMoves 235 = .ok (.if_icmp .ne 25, 3) := by decide +kernel
theorem dL_areMoves_238 : decode cL_areMoves 238 = .ok (.bipush 10, 2) := by decide +kernel
theorem dL_areMoves_240 : decode cL_areMoves 240 = .ok (.iload 5, 2) := by decide +kernel
theorem dL_areMoves_242 : decode cL_areMoves 242 = .ok (.imul, 1) := by decide +kernel
theorem dL_areMoves_243 : decode cL_areMoves 243 = .ok (.aload_n 0, 1) := by decide +kernel
theorem dL_areMoves_244 : decode cL_areMoves 244 = .ok (.iconst 1, 1) := by decide +kernel
theorem dL_areMoves_245 : decode cL_areMoves 245 = .ok (.iload 4, 2) := by decide +kernel
theorem dL_areMoves_247 : decode cL_areMoves 247 = .ok (.isub, 1) := by decide +kernel
theorem dL_areMoves_248 : decode cL_areMoves 248 = .ok (.invokevirtual 146, 3) := by decide +kernel
theorem dL_areMoves_251 : decode cL_areMoves 251 = .ok (.iadd, 1) := by decide +kernel
theorem dL_areMoves_252 : decode cL_areMoves 252 = .ok (.iload_n 3, 1) := by decide +kernel
theorem dL_areMoves_253 : decode cL_areMoves 253 = .ok (.if_icmp .ne 7, 3) := by decide +kernel
theorem dL_areMoves_256 : decode cL_areMoves 256 = .ok (.iconst 1, 1) := by decide +kernel
theorem dL_areMoves_257 : decode cL_areMoves 257 = .ok (.goto 4, 3) := by decide +kernel
theorem dL_areMoves_260 : decode cL_areMoves 260 = .ok (.iconst 0, 1) := by decide +kernel
theorem dL_areMoves_261 : decode cL_areMoves 261 = .ok (.istore_n 2, 1) := by decide +kernel
theorem dL_areMoves_262 : decode cL_areMoves 262 = .ok (.iload_n 2, 1) := by decide +kernel
theorem dL_areMoves_263 : decode cL_areMoves 263 = .ok (.ifCond .eq 14, 3) := by decide +kernel
theorem dL_areMoves_266 : decode cL_areMoves 266 = .ok (.aload_n 0, 1) := by decide +kernel
theorem dL_areMoves_267 : decode cL_areMoves 267 = .ok (.invokestatic 127, 3) := by decide +kernel
theorem dL_areMoves_270 : decode cL_areMoves 270 = .ok (.ifCond .lt 7, 3) := by decide +kernel
theorem dL_areMoves_273 : decode cL_areMoves 273 = .ok (.iconst 1, 1) := by decide +kernel
theorem dL_areMoves_274 : decode cL_areMoves 274 = .ok (.goto 4, 3) := by decide +kernel
theorem dL_areMoves_277 : decode cL_areMoves 277 = .ok (.iconst 0, 1) := by decide +kernel
theorem dL_areMoves_278 : decode cL_areMoves 278 = .ok (.istore_n 2, 1) := by decide +kernel
theorem dL_areMoves_279 : decode cL_areMoves 279 = .ok (.iload_n 2, 1) := by decide +kernel
theorem dL_areMoves_280 : decode cL_areMoves 280 = .ok (.ireturn, 1) := by decide +kernel
set_option maxRecDepth 20000 in
theorem ggL_countMoves_X4_square : GoodIn wsL_countMoves wsX4_square := goodIn_ca (goodIn_ca (goodIn_ca (goodIn_r _ [5, 6, 7, 8, 9, 10, 4, 11, 12, 13, 14, 15, 16, 17, 18, 19, 20, 21, 22, 23, 24, 25, 26, 27, 28, 29, 30, 31, 32, 33, 34, 35, 36, 37, 38, 39, 40, 41, 42, 43, 44, 45, 46, 47, 48, 49, 50, 51, 52, 53, 54, 55, 56, 57, 58, 59, 60, 61, 156, 157, 158, 159, 160, 161, 162, 163, 164] (by decide +kernel) (by decide +kernel)) (goodIn_sub (fun _ h => List.mem_cons_of_mem _ (List.mem_append_left _ (List.mem_append_left _ (List.mem_append_left _ (List.mem_append_right _ h))))) (by decide +kernel))) (goodIn_sub (fun _ h => List.mem_cons_of_mem _ (List.mem_append_left _ (List.mem_append_left _ (List.mem_append_right _ h)))) (by decide +kernel))) (goodIn_sub (fun _ h => List.mem_cons_of_mem _ (List.mem_append_left _ (List.mem_append_right _ h))) (by decide +kernel))
set_option maxRecDepth 20000 in
theorem gL_countMoves_X4_square : GoodIn wsL_countMoves (wsV RL 96 RX4 yX4_square wsX4_square) := goodIn_app (goodIn_of _ (by decide +kernel)) ggL_countMoves_X4_square
set_option maxRecDepth 20000 in
theorem ggL_countMoves_X4_account : GoodIn wsL_countMoves wsX4_account := goodIn_ca (goodIn_ca (goodIn_r _ [65, 6, 7, 8, 66, 67, 68, 41, 42, 17, 43, 23, 69, 70, 26, 71, 72, 73, 74, 75, 76, 77, 78, 79, 29, 30, 31, 60, 33, 34, 35, 80, 81, 82, 83, 84, 85, 86, 87, 88, 89, 90, 91, 92, 93, 94, 95, 96, 97, 98, 99, 100, 101, 102, 103, 104, 105, 106, 107, 108, 156, 157, 158, 159, 160, 161, 162, 163, 164, 165, 166, 167, 168, 169] (by decide +kernel) (by decide +kernel)) (goodIn_sub (fun _ h => List.mem_cons_of_mem _ (List.mem_append_left _ (List.mem_append_left _ (List.mem_append_left _ (List.mem_append_right _ h))))) (by decide +kernel))) (goodIn_sub (fun _ h => List.mem_cons_of_mem _ (List.mem_append_left _ (List.mem_append_right _ h))) (by decide +kernel))
set_option maxRecDepth 20000 in
theorem gL_countMoves_X4_account : GoodIn wsL_countMoves (wsV RL 99 RX4 yX4_account wsX4_account) := goodIn_app (goodIn_of _ (by decide +kernel)) ggL_countMoves_X4_account
set_option maxRecDepth 20000 in
theorem ggL_countMoves_L_moves : GoodIn wsL_countMoves wsL_moves := goodIn_ca (goodIn_ca (goodIn_ca (goodIn_r _ [112, 113, 114, 115, 116, 117, 4, 118, 8, 9, 10, 11, 12, 13, 119, 120, 121, 122, 123, 124, 14, 15, 16, 17, 18, 19, 20, 21, 22, 23, 24, 25, 26, 27, 28, 29, 30, 31, 32, 33, 34, 35, 125, 126, 127, 128, 129, 130, 37, 38, 39, 40, 41, 42, 43, 44, 45, 46, 47, 48, 49, 50, 51, 131, 132, 133, 134, 135, 136, 137, 138, 139, 53, 54, 55, 56, 57, 58, 59, 140, 141, 142, 143, 144, 145, 146, 147, 148, 149, 150, 151, 152, 153, 154, 155, 69, 70, 71, 72, 73, 74, 75, 76, 77, 78, 156, 157, 158, 159, 160, 161, 162, 163, 164] (by decide +kernel) (by decide +kernel)) (goodIn_sub (fun _ h => List.mem_cons_of_mem _ (List.mem_append_left _ (List.mem_append_left _ (List.mem_append_right _ h)))) (by decide +kernel))) (goodIn_sub (fun _ h => List.mem_cons_of_mem _ (List.mem_append_right _ h)) (by decide +kernel))) (goodIn_sub (fun _ h => List.mem_cons_of_mem _ (List.mem_append_left _ (List.mem_append_right _ h))) (by decide +kernel))
set_option maxRecDepth 20000 in
theorem gL_countMoves_L_moves : GoodIn wsL_countMoves (va_wsS RL 149 yL_moves wsL_moves) := goodIn_app (goodIn_of _ (by decide +kernel)) ggL_countMoves_L_moves
theorem dL_countMoves_0 : decode cL_countMoves 0 = .ok (.iconst 0, 1) := by decide +kernel
theorem dL_countMoves_1 : decode cL_countMoves 1 = .ok (.istore_n 1, 1) := by decide +kernel
theorem dL_countMoves_2 : decode cL_countMoves 2 = .ok (.iconst 0, 1) := by decide +kernel
theorem dL_countMoves_3 : decode cL_countMoves 3 = .ok (.istore_n 2, 1) := by decide +kernel
theorem dL_countMoves_4 : decode cL_countMoves 4 = .ok (.iload_n 2, 1) := by decide +kernel
theorem dL_countMoves_5 : decode cL_countMoves 5 = .ok (.bipush 36, 2) := by decide +kernel
theorem dL_countMoves_7 : decode cL_countMoves 7 = .ok (.if_icmp .ge 46, 3) := by decide +kernel
theorem dL_countMoves_10 : decode cL_countMoves 10 = .ok (.iload_n 1, 1) := by decide +kernel
theorem dL_countMoves_11 : decode cL_countMoves 11 = .ok (.aload_n 0, 1) := by decide +kernel
theorem dL_countMoves_12 : decode cL_countMoves 12 = .ok (.iload_n 2, 1) := by decide +kernel
theorem dL_countMoves_13 : decode cL_countMoves 13 = .ok (.iconst 0, 1) := by decide +kernel
theorem dL_countMoves_14 : decode cL_countMoves 14 = .ok (.invokevirtual 96, 3) := by decide +kernel
theorem dL_countMoves_17 : decode cL_countMoves 17 = .ok (.iconst 1, 1) := by decide +kernel
theorem dL_countMoves_18 : decode cL_countMoves 18 = .ok (.if_icmp .ne 26, 3) := by decide +kernel
theorem dL_countMoves_21 : decode cL_countMoves 21 = .ok (.aload_n 0, 1) := by decide +kernel
theorem dL_countMoves_22 : decode cL_countMoves 22 = .ok (.iload_n 2, 1) := by decide +kernel
theorem dL_countMoves_23 : decode cL_countMoves 23 = .ok (.iconst 1, 1) := by decide +kernel
theorem dL_countMoves_24 : decode cL_countMoves 24 = .ok (.invokevirtual 96, 3) := by decide +kernel
theorem dL_countMoves_27 : decode cL_countMoves 27 = .ok (.aload_n 0, 1) := by decide +kernel
theorem dL_countMoves_28 : decode cL_countMoves 28 = .ok (.bipush 7, 2) := by decide +kernel
theorem dL_countMoves_30 : decode cL_countMoves 30 = .ok (.invokevirtual 99, 3) := by decide +kernel
theorem dL_countMoves_33 : decode cL_countMoves 33 = .ok (.if_icmp .ne 11, 3) := by decide +kernel
theorem dL_countMoves_36 : decode cL_countMoves 36 = .ok (.aload_n 0, 1) := by decide +kernel
theorem dL_countMoves_37 : decode cL_countMoves 37 = .ok (.iload_n 2, 1) := by decide +kernel
theorem dL_countMoves_38 : decode cL_countMoves 38 = .ok (.invokestatic 149, 3) := by decide +kernel
theorem dL_countMoves_41 : decode cL_countMoves 41 = .ok (.goto 4, 3) := by decide +kernel
theorem dL_countMoves_44 : decode cL_countMoves 44 = .ok (.iconst 0, 1) := by decide +kernel
theorem dL_countMoves_45 : decode cL_countMoves 45 = .ok (.iadd, 1) := by decide +kernel
theorem dL_countMoves_46 : decode cL_countMoves 46 = .ok (.istore_n 1, 1) := by decide +kernel
theorem dL_countMoves_47 : decode cL_countMoves 47 = .ok (.iinc 2 1, 3) := by decide +kernel
theorem dL_countMoves_50 : decode cL_countMoves 50 = .ok (.goto (-46), 3) := by decide +kernel
theorem dL_countMoves_53 : decode cL_countMoves 53 = .ok (.iload_n 1, 1) := by decide +kernel
theorem dL_countMoves_54 : decode cL_countMoves 54 = .ok (.ireturn, 1) := by decide +kernel

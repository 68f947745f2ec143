/-! the worlds of the law's own small methods -/
def zCO (ad : Nat → Nat) (ob : Nat) (k : Nat → ClassId) (sv : Int32) (kE : Int32) (kR : Int32) (fb : Nat → Int64) (ft : Nat → Int64) (fs : Nat → Int64) (rws : Nat → Int64) (nx : Int32) (ct : Int32) (ch : Nat → Int32) (ln : Int32) (oo : Nat → Int64) : va_W := zC ad k sv kE kR fb ft fs rws nx ct ch ln ++ [(ob, .inl (k 0, 1, .inr (.inl oo)))]
def zOC (ad : Nat → Nat) (od : Nat) (k : Nat → ClassId) (sv : Int32) (kE : Int32) (kR : Int32) (fb : Nat → Int64) (ft : Nat → Int64) (fs : Nat → Int64) (rws : Nat → Int64) (nx : Int32) (ct : Int32) (ch : Nat → Int32) (ln : Int32) (od_ : Nat → UInt64) : va_W := [(od, .inl (k 5, 1, .inr (.inr (.inr (.inl od_)))))] ++ zC ad k sv kE kR fb ft fs rws nx ct ch ln
set_option maxRecDepth 20000 in
theorem ggL_lay_X4_lay : GoodIn wsL_lay wsX4_lay := goodIn_ca (goodIn_ca (goodIn_ca (goodIn_ca (goodIn_r _ [8, 9, 10, 11, 12, 13, 14, 15, 16, 7, 17, 18, 19, 20, 21, 22, 23, 24, 25, 26, 27, 28, 29, 30, 31, 32, 33, 34, 35, 36, 37, 38, 39, 40, 41, 42, 43, 44, 45, 46, 47, 48, 49, 50, 51, 52, 53, 54, 55, 56, 57, 58, 59, 60, 61, 62, 63, 64, 65, 66, 67, 68, 69, 70, 71, 72, 73, 74, 75, 76, 77, 78, 79, 80, 81, 82, 83, 84, 85, 86, 87, 88, 89, 90, 91, 92, 93, 94, 95, 96, 97, 98, 99, 100, 101, 102, 103, 104, 105, 106, 107, 108, 109, 110, 111, 112, 113] (by decide +kernel) (by decide +kernel)) (goodIn_sub (fun _ h => List.mem_cons_of_mem _ (List.mem_append_left _ (List.mem_append_left _ (List.mem_append_right _ h)))) (by decide +kernel))) (goodIn_sub (fun _ h => List.mem_cons_of_mem _ (List.mem_append_left _ (List.mem_append_right _ h))) (by decide +kernel))) (goodIn_sub (fun _ h => List.mem_cons_of_mem _ (List.mem_append_right _ h)) (by decide +kernel))) (goodIn_sub (fun _ h => List.mem_cons_of_mem _ (List.mem_append_left _ (List.mem_append_left _ (List.mem_append_left _ (List.mem_append_right _ h))))) (by decide +kernel))
set_option maxRecDepth 20000 in
theorem gL_lay_X4_lay : GoodIn wsL_lay (wsV RL 7 RX4 yX4_lay wsX4_lay) := goodIn_app (goodIn_of _ (by decide +kernel)) ggL_lay_X4_lay
set_option maxRecDepth 20000 in
theorem ggL_wall_X4_wall : GoodIn wsL_wall wsX4_wall := goodIn_ca (goodIn_ca (goodIn_ca (goodIn_r _ [7, 8, 9, 10, 11, 6, 12, 13, 14, 15, 16, 17, 18, 19, 20, 21, 22, 23, 24, 25, 26, 27, 28, 29, 30, 31, 32, 33, 34, 35, 36, 37, 38, 39, 40, 41, 42, 43, 44, 45, 46, 47, 48, 49, 50, 51, 52, 53, 54, 55, 56, 57, 58, 59, 60, 61, 62, 63, 64, 65, 66, 67, 68, 69, 70, 71, 72, 73, 74, 75, 76, 77, 78, 79, 80, 81, 82, 83, 84, 85, 86, 87, 88, 89, 90, 91, 92, 93, 94, 95, 96] (by decide +kernel) (by decide +kernel)) (goodIn_sub (fun _ h => List.mem_cons_of_mem _ (List.mem_append_left _ (List.mem_append_right _ h))) (by decide +kernel))) (goodIn_sub (fun _ h => List.mem_cons_of_mem _ (List.mem_append_right _ h)) (by decide +kernel))) (goodIn_sub (fun _ h => List.mem_cons_of_mem _ (List.mem_append_left _ (List.mem_append_left _ (List.mem_append_right _ h)))) (by decide +kernel))
set_option maxRecDepth 20000 in
theorem gL_wall_X4_wall : GoodIn wsL_wall (wsV RL 19 RX4 yX4_wall wsX4_wall) := goodIn_app (goodIn_of _ (by decide +kernel)) ggL_wall_X4_wall
set_option maxRecDepth 20000 in
theorem ggL_move_X4_move : GoodIn wsL_move wsX4_move := goodIn_ca (goodIn_ca (goodIn_ca (goodIn_r _ [7, 8, 9, 10, 11, 6, 12, 13, 14, 15, 16, 17, 18, 19, 20, 21, 22, 23, 24, 25, 26, 27, 28, 29, 30, 31, 32, 33, 34, 35, 36, 37, 38, 39, 40, 41, 42, 43, 44, 45, 46, 47, 48, 49, 50, 51, 52, 53, 54, 55, 56, 57, 58, 59, 60, 61, 62, 63, 64, 65, 66, 67, 68, 69, 70, 71, 72, 73, 74, 75, 76, 77, 78, 79, 80, 81, 82, 83, 84, 85, 86, 87, 88, 89, 90, 91, 92, 93, 94, 95, 96, 97, 98, 99, 100, 101, 102, 103, 104, 105, 106, 107, 108, 109, 110, 111, 112, 113, 114, 115, 116, 117, 118, 119, 120, 121, 122, 123, 124, 125, 126, 127, 128, 129, 130, 131, 132, 133, 134, 135, 136, 137, 138, 139, 140, 141, 142, 143, 144, 145, 146, 147, 148, 149, 150, 151, 152, 153, 154, 155, 156, 157, 158, 159, 160, 161, 162, 163, 164, 165, 166, 167, 168, 169, 170, 171, 172, 173, 174, 175, 176, 177, 178, 179, 180, 181, 182, 183, 184, 185, 186, 187, 188, 189, 190, 191, 192] (by decide +kernel) (by decide +kernel)) (goodIn_sub (fun _ h => List.mem_cons_of_mem _ (List.mem_append_left _ (List.mem_append_right _ h))) (by decide +kernel))) (goodIn_sub (fun _ h => List.mem_cons_of_mem _ (List.mem_append_left _ (List.mem_append_left _ (List.mem_append_right _ h)))) (by decide +kernel))) (goodIn_sub (fun _ h => List.mem_cons_of_mem _ (List.mem_append_right _ h)) (by decide +kernel))
set_option maxRecDepth 20000 in
theorem gL_move_X4_move : GoodIn wsL_move (wsV RL 23 RX4 yX4_move wsX4_move) := goodIn_app (goodIn_of _ (by decide +kernel)) ggL_move_X4_move
set_option maxRecDepth 20000 in
theorem ggL_door_X4_door : GoodIn wsL_door wsX4_door := goodIn_ca (goodIn_ca (goodIn_ca (goodIn_r _ [7, 8, 9, 10, 11, 6, 12, 13, 14, 15, 16, 17, 18, 19, 20, 21, 22, 23, 24, 25, 26, 27, 28, 29, 30, 31, 32, 33, 34, 35, 36, 37, 38, 39, 40, 41, 42, 43, 44, 45, 46, 47, 48, 49, 50, 51, 52, 53, 54, 55, 56, 57, 58, 59, 60, 61, 62, 63, 64, 65, 66, 67, 68, 69, 70, 71, 72, 73, 74, 75, 76, 77, 78, 79, 80, 81, 82, 83, 84, 85, 86, 87, 88, 89, 90, 91, 92, 93, 94, 95, 96, 97, 98, 99, 100, 101, 102, 103, 104, 105, 106, 107, 108, 109, 110, 111, 112, 113, 114, 115, 116, 117, 118, 119, 120, 121, 122, 123, 124, 125, 126, 127, 128, 129, 130, 131, 132, 133, 134, 135, 136, 137, 138, 139, 140, 141, 142, 143, 144, 145, 146, 147, 148, 149, 150, 151, 152, 153, 154, 155, 156, 157, 158, 159, 160, 161, 162] (by decide +kernel) (by decide +kernel)) (goodIn_sub (fun _ h => List.mem_cons_of_mem _ (List.mem_append_left _ (List.mem_append_right _ h))) (by decide +kernel))) (goodIn_sub (fun _ h => List.mem_cons_of_mem _ (List.mem_append_left _ (List.mem_append_left _ (List.mem_append_right _ h)))) (by decide +kernel))) (goodIn_sub (fun _ h => List.mem_cons_of_mem _ (List.mem_append_right _ h)) (by decide +kernel))
set_option maxRecDepth 20000 in
theorem gL_door_X4_door : GoodIn wsL_door (wsV RL 29 RX4 yX4_door wsX4_door) := goodIn_app (goodIn_of _ (by decide +kernel)) ggL_door_X4_door
set_option maxRecDepth 20000 in
theorem ggL_buy_X4_buy : GoodIn wsL_buy wsX4_buy := goodIn_ca (goodIn_ca (goodIn_ca (goodIn_r _ [7, 8, 9, 10, 11, 6, 12, 13, 14, 15, 16, 17, 18, 19, 20, 21, 22, 23, 24, 25, 26, 27, 28, 29, 30, 31, 32, 33, 34, 35, 36, 37, 38, 39, 40, 41, 42, 43, 44, 45, 46, 47, 48, 49, 50, 51, 52, 53, 54, 55, 56, 57, 58, 59, 60, 61, 62, 63, 64, 65, 66, 67, 68, 69, 70, 71, 72, 73, 74, 75, 76, 77, 78, 79, 80, 81, 82, 83, 84, 85, 86, 87, 88, 89, 90, 91, 92, 93, 94, 95, 96, 97, 98, 99, 100, 101, 102, 103, 104, 105, 106, 107, 108, 109, 110, 111, 112, 113, 114, 115, 116, 117, 118, 119, 120, 121, 122, 123, 124, 125, 126, 127, 128, 129, 130, 131, 132, 133, 134, 135, 136, 137, 138, 139, 140, 141, 142, 143, 144, 145, 146, 147, 148, 149, 150, 151, 152, 153, 154, 155, 156, 157, 158, 159, 160, 161, 162] (by decide +kernel) (by decide +kernel)) (goodIn_sub (fun _ h => List.mem_cons_of_mem _ (List.mem_append_left _ (List.mem_append_right _ h))) (by decide +kernel))) (goodIn_sub (fun _ h => List.mem_cons_of_mem _ (List.mem_append_left _ (List.mem_append_left _ (List.mem_append_right _ h)))) (by decide +kernel))) (goodIn_sub (fun _ h => List.mem_cons_of_mem _ (List.mem_append_right _ h)) (by decide +kernel))
set_option maxRecDepth 20000 in
theorem gL_buy_X4_buy : GoodIn wsL_buy (wsV RL 32 RX4 yX4_buy wsX4_buy) := goodIn_app (goodIn_of _ (by decide +kernel)) ggL_buy_X4_buy
set_option maxRecDepth 20000 in
theorem ggL_square_X4_square : GoodIn wsL_square wsX4_square := goodIn_ca (goodIn_ca (goodIn_ca (goodIn_r _ [7, 8, 9, 10, 11, 12, 6, 13, 14, 15, 16, 17, 18, 19, 20, 21, 22, 23, 24, 25, 26, 27, 28, 29, 30, 31, 32, 33, 34, 35, 36, 37, 38, 39, 40, 41, 42, 43, 44, 45, 46, 47, 48, 49, 50, 51, 52, 53, 54, 55, 56, 57, 58, 59, 60, 61, 62, 63, 64, 65, 66, 67, 68, 69, 70, 71, 72] (by decide +kernel) (by decide +kernel)) (goodIn_sub (fun _ h => List.mem_cons_of_mem _ (List.mem_append_left _ (List.mem_append_right _ h))) (by decide +kernel))) (goodIn_sub (fun _ h => List.mem_cons_of_mem _ (List.mem_append_right _ h)) (by decide +kernel))) (goodIn_sub (fun _ h => List.mem_cons_of_mem _ (List.mem_append_left _ (List.mem_append_left _ (List.mem_append_right _ h)))) (by decide +kernel))
set_option maxRecDepth 20000 in
theorem gL_square_X4_square : GoodIn wsL_square (wsV RL 35 RX4 yX4_square wsX4_square) := goodIn_app (goodIn_of _ (by decide +kernel)) ggL_square_X4_square
set_option maxRecDepth 20000 in
theorem ggL_canMove_X4_canMove : GoodIn wsL_canMove wsX4_canMove := goodIn_ca (goodIn_ca (goodIn_ca (goodIn_r _ [7, 8, 9, 10, 6, 11, 12, 13, 14, 15, 16, 17, 18, 19, 20, 21, 22, 23, 24, 25, 26, 27, 28, 29, 30, 31, 32, 33, 34, 35, 36, 37, 38, 39, 40, 41, 42, 43, 44, 45, 46, 47, 48, 49, 50, 51, 52, 53, 54, 55, 56, 57, 58, 59, 60, 61, 62, 63, 64, 65, 66, 67, 68, 69, 70, 71, 72, 73, 74, 75, 76, 77, 78, 79, 80, 81, 82, 83, 84, 85, 86, 87, 88, 89, 90, 91, 92, 93, 94, 95, 96, 97, 98, 99, 100, 101, 102, 103, 104] (by decide +kernel) (by decide +kernel)) (goodIn_sub (fun _ h => List.mem_cons_of_mem _ (List.mem_append_left _ (List.mem_append_right _ h))) (by decide +kernel))) (goodIn_sub (fun _ h => List.mem_cons_of_mem _ (List.mem_append_right _ h)) (by decide +kernel))) (goodIn_sub (fun _ h => List.mem_cons_of_mem _ (List.mem_append_left _ (List.mem_append_left _ (List.mem_append_right _ h)))) (by decide +kernel))
set_option maxRecDepth 20000 in
theorem gL_canMove_X4_canMove : GoodIn wsL_canMove (wsV RL 38 RX4 yX4_canMove wsX4_canMove) := goodIn_app (goodIn_of _ (by decide +kernel)) ggL_canMove_X4_canMove
set_option maxRecDepth 20000 in
theorem ggL_moves_X4_moves : GoodIn wsL_moves wsX4_moves := goodIn_ca (goodIn_ca (goodIn_ca (goodIn_r _ [7, 8, 9, 10, 6, 11, 12, 13, 14, 15, 16, 17, 18, 19, 20, 21, 22, 23, 24, 25, 26, 27, 28, 29, 30, 31, 32, 33, 34, 35, 36, 37, 38, 39, 40, 41, 42, 43, 44, 45, 46, 47, 48, 49, 50, 51, 52, 53, 54, 55, 56, 57, 58, 59, 60, 61, 62, 63, 64, 65, 66, 67, 68, 69, 70, 71, 72, 73, 74, 75, 76, 77, 78, 79, 80, 81, 82, 83, 84, 85, 86, 87, 88, 89, 90, 91, 92, 93, 94, 95, 96, 97, 98, 99, 100, 101, 102, 103, 104, 105, 106, 107, 108, 109, 110, 111, 112, 113] (by decide +kernel) (by decide +kernel)) (goodIn_sub (fun _ h => List.mem_cons_of_mem _ (List.mem_append_left _ (List.mem_append_right _ h))) (by decide +kernel))) (goodIn_sub (fun _ h => List.mem_cons_of_mem _ (List.mem_append_right _ h)) (by decide +kernel))) (goodIn_sub (fun _ h => List.mem_cons_of_mem _ (List.mem_append_left _ (List.mem_append_left _ (List.mem_append_right _ h)))) (by decide +kernel))
set_option maxRecDepth 20000 in
theorem gL_moves_X4_moves : GoodIn wsL_moves (wsV RL 44 RX4 yX4_moves wsX4_moves) := goodIn_app (goodIn_of _ (by decide +kernel)) ggL_moves_X4_moves
set_option maxRecDepth 20000 in
theorem ggL_captures_X4_captures : GoodIn wsL_captures wsX4_captures := goodIn_ca (goodIn_ca (goodIn_ca (goodIn_r _ [7, 8, 9, 10, 11, 6, 12, 13, 14, 15, 16, 17, 18, 19, 20, 21, 22, 23, 24, 25, 26, 27, 28, 29, 30, 31, 32, 33, 34, 35, 36, 37, 38, 39, 40, 41, 42, 43, 44, 45, 46, 47, 48, 49, 50, 51, 52, 53, 54, 55, 56, 57, 58, 59, 60, 61, 62, 63, 64, 65, 66, 67, 68, 69, 70, 71, 72, 73, 74, 75, 76, 77, 78, 79, 80, 81, 82, 83, 84, 85, 86, 87, 88, 89, 90, 91, 92, 93, 94, 95, 96, 97, 98, 99, 100, 101, 102, 103, 104, 105, 106, 107, 108, 109, 110, 111, 112, 113, 114, 115, 116, 117, 118, 119, 120, 121, 122, 123, 124, 125, 126, 127, 128, 129, 130, 131, 132, 133, 134, 135, 136, 137, 138, 139, 140, 141, 142, 143, 144, 145, 146, 147, 148, 149, 150] (by decide +kernel) (by decide +kernel)) (goodIn_sub (fun _ h => List.mem_cons_of_mem _ (List.mem_append_left _ (List.mem_append_right _ h))) (by decide +kernel))) (goodIn_sub (fun _ h => List.mem_cons_of_mem _ (List.mem_append_right _ h)) (by decide +kernel))) (goodIn_sub (fun _ h => List.mem_cons_of_mem _ (List.mem_append_left _ (List.mem_append_left _ (List.mem_append_right _ h)))) (by decide +kernel))
set_option maxRecDepth 20000 in
theorem gL_captures_X4_captures : GoodIn wsL_captures (wsV RL 47 RX4 yX4_captures wsX4_captures) := goodIn_app (goodIn_of _ (by decide +kernel)) ggL_captures_X4_captures
set_option maxRecDepth 20000 in
theorem ggL_best_X4_best : GoodIn wsL_best wsX4_best := goodIn_ca (goodIn_ca (goodIn_r _ [6, 7, 8, 9, 10, 11, 12, 13, 14, 15, 16, 17, 18, 5, 19, 20, 21, 22, 23, 24, 25, 26, 27, 28, 29, 30, 31, 32, 33, 34, 35, 36, 37, 38, 39, 40, 41, 42, 43, 44, 45, 46, 47, 48, 49, 50, 51, 52, 53, 54, 55, 56, 57, 58, 59, 60, 61, 62, 63, 64, 65, 66, 67, 68, 69, 70, 71, 72, 73, 74, 75, 76, 77, 78, 79, 80, 81, 82, 83, 84, 85, 86, 87, 88, 89, 90, 91, 92, 93, 94, 95, 96, 97, 98, 99, 100, 101, 102, 103, 104, 105, 106, 107, 108, 109, 110, 111, 112, 113, 114, 115, 116, 117, 118, 119, 120, 121, 122, 123, 124, 125, 126, 127, 128, 129, 130, 131, 132, 133, 134, 135, 136, 137, 138, 139, 140, 141, 142, 143, 144, 145, 146, 147, 148, 149, 150, 151, 152, 153, 154, 155, 156] (by decide +kernel) (by decide +kernel)) (goodIn_sub (fun _ h => List.mem_cons_of_mem _ (List.mem_append_right _ h)) (by decide +kernel))) (goodIn_sub (fun _ h => List.mem_cons_of_mem _ (List.mem_append_left _ (List.mem_append_right _ h))) (by decide +kernel))
set_option maxRecDepth 20000 in
theorem gL_best_X4_best : GoodIn wsL_best (wsV RL 50 RX4 yX4_best wsX4_best) := goodIn_app (goodIn_of _ (by decide +kernel)) ggL_best_X4_best
set_option maxRecDepth 20000 in
theorem ggL_worth_X4_worth : GoodIn wsL_worth wsX4_worth := goodIn_ca (goodIn_ca (goodIn_ca (goodIn_r _ [7, 8, 9, 10, 11, 12, 6, 13, 14, 15, 16, 17, 18, 19, 20, 21, 22, 23, 24, 25, 26, 27, 28, 29, 30, 31, 32, 33, 34, 35, 36, 37, 38, 39, 40, 41, 42, 43, 44, 45, 46, 47, 48, 49, 50, 51, 52, 53, 54, 55, 56, 57, 58, 59, 60, 61, 62, 63, 64, 65, 66, 67, 68, 69, 70, 71, 72, 73, 74, 75, 76, 77, 78, 79, 80, 81, 82, 83, 84, 85, 86, 87, 88, 89, 90, 91, 92, 93, 94, 95, 96, 97, 98, 99, 100, 101, 102, 103, 104, 105, 106, 107, 108, 109, 110, 111, 112, 113, 114, 115, 116, 117, 118, 119, 120, 121, 122, 123, 124, 125, 126, 127, 128, 129, 130, 131, 132, 133, 134, 135, 136, 137, 138, 139, 140, 141, 142, 143, 144, 145, 146, 147, 148, 149, 150, 151, 152, 153, 154, 155, 156, 157, 158] (by decide +kernel) (by decide +kernel)) (goodIn_sub (fun _ h => List.mem_cons_of_mem _ (List.mem_append_left _ (List.mem_append_right _ h))) (by decide +kernel))) (goodIn_sub (fun _ h => List.mem_cons_of_mem _ (List.mem_append_right _ h)) (by decide +kernel))) (goodIn_sub (fun _ h => List.mem_cons_of_mem _ (List.mem_append_left _ (List.mem_append_left _ (List.mem_append_right _ h)))) (by decide +kernel))
set_option maxRecDepth 20000 in
theorem gL_worth_X4_worth : GoodIn wsL_worth (wsV RL 54 RX4 yX4_worth wsX4_worth) := goodIn_app (goodIn_of _ (by decide +kernel)) ggL_worth_X4_worth
set_option maxRecDepth 20000 in
theorem ggL_rooms_X4_rooms : GoodIn wsL_rooms wsX4_rooms := goodIn_ca (goodIn_ca (goodIn_r _ [6, 7, 8, 9, 5, 10, 11, 12, 13, 14, 15, 16, 17, 18, 19, 20, 21, 22, 23, 24, 25, 26, 27, 28, 29, 30, 31, 32, 33, 34, 35, 36, 37, 38, 39, 40, 41, 42, 43, 44, 45, 46] (by decide +kernel) (by decide +kernel)) (goodIn_sub (fun _ h => List.mem_cons_of_mem _ (List.mem_append_right _ h)) (by decide +kernel))) (goodIn_sub (fun _ h => List.mem_cons_of_mem _ (List.mem_append_left _ (List.mem_append_right _ h))) (by decide +kernel))
set_option maxRecDepth 20000 in
theorem gL_rooms_X4_rooms : GoodIn wsL_rooms (wsV RL 57 RX4 yX4_rooms wsX4_rooms) := goodIn_app (goodIn_of _ (by decide +kernel)) ggL_rooms_X4_rooms
set_option maxRecDepth 20000 in
theorem ggL_room_X4_room : GoodIn wsL_room wsX4_room := goodIn_ca (goodIn_ca (goodIn_ca (goodIn_r _ [7, 8, 9, 10, 11, 12, 6, 13, 14, 15, 16, 17, 18, 19, 20, 21, 22, 23, 24, 25, 26, 27, 28, 29, 30, 31, 32, 33, 34, 35, 36, 37, 38, 39, 40, 41, 42, 43, 44, 45, 46, 47, 48, 49, 50, 51, 52, 53, 54, 55] (by decide +kernel) (by decide +kernel)) (goodIn_sub (fun _ h => List.mem_cons_of_mem _ (List.mem_append_left _ (List.mem_append_right _ h))) (by decide +kernel))) (goodIn_sub (fun _ h => List.mem_cons_of_mem _ (List.mem_append_right _ h)) (by decide +kernel))) (goodIn_sub (fun _ h => List.mem_cons_of_mem _ (List.mem_append_left _ (List.mem_append_left _ (List.mem_append_right _ h)))) (by decide +kernel))
set_option maxRecDepth 20000 in
theorem gL_room_X4_room : GoodIn wsL_room (wsV RL 60 RX4 yX4_room wsX4_room) := goodIn_app (goodIn_of _ (by decide +kernel)) ggL_room_X4_room
set_option maxRecDepth 20000 in
theorem ggL_roomOf_X4_roomOf : GoodIn wsL_roomOf wsX4_roomOf := goodIn_ca (goodIn_ca (goodIn_ca (goodIn_r _ [7, 8, 9, 10, 11, 12, 13, 14, 6, 15, 16, 17, 18, 19, 20, 21, 22, 23, 24, 25, 26, 27, 28, 29, 30, 31, 32, 33, 34, 35, 36, 37, 38, 39, 40, 41, 42, 43, 44, 45, 46, 47, 48, 49, 50, 51, 52, 53, 54, 55, 56, 57, 58, 59, 60, 61, 62, 63, 64, 65, 66, 67, 68, 69, 70, 71, 72, 73] (by decide +kernel) (by decide +kernel)) (goodIn_sub (fun _ h => List.mem_cons_of_mem _ (List.mem_append_left _ (List.mem_append_right _ h))) (by decide +kernel))) (goodIn_sub (fun _ h => List.mem_cons_of_mem _ (List.mem_append_right _ h)) (by decide +kernel))) (goodIn_sub (fun _ h => List.mem_cons_of_mem _ (List.mem_append_left _ (List.mem_append_left _ (List.mem_append_right _ h)))) (by decide +kernel))
set_option maxRecDepth 20000 in
theorem gL_roomOf_X4_roomOf : GoodIn wsL_roomOf (wsV RL 63 RX4 yX4_roomOf wsX4_roomOf) := goodIn_app (goodIn_of _ (by decide +kernel)) ggL_roomOf_X4_roomOf
set_option maxRecDepth 20000 in
theorem ggL_sealed_X4_sealed : GoodIn wsL_sealed wsX4_sealed := goodIn_ca (goodIn_ca (goodIn_r _ [6, 7, 8, 9, 5, 10, 11, 12, 13, 14, 15, 16, 17, 18, 19, 20, 21, 22, 23, 24, 25, 26, 27, 28, 29, 30, 31, 32, 33, 34, 35, 36, 37, 38, 39, 40, 41, 42, 43, 44, 45, 46, 47, 48, 49, 50, 51, 52, 53, 54, 55, 56, 57, 58, 59, 60] (by decide +kernel) (by decide +kernel)) (goodIn_sub (fun _ h => List.mem_cons_of_mem _ (List.mem_append_right _ h)) (by decide +kernel))) (goodIn_sub (fun _ h => List.mem_cons_of_mem _ (List.mem_append_left _ (List.mem_append_right _ h))) (by decide +kernel))
set_option maxRecDepth 20000 in
theorem gL_sealed_X4_sealed : GoodIn wsL_sealed (wsV RL 66 RX4 yX4_sealed wsX4_sealed) := goodIn_app (goodIn_of _ (by decide +kernel)) ggL_sealed_X4_sealed
set_option maxRecDepth 20000 in
theorem ggL_sealedAgain_X4_sealedAgain : GoodIn wsL_sealedAgain wsX4_sealedAgain := goodIn_ca (goodIn_ca (goodIn_r _ [6, 7, 8, 9, 5, 10, 11, 12, 13, 14, 15, 16, 17, 18, 19, 20, 21, 22, 23, 24, 25, 26, 27, 28, 29, 30, 31, 32, 33, 34, 35, 36, 37, 38, 39, 40, 41, 42, 43, 44, 45, 46, 47, 48, 49, 50, 51, 52, 53, 54, 55, 56, 57] (by decide +kernel) (by decide +kernel)) (goodIn_sub (fun _ h => List.mem_cons_of_mem _ (List.mem_append_right _ h)) (by decide +kernel))) (goodIn_sub (fun _ h => List.mem_cons_of_mem _ (List.mem_append_left _ (List.mem_append_right _ h))) (by decide +kernel))
set_option maxRecDepth 20000 in
theorem gL_sealedAgain_X4_sealedAgain : GoodIn wsL_sealedAgain (wsV RL 69 RX4 yX4_sealedAgain wsX4_sealedAgain) := goodIn_app (goodIn_of _ (by decide +kernel)) ggL_sealedAgain_X4_sealedAgain
set_option maxRecDepth 20000 in
theorem ggL_steps_X4_steps : GoodIn wsL_steps wsX4_steps := goodIn_ca (goodIn_ca (goodIn_ca (goodIn_r _ [7, 8, 9, 10, 11, 12, 6, 13, 14, 15, 16, 17, 18, 19, 20, 21, 22, 23, 24, 25, 26, 27, 28, 29, 30, 31, 32, 33, 34, 35, 36, 37, 38, 39, 40, 41, 42, 43, 44, 45, 46, 47, 48, 49, 50, 51, 52, 53] (by decide +kernel) (by decide +kernel)) (goodIn_sub (fun _ h => List.mem_cons_of_mem _ (List.mem_append_left _ (List.mem_append_right _ h))) (by decide +kernel))) (goodIn_sub (fun _ h => List.mem_cons_of_mem _ (List.mem_append_right _ h)) (by decide +kernel))) (goodIn_sub (fun _ h => List.mem_cons_of_mem _ (List.mem_append_left _ (List.mem_append_left _ (List.mem_append_right _ h)))) (by decide +kernel))
set_option maxRecDepth 20000 in
theorem gL_steps_X4_steps : GoodIn wsL_steps (wsV RL 72 RX4 yX4_steps wsX4_steps) := goodIn_app (goodIn_of _ (by decide +kernel)) ggL_steps_X4_steps
set_option maxRecDepth 20000 in
theorem ggL_sealedShare_X4_sealedShare : GoodIn wsL_sealedShare wsX4_sealedShare := goodIn_ca (goodIn_ca (goodIn_ca (goodIn_r _ [7, 8, 9, 10, 11, 12, 6, 13, 14, 15, 16, 17, 18, 19, 20, 21, 22, 23, 24, 25, 26, 27, 28, 29, 30, 31, 32, 33, 34, 35, 36, 37, 38, 39, 40, 41, 42, 43, 44, 45, 46, 47, 48, 49, 50, 51, 52, 53, 54, 55, 56, 57, 58, 59, 60, 61, 62, 63, 64, 65] (by decide +kernel) (by decide +kernel)) (goodIn_sub (fun _ h => List.mem_cons_of_mem _ (List.mem_append_left _ (List.mem_append_right _ h))) (by decide +kernel))) (goodIn_sub (fun _ h => List.mem_cons_of_mem _ (List.mem_append_right _ h)) (by decide +kernel))) (goodIn_sub (fun _ h => List.mem_cons_of_mem _ (List.mem_append_left _ (List.mem_append_left _ (List.mem_append_right _ h)))) (by decide +kernel))
set_option maxRecDepth 20000 in
theorem gL_sealedShare_X4_sealedShare : GoodIn wsL_sealedShare (wsV RL 75 RX4 yX4_sealedShare wsX4_sealedShare) := goodIn_app (goodIn_of _ (by decide +kernel)) ggL_sealedShare_X4_sealedShare
set_option maxRecDepth 20000 in
theorem ggL_append_X4_append : GoodIn wsL_append wsX4_append := goodIn_ca (goodIn_ca (goodIn_ca (goodIn_r _ [7, 8, 9, 10, 11, 12, 13, 14, 15, 16, 17, 18, 19, 20, 21, 22, 23, 24, 25, 26, 27, 28, 29, 30, 31, 32, 33] (by decide +kernel) (by decide +kernel)) (goodIn_sub (fun _ h => List.mem_cons_of_mem _ (List.mem_append_left _ (List.mem_append_right _ h))) (by decide +kernel))) (goodIn_sub (fun _ h => List.mem_cons_of_mem _ (List.mem_append_right _ h)) (by decide +kernel))) (goodIn_sub (fun _ h => List.mem_cons_of_mem _ (List.mem_append_left _ (List.mem_append_left _ (List.mem_append_right _ h)))) (by decide +kernel))
set_option maxRecDepth 20000 in
theorem gL_append_X4_append : GoodIn wsL_append (wsV RL 81 RX4 yX4_append wsX4_append) := goodIn_app (goodIn_of _ (by decide +kernel)) ggL_append_X4_append
set_option maxRecDepth 20000 in
theorem ggL_read_X4_read : GoodIn wsL_read wsX4_read := goodIn_ca (goodIn_ca (goodIn_ca (goodIn_r _ [7, 8, 9, 10, 11, 12, 13, 14, 15, 16, 17, 18, 19, 20, 21, 22, 23, 24, 25, 26, 27, 28, 29, 30, 31, 32, 33, 34, 35, 36, 37, 38, 39, 40, 41, 42, 43, 44, 45, 46, 47, 48, 49, 50, 51, 52, 53, 54, 55, 6, 56, 57, 58, 59, 60, 61, 62, 63, 64, 65, 66, 67, 68, 69, 70, 71, 72, 73, 74, 75, 76, 77, 78, 79, 80, 81, 82, 83, 84, 85, 86, 87, 88, 89, 90, 91, 92, 93, 94, 95, 96, 97, 98, 99, 100, 101, 102, 103, 104, 105, 106, 107, 108, 109, 110, 111, 112, 113, 114, 115, 116, 117, 118, 119, 120, 121, 122, 123, 124, 125, 126, 127, 128, 129, 130, 131, 132, 133, 134, 135, 136, 137, 138, 139, 140, 141, 142, 143, 144, 145, 146, 147, 148, 149, 150, 151, 152, 153, 154, 155, 156, 157, 158, 159, 160, 161, 162, 163, 164, 165, 166, 167, 168, 169, 170, 171, 172, 173, 174, 175, 176, 177, 178, 179, 180, 181, 182, 183, 184, 185, 186, 187, 188, 189, 190, 191, 192, 193, 194, 195, 196, 197, 198, 199, 200, 201, 202, 203, 204, 205, 206, 207, 208, 209, 210, 211, 212, 213, 214, 215, 216, 217, 218, 219, 220, 221, 222, 223, 224, 225, 226, 227, 228, 229, 230, 231, 232, 233, 234, 235, 236, 237, 238, 239, 240, 241, 242, 243, 244, 245, 246, 247, 248, 249, 250, 251, 252, 253, 254, 255, 256, 257, 258, 259, 260, 261, 262, 263, 264, 265, 266, 267, 268] (by decide +kernel) (by decide +kernel)) (goodIn_sub (fun _ h => List.mem_cons_of_mem _ (List.mem_append_left _ (List.mem_append_right _ h))) (by decide +kernel))) (goodIn_sub (fun _ h => List.mem_cons_of_mem _ (List.mem_append_left _ (List.mem_append_left _ (List.mem_append_right _ h)))) (by decide +kernel))) (goodIn_sub (fun _ h => List.mem_cons_of_mem _ (List.mem_append_right _ h)) (by decide +kernel))
set_option maxRecDepth 20000 in
theorem gL_read_X4_read : GoodIn wsL_read (wsV RL 85 RX4 yX4_read wsX4_read) := goodIn_app (goodIn_of _ (by decide +kernel)) ggL_read_X4_read
set_option maxRecDepth 20000 in
theorem ggL_errorPosition_X4_errorPosition : GoodIn wsL_errorPosition wsX4_errorPosition := goodIn_ca (goodIn_r _ [6, 7, 8, 9, 10, 11, 12, 13, 14, 15, 16, 17] (by decide +kernel) (by decide +kernel)) (goodIn_sub (fun _ h => List.mem_cons_of_mem _ (List.mem_append_right _ h)) (by decide +kernel))
set_option maxRecDepth 20000 in
theorem gL_errorPosition_X4_errorPosition : GoodIn wsL_errorPosition (wsV RL 88 RX4 yX4_errorPosition wsX4_errorPosition) := goodIn_app (goodIn_of _ (by decide +kernel)) ggL_errorPosition_X4_errorPosition
set_option maxRecDepth 20000 in
theorem ggL_reason_X4_reason : GoodIn wsL_reason wsX4_reason := goodIn_ca (goodIn_r _ [6, 7, 8, 9, 10, 11, 12, 13, 14, 15, 16, 17] (by decide +kernel) (by decide +kernel)) (goodIn_sub (fun _ h => List.mem_cons_of_mem _ (List.mem_append_right _ h)) (by decide +kernel))
set_option maxRecDepth 20000 in
theorem gL_reason_X4_reason : GoodIn wsL_reason (wsV RL 91 RX4 yX4_reason wsX4_reason) := goodIn_app (goodIn_of _ (by decide +kernel)) ggL_reason_X4_reason
set_option maxRecDepth 20000 in
theorem ggL_picture_X4_picture : GoodIn wsL_picture wsX4_picture := goodIn_ca (goodIn_ca (goodIn_r _ [6, 7, 8, 9, 5, 10, 11, 12, 13, 14, 15, 16, 17, 18, 19, 20, 21, 22, 23, 24, 25, 26, 27, 28, 29, 30, 31, 32, 33, 34, 35, 36, 37, 38, 39, 40, 41, 42, 43, 44, 45, 46, 47, 48, 49, 50, 51, 52, 53, 54, 55, 56, 57, 58, 59, 60, 61, 62, 63, 64, 65, 66, 67, 68, 69, 70] (by decide +kernel) (by decide +kernel)) (goodIn_sub (fun _ h => List.mem_cons_of_mem _ (List.mem_append_right _ h)) (by decide +kernel))) (goodIn_sub (fun _ h => List.mem_cons_of_mem _ (List.mem_append_left _ (List.mem_append_right _ h))) (by decide +kernel))
set_option maxRecDepth 20000 in
theorem gL_picture_X4_picture : GoodIn wsL_picture (wsV RL 95 RX4 yX4_picture wsX4_picture) := goodIn_app (goodIn_of _ (by decide +kernel)) ggL_picture_X4_picture
set_option maxRecDepth 20000 in
theorem ggL_account_X4_account : GoodIn wsL_account wsX4_account := goodIn_ca (goodIn_ca (goodIn_r _ [6, 7, 8, 9, 10, 11, 12, 13, 14, 15, 16, 17, 18, 19, 20, 21, 22, 23, 24, 25, 26, 27, 28, 29, 30, 31, 32, 33, 34, 35, 36, 37, 38, 39, 40, 41, 42, 43, 44, 45, 46, 47, 48, 49, 50, 51, 52, 53, 54, 55, 56, 57, 58, 59, 60, 61, 62, 63, 64, 65, 66, 67, 68, 69, 70, 71, 72, 73, 74, 75, 76, 77, 78, 79] (by decide +kernel) (by decide +kernel)) (goodIn_sub (fun _ h => List.mem_cons_of_mem _ (List.mem_append_right _ h)) (by decide +kernel))) (goodIn_sub (fun _ h => List.mem_cons_of_mem _ (List.mem_append_left _ (List.mem_append_right _ h))) (by decide +kernel))
set_option maxRecDepth 20000 in
theorem gL_account_X4_account : GoodIn wsL_account (wsV RL 99 RX4 yX4_account wsX4_account) := goodIn_app (goodIn_of _ (by decide +kernel)) ggL_account_X4_account
set_option maxRecDepth 20000 in
theorem ggL_undo_X4_undo : GoodIn wsL_undo wsX4_undo := goodIn_ca (goodIn_ca (goodIn_r _ [6, 7, 8, 9, 10, 11, 12, 13, 14, 15, 16, 17, 18, 19, 20, 21, 22, 23, 24, 25, 26, 27, 28, 29, 30, 31, 32, 33, 34, 35, 36, 37, 38, 39, 40] (by decide +kernel) (by decide +kernel)) (goodIn_sub (fun _ h => List.mem_cons_of_mem _ (List.mem_append_right _ h)) (by decide +kernel))) (goodIn_sub (fun _ h => List.mem_cons_of_mem _ (List.mem_append_left _ (List.mem_append_right _ h))) (by decide +kernel))
set_option maxRecDepth 20000 in
theorem gL_undo_X4_undo : GoodIn wsL_undo (wsV RL 102 RX4 yX4_undo wsX4_undo) := goodIn_app (goodIn_of _ (by decide +kernel)) ggL_undo_X4_undo
set_option maxRecDepth 20000 in
theorem ggL_restore_X4_restore : GoodIn wsL_restore wsX4_restore := goodIn_ca (goodIn_ca (goodIn_r _ [6, 7, 8, 9, 10, 11, 12, 13, 14, 15, 16, 17, 18, 19, 20, 21, 22, 23, 24, 25, 26, 27, 28, 29, 30, 31, 32, 33, 34, 35, 36, 37, 38, 39, 40, 41, 42, 43, 44, 45, 46, 47, 48, 49, 50, 51] (by decide +kernel) (by decide +kernel)) (goodIn_sub (fun _ h => List.mem_cons_of_mem _ (List.mem_append_right _ h)) (by decide +kernel))) (goodIn_sub (fun _ h => List.mem_cons_of_mem _ (List.mem_append_left _ (List.mem_append_right _ h))) (by decide +kernel))
set_option maxRecDepth 20000 in
theorem gL_restore_X4_restore : GoodIn wsL_restore (wsV RL 105 RX4 yX4_restore wsX4_restore) := goodIn_app (goodIn_of _ (by decide +kernel)) ggL_restore_X4_restore

theorem dL_lay_0 : decode cL_lay 0 = .ok (.aload 4, 2) := by decide +kernel
theorem dL_lay_2 : decode cL_lay 2 = .ok (.iconst 0, 1) := by decide +kernel
theorem dL_lay_3 : decode cL_lay 3 = .ok (.aload_n 0, 1) := by decide +kernel
theorem dL_lay_4 : decode cL_lay 4 = .ok (.iload_n 1, 1) := by decide +kernel
theorem dL_lay_5 : decode cL_lay 5 = .ok (.iload_n 2, 1) := by decide +kernel
theorem dL_lay_6 : decode cL_lay 6 = .ok (.iload_n 3, 1) := by decide +kernel
theorem dL_lay_7 : decode cL_lay 7 = .ok (.invokevirtual 7, 3) := by decide +kernel
theorem dL_lay_10 : decode cL_lay 10 = .ok (.i2l, 1) := by decide +kernel
theorem dL_lay_11 : decode cL_lay 11 = .ok (.lastore, 1) := by decide +kernel
theorem dL_lay_12 : decode cL_lay 12 = .ok (.goto 15, 3) := by decide +kernel
theorem dL_lay_15 : decode cL_lay 15 = .ok (.astore 5, 2) := by decide +kernel
theorem dL_lay_17 : decode cL_lay 17 = .ok (.iconst 1, 1) := by decide +kernel
theorem dL_lay_18 : decode cL_lay 18 = .ok (.ireturn, 1) := by decide +kernel
theorem dL_lay_19 : decode cL_lay 19 = .ok (.astore 5, 2) := by decide +kernel
theorem dL_lay_21 : decode cL_lay 21 = .ok (.iconst 2, 1) := by decide +kernel
theorem dL_lay_22 : decode cL_lay 22 = .ok (.ireturn, 1) := by decide +kernel
theorem dL_lay_23 : decode cL_lay 23 = .ok (.astore 5, 2) := by decide +kernel
theorem dL_lay_25 : decode cL_lay 25 = .ok (.iconst 3, 1) := by decide +kernel
theorem dL_lay_26 : decode cL_lay 26 = .ok (.ireturn, 1) := by decide +kernel
theorem dL_lay_27 : decode cL_lay 27 = .ok (.iconst 0, 1) := by decide +kernel
theorem dL_lay_28 : decode cL_lay 28 = .ok (.ireturn, 1) := by decide +kernel
theorem dL_wall_0 : decode cL_wall 0 = .ok (.aload_n 2, 1) := by decide +kernel
theorem dL_wall_1 : decode cL_wall 1 = .ok (.iconst 0, 1) := by decide +kernel
theorem dL_wall_2 : decode cL_wall 2 = .ok (.aload_n 0, 1) := by decide +kernel
theorem dL_wall_3 : decode cL_wall 3 = .ok (.iload_n 1, 1) := by decide +kernel
theorem dL_wall_4 : decode cL_wall 4 = .ok (.invokevirtual 19, 3) := by decide +kernel
theorem dL_wall_7 : decode cL_wall 7 = .ok (.i2l, 1) := by decide +kernel
theorem dL_wall_8 : decode cL_wall 8 = .ok (.lastore, 1) := by decide +kernel
theorem dL_wall_9 : decode cL_wall 9 = .ok (.goto 9, 3) := by decide +kernel
theorem dL_wall_12 : decode cL_wall 12 = .ok (.astore_n 3, 1) := by decide +kernel
theorem dL_wall_13 : decode cL_wall 13 = .ok (.iconst 1, 1) := by decide +kernel
theorem dL_wall_14 : decode cL_wall 14 = .ok (.ireturn, 1) := by decide +kernel
theorem dL_wall_15 : decode cL_wall 15 = .ok (.astore_n 3, 1) := by decide +kernel
theorem dL_wall_16 : decode cL_wall 16 = .ok (.iconst 2, 1) := by decide +kernel
theorem dL_wall_17 : decode cL_wall 17 = .ok (.ireturn, 1) := by decide +kernel
theorem dL_wall_18 : decode cL_wall 18 = .ok (.iconst 0, 1) := by decide +kernel
theorem dL_wall_19 : decode cL_wall 19 = .ok (.ireturn, 1) := by decide +kernel
theorem dL_move_0 : decode cL_move 0 = .ok (.aload_n 3, 1) := by decide +kernel
theorem dL_move_1 : decode cL_move 1 = .ok (.iconst 0, 1) := by decide +kernel
theorem dL_move_2 : decode cL_move 2 = .ok (.aload_n 0, 1) := by decide +kernel
theorem dL_move_3 : decode cL_move 3 = .ok (.iload_n 1, 1) := by decide +kernel
theorem dL_move_4 : decode cL_move 4 = .ok (.iload_n 2, 1) := by decide +kernel
theorem dL_move_5 : decode cL_move 5 = .ok (.invokevirtual 23, 3) := by decide +kernel
theorem dL_move_8 : decode cL_move 8 = .ok (.i2l, 1) := by decide +kernel
theorem dL_move_9 : decode cL_move 9 = .ok (.lastore, 1) := by decide +kernel
theorem dL_move_10 : decode cL_move 10 = .ok (.goto 11, 3) := by decide +kernel
theorem dL_move_13 : decode cL_move 13 = .ok (.astore 4, 2) := by decide +kernel
theorem dL_move_15 : decode cL_move 15 = .ok (.iconst 1, 1) := by decide +kernel
theorem dL_move_16 : decode cL_move 16 = .ok (.ireturn, 1) := by decide +kernel
theorem dL_move_17 : decode cL_move 17 = .ok (.astore 4, 2) := by decide +kernel
theorem dL_move_19 : decode cL_move 19 = .ok (.iconst 2, 1) := by decide +kernel
theorem dL_move_20 : decode cL_move 20 = .ok (.ireturn, 1) := by decide +kernel
theorem dL_move_21 : decode cL_move 21 = .ok (.iconst 0, 1) := by decide +kernel
theorem dL_move_22 : decode cL_move 22 = .ok (.ireturn, 1) := by decide +kernel
theorem dL_door_0 : decode cL_door 0 = .ok (.aload_n 2, 1) := by decide +kernel
theorem dL_door_1 : decode cL_door 1 = .ok (.iconst 0, 1) := by decide +kernel
theorem dL_door_2 : decode cL_door 2 = .ok (.aload_n 0, 1) := by decide +kernel
theorem dL_door_3 : decode cL_door 3 = .ok (.iload_n 1, 1) := by decide +kernel
theorem dL_door_4 : decode cL_door 4 = .ok (.invokevirtual 29, 3) := by decide +kernel
theorem dL_door_7 : decode cL_door 7 = .ok (.i2l, 1) := by decide +kernel
theorem dL_door_8 : decode cL_door 8 = .ok (.lastore, 1) := by decide +kernel
theorem dL_door_9 : decode cL_door 9 = .ok (.goto 9, 3) := by decide +kernel
theorem dL_door_12 : decode cL_door 12 = .ok (.astore_n 3, 1) := by decide +kernel
theorem dL_door_13 : decode cL_door 13 = .ok (.iconst 1, 1) := by decide +kernel
theorem dL_door_14 : decode cL_door 14 = .ok (.ireturn, 1) := by decide +kernel
theorem dL_door_15 : decode cL_door 15 = .ok (.astore_n 3, 1) := by decide +kernel
theorem dL_door_16 : decode cL_door 16 = .ok (.iconst 2, 1) := by decide +kernel
theorem dL_door_17 : decode cL_door 17 = .ok (.ireturn, 1) := by decide +kernel
theorem dL_door_18 : decode cL_door 18 = .ok (.iconst 0, 1) := by decide +kernel
theorem dL_door_19 : decode cL_door 19 = .ok (.ireturn, 1) := by decide +kernel
theorem dL_buy_0 : decode cL_buy 0 = .ok (.aload_n 2, 1) := by decide +kernel
theorem dL_buy_1 : decode cL_buy 1 = .ok (.iconst 0, 1) := by decide +kernel
theorem dL_buy_2 : decode cL_buy 2 = .ok (.aload_n 0, 1) := by decide +kernel
theorem dL_buy_3 : decode cL_buy 3 = .ok (.iload_n 1, 1) := by decide +kernel
theorem dL_buy_4 : decode cL_buy 4 = .ok (.invokevirtual 32, 3) := by decide +kernel
theorem dL_buy_7 : decode cL_buy 7 = .ok (.i2l, 1) := by decide +kernel
theorem dL_buy_8 : decode cL_buy 8 = .ok (.lastore, 1) := by decide +kernel
theorem dL_buy_9 : decode cL_buy 9 = .ok (.goto 9, 3) := by decide +kernel
theorem dL_buy_12 : decode cL_buy 12 = .ok (.astore_n 3, 1) := by decide +kernel
theorem dL_buy_13 : decode cL_buy 13 = .ok (.iconst 1, 1) := by decide +kernel
theorem dL_buy_14 : decode cL_buy 14 = .ok (.ireturn, 1) := by decide +kernel
theorem dL_buy_15 : decode cL_buy 15 = .ok (.astore_n 3, 1) := by decide +kernel
theorem dL_buy_16 : decode cL_buy 16 = .ok (.iconst 2, 1) := by decide +kernel
theorem dL_buy_17 : decode cL_buy 17 = .ok (.ireturn, 1) := by decide +kernel
theorem dL_buy_18 : decode cL_buy 18 = .ok (.iconst 0, 1) := by decide +kernel
theorem dL_buy_19 : decode cL_buy 19 = .ok (.ireturn, 1) := by decide +kernel
theorem dL_square_0 : decode cL_square 0 = .ok (.aload_n 3, 1) := by decide +kernel
theorem dL_square_1 : decode cL_square 1 = .ok (.iconst 0, 1) := by decide +kernel
theorem dL_square_2 : decode cL_square 2 = .ok (.aload_n 0, 1) := by decide +kernel
theorem dL_square_3 : decode cL_square 3 = .ok (.iload_n 1, 1) := by decide +kernel
theorem dL_square_4 : decode cL_square 4 = .ok (.iload_n 2, 1) := by decide +kernel
theorem dL_square_5 : decode cL_square 5 = .ok (.invokevirtual 35, 3) := by decide +kernel
theorem dL_square_8 : decode cL_square 8 = .ok (.i2l, 1) := by decide +kernel
theorem dL_square_9 : decode cL_square 9 = .ok (.lastore, 1) := by decide +kernel
theorem dL_square_10 : decode cL_square 10 = .ok (.goto 11, 3) := by decide +kernel
theorem dL_square_13 : decode cL_square 13 = .ok (.astore 4, 2) := by decide +kernel
theorem dL_square_15 : decode cL_square 15 = .ok (.iconst 1, 1) := by decide +kernel
theorem dL_square_16 : decode cL_square 16 = .ok (.ireturn, 1) := by decide +kernel
theorem dL_square_17 : decode cL_square 17 = .ok (.astore 4, 2) := by decide +kernel
theorem dL_square_19 : decode cL_square 19 = .ok (.iconst 2, 1) := by decide +kernel
theorem dL_square_20 : decode cL_square 20 = .ok (.ireturn, 1) := by decide +kernel
theorem dL_square_21 : decode cL_square 21 = .ok (.iconst 0, 1) := by decide +kernel
theorem dL_square_22 : decode cL_square 22 = .ok (.ireturn, 1) := by decide +kernel
theorem dL_canMove_0 : decode cL_canMove 0 = .ok (.aload_n 3, 1) := by decide +kernel
theorem dL_canMove_1 : decode cL_canMove 1 = .ok (.iconst 0, 1) := by decide +kernel
theorem dL_canMove_2 : decode cL_canMove 2 = .ok (.aload_n 0, 1) := by decide +kernel
theorem dL_canMove_3 : decode cL_canMove 3 = .ok (.iload_n 1, 1) := by decide +kernel
theorem dL_canMove_4 : decode cL_canMove 4 = .ok (.iload_n 2, 1) := by decide +kernel
theorem dL_canMove_5 : decode cL_canMove 5 = .ok (.invokevirtual 38, 3) := by decide +kernel
theorem dL_canMove_8 : decode cL_canMove 8 = .ok (.ifCond .eq 7, 3) := by decide +kernel
theorem dL_canMove_11 : decode cL_canMove 11 = .ok (.lconst 1, 1) := by decide +kernel
theorem dL_canMove_12 : decode cL_canMove 12 = .ok (.goto 4, 3) := by decide +kernel
theorem dL_canMove_15 : decode cL_canMove 15 = .ok (.lconst 0, 1) := by decide +kernel
theorem dL_canMove_16 : decode cL_canMove 16 = .ok (.lastore, 1) := by decide +kernel
theorem dL_canMove_17 : decode cL_canMove 17 = .ok (.goto 11, 3) := by decide +kernel
theorem dL_canMove_20 : decode cL_canMove 20 = .ok (.astore 4, 2) := by decide +kernel
theorem dL_canMove_22 : decode cL_canMove 22 = .ok (.iconst 1, 1) := by decide +kernel
theorem dL_canMove_23 : decode cL_canMove 23 = .ok (.ireturn, 1) := by decide +kernel
theorem dL_canMove_24 : decode cL_canMove 24 = .ok (.astore 4, 2) := by decide +kernel
theorem dL_canMove_26 : decode cL_canMove 26 = .ok (.iconst 2, 1) := by decide +kernel
theorem dL_canMove_27 : decode cL_canMove 27 = .ok (.ireturn, 1) := by decide +kernel
theorem dL_canMove_28 : decode cL_canMove 28 = .ok (.iconst 0, 1) := by decide +kernel
theorem dL_canMove_29 : decode cL_canMove 29 = .ok (.ireturn, 1) := by decide +kernel
theorem dL_moves_0 : decode cL_moves 0 = .ok (.aload_n 2, 1) := by decide +kernel
theorem dL_moves_1 : decode cL_moves 1 = .ok (.iconst 0, 1) := by decide +kernel
theorem dL_moves_2 : decode cL_moves 2 = .ok (.aload_n 0, 1) := by decide +kernel
theorem dL_moves_3 : decode cL_moves 3 = .ok (.iload_n 1, 1) := by decide +kernel
theorem dL_moves_4 : decode cL_moves 4 = .ok (.invokevirtual 44, 3) := by decide +kernel
theorem dL_moves_7 : decode cL_moves 7 = .ok (.i2l, 1) := by decide +kernel
theorem dL_moves_8 : decode cL_moves 8 = .ok (.lastore, 1) := by decide +kernel
theorem dL_moves_9 : decode cL_moves 9 = .ok (.goto 9, 3) := by decide +kernel
theorem dL_moves_12 : decode cL_moves 12 = .ok (.astore_n 3, 1) := by decide +kernel
theorem dL_moves_13 : decode cL_moves 13 = .ok (.iconst 1, 1) := by decide +kernel
theorem dL_moves_14 : decode cL_moves 14 = .ok (.ireturn, 1) := by decide +kernel
theorem dL_moves_15 : decode cL_moves 15 = .ok (.astore_n 3, 1) := by decide +kernel
theorem dL_moves_16 : decode cL_moves 16 = .ok (.iconst 2, 1) := by decide +kernel
theorem dL_moves_17 : decode cL_moves 17 = .ok (.ireturn, 1) := by decide +kernel
theorem dL_moves_18 : decode cL_moves 18 = .ok (.iconst 0, 1) := by decide +kernel
theorem dL_moves_19 : decode cL_moves 19 = .ok (.ireturn, 1) := by decide +kernel
theorem dL_captures_0 : decode cL_captures 0 = .ok (.aload_n 3, 1) := by decide +kernel
theorem dL_captures_1 : decode cL_captures 1 = .ok (.iconst 0, 1) := by decide +kernel
theorem dL_captures_2 : decode cL_captures 2 = .ok (.aload_n 0, 1) := by decide +kernel
theorem dL_captures_3 : decode cL_captures 3 = .ok (.iload_n 1, 1) := by decide +kernel
theorem dL_captures_4 : decode cL_captures 4 = .ok (.iload_n 2, 1) := by decide +kernel
theorem dL_captures_5 : decode cL_captures 5 = .ok (.invokevirtual 47, 3) := by decide +kernel
theorem dL_captures_8 : decode cL_captures 8 = .ok (.i2l, 1) := by decide +kernel
theorem dL_captures_9 : decode cL_captures 9 = .ok (.lastore, 1) := by decide +kernel
theorem dL_captures_10 : decode cL_captures 10 = .ok (.goto 11, 3) := by decide +kernel
theorem dL_captures_13 : decode cL_captures 13 = .ok (.astore 4, 2) := by decide +kernel
theorem dL_captures_15 : decode cL_captures 15 = .ok (.iconst 1, 1) := by decide +kernel
theorem dL_captures_16 : decode cL_captures 16 = .ok (.ireturn, 1) := by decide +kernel
theorem dL_captures_17 : decode cL_captures 17 = .ok (.astore 4, 2) := by decide +kernel
theorem dL_captures_19 : decode cL_captures 19 = .ok (.iconst 2, 1) := by decide +kernel
theorem dL_captures_20 : decode cL_captures 20 = .ok (.ireturn, 1) := by decide +kernel
theorem dL_captures_21 : decode cL_captures 21 = .ok (.iconst 0, 1) := by decide +kernel
theorem dL_captures_22 : decode cL_captures 22 = .ok (.ireturn, 1) := by decide +kernel
theorem dL_best_0 : decode cL_best 0 = .ok (.aload_n 1, 1) := by decide +kernel
theorem dL_best_1 : decode cL_best 1 = .ok (.iconst 0, 1) := by decide +kernel
theorem dL_best_2 : decode cL_best 2 = .ok (.aload_n 0, 1) := by decide +kernel
theorem dL_best_3 : decode cL_best 3 = .ok (.invokevirtual 50, 3) := by decide +kernel
theorem dL_best_6 : decode cL_best 6 = .ok (.i2l, 1) := by decide +kernel
theorem dL_best_7 : decode cL_best 7 = .ok (.lastore, 1) := by decide +kernel
theorem dL_best_8 : decode cL_best 8 = .ok (.goto 6, 3) := by decide +kernel
theorem dL_best_11 : decode cL_best 11 = .ok (.astore_n 2, 1) := by decide +kernel
theorem dL_best_12 : decode cL_best 12 = .ok (.iconst 1, 1) := by decide +kernel
theorem dL_best_13 : decode cL_best 13 = .ok (.ireturn, 1) := by decide +kernel
theorem dL_best_14 : decode cL_best 14 = .ok (.iconst 0, 1) := by decide +kernel
theorem dL_best_15 : decode cL_best 15 = .ok (.ireturn, 1) := by decide +kernel
theorem dL_worth_0 : decode cL_worth 0 = .ok (.aload_n 3, 1) := by decide +kernel
theorem dL_worth_1 : decode cL_worth 1 = .ok (.iconst 0, 1) := by decide +kernel
theorem dL_worth_2 : decode cL_worth 2 = .ok (.aload_n 0, 1) := by decide +kernel
theorem dL_worth_3 : decode cL_worth 3 = .ok (.iload_n 1, 1) := by decide +kernel
theorem dL_worth_4 : decode cL_worth 4 = .ok (.iload_n 2, 1) := by decide +kernel
theorem dL_worth_5 : decode cL_worth 5 = .ok (.invokevirtual 54, 3) := by decide +kernel
theorem dL_worth_8 : decode cL_worth 8 = .ok (.i2l, 1) := by decide +kernel
theorem dL_worth_9 : decode cL_worth 9 = .ok (.lastore, 1) := by decide +kernel
theorem dL_worth_10 : decode cL_worth 10 = .ok (.goto 11, 3) := by decide +kernel
theorem dL_worth_13 : decode cL_worth 13 = .ok (.astore 4, 2) := by decide +kernel
theorem dL_worth_15 : decode cL_worth 15 = .ok (.iconst 1, 1) := by decide +kernel
theorem dL_worth_16 : decode cL_worth 16 = .ok (.ireturn, 1) := by decide +kernel
theorem dL_worth_17 : decode cL_worth 17 = .ok (.astore 4, 2) := by decide +kernel
theorem dL_worth_19 : decode cL_worth 19 = .ok (.iconst 2, 1) := by decide +kernel
theorem dL_worth_20 : decode cL_worth 20 = .ok (.ireturn, 1) := by decide +kernel
theorem dL_worth_21 : decode cL_worth 21 = .ok (.iconst 0, 1) := by decide +kernel
theorem dL_worth_22 : decode cL_worth 22 = .ok (.ireturn, 1) := by decide +kernel
theorem dL_rooms_0 : decode cL_rooms 0 = .ok (.aload_n 2, 1) := by decide +kernel
theorem dL_rooms_1 : decode cL_rooms 1 = .ok (.iconst 0, 1) := by decide +kernel
theorem dL_rooms_2 : decode cL_rooms 2 = .ok (.aload_n 0, 1) := by decide +kernel
theorem dL_rooms_3 : decode cL_rooms 3 = .ok (.iload_n 1, 1) := by decide +kernel
theorem dL_rooms_4 : decode cL_rooms 4 = .ok (.invokevirtual 57, 3) := by decide +kernel
theorem dL_rooms_7 : decode cL_rooms 7 = .ok (.i2l, 1) := by decide +kernel
theorem dL_rooms_8 : decode cL_rooms 8 = .ok (.lastore, 1) := by decide +kernel
theorem dL_rooms_9 : decode cL_rooms 9 = .ok (.goto 6, 3) := by decide +kernel
theorem dL_rooms_12 : decode cL_rooms 12 = .ok (.astore_n 3, 1) := by decide +kernel
theorem dL_rooms_13 : decode cL_rooms 13 = .ok (.iconst 1, 1) := by decide +kernel
theorem dL_rooms_14 : decode cL_rooms 14 = .ok (.ireturn, 1) := by decide +kernel
theorem dL_rooms_15 : decode cL_rooms 15 = .ok (.iconst 0, 1) := by decide +kernel
theorem dL_rooms_16 : decode cL_rooms 16 = .ok (.ireturn, 1) := by decide +kernel
theorem dL_room_0 : decode cL_room 0 = .ok (.aload_n 3, 1) := by decide +kernel
theorem dL_room_1 : decode cL_room 1 = .ok (.iconst 0, 1) := by decide +kernel
theorem dL_room_2 : decode cL_room 2 = .ok (.aload_n 0, 1) := by decide +kernel
theorem dL_room_3 : decode cL_room 3 = .ok (.iload_n 1, 1) := by decide +kernel
theorem dL_room_4 : decode cL_room 4 = .ok (.iload_n 2, 1) := by decide +kernel
theorem dL_room_5 : decode cL_room 5 = .ok (.invokevirtual 60, 3) := by decide +kernel
theorem dL_room_8 : decode cL_room 8 = .ok (.i2l, 1) := by decide +kernel
theorem dL_room_9 : decode cL_room 9 = .ok (.lastore, 1) := by decide +kernel
theorem dL_room_10 : decode cL_room 10 = .ok (.goto 11, 3) := by decide +kernel
theorem dL_room_13 : decode cL_room 13 = .ok (.astore 4, 2) := by decide +kernel
theorem dL_room_15 : decode cL_room 15 = .ok (.iconst 1, 1) := by decide +kernel
theorem dL_room_16 : decode cL_room 16 = .ok (.ireturn, 1) := by decide +kernel
theorem dL_room_17 : decode cL_room 17 = .ok (.astore 4, 2) := by decide +kernel
theorem dL_room_19 : decode cL_room 19 = .ok (.iconst 2, 1) := by decide +kernel
theorem dL_room_20 : decode cL_room 20 = .ok (.ireturn, 1) := by decide +kernel
theorem dL_room_21 : decode cL_room 21 = .ok (.iconst 0, 1) := by decide +kernel
theorem dL_room_22 : decode cL_room 22 = .ok (.ireturn, 1) := by decide +kernel
theorem dL_roomOf_0 : decode cL_roomOf 0 = .ok (.aload 4, 2) := by decide +kernel
theorem dL_roomOf_2 : decode cL_roomOf 2 = .ok (.iconst 0, 1) := by decide +kernel
theorem dL_roomOf_3 : decode cL_roomOf 3 = .ok (.aload_n 0, 1) := by decide +kernel
theorem dL_roomOf_4 : decode cL_roomOf 4 = .ok (.iload_n 1, 1) := by decide +kernel
theorem dL_roomOf_5 : decode cL_roomOf 5 = .ok (.iload_n 2, 1) := by decide +kernel
theorem dL_roomOf_6 : decode cL_roomOf 6 = .ok (.iload_n 3, 1) := by decide +kernel
theorem dL_roomOf_7 : decode cL_roomOf 7 = .ok (.invokevirtual 63, 3) := by decide +kernel
theorem dL_roomOf_10 : decode cL_roomOf 10 = .ok (.i2l, 1) := by decide +kernel
theorem dL_roomOf_11 : decode cL_roomOf 11 = .ok (.lastore, 1) := by decide +kernel
theorem dL_roomOf_12 : decode cL_roomOf 12 = .ok (.goto 11, 3) := by decide +kernel
theorem dL_roomOf_15 : decode cL_roomOf 15 = .ok (.astore 5, 2) := by decide +kernel
theorem dL_roomOf_17 : decode cL_roomOf 17 = .ok (.iconst 1, 1) := by decide +kernel
theorem dL_roomOf_18 : decode cL_roomOf 18 = .ok (.ireturn, 1) := by decide +kernel
theorem dL_roomOf_19 : decode cL_roomOf 19 = .ok (.astore 5, 2) := by decide +kernel
theorem dL_roomOf_21 : decode cL_roomOf 21 = .ok (.iconst 2, 1) := by decide +kernel
theorem dL_roomOf_22 : decode cL_roomOf 22 = .ok (.ireturn, 1) := by decide +kernel
theorem dL_roomOf_23 : decode cL_roomOf 23 = .ok (.iconst 0, 1) := by decide +kernel
theorem dL_roomOf_24 : decode cL_roomOf 24 = .ok (.ireturn, 1) := by decide +kernel
theorem dL_sealed_0 : decode cL_sealed 0 = .ok (.aload_n 2, 1) := by decide +kernel
theorem dL_sealed_1 : decode cL_sealed 1 = .ok (.iconst 0, 1) := by decide +kernel
theorem dL_sealed_2 : decode cL_sealed 2 = .ok (.aload_n 0, 1) := by decide +kernel
theorem dL_sealed_3 : decode cL_sealed 3 = .ok (.iload_n 1, 1) := by decide +kernel
theorem dL_sealed_4 : decode cL_sealed 4 = .ok (.invokevirtual 66, 3) := by decide +kernel
theorem dL_sealed_7 : decode cL_sealed 7 = .ok (.i2l, 1) := by decide +kernel
theorem dL_sealed_8 : decode cL_sealed 8 = .ok (.lastore, 1) := by decide +kernel
theorem dL_sealed_9 : decode cL_sealed 9 = .ok (.goto 6, 3) := by decide +kernel
theorem dL_sealed_12 : decode cL_sealed 12 = .ok (.astore_n 3, 1) := by decide +kernel
theorem dL_sealed_13 : decode cL_sealed 13 = .ok (.iconst 1, 1) := by decide +kernel
theorem dL_sealed_14 : decode cL_sealed 14 = .ok (.ireturn, 1) := by decide +kernel
theorem dL_sealed_15 : decode cL_sealed 15 = .ok (.iconst 0, 1) := by decide +kernel
theorem dL_sealed_16 : decode cL_sealed 16 = .ok (.ireturn, 1) := by decide +kernel
theorem dL_sealedAgain_0 : decode cL_sealedAgain 0 = .ok (.aload_n 2, 1) := by decide +kernel
theorem dL_sealedAgain_1 : decode cL_sealedAgain 1 = .ok (.iconst 0, 1) := by decide +kernel
theorem dL_sealedAgain_2 : decode cL_sealedAgain 2 = .ok (.aload_n 0, 1) := by decide +kernel
theorem dL_sealedAgain_3 : decode cL_sealedAgain 3 = .ok (.iload_n 1, 1) := by decide +kernel
theorem dL_sealedAgain_4 : decode cL_sealedAgain 4 = .ok (.invokevirtual 69, 3) := by decide +kernel
theorem dL_sealedAgain_7 : decode cL_sealedAgain 7 = .ok (.i2l, 1) := by decide +kernel
theorem dL_sealedAgain_8 : decode cL_sealedAgain 8 = .ok (.lastore, 1) := by decide +kernel
theorem dL_sealedAgain_9 : decode cL_sealedAgain 9 = .ok (.goto 6, 3) := by decide +kernel
theorem dL_sealedAgain_12 : decode cL_sealedAgain 12 = .ok (.astore_n 3, 1) := by decide +kernel
theorem dL_sealedAgain_13 : decode cL_sealedAgain 13 = .ok (.iconst 1, 1) := by decide +kernel
theorem dL_sealedAgain_14 : decode cL_sealedAgain 14 = .ok (.ireturn, 1) := by decide +kernel
theorem dL_sealedAgain_15 : decode cL_sealedAgain 15 = .ok (.iconst 0, 1) := by decide +kernel
theorem dL_sealedAgain_16 : decode cL_sealedAgain 16 = .ok (.ireturn, 1) := by decide +kernel
theorem dL_steps_0 : decode cL_steps 0 = .ok (.aload_n 3, 1) := by decide +kernel
theorem dL_steps_1 : decode cL_steps 1 = .ok (.iconst 0, 1) := by decide +kernel
theorem dL_steps_2 : decode cL_steps 2 = .ok (.aload_n 0, 1) := by decide +kernel
theorem dL_steps_3 : decode cL_steps 3 = .ok (.iload_n 1, 1) := by decide +kernel
theorem dL_steps_4 : decode cL_steps 4 = .ok (.iload_n 2, 1) := by decide +kernel
theorem dL_steps_5 : decode cL_steps 5 = .ok (.invokevirtual 72, 3) := by decide +kernel
theorem dL_steps_8 : decode cL_steps 8 = .ok (.i2l, 1) := by decide +kernel
theorem dL_steps_9 : decode cL_steps 9 = .ok (.lastore, 1) := by decide +kernel
theorem dL_steps_10 : decode cL_steps 10 = .ok (.goto 11, 3) := by decide +kernel
theorem dL_steps_13 : decode cL_steps 13 = .ok (.astore 4, 2) := by decide +kernel
theorem dL_steps_15 : decode cL_steps 15 = .ok (.iconst 1, 1) := by decide +kernel
theorem dL_steps_16 : decode cL_steps 16 = .ok (.ireturn, 1) := by decide +kernel
theorem dL_steps_17 : decode cL_steps 17 = .ok (.astore 4, 2) := by decide +kernel
theorem dL_steps_19 : decode cL_steps 19 = .ok (.iconst 2, 1) := by decide +kernel
theorem dL_steps_20 : decode cL_steps 20 = .ok (.ireturn, 1) := by decide +kernel
theorem dL_steps_21 : decode cL_steps 21 = .ok (.iconst 0, 1) := by decide +kernel
theorem dL_steps_22 : decode cL_steps 22 = .ok (.ireturn, 1) := by decide +kernel
theorem dL_sealedShare_0 : decode cL_sealedShare 0 = .ok (.aload_n 2, 1) := by decide +kernel
theorem dL_sealedShare_1 : decode cL_sealedShare 1 = .ok (.iconst 0, 1) := by decide +kernel
theorem dL_sealedShare_2 : decode cL_sealedShare 2 = .ok (.aload_n 0, 1) := by decide +kernel
theorem dL_sealedShare_3 : decode cL_sealedShare 3 = .ok (.iload_n 1, 1) := by decide +kernel
theorem dL_sealedShare_4 : decode cL_sealedShare 4 = .ok (.invokevirtual 75, 3) := by decide +kernel
theorem dL_sealedShare_7 : decode cL_sealedShare 7 = .ok (.dastore, 1) := by decide +kernel
theorem dL_sealedShare_8 : decode cL_sealedShare 8 = .ok (.goto 9, 3) := by decide +kernel
theorem dL_sealedShare_11 : decode cL_sealedShare 11 = .ok (.astore_n 3, 1) := by decide +kernel
theorem dL_sealedShare_12 : decode cL_sealedShare 12 = .ok (.iconst 1, 1) := by decide +kernel
theorem dL_sealedShare_13 : decode cL_sealedShare 13 = .ok (.ireturn, 1) := by decide +kernel
theorem dL_sealedShare_14 : decode cL_sealedShare 14 = .ok (.astore_n 3, 1) := by decide +kernel
theorem dL_sealedShare_15 : decode cL_sealedShare 15 = .ok (.iconst 2, 1) := by decide +kernel
theorem dL_sealedShare_16 : decode cL_sealedShare 16 = .ok (.ireturn, 1) := by decide +kernel
theorem dL_sealedShare_17 : decode cL_sealedShare 17 = .ok (.iconst 0, 1) := by decide +kernel
theorem dL_sealedShare_18 : decode cL_sealedShare 18 = .ok (.ireturn, 1) := by decide +kernel
theorem dL_append_0 : decode cL_append 0 = .ok (.aload_n 2, 1) := by decide +kernel
theorem dL_append_1 : decode cL_append 1 = .ok (.iconst 0, 1) := by decide +kernel
theorem dL_append_2 : decode cL_append 2 = .ok (.aload_n 0, 1) := by decide +kernel
theorem dL_append_3 : decode cL_append 3 = .ok (.iload_n 1, 1) := by decide +kernel
theorem dL_append_4 : decode cL_append 4 = .ok (.invokevirtual 81, 3) := by decide +kernel
theorem dL_append_7 : decode cL_append 7 = .ok (.i2l, 1) := by decide +kernel
theorem dL_append_8 : decode cL_append 8 = .ok (.lastore, 1) := by decide +kernel
theorem dL_append_9 : decode cL_append 9 = .ok (.goto 9, 3) := by decide +kernel
theorem dL_append_12 : decode cL_append 12 = .ok (.astore_n 3, 1) := by decide +kernel
theorem dL_append_13 : decode cL_append 13 = .ok (.iconst 1, 1) := by decide +kernel
theorem dL_append_14 : decode cL_append 14 = .ok (.ireturn, 1) := by decide +kernel
theorem dL_append_15 : decode cL_append 15 = .ok (.astore_n 3, 1) := by decide +kernel
theorem dL_append_16 : decode cL_append 16 = .ok (.iconst 2, 1) := by decide +kernel
theorem dL_append_17 : decode cL_append 17 = .ok (.ireturn, 1) := by decide +kernel
theorem dL_append_18 : decode cL_append 18 = .ok (.iconst 0, 1) := by decide +kernel
theorem dL_append_19 : decode cL_append 19 = .ok (.ireturn, 1) := by decide +kernel
theorem dL_read_0 : decode cL_read 0 = .ok (.aload_n 1, 1) := by decide +kernel
theorem dL_read_1 : decode cL_read 1 = .ok (.iconst 0, 1) := by decide +kernel
theorem dL_read_2 : decode cL_read 2 = .ok (.aload_n 0, 1) := by decide +kernel
theorem dL_read_3 : decode cL_read 3 = .ok (.invokevirtual 85, 3) := by decide +kernel
theorem dL_read_6 : decode cL_read 6 = .ok (.i2l, 1) := by decide +kernel
theorem dL_read_7 : decode cL_read 7 = .ok (.lastore, 1) := by decide +kernel
theorem dL_read_8 : decode cL_read 8 = .ok (.goto 9, 3) := by decide +kernel
theorem dL_read_11 : decode cL_read 11 = .ok (.astore_n 2, 1) := by decide +kernel
theorem dL_read_12 : decode cL_read 12 = .ok (.iconst 1, 1) := by decide +kernel
theorem dL_read_13 : decode cL_read 13 = .ok (.ireturn, 1) := by decide +kernel
theorem dL_read_14 : decode cL_read 14 = .ok (.astore_n 2, 1) := by decide +kernel
theorem dL_read_15 : decode cL_read 15 = .ok (.iconst 2, 1) := by decide +kernel
theorem dL_read_16 : decode cL_read 16 = .ok (.ireturn, 1) := by decide +kernel
theorem dL_read_17 : decode cL_read 17 = .ok (.iconst 0, 1) := by decide +kernel
theorem dL_read_18 : decode cL_read 18 = .ok (.ireturn, 1) := by decide +kernel
theorem dL_errorPosition_0 : decode cL_errorPosition 0 = .ok (.aload_n 1, 1) := by decide +kernel
theorem dL_errorPosition_1 : decode cL_errorPosition 1 = .ok (.iconst 0, 1) := by decide +kernel
theorem dL_errorPosition_2 : decode cL_errorPosition 2 = .ok (.aload_n 0, 1) := by decide +kernel
theorem dL_errorPosition_3 : decode cL_errorPosition 3 = .ok (.invokevirtual 88, 3) := by decide +kernel
theorem dL_errorPosition_6 : decode cL_errorPosition 6 = .ok (.i2l, 1) := by decide +kernel
theorem dL_errorPosition_7 : decode cL_errorPosition 7 = .ok (.lastore, 1) := by decide +kernel
theorem dL_errorPosition_8 : decode cL_errorPosition 8 = .ok (.goto 6, 3) := by decide +kernel
theorem dL_errorPosition_11 : decode cL_errorPosition 11 = .ok (.astore_n 2, 1) := by decide +kernel
theorem dL_errorPosition_12 : decode cL_errorPosition 12 = .ok (.iconst 1, 1) := by decide +kernel
theorem dL_errorPosition_13 : decode cL_errorPosition 13 = .ok (.ireturn, 1) := by decide +kernel
theorem dL_errorPosition_14 : decode cL_errorPosition 14 = .ok (.iconst 0, 1) := by decide +kernel
theorem dL_errorPosition_15 : decode cL_errorPosition 15 = .ok (.ireturn, 1) := by decide +kernel
theorem dL_reason_0 : decode cL_reason 0 = .ok (.aload_n 2, 1) := by decide +kernel
theorem dL_reason_1 : decode cL_reason 1 = .ok (.iconst 0, 1) := by decide +kernel
theorem dL_reason_2 : decode cL_reason 2 = .ok (.aload_n 0, 1) := by decide +kernel
theorem dL_reason_3 : decode cL_reason 3 = .ok (.iload_n 1, 1) := by decide +kernel
theorem dL_reason_4 : decode cL_reason 4 = .ok (.invokevirtual 91, 3) := by decide +kernel
theorem dL_reason_7 : decode cL_reason 7 = .ok (.i2l, 1) := by decide +kernel
theorem dL_reason_8 : decode cL_reason 8 = .ok (.lastore, 1) := by decide +kernel
theorem dL_reason_9 : decode cL_reason 9 = .ok (.goto 6, 3) := by decide +kernel
theorem dL_reason_12 : decode cL_reason 12 = .ok (.astore_n 3, 1) := by decide +kernel
theorem dL_reason_13 : decode cL_reason 13 = .ok (.iconst 1, 1) := by decide +kernel
theorem dL_reason_14 : decode cL_reason 14 = .ok (.ireturn, 1) := by decide +kernel
theorem dL_reason_15 : decode cL_reason 15 = .ok (.iconst 0, 1) := by decide +kernel
theorem dL_reason_16 : decode cL_reason 16 = .ok (.ireturn, 1) := by decide +kernel
theorem dL_picture_0 : decode cL_picture 0 = .ok (.aload_n 2, 1) := by decide +kernel
theorem dL_picture_1 : decode cL_picture 1 = .ok (.iconst 0, 1) := by decide +kernel
theorem dL_picture_2 : decode cL_picture 2 = .ok (.aload_n 0, 1) := by decide +kernel
theorem dL_picture_3 : decode cL_picture 3 = .ok (.iload_n 1, 1) := by decide +kernel
theorem dL_picture_4 : decode cL_picture 4 = .ok (.invokevirtual 95, 3) := by decide +kernel
theorem dL_picture_7 : decode cL_picture 7 = .ok (.i2l, 1) := by decide +kernel
theorem dL_picture_8 : decode cL_picture 8 = .ok (.lastore, 1) := by decide +kernel
theorem dL_picture_9 : decode cL_picture 9 = .ok (.goto 6, 3) := by decide +kernel
theorem dL_picture_12 : decode cL_picture 12 = .ok (.astore_n 3, 1) := by decide +kernel
theorem dL_picture_13 : decode cL_picture 13 = .ok (.iconst 1, 1) := by decide +kernel
theorem dL_picture_14 : decode cL_picture 14 = .ok (.ireturn, 1) := by decide +kernel
theorem dL_picture_15 : decode cL_picture 15 = .ok (.iconst 0, 1) := by decide +kernel
theorem dL_picture_16 : decode cL_picture 16 = .ok (.ireturn, 1) := by decide +kernel
theorem dL_account_0 : decode cL_account 0 = .ok (.aload_n 2, 1) := by decide +kernel
theorem dL_account_1 : decode cL_account 1 = .ok (.iconst 0, 1) := by decide +kernel
theorem dL_account_2 : decode cL_account 2 = .ok (.aload_n 0, 1) := by decide +kernel
theorem dL_account_3 : decode cL_account 3 = .ok (.iload_n 1, 1) := by decide +kernel
theorem dL_account_4 : decode cL_account 4 = .ok (.invokevirtual 99, 3) := by decide +kernel
theorem dL_account_7 : decode cL_account 7 = .ok (.i2l, 1) := by decide +kernel
theorem dL_account_8 : decode cL_account 8 = .ok (.lastore, 1) := by decide +kernel
theorem dL_account_9 : decode cL_account 9 = .ok (.goto 6, 3) := by decide +kernel
theorem dL_account_12 : decode cL_account 12 = .ok (.astore_n 3, 1) := by decide +kernel
theorem dL_account_13 : decode cL_account 13 = .ok (.iconst 1, 1) := by decide +kernel
theorem dL_account_14 : decode cL_account 14 = .ok (.ireturn, 1) := by decide +kernel
theorem dL_account_15 : decode cL_account 15 = .ok (.iconst 0, 1) := by decide +kernel
theorem dL_account_16 : decode cL_account 16 = .ok (.ireturn, 1) := by decide +kernel
theorem dL_undo_0 : decode cL_undo 0 = .ok (.aload_n 1, 1) := by decide +kernel
theorem dL_undo_1 : decode cL_undo 1 = .ok (.iconst 0, 1) := by decide +kernel
theorem dL_undo_2 : decode cL_undo 2 = .ok (.aload_n 0, 1) := by decide +kernel
theorem dL_undo_3 : decode cL_undo 3 = .ok (.invokevirtual 102, 3) := by decide +kernel
theorem dL_undo_6 : decode cL_undo 6 = .ok (.i2l, 1) := by decide +kernel
theorem dL_undo_7 : decode cL_undo 7 = .ok (.lastore, 1) := by decide +kernel
theorem dL_undo_8 : decode cL_undo 8 = .ok (.goto 6, 3) := by decide +kernel
theorem dL_undo_11 : decode cL_undo 11 = .ok (.astore_n 2, 1) := by decide +kernel
theorem dL_undo_12 : decode cL_undo 12 = .ok (.iconst 1, 1) := by decide +kernel
theorem dL_undo_13 : decode cL_undo 13 = .ok (.ireturn, 1) := by decide +kernel
theorem dL_undo_14 : decode cL_undo 14 = .ok (.iconst 0, 1) := by decide +kernel
theorem dL_undo_15 : decode cL_undo 15 = .ok (.ireturn, 1) := by decide +kernel
theorem dL_restore_0 : decode cL_restore 0 = .ok (.aload_n 1, 1) := by decide +kernel
theorem dL_restore_1 : decode cL_restore 1 = .ok (.iconst 0, 1) := by decide +kernel
theorem dL_restore_2 : decode cL_restore 2 = .ok (.aload_n 0, 1) := by decide +kernel
theorem dL_restore_3 : decode cL_restore 3 = .ok (.invokevirtual 105, 3) := by decide +kernel
theorem dL_restore_6 : decode cL_restore 6 = .ok (.i2l, 1) := by decide +kernel
theorem dL_restore_7 : decode cL_restore 7 = .ok (.lastore, 1) := by decide +kernel
theorem dL_restore_8 : decode cL_restore 8 = .ok (.goto 6, 3) := by decide +kernel
theorem dL_restore_11 : decode cL_restore 11 = .ok (.astore_n 2, 1) := by decide +kernel
theorem dL_restore_12 : decode cL_restore 12 = .ok (.iconst 1, 1) := by decide +kernel
theorem dL_restore_13 : decode cL_restore 13 = .ok (.ireturn, 1) := by decide +kernel
theorem dL_restore_14 : decode cL_restore 14 = .ok (.iconst 0, 1) := by decide +kernel
theorem dL_restore_15 : decode cL_restore 15 = .ok (.ireturn, 1) := by decide +kernel

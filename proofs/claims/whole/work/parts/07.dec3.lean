theorem dX5_worthOf_57 : decode cX5_worthOf 57 = .ok (.ireturn, 1) := by decide +kernel
set_option maxRecDepth 20000 in
theorem ggX5_best_X5_isOver : GoodIn wsX5_best wsX5_isOver := goodIn_ca (goodIn_r _ [6, 1, 97, 98, 99, 100, 101, 102, 103, 104, 105, 106, 107, 108, 109, 110, 111, 112, 113, 114, 115, 116, 117, 118, 119] (by decide +kernel) (by decide +kernel)) (goodIn_sub (fun _ h => List.mem_cons_of_mem _ (List.mem_append_right _ h)) (by decide +kernel))
set_option maxRecDepth 20000 in
theorem gX5_best_X5_isOver : GoodIn wsX5_best (wsV RX5 152 RX5 yX5_isOver wsX5_isOver) := goodIn_app (goodIn_of _ (by decide +kernel)) ggX5_best_X5_isOver
set_option maxRecDepth 20000 in
theorem ggX5_best_X5_sideOf : GoodIn wsX5_best wsX5_sideOf := goodIn_r _ [9, 10, 11, 5, 12] (by decide +kernel) (by decide +kernel)
set_option maxRecDepth 20000 in
theorem gX5_best_X5_sideOf : GoodIn wsX5_best (va_wsS RX5 79 yX5_sideOf wsX5_sideOf) := goodIn_app (goodIn_of _ (by decide +kernel)) ggX5_best_X5_sideOf
set_option maxRecDepth 20000 in
theorem ggX5_best_X5_turn : GoodIn wsX5_best wsX5_turn := goodIn_ca (goodIn_r _ [16, 1, 97, 98, 99, 100, 101, 102, 103, 104, 105, 106, 107, 108, 109, 110, 111, 112, 113, 114, 115, 116, 117, 118, 119] (by decide +kernel) (by decide +kernel)) (goodIn_sub (fun _ h => List.mem_cons_of_mem _ (List.mem_append_right _ h)) (by decide +kernel))
set_option maxRecDepth 20000 in
theorem gX5_best_X5_turn : GoodIn wsX5_best (wsV RX5 160 RX5 yX5_turn wsX5_turn) := goodIn_app (goodIn_of _ (by decide +kernel)) ggX5_best_X5_turn
set_option maxRecDepth 20000 in
theorem ggX5_best_X5_can : GoodIn wsX5_best wsX5_can := goodIn_ca (goodIn_r _ [20, 21, 22, 23, 24, 5, 25, 1, 7, 8, 9, 10, 11, 12, 26, 27, 28, 29, 30, 31, 32, 33, 34, 35, 36, 37, 38, 39, 40, 41, 42, 43, 44, 45, 46, 47, 48, 49, 50, 51, 52, 53, 54, 55, 56, 57, 97, 98, 99, 100, 101, 102, 103, 104, 105, 106, 107, 108, 109, 110, 111, 112, 113, 114, 115, 116, 117, 118, 119] (by decide +kernel) (by decide +kernel)) (goodIn_sub (fun _ h => List.mem_cons_of_mem _ (List.mem_append_right _ h)) (by decide +kernel))
set_option maxRecDepth 20000 in
theorem gX5_best_X5_can : GoodIn wsX5_best (wsV RX5 163 RX5 yX5_can wsX5_can) := goodIn_app (goodIn_of _ (by decide +kernel)) ggX5_best_X5_can
set_option maxRecDepth 20000 in
theorem ggX5_best_X5_worthOf : GoodIn wsX5_best wsX5_worthOf := goodIn_ca (goodIn_r _ [61, 1, 62, 7, 8, 5, 9, 10, 11, 12, 63, 64, 65, 66, 67, 68, 69, 33, 34, 35, 70, 71, 72, 73, 74, 75, 76, 77, 78, 79, 40, 41, 42, 43, 44, 45, 46, 47, 80, 81, 82, 83, 56, 84, 85, 86, 87, 88, 89, 90, 91, 97, 98, 99, 100, 101, 102, 103, 104, 105, 106, 107, 108, 109, 110, 111, 112, 113, 114, 115, 116, 117, 118, 119] (by decide +kernel) (by decide +kernel)) (goodIn_sub (fun _ h => List.mem_cons_of_mem _ (List.mem_append_right _ h)) (by decide +kernel))
set_option maxRecDepth 20000 in
theorem gX5_best_X5_worthOf : GoodIn wsX5_best (wsV RX5 204 RX5 yX5_worthOf wsX5_worthOf) := goodIn_app (goodIn_of _ (by decide +kernel)) ggX5_best_X5_worthOf
set_option maxRecDepth 20000 in
theorem ggX5_best_X5_fails : GoodIn wsX5_best wsX5_fails := goodIn_r _ [95, 96, 97, 98, 99, 100, 101, 102, 103, 104, 105, 106, 107, 108, 109, 110, 111, 112, 113, 114, 115, 116, 117, 118, 119] (by decide +kernel) (by decide +kernel)
set_option maxRecDepth 20000 in
theorem gX5_best_X5_fails : GoodIn wsX5_best (wsV RX5 107 RX5 yX5_fails wsX5_fails) := goodIn_app (goodIn_of _ (by decide +kernel)) ggX5_best_X5_fails
theorem dX5_best_0 : decode cX5_best 0 = .ok (.iconst (-1), 1) := by decide +kernel
theorem dX5_best_1 : decode cX5_best 1 = .ok (.istore_n 1, 1) := by decide +kernel
theorem dX5_best_2 : decode cX5_best 2 = .ok (.iconst (-1), 1) := by decide +kernel
theorem dX5_best_3 : decode cX5_best 3 = .ok (.istore_n 2, 1) := by decide +kernel
theorem dX5_best_4 : decode cX5_best 4 = .ok (.iconst 0, 1) := by decide +kernel
theorem dX5_best_5 : decode cX5_best 5 = .ok (.istore_n 3, 1) := by decide +kernel
theorem dX5_best_6 : decode cX5_best 6 = .ok (.iload_n 3, 1) := by decide +kernel
theorem dX5_best_7 : decode cX5_best 7 = .ok (.sipush 1296, 3) := by decide +kernel
theorem dX5_best_10 : decode cX5_best 10 = .ok (.if_icmp .ge 79, 3) := by decide +kernel
theorem dX5_best_13 : decode cX5_best 13 = .ok (.aload_n 0, 1) := by decide +kernel
theorem dX5_best_14 : decode cX5_best 14 = .ok (.invokevirtual 152, 3) := by decide +kernel
theorem dX5_best_17 : decode cX5_best 17 = .ok (.ifCond .ne 72, 3) := by decide +kernel
theorem dX5_best_20 : decode cX5_best 20 = .ok (.iload_n 3, 1) := by decide +kernel
theorem dX5_best_21 : decode cX5_best 21 = .ok (.bipush 36, 2) := by decide +kernel
theorem dX5_best_23 : decode cX5_best 23 = .ok (.idiv, 1) := by decide +kernel
theorem dX5_best_24 : decode cX5_best 24 = .ok (.istore 4, 2) := by decide +kernel
theorem dX5_best_26 : decode cX5_best 26 = .ok (.iload_n 3, 1) := by decide +kernel
theorem dX5_best_27 : decode cX5_best 27 = .ok (.bipush 36, 2) := by decide +kernel
theorem dX5_best_29 : decode cX5_best 29 = .ok (.irem, 1) := by decide +kernel
theorem dX5_best_30 : decode cX5_best 30 = .ok (.istore 5, 2) := by decide +kernel
theorem dX5_best_32 : decode cX5_best 32 = .ok (.aload_n 0, 1) := by decide +kernel
theorem dX5_best_33 : decode cX5_best 33 = .ok (.getfield 9, 3) := by decide +kernel
theorem dX5_best_36 : decode cX5_best 36 = .ok (.iload 4, 2) := by decide +kernel
theorem dX5_best_38 : decode cX5_best 38 = .ok (.iaload, 1) := by decide +kernel
theorem dX5_best_39 : decode cX5_best 39 = .ok (.invokestatic 79, 3) := by decide +kernel
theorem dX5_best_42 : decode cX5_best 42 = .ok (.aload_n 0, 1) := by decide +kernel
theorem dX5_best_43 : decode cX5_best 43 = .ok (.invokevirtual 160, 3) := by decide +kernel
theorem dX5_best_46 : decode cX5_best 46 = .ok (.if_icmp .ne 37, 3) := by decide +kernel
theorem dX5_best_49 : decode cX5_best 49 = .ok (.aload_n 0, 1) := by decide +kernel
theorem dX5_best_50 : decode cX5_best 50 = .ok (.iload 4, 2) := by decide +kernel
theorem dX5_best_52 : decode cX5_best 52 = .ok (.iload 5, 2) := by decide +kernel
theorem dX5_best_54 : decode cX5_best 54 = .ok (.invokevirtual 163, 3) := by decide +kernel
theorem dX5_best_57 : decode cX5_best 57 = .ok (.ifCond .eq 26, 3) := by decide +kernel
theorem dX5_best_60 : decode cX5_best 60 = .ok (.aload_n 0, 1) := by decide +kernel
theorem dX5_best_61 : decode cX5_best 61 = .ok (.iload 4, 2) := by decide +kernel
theorem dX5_best_63 : decode cX5_best 63 = .ok (.iload 5, 2) := by decide +kernel
theorem dX5_best_65 : decode cX5_best 65 = .ok (.invokevirtual 204, 3) := by decide +kernel
theorem dX5_best_68 : decode cX5_best 68 = .ok (.iload_n 2, 1) := by decide +kernel
theorem dX5_best_69 : decode cX5_best 69 = .ok (.if_icmp .le 14, 3) := by decide +kernel
theorem dX5_best_72 : decode cX5_best 72 = .ok (.iload_n 3, 1) := by decide +kernel
theorem dX5_best_73 : decode cX5_best 73 = .ok (.istore_n 1, 1) := by decide +kernel
theorem dX5_best_74 : decode cX5_best 74 = .ok (.aload_n 0, 1) := by decide +kernel
theorem dX5_best_75 : decode cX5_best 75 = .ok (.iload 4, 2) := by decide +kernel
theorem dX5_best_77 : decode cX5_best 77 = .ok (.iload 5, 2) := by decide +kernel
theorem dX5_best_79 : decode cX5_best 79 = .ok (.invokevirtual 204, 3) := by decide +kernel
theorem dX5_best_82 : decode cX5_best 82 = .ok (.istore_n 2, 1) := by decide +kernel
theorem dX5_best_83 : decode cX5_best 83 = .ok (.iinc 3 1, 3) := by decide +kernel
theorem dX5_best_86 : decode cX5_best 86 = .ok (.goto (-80), 3) := by decide +kernel
theorem dX5_best_89 : decode cX5_best 89 = .ok (.aload_n 0, 1) := by decide +kernel
theorem dX5_best_90 : decode cX5_best 90 = .ok (.iconst 1, 1) := by decide +kernel
theorem dX5_best_91 : decode cX5_best 91 = .ok (.iload_n 1, 1) := by decide +kernel
theorem dX5_best_92 : decode cX5_best 92 = .ok (.ifCond .ge 7, 3) := by decide +kernel
theorem dX5_best_95 : decode cX5_best 95 = .ok (.iconst 1, 1) := by decide +kernel
theorem dX5_best_96 : decode cX5_best 96 = .ok (.goto 4, 3) := by decide +kernel
theorem dX5_best_99 : decode cX5_best 99 = .ok (.iconst 0, 1) := by decide +kernel
theorem dX5_best_100 : decode cX5_best 100 = .ok (.invokevirtual 107, 3) := by decide +kernel
theorem dX5_best_103 : decode cX5_best 103 = .ok (.ifCond .eq 7, 3) := by decide +kernel
theorem dX5_best_106 : decode cX5_best 106 = .ok (.iconst 0, 1) := by decide +kernel
theorem dX5_best_107 : decode cX5_best 107 = .ok (.goto 4, 3) := by decide +kernel
theorem dX5_best_110 : decode cX5_best 110 = .ok (.iload_n 1, 1) := by decide +kernel
theorem dX5_best_111 : decode cX5_best 111 = .ok (.ireturn, 1) := by decide +kernel
set_option maxRecDepth 20000 in
theorem ggX5_worth_X5_isSquare : GoodIn wsX5_worth wsX5_isSquare := goodIn_r _ [5, 6, 7, 4, 8] (by decide +kernel) (by decide +kernel)
set_option maxRecDepth 20000 in
theorem gX5_worth_X5_isSquare : GoodIn wsX5_worth (va_wsS RX5 104 yX5_isSquare wsX5_isSquare) := goodIn_app (goodIn_of _ (by decide +kernel)) ggX5_worth_X5_isSquare
set_option maxRecDepth 20000 in
theorem ggX5_worth_X5_fails : GoodIn wsX5_worth wsX5_fails := goodIn_r _ [12, 13, 96, 97, 98, 99, 100, 101, 102, 103, 104, 105, 106, 107, 108, 109, 110, 111, 112, 113, 114, 115, 116, 117, 118] (by decide +kernel) (by decide +kernel)
set_option maxRecDepth 20000 in
theorem gX5_worth_X5_fails : GoodIn wsX5_worth (wsV RX5 107 RX5 yX5_fails wsX5_fails) := goodIn_app (goodIn_of _ (by decide +kernel)) ggX5_worth_X5_fails
set_option maxRecDepth 20000 in
theorem ggX5_worth_X5_sideOf : GoodIn wsX5_worth wsX5_sideOf := goodIn_r _ [16, 6, 7, 4, 8] (by decide +kernel) (by decide +kernel)
set_option maxRecDepth 20000 in
theorem gX5_worth_X5_sideOf : GoodIn wsX5_worth (va_wsS RX5 79 yX5_sideOf wsX5_sideOf) := goodIn_app (goodIn_of _ (by decide +kernel)) ggX5_worth_X5_sideOf
set_option maxRecDepth 20000 in
theorem ggX5_worth_X5_turn : GoodIn wsX5_worth wsX5_turn := goodIn_ca (goodIn_r _ [20, 1, 96, 97, 98, 99, 100, 101, 102, 103, 104, 105, 106, 107, 108, 109, 110, 111, 112, 113, 114, 115, 116, 117, 118] (by decide +kernel) (by decide +kernel)) (goodIn_sub (fun _ h => List.mem_cons_of_mem _ (List.mem_append_right _ h)) (by decide +kernel))
set_option maxRecDepth 20000 in
theorem gX5_worth_X5_turn : GoodIn wsX5_worth (wsV RX5 160 RX5 yX5_turn wsX5_turn) := goodIn_app (goodIn_of _ (by decide +kernel)) ggX5_worth_X5_turn
set_option maxRecDepth 20000 in
theorem ggX5_worth_X5_can : GoodIn wsX5_worth wsX5_can := goodIn_ca (goodIn_r _ [24, 25, 26, 27, 28, 4, 29, 1, 14, 15, 16, 6, 7, 8, 30, 31, 32, 33, 34, 35, 36, 37, 38, 39, 40, 41, 42, 43, 44, 45, 46, 47, 48, 49, 50, 51, 52, 53, 54, 55, 56, 57, 58, 59, 60, 61, 96, 97, 98, 99, 100, 101, 102, 103, 104, 105, 106, 107, 108, 109, 110, 111, 112, 113, 114, 115, 116, 117, 118] (by decide +kernel) (by decide +kernel)) (goodIn_sub (fun _ h => List.mem_cons_of_mem _ (List.mem_append_right _ h)) (by decide +kernel))
set_option maxRecDepth 20000 in
theorem gX5_worth_X5_can : GoodIn wsX5_worth (wsV RX5 163 RX5 yX5_can wsX5_can) := goodIn_app (goodIn_of _ (by decide +kernel)) ggX5_worth_X5_can
set_option maxRecDepth 20000 in
theorem ggX5_worth_X5_worthOf : GoodIn wsX5_worth wsX5_worthOf := goodIn_ca (goodIn_r _ [65, 1, 66, 14, 15, 4, 16, 6, 7, 8, 67, 68, 69, 70, 71, 72, 73, 37, 38, 39, 74, 75, 76, 77, 78, 79, 80, 81, 82, 83, 44, 45, 46, 47, 48, 49, 50, 51, 84, 85, 86, 87, 60, 88, 89, 90, 91, 92, 93, 94, 95, 96, 97, 98, 99, 100, 101, 102, 103, 104, 105, 106, 107, 108, 109, 110, 111, 112, 113, 114, 115, 116, 117, 118] (by decide +kernel) (by decide +kernel)) (goodIn_sub (fun _ h => List.mem_cons_of_mem _ (List.mem_append_right _ h)) (by decide +kernel))
set_option maxRecDepth 20000 in
theorem gX5_worth_X5_worthOf : GoodIn wsX5_worth (wsV RX5 204 RX5 yX5_worthOf wsX5_worthOf) := goodIn_app (goodIn_of _ (by decide +kernel)) ggX5_worth_X5_worthOf
theorem dX5_worth_0 : decode cX5_worth 0 = .ok (.aload_n 0, 1) := by decide +kernel
theorem dX5_worth_1 : decode cX5_worth 1 = .ok (.iconst 1, 1) := by decide +kernel
theorem dX5_worth_2 : decode cX5_worth 2 = .ok (.iload_n 1, 1) := by decide +kernel
theorem dX5_worth_3 : decode cX5_worth 3 = .ok (.invokestatic 104, 3) := by decide +kernel
theorem dX5_worth_6 : decode cX5_worth 6 = .ok (.ifCond .eq 10, 3) := by decide +kernel
theorem dX5_worth_9 : decode cX5_worth 9 = .ok (.iload_n 2, 1) := by decide +kernel
theorem dX5_worth_10 : decode cX5_worth 10 = .ok (.invokestatic 104, 3) := by decide +kernel
theorem dX5_worth_13 : decode cX5_worth 13 = .ok (.ifCond .ne 7, 3) := by decide +kernel
theorem dX5_worth_16 : decode cX5_worth 16 = .ok (.iconst 1, 1) := by decide +kernel
theorem dX5_worth_17 : decode cX5_worth 17 = .ok (.goto 4, 3) := by decide +kernel
theorem dX5_worth_20 : decode cX5_worth 20 = .ok (.iconst 0, 1) := by decide +kernel
theorem dX5_worth_21 : decode cX5_worth 21 = .ok (.invokevirtual 107, 3) := by decide +kernel
theorem dX5_worth_24 : decode cX5_worth 24 = .ok (.ifCond .ne 41, 3) := by decide +kernel
theorem dX5_worth_27 : decode cX5_worth 27 = .ok (.aload_n 0, 1) := by decide +kernel
theorem dX5_worth_28 : decode cX5_worth 28 = .ok (.iconst 2, 1) := by decide +kernel
theorem dX5_worth_29 : decode cX5_worth 29 = .ok (.aload_n 0, 1) := by decide +kernel
theorem dX5_worth_30 : decode cX5_worth 30 = .ok (.getfield 9, 3) := by decide +kernel
theorem dX5_worth_33 : decode cX5_worth 33 = .ok (.iload_n 1, 1) := by decide +kernel
theorem dX5_worth_34 : decode cX5_worth 34 = .ok (.iaload, 1) := by decide +kernel
theorem dX5_worth_35 : decode cX5_worth 35 = .ok (.invokestatic 79, 3) := by decide +kernel
theorem dX5_worth_38 : decode cX5_worth 38 = .ok (.aload_n 0, 1) := by decide +kernel
theorem dX5_worth_39 : decode cX5_worth 39 = .ok (.invokevirtual 160, 3) := by decide +kernel
theorem dX5_worth_42 : decode cX5_worth 42 = .ok (.if_icmp .ne 12, 3) := by decide +kernel
theorem dX5_worth_45 : decode cX5_worth 45 = .ok (.aload_n 0, 1) := by decide +kernel
theorem dX5_worth_46 : decode cX5_worth 46 = .ok (.iload_n 1, 1) := by decide +kernel
theorem dX5_worth_47 : decode cX5_worth 47 = .ok (.iload_n 2, 1) := by decide +kernel
theorem dX5_worth_48 : decode cX5_worth 48 = .ok (.invokevirtual 163, 3) := by decide +kernel
theorem dX5_worth_51 : decode cX5_worth 51 = .ok (.ifCond .ne 7, 3) := by decide +kernel
theorem dX5_worth_54 : decode cX5_worth 54 = .ok (.iconst 1, 1) := by decide +kernel
theorem dX5_worth_55 : decode cX5_worth 55 = .ok (.goto 4, 3) := by decide +kernel
theorem dX5_worth_58 : decode cX5_worth 58 = .ok (.iconst 0, 1) := by decide +kernel
theorem dX5_worth_59 : decode cX5_worth 59 = .ok (.invokevirtual 107, 3) := by decide +kernel
theorem dX5_worth_62 : decode cX5_worth 62 = .ok (.ifCond .eq 5, 3) := by decide +kernel
theorem dX5_worth_65 : decode cX5_worth 65 = .ok (.iconst 0, 1) := by decide +kernel
theorem dX5_worth_66 : decode cX5_worth 66 = .ok (.ireturn, 1) := by decide +kernel
theorem dX5_worth_67 : decode cX5_worth 67 = .ok (.aload_n 0, 1) := by decide +kernel
theorem dX5_worth_68 : decode cX5_worth 68 = .ok (.iload_n 1, 1) := by decide +kernel
theorem dX5_worth_69 : decode cX5_worth 69 = .ok (.iload_n 2, 1) := by decide +kernel
theorem dX5_worth_70 : decode cX5_worth 70 = .ok (.invokevirtual 204, 3) := by decide +kernel
theorem dX5_worth_73 : decode cX5_worth 73 = .ok (.ireturn, 1) := by decide +kernel
set_option maxRecDepth 20000 in
theorem ggX5_spread_X5_next : GoodIn wsX5_spread wsX5_next := goodIn_r _ [7, 8, 9, 6, 10] (by decide +kernel) (by decide +kernel)
set_option maxRecDepth 20000 in
theorem gX5_spread_X5_next : GoodIn wsX5_spread (va_wsS RX5 120 yX5_next wsX5_next) := goodIn_app (goodIn_of _ (by decide +kernel)) ggX5_spread_X5_next
set_option maxRecDepth 20000 in
theorem ggX5_spread_X5_isOpen : GoodIn wsX5_spread wsX5_isOpen := goodIn_ca (goodIn_r _ [14, 15, 16, 17, 18, 6, 19, 20, 21, 22, 23, 24, 25, 26, 27, 28, 29, 30, 31, 32, 33, 34, 35, 36, 37, 38, 39, 40, 41, 42] (by decide +kernel) (by decide +kernel)) (goodIn_sub (fun _ h => List.mem_cons_of_mem _ (List.mem_append_right _ h)) (by decide +kernel))
set_option maxRecDepth 20000 in
theorem gX5_spread_X5_isOpen : GoodIn wsX5_spread (wsV RX5 75 RX5 yX5_isOpen wsX5_isOpen) := goodIn_app (goodIn_of _ (by decide +kernel)) ggX5_spread_X5_isOpen
theorem dX5_spread_0 : decode cX5_spread 0 = .ok (.aload_n 0, 1) := by decide +kernel
theorem dX5_spread_1 : decode cX5_spread 1 = .ok (.getfield 34, 3) := by decide +kernel
theorem dX5_spread_4 : decode cX5_spread 4 = .ok (.iload_n 2, 1) := by decide +kernel
theorem dX5_spread_5 : decode cX5_spread 5 = .ok (.aload_n 0, 1) := by decide +kernel
theorem dX5_spread_6 : decode cX5_spread 6 = .ok (.getfield 207, 3) := by decide +kernel
theorem dX5_spread_9 : decode cX5_spread 9 = .ok (.iastore, 1) := by decide +kernel
theorem dX5_spread_10 : decode cX5_spread 10 = .ok (.aload_n 0, 1) := by decide +kernel
theorem dX5_spread_11 : decode cX5_spread 11 = .ok (.getfield 25, 3) := by decide +kernel
theorem dX5_spread_14 : decode cX5_spread 14 = .ok (.iconst 0, 1) := by decide +kernel
theorem dX5_spread_15 : decode cX5_spread 15 = .ok (.iload_n 2, 1) := by decide +kernel
theorem dX5_spread_16 : decode cX5_spread 16 = .ok (.iastore, 1) := by decide +kernel
theorem dX5_spread_17 : decode cX5_spread 17 = .ok (.iconst 1, 1) := by decide +kernel
theorem dX5_spread_18 : decode cX5_spread 18 = .ok (.istore_n 3, 1) := by decide +kernel
theorem dX5_spread_19 : decode cX5_spread 19 = .ok (.iconst 0, 1) := by decide +kernel
theorem dX5_spread_20 : decode cX5_spread 20 = .ok (.istore 4, 2) := by decide +kernel
theorem dX5_spread_22 : decode cX5_spread 22 = .ok (.iload 4, 2) := by decide +kernel
theorem dX5_spread_24 : decode cX5_spread 24 = .ok (.iload_n 3, 1) := by decide +kernel
theorem dX5_spread_25 : decode cX5_spread 25 = .ok (.if_icmp .ge 85, 3) := by decide +kernel
theorem dX5_spread_28 : decode cX5_spread 28 = .ok (.iconst 0, 1) := by decide +kernel
theorem dX5_spread_29 : decode cX5_spread 29 = .ok (.istore 5, 2) := by decide +kernel
theorem dX5_spread_31 : decode cX5_spread 31 = .ok (.iload 5, 2) := by decide +kernel
theorem dX5_spread_33 : decode cX5_spread 33 = .ok (.iconst 4, 1) := by decide +kernel
theorem dX5_spread_34 : decode cX5_spread 34 = .ok (.if_icmp .ge 70, 3) := by decide +kernel
theorem dX5_spread_37 : decode cX5_spread 37 = .ok (.aload_n 0, 1) := by decide +kernel
theorem dX5_spread_38 : decode cX5_spread 38 = .ok (.getfield 25, 3) := by decide +kernel
theorem dX5_spread_41 : decode cX5_spread 41 = .ok (.iload 4, 2) := by decide +kernel
theorem dX5_spread_43 : decode cX5_spread 43 = .ok (.iaload, 1) := by decide +kernel
theorem dX5_spread_44 : decode cX5_spread 44 = .ok (.iload 5, 2) := by decide +kernel
theorem dX5_spread_46 : decode cX5_spread 46 = .ok (.invokestatic 120, 3) := by decide +kernel
theorem dX5_spread_49 : decode cX5_spread 49 = .ok (.istore 6, 2) := by decide +kernel
theorem dX5_spread_51 : decode cX5_spread 51 = .ok (.iload 6, 2) := by decide +kernel
theorem dX5_spread_53 : decode cX5_spread 53 = .ok (.ifCond .lt 45, 3) := by decide +kernel
theorem dX5_spread_56 : decode cX5_spread 56 = .ok (.aload_n 0, 1) := by decide +kernel
theorem dX5_spread_57 : decode cX5_spread 57 = .ok (.iload_n 1, 1) := by decide +kernel
theorem dX5_spread_58 : decode cX5_spread 58 = .ok (.iload 6, 2) := by decide +kernel
theorem dX5_spread_60 : decode cX5_spread 60 = .ok (.invokevirtual 75, 3) := by decide +kernel
theorem dX5_spread_63 : decode cX5_spread 63 = .ok (.ifCond .eq 35, 3) := by decide +kernel
theorem dX5_spread_66 : decode cX5_spread 66 = .ok (.aload_n 0, 1) := by decide +kernel
theorem dX5_spread_67 : decode cX5_spread 67 = .ok (.getfield 34, 3) := by decide +kernel
theorem dX5_spread_70 : decode cX5_spread 70 = .ok (.iload 6, 2) := by decide +kernel
theorem dX5_spread_72 : decode cX5_spread 72 = .ok (.iaload, 1) := by decide +kernel
theorem dX5_spread_73 : decode cX5_spread 73 = .ok (.ifCond .ge 25, 3) := by decide +kernel
theorem dX5_spread_76 : decode cX5_spread 76 = .ok (.aload_n 0, 1) := by decide +kernel
theorem dX5_spread_77 : decode cX5_spread 77 = .ok (.getfield 34, 3) := by decide +kernel
theorem dX5_spread_80 : decode cX5_spread 80 = .ok (.iload 6, 2) := by decide +kernel
theorem dX5_spread_82 : decode cX5_spread 82 = .ok (.aload_n 0, 1) := by decide +kernel
theorem dX5_spread_83 : decode cX5_spread 83 = .ok (.getfield 207, 3) := by decide +kernel
theorem dX5_spread_86 : decode cX5_spread 86 = .ok (.iastore, 1) := by decide +kernel
theorem dX5_spread_87 : decode cX5_spread 87 = .ok (.aload_n 0, 1) := by decide +kernel
theorem dX5_spread_88 : decode cX5_spread 88 = .ok (.getfield 25, 3) := by decide +kernel
theorem dX5_spread_91 : decode cX5_spread 91 = .ok (.iload_n 3, 1) := by decide +kernel
theorem dX5_spread_92 : decode cX5_spread 92 = .ok (.iload 6, 2) := by decide +kernel
theorem dX5_spread_94 : decode cX5_spread 94 = .ok (.iastore, 1) := by decide +kernel
theorem dX5_spread_95 : decode cX5_spread 95 = .ok (.iinc 3 1, 3) := by decide +kernel
theorem dX5_spread_98 : decode cX5_spread 98 = .ok (.iinc 5 1, 3) := by decide +kernel
theorem dX5_spread_101 : decode cX5_spread 101 = .ok (.goto (-70), 3) := by decide +kernel
theorem dX5_spread_104 : decode cX5_spread 104 = .ok (.iinc 4 1, 3) := by decide +kernel
theorem dX5_spread_107 : decode cX5_spread 107 = .ok (.goto (-85), 3) := by decide +kernel
theorem dX5_spread_110 : decode cX5_spread 110 = .ok (.return_, 1) := by decide +kernel
set_option maxRecDepth 20000 in
theorem ggX5_findRooms_X5_isOpen : GoodIn wsX5_findRooms wsX5_isOpen := goodIn_ca (goodIn_r _ [7, 8, 9, 10, 11, 6, 12, 24, 25, 26, 27, 28, 29, 30, 31, 32, 33, 34, 35, 36, 37, 38, 39, 40, 41, 42, 43, 44, 45, 46] (by decide +kernel) (by decide +kernel)) (goodIn_sub (fun _ h => List.mem_cons_of_mem _ (List.mem_append_right _ h)) (by decide +kernel))
set_option maxRecDepth 20000 in
theorem gX5_findRooms_X5_isOpen : GoodIn wsX5_findRooms (wsV RX5 75 RX5 yX5_isOpen wsX5_isOpen) := goodIn_app (goodIn_of _ (by decide +kernel)) ggX5_findRooms_X5_isOpen
set_option maxRecDepth 20000 in
theorem ggX5_findRooms_X5_spread : GoodIn wsX5_findRooms wsX5_spread := goodIn_ca (goodIn_r _ [16, 2, 1, 17, 18, 19, 6, 20, 21, 22, 23, 3, 4, 5, 7, 8, 9, 10, 11, 12, 24, 25, 26, 27, 28, 29, 30, 31, 32, 33, 34, 35, 36, 37, 38, 39, 40, 41, 42, 43, 44, 45, 46] (by decide +kernel) (by decide +kernel)) (goodIn_sub (fun _ h => List.mem_cons_of_mem _ (List.mem_append_right _ h)) (by decide +kernel))
set_option maxRecDepth 20000 in
theorem gX5_findRooms_X5_spread : GoodIn wsX5_findRooms (wsV RX5 210 RX5 yX5_spread wsX5_spread) := goodIn_app (goodIn_of _ (by decide +kernel)) ggX5_findRooms_X5_spread
theorem dX5_findRooms_0 : decode cX5_findRooms 0 = .ok (.aload_n 0, 1) := by decide +kernel
theorem dX5_findRooms_1 : decode cX5_findRooms 1 = .ok (.iconst 0, 1) := by decide +kernel
theorem dX5_findRooms_2 : decode cX5_findRooms 2 = .ok (.putfield 207, 3) := by decide +kernel
theorem dX5_findRooms_5 : decode cX5_findRooms 5 = .ok (.iconst 0, 1) := by decide +kernel
theorem dX5_findRooms_6 : decode cX5_findRooms 6 = .ok (.istore_n 2, 1) := by decide +kernel
theorem dX5_findRooms_7 : decode cX5_findRooms 7 = .ok (.iload_n 2, 1) := by decide +kernel
theorem dX5_findRooms_8 : decode cX5_findRooms 8 = .ok (.bipush 36, 2) := by decide +kernel
theorem dX5_findRooms_10 : decode cX5_findRooms 10 = .ok (.if_icmp .ge 16, 3) := by decide +kernel
theorem dX5_findRooms_13 : decode cX5_findRooms 13 = .ok (.aload_n 0, 1) := by decide +kernel
theorem dX5_findRooms_14 : decode cX5_findRooms 14 = .ok (.getfield 34, 3) := by decide +kernel
theorem dX5_findRooms_17 : decode cX5_findRooms 17 = .ok (.iload_n 2, 1) := by decide +kernel
theorem dX5_findRooms_18 : decode cX5_findRooms 18 = .ok (.iconst (-1), 1) := by decide +kernel
theorem dX5_findRooms_19 : decode cX5_findRooms 19 = .ok (.iastore, 1) := by decide +kernel
theorem dX5_findRooms_20 : decode cX5_findRooms 20 = .ok (.iinc 2 1, 3) := by decide +kernel
theorem dX5_findRooms_23 : decode cX5_findRooms 23 = .ok (.goto (-16), 3) := by decide +kernel
theorem dX5_findRooms_26 : decode cX5_findRooms 26 = .ok (.iconst 0, 1) := by decide +kernel
theorem dX5_findRooms_27 : decode cX5_findRooms 27 = .ok (.istore_n 2, 1) := by decide +kernel
theorem dX5_findRooms_28 : decode cX5_findRooms 28 = .ok (.iload_n 2, 1) := by decide +kernel
theorem dX5_findRooms_29 : decode cX5_findRooms 29 = .ok (.bipush 36, 2) := by decide +kernel
theorem dX5_findRooms_31 : decode cX5_findRooms 31 = .ok (.if_icmp .ge 43, 3) := by decide +kernel
theorem dX5_findRooms_34 : decode cX5_findRooms 34 = .ok (.aload_n 0, 1) := by decide +kernel
theorem dX5_findRooms_35 : decode cX5_findRooms 35 = .ok (.iload_n 1, 1) := by decide +kernel
theorem dX5_findRooms_36 : decode cX5_findRooms 36 = .ok (.iload_n 2, 1) := by decide +kernel
theorem dX5_findRooms_37 : decode cX5_findRooms 37 = .ok (.invokevirtual 75, 3) := by decide +kernel
theorem dX5_findRooms_40 : decode cX5_findRooms 40 = .ok (.ifCond .eq 28, 3) := by decide +kernel
theorem dX5_findRooms_43 : decode cX5_findRooms 43 = .ok (.aload_n 0, 1) := by decide +kernel
theorem dX5_findRooms_44 : decode cX5_findRooms 44 = .ok (.getfield 34, 3) := by decide +kernel
theorem dX5_findRooms_47 : decode cX5_findRooms 47 = .ok (.iload_n 2, 1) := by decide +kernel
theorem dX5_findRooms_48 : decode cX5_findRooms 48 = .ok (.iaload, 1) := by decide +kernel
theorem dX5_findRooms_49 : decode cX5_findRooms 49 = .ok (.ifCond .ge 19, 3) := by decide +kernel
theorem dX5_findRooms_52 : decode cX5_findRooms 52 = .ok (.aload_n 0, 1) := by decide +kernel
theorem dX5_findRooms_53 : decode cX5_findRooms 53 = .ok (.iload_n 1, 1) := by decide +kernel
theorem dX5_findRooms_54 : decode cX5_findRooms 54 = .ok (.iload_n 2, 1) := by decide +kernel
theorem dX5_findRooms_55 : decode cX5_findRooms 55 = .ok (.invokevirtual 210, 3) := by decide +kernel
theorem dX5_findRooms_58 : decode cX5_findRooms 58 = .ok (.aload_n 0, 1) := by decide +kernel
theorem dX5_findRooms_59 : decode cX5_findRooms 59 = .ok (.dup, 1) := by decide +kernel
theorem dX5_findRooms_60 : decode cX5_findRooms 60 = .ok (.getfield 207, 3) := by decide +kernel
theorem dX5_findRooms_63 : decode cX5_findRooms 63 = .ok (.iconst 1, 1) := by decide +kernel
theorem dX5_findRooms_64 : decode cX5_findRooms 64 = .ok (.iadd, 1) := by decide +kernel
theorem dX5_findRooms_65 : decode cX5_findRooms 65 = .ok (.putfield 207, 3) := by decide +kernel
theorem dX5_findRooms_68 : decode cX5_findRooms 68 = .ok (.iinc 2 1, 3) := by decide +kernel
theorem dX5_findRooms_71 : decode cX5_findRooms 71 = .ok (.goto (-43), 3) := by decide +kernel
theorem dX5_findRooms_74 : decode cX5_findRooms 74 = .ok (.return_, 1) := by decide +kernel
set_option maxRecDepth 20000 in
theorem ggX5_rooms_X5_isSide : GoodIn wsX5_rooms wsX5_isSide := goodIn_r _ [5, 6, 7, 4, 8] (by decide +kernel) (by decide +kernel)
set_option maxRecDepth 20000 in
theorem gX5_rooms_X5_isSide : GoodIn wsX5_rooms (va_wsS RX5 101 yX5_isSide wsX5_isSide) := goodIn_app (goodIn_of _ (by decide +kernel)) ggX5_rooms_X5_isSide
set_option maxRecDepth 20000 in
theorem ggX5_rooms_X5_fails : GoodIn wsX5_rooms wsX5_fails := goodIn_r _ [12, 13, 36, 37, 38, 39, 40, 41, 42, 43, 44, 45, 46, 47, 48, 49, 50, 51, 52, 53, 54, 55, 56, 57, 58] (by decide +kernel) (by decide +kernel)
set_option maxRecDepth 20000 in
theorem gX5_rooms_X5_fails : GoodIn wsX5_rooms (wsV RX5 107 RX5 yX5_fails wsX5_fails) := goodIn_app (goodIn_of _ (by decide +kernel)) ggX5_rooms_X5_fails
set_option maxRecDepth 20000 in
theorem ggX5_rooms_X5_findRooms : GoodIn wsX5_rooms wsX5_findRooms := goodIn_ca (goodIn_r _ [17, 1, 18, 19, 20, 21, 4, 22, 23, 24, 25, 26, 27, 28, 29, 30, 31, 32, 33, 34, 35, 6, 7, 8, 36, 37, 38, 39, 40, 41, 42, 43, 44, 45, 46, 47, 48, 49, 50, 51, 52, 53, 54, 55, 56, 57, 58] (by decide +kernel) (by decide +kernel)) (goodIn_sub (fun _ h => List.mem_cons_of_mem _ (List.mem_append_right _ h)) (by decide +kernel))
set_option maxRecDepth 20000 in
theorem gX5_rooms_X5_findRooms : GoodIn wsX5_rooms (wsV RX5 213 RX5 yX5_findRooms wsX5_findRooms) := goodIn_app (goodIn_of _ (by decide +kernel)) ggX5_rooms_X5_findRooms
theorem dX5_rooms_0 : decode cX5_rooms 0 = .ok (.aload_n 0, 1) := by decide +kernel
theorem dX5_rooms_1 : decode cX5_rooms 1 = .ok (.iconst 1, 1) := by decide +kernel
theorem dX5_rooms_2 : decode cX5_rooms 2 = .ok (.iload_n 1, 1) := by decide +kernel
theorem dX5_rooms_3 : decode cX5_rooms 3 = .ok (.invokestatic 101, 3) := by decide +kernel
theorem dX5_rooms_6 : decode cX5_rooms 6 = .ok (.ifCond .ne 7, 3) := by decide +kernel
theorem dX5_rooms_9 : decode cX5_rooms 9 = .ok (.iconst 1, 1) := by decide +kernel
theorem dX5_rooms_10 : decode cX5_rooms 10 = .ok (.goto 4, 3) := by decide +kernel
theorem dX5_rooms_13 : decode cX5_rooms 13 = .ok (.iconst 0, 1) := by decide +kernel
theorem dX5_rooms_14 : decode cX5_rooms 14 = .ok (.invokevirtual 107, 3) := by decide +kernel
theorem dX5_rooms_17 : decode cX5_rooms 17 = .ok (.ifCond .eq 5, 3) := by decide +kernel
theorem dX5_rooms_20 : decode cX5_rooms 20 = .ok (.iconst 0, 1) := by decide +kernel
theorem dX5_rooms_21 : decode cX5_rooms 21 = .ok (.ireturn, 1) := by decide +kernel
theorem dX5_rooms_22 : decode cX5_rooms 22 = .ok (.aload_n 0, 1) := by decide +kernel
theorem dX5_rooms_23 : decode cX5_rooms 23 = .ok (.iload_n 1, 1) := by decide +kernel
theorem dX5_rooms_24 : decode cX5_rooms 24 = .ok (.invokevirtual 213, 3) := by decide +kernel
theorem dX5_rooms_27 : decode cX5_rooms 27 = .ok (.aload_n 0, 1) := by decide +kernel
theorem dX5_rooms_28 : decode cX5_rooms 28 = .ok (.getfield 207, 3) := by decide +kernel
theorem dX5_rooms_31 : decode cX5_rooms 31 = .ok (.ireturn, 1) := by decide +kernel
set_option maxRecDepth 20000 in
theorem ggX5_room_X5_isSide : GoodIn wsX5_room wsX5_isSide := goodIn_r _ [5, 6, 7, 4, 8] (by decide +kernel) (by decide +kernel)
set_option maxRecDepth 20000 in
theorem gX5_room_X5_isSide : GoodIn wsX5_room (va_wsS RX5 101 yX5_isSide wsX5_isSide) := goodIn_app (goodIn_of _ (by decide +kernel)) ggX5_room_X5_isSide
set_option maxRecDepth 20000 in
theorem ggX5_room_X5_isSquare : GoodIn wsX5_room wsX5_isSquare := goodIn_r _ [11, 6, 7, 4, 8] (by decide +kernel) (by decide +kernel)
set_option maxRecDepth 20000 in
theorem gX5_room_X5_isSquare : GoodIn wsX5_room (va_wsS RX5 104 yX5_isSquare wsX5_isSquare) := goodIn_app (goodIn_of _ (by decide +kernel)) ggX5_room_X5_isSquare
set_option maxRecDepth 20000 in
theorem ggX5_room_X5_fails : GoodIn wsX5_room wsX5_fails := goodIn_r _ [15, 16, 39, 40, 41, 42, 43, 44, 45, 46, 47, 48, 49, 50, 51, 52, 53, 54, 55, 56, 57, 58, 59, 60, 61] (by decide +kernel) (by decide +kernel)
set_option maxRecDepth 20000 in
theorem gX5_room_X5_fails : GoodIn wsX5_room (wsV RX5 107 RX5 yX5_fails wsX5_fails) := goodIn_app (goodIn_of _ (by decide +kernel)) ggX5_room_X5_fails
set_option maxRecDepth 20000 in
theorem ggX5_room_X5_isOpen : GoodIn wsX5_room wsX5_isOpen := goodIn_ca (goodIn_r _ [20, 21, 22, 23, 24, 4, 25, 39, 40, 41, 42, 43, 44, 45, 46, 47, 48, 49, 50, 51, 52, 53, 54, 55, 56, 57, 58, 59, 60, 61] (by decide +kernel) (by decide +kernel)) (goodIn_sub (fun _ h => List.mem_cons_of_mem _ (List.mem_append_right _ h)) (by decide +kernel))
set_option maxRecDepth 20000 in
theorem gX5_room_X5_isOpen : GoodIn wsX5_room (wsV RX5 75 RX5 yX5_isOpen wsX5_isOpen) := goodIn_app (goodIn_of _ (by decide +kernel)) ggX5_room_X5_isOpen
set_option maxRecDepth 20000 in
theorem ggX5_room_X5_findRooms : GoodIn wsX5_room wsX5_findRooms := goodIn_ca (goodIn_r _ [29, 30, 1, 17, 18, 19, 4, 20, 21, 22, 23, 24, 25, 31, 32, 33, 34, 35, 36, 37, 38, 6, 7, 8, 39, 40, 41, 42, 43, 44, 45, 46, 47, 48, 49, 50, 51, 52, 53, 54, 55, 56, 57, 58, 59, 60, 61] (by decide +kernel) (by decide +kernel)) (goodIn_sub (fun _ h => List.mem_cons_of_mem _ (List.mem_append_right _ h)) (by decide +kernel))
set_option maxRecDepth 20000 in
theorem gX5_room_X5_findRooms : GoodIn wsX5_room (wsV RX5 213 RX5 yX5_findRooms wsX5_findRooms) := goodIn_app (goodIn_of _ (by decide +kernel)) ggX5_room_X5_findRooms
theorem dX5_room_0 : decode cX5_room 0 = .ok (.aload_n 0, 1) := by decide +kernel
theorem dX5_room_1 : decode cX5_room 1 = .ok (.iconst 1, 1) := by decide +kernel
theorem dX5_room_2 : decode cX5_room 2 = .ok (.iload_n 1, 1) := by decide +kernel
theorem dX5_room_3 : decode cX5_room 3 = .ok (.invokestatic 101, 3) := by decide +kernel
theorem dX5_room_6 : decode cX5_room 6 = .ok (.ifCond .eq 10, 3) := by decide +kernel
theorem dX5_room_9 : decode cX5_room 9 = .ok (.iload_n 2, 1) := by decide +kernel
theorem dX5_room_10 : decode cX5_room 10 = .ok (.invokestatic 104, 3) := by decide +kernel
theorem dX5_room_13 : decode cX5_room 13 = .ok (.ifCond .ne 7, 3) := by decide +kernel
theorem dX5_room_16 : decode cX5_room 16 = .ok (.iconst 1, 1) := by decide +kernel
theorem dX5_room_17 : decode cX5_room 17 = .ok (.goto 4, 3) := by decide +kernel
theorem dX5_room_20 : decode cX5_room 20 = .ok (.iconst 0, 1) := by decide +kernel
theorem dX5_room_21 : decode cX5_room 21 = .ok (.invokevirtual 107, 3) := by decide +kernel
theorem dX5_room_24 : decode cX5_room 24 = .ok (.ifCond .ne 25, 3) := by decide +kernel
theorem dX5_room_27 : decode cX5_room 27 = .ok (.aload_n 0, 1) := by decide +kernel
theorem dX5_room_28 : decode cX5_room 28 = .ok (.iconst 2, 1) := by decide +kernel
theorem dX5_room_29 : decode cX5_room 29 = .ok (.aload_n 0, 1) := by decide +kernel
theorem dX5_room_30 : decode cX5_room 30 = .ok (.iload_n 1, 1) := by decide +kernel
theorem dX5_room_31 : decode cX5_room 31 = .ok (.iload_n 2, 1) := by decide +kernel
theorem dX5_room_32 : decode cX5_room 32 = .ok (.invokevirtual 75, 3) := by decide +kernel
theorem dX5_room_35 : decode cX5_room 35 = .ok (.ifCond .ne 7, 3) := by decide +kernel
theorem dX5_room_38 : decode cX5_room 38 = .ok (.iconst 1, 1) := by decide +kernel
theorem dX5_room_39 : decode cX5_room 39 = .ok (.goto 4, 3) := by decide +kernel
theorem dX5_room_42 : decode cX5_room 42 = .ok (.iconst 0, 1) := by decide +kernel
theorem dX5_room_43 : decode cX5_room 43 = .ok (.invokevirtual 107, 3) := by decide +kernel
theorem dX5_room_46 : decode cX5_room 46 = .ok (.ifCond .eq 5, 3) := by decide +kernel
theorem dX5_room_49 : decode cX5_room 49 = .ok (.iconst 0, 1) := by decide +kernel
theorem dX5_room_50 : decode cX5_room 50 = .ok (.ireturn, 1) := by decide +kernel
theorem dX5_room_51 : decode cX5_room 51 = .ok (.aload_n 0, 1) := by decide +kernel
theorem dX5_room_52 : decode cX5_room 52 = .ok (.iload_n 1, 1) := by decide +kernel
theorem dX5_room_53 : decode cX5_room 53 = .ok (.invokevirtual 213, 3) := by decide +kernel
theorem dX5_room_56 : decode cX5_room 56 = .ok (.aload_n 0, 1) := by decide +kernel
theorem dX5_room_57 : decode cX5_room 57 = .ok (.getfield 34, 3) := by decide +kernel
theorem dX5_room_60 : decode cX5_room 60 = .ok (.iload_n 2, 1) := by decide +kernel
theorem dX5_room_61 : decode cX5_room 61 = .ok (.iaload, 1) := by decide +kernel
theorem dX5_room_62 : decode cX5_room 62 = .ok (.ireturn, 1) := by decide +kernel
set_option maxRecDepth 20000 in
theorem ggX5_countIn_X5_sideOf : GoodIn wsX5_countIn wsX5_sideOf := goodIn_r _ [6, 7, 8, 5, 9] (by decide +kernel) (by decide +kernel)
set_option maxRecDepth 20000 in
theorem gX5_countIn_X5_sideOf : GoodIn wsX5_countIn (va_wsS RX5 79 yX5_sideOf wsX5_sideOf) := goodIn_app (goodIn_of _ (by decide +kernel)) ggX5_countIn_X5_sideOf
theorem dX5_countIn_0 : decode cX5_countIn 0 = .ok (.iconst 0, 1) := by decide +kernel
theorem dX5_countIn_1 : decode cX5_countIn 1 = .ok (.istore_n 3, 1) := by decide +kernel
theorem dX5_countIn_2 : decode cX5_countIn 2 = .ok (.iconst 0, 1) := by decide +kernel
theorem dX5_countIn_3 : decode cX5_countIn 3 = .ok (.istore 4, 2) := by decide +kernel
theorem dX5_countIn_5 : decode cX5_countIn 5 = .ok (.iload 4, 2) := by decide +kernel
theorem dX5_countIn_7 : decode cX5_countIn 7 = .ok (.bipush 36, 2) := by decide +kernel
theorem dX5_countIn_9 : decode cX5_countIn 9 = .ok (.if_icmp .ge 42, 3) := by decide +kernel
theorem dX5_countIn_12 : decode cX5_countIn 12 = .ok (.iload_n 3, 1) := by decide +kernel
theorem dX5_countIn_13 : decode cX5_countIn 13 = .ok (.aload_n 0, 1) := by decide +kernel
theorem dX5_countIn_14 : decode cX5_countIn 14 = .ok (.getfield 34, 3) := by decide +kernel
theorem dX5_countIn_17 : decode cX5_countIn 17 = .ok (.iload 4, 2) := by decide +kernel
theorem dX5_countIn_19 : decode cX5_countIn 19 = .ok (.iaload, 1) := by decide +kernel
theorem dX5_countIn_20 : decode cX5_countIn 20 = .ok (.iload_n 1, 1) := by decide +kernel
theorem dX5_countIn_21 : decode cX5_countIn 21 = .ok (.if_icmp .ne 21, 3) := by decide +kernel
theorem dX5_countIn_24 : decode cX5_countIn 24 = .ok (.aload_n 0, 1) := by decide +kernel
theorem dX5_countIn_25 : decode cX5_countIn 25 = .ok (.getfield 9, 3) := by decide +kernel
theorem dX5_countIn_28 : decode cX5_countIn 28 = .ok (.iload 4, 2) := by decide +kernel
theorem dX5_countIn_30 : decode cX5_countIn 30 = .ok (.iaload, 1) := by decide +kernel
theorem dX5_countIn_31 : decode cX5_countIn 31 = .ok (.invokestatic 79, 3) := by decide +kernel
theorem dX5_countIn_34 : decode cX5_countIn 34 = .ok (.iload_n 2, 1) := by decide +kernel
theorem dX5_countIn_35 : decode cX5_countIn 35 = .ok (.if_icmp .ne 7, 3) := by decide +kernel
theorem dX5_countIn_38 : decode cX5_countIn 38 = .ok (.iconst 1, 1) := by decide +kernel
theorem dX5_countIn_39 : decode cX5_countIn 39 = .ok (.goto 4, 3) := by decide +kernel
theorem dX5_countIn_42 : decode cX5_countIn 42 = .ok (.iconst 0, 1) := by decide +kernel
theorem dX5_countIn_43 : decode cX5_countIn 43 = .ok (.iadd, 1) := by decide +kernel
theorem dX5_countIn_44 : decode cX5_countIn 44 = .ok (.istore_n 3, 1) := by decide +kernel
theorem dX5_countIn_45 : decode cX5_countIn 45 = .ok (.iinc 4 1, 3) := by decide +kernel
theorem dX5_countIn_48 : decode cX5_countIn 48 = .ok (.goto (-43), 3) := by decide +kernel
theorem dX5_countIn_51 : decode cX5_countIn 51 = .ok (.iload_n 3, 1) := by decide +kernel
theorem dX5_countIn_52 : decode cX5_countIn 52 = .ok (.ireturn, 1) := by decide +kernel
theorem dX5_squaresIn_0 : decode cX5_squaresIn 0 = .ok (.iconst 0, 1) := by decide +kernel
theorem dX5_squaresIn_1 : decode cX5_squaresIn 1 = .ok (.istore_n 2, 1) := by decide +kernel
theorem dX5_squaresIn_2 : decode cX5_squaresIn 2 = .ok (.iconst 0, 1) := by decide +kernel
theorem dX5_squaresIn_3 : decode cX5_squaresIn 3 = .ok (.istore_n 3, 1) := by decide +kernel
theorem dX5_squaresIn_4 : decode cX5_squaresIn 4 = .ok (.iload_n 3, 1) := by decide +kernel
theorem dX5_squaresIn_5 : decode cX5_squaresIn 5 = .ok (.bipush 36, 2) := by decide +kernel
theorem dX5_squaresIn_7 : decode cX5_squaresIn 7 = .ok (.if_icmp .ge 27, 3) := by decide +kernel
theorem dX5_squaresIn_10 : decode cX5_squaresIn 10 = .ok (.iload_n 2, 1) := by decide +kernel
theorem dX5_squaresIn_11 : decode cX5_squaresIn 11 = .ok (.aload_n 0, 1) := by decide +kernel
theorem dX5_squaresIn_12 : decode cX5_squaresIn 12 = .ok (.getfield 34, 3) := by decide +kernel
theorem dX5_squaresIn_15 : decode cX5_squaresIn 15 = .ok (.iload_n 3, 1) := by decide +kernel
theorem dX5_squaresIn_16 : decode cX5_squaresIn 16 = .ok (.iaload, 1) := by decide +kernel
theorem dX5_squaresIn_17 : decode cX5_squaresIn 17 = .ok (.iload_n 1, 1) := by decide +kernel
theorem dX5_squaresIn_18 : decode cX5_squaresIn 18 = .ok (.if_icmp .ne 7, 3) := by decide +kernel
theorem dX5_squaresIn_21 : decode cX5_squaresIn 21 = .ok (.iconst 1, 1) := by decide +kernel
theorem dX5_squaresIn_22 : decode cX5_squaresIn 22 = .ok (.goto 4, 3) := by decide +kernel
theorem dX5_squaresIn_25 : decode cX5_squaresIn 25 = .ok (.iconst 0, 1) := by decide +kernel
theorem dX5_squaresIn_26 : decode cX5_squaresIn 26 = .ok (.iadd, 1) := by decide +kernel
theorem dX5_squaresIn_27 : decode cX5_squaresIn 27 = .ok (.istore_n 2, 1) := by decide +kernel
theorem dX5_squaresIn_28 : decode cX5_squaresIn 28 = .ok (.iinc 3 1, 3) := by decide +kernel
theorem dX5_squaresIn_31 : decode cX5_squaresIn 31 = .ok (.goto (-27), 3) := by decide +kernel
theorem dX5_squaresIn_34 : decode cX5_squaresIn 34 = .ok (.iload_n 2, 1) := by decide +kernel
theorem dX5_squaresIn_35 : decode cX5_squaresIn 35 = .ok (.ireturn, 1) := by decide +kernel
theorem dX5_doorsIn_0 : decode cX5_doorsIn 0 = .ok (.iconst 0, 1) := by decide +kernel
theorem dX5_doorsIn_1 : decode cX5_doorsIn 1 = .ok (.istore_n 2, 1) := by decide +kernel
theorem dX5_doorsIn_2 : decode cX5_doorsIn 2 = .ok (.iconst 0, 1) := by decide +kernel
theorem dX5_doorsIn_3 : decode cX5_doorsIn 3 = .ok (.istore_n 3, 1) := by decide +kernel
theorem dX5_doorsIn_4 : decode cX5_doorsIn 4 = .ok (.iload_n 3, 1) := by decide +kernel
theorem dX5_doorsIn_5 : decode cX5_doorsIn 5 = .ok (.bipush 36, 2) := by decide +kernel
theorem dX5_doorsIn_7 : decode cX5_doorsIn 7 = .ok (.if_icmp .ge 39, 3) := by decide +kernel
theorem dX5_doorsIn_10 : decode cX5_doorsIn 10 = .ok (.iload_n 2, 1) := by decide +kernel
theorem dX5_doorsIn_11 : decode cX5_doorsIn 11 = .ok (.aload_n 0, 1) := by decide +kernel
theorem dX5_doorsIn_12 : decode cX5_doorsIn 12 = .ok (.getfield 34, 3) := by decide +kernel
theorem dX5_doorsIn_15 : decode cX5_doorsIn 15 = .ok (.iload_n 3, 1) := by decide +kernel
theorem dX5_doorsIn_16 : decode cX5_doorsIn 16 = .ok (.iaload, 1) := by decide +kernel
theorem dX5_doorsIn_17 : decode cX5_doorsIn 17 = .ok (.iload_n 1, 1) := by decide +kernel
theorem dX5_doorsIn_18 : decode cX5_doorsIn 18 = .ok (.if_icmp .ne 19, 3) := by decide +kernel
theorem dX5_doorsIn_21 : decode cX5_doorsIn 21 = .ok (.aload_n 0, 1) := by decide +kernel
theorem dX5_doorsIn_22 : decode cX5_doorsIn 22 = .ok (.getfield 9, 3) := by decide +kernel
theorem dX5_doorsIn_25 : decode cX5_doorsIn 25 = .ok (.bipush 36, 2) := by decide +kernel
theorem dX5_doorsIn_27 : decode cX5_doorsIn 27 = .ok (.iload_n 3, 1) := by decide +kernel
theorem dX5_doorsIn_28 : decode cX5_doorsIn 28 = .ok (.iadd, 1) := by decide +kernel
theorem dX5_doorsIn_29 : decode cX5_doorsIn 29 = .ok (.iaload, 1) := by decide +kernel
theorem dX5_doorsIn_30 : decode cX5_doorsIn 30 = .ok (.ifCond .le 7, 3) := by decide +kernel
theorem dX5_doorsIn_33 : decode cX5_doorsIn 33 = .ok (.iconst 1, 1) := by decide +kernel
theorem dX5_doorsIn_34 : decode cX5_doorsIn 34 = .ok (.goto 4, 3) := by decide +kernel
theorem dX5_doorsIn_37 : decode cX5_doorsIn 37 = .ok (.iconst 0, 1) := by decide +kernel
theorem dX5_doorsIn_38 : decode cX5_doorsIn 38 = .ok (.iadd, 1) := by decide +kernel
theorem dX5_doorsIn_39 : decode cX5_doorsIn 39 = .ok (.istore_n 2, 1) := by decide +kernel
theorem dX5_doorsIn_40 : decode cX5_doorsIn 40 = .ok (.iinc 3 1, 3) := by decide +kernel
theorem dX5_doorsIn_43 : decode cX5_doorsIn 43 = .ok (.goto (-39), 3) := by decide +kernel
theorem dX5_doorsIn_46 : decode cX5_doorsIn 46 = .ok (.iload_n 2, 1) := by decide +kernel
theorem dX5_doorsIn_47 : decode cX5_doorsIn 47 = .ok (.ireturn, 1) := by decide +kernel
theorem dX5_lowestIn_0 : decode cX5_lowestIn 0 = .ok (.iconst 0, 1) := by decide +kernel
theorem dX5_lowestIn_1 : decode cX5_lowestIn 1 = .ok (.istore_n 2, 1) := by decide +kernel
theorem dX5_lowestIn_2 : decode cX5_lowestIn 2 = .ok (.aload_n 0, 1) := by decide +kernel
theorem dX5_lowestIn_3 : decode cX5_lowestIn 3 = .ok (.getfield 34, 3) := by decide +kernel
theorem dX5_lowestIn_6 : decode cX5_lowestIn 6 = .ok (.iload_n 2, 1) := by decide +kernel
theorem dX5_lowestIn_7 : decode cX5_lowestIn 7 = .ok (.iaload, 1) := by decide +kernel
theorem dX5_lowestIn_8 : decode cX5_lowestIn 8 = .ok (.iload_n 1, 1) := by decide +kernel
theorem dX5_lowestIn_9 : decode cX5_lowestIn 9 = .ok (.if_icmp .eq 9, 3) := by decide +kernel
theorem dX5_lowestIn_12 : decode cX5_lowestIn 12 = .ok (.iinc 2 1, 3) := by decide +kernel
theorem dX5_lowestIn_15 : decode cX5_lowestIn 15 = .ok (.goto (-13), 3) := by decide +kernel
theorem dX5_lowestIn_18 : decode cX5_lowestIn 18 = .ok (.iload_n 2, 1) := by decide +kernel
theorem dX5_lowestIn_19 : decode cX5_lowestIn 19 = .ok (.ireturn, 1) := by decide +kernel
set_option maxRecDepth 20000 in
theorem ggX5_roomOf_X5_isSide : GoodIn wsX5_roomOf wsX5_isSide := goodIn_r _ [5, 6, 7, 4, 8] (by decide +kernel) (by decide +kernel)
set_option maxRecDepth 20000 in
theorem gX5_roomOf_X5_isSide : GoodIn wsX5_roomOf (va_wsS RX5 101 yX5_isSide wsX5_isSide) := goodIn_app (goodIn_of _ (by decide +kernel)) ggX5_roomOf_X5_isSide
set_option maxRecDepth 20000 in
theorem ggX5_roomOf_X5_findRooms : GoodIn wsX5_roomOf wsX5_findRooms := goodIn_ca (goodIn_r _ [12, 1, 13, 14, 15, 16, 4, 17, 18, 19, 20, 21, 22, 23, 24, 25, 26, 27, 28, 29, 30, 6, 7, 8, 55, 56, 57, 58, 59, 60, 61, 62, 63, 64, 65, 66, 67, 68, 69, 70, 71, 72, 73, 74, 75, 76, 77] (by decide +kernel) (by decide +kernel)) (goodIn_sub (fun _ h => List.mem_cons_of_mem _ (List.mem_append_right _ h)) (by decide +kernel))
set_option maxRecDepth 20000 in
theorem gX5_roomOf_X5_findRooms : GoodIn wsX5_roomOf (wsV RX5 213 RX5 yX5_findRooms wsX5_findRooms) := goodIn_app (goodIn_of _ (by decide +kernel)) ggX5_roomOf_X5_findRooms
set_option maxRecDepth 20000 in
theorem ggX5_roomOf_X5_isBetween : GoodIn wsX5_roomOf wsX5_isBetween := goodIn_r _ [8] (by decide +kernel) (by decide +kernel)
set_option maxRecDepth 20000 in
theorem gX5_roomOf_X5_isBetween : GoodIn wsX5_roomOf (va_wsS RX5 67 yX5_isBetween wsX5_isBetween) := goodIn_app (goodIn_of _ (by decide +kernel)) ggX5_roomOf_X5_isBetween
set_option maxRecDepth 20000 in
theorem ggX5_roomOf_X5_fails : GoodIn wsX5_roomOf wsX5_fails := goodIn_r _ [34, 35, 55, 56, 57, 58, 59, 60, 61, 62, 63, 64, 65, 66, 67, 68, 69, 70, 71, 72, 73, 74, 75, 76, 77] (by decide +kernel) (by decide +kernel)
set_option maxRecDepth 20000 in
theorem gX5_roomOf_X5_fails : GoodIn wsX5_roomOf (wsV RX5 107 RX5 yX5_fails wsX5_fails) := goodIn_app (goodIn_of _ (by decide +kernel)) ggX5_roomOf_X5_fails
set_option maxRecDepth 20000 in
theorem ggX5_roomOf_X5_squaresIn : GoodIn wsX5_roomOf wsX5_squaresIn := goodIn_ca (goodIn_r _ [39, 13, 55, 56, 57, 58, 59, 60, 61, 62, 63, 64, 65, 66, 67, 68, 69, 70, 71, 72, 73, 74, 75, 76, 77] (by decide +kernel) (by decide +kernel)) (goodIn_sub (fun _ h => List.mem_cons_of_mem _ (List.mem_append_right _ h)) (by decide +kernel))
set_option maxRecDepth 20000 in
theorem gX5_roomOf_X5_squaresIn : GoodIn wsX5_roomOf (wsV RX5 216 RX5 yX5_squaresIn wsX5_squaresIn) := goodIn_app (goodIn_of _ (by decide +kernel)) ggX5_roomOf_X5_squaresIn
set_option maxRecDepth 20000 in
theorem ggX5_roomOf_X5_countIn : GoodIn wsX5_roomOf wsX5_countIn := goodIn_ca (goodIn_r _ [43, 13, 18, 44, 45, 4, 46, 6, 7, 8, 55, 56, 57, 58, 59, 60, 61, 62, 63, 64, 65, 66, 67, 68, 69, 70, 71, 72, 73, 74, 75, 76, 77] (by decide +kernel) (by decide +kernel)) (goodIn_sub (fun _ h => List.mem_cons_of_mem _ (List.mem_append_right _ h)) (by decide +kernel))
set_option maxRecDepth 20000 in
theorem gX5_roomOf_X5_countIn : GoodIn wsX5_roomOf (wsV RX5 219 RX5 yX5_countIn wsX5_countIn) := goodIn_app (goodIn_of _ (by decide +kernel)) ggX5_roomOf_X5_countIn
set_option maxRecDepth 20000 in
theorem ggX5_roomOf_X5_doorsIn : GoodIn wsX5_roomOf wsX5_doorsIn := goodIn_ca (goodIn_r _ [50, 13, 18, 55, 56, 57, 58, 59, 60, 61, 62, 63, 64, 65, 66, 67, 68, 69, 70, 71, 72, 73, 74, 75, 76, 77] (by decide +kernel) (by decide +kernel)) (goodIn_sub (fun _ h => List.mem_cons_of_mem _ (List.mem_append_right _ h)) (by decide +kernel))
set_option maxRecDepth 20000 in
theorem gX5_roomOf_X5_doorsIn : GoodIn wsX5_roomOf (wsV RX5 222 RX5 yX5_doorsIn wsX5_doorsIn) := goodIn_app (goodIn_of _ (by decide +kernel)) ggX5_roomOf_X5_doorsIn
set_option maxRecDepth 20000 in
theorem ggX5_roomOf_X5_lowestIn : GoodIn wsX5_roomOf wsX5_lowestIn := goodIn_ca (goodIn_r _ [54, 13, 55, 56, 57, 58, 59, 60, 61, 62, 63, 64, 65, 66, 67, 68, 69, 70, 71, 72, 73, 74, 75, 76, 77] (by decide +kernel) (by decide +kernel)) (goodIn_sub (fun _ h => List.mem_cons_of_mem _ (List.mem_append_right _ h)) (by decide +kernel))
set_option maxRecDepth 20000 in
theorem gX5_roomOf_X5_lowestIn : GoodIn wsX5_roomOf (wsV RX5 225 RX5 yX5_lowestIn wsX5_lowestIn) := goodIn_app (goodIn_of _ (by decide +kernel)) ggX5_roomOf_X5_lowestIn
theorem dX5_roomOf_0 : decode cX5_roomOf 0 = .ok (.iload_n 1, 1) := by decide +kernel
theorem dX5_roomOf_1 : decode cX5_roomOf 1 = .ok (.invokestatic 101, 3) := by decide +kernel
theorem dX5_roomOf_4 : decode cX5_roomOf 4 = .ok (.istore 4, 2) := by decide +kernel
theorem dX5_roomOf_6 : decode cX5_roomOf 6 = .ok (.iload 4, 2) := by decide +kernel
theorem dX5_roomOf_8 : decode cX5_roomOf 8 = .ok (.ifCond .eq 21, 3) := by decide +kernel
theorem dX5_roomOf_11 : decode cX5_roomOf 11 = .ok (.aload_n 0, 1) := by decide +kernel
theorem dX5_roomOf_12 : decode cX5_roomOf 12 = .ok (.iload_n 1, 1) := by decide +kernel
theorem dX5_roomOf_13 : decode cX5_roomOf 13 = .ok (.invokevirtual 213, 3) := by decide +kernel
theorem dX5_roomOf_16 : decode cX5_roomOf 16 = .ok (.iload_n 2, 1) := by decide +kernel
theorem dX5_roomOf_17 : decode cX5_roomOf 17 = .ok (.iconst 0, 1) := by decide +kernel
theorem dX5_roomOf_18 : decode cX5_roomOf 18 = .ok (.aload_n 0, 1) := by decide +kernel
theorem dX5_roomOf_19 : decode cX5_roomOf 19 = .ok (.getfield 207, 3) := by decide +kernel
theorem dX5_roomOf_22 : decode cX5_roomOf 22 = .ok (.iconst 1, 1) := by decide +kernel
theorem dX5_roomOf_23 : decode cX5_roomOf 23 = .ok (.isub, 1) := by decide +kernel
theorem dX5_roomOf_24 : decode cX5_roomOf 24 = .ok (.invokestatic 67, 3) := by decide +kernel
theorem dX5_roomOf_27 : decode cX5_roomOf 27 = .ok (.istore 4, 2) := by decide +kernel
theorem dX5_roomOf_29 : decode cX5_roomOf 29 = .ok (.aload_n 0, 1) := by decide +kernel
theorem dX5_roomOf_30 : decode cX5_roomOf 30 = .ok (.iconst 1, 1) := by decide +kernel
theorem dX5_roomOf_31 : decode cX5_roomOf 31 = .ok (.iload 4, 2) := by decide +kernel
theorem dX5_roomOf_33 : decode cX5_roomOf 33 = .ok (.ifCond .ne 7, 3) := by decide +kernel
theorem dX5_roomOf_36 : decode cX5_roomOf 36 = .ok (.iconst 1, 1) := by decide +kernel
theorem dX5_roomOf_37 : decode cX5_roomOf 37 = .ok (.goto 4, 3) := by decide +kernel
theorem dX5_roomOf_40 : decode cX5_roomOf 40 = .ok (.iconst 0, 1) := by decide +kernel
theorem dX5_roomOf_41 : decode cX5_roomOf 41 = .ok (.invokevirtual 107, 3) := by decide +kernel
theorem dX5_roomOf_44 : decode cX5_roomOf 44 = .ok (.ifCond .ne 25, 3) := by decide +kernel
theorem dX5_roomOf_47 : decode cX5_roomOf 47 = .ok (.aload_n 0, 1) := by decide +kernel
theorem dX5_roomOf_48 : decode cX5_roomOf 48 = .ok (.iconst 2, 1) := by decide +kernel
theorem dX5_roomOf_49 : decode cX5_roomOf 49 = .ok (.iload_n 3, 1) := by decide +kernel
theorem dX5_roomOf_50 : decode cX5_roomOf 50 = .ok (.iconst 0, 1) := by decide +kernel
theorem dX5_roomOf_51 : decode cX5_roomOf 51 = .ok (.iconst 5, 1) := by decide +kernel
theorem dX5_roomOf_52 : decode cX5_roomOf 52 = .ok (.invokestatic 67, 3) := by decide +kernel
theorem dX5_roomOf_55 : decode cX5_roomOf 55 = .ok (.ifCond .ne 7, 3) := by decide +kernel
theorem dX5_roomOf_58 : decode cX5_roomOf 58 = .ok (.iconst 1, 1) := by decide +kernel
theorem dX5_roomOf_59 : decode cX5_roomOf 59 = .ok (.goto 4, 3) := by decide +kernel
theorem dX5_roomOf_62 : decode cX5_roomOf 62 = .ok (.iconst 0, 1) := by decide +kernel
theorem dX5_roomOf_63 : decode cX5_roomOf 63 = .ok (.invokevirtual 107, 3) := by decide +kernel
theorem dX5_roomOf_66 : decode cX5_roomOf 66 = .ok (.ifCond .eq 5, 3) := by decide +kernel
theorem dX5_roomOf_69 : decode cX5_roomOf 69 = .ok (.iconst 0, 1) := by decide +kernel
theorem dX5_roomOf_70 : decode cX5_roomOf 70 = .ok (.ireturn, 1) := by decide +kernel
theorem dX5_roomOf_71 : decode cX5_roomOf 71 = .ok (.iload_n 3, 1) := by decide +kernel
theorem dX5_roomOf_72 : decode cX5_roomOf 72 = .ok (.tableswitch 72 0 4 #[36, 42, 42, 60, 66], 36) := by decide +kernel
theorem dX5_roomOf_108 : decode cX5_roomOf 108 = .ok (.aload_n 0, 1) := by decide +kernel
theorem dX5_roomOf_109 : decode cX5_roomOf 109 = .ok (.iload_n 2, 1) := by decide +kernel
theorem dX5_roomOf_110 : decode cX5_roomOf 110 = .ok (.invokevirtual 216, 3) := by decide +kernel
theorem dX5_roomOf_113 : decode cX5_roomOf 113 = .ok (.ireturn, 1) := by decide +kernel
theorem dX5_roomOf_114 : decode cX5_roomOf 114 = .ok (.aload_n 0, 1) := by decide +kernel
theorem dX5_roomOf_115 : decode cX5_roomOf 115 = .ok (.iload_n 2, 1) := by decide +kernel
theorem dX5_roomOf_116 : decode cX5_roomOf 116 = .ok (.iload_n 3, 1) := by decide +kernel
theorem dX5_roomOf_117 : decode cX5_roomOf 117 = .ok (.iconst 1, 1) := by decide +kernel
theorem dX5_roomOf_118 : decode cX5_roomOf 118 = .ok (.if_icmp .ne 7, 3) := by decide +kernel
theorem dX5_roomOf_121 : decode cX5_roomOf 121 = .ok (.iload_n 1, 1) := by decide +kernel
theorem dX5_roomOf_122 : decode cX5_roomOf 122 = .ok (.goto 6, 3) := by decide +kernel
theorem dX5_roomOf_125 : decode cX5_roomOf 125 = .ok (.iconst 1, 1) := by decide +kernel
theorem dX5_roomOf_126 : decode cX5_roomOf 126 = .ok (.iload_n 1, 1) := by decide +kernel
theorem dX5_roomOf_127 : decode cX5_roomOf 127 = .ok (.isub, 1) := by decide +kernel
theorem dX5_roomOf_128 : decode cX5_roomOf 128 = .ok (.invokevirtual 219, 3) := by decide +kernel
theorem dX5_roomOf_131 : decode cX5_roomOf 131 = .ok (.ireturn, 1) := by decide +kernel
theorem dX5_roomOf_132 : decode cX5_roomOf 132 = .ok (.aload_n 0, 1) := by decide +kernel
theorem dX5_roomOf_133 : decode cX5_roomOf 133 = .ok (.iload_n 2, 1) := by decide +kernel
theorem dX5_roomOf_134 : decode cX5_roomOf 134 = .ok (.invokevirtual 222, 3) := by decide +kernel
theorem dX5_roomOf_137 : decode cX5_roomOf 137 = .ok (.ireturn, 1) := by decide +kernel
theorem dX5_roomOf_138 : decode cX5_roomOf 138 = .ok (.aload_n 0, 1) := by decide +kernel
theorem dX5_roomOf_139 : decode cX5_roomOf 139 = .ok (.iload_n 2, 1) := by decide +kernel
theorem dX5_roomOf_140 : decode cX5_roomOf 140 = .ok (.invokevirtual 225, 3) := by decide +kernel
theorem dX5_roomOf_143 : decode cX5_roomOf 143 = .ok (.ireturn, 1) := by decide +kernel
theorem dX5_roomOf_144 : decode cX5_roomOf 144 = .ok (.aload_n 0, 1) := by decide +kernel
theorem dX5_roomOf_145 : decode cX5_roomOf 145 = .ok (.iload_n 2, 1) := by decide +kernel
theorem dX5_roomOf_146 : decode cX5_roomOf 146 = .ok (.iload_n 1, 1) := by decide +kernel
theorem dX5_roomOf_147 : decode cX5_roomOf 147 = .ok (.invokevirtual 219, 3) := by decide +kernel
theorem dX5_roomOf_150 : decode cX5_roomOf 150 = .ok (.ifCond .ne 7, 3) := by decide +kernel
theorem dX5_roomOf_153 : decode cX5_roomOf 153 = .ok (.iconst 1, 1) := by decide +kernel
theorem dX5_roomOf_154 : decode cX5_roomOf 154 = .ok (.goto 4, 3) := by decide +kernel
theorem dX5_roomOf_157 : decode cX5_roomOf 157 = .ok (.iconst 0, 1) := by decide +kernel
theorem dX5_roomOf_158 : decode cX5_roomOf 158 = .ok (.ireturn, 1) := by decide +kernel
set_option maxRecDepth 20000 in
theorem ggX5_countSealed_X5_findRooms : GoodIn wsX5_countSealed wsX5_findRooms := goodIn_ca (goodIn_r _ [6, 1, 7, 8, 9, 10, 5, 11, 12, 13, 14, 15, 16, 17, 18, 19, 20, 21, 22, 23, 24, 25, 26, 27, 39, 40, 41, 42, 43, 44, 45, 46, 47, 48, 49, 50, 51, 52, 53, 54, 55, 56, 57, 58, 59, 60, 61] (by decide +kernel) (by decide +kernel)) (goodIn_sub (fun _ h => List.mem_cons_of_mem _ (List.mem_append_right _ h)) (by decide +kernel))
set_option maxRecDepth 20000 in
theorem gX5_countSealed_X5_findRooms : GoodIn wsX5_countSealed (wsV RX5 213 RX5 yX5_findRooms wsX5_findRooms) := goodIn_app (goodIn_of _ (by decide +kernel)) ggX5_countSealed_X5_findRooms
set_option maxRecDepth 20000 in
theorem ggX5_countSealed_X5_countIn : GoodIn wsX5_countSealed wsX5_countIn := goodIn_ca (goodIn_r _ [31, 7, 12, 32, 33, 5, 34, 25, 26, 27, 39, 40, 41, 42, 43, 44, 45, 46, 47, 48, 49, 50, 51, 52, 53, 54, 55, 56, 57, 58, 59, 60, 61] (by decide +kernel) (by decide +kernel)) (goodIn_sub (fun _ h => List.mem_cons_of_mem _ (List.mem_append_right _ h)) (by decide +kernel))
set_option maxRecDepth 20000 in
theorem gX5_countSealed_X5_countIn : GoodIn wsX5_countSealed (wsV RX5 219 RX5 yX5_countIn wsX5_countIn) := goodIn_app (goodIn_of _ (by decide +kernel)) ggX5_countSealed_X5_countIn
set_option maxRecDepth 20000 in
theorem ggX5_countSealed_X5_squaresIn : GoodIn wsX5_countSealed wsX5_squaresIn := goodIn_ca (goodIn_r _ [38, 7, 39, 40, 41, 42, 43, 44, 45, 46, 47, 48, 49, 50, 51, 52, 53, 54, 55, 56, 57, 58, 59, 60, 61] (by decide +kernel) (by decide +kernel)) (goodIn_sub (fun _ h => List.mem_cons_of_mem _ (List.mem_append_right _ h)) (by decide +kernel))
set_option maxRecDepth 20000 in
theorem gX5_countSealed_X5_squaresIn : GoodIn wsX5_countSealed (wsV RX5 216 RX5 yX5_squaresIn wsX5_squaresIn) := goodIn_app (goodIn_of _ (by decide +kernel)) ggX5_countSealed_X5_squaresIn
theorem dX5_countSealed_0 : decode cX5_countSealed 0 = .ok (.aload_n 0, 1) := by decide +kernel
theorem dX5_countSealed_1 : decode cX5_countSealed 1 = .ok (.iload_n 1, 1) := by decide +kernel
theorem dX5_countSealed_2 : decode cX5_countSealed 2 = .ok (.invokevirtual 213, 3) := by decide +kernel
theorem dX5_countSealed_5 : decode cX5_countSealed 5 = .ok (.iconst 0, 1) := by decide +kernel
theorem dX5_countSealed_6 : decode cX5_countSealed 6 = .ok (.istore_n 2, 1) := by decide +kernel
theorem dX5_countSealed_7 : decode cX5_countSealed 7 = .ok (.iconst 0, 1) := by decide +kernel
theorem dX5_countSealed_8 : decode cX5_countSealed 8 = .ok (.istore_n 3, 1) := by decide +kernel
theorem dX5_countSealed_9 : decode cX5_countSealed 9 = .ok (.iload_n 3, 1) := by decide +kernel
theorem dX5_countSealed_10 : decode cX5_countSealed 10 = .ok (.aload_n 0, 1) := by decide +kernel
theorem dX5_countSealed_11 : decode cX5_countSealed 11 = .ok (.getfield 207, 3) := by decide +kernel
theorem dX5_countSealed_14 : decode cX5_countSealed 14 = .ok (.if_icmp .ge 30, 3) := by decide +kernel
theorem dX5_countSealed_17 : decode cX5_countSealed 17 = .ok (.iload_n 2, 1) := by decide +kernel
theorem dX5_countSealed_18 : decode cX5_countSealed 18 = .ok (.aload_n 0, 1) := by decide +kernel
theorem dX5_countSealed_19 : decode cX5_countSealed 19 = .ok (.iload_n 3, 1) := by decide +kernel
theorem dX5_countSealed_20 : decode cX5_countSealed 20 = .ok (.iload_n 1, 1) := by decide +kernel
theorem dX5_countSealed_21 : decode cX5_countSealed 21 = .ok (.invokevirtual 219, 3) := by decide +kernel
theorem dX5_countSealed_24 : decode cX5_countSealed 24 = .ok (.ifCond .ne 11, 3) := by decide +kernel
theorem dX5_countSealed_27 : decode cX5_countSealed 27 = .ok (.aload_n 0, 1) := by decide +kernel
theorem dX5_countSealed_28 : decode cX5_countSealed 28 = .ok (.iload_n 3, 1) := by decide +kernel
theorem dX5_countSealed_29 : decode cX5_countSealed 29 = .ok (.invokevirtual 216, 3) := by decide +kernel
theorem dX5_countSealed_32 : decode cX5_countSealed 32 = .ok (.goto 4, 3) := by decide +kernel
theorem dX5_countSealed_35 : decode cX5_countSealed 35 = .ok (.iconst 0, 1) := by decide +kernel
theorem dX5_countSealed_36 : decode cX5_countSealed 36 = .ok (.iadd, 1) := by decide +kernel
theorem dX5_countSealed_37 : decode cX5_countSealed 37 = .ok (.istore_n 2, 1) := by decide +kernel
theorem dX5_countSealed_38 : decode cX5_countSealed 38 = .ok (.iinc 3 1, 3) := by decide +kernel
theorem dX5_countSealed_41 : decode cX5_countSealed 41 = .ok (.goto (-32), 3) := by decide +kernel
theorem dX5_countSealed_44 : decode cX5_countSealed 44 = .ok (.iload_n 2, 1) := by decide +kernel
theorem dX5_countSealed_45 : decode cX5_countSealed 45 = .ok (.ireturn, 1) := by decide +kernel
set_option maxRecDepth 20000 in
theorem ggX5_sealed_X5_isSide : GoodIn wsX5_sealed wsX5_isSide := goodIn_r _ [4, 5, 6, 3, 7] (by decide +kernel) (by decide +kernel)
set_option maxRecDepth 20000 in
theorem gX5_sealed_X5_isSide : GoodIn wsX5_sealed (va_wsS RX5 101 yX5_isSide wsX5_isSide) := goodIn_app (goodIn_of _ (by decide +kernel)) ggX5_sealed_X5_isSide
set_option maxRecDepth 20000 in
theorem ggX5_sealed_X5_fails : GoodIn wsX5_sealed wsX5_fails := goodIn_r _ [11, 12, 51, 52, 53, 54, 55, 56, 57, 58, 59, 60, 61, 62, 63, 64, 65, 66, 67, 68, 69, 70, 71, 72, 73] (by decide +kernel) (by decide +kernel)
set_option maxRecDepth 20000 in
theorem gX5_sealed_X5_fails : GoodIn wsX5_sealed (wsV RX5 107 RX5 yX5_fails wsX5_fails) := goodIn_app (goodIn_of _ (by decide +kernel)) ggX5_sealed_X5_fails
set_option maxRecDepth 20000 in
theorem ggX5_sealed_X5_countSealed : GoodIn wsX5_sealed wsX5_countSealed := goodIn_ca (goodIn_r _ [16, 17, 18, 19, 20, 3, 21, 22, 23, 24, 25, 26, 27, 28, 29, 30, 31, 32, 33, 34, 35, 36, 37, 38, 39, 5, 6, 7, 40, 41, 42, 43, 44, 45, 46, 47, 48, 49, 50, 51, 52, 53, 54, 55, 56, 57, 58, 59, 60, 61, 62, 63, 64, 65, 66, 67, 68, 69, 70, 71, 72, 73] (by decide +kernel) (by decide +kernel)) (goodIn_sub (fun _ h => List.mem_cons_of_mem _ (List.mem_append_right _ h)) (by decide +kernel))
set_option maxRecDepth 20000 in
theorem gX5_sealed_X5_countSealed : GoodIn wsX5_sealed (wsV RX5 201 RX5 yX5_countSealed wsX5_countSealed) := goodIn_app (goodIn_of _ (by decide +kernel)) ggX5_sealed_X5_countSealed
theorem dX5_sealed_0 : decode cX5_sealed 0 = .ok (.aload_n 0, 1) := by decide +kernel
theorem dX5_sealed_1 : decode cX5_sealed 1 = .ok (.iconst 1, 1) := by decide +kernel
theorem dX5_sealed_2 : decode cX5_sealed 2 = .ok (.iload_n 1, 1) := by decide +kernel
theorem dX5_sealed_3 : decode cX5_sealed 3 = .ok (.invokestatic 101, 3) := by decide +kernel
theorem dX5_sealed_6 : decode cX5_sealed 6 = .ok (.ifCond .ne 7, 3) := by decide +kernel
theorem dX5_sealed_9 : decode cX5_sealed 9 = .ok (.iconst 1, 1) := by decide +kernel
theorem dX5_sealed_10 : decode cX5_sealed 10 = .ok (.goto 4, 3) := by decide +kernel
theorem dX5_sealed_13 : decode cX5_sealed 13 = .ok (.iconst 0, 1) := by decide +kernel
theorem dX5_sealed_14 : decode cX5_sealed 14 = .ok (.invokevirtual 107, 3) := by decide +kernel
theorem dX5_sealed_17 : decode cX5_sealed 17 = .ok (.ifCond .eq 7, 3) := by decide +kernel
theorem dX5_sealed_20 : decode cX5_sealed 20 = .ok (.iconst 0, 1) := by decide +kernel
theorem dX5_sealed_21 : decode cX5_sealed 21 = .ok (.goto 8, 3) := by decide +kernel
theorem dX5_sealed_24 : decode cX5_sealed 24 = .ok (.aload_n 0, 1) := by decide +kernel
theorem dX5_sealed_25 : decode cX5_sealed 25 = .ok (.iload_n 1, 1) := by decide +kernel
theorem dX5_sealed_26 : decode cX5_sealed 26 = .ok (.invokevirtual 201, 3) := by decide +kernel
theorem dX5_sealed_29 : decode cX5_sealed 29 = .ok (.ireturn, 1) := by decide +kernel
set_option maxRecDepth 20000 in
theorem ggX5_findSteps_X5_sideOf : GoodIn wsX5_findSteps wsX5_sideOf := goodIn_r _ [7, 8, 9, 6, 10] (by decide +kernel) (by decide +kernel)
set_option maxRecDepth 20000 in
theorem gX5_findSteps_X5_sideOf : GoodIn wsX5_findSteps (va_wsS RX5 79 yX5_sideOf wsX5_sideOf) := goodIn_app (goodIn_of _ (by decide +kernel)) ggX5_findSteps_X5_sideOf
set_option maxRecDepth 20000 in
theorem ggX5_findSteps_X5_next : GoodIn wsX5_findSteps wsX5_next := goodIn_r _ [13, 8, 9, 6, 10] (by decide +kernel) (by decide +kernel)
set_option maxRecDepth 20000 in
theorem gX5_findSteps_X5_next : GoodIn wsX5_findSteps (va_wsS RX5 120 yX5_next wsX5_next) := goodIn_app (goodIn_of _ (by decide +kernel)) ggX5_findSteps_X5_next
set_option maxRecDepth 20000 in
theorem ggX5_findSteps_X5_isOpen : GoodIn wsX5_findSteps wsX5_isOpen := goodIn_ca (goodIn_r _ [17, 2, 18, 19, 20, 6, 21, 22, 23, 24, 25, 26, 27, 28, 29, 30, 31, 32, 33, 34, 35, 36, 37, 38, 39, 40, 41, 42, 43, 44] (by decide +kernel) (by decide +kernel)) (goodIn_sub (fun _ h => List.mem_cons_of_mem _ (List.mem_append_right _ h)) (by decide +kernel))
set_option maxRecDepth 20000 in
theorem gX5_findSteps_X5_isOpen : GoodIn wsX5_findSteps (wsV RX5 75 RX5 yX5_isOpen wsX5_isOpen) := goodIn_app (goodIn_of _ (by decide +kernel)) ggX5_findSteps_X5_isOpen
theorem dX5_findSteps_0 : decode cX5_findSteps 0 = .ok (.iconst 0, 1) := by decide +kernel
theorem dX5_findSteps_1 : decode cX5_findSteps 1 = .ok (.istore_n 2, 1) := by decide +kernel
theorem dX5_findSteps_2 : decode cX5_findSteps 2 = .ok (.iconst 0, 1) := by decide +kernel
theorem dX5_findSteps_3 : decode cX5_findSteps 3 = .ok (.istore_n 3, 1) := by decide +kernel
theorem dX5_findSteps_4 : decode cX5_findSteps 4 = .ok (.iload_n 3, 1) := by decide +kernel
theorem dX5_findSteps_5 : decode cX5_findSteps 5 = .ok (.bipush 36, 2) := by decide +kernel
theorem dX5_findSteps_7 : decode cX5_findSteps 7 = .ok (.if_icmp .ge 46, 3) := by decide +kernel
theorem dX5_findSteps_10 : decode cX5_findSteps 10 = .ok (.aload_n 0, 1) := by decide +kernel
theorem dX5_findSteps_11 : decode cX5_findSteps 11 = .ok (.getfield 28, 3) := by decide +kernel
theorem dX5_findSteps_14 : decode cX5_findSteps 14 = .ok (.iload_n 3, 1) := by decide +kernel
theorem dX5_findSteps_15 : decode cX5_findSteps 15 = .ok (.iconst (-1), 1) := by decide +kernel
theorem dX5_findSteps_16 : decode cX5_findSteps 16 = .ok (.iastore, 1) := by decide +kernel
theorem dX5_findSteps_17 : decode cX5_findSteps 17 = .ok (.aload_n 0, 1) := by decide +kernel
theorem dX5_findSteps_18 : decode cX5_findSteps 18 = .ok (.getfield 9, 3) := by decide +kernel
theorem dX5_findSteps_21 : decode cX5_findSteps 21 = .ok (.iload_n 3, 1) := by decide +kernel
theorem dX5_findSteps_22 : decode cX5_findSteps 22 = .ok (.iaload, 1) := by decide +kernel
theorem dX5_findSteps_23 : decode cX5_findSteps 23 = .ok (.invokestatic 79, 3) := by decide +kernel
theorem dX5_findSteps_26 : decode cX5_findSteps 26 = .ok (.iload_n 1, 1) := by decide +kernel
theorem dX5_findSteps_27 : decode cX5_findSteps 27 = .ok (.if_icmp .ne 20, 3) := by decide +kernel
theorem dX5_findSteps_30 : decode cX5_findSteps 30 = .ok (.aload_n 0, 1) := by decide +kernel
theorem dX5_findSteps_31 : decode cX5_findSteps 31 = .ok (.getfield 28, 3) := by decide +kernel
theorem dX5_findSteps_34 : decode cX5_findSteps 34 = .ok (.iload_n 3, 1) := by decide +kernel
theorem dX5_findSteps_35 : decode cX5_findSteps 35 = .ok (.iconst 0, 1) := by decide +kernel
theorem dX5_findSteps_36 : decode cX5_findSteps 36 = .ok (.iastore, 1) := by decide +kernel
theorem dX5_findSteps_37 : decode cX5_findSteps 37 = .ok (.aload_n 0, 1) := by decide +kernel
theorem dX5_findSteps_38 : decode cX5_findSteps 38 = .ok (.getfield 25, 3) := by decide +kernel
theorem dX5_findSteps_41 : decode cX5_findSteps 41 = .ok (.iload_n 2, 1) := by decide +kernel
theorem dX5_findSteps_42 : decode cX5_findSteps 42 = .ok (.iload_n 3, 1) := by decide +kernel
theorem dX5_findSteps_43 : decode cX5_findSteps 43 = .ok (.iastore, 1) := by decide +kernel
theorem dX5_findSteps_44 : decode cX5_findSteps 44 = .ok (.iinc 2 1, 3) := by decide +kernel
theorem dX5_findSteps_47 : decode cX5_findSteps 47 = .ok (.iinc 3 1, 3) := by decide +kernel
theorem dX5_findSteps_50 : decode cX5_findSteps 50 = .ok (.goto (-46), 3) := by decide +kernel
theorem dX5_findSteps_53 : decode cX5_findSteps 53 = .ok (.iconst 0, 1) := by decide +kernel
theorem dX5_findSteps_54 : decode cX5_findSteps 54 = .ok (.istore_n 3, 1) := by decide +kernel
theorem dX5_findSteps_55 : decode cX5_findSteps 55 = .ok (.iload_n 3, 1) := by decide +kernel
theorem dX5_findSteps_56 : decode cX5_findSteps 56 = .ok (.iload_n 2, 1) := by decide +kernel
theorem dX5_findSteps_57 : decode cX5_findSteps 57 = .ok (.if_icmp .ge 93, 3) := by decide +kernel
theorem dX5_findSteps_60 : decode cX5_findSteps 60 = .ok (.iconst 0, 1) := by decide +kernel
theorem dX5_findSteps_61 : decode cX5_findSteps 61 = .ok (.istore 4, 2) := by decide +kernel
theorem dX5_findSteps_63 : decode cX5_findSteps 63 = .ok (.iload 4, 2) := by decide +kernel
theorem dX5_findSteps_65 : decode cX5_findSteps 65 = .ok (.iconst 4, 1) := by decide +kernel
theorem dX5_findSteps_66 : decode cX5_findSteps 66 = .ok (.if_icmp .ge 78, 3) := by decide +kernel
theorem dX5_findSteps_69 : decode cX5_findSteps 69 = .ok (.aload_n 0, 1) := by decide +kernel
theorem dX5_findSteps_70 : decode cX5_findSteps 70 = .ok (.getfield 25, 3) := by decide +kernel
theorem dX5_findSteps_73 : decode cX5_findSteps 73 = .ok (.iload_n 3, 1) := by decide +kernel
theorem dX5_findSteps_74 : decode cX5_findSteps 74 = .ok (.iaload, 1) := by decide +kernel
theorem dX5_findSteps_75 : decode cX5_findSteps 75 = .ok (.iload 4, 2) := by decide +kernel
theorem dX5_findSteps_77 : decode cX5_findSteps 77 = .ok (.invokestatic 120, 3) := by decide +kernel
theorem dX5_findSteps_80 : decode cX5_findSteps 80 = .ok (.istore 5, 2) := by decide +kernel
theorem dX5_findSteps_82 : decode cX5_findSteps 82 = .ok (.iload 5, 2) := by decide +kernel
theorem dX5_findSteps_84 : decode cX5_findSteps 84 = .ok (.ifCond .lt 54, 3) := by decide +kernel
theorem dX5_findSteps_87 : decode cX5_findSteps 87 = .ok (.aload_n 0, 1) := by decide +kernel
theorem dX5_findSteps_88 : decode cX5_findSteps 88 = .ok (.iload_n 1, 1) := by decide +kernel
theorem dX5_findSteps_89 : decode cX5_findSteps 89 = .ok (.iload 5, 2) := by decide +kernel
theorem dX5_findSteps_91 : decode cX5_findSteps 91 = .ok (.invokevirtual 75, 3) := by decide +kernel
theorem dX5_findSteps_94 : decode cX5_findSteps 94 = .ok (.ifCond .eq 44, 3) := by decide +kernel
theorem dX5_findSteps_97 : decode cX5_findSteps 97 = .ok (.aload_n 0, 1) := by decide +kernel
theorem dX5_findSteps_98 : decode cX5_findSteps 98 = .ok (.getfield 28, 3) := by decide +kernel
theorem dX5_findSteps_101 : decode cX5_findSteps 101 = .ok (.iload 5, 2) := by decide +kernel
theorem dX5_findSteps_103 : decode cX5_findSteps 103 = .ok (.iaload, 1) := by decide +kernel
theorem dX5_findSteps_104 : decode cX5_findSteps 104 = .ok (.ifCond .ge 34, 3) := by decide +kernel
theorem dX5_findSteps_107 : decode cX5_findSteps 107 = .ok (.aload_n 0, 1) := by decide +kernel
theorem dX5_findSteps_108 : decode cX5_findSteps 108 = .ok (.getfield 28, 3) := by decide +kernel
theorem dX5_findSteps_111 : decode cX5_findSteps 111 = .ok (.iload 5, 2) := by decide +kernel
theorem dX5_findSteps_113 : decode cX5_findSteps 113 = .ok (.aload_n 0, 1) := by decide +kernel
theorem dX5_findSteps_114 : decode cX5_findSteps 114 = .ok (.getfield 28, 3) := by decide +kernel
theorem dX5_findSteps_117 : decode cX5_findSteps 117 = .ok (.aload_n 0, 1) := by decide +kernel
theorem dX5_findSteps_118 : decode cX5_findSteps 118 = .ok (.getfield 25, 3) := by decide +kernel
theorem dX5_findSteps_121 : decode cX5_findSteps 121 = .ok (.iload_n 3, 1) := by decide +kernel
theorem dX5_findSteps_122 : decode cX5_findSteps 122 = .ok (.iaload, 1) := by decide +kernel
theorem dX5_findSteps_123 : decode cX5_findSteps 123 = .ok (.iaload, 1) := by decide +kernel
theorem dX5_findSteps_124 : decode cX5_findSteps 124 = .ok (.iconst 1, 1) := by decide +kernel
theorem dX5_findSteps_125 : decode cX5_findSteps 125 = .ok (.iadd, 1) := by decide +kernel
theorem dX5_findSteps_126 : decode cX5_findSteps 126 = .ok (.iastore, 1) := by decide +kernel
theorem dX5_findSteps_127 : decode cX5_findSteps 127 = .ok (.aload_n 0, 1) := by decide +kernel
theorem dX5_findSteps_128 : decode cX5_findSteps 128 = .ok (.getfield 25, 3) := by decide +kernel
theorem dX5_findSteps_131 : decode cX5_findSteps 131 = .ok (.iload_n 2, 1) := by decide +kernel
theorem dX5_findSteps_132 : decode cX5_findSteps 132 = .ok (.iload 5, 2) := by decide +kernel
theorem dX5_findSteps_134 : decode cX5_findSteps 134 = .ok (.iastore, 1) := by decide +kernel
theorem dX5_findSteps_135 : decode cX5_findSteps 135 = .ok (.iinc 2 1, 3) := by decide +kernel
theorem dX5_findSteps_138 : decode cX5_findSteps 138 = .ok (.iinc 4 1, 3) := by decide +kernel
theorem dX5_findSteps_141 : decode cX5_findSteps 141 = .ok (.goto (-78), 3) := by decide +kernel
theorem dX5_findSteps_144 : decode cX5_findSteps 144 = .ok (.iinc 3 1, 3) := by decide +kernel
theorem dX5_findSteps_147 : decode cX5_findSteps 147 = .ok (.goto (-92), 3) := by decide +kernel
theorem dX5_findSteps_150 : decode cX5_findSteps 150 = .ok (.return_, 1) := by decide +kernel
set_option maxRecDepth 20000 in
theorem ggX5_countOpen_X5_isOpen : GoodIn wsX5_countOpen wsX5_isOpen := goodIn_ca (goodIn_r _ [5, 6, 7, 8, 9, 4, 10, 11, 12, 13, 14, 15, 16, 17, 18, 19, 20, 21, 22, 23, 24, 25, 26, 27, 28, 29, 30, 31, 32, 33] (by decide +kernel) (by decide +kernel)) (goodIn_sub (fun _ h => List.mem_cons_of_mem _ (List.mem_append_right _ h)) (by decide +kernel))
set_option maxRecDepth 20000 in
theorem gX5_countOpen_X5_isOpen : GoodIn wsX5_countOpen (wsV RX5 75 RX5 yX5_isOpen wsX5_isOpen) := goodIn_app (goodIn_of _ (by decide +kernel)) ggX5_countOpen_X5_isOpen
theorem dX5_countOpen_0 : decode cX5_countOpen 0 = .ok (.iconst 0, 1) := by decide +kernel
theorem dX5_countOpen_1 : decode cX5_countOpen 1 = .ok (.istore_n 2, 1) := by decide +kernel
theorem dX5_countOpen_2 : decode cX5_countOpen 2 = .ok (.iconst 0, 1) := by decide +kernel
theorem dX5_countOpen_3 : decode cX5_countOpen 3 = .ok (.istore_n 3, 1) := by decide +kernel
theorem dX5_countOpen_4 : decode cX5_countOpen 4 = .ok (.iload_n 3, 1) := by decide +kernel
theorem dX5_countOpen_5 : decode cX5_countOpen 5 = .ok (.bipush 36, 2) := by decide +kernel
theorem dX5_countOpen_7 : decode cX5_countOpen 7 = .ok (.if_icmp .ge 26, 3) := by decide +kernel
theorem dX5_countOpen_10 : decode cX5_countOpen 10 = .ok (.iload_n 2, 1) := by decide +kernel
theorem dX5_countOpen_11 : decode cX5_countOpen 11 = .ok (.aload_n 0, 1) := by decide +kernel
theorem dX5_countOpen_12 : decode cX5_countOpen 12 = .ok (.iload_n 1, 1) := by decide +kernel
theorem dX5_countOpen_13 : decode cX5_countOpen 13 = .ok (.iload_n 3, 1) := by decide +kernel
theorem dX5_countOpen_14 : decode cX5_countOpen 14 = .ok (.invokevirtual 75, 3) := by decide +kernel
theorem dX5_countOpen_17 : decode cX5_countOpen 17 = .ok (.ifCond .eq 7, 3) := by decide +kernel
theorem dX5_countOpen_20 : decode cX5_countOpen 20 = .ok (.iconst 1, 1) := by decide +kernel
theorem dX5_countOpen_21 : decode cX5_countOpen 21 = .ok (.goto 4, 3) := by decide +kernel
theorem dX5_countOpen_24 : decode cX5_countOpen 24 = .ok (.iconst 0, 1) := by decide +kernel
theorem dX5_countOpen_25 : decode cX5_countOpen 25 = .ok (.iadd, 1) := by decide +kernel
theorem dX5_countOpen_26 : decode cX5_countOpen 26 = .ok (.istore_n 2, 1) := by decide +kernel
theorem dX5_countOpen_27 : decode cX5_countOpen 27 = .ok (.iinc 3 1, 3) := by decide +kernel
theorem dX5_countOpen_30 : decode cX5_countOpen 30 = .ok (.goto (-26), 3) := by decide +kernel
theorem dX5_countOpen_33 : decode cX5_countOpen 33 = .ok (.iload_n 2, 1) := by decide +kernel
theorem dX5_countOpen_34 : decode cX5_countOpen 34 = .ok (.ireturn, 1) := by decide +kernel
set_option maxRecDepth 20000 in
theorem ggX5_sealedAgain_X5_isSide : GoodIn wsX5_sealedAgain wsX5_isSide := goodIn_r _ [5, 6, 7, 4, 8] (by decide +kernel) (by decide +kernel)
set_option maxRecDepth 20000 in
theorem gX5_sealedAgain_X5_isSide : GoodIn wsX5_sealedAgain (va_wsS RX5 101 yX5_isSide wsX5_isSide) := goodIn_app (goodIn_of _ (by decide +kernel)) ggX5_sealedAgain_X5_isSide
set_option maxRecDepth 20000 in
theorem ggX5_sealedAgain_X5_fails : GoodIn wsX5_sealedAgain wsX5_fails := goodIn_r _ [12, 13, 34, 35, 36, 37, 38, 39, 40, 41, 42, 43, 44, 45, 46, 47, 48, 49, 50, 51, 52, 53, 54, 55, 56] (by decide +kernel) (by decide +kernel)
set_option maxRecDepth 20000 in
theorem gX5_sealedAgain_X5_fails : GoodIn wsX5_sealedAgain (wsV RX5 107 RX5 yX5_fails wsX5_fails) := goodIn_app (goodIn_of _ (by decide +kernel)) ggX5_sealedAgain_X5_fails
set_option maxRecDepth 20000 in
theorem ggX5_sealedAgain_X5_findSteps : GoodIn wsX5_sealedAgain wsX5_findSteps := goodIn_ca (goodIn_r _ [17, 1, 18, 19, 20, 21, 4, 22, 6, 7, 8, 23, 24, 25, 26, 27, 28, 29, 30, 31, 32, 33, 34, 35, 36, 37, 38, 39, 40, 41, 42, 43, 44, 45, 46, 47, 48, 49, 50, 51, 52, 53, 54, 55, 56] (by decide +kernel) (by decide +kernel)) (goodIn_sub (fun _ h => List.mem_cons_of_mem _ (List.mem_append_right _ h)) (by decide +kernel))
set_option maxRecDepth 20000 in
theorem gX5_sealedAgain_X5_findSteps : GoodIn wsX5_sealedAgain (wsV RX5 228 RX5 yX5_findSteps wsX5_findSteps) := goodIn_app (goodIn_of _ (by decide +kernel)) ggX5_sealedAgain_X5_findSteps
set_option maxRecDepth 20000 in
theorem ggX5_sealedAgain_X5_isOpen : GoodIn wsX5_sealedAgain wsX5_isOpen := goodIn_ca (goodIn_r _ [29, 18, 30, 31, 32, 4, 33, 34, 35, 36, 37, 38, 39, 40, 41, 42, 43, 44, 45, 46, 47, 48, 49, 50, 51, 52, 53, 54, 55, 56] (by decide +kernel) (by decide +kernel)) (goodIn_sub (fun _ h => List.mem_cons_of_mem _ (List.mem_append_right _ h)) (by decide +kernel))
set_option maxRecDepth 20000 in
theorem gX5_sealedAgain_X5_isOpen : GoodIn wsX5_sealedAgain (wsV RX5 75 RX5 yX5_isOpen wsX5_isOpen) := goodIn_app (goodIn_of _ (by decide +kernel)) ggX5_sealedAgain_X5_isOpen
theorem dX5_sealedAgain_0 : decode cX5_sealedAgain 0 = .ok (.aload_n 0, 1) := by decide +kernel
theorem dX5_sealedAgain_1 : decode cX5_sealedAgain 1 = .ok (.iconst 1, 1) := by decide +kernel
theorem dX5_sealedAgain_2 : decode cX5_sealedAgain 2 = .ok (.iload_n 1, 1) := by decide +kernel
theorem dX5_sealedAgain_3 : decode cX5_sealedAgain 3 = .ok (.invokestatic 101, 3) := by decide +kernel
theorem dX5_sealedAgain_6 : decode cX5_sealedAgain 6 = .ok (.ifCond .ne 7, 3) := by decide +kernel
theorem dX5_sealedAgain_9 : decode cX5_sealedAgain 9 = .ok (.iconst 1, 1) := by decide +kernel
theorem dX5_sealedAgain_10 : decode cX5_sealedAgain 10 = .ok (.goto 4, 3) := by decide +kernel
theorem dX5_sealedAgain_13 : decode cX5_sealedAgain 13 = .ok (.iconst 0, 1) := by decide +kernel
theorem dX5_sealedAgain_14 : decode cX5_sealedAgain 14 = .ok (.invokevirtual 107, 3) := by decide +kernel
theorem dX5_sealedAgain_17 : decode cX5_sealedAgain 17 = .ok (.ifCond .eq 5, 3) := by decide +kernel
theorem dX5_sealedAgain_20 : decode cX5_sealedAgain 20 = .ok (.iconst 0, 1) := by decide +kernel
theorem dX5_sealedAgain_21 : decode cX5_sealedAgain 21 = .ok (.ireturn, 1) := by decide +kernel
theorem dX5_sealedAgain_22 : decode cX5_sealedAgain 22 = .ok (.aload_n 0, 1) := by decide +kernel
theorem dX5_sealedAgain_23 : decode cX5_sealedAgain 23 = .ok (.iload_n 1, 1) := by decide +kernel
theorem dX5_sealedAgain_24 : decode cX5_sealedAgain 24 = .ok (.invokevirtual 228, 3) := by decide +kernel
theorem dX5_sealedAgain_27 : decode cX5_sealedAgain 27 = .ok (.iconst 0, 1) := by decide +kernel
theorem dX5_sealedAgain_28 : decode cX5_sealedAgain 28 = .ok (.istore_n 2, 1) := by decide +kernel
theorem dX5_sealedAgain_29 : decode cX5_sealedAgain 29 = .ok (.iconst 0, 1) := by decide +kernel
theorem dX5_sealedAgain_30 : decode cX5_sealedAgain 30 = .ok (.istore_n 3, 1) := by decide +kernel
theorem dX5_sealedAgain_31 : decode cX5_sealedAgain 31 = .ok (.iload_n 3, 1) := by decide +kernel
theorem dX5_sealedAgain_32 : decode cX5_sealedAgain 32 = .ok (.bipush 36, 2) := by decide +kernel
theorem dX5_sealedAgain_34 : decode cX5_sealedAgain 34 = .ok (.if_icmp .ge 35, 3) := by decide +kernel
theorem dX5_sealedAgain_37 : decode cX5_sealedAgain 37 = .ok (.iload_n 2, 1) := by decide +kernel
theorem dX5_sealedAgain_38 : decode cX5_sealedAgain 38 = .ok (.aload_n 0, 1) := by decide +kernel
theorem dX5_sealedAgain_39 : decode cX5_sealedAgain 39 = .ok (.iload_n 1, 1) := by decide +kernel
theorem dX5_sealedAgain_40 : decode cX5_sealedAgain 40 = .ok (.iload_n 3, 1) := by decide +kernel
theorem dX5_sealedAgain_41 : decode cX5_sealedAgain 41 = .ok (.invokevirtual 75, 3) := by decide +kernel
theorem dX5_sealedAgain_44 : decode cX5_sealedAgain 44 = .ok (.ifCond .eq 16, 3) := by decide +kernel
theorem dX5_sealedAgain_47 : decode cX5_sealedAgain 47 = .ok (.aload_n 0, 1) := by decide +kernel
theorem dX5_sealedAgain_48 : decode cX5_sealedAgain 48 = .ok (.getfield 28, 3) := by decide +kernel
theorem dX5_sealedAgain_51 : decode cX5_sealedAgain 51 = .ok (.iload_n 3, 1) := by decide +kernel
theorem dX5_sealedAgain_52 : decode cX5_sealedAgain 52 = .ok (.iaload, 1) := by decide +kernel
theorem dX5_sealedAgain_53 : decode cX5_sealedAgain 53 = .ok (.ifCond .ge 7, 3) := by decide +kernel
theorem dX5_sealedAgain_56 : decode cX5_sealedAgain 56 = .ok (.iconst 1, 1) := by decide +kernel
theorem dX5_sealedAgain_57 : decode cX5_sealedAgain 57 = .ok (.goto 4, 3) := by decide +kernel
theorem dX5_sealedAgain_60 : decode cX5_sealedAgain 60 = .ok (.iconst 0, 1) := by decide +kernel
theorem dX5_sealedAgain_61 : decode cX5_sealedAgain 61 = .ok (.iadd, 1) := by decide +kernel
theorem dX5_sealedAgain_62 : decode cX5_sealedAgain 62 = .ok (.istore_n 2, 1) := by decide +kernel
theorem dX5_sealedAgain_63 : decode cX5_sealedAgain 63 = .ok (.iinc 3 1, 3) := by decide +kernel
theorem dX5_sealedAgain_66 : decode cX5_sealedAgain 66 = .ok (.goto (-35), 3) := by decide +kernel
theorem dX5_sealedAgain_69 : decode cX5_sealedAgain 69 = .ok (.iload_n 2, 1) := by decide +kernel
theorem dX5_sealedAgain_70 : decode cX5_sealedAgain 70 = .ok (.ireturn, 1) := by decide +kernel
set_option maxRecDepth 20000 in
theorem ggX5_steps_X5_isSide : GoodIn wsX5_steps wsX5_isSide := goodIn_r _ [5, 6, 7, 4, 8] (by decide +kernel) (by decide +kernel)
set_option maxRecDepth 20000 in
theorem gX5_steps_X5_isSide : GoodIn wsX5_steps (va_wsS RX5 101 yX5_isSide wsX5_isSide) := goodIn_app (goodIn_of _ (by decide +kernel)) ggX5_steps_X5_isSide
set_option maxRecDepth 20000 in
theorem ggX5_steps_X5_isSquare : GoodIn wsX5_steps wsX5_isSquare := goodIn_r _ [11, 6, 7, 4, 8] (by decide +kernel) (by decide +kernel)
set_option maxRecDepth 20000 in
theorem gX5_steps_X5_isSquare : GoodIn wsX5_steps (va_wsS RX5 104 yX5_isSquare wsX5_isSquare) := goodIn_app (goodIn_of _ (by decide +kernel)) ggX5_steps_X5_isSquare
set_option maxRecDepth 20000 in
theorem ggX5_steps_X5_fails : GoodIn wsX5_steps wsX5_fails := goodIn_r _ [15, 16, 37, 38, 39, 40, 41, 42, 43, 44, 45, 46, 47, 48, 49, 50, 51, 52, 53, 54, 55, 56, 57, 58, 59] (by decide +kernel) (by decide +kernel)
set_option maxRecDepth 20000 in
theorem gX5_steps_X5_fails : GoodIn wsX5_steps (wsV RX5 107 RX5 yX5_fails wsX5_fails) := goodIn_app (goodIn_of _ (by decide +kernel)) ggX5_steps_X5_fails
set_option maxRecDepth 20000 in
theorem ggX5_steps_X5_findSteps : GoodIn wsX5_steps wsX5_findSteps := goodIn_ca (goodIn_r _ [20, 1, 21, 22, 23, 24, 4, 25, 6, 7, 8, 26, 27, 28, 29, 30, 31, 32, 33, 34, 35, 36, 37, 38, 39, 40, 41, 42, 43, 44, 45, 46, 47, 48, 49, 50, 51, 52, 53, 54, 55, 56, 57, 58, 59] (by decide +kernel) (by decide +kernel)) (goodIn_sub (fun _ h => List.mem_cons_of_mem _ (List.mem_append_right _ h)) (by decide +kernel))
set_option maxRecDepth 20000 in
theorem gX5_steps_X5_findSteps : GoodIn wsX5_steps (wsV RX5 228 RX5 yX5_findSteps wsX5_findSteps) := goodIn_app (goodIn_of _ (by decide +kernel)) ggX5_steps_X5_findSteps
theorem dX5_steps_0 : decode cX5_steps 0 = .ok (.aload_n 0, 1) := by decide +kernel
theorem dX5_steps_1 : decode cX5_steps 1 = .ok (.iconst 1, 1) := by decide +kernel
theorem dX5_steps_2 : decode cX5_steps 2 = .ok (.iload_n 1, 1) := by decide +kernel
theorem dX5_steps_3 : decode cX5_steps 3 = .ok (.invokestatic 101, 3) := by decide +kernel
theorem dX5_steps_6 : decode cX5_steps 6 = .ok (.ifCond .eq 10, 3) := by decide +kernel
theorem dX5_steps_9 : decode cX5_steps 9 = .ok (.iload_n 2, 1) := by decide +kernel
theorem dX5_steps_10 : decode cX5_steps 10 = .ok (.invokestatic 104, 3) := by decide +kernel
theorem dX5_steps_13 : decode cX5_steps 13 = .ok (.ifCond .ne 7, 3) := by decide +kernel
theorem dX5_steps_16 : decode cX5_steps 16 = .ok (.iconst 1, 1) := by decide +kernel
theorem dX5_steps_17 : decode cX5_steps 17 = .ok (.goto 4, 3) := by decide +kernel
theorem dX5_steps_20 : decode cX5_steps 20 = .ok (.iconst 0, 1) := by decide +kernel
theorem dX5_steps_21 : decode cX5_steps 21 = .ok (.invokevirtual 107, 3) := by decide +kernel
theorem dX5_steps_24 : decode cX5_steps 24 = .ok (.ifCond .eq 5, 3) := by decide +kernel
theorem dX5_steps_27 : decode cX5_steps 27 = .ok (.iconst 0, 1) := by decide +kernel
theorem dX5_steps_28 : decode cX5_steps 28 = .ok (.ireturn, 1) := by decide +kernel
theorem dX5_steps_29 : decode cX5_steps 29 = .ok (.aload_n 0, 1) := by decide +kernel
theorem dX5_steps_30 : decode cX5_steps 30 = .ok (.iload_n 1, 1) := by decide +kernel
theorem dX5_steps_31 : decode cX5_steps 31 = .ok (.invokevirtual 228, 3) := by decide +kernel
theorem dX5_steps_34 : decode cX5_steps 34 = .ok (.aload_n 0, 1) := by decide +kernel
theorem dX5_steps_35 : decode cX5_steps 35 = .ok (.iconst 2, 1) := by decide +kernel
theorem dX5_steps_36 : decode cX5_steps 36 = .ok (.aload_n 0, 1) := by decide +kernel
theorem dX5_steps_37 : decode cX5_steps 37 = .ok (.getfield 28, 3) := by decide +kernel
theorem dX5_steps_40 : decode cX5_steps 40 = .ok (.iload_n 2, 1) := by decide +kernel
theorem dX5_steps_41 : decode cX5_steps 41 = .ok (.iaload, 1) := by decide +kernel
theorem dX5_steps_42 : decode cX5_steps 42 = .ok (.ifCond .ge 7, 3) := by decide +kernel
theorem dX5_steps_45 : decode cX5_steps 45 = .ok (.iconst 1, 1) := by decide +kernel
theorem dX5_steps_46 : decode cX5_steps 46 = .ok (.goto 4, 3) := by decide +kernel
theorem dX5_steps_49 : decode cX5_steps 49 = .ok (.iconst 0, 1) := by decide +kernel
theorem dX5_steps_50 : decode cX5_steps 50 = .ok (.invokevirtual 107, 3) := by decide +kernel
theorem dX5_steps_53 : decode cX5_steps 53 = .ok (.ifCond .eq 7, 3) := by decide +kernel
theorem dX5_steps_56 : decode cX5_steps 56 = .ok (.iconst 0, 1) := by decide +kernel
theorem dX5_steps_57 : decode cX5_steps 57 = .ok (.goto 9, 3) := by decide +kernel
theorem dX5_steps_60 : decode cX5_steps 60 = .ok (.aload_n 0, 1) := by decide +kernel
theorem dX5_steps_61 : decode cX5_steps 61 = .ok (.getfield 28, 3) := by decide +kernel
theorem dX5_steps_64 : decode cX5_steps 64 = .ok (.iload_n 2, 1) := by decide +kernel
theorem dX5_steps_65 : decode cX5_steps 65 = .ok (.iaload, 1) := by decide +kernel
theorem dX5_steps_66 : decode cX5_steps 66 = .ok (.ireturn, 1) := by decide +kernel
set_option maxRecDepth 20000 in
theorem ggX5_sealedShare_X5_isSide : GoodIn wsX5_sealedShare wsX5_isSide := goodIn_r _ [4, 5, 6, 3, 7] (by decide +kernel) (by decide +kernel)
set_option maxRecDepth 20000 in
theorem gX5_sealedShare_X5_isSide : GoodIn wsX5_sealedShare (va_wsS RX5 101 yX5_isSide wsX5_isSide) := goodIn_app (goodIn_of _ (by decide +kernel)) ggX5_sealedShare_X5_isSide
set_option maxRecDepth 20000 in
theorem ggX5_sealedShare_X5_fails : GoodIn wsX5_sealedShare wsX5_fails := goodIn_r _ [11, 12, 55, 56, 57, 58, 59, 60, 61, 62, 63, 64, 65, 66, 67, 68, 69, 70, 71, 72, 73, 74, 75, 76, 77] (by decide +kernel) (by decide +kernel)
set_option maxRecDepth 20000 in
theorem gX5_sealedShare_X5_fails : GoodIn wsX5_sealedShare (wsV RX5 107 RX5 yX5_fails wsX5_fails) := goodIn_app (goodIn_of _ (by decide +kernel)) ggX5_sealedShare_X5_fails
set_option maxRecDepth 20000 in
theorem ggX5_sealedShare_X5_countOpen : GoodIn wsX5_sealedShare wsX5_countOpen := goodIn_ca (goodIn_r _ [16, 17, 18, 19, 3, 20, 21, 22, 23, 24, 25, 55, 56, 57, 58, 59, 60, 61, 62, 63, 64, 65, 66, 67, 68, 69, 70, 71, 72, 73, 74, 75, 76, 77] (by decide +kernel) (by decide +kernel)) (goodIn_sub (fun _ h => List.mem_cons_of_mem _ (List.mem_append_right _ h)) (by decide +kernel))
set_option maxRecDepth 20000 in
theorem gX5_sealedShare_X5_countOpen : GoodIn wsX5_sealedShare (wsV RX5 231 RX5 yX5_countOpen wsX5_countOpen) := goodIn_app (goodIn_of _ (by decide +kernel)) ggX5_sealedShare_X5_countOpen
set_option maxRecDepth 20000 in
theorem ggX5_sealedShare_X5_countSealed : GoodIn wsX5_sealedShare wsX5_countSealed := goodIn_ca (goodIn_r _ [29, 30, 31, 32, 33, 3, 34, 35, 17, 18, 19, 20, 21, 22, 23, 24, 25, 36, 37, 38, 39, 40, 41, 42, 43, 5, 6, 7, 44, 45, 46, 47, 48, 49, 50, 51, 52, 53, 54, 55, 56, 57, 58, 59, 60, 61, 62, 63, 64, 65, 66, 67, 68, 69, 70, 71, 72, 73, 74, 75, 76, 77] (by decide +kernel) (by decide +kernel)) (goodIn_sub (fun _ h => List.mem_cons_of_mem _ (List.mem_append_right _ h)) (by decide +kernel))
set_option maxRecDepth 20000 in
theorem gX5_sealedShare_X5_countSealed : GoodIn wsX5_sealedShare (wsV RX5 201 RX5 yX5_countSealed wsX5_countSealed) := goodIn_app (goodIn_of _ (by decide +kernel)) ggX5_sealedShare_X5_countSealed
theorem dX5_sealedShare_0 : decode cX5_sealedShare 0 = .ok (.aload_n 0, 1) := by decide +kernel
theorem dX5_sealedShare_1 : decode cX5_sealedShare 1 = .ok (.iconst 1, 1) := by decide +kernel
theorem dX5_sealedShare_2 : decode cX5_sealedShare 2 = .ok (.iload_n 1, 1) := by decide +kernel
theorem dX5_sealedShare_3 : decode cX5_sealedShare 3 = .ok (.invokestatic 101, 3) := by decide +kernel
theorem dX5_sealedShare_6 : decode cX5_sealedShare 6 = .ok (.ifCond .ne 7, 3) := by decide +kernel
theorem dX5_sealedShare_9 : decode cX5_sealedShare 9 = .ok (.iconst 1, 1) := by decide +kernel
theorem dX5_sealedShare_10 : decode cX5_sealedShare 10 = .ok (.goto 4, 3) := by decide +kernel
theorem dX5_sealedShare_13 : decode cX5_sealedShare 13 = .ok (.iconst 0, 1) := by decide +kernel
theorem dX5_sealedShare_14 : decode cX5_sealedShare 14 = .ok (.invokevirtual 107, 3) := by decide +kernel
theorem dX5_sealedShare_17 : decode cX5_sealedShare 17 = .ok (.ifCond .ne 24, 3) := by decide +kernel
theorem dX5_sealedShare_20 : decode cX5_sealedShare 20 = .ok (.aload_n 0, 1) := by decide +kernel
theorem dX5_sealedShare_21 : decode cX5_sealedShare 21 = .ok (.iconst 2, 1) := by decide +kernel
theorem dX5_sealedShare_22 : decode cX5_sealedShare 22 = .ok (.aload_n 0, 1) := by decide +kernel
theorem dX5_sealedShare_23 : decode cX5_sealedShare 23 = .ok (.iload_n 1, 1) := by decide +kernel
theorem dX5_sealedShare_24 : decode cX5_sealedShare 24 = .ok (.invokevirtual 231, 3) := by decide +kernel
theorem dX5_sealedShare_27 : decode cX5_sealedShare 27 = .ok (.ifCond .ne 7, 3) := by decide +kernel
theorem dX5_sealedShare_30 : decode cX5_sealedShare 30 = .ok (.iconst 1, 1) := by decide +kernel
theorem dX5_sealedShare_31 : decode cX5_sealedShare 31 = .ok (.goto 4, 3) := by decide +kernel
theorem dX5_sealedShare_34 : decode cX5_sealedShare 34 = .ok (.iconst 0, 1) := by decide +kernel
theorem dX5_sealedShare_35 : decode cX5_sealedShare 35 = .ok (.invokevirtual 107, 3) := by decide +kernel
theorem dX5_sealedShare_38 : decode cX5_sealedShare 38 = .ok (.ifCond .eq 5, 3) := by decide +kernel
theorem dX5_sealedShare_41 : decode cX5_sealedShare 41 = .ok (.dconst 0, 1) := by decide +kernel
theorem dX5_sealedShare_42 : decode cX5_sealedShare 42 = .ok (.dreturn, 1) := by decide +kernel
theorem dX5_sealedShare_43 : decode cX5_sealedShare 43 = .ok (.aload_n 0, 1) := by decide +kernel
theorem dX5_sealedShare_44 : decode cX5_sealedShare 44 = .ok (.iload_n 1, 1) := by decide +kernel
theorem dX5_sealedShare_45 : decode cX5_sealedShare 45 = .ok (.invokevirtual 201, 3) := by decide +kernel
theorem dX5_sealedShare_48 : decode cX5_sealedShare 48 = .ok (.i2d, 1) := by decide +kernel
theorem dX5_sealedShare_49 : decode cX5_sealedShare 49 = .ok (.aload_n 0, 1) := by decide +kernel
theorem dX5_sealedShare_50 : decode cX5_sealedShare 50 = .ok (.iload_n 1, 1) := by decide +kernel
theorem dX5_sealedShare_51 : decode cX5_sealedShare 51 = .ok (.invokevirtual 231, 3) := by decide +kernel
theorem dX5_sealedShare_54 : decode cX5_sealedShare 54 = .ok (.i2d, 1) := by decide +kernel
theorem dX5_sealedShare_55 : decode cX5_sealedShare 55 = .ok (.ddiv, 1) := by decide +kernel
theorem dX5_sealedShare_56 : decode cX5_sealedShare 56 = .ok (.dreturn, 1) := by decide +kernel
set_option maxRecDepth 20000 in
theorem ggX5_append_X5_isBetween : GoodIn wsX5_append wsX5_isBetween := goodIn_r _ [6] (by decide +kernel) (by decide +kernel)
set_option maxRecDepth 20000 in
theorem gX5_append_X5_isBetween : GoodIn wsX5_append (va_wsS RX5 67 yX5_isBetween wsX5_isBetween) := goodIn_app (goodIn_of _ (by decide +kernel)) ggX5_append_X5_isBetween
set_option maxRecDepth 20000 in
theorem ggX5_append_X5_fails : GoodIn wsX5_append wsX5_fails := goodIn_r _ [10, 11, 12, 13, 14, 15, 16, 17, 18, 19, 20, 21, 22, 23, 24, 25, 26, 27, 28, 29, 30, 31, 32, 33, 34] (by decide +kernel) (by decide +kernel)
set_option maxRecDepth 20000 in
theorem gX5_append_X5_fails : GoodIn wsX5_append (wsV RX5 107 RX5 yX5_fails wsX5_fails) := goodIn_app (goodIn_of _ (by decide +kernel)) ggX5_append_X5_fails
theorem dX5_append_0 : decode cX5_append 0 = .ok (.aload_n 0, 1) := by decide +kernel
theorem dX5_append_1 : decode cX5_append 1 = .ok (.iconst 1, 1) := by decide +kernel
theorem dX5_append_2 : decode cX5_append 2 = .ok (.iload_n 1, 1) := by decide +kernel
theorem dX5_append_3 : decode cX5_append 3 = .ok (.bipush 32, 2) := by decide +kernel
theorem dX5_append_5 : decode cX5_append 5 = .ok (.bipush 126, 2) := by decide +kernel
theorem dX5_append_7 : decode cX5_append 7 = .ok (.invokestatic 67, 3) := by decide +kernel
theorem dX5_append_10 : decode cX5_append 10 = .ok (.ifCond .ne 7, 3) := by decide +kernel
theorem dX5_append_13 : decode cX5_append 13 = .ok (.iconst 1, 1) := by decide +kernel
theorem dX5_append_14 : decode cX5_append 14 = .ok (.goto 4, 3) := by decide +kernel
theorem dX5_append_17 : decode cX5_append 17 = .ok (.iconst 0, 1) := by decide +kernel
theorem dX5_append_18 : decode cX5_append 18 = .ok (.invokevirtual 107, 3) := by decide +kernel
theorem dX5_append_21 : decode cX5_append 21 = .ok (.ifCond .ne 25, 3) := by decide +kernel
theorem dX5_append_24 : decode cX5_append 24 = .ok (.aload_n 0, 1) := by decide +kernel
theorem dX5_append_25 : decode cX5_append 25 = .ok (.iconst 2, 1) := by decide +kernel
theorem dX5_append_26 : decode cX5_append 26 = .ok (.aload_n 0, 1) := by decide +kernel
theorem dX5_append_27 : decode cX5_append 27 = .ok (.getfield 234, 3) := by decide +kernel
theorem dX5_append_30 : decode cX5_append 30 = .ok (.bipush 60, 2) := by decide +kernel
theorem dX5_append_32 : decode cX5_append 32 = .ok (.if_icmp .ne 7, 3) := by decide +kernel
theorem dX5_append_35 : decode cX5_append 35 = .ok (.iconst 1, 1) := by decide +kernel
theorem dX5_append_36 : decode cX5_append 36 = .ok (.goto 4, 3) := by decide +kernel
theorem dX5_append_39 : decode cX5_append 39 = .ok (.iconst 0, 1) := by decide +kernel
theorem dX5_append_40 : decode cX5_append 40 = .ok (.invokevirtual 107, 3) := by decide +kernel
theorem dX5_append_43 : decode cX5_append 43 = .ok (.ifCond .eq 5, 3) := by decide +kernel
theorem dX5_append_46 : decode cX5_append 46 = .ok (.iconst 0, 1) := by decide +kernel
theorem dX5_append_47 : decode cX5_append 47 = .ok (.ireturn, 1) := by decide +kernel
theorem dX5_append_48 : decode cX5_append 48 = .ok (.aload_n 0, 1) := by decide +kernel
theorem dX5_append_49 : decode cX5_append 49 = .ok (.getfield 37, 3) := by decide +kernel
theorem dX5_append_52 : decode cX5_append 52 = .ok (.aload_n 0, 1) := by decide +kernel
theorem dX5_append_53 : decode cX5_append 53 = .ok (.getfield 234, 3) := by decide +kernel
theorem dX5_append_56 : decode cX5_append 56 = .ok (.iload_n 1, 1) := by decide +kernel
theorem dX5_append_57 : decode cX5_append 57 = .ok (.castore, 1) := by decide +kernel
theorem dX5_append_58 : decode cX5_append 58 = .ok (.aload_n 0, 1) := by decide +kernel
theorem dX5_append_59 : decode cX5_append 59 = .ok (.dup, 1) := by decide +kernel
theorem dX5_append_60 : decode cX5_append 60 = .ok (.getfield 234, 3) := by decide +kernel
theorem dX5_append_63 : decode cX5_append 63 = .ok (.iconst 1, 1) := by decide +kernel
theorem dX5_append_64 : decode cX5_append 64 = .ok (.iadd, 1) := by decide +kernel
theorem dX5_append_65 : decode cX5_append 65 = .ok (.putfield 234, 3) := by decide +kernel
theorem dX5_append_68 : decode cX5_append 68 = .ok (.aload_n 0, 1) := by decide +kernel
theorem dX5_append_69 : decode cX5_append 69 = .ok (.getfield 234, 3) := by decide +kernel
theorem dX5_append_72 : decode cX5_append 72 = .ok (.ireturn, 1) := by decide +kernel
set_option maxRecDepth 20000 in
theorem ggX5_sees_X5_isBetween : GoodIn wsX5_sees wsX5_isBetween := goodIn_r _ [8] (by decide +kernel) (by decide +kernel)
set_option maxRecDepth 20000 in
theorem gX5_sees_X5_isBetween : GoodIn wsX5_sees (va_wsS RX5 67 yX5_isBetween wsX5_isBetween) := goodIn_app (goodIn_of _ (by decide +kernel)) ggX5_sees_X5_isBetween
theorem dX5_sees_0 : decode cX5_sees 0 = .ok (.aload_n 0, 1) := by decide +kernel
theorem dX5_sees_1 : decode cX5_sees 1 = .ok (.getfield 237, 3) := by decide +kernel
theorem dX5_sees_4 : decode cX5_sees 4 = .ok (.ifCond .ne 35, 3) := by decide +kernel
theorem dX5_sees_7 : decode cX5_sees 7 = .ok (.aload_n 0, 1) := by decide +kernel
theorem dX5_sees_8 : decode cX5_sees 8 = .ok (.getfield 240, 3) := by decide +kernel
theorem dX5_sees_11 : decode cX5_sees 11 = .ok (.aload_n 0, 1) := by decide +kernel
theorem dX5_sees_12 : decode cX5_sees 12 = .ok (.getfield 234, 3) := by decide +kernel
theorem dX5_sees_15 : decode cX5_sees 15 = .ok (.if_icmp .ge 24, 3) := by decide +kernel
theorem dX5_sees_18 : decode cX5_sees 18 = .ok (.aload_n 0, 1) := by decide +kernel
theorem dX5_sees_19 : decode cX5_sees 19 = .ok (.getfield 37, 3) := by decide +kernel
theorem dX5_sees_22 : decode cX5_sees 22 = .ok (.aload_n 0, 1) := by decide +kernel
theorem dX5_sees_23 : decode cX5_sees 23 = .ok (.getfield 240, 3) := by decide +kernel
theorem dX5_sees_26 : decode cX5_sees 26 = .ok (.caload, 1) := by decide +kernel
theorem dX5_sees_27 : decode cX5_sees 27 = .ok (.iload_n 1, 1) := by decide +kernel
theorem dX5_sees_28 : decode cX5_sees 28 = .ok (.iload_n 2, 1) := by decide +kernel
theorem dX5_sees_29 : decode cX5_sees 29 = .ok (.invokestatic 67, 3) := by decide +kernel
theorem dX5_sees_32 : decode cX5_sees 32 = .ok (.ifCond .eq 7, 3) := by decide +kernel
theorem dX5_sees_35 : decode cX5_sees 35 = .ok (.iconst 1, 1) := by decide +kernel
theorem dX5_sees_36 : decode cX5_sees 36 = .ok (.goto 4, 3) := by decide +kernel
theorem dX5_sees_39 : decode cX5_sees 39 = .ok (.iconst 0, 1) := by decide +kernel
theorem dX5_sees_40 : decode cX5_sees 40 = .ok (.ireturn, 1) := by decide +kernel
set_option maxRecDepth 20000 in
theorem ggX5_takes_X5_sees : GoodIn wsX5_takes wsX5_sees := goodIn_ca (goodIn_r _ [6, 7, 1, 8, 9, 10, 11, 5, 12, 13, 14, 15, 16, 17, 18, 19, 20, 21, 22, 23, 24, 25, 26, 27, 28, 29, 30, 31, 32, 33, 34, 35] (by decide +kernel) (by decide +kernel)) (goodIn_sub (fun _ h => List.mem_cons_of_mem _ (List.mem_append_right _ h)) (by decide +kernel))
set_option maxRecDepth 20000 in
theorem gX5_takes_X5_sees : GoodIn wsX5_takes (wsV RX5 243 RX5 yX5_sees wsX5_sees) := goodIn_app (goodIn_of _ (by decide +kernel)) ggX5_takes_X5_sees
theorem dX5_takes_0 : decode cX5_takes 0 = .ok (.aload_n 0, 1) := by decide +kernel
theorem dX5_takes_1 : decode cX5_takes 1 = .ok (.iload_n 1, 1) := by decide +kernel
theorem dX5_takes_2 : decode cX5_takes 2 = .ok (.iload_n 1, 1) := by decide +kernel
theorem dX5_takes_3 : decode cX5_takes 3 = .ok (.invokevirtual 243, 3) := by decide +kernel
theorem dX5_takes_6 : decode cX5_takes 6 = .ok (.istore_n 2, 1) := by decide +kernel
theorem dX5_takes_7 : decode cX5_takes 7 = .ok (.aload_n 0, 1) := by decide +kernel
theorem dX5_takes_8 : decode cX5_takes 8 = .ok (.dup, 1) := by decide +kernel
theorem dX5_takes_9 : decode cX5_takes 9 = .ok (.getfield 240, 3) := by decide +kernel
theorem dX5_takes_12 : decode cX5_takes 12 = .ok (.iload_n 2, 1) := by decide +kernel
theorem dX5_takes_13 : decode cX5_takes 13 = .ok (.ifCond .eq 7, 3) := by decide +kernel
theorem dX5_takes_16 : decode cX5_takes 16 = .ok (.iconst 1, 1) := by decide +kernel
theorem dX5_takes_17 : decode cX5_takes 17 = .ok (.goto 4, 3) := by decide +kernel
theorem dX5_takes_20 : decode cX5_takes 20 = .ok (.iconst 0, 1) := by decide +kernel
theorem dX5_takes_21 : decode cX5_takes 21 = .ok (.iadd, 1) := by decide +kernel
theorem dX5_takes_22 : decode cX5_takes 22 = .ok (.putfield 240, 3) := by decide +kernel
theorem dX5_takes_25 : decode cX5_takes 25 = .ok (.iload_n 2, 1) := by decide +kernel
theorem dX5_takes_26 : decode cX5_takes 26 = .ok (.ireturn, 1) := by decide +kernel
set_option maxRecDepth 20000 in
theorem ggX5_readSquare_X5_sees : GoodIn wsX5_readSquare wsX5_sees := goodIn_ca (goodIn_r _ [8, 1, 3, 9, 2, 10, 11, 7, 12, 13, 14, 15, 16, 17, 18, 19, 20, 21, 22, 23, 24, 25, 26, 27, 28, 29, 30, 31, 32, 33, 34, 35] (by decide +kernel) (by decide +kernel)) (goodIn_sub (fun _ h => List.mem_cons_of_mem _ (List.mem_append_right _ h)) (by decide +kernel))
set_option maxRecDepth 20000 in
theorem gX5_readSquare_X5_sees : GoodIn wsX5_readSquare (wsV RX5 243 RX5 yX5_sees wsX5_sees) := goodIn_app (goodIn_of _ (by decide +kernel)) ggX5_readSquare_X5_sees
theorem dX5_readSquare_0 : decode cX5_readSquare 0 = .ok (.aload_n 0, 1) := by decide +kernel
theorem dX5_readSquare_1 : decode cX5_readSquare 1 = .ok (.dup, 1) := by decide +kernel
theorem dX5_readSquare_2 : decode cX5_readSquare 2 = .ok (.getfield 237, 3) := by decide +kernel
theorem dX5_readSquare_5 : decode cX5_readSquare 5 = .ok (.aload_n 0, 1) := by decide +kernel
theorem dX5_readSquare_6 : decode cX5_readSquare 6 = .ok (.bipush 97, 2) := by decide +kernel
theorem dX5_readSquare_8 : decode cX5_readSquare 8 = .ok (.bipush 102, 2) := by decide +kernel
theorem dX5_readSquare_10 : decode cX5_readSquare 10 = .ok (.invokevirtual 243, 3) := by decide +kernel
theorem dX5_readSquare_13 : decode cX5_readSquare 13 = .ok (.ifCond .ne 7, 3) := by decide +kernel
theorem dX5_readSquare_16 : decode cX5_readSquare 16 = .ok (.iconst 1, 1) := by decide +kernel
theorem dX5_readSquare_17 : decode cX5_readSquare 17 = .ok (.goto 4, 3) := by decide +kernel
theorem dX5_readSquare_20 : decode cX5_readSquare 20 = .ok (.iconst 0, 1) := by decide +kernel
theorem dX5_readSquare_21 : decode cX5_readSquare 21 = .ok (.ior, 1) := by decide +kernel
theorem dX5_readSquare_22 : decode cX5_readSquare 22 = .ok (.putfield 237, 3) := by decide +kernel
theorem dX5_readSquare_25 : decode cX5_readSquare 25 = .ok (.aload_n 0, 1) := by decide +kernel
theorem dX5_readSquare_26 : decode cX5_readSquare 26 = .ok (.getfield 237, 3) := by decide +kernel
theorem dX5_readSquare_29 : decode cX5_readSquare 29 = .ok (.ifCond .eq 7, 3) := by decide +kernel
theorem dX5_readSquare_32 : decode cX5_readSquare 32 = .ok (.iconst 0, 1) := by decide +kernel
theorem dX5_readSquare_33 : decode cX5_readSquare 33 = .ok (.goto 15, 3) := by decide +kernel
theorem dX5_readSquare_36 : decode cX5_readSquare 36 = .ok (.aload_n 0, 1) := by decide +kernel
theorem dX5_readSquare_37 : decode cX5_readSquare 37 = .ok (.getfield 37, 3) := by decide +kernel
theorem dX5_readSquare_40 : decode cX5_readSquare 40 = .ok (.aload_n 0, 1) := by decide +kernel
theorem dX5_readSquare_41 : decode cX5_readSquare 41 = .ok (.getfield 240, 3) := by decide +kernel
theorem dX5_readSquare_44 : decode cX5_readSquare 44 = .ok (.caload, 1) := by decide +kernel
theorem dX5_readSquare_45 : decode cX5_readSquare 45 = .ok (.bipush 97, 2) := by decide +kernel
theorem dX5_readSquare_47 : decode cX5_readSquare 47 = .ok (.isub, 1) := by decide +kernel
theorem dX5_readSquare_48 : decode cX5_readSquare 48 = .ok (.istore_n 1, 1) := by decide +kernel
theorem dX5_readSquare_49 : decode cX5_readSquare 49 = .ok (.aload_n 0, 1) := by decide +kernel
theorem dX5_readSquare_50 : decode cX5_readSquare 50 = .ok (.dup, 1) := by decide +kernel
theorem dX5_readSquare_51 : decode cX5_readSquare 51 = .ok (.getfield 240, 3) := by decide +kernel
theorem dX5_readSquare_54 : decode cX5_readSquare 54 = .ok (.aload_n 0, 1) := by decide +kernel
theorem dX5_readSquare_55 : decode cX5_readSquare 55 = .ok (.getfield 237, 3) := by decide +kernel
theorem dX5_readSquare_58 : decode cX5_readSquare 58 = .ok (.ifCond .eq 7, 3) := by decide +kernel
theorem dX5_readSquare_61 : decode cX5_readSquare 61 = .ok (.iconst 0, 1) := by decide +kernel
theorem dX5_readSquare_62 : decode cX5_readSquare 62 = .ok (.goto 4, 3) := by decide +kernel
theorem dX5_readSquare_65 : decode cX5_readSquare 65 = .ok (.iconst 1, 1) := by decide +kernel
theorem dX5_readSquare_66 : decode cX5_readSquare 66 = .ok (.iadd, 1) := by decide +kernel
theorem dX5_readSquare_67 : decode cX5_readSquare 67 = .ok (.putfield 240, 3) := by decide +kernel
theorem dX5_readSquare_70 : decode cX5_readSquare 70 = .ok (.aload_n 0, 1) := by decide +kernel
theorem dX5_readSquare_71 : decode cX5_readSquare 71 = .ok (.dup, 1) := by decide +kernel
theorem dX5_readSquare_72 : decode cX5_readSquare 72 = .ok (.getfield 237, 3) := by decide +kernel
theorem dX5_readSquare_75 : decode cX5_readSquare 75 = .ok (.aload_n 0, 1) := by decide +kernel
theorem dX5_readSquare_76 : decode cX5_readSquare 76 = .ok (.bipush 49, 2) := by decide +kernel
theorem dX5_readSquare_78 : decode cX5_readSquare 78 = .ok (.bipush 54, 2) := by decide +kernel
theorem dX5_readSquare_80 : decode cX5_readSquare 80 = .ok (.invokevirtual 243, 3) := by decide +kernel
theorem dX5_readSquare_83 : decode cX5_readSquare 83 = .ok (.ifCond .ne 7, 3) := by decide +kernel
theorem dX5_readSquare_86 : decode cX5_readSquare 86 = .ok (.iconst 1, 1) := by decide +kernel
theorem dX5_readSquare_87 : decode cX5_readSquare 87 = .ok (.goto 4, 3) := by decide +kernel
theorem dX5_readSquare_90 : decode cX5_readSquare 90 = .ok (.iconst 0, 1) := by decide +kernel
theorem dX5_readSquare_91 : decode cX5_readSquare 91 = .ok (.ior, 1) := by decide +kernel
theorem dX5_readSquare_92 : decode cX5_readSquare 92 = .ok (.putfield 237, 3) := by decide +kernel
theorem dX5_readSquare_95 : decode cX5_readSquare 95 = .ok (.aload_n 0, 1) := by decide +kernel
theorem dX5_readSquare_96 : decode cX5_readSquare 96 = .ok (.getfield 237, 3) := by decide +kernel
theorem dX5_readSquare_99 : decode cX5_readSquare 99 = .ok (.ifCond .eq 7, 3) := by decide +kernel
theorem dX5_readSquare_102 : decode cX5_readSquare 102 = .ok (.iconst 0, 1) := by decide +kernel
theorem dX5_readSquare_103 : decode cX5_readSquare 103 = .ok (.goto 15, 3) := by decide +kernel
theorem dX5_readSquare_106 : decode cX5_readSquare 106 = .ok (.aload_n 0, 1) := by decide +kernel
theorem dX5_readSquare_107 : decode cX5_readSquare 107 = .ok (.getfield 37, 3) := by decide +kernel
theorem dX5_readSquare_110 : decode cX5_readSquare 110 = .ok (.aload_n 0, 1) := by decide +kernel
theorem dX5_readSquare_111 : decode cX5_readSquare 111 = .ok (.getfield 240, 3) := by decide +kernel
theorem dX5_readSquare_114 : decode cX5_readSquare 114 = .ok (.caload, 1) := by decide +kernel
theorem dX5_readSquare_115 : decode cX5_readSquare 115 = .ok (.bipush 49, 2) := by decide +kernel
theorem dX5_readSquare_117 : decode cX5_readSquare 117 = .ok (.isub, 1) := by decide +kernel
theorem dX5_readSquare_118 : decode cX5_readSquare 118 = .ok (.istore_n 2, 1) := by decide +kernel
theorem dX5_readSquare_119 : decode cX5_readSquare 119 = .ok (.aload_n 0, 1) := by decide +kernel
theorem dX5_readSquare_120 : decode cX5_readSquare 120 = .ok (.dup, 1) := by decide +kernel
theorem dX5_readSquare_121 : decode cX5_readSquare 121 = .ok (.getfield 240, 3) := by decide +kernel
theorem dX5_readSquare_124 : decode cX5_readSquare 124 = .ok (.aload_n 0, 1) := by decide +kernel
theorem dX5_readSquare_125 : decode cX5_readSquare 125 = .ok (.getfield 237, 3) := by decide +kernel
theorem dX5_readSquare_128 : decode cX5_readSquare 128 = .ok (.ifCond .eq 7, 3) := by decide +kernel
theorem dX5_readSquare_131 : decode cX5_readSquare 131 = .ok (.iconst 0, 1) := by decide +kernel
theorem dX5_readSquare_132 : decode cX5_readSquare 132 = .ok (.goto 4, 3) := by decide +kernel
theorem dX5_readSquare_135 : decode cX5_readSquare 135 = .ok (.iconst 1, 1) := by decide +kernel
theorem dX5_readSquare_136 : decode cX5_readSquare 136 = .ok (.iadd, 1) := by decide +kernel
theorem dX5_readSquare_137 : decode cX5_readSquare 137 = .ok (.putfield 240, 3) := by decide +kernel
theorem dX5_readSquare_140 : decode cX5_readSquare 140 = .ok (.iload_n 2, 1) := by decide +kernel
theorem dX5_readSquare_141 : decode cX5_readSquare 141 = .ok (.bipush 6, 2) := by decide +kernel
theorem dX5_readSquare_143 : decode cX5_readSquare 143 = .ok (.imul, 1) := by decide +kernel
theorem dX5_readSquare_144 : decode cX5_readSquare 144 = .ok (.iload_n 1, 1) := by decide +kernel
theorem dX5_readSquare_145 : decode cX5_readSquare 145 = .ok (.iadd, 1) := by decide +kernel
theorem dX5_readSquare_146 : decode cX5_readSquare 146 = .ok (.ireturn, 1) := by decide +kernel
set_option maxRecDepth 20000 in
theorem ggX5_readTurn_X5_takes : GoodIn wsX5_readTurn wsX5_takes := goodIn_ca (goodIn_r _ [8, 9, 10, 11, 12, 7, 13, 2, 14, 15, 16, 17, 18, 23, 24, 25, 26, 27, 28, 29, 30, 31, 32, 33, 34, 35, 36, 37, 38, 39, 40, 41, 42, 43, 44, 45] (by decide +kernel) (by decide +kernel)) (goodIn_sub (fun _ h => List.mem_cons_of_mem _ (List.mem_append_right _ h)) (by decide +kernel))
set_option maxRecDepth 20000 in
theorem gX5_readTurn_X5_takes : GoodIn wsX5_readTurn (wsV RX5 247 RX5 yX5_takes wsX5_takes) := goodIn_app (goodIn_of _ (by decide +kernel)) ggX5_readTurn_X5_takes
set_option maxRecDepth 20000 in
theorem ggX5_readTurn_X5_readSquare : GoodIn wsX5_readTurn wsX5_readSquare := goodIn_ca (goodIn_r _ [22, 2, 15, 9, 10, 11, 12, 7, 13, 14, 16, 17, 18, 23, 24, 25, 26, 27, 28, 29, 30, 31, 32, 33, 34, 35, 36, 37, 38, 39, 40, 41, 42, 43, 44, 45] (by decide +kernel) (by decide +kernel)) (goodIn_sub (fun _ h => List.mem_cons_of_mem _ (List.mem_append_right _ h)) (by decide +kernel))
set_option maxRecDepth 20000 in
theorem gX5_readTurn_X5_readSquare : GoodIn wsX5_readTurn (wsV RX5 251 RX5 yX5_readSquare wsX5_readSquare) := goodIn_app (goodIn_of _ (by decide +kernel)) ggX5_readTurn_X5_readSquare
theorem dX5_readTurn_0 : decode cX5_readTurn 0 = .ok (.aload_n 0, 1) := by decide +kernel
theorem dX5_readTurn_1 : decode cX5_readTurn 1 = .ok (.bipush 43, 2) := by decide +kernel
theorem dX5_readTurn_3 : decode cX5_readTurn 3 = .ok (.invokevirtual 247, 3) := by decide +kernel
theorem dX5_readTurn_6 : decode cX5_readTurn 6 = .ok (.ifCond .eq 8, 3) := by decide +kernel
theorem dX5_readTurn_9 : decode cX5_readTurn 9 = .ok (.bipush 43, 2) := by decide +kernel
theorem dX5_readTurn_11 : decode cX5_readTurn 11 = .ok (.goto 19, 3) := by decide +kernel
theorem dX5_readTurn_14 : decode cX5_readTurn 14 = .ok (.aload_n 0, 1) := by decide +kernel
theorem dX5_readTurn_15 : decode cX5_readTurn 15 = .ok (.bipush 42, 2) := by decide +kernel
theorem dX5_readTurn_17 : decode cX5_readTurn 17 = .ok (.invokevirtual 247, 3) := by decide +kernel
theorem dX5_readTurn_20 : decode cX5_readTurn 20 = .ok (.ifCond .eq 8, 3) := by decide +kernel
theorem dX5_readTurn_23 : decode cX5_readTurn 23 = .ok (.bipush 42, 2) := by decide +kernel
theorem dX5_readTurn_25 : decode cX5_readTurn 25 = .ok (.goto 5, 3) := by decide +kernel
theorem dX5_readTurn_28 : decode cX5_readTurn 28 = .ok (.bipush 45, 2) := by decide +kernel
theorem dX5_readTurn_30 : decode cX5_readTurn 30 = .ok (.istore_n 1, 1) := by decide +kernel
theorem dX5_readTurn_31 : decode cX5_readTurn 31 = .ok (.aload_n 0, 1) := by decide +kernel
theorem dX5_readTurn_32 : decode cX5_readTurn 32 = .ok (.aload_n 0, 1) := by decide +kernel
theorem dX5_readTurn_33 : decode cX5_readTurn 33 = .ok (.invokevirtual 251, 3) := by decide +kernel
theorem dX5_readTurn_36 : decode cX5_readTurn 36 = .ok (.putfield 254, 3) := by decide +kernel
theorem dX5_readTurn_39 : decode cX5_readTurn 39 = .ok (.iload_n 1, 1) := by decide +kernel
theorem dX5_readTurn_40 : decode cX5_readTurn 40 = .ok (.bipush 45, 2) := by decide +kernel
theorem dX5_readTurn_42 : decode cX5_readTurn 42 = .ok (.if_icmp .ne 34, 3) := by decide +kernel
theorem dX5_readTurn_45 : decode cX5_readTurn 45 = .ok (.aload_n 0, 1) := by decide +kernel
theorem dX5_readTurn_46 : decode cX5_readTurn 46 = .ok (.dup, 1) := by decide +kernel
theorem dX5_readTurn_47 : decode cX5_readTurn 47 = .ok (.getfield 237, 3) := by decide +kernel
theorem dX5_readTurn_50 : decode cX5_readTurn 50 = .ok (.aload_n 0, 1) := by decide +kernel
theorem dX5_readTurn_51 : decode cX5_readTurn 51 = .ok (.bipush 45, 2) := by decide +kernel
theorem dX5_readTurn_53 : decode cX5_readTurn 53 = .ok (.invokevirtual 247, 3) := by decide +kernel
theorem dX5_readTurn_56 : decode cX5_readTurn 56 = .ok (.ifCond .ne 7, 3) := by decide +kernel
theorem dX5_readTurn_59 : decode cX5_readTurn 59 = .ok (.iconst 1, 1) := by decide +kernel
theorem dX5_readTurn_60 : decode cX5_readTurn 60 = .ok (.goto 4, 3) := by decide +kernel
theorem dX5_readTurn_63 : decode cX5_readTurn 63 = .ok (.iconst 0, 1) := by decide +kernel
theorem dX5_readTurn_64 : decode cX5_readTurn 64 = .ok (.ior, 1) := by decide +kernel
theorem dX5_readTurn_65 : decode cX5_readTurn 65 = .ok (.putfield 237, 3) := by decide +kernel
theorem dX5_readTurn_68 : decode cX5_readTurn 68 = .ok (.aload_n 0, 1) := by decide +kernel
theorem dX5_readTurn_69 : decode cX5_readTurn 69 = .ok (.aload_n 0, 1) := by decide +kernel
theorem dX5_readTurn_70 : decode cX5_readTurn 70 = .ok (.invokevirtual 251, 3) := by decide +kernel
theorem dX5_readTurn_73 : decode cX5_readTurn 73 = .ok (.putfield 257, 3) := by decide +kernel
theorem dX5_readTurn_76 : decode cX5_readTurn 76 = .ok (.iload_n 1, 1) := by decide +kernel
theorem dX5_readTurn_77 : decode cX5_readTurn 77 = .ok (.ireturn, 1) := by decide +kernel
set_option maxRecDepth 20000 in
theorem ggX5_countTurns_X5_readTurn : GoodIn wsX5_countTurns wsX5_readTurn := goodIn_ca (goodIn_r _ [8, 9, 2, 10, 11, 12, 13, 7, 14, 1, 15, 16, 17, 18, 3, 19, 20, 21, 22, 23, 24, 25, 26, 27, 28, 29, 30, 31, 32, 33, 34, 35, 36, 37, 38, 39, 40, 41, 42, 43, 44, 45, 46, 47, 48, 49] (by decide +kernel) (by decide +kernel)) (goodIn_sub (fun _ h => List.mem_cons_of_mem _ (List.mem_append_right _ h)) (by decide +kernel))
set_option maxRecDepth 20000 in
theorem gX5_countTurns_X5_readTurn : GoodIn wsX5_countTurns (wsV RX5 260 RX5 yX5_readTurn wsX5_readTurn) := goodIn_app (goodIn_of _ (by decide +kernel)) ggX5_countTurns_X5_readTurn
set_option maxRecDepth 20000 in
theorem ggX5_countTurns_X5_takes : GoodIn wsX5_countTurns wsX5_takes := goodIn_ca (goodIn_r _ [14, 1, 15, 16, 17, 7, 18, 2, 3, 19, 20, 21, 22, 27, 28, 29, 30, 31, 32, 33, 34, 35, 36, 37, 38, 39, 40, 41, 42, 43, 44, 45, 46, 47, 48, 49] (by decide +kernel) (by decide +kernel)) (goodIn_sub (fun _ h => List.mem_cons_of_mem _ (List.mem_append_right _ h)) (by decide +kernel))
set_option maxRecDepth 20000 in
theorem gX5_countTurns_X5_takes : GoodIn wsX5_countTurns (wsV RX5 247 RX5 yX5_takes wsX5_takes) := goodIn_app (goodIn_of _ (by decide +kernel)) ggX5_countTurns_X5_takes
theorem dX5_countTurns_0 : decode cX5_countTurns 0 = .ok (.aload_n 0, 1) := by decide +kernel
theorem dX5_countTurns_1 : decode cX5_countTurns 1 = .ok (.iconst 0, 1) := by decide +kernel
theorem dX5_countTurns_2 : decode cX5_countTurns 2 = .ok (.putfield 240, 3) := by decide +kernel
theorem dX5_countTurns_5 : decode cX5_countTurns 5 = .ok (.aload_n 0, 1) := by decide +kernel
theorem dX5_countTurns_6 : decode cX5_countTurns 6 = .ok (.iconst 0, 1) := by decide +kernel
theorem dX5_countTurns_7 : decode cX5_countTurns 7 = .ok (.putfield 237, 3) := by decide +kernel
theorem dX5_countTurns_10 : decode cX5_countTurns 10 = .ok (.iconst 1, 1) := by decide +kernel
theorem dX5_countTurns_11 : decode cX5_countTurns 11 = .ok (.istore_n 1, 1) := by decide +kernel
theorem dX5_countTurns_12 : decode cX5_countTurns 12 = .ok (.aload_n 0, 1) := by decide +kernel
theorem dX5_countTurns_13 : decode cX5_countTurns 13 = .ok (.invokevirtual 260, 3) := by decide +kernel
theorem dX5_countTurns_16 : decode cX5_countTurns 16 = .ok (.pop, 1) := by decide +kernel
theorem dX5_countTurns_17 : decode cX5_countTurns 17 = .ok (.aload_n 0, 1) := by decide +kernel
theorem dX5_countTurns_18 : decode cX5_countTurns 18 = .ok (.getfield 237, 3) := by decide +kernel
theorem dX5_countTurns_21 : decode cX5_countTurns 21 = .ok (.ifCond .ne 43, 3) := by decide +kernel
theorem dX5_countTurns_24 : decode cX5_countTurns 24 = .ok (.aload_n 0, 1) := by decide +kernel
theorem dX5_countTurns_25 : decode cX5_countTurns 25 = .ok (.getfield 240, 3) := by decide +kernel
theorem dX5_countTurns_28 : decode cX5_countTurns 28 = .ok (.aload_n 0, 1) := by decide +kernel
theorem dX5_countTurns_29 : decode cX5_countTurns 29 = .ok (.getfield 234, 3) := by decide +kernel
theorem dX5_countTurns_32 : decode cX5_countTurns 32 = .ok (.if_icmp .ge 32, 3) := by decide +kernel
theorem dX5_countTurns_35 : decode cX5_countTurns 35 = .ok (.aload_n 0, 1) := by decide +kernel
theorem dX5_countTurns_36 : decode cX5_countTurns 36 = .ok (.aload_n 0, 1) := by decide +kernel
theorem dX5_countTurns_37 : decode cX5_countTurns 37 = .ok (.bipush 59, 2) := by decide +kernel
theorem dX5_countTurns_39 : decode cX5_countTurns 39 = .ok (.invokevirtual 247, 3) := by decide +kernel
theorem dX5_countTurns_42 : decode cX5_countTurns 42 = .ok (.ifCond .ne 7, 3) := by decide +kernel
theorem dX5_countTurns_45 : decode cX5_countTurns 45 = .ok (.iconst 1, 1) := by decide +kernel
theorem dX5_countTurns_46 : decode cX5_countTurns 46 = .ok (.goto 4, 3) := by decide +kernel
theorem dX5_countTurns_49 : decode cX5_countTurns 49 = .ok (.iconst 0, 1) := by decide +kernel
theorem dX5_countTurns_50 : decode cX5_countTurns 50 = .ok (.putfield 237, 3) := by decide +kernel
theorem dX5_countTurns_53 : decode cX5_countTurns 53 = .ok (.aload_n 0, 1) := by decide +kernel
theorem dX5_countTurns_54 : decode cX5_countTurns 54 = .ok (.invokevirtual 260, 3) := by decide +kernel
theorem dX5_countTurns_57 : decode cX5_countTurns 57 = .ok (.pop, 1) := by decide +kernel
theorem dX5_countTurns_58 : decode cX5_countTurns 58 = .ok (.iinc 1 1, 3) := by decide +kernel
theorem dX5_countTurns_61 : decode cX5_countTurns 61 = .ok (.goto (-44), 3) := by decide +kernel
theorem dX5_countTurns_64 : decode cX5_countTurns 64 = .ok (.iload_n 1, 1) := by decide +kernel
theorem dX5_countTurns_65 : decode cX5_countTurns 65 = .ok (.ireturn, 1) := by decide +kernel
set_option maxRecDepth 20000 in
theorem ggX5_take_X5_door : GoodIn wsX5_take wsX5_door := goodIn_ca (goodIn_r _ [7, 8, 9, 10, 6, 11, 12, 13, 14, 15, 16, 17, 18, 19, 20, 21, 22, 23, 24, 25, 26, 27, 28, 29, 30, 31, 32, 33, 34, 35, 36, 37, 38, 39, 40, 41, 42, 43, 44, 45, 46, 47, 48, 49, 50, 51, 52, 53, 54, 55, 56, 57, 58, 59, 60, 61, 62, 63, 64, 65, 66, 67, 68, 69, 70, 71, 72, 73, 74, 75, 76, 77, 78, 79, 80, 81, 82, 83, 84, 85, 86, 87, 88, 89, 90, 91, 92, 93, 94, 95, 96, 97, 98, 99, 100, 101, 102, 103, 104, 105, 106, 107, 151, 152, 153, 154, 155, 156, 157, 158, 159, 160, 161, 162, 163, 164, 165, 166, 167, 168, 169, 170, 171, 172, 173] (by decide +kernel) (by decide +kernel)) (goodIn_sub (fun _ h => List.mem_cons_of_mem _ (List.mem_append_right _ h)) (by decide +kernel))
set_option maxRecDepth 20000 in
theorem gX5_take_X5_door : GoodIn wsX5_take (wsV RX5 264 RX5 yX5_door wsX5_door) := goodIn_app (goodIn_of _ (by decide +kernel)) ggX5_take_X5_door
set_option maxRecDepth 20000 in
theorem ggX5_take_X5_buy : GoodIn wsX5_take wsX5_buy := goodIn_ca (goodIn_r _ [111, 8, 9, 10, 6, 11, 12, 13, 14, 15, 16, 17, 18, 19, 112, 113, 114, 115, 34, 35, 36, 37, 20, 21, 22, 23, 24, 25, 26, 27, 28, 29, 30, 31, 32, 33, 116, 117, 118, 119, 120, 121, 122, 45, 46, 47, 38, 39, 40, 41, 42, 43, 44, 83, 84, 85, 48, 49, 50, 51, 52, 53, 54, 55, 56, 57, 58, 59, 60, 61, 62, 63, 64, 65, 66, 67, 68, 69, 70, 71, 72, 73, 74, 75, 76, 77, 78, 79, 80, 81, 82, 86, 87, 88, 89, 90, 91, 92, 93, 94, 95, 96, 97, 98, 99, 100, 101, 102, 103, 104, 105, 106, 107, 151, 152, 153, 154, 155, 156, 157, 158, 159, 160, 161, 162, 163, 164, 165, 166, 167, 168, 169, 170, 171, 172, 173] (by decide +kernel) (by decide +kernel)) (goodIn_sub (fun _ h => List.mem_cons_of_mem _ (List.mem_append_right _ h)) (by decide +kernel))
set_option maxRecDepth 20000 in
theorem gX5_take_X5_buy : GoodIn wsX5_take (wsV RX5 267 RX5 yX5_buy wsX5_buy) := goodIn_app (goodIn_of _ (by decide +kernel)) ggX5_take_X5_buy
set_option maxRecDepth 20000 in
theorem ggX5_take_X5_move : GoodIn wsX5_take wsX5_move := goodIn_ca (goodIn_r _ [126, 9, 10, 6, 11, 12, 13, 14, 15, 16, 17, 18, 19, 127, 128, 129, 130, 8, 20, 21, 22, 23, 24, 25, 26, 27, 28, 29, 45, 46, 47, 34, 35, 36, 37, 131, 132, 133, 134, 78, 79, 80, 81, 82, 83, 84, 85, 86, 87, 88, 89, 42, 43, 44, 90, 91, 92, 93, 94, 95, 96, 97, 30, 31, 32, 33, 98, 99, 100, 101, 102, 103, 104, 105, 106, 107, 52, 53, 54, 55, 56, 57, 58, 59, 60, 61, 62, 63, 64, 65, 135, 136, 137, 138, 139, 140, 141, 142, 143, 144, 145, 146, 120, 121, 122, 147, 148, 149, 150, 66, 67, 68, 69, 70, 71, 72, 73, 74, 75, 76, 77, 151, 152, 153, 154, 155, 156, 157, 158, 159, 160, 161, 162, 163, 164, 165, 166, 167, 168, 169, 170, 171, 172, 173] (by decide +kernel) (by decide +kernel)) (goodIn_sub (fun _ h => List.mem_cons_of_mem _ (List.mem_append_right _ h)) (by decide +kernel))
set_option maxRecDepth 20000 in
theorem gX5_take_X5_move : GoodIn wsX5_take (wsV RX5 270 RX5 yX5_move wsX5_move) := goodIn_app (goodIn_of _ (by decide +kernel)) ggX5_take_X5_move
theorem dX5_take_0 : decode cX5_take 0 = .ok (.iload_n 1, 1) := by decide +kernel
theorem dX5_take_1 : decode cX5_take 1 = .ok (.bipush 43, 2) := by decide +kernel
theorem dX5_take_3 : decode cX5_take 3 = .ok (.if_icmp .ne 15, 3) := by decide +kernel
theorem dX5_take_6 : decode cX5_take 6 = .ok (.aload_n 0, 1) := by decide +kernel
theorem dX5_take_7 : decode cX5_take 7 = .ok (.aload_n 0, 1) := by decide +kernel
theorem dX5_take_8 : decode cX5_take 8 = .ok (.getfield 254, 3) := by decide +kernel
theorem dX5_take_11 : decode cX5_take 11 = .ok (.invokevirtual 264, 3) := by decide +kernel
theorem dX5_take_14 : decode cX5_take 14 = .ok (.pop, 1) := by decide +kernel
theorem dX5_take_15 : decode cX5_take 15 = .ok (.goto 34, 3) := by decide +kernel
theorem dX5_take_18 : decode cX5_take 18 = .ok (.iload_n 1, 1) := by decide +kernel
theorem dX5_take_19 : decode cX5_take 19 = .ok (.bipush 42, 2) := by decide +kernel
theorem dX5_take_21 : decode cX5_take 21 = .ok (.if_icmp .ne 15, 3) := by decide +kernel
theorem dX5_take_24 : decode cX5_take 24 = .ok (.aload_n 0, 1) := by decide +kernel
theorem dX5_take_25 : decode cX5_take 25 = .ok (.aload_n 0, 1) := by decide +kernel
theorem dX5_take_26 : decode cX5_take 26 = .ok (.getfield 254, 3) := by decide +kernel
theorem dX5_take_29 : decode cX5_take 29 = .ok (.invokevirtual 267, 3) := by decide +kernel
theorem dX5_take_32 : decode cX5_take 32 = .ok (.pop, 1) := by decide +kernel
theorem dX5_take_33 : decode cX5_take 33 = .ok (.goto 16, 3) := by decide +kernel
theorem dX5_take_36 : decode cX5_take 36 = .ok (.aload_n 0, 1) := by decide +kernel
theorem dX5_take_37 : decode cX5_take 37 = .ok (.aload_n 0, 1) := by decide +kernel
theorem dX5_take_38 : decode cX5_take 38 = .ok (.getfield 254, 3) := by decide +kernel
theorem dX5_take_41 : decode cX5_take 41 = .ok (.aload_n 0, 1) := by decide +kernel
theorem dX5_take_42 : decode cX5_take 42 = .ok (.getfield 257, 3) := by decide +kernel
theorem dX5_take_45 : decode cX5_take 45 = .ok (.invokevirtual 270, 3) := by decide +kernel
theorem dX5_take_48 : decode cX5_take 48 = .ok (.pop, 1) := by decide +kernel
theorem dX5_take_49 : decode cX5_take 49 = .ok (.return_, 1) := by decide +kernel
set_option maxRecDepth 20000 in
theorem ggX5_read_X5_countTurns : GoodIn wsX5_read wsX5_countTurns := goodIn_ca (goodIn_r _ [13, 2, 1, 4, 14, 15, 16, 12, 17, 18, 19, 20, 21, 22, 23, 24, 25, 26, 27, 28, 29, 30, 31, 32, 33, 34, 35, 181, 182, 183, 184, 185, 186, 187, 188, 189, 190, 191, 192, 193, 194, 195, 196, 197, 198, 199, 200, 201, 202, 203] (by decide +kernel) (by decide +kernel)) (goodIn_sub (fun _ h => List.mem_cons_of_mem _ (List.mem_append_right _ h)) (by decide +kernel))
set_option maxRecDepth 20000 in
theorem gX5_read_X5_countTurns : GoodIn wsX5_read (wsV RX5 273 RX5 yX5_countTurns wsX5_countTurns) := goodIn_app (goodIn_of _ (by decide +kernel)) ggX5_read_X5_countTurns
set_option maxRecDepth 20000 in
theorem ggX5_read_X5_fails : GoodIn wsX5_read wsX5_fails := goodIn_r _ [39, 8, 181, 182, 183, 184, 185, 186, 187, 188, 189, 190, 191, 192, 193, 194, 195, 196, 197, 198, 199, 200, 201, 202, 203] (by decide +kernel) (by decide +kernel)
set_option maxRecDepth 20000 in
theorem gX5_read_X5_fails : GoodIn wsX5_read (wsV RX5 107 RX5 yX5_fails wsX5_fails) := goodIn_app (goodIn_of _ (by decide +kernel)) ggX5_read_X5_fails
set_option maxRecDepth 20000 in
theorem ggX5_read_X5_copyRow : GoodIn wsX5_read wsX5_copyRow := goodIn_ca (goodIn_r _ [42] (by decide +kernel) (by decide +kernel)) (goodIn_sub (fun _ h => List.mem_cons_of_mem _ (List.mem_append_right _ h)) (by decide +kernel))
set_option maxRecDepth 20000 in
theorem gX5_read_X5_copyRow : GoodIn wsX5_read (va_wsS RX5 63 yX5_copyRow wsX5_copyRow) := goodIn_app (goodIn_of _ (by decide +kernel)) ggX5_read_X5_copyRow
set_option maxRecDepth 20000 in
theorem ggX5_read_X5_readTurn : GoodIn wsX5_read wsX5_readTurn := goodIn_ca (goodIn_r _ [17, 18, 1, 19, 20, 21, 22, 12, 23, 2, 24, 25, 26, 27, 4, 28, 29, 30, 31, 32, 33, 34, 35, 181, 182, 183, 184, 185, 186, 187, 188, 189, 190, 191, 192, 193, 194, 195, 196, 197, 198, 199, 200, 201, 202, 203] (by decide +kernel) (by decide +kernel)) (goodIn_sub (fun _ h => List.mem_cons_of_mem _ (List.mem_append_right _ h)) (by decide +kernel))
set_option maxRecDepth 20000 in
theorem gX5_read_X5_readTurn : GoodIn wsX5_read (wsV RX5 260 RX5 yX5_readTurn wsX5_readTurn) := goodIn_app (goodIn_of _ (by decide +kernel)) ggX5_read_X5_readTurn
set_option maxRecDepth 20000 in
theorem ggX5_read_X5_take : GoodIn wsX5_read wsX5_take := goodIn_ca (goodIn_r _ [46, 18, 19, 47, 48, 49, 12, 50, 5, 51, 52, 53, 29, 30, 31, 36, 37, 38, 39, 8, 54, 55, 56, 57, 58, 59, 60, 61, 62, 63, 64, 65, 66, 67, 68, 69, 70, 71, 72, 73, 74, 75, 76, 77, 78, 79, 80, 81, 82, 83, 84, 85, 86, 87, 88, 89, 7, 90, 91, 92, 93, 94, 95, 40, 41, 42, 96, 97, 98, 99, 100, 101, 102, 103, 104, 105, 106, 107, 108, 109, 110, 111, 112, 113, 114, 115, 116, 117, 118, 119, 120, 121, 122, 123, 124, 125, 126, 127, 128, 129, 130, 131, 132, 133, 134, 135, 136, 137, 138, 139, 140, 141, 142, 143, 144, 145, 146, 147, 148, 149, 150, 151, 152, 153, 154, 155, 156, 157, 158, 159, 160, 161, 162, 163, 164, 165, 166, 167, 168, 169, 170, 171, 172, 173, 174, 175, 176, 177, 178, 179, 180, 181, 182, 183, 184, 185, 186, 187, 188, 189, 190, 191, 192, 193, 194, 195, 196, 197, 198, 199, 200, 201, 202, 203] (by decide +kernel) (by decide +kernel)) (goodIn_sub (fun _ h => List.mem_cons_of_mem _ (List.mem_append_right _ h)) (by decide +kernel))
set_option maxRecDepth 20000 in
theorem gX5_read_X5_take : GoodIn wsX5_read (wsV RX5 276 RX5 yX5_take wsX5_take) := goodIn_app (goodIn_of _ (by decide +kernel)) ggX5_read_X5_take
set_option maxRecDepth 20000 in
theorem ggX5_read_X5_remember : GoodIn wsX5_read wsX5_remember := goodIn_ca (goodIn_r _ [93, 94, 95, 40, 41, 12, 42, 181, 182, 183, 184, 185, 186, 187, 188, 189, 190, 191, 192, 193, 194, 195, 196, 197, 198, 199, 200, 201, 202, 203] (by decide +kernel) (by decide +kernel)) (goodIn_sub (fun _ h => List.mem_cons_of_mem _ (List.mem_append_right _ h)) (by decide +kernel))
set_option maxRecDepth 20000 in
theorem gX5_read_X5_remember : GoodIn wsX5_read (wsV RX5 90 RX5 yX5_remember wsX5_remember) := goodIn_app (goodIn_of _ (by decide +kernel)) ggX5_read_X5_remember
theorem dX5_read_0 : decode cX5_read 0 = .ok (.aload_n 0, 1) := by decide +kernel
theorem dX5_read_1 : decode cX5_read 1 = .ok (.invokevirtual 273, 3) := by decide +kernel
theorem dX5_read_4 : decode cX5_read 4 = .ok (.istore_n 1, 1) := by decide +kernel
theorem dX5_read_5 : decode cX5_read 5 = .ok (.aload_n 0, 1) := by decide +kernel
theorem dX5_read_6 : decode cX5_read 6 = .ok (.aload_n 0, 1) := by decide +kernel
theorem dX5_read_7 : decode cX5_read 7 = .ok (.getfield 237, 3) := by decide +kernel
theorem dX5_read_10 : decode cX5_read 10 = .ok (.ifCond .eq 10, 3) := by decide +kernel
theorem dX5_read_13 : decode cX5_read 13 = .ok (.aload_n 0, 1) := by decide +kernel
theorem dX5_read_14 : decode cX5_read 14 = .ok (.getfield 240, 3) := by decide +kernel
theorem dX5_read_17 : decode cX5_read 17 = .ok (.goto 7, 3) := by decide +kernel
theorem dX5_read_20 : decode cX5_read 20 = .ok (.aload_n 0, 1) := by decide +kernel
theorem dX5_read_21 : decode cX5_read 21 = .ok (.getfield 41, 3) := by decide +kernel
theorem dX5_read_24 : decode cX5_read 24 = .ok (.putfield 41, 3) := by decide +kernel
theorem dX5_read_27 : decode cX5_read 27 = .ok (.aload_n 0, 1) := by decide +kernel
theorem dX5_read_28 : decode cX5_read 28 = .ok (.iconst 1, 1) := by decide +kernel
theorem dX5_read_29 : decode cX5_read 29 = .ok (.aload_n 0, 1) := by decide +kernel
theorem dX5_read_30 : decode cX5_read 30 = .ok (.getfield 237, 3) := by decide +kernel
theorem dX5_read_33 : decode cX5_read 33 = .ok (.invokevirtual 107, 3) := by decide +kernel
theorem dX5_read_36 : decode cX5_read 36 = .ok (.ifCond .eq 10, 3) := by decide +kernel
theorem dX5_read_39 : decode cX5_read 39 = .ok (.aload_n 0, 1) := by decide +kernel
theorem dX5_read_40 : decode cX5_read 40 = .ok (.iconst 0, 1) := by decide +kernel
theorem dX5_read_41 : decode cX5_read 41 = .ok (.putfield 234, 3) := by decide +kernel
theorem dX5_read_44 : decode cX5_read 44 = .ok (.iconst 0, 1) := by decide +kernel
theorem dX5_read_45 : decode cX5_read 45 = .ok (.ireturn, 1) := by decide +kernel
theorem dX5_read_46 : decode cX5_read 46 = .ok (.aload_n 0, 1) := by decide +kernel
theorem dX5_read_47 : decode cX5_read 47 = .ok (.getfield 9, 3) := by decide +kernel
theorem dX5_read_50 : decode cX5_read 50 = .ok (.aload_n 0, 1) := by decide +kernel
theorem dX5_read_51 : decode cX5_read 51 = .ok (.getfield 45, 3) := by decide +kernel
theorem dX5_read_54 : decode cX5_read 54 = .ok (.invokestatic 63, 3) := by decide +kernel
theorem dX5_read_57 : decode cX5_read 57 = .ok (.aload_n 0, 1) := by decide +kernel
theorem dX5_read_58 : decode cX5_read 58 = .ok (.iconst 1, 1) := by decide +kernel
theorem dX5_read_59 : decode cX5_read 59 = .ok (.putfield 176, 3) := by decide +kernel
theorem dX5_read_62 : decode cX5_read 62 = .ok (.iconst 1, 1) := by decide +kernel
theorem dX5_read_63 : decode cX5_read 63 = .ok (.istore_n 2, 1) := by decide +kernel
theorem dX5_read_64 : decode cX5_read 64 = .ok (.aload_n 0, 1) := by decide +kernel
theorem dX5_read_65 : decode cX5_read 65 = .ok (.iconst 0, 1) := by decide +kernel
theorem dX5_read_66 : decode cX5_read 66 = .ok (.putfield 240, 3) := by decide +kernel
theorem dX5_read_69 : decode cX5_read 69 = .ok (.iconst 0, 1) := by decide +kernel
theorem dX5_read_70 : decode cX5_read 70 = .ok (.istore_n 3, 1) := by decide +kernel
theorem dX5_read_71 : decode cX5_read 71 = .ok (.iload_n 3, 1) := by decide +kernel
theorem dX5_read_72 : decode cX5_read 72 = .ok (.iload_n 1, 1) := by decide +kernel
theorem dX5_read_73 : decode cX5_read 73 = .ok (.if_icmp .ge 44, 3) := by decide +kernel
theorem dX5_read_76 : decode cX5_read 76 = .ok (.iload_n 2, 1) := by decide +kernel
theorem dX5_read_77 : decode cX5_read 77 = .ok (.ifCond .eq 40, 3) := by decide +kernel
theorem dX5_read_80 : decode cX5_read 80 = .ok (.aload_n 0, 1) := by decide +kernel
theorem dX5_read_81 : decode cX5_read 81 = .ok (.aload_n 0, 1) := by decide +kernel
theorem dX5_read_82 : decode cX5_read 82 = .ok (.invokevirtual 260, 3) := by decide +kernel
theorem dX5_read_85 : decode cX5_read 85 = .ok (.invokevirtual 276, 3) := by decide +kernel
theorem dX5_read_88 : decode cX5_read 88 = .ok (.aload_n 0, 1) := by decide +kernel
theorem dX5_read_89 : decode cX5_read 89 = .ok (.dup, 1) := by decide +kernel
theorem dX5_read_90 : decode cX5_read 90 = .ok (.getfield 240, 3) := by decide +kernel
theorem dX5_read_93 : decode cX5_read 93 = .ok (.iconst 1, 1) := by decide +kernel
theorem dX5_read_94 : decode cX5_read 94 = .ok (.iadd, 1) := by decide +kernel
theorem dX5_read_95 : decode cX5_read 95 = .ok (.putfield 240, 3) := by decide +kernel
theorem dX5_read_98 : decode cX5_read 98 = .ok (.aload_n 0, 1) := by decide +kernel
theorem dX5_read_99 : decode cX5_read 99 = .ok (.getfield 51, 3) := by decide +kernel
theorem dX5_read_102 : decode cX5_read 102 = .ok (.ifCond .ne 7, 3) := by decide +kernel
theorem dX5_read_105 : decode cX5_read 105 = .ok (.iconst 1, 1) := by decide +kernel
theorem dX5_read_106 : decode cX5_read 106 = .ok (.goto 4, 3) := by decide +kernel
theorem dX5_read_109 : decode cX5_read 109 = .ok (.iconst 0, 1) := by decide +kernel
theorem dX5_read_110 : decode cX5_read 110 = .ok (.istore_n 2, 1) := by decide +kernel
theorem dX5_read_111 : decode cX5_read 111 = .ok (.iinc 3 1, 3) := by decide +kernel
theorem dX5_read_114 : decode cX5_read 114 = .ok (.goto (-43), 3) := by decide +kernel
theorem dX5_read_117 : decode cX5_read 117 = .ok (.aload_n 0, 1) := by decide +kernel
theorem dX5_read_118 : decode cX5_read 118 = .ok (.iconst 0, 1) := by decide +kernel
theorem dX5_read_119 : decode cX5_read 119 = .ok (.putfield 176, 3) := by decide +kernel
theorem dX5_read_122 : decode cX5_read 122 = .ok (.aload_n 0, 1) := by decide +kernel
theorem dX5_read_123 : decode cX5_read 123 = .ok (.iconst 0, 1) := by decide +kernel
theorem dX5_read_124 : decode cX5_read 124 = .ok (.putfield 234, 3) := by decide +kernel
theorem dX5_read_127 : decode cX5_read 127 = .ok (.aload_n 0, 1) := by decide +kernel
theorem dX5_read_128 : decode cX5_read 128 = .ok (.iconst 2, 1) := by decide +kernel
theorem dX5_read_129 : decode cX5_read 129 = .ok (.iload_n 2, 1) := by decide +kernel
theorem dX5_read_130 : decode cX5_read 130 = .ok (.ifCond .ne 7, 3) := by decide +kernel
theorem dX5_read_133 : decode cX5_read 133 = .ok (.iconst 1, 1) := by decide +kernel
theorem dX5_read_134 : decode cX5_read 134 = .ok (.goto 4, 3) := by decide +kernel
theorem dX5_read_137 : decode cX5_read 137 = .ok (.iconst 0, 1) := by decide +kernel
theorem dX5_read_138 : decode cX5_read 138 = .ok (.invokevirtual 107, 3) := by decide +kernel
theorem dX5_read_141 : decode cX5_read 141 = .ok (.ifCond .eq 16, 3) := by decide +kernel
theorem dX5_read_144 : decode cX5_read 144 = .ok (.aload_n 0, 1) := by decide +kernel
theorem dX5_read_145 : decode cX5_read 145 = .ok (.getfield 45, 3) := by decide +kernel
theorem dX5_read_148 : decode cX5_read 148 = .ok (.aload_n 0, 1) := by decide +kernel
theorem dX5_read_149 : decode cX5_read 149 = .ok (.getfield 9, 3) := by decide +kernel
theorem dX5_read_152 : decode cX5_read 152 = .ok (.invokestatic 63, 3) := by decide +kernel
theorem dX5_read_155 : decode cX5_read 155 = .ok (.iconst 0, 1) := by decide +kernel
theorem dX5_read_156 : decode cX5_read 156 = .ok (.ireturn, 1) := by decide +kernel
theorem dX5_read_157 : decode cX5_read 157 = .ok (.aload_n 0, 1) := by decide +kernel
theorem dX5_read_158 : decode cX5_read 158 = .ok (.aload_n 0, 1) := by decide +kernel
theorem dX5_read_159 : decode cX5_read 159 = .ok (.getfield 45, 3) := by decide +kernel
theorem dX5_read_162 : decode cX5_read 162 = .ok (.invokevirtual 90, 3) := by decide +kernel
theorem dX5_read_165 : decode cX5_read 165 = .ok (.iload_n 1, 1) := by decide +kernel
theorem dX5_read_166 : decode cX5_read 166 = .ok (.ireturn, 1) := by decide +kernel
set_option maxRecDepth 20000 in
theorem ggX5_errorPosition_X5_fails : GoodIn wsX5_errorPosition wsX5_fails := goodIn_r _ [6, 7, 8, 9, 10, 11, 12, 13, 14, 15, 16, 17, 18, 19, 20, 21, 22, 23, 24, 25, 26, 27, 28, 29, 30] (by decide +kernel) (by decide +kernel)
set_option maxRecDepth 20000 in
theorem gX5_errorPosition_X5_fails : GoodIn wsX5_errorPosition (wsV RX5 107 RX5 yX5_fails wsX5_fails) := goodIn_app (goodIn_of _ (by decide +kernel)) ggX5_errorPosition_X5_fails
theorem dX5_errorPosition_0 : decode cX5_errorPosition 0 = .ok (.aload_n 0, 1) := by decide +kernel
theorem dX5_errorPosition_1 : decode cX5_errorPosition 1 = .ok (.iconst 1, 1) := by decide +kernel
theorem dX5_errorPosition_2 : decode cX5_errorPosition 2 = .ok (.aload_n 0, 1) := by decide +kernel
theorem dX5_errorPosition_3 : decode cX5_errorPosition 3 = .ok (.getfield 41, 3) := by decide +kernel
theorem dX5_errorPosition_6 : decode cX5_errorPosition 6 = .ok (.ifCond .ge 7, 3) := by decide +kernel
theorem dX5_errorPosition_9 : decode cX5_errorPosition 9 = .ok (.iconst 1, 1) := by decide +kernel
theorem dX5_errorPosition_10 : decode cX5_errorPosition 10 = .ok (.goto 4, 3) := by decide +kernel
theorem dX5_errorPosition_13 : decode cX5_errorPosition 13 = .ok (.iconst 0, 1) := by decide +kernel
theorem dX5_errorPosition_14 : decode cX5_errorPosition 14 = .ok (.invokevirtual 107, 3) := by decide +kernel
theorem dX5_errorPosition_17 : decode cX5_errorPosition 17 = .ok (.ifCond .eq 7, 3) := by decide +kernel
theorem dX5_errorPosition_20 : decode cX5_errorPosition 20 = .ok (.iconst 0, 1) := by decide +kernel
theorem dX5_errorPosition_21 : decode cX5_errorPosition 21 = .ok (.goto 7, 3) := by decide +kernel
theorem dX5_errorPosition_24 : decode cX5_errorPosition 24 = .ok (.aload_n 0, 1) := by decide +kernel
theorem dX5_errorPosition_25 : decode cX5_errorPosition 25 = .ok (.getfield 41, 3) := by decide +kernel
theorem dX5_errorPosition_28 : decode cX5_errorPosition 28 = .ok (.ireturn, 1) := by decide +kernel
set_option maxRecDepth 20000 in
theorem ggX5_reason_X5_fails : GoodIn wsX5_reason wsX5_fails := goodIn_r _ [7, 8, 9, 10, 11, 12, 13, 14, 15, 16, 17, 18, 19, 20, 21, 22, 23, 24, 25, 26, 27, 28, 29, 30, 31] (by decide +kernel) (by decide +kernel)
set_option maxRecDepth 20000 in
theorem gX5_reason_X5_fails : GoodIn wsX5_reason (wsV RX5 107 RX5 yX5_fails wsX5_fails) := goodIn_app (goodIn_of _ (by decide +kernel)) ggX5_reason_X5_fails
theorem dX5_reason_0 : decode cX5_reason 0 = .ok (.aload_n 0, 1) := by decide +kernel
theorem dX5_reason_1 : decode cX5_reason 1 = .ok (.iconst 1, 1) := by decide +kernel
theorem dX5_reason_2 : decode cX5_reason 2 = .ok (.aload_n 0, 1) := by decide +kernel
theorem dX5_reason_3 : decode cX5_reason 3 = .ok (.getfield 54, 3) := by decide +kernel
theorem dX5_reason_6 : decode cX5_reason 6 = .ok (.ifCond .ne 7, 3) := by decide +kernel
theorem dX5_reason_9 : decode cX5_reason 9 = .ok (.iconst 1, 1) := by decide +kernel
theorem dX5_reason_10 : decode cX5_reason 10 = .ok (.goto 4, 3) := by decide +kernel
theorem dX5_reason_13 : decode cX5_reason 13 = .ok (.iconst 0, 1) := by decide +kernel
theorem dX5_reason_14 : decode cX5_reason 14 = .ok (.invokevirtual 107, 3) := by decide +kernel
theorem dX5_reason_17 : decode cX5_reason 17 = .ok (.ifCond .eq 7, 3) := by decide +kernel
theorem dX5_reason_20 : decode cX5_reason 20 = .ok (.iconst 0, 1) := by decide +kernel
theorem dX5_reason_21 : decode cX5_reason 21 = .ok (.goto 18, 3) := by decide +kernel
theorem dX5_reason_24 : decode cX5_reason 24 = .ok (.iload_n 1, 1) := by decide +kernel
theorem dX5_reason_25 : decode cX5_reason 25 = .ok (.ifCond .eq 10, 3) := by decide +kernel
theorem dX5_reason_28 : decode cX5_reason 28 = .ok (.aload_n 0, 1) := by decide +kernel
theorem dX5_reason_29 : decode cX5_reason 29 = .ok (.getfield 57, 3) := by decide +kernel
theorem dX5_reason_32 : decode cX5_reason 32 = .ok (.goto 7, 3) := by decide +kernel
theorem dX5_reason_35 : decode cX5_reason 35 = .ok (.aload_n 0, 1) := by decide +kernel
theorem dX5_reason_36 : decode cX5_reason 36 = .ok (.getfield 54, 3) := by decide +kernel
theorem dX5_reason_39 : decode cX5_reason 39 = .ok (.ireturn, 1) := by decide +kernel
set_option maxRecDepth 20000 in
theorem ggX5_picture_X5_isSquare : GoodIn wsX5_picture wsX5_isSquare := goodIn_r _ [5, 6, 7, 4, 8] (by decide +kernel) (by decide +kernel)
set_option maxRecDepth 20000 in
theorem gX5_picture_X5_isSquare : GoodIn wsX5_picture (va_wsS RX5 104 yX5_isSquare wsX5_isSquare) := goodIn_app (goodIn_of _ (by decide +kernel)) ggX5_picture_X5_isSquare
set_option maxRecDepth 20000 in
theorem ggX5_picture_X5_fails : GoodIn wsX5_picture wsX5_fails := goodIn_r _ [12, 13, 65, 66, 67, 68, 69, 70, 71, 72, 73, 74, 75, 76, 77, 78, 79, 80, 81, 82, 83, 84, 85, 86, 87] (by decide +kernel) (by decide +kernel)
set_option maxRecDepth 20000 in
theorem gX5_picture_X5_fails : GoodIn wsX5_picture (wsV RX5 107 RX5 yX5_fails wsX5_fails) := goodIn_app (goodIn_of _ (by decide +kernel)) ggX5_picture_X5_fails
set_option maxRecDepth 20000 in
theorem ggX5_picture_X5_isWall : GoodIn wsX5_picture wsX5_isWall := goodIn_ca (goodIn_r _ [17, 1, 65, 66, 67, 68, 69, 70, 71, 72, 73, 74, 75, 76, 77, 78, 79, 80, 81, 82, 83, 84, 85, 86, 87] (by decide +kernel) (by decide +kernel)) (goodIn_sub (fun _ h => List.mem_cons_of_mem _ (List.mem_append_right _ h)) (by decide +kernel))
set_option maxRecDepth 20000 in
theorem gX5_picture_X5_isWall : GoodIn wsX5_picture (wsV RX5 71 RX5 yX5_isWall wsX5_isWall) := goodIn_app (goodIn_of _ (by decide +kernel)) ggX5_picture_X5_isWall
set_option maxRecDepth 20000 in
theorem ggX5_picture_X5_sideOf : GoodIn wsX5_picture wsX5_sideOf := goodIn_r _ [20, 6, 7, 4, 8] (by decide +kernel) (by decide +kernel)
set_option maxRecDepth 20000 in
theorem gX5_picture_X5_sideOf : GoodIn wsX5_picture (va_wsS RX5 79 yX5_sideOf wsX5_sideOf) := goodIn_app (goodIn_of _ (by decide +kernel)) ggX5_picture_X5_sideOf
set_option maxRecDepth 20000 in
theorem ggX5_picture_X5_kindOf : GoodIn wsX5_picture wsX5_kindOf := goodIn_r _ [23, 6, 7, 4, 8] (by decide +kernel) (by decide +kernel)
set_option maxRecDepth 20000 in
theorem gX5_picture_X5_kindOf : GoodIn wsX5_picture (va_wsS RX5 126 yX5_kindOf wsX5_kindOf) := goodIn_app (goodIn_of _ (by decide +kernel)) ggX5_picture_X5_kindOf
set_option maxRecDepth 20000 in
theorem ggX5_picture_J0_charAt_5068e : GoodIn wsX5_picture wsJ0_charAt_5068e := goodIn_r _ [28, 29, 30, 31, 32, 27, 33, 34, 35, 36, 37, 38, 39, 40, 41, 42, 43, 44, 45, 46, 47, 48, 49, 50, 51, 52, 53, 54, 55, 56, 57, 58, 59, 60, 61, 62, 63, 64, 88, 89] (by decide +kernel) (by decide +kernel)
set_option maxRecDepth 20000 in
theorem gX5_picture_J0_charAt_5068e : GoodIn wsX5_picture (wsV RX5 284 RJ0 yJ0_charAt_5068e wsJ0_charAt_5068e) := goodIn_app (goodIn_of _ (by decide +kernel)) ggX5_picture_J0_charAt_5068e
theorem dX5_picture_0 : decode cX5_picture 0 = .ok (.aload_n 0, 1) := by decide +kernel
theorem dX5_picture_1 : decode cX5_picture 1 = .ok (.iconst 1, 1) := by decide +kernel
theorem dX5_picture_2 : decode cX5_picture 2 = .ok (.iload_n 1, 1) := by decide +kernel
theorem dX5_picture_3 : decode cX5_picture 3 = .ok (.invokestatic 104, 3) := by decide +kernel
theorem dX5_picture_6 : decode cX5_picture 6 = .ok (.ifCond .ne 7, 3) := by decide +kernel
theorem dX5_picture_9 : decode cX5_picture 9 = .ok (.iconst 1, 1) := by decide +kernel
theorem dX5_picture_10 : decode cX5_picture 10 = .ok (.goto 4, 3) := by decide +kernel
theorem dX5_picture_13 : decode cX5_picture 13 = .ok (.iconst 0, 1) := by decide +kernel
theorem dX5_picture_14 : decode cX5_picture 14 = .ok (.invokevirtual 107, 3) := by decide +kernel
theorem dX5_picture_17 : decode cX5_picture 17 = .ok (.ifCond .eq 5, 3) := by decide +kernel
theorem dX5_picture_20 : decode cX5_picture 20 = .ok (.iconst 0, 1) := by decide +kernel
theorem dX5_picture_21 : decode cX5_picture 21 = .ok (.ireturn, 1) := by decide +kernel
theorem dX5_picture_22 : decode cX5_picture 22 = .ok (.aload_n 0, 1) := by decide +kernel
theorem dX5_picture_23 : decode cX5_picture 23 = .ok (.getfield 9, 3) := by decide +kernel
theorem dX5_picture_26 : decode cX5_picture 26 = .ok (.iload_n 1, 1) := by decide +kernel
theorem dX5_picture_27 : decode cX5_picture 27 = .ok (.iaload, 1) := by decide +kernel
theorem dX5_picture_28 : decode cX5_picture 28 = .ok (.istore_n 2, 1) := by decide +kernel
theorem dX5_picture_29 : decode cX5_picture 29 = .ok (.aload_n 0, 1) := by decide +kernel
theorem dX5_picture_30 : decode cX5_picture 30 = .ok (.getfield 9, 3) := by decide +kernel
theorem dX5_picture_33 : decode cX5_picture 33 = .ok (.bipush 36, 2) := by decide +kernel
theorem dX5_picture_35 : decode cX5_picture 35 = .ok (.iload_n 1, 1) := by decide +kernel
theorem dX5_picture_36 : decode cX5_picture 36 = .ok (.iadd, 1) := by decide +kernel
theorem dX5_picture_37 : decode cX5_picture 37 = .ok (.iaload, 1) := by decide +kernel
theorem dX5_picture_38 : decode cX5_picture 38 = .ok (.istore_n 3, 1) := by decide +kernel
theorem dX5_picture_39 : decode cX5_picture 39 = .ok (.aload_n 0, 1) := by decide +kernel
theorem dX5_picture_40 : decode cX5_picture 40 = .ok (.iload_n 1, 1) := by decide +kernel
theorem dX5_picture_41 : decode cX5_picture 41 = .ok (.invokevirtual 71, 3) := by decide +kernel
theorem dX5_picture_44 : decode cX5_picture 44 = .ok (.ifCond .eq 6, 3) := by decide +kernel
theorem dX5_picture_47 : decode cX5_picture 47 = .ok (.bipush 35, 2) := by decide +kernel
theorem dX5_picture_49 : decode cX5_picture 49 = .ok (.ireturn, 1) := by decide +kernel
theorem dX5_picture_50 : decode cX5_picture 50 = .ok (.iload_n 2, 1) := by decide +kernel
theorem dX5_picture_51 : decode cX5_picture 51 = .ok (.ifCond .ne 25, 3) := by decide +kernel
theorem dX5_picture_54 : decode cX5_picture 54 = .ok (.iload_n 3, 1) := by decide +kernel
theorem dX5_picture_55 : decode cX5_picture 55 = .ok (.ifCond .ne 8, 3) := by decide +kernel
theorem dX5_picture_58 : decode cX5_picture 58 = .ok (.bipush 46, 2) := by decide +kernel
theorem dX5_picture_60 : decode cX5_picture 60 = .ok (.goto 15, 3) := by decide +kernel
theorem dX5_picture_63 : decode cX5_picture 63 = .ok (.iload_n 3, 1) := by decide +kernel
theorem dX5_picture_64 : decode cX5_picture 64 = .ok (.iconst 1, 1) := by decide +kernel
theorem dX5_picture_65 : decode cX5_picture 65 = .ok (.if_icmp .ne 8, 3) := by decide +kernel
theorem dX5_picture_68 : decode cX5_picture 68 = .ok (.bipush 40, 2) := by decide +kernel
theorem dX5_picture_70 : decode cX5_picture 70 = .ok (.goto 5, 3) := by decide +kernel
theorem dX5_picture_73 : decode cX5_picture 73 = .ok (.bipush 41, 2) := by decide +kernel
theorem dX5_picture_75 : decode cX5_picture 75 = .ok (.ireturn, 1) := by decide +kernel
theorem dX5_picture_76 : decode cX5_picture 76 = .ok (.iload_n 2, 1) := by decide +kernel
theorem dX5_picture_77 : decode cX5_picture 77 = .ok (.invokestatic 79, 3) := by decide +kernel
theorem dX5_picture_80 : decode cX5_picture 80 = .ok (.ifCond .ne 9, 3) := by decide +kernel
theorem dX5_picture_83 : decode cX5_picture 83 = .ok (.ldc_w 280, 3) := by decide +kernel
theorem dX5_picture_86 : decode cX5_picture 86 = .ok (.goto 6, 3) := by decide +kernel
theorem dX5_picture_89 : decode cX5_picture 89 = .ok (.ldc_w 282, 3) := by decide +kernel
theorem dX5_picture_92 : decode cX5_picture 92 = .ok (.iload_n 2, 1) := by decide +kernel
theorem dX5_picture_93 : decode cX5_picture 93 = .ok (.invokestatic 126, 3) := by decide +kernel
theorem dX5_picture_96 : decode cX5_picture 96 = .ok (.invokevirtual 284, 3) := by decide +kernel
theorem dX5_picture_99 : decode cX5_picture 99 = .ok (.ireturn, 1) := by decide +kernel
theorem dX5_countDoors_0 : decode cX5_countDoors 0 = .ok (.iconst 0, 1) := by decide +kernel
theorem dX5_countDoors_1 : decode cX5_countDoors 1 = .ok (.istore_n 1, 1) := by decide +kernel
theorem dX5_countDoors_2 : decode cX5_countDoors 2 = .ok (.iconst 0, 1) := by decide +kernel
theorem dX5_countDoors_3 : decode cX5_countDoors 3 = .ok (.istore_n 2, 1) := by decide +kernel
theorem dX5_countDoors_4 : decode cX5_countDoors 4 = .ok (.iload_n 2, 1) := by decide +kernel
theorem dX5_countDoors_5 : decode cX5_countDoors 5 = .ok (.bipush 36, 2) := by decide +kernel
theorem dX5_countDoors_7 : decode cX5_countDoors 7 = .ok (.if_icmp .ge 29, 3) := by decide +kernel
theorem dX5_countDoors_10 : decode cX5_countDoors 10 = .ok (.iload_n 1, 1) := by decide +kernel
theorem dX5_countDoors_11 : decode cX5_countDoors 11 = .ok (.aload_n 0, 1) := by decide +kernel
theorem dX5_countDoors_12 : decode cX5_countDoors 12 = .ok (.getfield 9, 3) := by decide +kernel
theorem dX5_countDoors_15 : decode cX5_countDoors 15 = .ok (.bipush 36, 2) := by decide +kernel
theorem dX5_countDoors_17 : decode cX5_countDoors 17 = .ok (.iload_n 2, 1) := by decide +kernel
theorem dX5_countDoors_18 : decode cX5_countDoors 18 = .ok (.iadd, 1) := by decide +kernel
theorem dX5_countDoors_19 : decode cX5_countDoors 19 = .ok (.iaload, 1) := by decide +kernel
theorem dX5_countDoors_20 : decode cX5_countDoors 20 = .ok (.ifCond .le 7, 3) := by decide +kernel
theorem dX5_countDoors_23 : decode cX5_countDoors 23 = .ok (.iconst 1, 1) := by decide +kernel
theorem dX5_countDoors_24 : decode cX5_countDoors 24 = .ok (.goto 4, 3) := by decide +kernel
theorem dX5_countDoors_27 : decode cX5_countDoors 27 = .ok (.iconst 0, 1) := by decide +kernel
theorem dX5_countDoors_28 : decode cX5_countDoors 28 = .ok (.iadd, 1) := by decide +kernel
theorem dX5_countDoors_29 : decode cX5_countDoors 29 = .ok (.istore_n 1, 1) := by decide +kernel
theorem dX5_countDoors_30 : decode cX5_countDoors 30 = .ok (.iinc 2 1, 3) := by decide +kernel
theorem dX5_countDoors_33 : decode cX5_countDoors 33 = .ok (.goto (-29), 3) := by decide +kernel
theorem dX5_countDoors_36 : decode cX5_countDoors 36 = .ok (.iload_n 1, 1) := by decide +kernel
theorem dX5_countDoors_37 : decode cX5_countDoors 37 = .ok (.ireturn, 1) := by decide +kernel
set_option maxRecDepth 20000 in
theorem ggX5_account_X5_isBetween : GoodIn wsX5_account wsX5_isBetween := goodIn_r _ [7] (by decide +kernel) (by decide +kernel)
set_option maxRecDepth 20000 in
theorem gX5_account_X5_isBetween : GoodIn wsX5_account (va_wsS RX5 67 yX5_isBetween wsX5_isBetween) := goodIn_app (goodIn_of _ (by decide +kernel)) ggX5_account_X5_isBetween
set_option maxRecDepth 20000 in
theorem ggX5_account_X5_fails : GoodIn wsX5_account wsX5_fails := goodIn_r _ [11, 12, 36, 37, 38, 39, 40, 41, 42, 43, 44, 45, 46, 47, 48, 49, 50, 51, 52, 53, 54, 55, 56, 57, 58] (by decide +kernel) (by decide +kernel)
set_option maxRecDepth 20000 in
theorem gX5_account_X5_fails : GoodIn wsX5_account (wsV RX5 107 RX5 yX5_fails wsX5_fails) := goodIn_app (goodIn_of _ (by decide +kernel)) ggX5_account_X5_fails
set_option maxRecDepth 20000 in
theorem ggX5_account_X5_countPieces : GoodIn wsX5_account wsX5_countPieces := goodIn_ca (goodIn_r _ [16, 1, 17, 18, 6, 19, 4, 5, 7, 36, 37, 38, 39, 40, 41, 42, 43, 44, 45, 46, 47, 48, 49, 50, 51, 52, 53, 54, 55, 56, 57, 58] (by decide +kernel) (by decide +kernel)) (goodIn_sub (fun _ h => List.mem_cons_of_mem _ (List.mem_append_right _ h)) (by decide +kernel))
set_option maxRecDepth 20000 in
theorem gX5_account_X5_countPieces : GoodIn wsX5_account (wsV RX5 83 RX5 yX5_countPieces wsX5_countPieces) := goodIn_app (goodIn_of _ (by decide +kernel)) ggX5_account_X5_countPieces
set_option maxRecDepth 20000 in
theorem ggX5_account_X5_countWalls : GoodIn wsX5_account wsX5_countWalls := goodIn_ca (goodIn_r _ [23, 24, 25, 26, 6, 27, 1, 36, 37, 38, 39, 40, 41, 42, 43, 44, 45, 46, 47, 48, 49, 50, 51, 52, 53, 54, 55, 56, 57, 58] (by decide +kernel) (by decide +kernel)) (goodIn_sub (fun _ h => List.mem_cons_of_mem _ (List.mem_append_right _ h)) (by decide +kernel))
set_option maxRecDepth 20000 in
theorem gX5_account_X5_countWalls : GoodIn wsX5_account (wsV RX5 117 RX5 yX5_countWalls wsX5_countWalls) := goodIn_app (goodIn_of _ (by decide +kernel)) ggX5_account_X5_countWalls
set_option maxRecDepth 20000 in
theorem ggX5_account_X5_countDoors : GoodIn wsX5_account wsX5_countDoors := goodIn_ca (goodIn_r _ [31, 1, 36, 37, 38, 39, 40, 41, 42, 43, 44, 45, 46, 47, 48, 49, 50, 51, 52, 53, 54, 55, 56, 57, 58] (by decide +kernel) (by decide +kernel)) (goodIn_sub (fun _ h => List.mem_cons_of_mem _ (List.mem_append_right _ h)) (by decide +kernel))
set_option maxRecDepth 20000 in
theorem gX5_account_X5_countDoors : GoodIn wsX5_account (wsV RX5 290 RX5 yX5_countDoors wsX5_countDoors) := goodIn_app (goodIn_of _ (by decide +kernel)) ggX5_account_X5_countDoors
set_option maxRecDepth 20000 in
theorem ggX5_account_X5_turn : GoodIn wsX5_account wsX5_turn := goodIn_ca (goodIn_r _ [35, 1, 36, 37, 38, 39, 40, 41, 42, 43, 44, 45, 46, 47, 48, 49, 50, 51, 52, 53, 54, 55, 56, 57, 58] (by decide +kernel) (by decide +kernel)) (goodIn_sub (fun _ h => List.mem_cons_of_mem _ (List.mem_append_right _ h)) (by decide +kernel))
set_option maxRecDepth 20000 in
theorem gX5_account_X5_turn : GoodIn wsX5_account (wsV RX5 160 RX5 yX5_turn wsX5_turn) := goodIn_app (goodIn_of _ (by decide +kernel)) ggX5_account_X5_turn
theorem dX5_account_0 : decode cX5_account 0 = .ok (.aload_n 0, 1) := by decide +kernel
theorem dX5_account_1 : decode cX5_account 1 = .ok (.iconst 1, 1) := by decide +kernel
theorem dX5_account_2 : decode cX5_account 2 = .ok (.iload_n 1, 1) := by decide +kernel
theorem dX5_account_3 : decode cX5_account 3 = .ok (.iconst 0, 1) := by decide +kernel
theorem dX5_account_4 : decode cX5_account 4 = .ok (.bipush 10, 2) := by decide +kernel
theorem dX5_account_6 : decode cX5_account 6 = .ok (.invokestatic 67, 3) := by decide +kernel
theorem dX5_account_9 : decode cX5_account 9 = .ok (.ifCond .ne 7, 3) := by decide +kernel
theorem dX5_account_12 : decode cX5_account 12 = .ok (.iconst 1, 1) := by decide +kernel
theorem dX5_account_13 : decode cX5_account 13 = .ok (.goto 4, 3) := by decide +kernel
theorem dX5_account_16 : decode cX5_account 16 = .ok (.iconst 0, 1) := by decide +kernel
theorem dX5_account_17 : decode cX5_account 17 = .ok (.invokevirtual 107, 3) := by decide +kernel
theorem dX5_account_20 : decode cX5_account 20 = .ok (.ifCond .eq 5, 3) := by decide +kernel
theorem dX5_account_23 : decode cX5_account 23 = .ok (.iconst 0, 1) := by decide +kernel
theorem dX5_account_24 : decode cX5_account 24 = .ok (.ireturn, 1) := by decide +kernel
theorem dX5_account_25 : decode cX5_account 25 = .ok (.iload_n 1, 1) := by decide +kernel
theorem dX5_account_26 : decode cX5_account 26 = .ok (.tableswitch 108 0 9 #[54, 54, 60, 65, 70, 70, 82, 90, 95, 103], 54) := by decide +kernel
theorem dX5_account_80 : decode cX5_account 80 = .ok (.aload_n 0, 1) := by decide +kernel
theorem dX5_account_81 : decode cX5_account 81 = .ok (.iload_n 1, 1) := by decide +kernel
theorem dX5_account_82 : decode cX5_account 82 = .ok (.invokevirtual 83, 3) := by decide +kernel
theorem dX5_account_85 : decode cX5_account 85 = .ok (.ireturn, 1) := by decide +kernel
theorem dX5_account_86 : decode cX5_account 86 = .ok (.aload_n 0, 1) := by decide +kernel
theorem dX5_account_87 : decode cX5_account 87 = .ok (.invokevirtual 117, 3) := by decide +kernel
theorem dX5_account_90 : decode cX5_account 90 = .ok (.ireturn, 1) := by decide +kernel
theorem dX5_account_91 : decode cX5_account 91 = .ok (.aload_n 0, 1) := by decide +kernel
theorem dX5_account_92 : decode cX5_account 92 = .ok (.invokevirtual 290, 3) := by decide +kernel
theorem dX5_account_95 : decode cX5_account 95 = .ok (.ireturn, 1) := by decide +kernel
theorem dX5_account_96 : decode cX5_account 96 = .ok (.aload_n 0, 1) := by decide +kernel
theorem dX5_account_97 : decode cX5_account 97 = .ok (.getfield 9, 3) := by decide +kernel
theorem dX5_account_100 : decode cX5_account 100 = .ok (.bipush 72, 2) := by decide +kernel
theorem dX5_account_102 : decode cX5_account 102 = .ok (.iload_n 1, 1) := by decide +kernel
theorem dX5_account_103 : decode cX5_account 103 = .ok (.iadd, 1) := by decide +kernel
theorem dX5_account_104 : decode cX5_account 104 = .ok (.iconst 4, 1) := by decide +kernel
theorem dX5_account_105 : decode cX5_account 105 = .ok (.isub, 1) := by decide +kernel
theorem dX5_account_106 : decode cX5_account 106 = .ok (.iaload, 1) := by decide +kernel
theorem dX5_account_107 : decode cX5_account 107 = .ok (.ireturn, 1) := by decide +kernel
theorem dX5_account_108 : decode cX5_account 108 = .ok (.aload_n 0, 1) := by decide +kernel
theorem dX5_account_109 : decode cX5_account 109 = .ok (.getfield 9, 3) := by decide +kernel
theorem dX5_account_112 : decode cX5_account 112 = .ok (.bipush 74, 2) := by decide +kernel
theorem dX5_account_114 : decode cX5_account 114 = .ok (.iaload, 1) := by decide +kernel
theorem dX5_account_115 : decode cX5_account 115 = .ok (.ireturn, 1) := by decide +kernel
theorem dX5_account_116 : decode cX5_account 116 = .ok (.aload_n 0, 1) := by decide +kernel
theorem dX5_account_117 : decode cX5_account 117 = .ok (.invokevirtual 160, 3) := by decide +kernel
theorem dX5_account_120 : decode cX5_account 120 = .ok (.ireturn, 1) := by decide +kernel
theorem dX5_account_121 : decode cX5_account 121 = .ok (.aload_n 0, 1) := by decide +kernel
theorem dX5_account_122 : decode cX5_account 122 = .ok (.getfield 9, 3) := by decide +kernel
theorem dX5_account_125 : decode cX5_account 125 = .ok (.bipush 75, 2) := by decide +kernel
theorem dX5_account_127 : decode cX5_account 127 = .ok (.iaload, 1) := by decide +kernel
theorem dX5_account_128 : decode cX5_account 128 = .ok (.ireturn, 1) := by decide +kernel
theorem dX5_account_129 : decode cX5_account 129 = .ok (.aload_n 0, 1) := by decide +kernel
theorem dX5_account_130 : decode cX5_account 130 = .ok (.getfield 234, 3) := by decide +kernel
theorem dX5_account_133 : decode cX5_account 133 = .ok (.ireturn, 1) := by decide +kernel
theorem dX5_account_134 : decode cX5_account 134 = .ok (.aload_n 0, 1) := by decide +kernel
theorem dX5_account_135 : decode cX5_account 135 = .ok (.getfield 60, 3) := by decide +kernel
theorem dX5_account_138 : decode cX5_account 138 = .ok (.ireturn, 1) := by decide +kernel
set_option maxRecDepth 20000 in
theorem ggX5_undo_X5_fails : GoodIn wsX5_undo wsX5_fails := goodIn_r _ [8, 9, 13, 14, 15, 16, 17, 18, 19, 20, 21, 22, 23, 24, 25, 26, 27, 28, 29, 30, 31, 32, 33, 34, 35] (by decide +kernel) (by decide +kernel)
set_option maxRecDepth 20000 in
theorem gX5_undo_X5_fails : GoodIn wsX5_undo (wsV RX5 107 RX5 yX5_fails wsX5_fails) := goodIn_app (goodIn_of _ (by decide +kernel)) ggX5_undo_X5_fails
set_option maxRecDepth 20000 in
theorem ggX5_undo_X5_copyRow : GoodIn wsX5_undo wsX5_copyRow := goodIn_ca (goodIn_r _ [12] (by decide +kernel) (by decide +kernel)) (goodIn_sub (fun _ h => List.mem_cons_of_mem _ (List.mem_append_right _ h)) (by decide +kernel))
set_option maxRecDepth 20000 in
theorem gX5_undo_X5_copyRow : GoodIn wsX5_undo (va_wsS RX5 63 yX5_copyRow wsX5_copyRow) := goodIn_app (goodIn_of _ (by decide +kernel)) ggX5_undo_X5_copyRow
theorem dX5_undo_0 : decode cX5_undo 0 = .ok (.aload_n 0, 1) := by decide +kernel
theorem dX5_undo_1 : decode cX5_undo 1 = .ok (.iconst 1, 1) := by decide +kernel
theorem dX5_undo_2 : decode cX5_undo 2 = .ok (.aload_n 0, 1) := by decide +kernel
theorem dX5_undo_3 : decode cX5_undo 3 = .ok (.getfield 60, 3) := by decide +kernel
theorem dX5_undo_6 : decode cX5_undo 6 = .ok (.ifCond .ne 7, 3) := by decide +kernel
theorem dX5_undo_9 : decode cX5_undo 9 = .ok (.iconst 1, 1) := by decide +kernel
theorem dX5_undo_10 : decode cX5_undo 10 = .ok (.goto 4, 3) := by decide +kernel
theorem dX5_undo_13 : decode cX5_undo 13 = .ok (.iconst 0, 1) := by decide +kernel
theorem dX5_undo_14 : decode cX5_undo 14 = .ok (.invokevirtual 107, 3) := by decide +kernel
theorem dX5_undo_17 : decode cX5_undo 17 = .ok (.ifCond .eq 5, 3) := by decide +kernel
theorem dX5_undo_20 : decode cX5_undo 20 = .ok (.iconst 0, 1) := by decide +kernel
theorem dX5_undo_21 : decode cX5_undo 21 = .ok (.ireturn, 1) := by decide +kernel
theorem dX5_undo_22 : decode cX5_undo 22 = .ok (.aload_n 0, 1) := by decide +kernel
theorem dX5_undo_23 : decode cX5_undo 23 = .ok (.dup, 1) := by decide +kernel
theorem dX5_undo_24 : decode cX5_undo 24 = .ok (.getfield 60, 3) := by decide +kernel
theorem dX5_undo_27 : decode cX5_undo 27 = .ok (.iconst 1, 1) := by decide +kernel
theorem dX5_undo_28 : decode cX5_undo 28 = .ok (.isub, 1) := by decide +kernel
theorem dX5_undo_29 : decode cX5_undo 29 = .ok (.putfield 60, 3) := by decide +kernel
theorem dX5_undo_32 : decode cX5_undo 32 = .ok (.aload_n 0, 1) := by decide +kernel
theorem dX5_undo_33 : decode cX5_undo 33 = .ok (.getfield 18, 3) := by decide +kernel
theorem dX5_undo_36 : decode cX5_undo 36 = .ok (.aload_n 0, 1) := by decide +kernel
theorem dX5_undo_37 : decode cX5_undo 37 = .ok (.getfield 60, 3) := by decide +kernel
theorem dX5_undo_40 : decode cX5_undo 40 = .ok (.aaload, 1) := by decide +kernel
theorem dX5_undo_41 : decode cX5_undo 41 = .ok (.aload_n 0, 1) := by decide +kernel
theorem dX5_undo_42 : decode cX5_undo 42 = .ok (.getfield 9, 3) := by decide +kernel
theorem dX5_undo_45 : decode cX5_undo 45 = .ok (.invokestatic 63, 3) := by decide +kernel
theorem dX5_undo_48 : decode cX5_undo 48 = .ok (.aload_n 0, 1) := by decide +kernel
theorem dX5_undo_49 : decode cX5_undo 49 = .ok (.getfield 60, 3) := by decide +kernel
theorem dX5_undo_52 : decode cX5_undo 52 = .ok (.ireturn, 1) := by decide +kernel
set_option maxRecDepth 20000 in
theorem ggX5_save_X5_copyRow : GoodIn wsX5_save wsX5_copyRow := goodIn_ca (goodIn_r _ [8] (by decide +kernel) (by decide +kernel)) (goodIn_sub (fun _ h => List.mem_cons_of_mem _ (List.mem_append_right _ h)) (by decide +kernel))
set_option maxRecDepth 20000 in
theorem gX5_save_X5_copyRow : GoodIn wsX5_save (va_wsS RX5 63 yX5_copyRow wsX5_copyRow) := goodIn_app (goodIn_of _ (by decide +kernel)) ggX5_save_X5_copyRow
set_option maxRecDepth 20000 in
theorem ggX5_save_X5_allPieces : GoodIn wsX5_save wsX5_allPieces := goodIn_ca (goodIn_r _ [12, 13, 14, 15, 7, 16, 3, 17, 18, 19, 20, 21, 22, 23, 24, 25, 26, 27, 28, 29, 30, 31, 32, 33, 34, 35, 36, 37, 38, 39, 40, 41, 42, 43, 44, 45] (by decide +kernel) (by decide +kernel)) (goodIn_sub (fun _ h => List.mem_cons_of_mem _ (List.mem_append_right _ h)) (by decide +kernel))
set_option maxRecDepth 20000 in
theorem gX5_save_X5_allPieces : GoodIn wsX5_save (wsV RX5 97 RX5 yX5_allPieces wsX5_allPieces) := goodIn_app (goodIn_of _ (by decide +kernel)) ggX5_save_X5_allPieces
theorem dX5_save_0 : decode cX5_save 0 = .ok (.aload_n 0, 1) := by decide +kernel
theorem dX5_save_1 : decode cX5_save 1 = .ok (.iconst 0, 1) := by decide +kernel
theorem dX5_save_2 : decode cX5_save 2 = .ok (.putfield 51, 3) := by decide +kernel
theorem dX5_save_5 : decode cX5_save 5 = .ok (.aload_n 0, 1) := by decide +kernel
theorem dX5_save_6 : decode cX5_save 6 = .ok (.iconst 1, 1) := by decide +kernel
theorem dX5_save_7 : decode cX5_save 7 = .ok (.putfield 293, 3) := by decide +kernel
theorem dX5_save_10 : decode cX5_save 10 = .ok (.aload_n 0, 1) := by decide +kernel
theorem dX5_save_11 : decode cX5_save 11 = .ok (.getfield 9, 3) := by decide +kernel
theorem dX5_save_14 : decode cX5_save 14 = .ok (.aload_n 0, 1) := by decide +kernel
theorem dX5_save_15 : decode cX5_save 15 = .ok (.getfield 13, 3) := by decide +kernel
theorem dX5_save_18 : decode cX5_save 18 = .ok (.invokestatic 63, 3) := by decide +kernel
theorem dX5_save_21 : decode cX5_save 21 = .ok (.aload_n 0, 1) := by decide +kernel
theorem dX5_save_22 : decode cX5_save 22 = .ok (.invokevirtual 97, 3) := by decide +kernel
theorem dX5_save_25 : decode cX5_save 25 = .ok (.ireturn, 1) := by decide +kernel
set_option maxRecDepth 20000 in
theorem ggX5_restore_X5_fails : GoodIn wsX5_restore wsX5_fails := goodIn_r _ [9, 10, 28, 29, 30, 31, 32, 33, 34, 35, 36, 37, 38, 39, 40, 41, 42, 43, 44, 45, 46, 47, 48, 49, 50] (by decide +kernel) (by decide +kernel)
set_option maxRecDepth 20000 in
theorem gX5_restore_X5_fails : GoodIn wsX5_restore (wsV RX5 107 RX5 yX5_fails wsX5_fails) := goodIn_app (goodIn_of _ (by decide +kernel)) ggX5_restore_X5_fails
set_option maxRecDepth 20000 in
theorem ggX5_restore_X5_copyRow : GoodIn wsX5_restore wsX5_copyRow := goodIn_ca (goodIn_r _ [13] (by decide +kernel) (by decide +kernel)) (goodIn_sub (fun _ h => List.mem_cons_of_mem _ (List.mem_append_right _ h)) (by decide +kernel))
set_option maxRecDepth 20000 in
theorem gX5_restore_X5_copyRow : GoodIn wsX5_restore (va_wsS RX5 63 yX5_copyRow wsX5_copyRow) := goodIn_app (goodIn_of _ (by decide +kernel)) ggX5_restore_X5_copyRow
set_option maxRecDepth 20000 in
theorem ggX5_restore_X5_allPieces : GoodIn wsX5_restore wsX5_allPieces := goodIn_ca (goodIn_r _ [17, 18, 19, 20, 8, 21, 3, 22, 23, 24, 25, 26, 27, 28, 29, 30, 31, 32, 33, 34, 35, 36, 37, 38, 39, 40, 41, 42, 43, 44, 45, 46, 47, 48, 49, 50] (by decide +kernel) (by decide +kernel)) (goodIn_sub (fun _ h => List.mem_cons_of_mem _ (List.mem_append_right _ h)) (by decide +kernel))
set_option maxRecDepth 20000 in
theorem gX5_restore_X5_allPieces : GoodIn wsX5_restore (wsV RX5 97 RX5 yX5_allPieces wsX5_allPieces) := goodIn_app (goodIn_of _ (by decide +kernel)) ggX5_restore_X5_allPieces
theorem dX5_restore_0 : decode cX5_restore 0 = .ok (.aload_n 0, 1) := by decide +kernel
theorem dX5_restore_1 : decode cX5_restore 1 = .ok (.iconst 1, 1) := by decide +kernel
theorem dX5_restore_2 : decode cX5_restore 2 = .ok (.aload_n 0, 1) := by decide +kernel
theorem dX5_restore_3 : decode cX5_restore 3 = .ok (.getfield 293, 3) := by decide +kernel
theorem dX5_restore_6 : decode cX5_restore 6 = .ok (.ifCond .ne 7, 3) := by decide +kernel
theorem dX5_restore_9 : decode cX5_restore 9 = .ok (.iconst 1, 1) := by decide +kernel
theorem dX5_restore_10 : decode cX5_restore 10 = .ok (.goto 4, 3) := by decide +kernel
theorem dX5_restore_13 : decode cX5_restore 13 = .ok (.iconst 0, 1) := by decide +kernel
theorem dX5_restore_14 : decode cX5_restore 14 = .ok (.invokevirtual 107, 3) := by decide +kernel
theorem dX5_restore_17 : decode cX5_restore 17 = .ok (.ifCond .eq 5, 3) := by decide +kernel
theorem dX5_restore_20 : decode cX5_restore 20 = .ok (.iconst 0, 1) := by decide +kernel
theorem dX5_restore_21 : decode cX5_restore 21 = .ok (.ireturn, 1) := by decide +kernel
theorem dX5_restore_22 : decode cX5_restore 22 = .ok (.aload_n 0, 1) := by decide +kernel
theorem dX5_restore_23 : decode cX5_restore 23 = .ok (.getfield 13, 3) := by decide +kernel
theorem dX5_restore_26 : decode cX5_restore 26 = .ok (.aload_n 0, 1) := by decide +kernel
theorem dX5_restore_27 : decode cX5_restore 27 = .ok (.getfield 9, 3) := by decide +kernel
theorem dX5_restore_30 : decode cX5_restore 30 = .ok (.invokestatic 63, 3) := by decide +kernel
theorem dX5_restore_33 : decode cX5_restore 33 = .ok (.aload_n 0, 1) := by decide +kernel
theorem dX5_restore_34 : decode cX5_restore 34 = .ok (.iconst 0, 1) := by decide +kernel
theorem dX5_restore_35 : decode cX5_restore 35 = .ok (.putfield 60, 3) := by decide +kernel
theorem dX5_restore_38 : decode cX5_restore 38 = .ok (.aload_n 0, 1) := by decide +kernel
theorem dX5_restore_39 : decode cX5_restore 39 = .ok (.invokevirtual 97, 3) := by decide +kernel
theorem dX5_restore_42 : decode cX5_restore 42 = .ok (.ireturn, 1) := by decide +kernel

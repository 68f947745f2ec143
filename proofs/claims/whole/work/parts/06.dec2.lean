theorem dX5_init_0 : decode cX5_init 0 = .ok (.aload_n 0, 1) := by decide +kernel
theorem dX5_init_1 : decode cX5_init 1 = .ok (.invokespecial 3, 3) := by decide +kernel
theorem dX5_init_4 : decode cX5_init 4 = .ok (.aload_n 0, 1) := by decide +kernel
theorem dX5_init_5 : decode cX5_init 5 = .ok (.bipush 76, 2) := by decide +kernel
theorem dX5_init_7 : decode cX5_init 7 = .ok (.newarray .int, 2) := by decide +kernel
theorem dX5_init_9 : decode cX5_init 9 = .ok (.putfield 9, 3) := by decide +kernel
theorem dX5_init_12 : decode cX5_init 12 = .ok (.aload_n 0, 1) := by decide +kernel
theorem dX5_init_13 : decode cX5_init 13 = .ok (.bipush 76, 2) := by decide +kernel
theorem dX5_init_15 : decode cX5_init 15 = .ok (.newarray .int, 2) := by decide +kernel
theorem dX5_init_17 : decode cX5_init 17 = .ok (.putfield 13, 3) := by decide +kernel
theorem dX5_init_20 : decode cX5_init 20 = .ok (.aload_n 0, 1) := by decide +kernel
theorem dX5_init_21 : decode cX5_init 21 = .ok (.bipush 6, 2) := by decide +kernel
theorem dX5_init_23 : decode cX5_init 23 = .ok (.bipush 76, 2) := by decide +kernel
theorem dX5_init_25 : decode cX5_init 25 = .ok (.multianewarray 16 2, 4) := by decide +kernel
theorem dX5_init_29 : decode cX5_init 29 = .ok (.putfield 18, 3) := by decide +kernel
theorem dX5_init_32 : decode cX5_init 32 = .ok (.aload_n 0, 1) := by decide +kernel
theorem dX5_init_33 : decode cX5_init 33 = .ok (.bipush 36, 2) := by decide +kernel
theorem dX5_init_35 : decode cX5_init 35 = .ok (.newarray .boolean, 2) := by decide +kernel
theorem dX5_init_37 : decode cX5_init 37 = .ok (.putfield 21, 3) := by decide +kernel
theorem dX5_init_40 : decode cX5_init 40 = .ok (.aload_n 0, 1) := by decide +kernel
theorem dX5_init_41 : decode cX5_init 41 = .ok (.bipush 36, 2) := by decide +kernel
theorem dX5_init_43 : decode cX5_init 43 = .ok (.newarray .int, 2) := by decide +kernel
theorem dX5_init_45 : decode cX5_init 45 = .ok (.putfield 25, 3) := by decide +kernel
theorem dX5_init_48 : decode cX5_init 48 = .ok (.aload_n 0, 1) := by decide +kernel
theorem dX5_init_49 : decode cX5_init 49 = .ok (.bipush 36, 2) := by decide +kernel
theorem dX5_init_51 : decode cX5_init 51 = .ok (.newarray .int, 2) := by decide +kernel
theorem dX5_init_53 : decode cX5_init 53 = .ok (.putfield 28, 3) := by decide +kernel
theorem dX5_init_56 : decode cX5_init 56 = .ok (.aload_n 0, 1) := by decide +kernel
theorem dX5_init_57 : decode cX5_init 57 = .ok (.bipush 76, 2) := by decide +kernel
theorem dX5_init_59 : decode cX5_init 59 = .ok (.newarray .int, 2) := by decide +kernel
theorem dX5_init_61 : decode cX5_init 61 = .ok (.putfield 31, 3) := by decide +kernel
theorem dX5_init_64 : decode cX5_init 64 = .ok (.aload_n 0, 1) := by decide +kernel
theorem dX5_init_65 : decode cX5_init 65 = .ok (.bipush 36, 2) := by decide +kernel
theorem dX5_init_67 : decode cX5_init 67 = .ok (.newarray .int, 2) := by decide +kernel
theorem dX5_init_69 : decode cX5_init 69 = .ok (.putfield 34, 3) := by decide +kernel
theorem dX5_init_72 : decode cX5_init 72 = .ok (.aload_n 0, 1) := by decide +kernel
theorem dX5_init_73 : decode cX5_init 73 = .ok (.bipush 60, 2) := by decide +kernel
theorem dX5_init_75 : decode cX5_init 75 = .ok (.newarray .char, 2) := by decide +kernel
theorem dX5_init_77 : decode cX5_init 77 = .ok (.putfield 37, 3) := by decide +kernel
theorem dX5_init_80 : decode cX5_init 80 = .ok (.aload_n 0, 1) := by decide +kernel
theorem dX5_init_81 : decode cX5_init 81 = .ok (.iconst (-1), 1) := by decide +kernel
theorem dX5_init_82 : decode cX5_init 82 = .ok (.putfield 41, 3) := by decide +kernel
theorem dX5_init_85 : decode cX5_init 85 = .ok (.aload_n 0, 1) := by decide +kernel
theorem dX5_init_86 : decode cX5_init 86 = .ok (.bipush 76, 2) := by decide +kernel
theorem dX5_init_88 : decode cX5_init 88 = .ok (.newarray .int, 2) := by decide +kernel
theorem dX5_init_90 : decode cX5_init 90 = .ok (.putfield 45, 3) := by decide +kernel
theorem dX5_init_93 : decode cX5_init 93 = .ok (.aload_n 0, 1) := by decide +kernel
theorem dX5_init_94 : decode cX5_init 94 = .ok (.invokevirtual 48, 3) := by decide +kernel
theorem dX5_init_97 : decode cX5_init 97 = .ok (.return_, 1) := by decide +kernel
theorem dX5_thrown_0 : decode cX5_thrown 0 = .ok (.aload_n 0, 1) := by decide +kernel
theorem dX5_thrown_1 : decode cX5_thrown 1 = .ok (.getfield 51, 3) := by decide +kernel
theorem dX5_thrown_4 : decode cX5_thrown 4 = .ok (.ireturn, 1) := by decide +kernel
theorem dX5_isBetween_0 : decode cX5_isBetween 0 = .ok (.iload_n 0, 1) := by decide +kernel
theorem dX5_isBetween_1 : decode cX5_isBetween 1 = .ok (.iload_n 1, 1) := by decide +kernel
theorem dX5_isBetween_2 : decode cX5_isBetween 2 = .ok (.if_icmp .lt 12, 3) := by decide +kernel
theorem dX5_isBetween_5 : decode cX5_isBetween 5 = .ok (.iload_n 0, 1) := by decide +kernel
theorem dX5_isBetween_6 : decode cX5_isBetween 6 = .ok (.iload_n 2, 1) := by decide +kernel
theorem dX5_isBetween_7 : decode cX5_isBetween 7 = .ok (.if_icmp .gt 7, 3) := by decide +kernel
theorem dX5_isBetween_10 : decode cX5_isBetween 10 = .ok (.iconst 1, 1) := by decide +kernel
theorem dX5_isBetween_11 : decode cX5_isBetween 11 = .ok (.goto 4, 3) := by decide +kernel
theorem dX5_isBetween_14 : decode cX5_isBetween 14 = .ok (.iconst 0, 1) := by decide +kernel
theorem dX5_isBetween_15 : decode cX5_isBetween 15 = .ok (.ireturn, 1) := by decide +kernel
theorem dX5_copyRow_0 : decode cX5_copyRow 0 = .ok (.iconst 0, 1) := by decide +kernel
theorem dX5_copyRow_1 : decode cX5_copyRow 1 = .ok (.istore_n 2, 1) := by decide +kernel
theorem dX5_copyRow_2 : decode cX5_copyRow 2 = .ok (.iload_n 2, 1) := by decide +kernel
theorem dX5_copyRow_3 : decode cX5_copyRow 3 = .ok (.bipush 76, 2) := by decide +kernel
theorem dX5_copyRow_5 : decode cX5_copyRow 5 = .ok (.if_icmp .ge 15, 3) := by decide +kernel
theorem dX5_copyRow_8 : decode cX5_copyRow 8 = .ok (.aload_n 1, 1) := by decide +kernel
theorem dX5_copyRow_9 : decode cX5_copyRow 9 = .ok (.iload_n 2, 1) := by decide +kernel
theorem dX5_copyRow_10 : decode cX5_copyRow 10 = .ok (.aload_n 0, 1) := by decide +kernel
theorem dX5_copyRow_11 : decode cX5_copyRow 11 = .ok (.iload_n 2, 1) := by decide +kernel
theorem dX5_copyRow_12 : decode cX5_copyRow 12 = .ok (.iaload, 1) := by decide +kernel
theorem dX5_copyRow_13 : decode cX5_copyRow 13 = .ok (.iastore, 1) := by decide +kernel
theorem dX5_copyRow_14 : decode cX5_copyRow 14 = .ok (.iinc 2 1, 3) := by decide +kernel
theorem dX5_copyRow_17 : decode cX5_copyRow 17 = .ok (.goto (-15), 3) := by decide +kernel
theorem dX5_copyRow_20 : decode cX5_copyRow 20 = .ok (.return_, 1) := by decide +kernel
theorem dX5_fails_0 : decode cX5_fails 0 = .ok (.aload_n 0, 1) := by decide +kernel
theorem dX5_fails_1 : decode cX5_fails 1 = .ok (.iload_n 2, 1) := by decide +kernel
theorem dX5_fails_2 : decode cX5_fails 2 = .ok (.ifCond .eq 7, 3) := by decide +kernel
theorem dX5_fails_5 : decode cX5_fails 5 = .ok (.iload_n 1, 1) := by decide +kernel
theorem dX5_fails_6 : decode cX5_fails 6 = .ok (.goto 4, 3) := by decide +kernel
theorem dX5_fails_9 : decode cX5_fails 9 = .ok (.iconst 0, 1) := by decide +kernel
theorem dX5_fails_10 : decode cX5_fails 10 = .ok (.putfield 51, 3) := by decide +kernel
theorem dX5_fails_13 : decode cX5_fails 13 = .ok (.iload_n 2, 1) := by decide +kernel
theorem dX5_fails_14 : decode cX5_fails 14 = .ok (.ireturn, 1) := by decide +kernel
theorem dX5_refuse_0 : decode cX5_refuse 0 = .ok (.iload_n 1, 1) := by decide +kernel
theorem dX5_refuse_1 : decode cX5_refuse 1 = .ok (.ifCond .eq 13, 3) := by decide +kernel
theorem dX5_refuse_4 : decode cX5_refuse 4 = .ok (.aload_n 0, 1) := by decide +kernel
theorem dX5_refuse_5 : decode cX5_refuse 5 = .ok (.iload_n 2, 1) := by decide +kernel
theorem dX5_refuse_6 : decode cX5_refuse 6 = .ok (.putfield 54, 3) := by decide +kernel
theorem dX5_refuse_9 : decode cX5_refuse 9 = .ok (.aload_n 0, 1) := by decide +kernel
theorem dX5_refuse_10 : decode cX5_refuse 10 = .ok (.iload_n 3, 1) := by decide +kernel
theorem dX5_refuse_11 : decode cX5_refuse 11 = .ok (.putfield 57, 3) := by decide +kernel
theorem dX5_refuse_14 : decode cX5_refuse 14 = .ok (.iload_n 1, 1) := by decide +kernel
theorem dX5_refuse_15 : decode cX5_refuse 15 = .ok (.ireturn, 1) := by decide +kernel
set_option maxRecDepth 20000 in
theorem ggX5_remember_X5_copyRow : GoodIn wsX5_remember wsX5_copyRow := goodIn_ca (goodIn_r _ [6] (by decide +kernel) (by decide +kernel)) (goodIn_sub (fun _ h => List.mem_cons_of_mem _ (List.mem_append_right _ h)) (by decide +kernel))
set_option maxRecDepth 20000 in
theorem gX5_remember_X5_copyRow : GoodIn wsX5_remember (va_wsS RX5 63 yX5_copyRow wsX5_copyRow) := goodIn_app (goodIn_of _ (by decide +kernel)) ggX5_remember_X5_copyRow
theorem dX5_remember_0 : decode cX5_remember 0 = .ok (.aload_n 0, 1) := by decide +kernel
theorem dX5_remember_1 : decode cX5_remember 1 = .ok (.getfield 60, 3) := by decide +kernel
theorem dX5_remember_4 : decode cX5_remember 4 = .ok (.bipush 6, 2) := by decide +kernel
theorem dX5_remember_6 : decode cX5_remember 6 = .ok (.if_icmp .ne 46, 3) := by decide +kernel
theorem dX5_remember_9 : decode cX5_remember 9 = .ok (.aload_n 0, 1) := by decide +kernel
theorem dX5_remember_10 : decode cX5_remember 10 = .ok (.dup, 1) := by decide +kernel
theorem dX5_remember_11 : decode cX5_remember 11 = .ok (.getfield 60, 3) := by decide +kernel
theorem dX5_remember_14 : decode cX5_remember 14 = .ok (.iconst 1, 1) := by decide +kernel
theorem dX5_remember_15 : decode cX5_remember 15 = .ok (.isub, 1) := by decide +kernel
theorem dX5_remember_16 : decode cX5_remember 16 = .ok (.putfield 60, 3) := by decide +kernel
theorem dX5_remember_19 : decode cX5_remember 19 = .ok (.iconst 0, 1) := by decide +kernel
theorem dX5_remember_20 : decode cX5_remember 20 = .ok (.istore_n 2, 1) := by decide +kernel
theorem dX5_remember_21 : decode cX5_remember 21 = .ok (.iload_n 2, 1) := by decide +kernel
theorem dX5_remember_22 : decode cX5_remember 22 = .ok (.aload_n 0, 1) := by decide +kernel
theorem dX5_remember_23 : decode cX5_remember 23 = .ok (.getfield 60, 3) := by decide +kernel
theorem dX5_remember_26 : decode cX5_remember 26 = .ok (.if_icmp .ge 26, 3) := by decide +kernel
theorem dX5_remember_29 : decode cX5_remember 29 = .ok (.aload_n 0, 1) := by decide +kernel
theorem dX5_remember_30 : decode cX5_remember 30 = .ok (.getfield 18, 3) := by decide +kernel
theorem dX5_remember_33 : decode cX5_remember 33 = .ok (.iload_n 2, 1) := by decide +kernel
theorem dX5_remember_34 : decode cX5_remember 34 = .ok (.iconst 1, 1) := by decide +kernel
theorem dX5_remember_35 : decode cX5_remember 35 = .ok (.iadd, 1) := by decide +kernel
theorem dX5_remember_36 : decode cX5_remember 36 = .ok (.aaload, 1) := by decide +kernel
theorem dX5_remember_37 : decode cX5_remember 37 = .ok (.aload_n 0, 1) := by decide +kernel
theorem dX5_remember_38 : decode cX5_remember 38 = .ok (.getfield 18, 3) := by decide +kernel
theorem dX5_remember_41 : decode cX5_remember 41 = .ok (.iload_n 2, 1) := by decide +kernel
theorem dX5_remember_42 : decode cX5_remember 42 = .ok (.aaload, 1) := by decide +kernel
theorem dX5_remember_43 : decode cX5_remember 43 = .ok (.invokestatic 63, 3) := by decide +kernel
theorem dX5_remember_46 : decode cX5_remember 46 = .ok (.iinc 2 1, 3) := by decide +kernel
theorem dX5_remember_49 : decode cX5_remember 49 = .ok (.goto (-28), 3) := by decide +kernel
theorem dX5_remember_52 : decode cX5_remember 52 = .ok (.aload_n 1, 1) := by decide +kernel
theorem dX5_remember_53 : decode cX5_remember 53 = .ok (.aload_n 0, 1) := by decide +kernel
theorem dX5_remember_54 : decode cX5_remember 54 = .ok (.getfield 18, 3) := by decide +kernel
theorem dX5_remember_57 : decode cX5_remember 57 = .ok (.aload_n 0, 1) := by decide +kernel
theorem dX5_remember_58 : decode cX5_remember 58 = .ok (.getfield 60, 3) := by decide +kernel
theorem dX5_remember_61 : decode cX5_remember 61 = .ok (.aaload, 1) := by decide +kernel
theorem dX5_remember_62 : decode cX5_remember 62 = .ok (.invokestatic 63, 3) := by decide +kernel
theorem dX5_remember_65 : decode cX5_remember 65 = .ok (.aload_n 0, 1) := by decide +kernel
theorem dX5_remember_66 : decode cX5_remember 66 = .ok (.dup, 1) := by decide +kernel
theorem dX5_remember_67 : decode cX5_remember 67 = .ok (.getfield 60, 3) := by decide +kernel
theorem dX5_remember_70 : decode cX5_remember 70 = .ok (.iconst 1, 1) := by decide +kernel
theorem dX5_remember_71 : decode cX5_remember 71 = .ok (.iadd, 1) := by decide +kernel
theorem dX5_remember_72 : decode cX5_remember 72 = .ok (.putfield 60, 3) := by decide +kernel
theorem dX5_remember_75 : decode cX5_remember 75 = .ok (.return_, 1) := by decide +kernel
set_option maxRecDepth 20000 in
theorem ggX5_isSquare_X5_isBetween : GoodIn wsX5_isSquare wsX5_isBetween := goodIn_r _ [4] (by decide +kernel) (by decide +kernel)
set_option maxRecDepth 20000 in
theorem gX5_isSquare_X5_isBetween : GoodIn wsX5_isSquare (va_wsS RX5 67 yX5_isBetween wsX5_isBetween) := goodIn_app (goodIn_of _ (by decide +kernel)) ggX5_isSquare_X5_isBetween
theorem dX5_isSquare_0 : decode cX5_isSquare 0 = .ok (.iload_n 0, 1) := by decide +kernel
theorem dX5_isSquare_1 : decode cX5_isSquare 1 = .ok (.iconst 0, 1) := by decide +kernel
theorem dX5_isSquare_2 : decode cX5_isSquare 2 = .ok (.bipush 35, 2) := by decide +kernel
theorem dX5_isSquare_4 : decode cX5_isSquare 4 = .ok (.invokestatic 67, 3) := by decide +kernel
theorem dX5_isSquare_7 : decode cX5_isSquare 7 = .ok (.ireturn, 1) := by decide +kernel
set_option maxRecDepth 20000 in
theorem ggX5_isSide_X5_isBetween : GoodIn wsX5_isSide wsX5_isBetween := goodIn_r _ [4] (by decide +kernel) (by decide +kernel)
set_option maxRecDepth 20000 in
theorem gX5_isSide_X5_isBetween : GoodIn wsX5_isSide (va_wsS RX5 67 yX5_isBetween wsX5_isBetween) := goodIn_app (goodIn_of _ (by decide +kernel)) ggX5_isSide_X5_isBetween
theorem dX5_isSide_0 : decode cX5_isSide 0 = .ok (.iload_n 0, 1) := by decide +kernel
theorem dX5_isSide_1 : decode cX5_isSide 1 = .ok (.iconst 0, 1) := by decide +kernel
theorem dX5_isSide_2 : decode cX5_isSide 2 = .ok (.iconst 1, 1) := by decide +kernel
theorem dX5_isSide_3 : decode cX5_isSide 3 = .ok (.invokestatic 67, 3) := by decide +kernel
theorem dX5_isSide_6 : decode cX5_isSide 6 = .ok (.ireturn, 1) := by decide +kernel
theorem dX5_codeOf_0 : decode cX5_codeOf 0 = .ok (.iconst 1, 1) := by decide +kernel
theorem dX5_codeOf_1 : decode cX5_codeOf 1 = .ok (.iconst 4, 1) := by decide +kernel
theorem dX5_codeOf_2 : decode cX5_codeOf 2 = .ok (.iload_n 0, 1) := by decide +kernel
theorem dX5_codeOf_3 : decode cX5_codeOf 3 = .ok (.imul, 1) := by decide +kernel
theorem dX5_codeOf_4 : decode cX5_codeOf 4 = .ok (.iadd, 1) := by decide +kernel
theorem dX5_codeOf_5 : decode cX5_codeOf 5 = .ok (.iload_n 1, 1) := by decide +kernel
theorem dX5_codeOf_6 : decode cX5_codeOf 6 = .ok (.iadd, 1) := by decide +kernel
theorem dX5_codeOf_7 : decode cX5_codeOf 7 = .ok (.ireturn, 1) := by decide +kernel
set_option maxRecDepth 20000 in
theorem ggX5_sideOf_X5_isBetween : GoodIn wsX5_sideOf wsX5_isBetween := goodIn_r _ [4] (by decide +kernel) (by decide +kernel)
set_option maxRecDepth 20000 in
theorem gX5_sideOf_X5_isBetween : GoodIn wsX5_sideOf (va_wsS RX5 67 yX5_isBetween wsX5_isBetween) := goodIn_app (goodIn_of _ (by decide +kernel)) ggX5_sideOf_X5_isBetween
theorem dX5_sideOf_0 : decode cX5_sideOf 0 = .ok (.iload_n 0, 1) := by decide +kernel
theorem dX5_sideOf_1 : decode cX5_sideOf 1 = .ok (.iconst 1, 1) := by decide +kernel
theorem dX5_sideOf_2 : decode cX5_sideOf 2 = .ok (.bipush 8, 2) := by decide +kernel
theorem dX5_sideOf_4 : decode cX5_sideOf 4 = .ok (.invokestatic 67, 3) := by decide +kernel
theorem dX5_sideOf_7 : decode cX5_sideOf 7 = .ok (.ifCond .eq 11, 3) := by decide +kernel
theorem dX5_sideOf_10 : decode cX5_sideOf 10 = .ok (.iload_n 0, 1) := by decide +kernel
theorem dX5_sideOf_11 : decode cX5_sideOf 11 = .ok (.iconst 1, 1) := by decide +kernel
theorem dX5_sideOf_12 : decode cX5_sideOf 12 = .ok (.isub, 1) := by decide +kernel
theorem dX5_sideOf_13 : decode cX5_sideOf 13 = .ok (.iconst 4, 1) := by decide +kernel
theorem dX5_sideOf_14 : decode cX5_sideOf 14 = .ok (.idiv, 1) := by decide +kernel
theorem dX5_sideOf_15 : decode cX5_sideOf 15 = .ok (.goto 4, 3) := by decide +kernel
theorem dX5_sideOf_18 : decode cX5_sideOf 18 = .ok (.iconst (-1), 1) := by decide +kernel
theorem dX5_sideOf_19 : decode cX5_sideOf 19 = .ok (.ireturn, 1) := by decide +kernel
set_option maxRecDepth 20000 in
theorem ggX5_kindOf_X5_isBetween : GoodIn wsX5_kindOf wsX5_isBetween := goodIn_r _ [4] (by decide +kernel) (by decide +kernel)
set_option maxRecDepth 20000 in
theorem gX5_kindOf_X5_isBetween : GoodIn wsX5_kindOf (va_wsS RX5 67 yX5_isBetween wsX5_isBetween) := goodIn_app (goodIn_of _ (by decide +kernel)) ggX5_kindOf_X5_isBetween
theorem dX5_kindOf_0 : decode cX5_kindOf 0 = .ok (.iload_n 0, 1) := by decide +kernel
theorem dX5_kindOf_1 : decode cX5_kindOf 1 = .ok (.iconst 1, 1) := by decide +kernel
theorem dX5_kindOf_2 : decode cX5_kindOf 2 = .ok (.bipush 8, 2) := by decide +kernel
theorem dX5_kindOf_4 : decode cX5_kindOf 4 = .ok (.invokestatic 67, 3) := by decide +kernel
theorem dX5_kindOf_7 : decode cX5_kindOf 7 = .ok (.ifCond .eq 11, 3) := by decide +kernel
theorem dX5_kindOf_10 : decode cX5_kindOf 10 = .ok (.iload_n 0, 1) := by decide +kernel
theorem dX5_kindOf_11 : decode cX5_kindOf 11 = .ok (.iconst 1, 1) := by decide +kernel
theorem dX5_kindOf_12 : decode cX5_kindOf 12 = .ok (.isub, 1) := by decide +kernel
theorem dX5_kindOf_13 : decode cX5_kindOf 13 = .ok (.iconst 4, 1) := by decide +kernel
theorem dX5_kindOf_14 : decode cX5_kindOf 14 = .ok (.irem, 1) := by decide +kernel
theorem dX5_kindOf_15 : decode cX5_kindOf 15 = .ok (.goto 4, 3) := by decide +kernel
theorem dX5_kindOf_18 : decode cX5_kindOf 18 = .ok (.iconst (-1), 1) := by decide +kernel
theorem dX5_kindOf_19 : decode cX5_kindOf 19 = .ok (.ireturn, 1) := by decide +kernel
theorem dX5_isWall_0 : decode cX5_isWall 0 = .ok (.aload_n 0, 1) := by decide +kernel
theorem dX5_isWall_1 : decode cX5_isWall 1 = .ok (.getfield 9, 3) := by decide +kernel
theorem dX5_isWall_4 : decode cX5_isWall 4 = .ok (.iload_n 1, 1) := by decide +kernel
theorem dX5_isWall_5 : decode cX5_isWall 5 = .ok (.iaload, 1) := by decide +kernel
theorem dX5_isWall_6 : decode cX5_isWall 6 = .ok (.bipush 20, 2) := by decide +kernel
theorem dX5_isWall_8 : decode cX5_isWall 8 = .ok (.if_icmp .lt 7, 3) := by decide +kernel
theorem dX5_isWall_11 : decode cX5_isWall 11 = .ok (.iconst 1, 1) := by decide +kernel
theorem dX5_isWall_12 : decode cX5_isWall 12 = .ok (.goto 4, 3) := by decide +kernel
theorem dX5_isWall_15 : decode cX5_isWall 15 = .ok (.iconst 0, 1) := by decide +kernel
theorem dX5_isWall_16 : decode cX5_isWall 16 = .ok (.ireturn, 1) := by decide +kernel
set_option maxRecDepth 20000 in
theorem ggX5_next_X5_isBetween : GoodIn wsX5_next wsX5_isBetween := goodIn_r _ [4] (by decide +kernel) (by decide +kernel)
set_option maxRecDepth 20000 in
theorem gX5_next_X5_isBetween : GoodIn wsX5_next (va_wsS RX5 67 yX5_isBetween wsX5_isBetween) := goodIn_app (goodIn_of _ (by decide +kernel)) ggX5_next_X5_isBetween
theorem dX5_next_0 : decode cX5_next 0 = .ok (.iload_n 0, 1) := by decide +kernel
theorem dX5_next_1 : decode cX5_next 1 = .ok (.bipush 6, 2) := by decide +kernel
theorem dX5_next_3 : decode cX5_next 3 = .ok (.idiv, 1) := by decide +kernel
theorem dX5_next_4 : decode cX5_next 4 = .ok (.iload_n 1, 1) := by decide +kernel
theorem dX5_next_5 : decode cX5_next 5 = .ok (.ifCond .ne 7, 3) := by decide +kernel
theorem dX5_next_8 : decode cX5_next 8 = .ok (.iconst (-1), 1) := by decide +kernel
theorem dX5_next_9 : decode cX5_next 9 = .ok (.goto 13, 3) := by decide +kernel
theorem dX5_next_12 : decode cX5_next 12 = .ok (.iload_n 1, 1) := by decide +kernel
theorem dX5_next_13 : decode cX5_next 13 = .ok (.iconst 2, 1) := by decide +kernel
theorem dX5_next_14 : decode cX5_next 14 = .ok (.if_icmp .ne 7, 3) := by decide +kernel
theorem dX5_next_17 : decode cX5_next 17 = .ok (.iconst 1, 1) := by decide +kernel
theorem dX5_next_18 : decode cX5_next 18 = .ok (.goto 4, 3) := by decide +kernel
theorem dX5_next_21 : decode cX5_next 21 = .ok (.iconst 0, 1) := by decide +kernel
theorem dX5_next_22 : decode cX5_next 22 = .ok (.iadd, 1) := by decide +kernel
theorem dX5_next_23 : decode cX5_next 23 = .ok (.istore_n 2, 1) := by decide +kernel
theorem dX5_next_24 : decode cX5_next 24 = .ok (.iload_n 0, 1) := by decide +kernel
theorem dX5_next_25 : decode cX5_next 25 = .ok (.bipush 6, 2) := by decide +kernel
theorem dX5_next_27 : decode cX5_next 27 = .ok (.irem, 1) := by decide +kernel
theorem dX5_next_28 : decode cX5_next 28 = .ok (.iload_n 1, 1) := by decide +kernel
theorem dX5_next_29 : decode cX5_next 29 = .ok (.iconst 1, 1) := by decide +kernel
theorem dX5_next_30 : decode cX5_next 30 = .ok (.if_icmp .ne 7, 3) := by decide +kernel
theorem dX5_next_33 : decode cX5_next 33 = .ok (.iconst 1, 1) := by decide +kernel
theorem dX5_next_34 : decode cX5_next 34 = .ok (.goto 13, 3) := by decide +kernel
theorem dX5_next_37 : decode cX5_next 37 = .ok (.iload_n 1, 1) := by decide +kernel
theorem dX5_next_38 : decode cX5_next 38 = .ok (.iconst 3, 1) := by decide +kernel
theorem dX5_next_39 : decode cX5_next 39 = .ok (.if_icmp .ne 7, 3) := by decide +kernel
theorem dX5_next_42 : decode cX5_next 42 = .ok (.iconst (-1), 1) := by decide +kernel
theorem dX5_next_43 : decode cX5_next 43 = .ok (.goto 4, 3) := by decide +kernel
theorem dX5_next_46 : decode cX5_next 46 = .ok (.iconst 0, 1) := by decide +kernel
theorem dX5_next_47 : decode cX5_next 47 = .ok (.iadd, 1) := by decide +kernel
theorem dX5_next_48 : decode cX5_next 48 = .ok (.istore_n 3, 1) := by decide +kernel
theorem dX5_next_49 : decode cX5_next 49 = .ok (.iload_n 2, 1) := by decide +kernel
theorem dX5_next_50 : decode cX5_next 50 = .ok (.iconst 0, 1) := by decide +kernel
theorem dX5_next_51 : decode cX5_next 51 = .ok (.iconst 5, 1) := by decide +kernel
theorem dX5_next_52 : decode cX5_next 52 = .ok (.invokestatic 67, 3) := by decide +kernel
theorem dX5_next_55 : decode cX5_next 55 = .ok (.ifCond .eq 21, 3) := by decide +kernel
theorem dX5_next_58 : decode cX5_next 58 = .ok (.iload_n 3, 1) := by decide +kernel
theorem dX5_next_59 : decode cX5_next 59 = .ok (.iconst 0, 1) := by decide +kernel
theorem dX5_next_60 : decode cX5_next 60 = .ok (.iconst 5, 1) := by decide +kernel
theorem dX5_next_61 : decode cX5_next 61 = .ok (.invokestatic 67, 3) := by decide +kernel
theorem dX5_next_64 : decode cX5_next 64 = .ok (.ifCond .eq 12, 3) := by decide +kernel
theorem dX5_next_67 : decode cX5_next 67 = .ok (.iload_n 2, 1) := by decide +kernel
theorem dX5_next_68 : decode cX5_next 68 = .ok (.bipush 6, 2) := by decide +kernel
theorem dX5_next_70 : decode cX5_next 70 = .ok (.imul, 1) := by decide +kernel
theorem dX5_next_71 : decode cX5_next 71 = .ok (.iload_n 3, 1) := by decide +kernel
theorem dX5_next_72 : decode cX5_next 72 = .ok (.iadd, 1) := by decide +kernel
theorem dX5_next_73 : decode cX5_next 73 = .ok (.goto 4, 3) := by decide +kernel
theorem dX5_next_76 : decode cX5_next 76 = .ok (.iconst (-1), 1) := by decide +kernel
theorem dX5_next_77 : decode cX5_next 77 = .ok (.ireturn, 1) := by decide +kernel
set_option maxRecDepth 20000 in
theorem ggX5_isOpen_X5_isWall : GoodIn wsX5_isOpen wsX5_isWall := goodIn_ca (goodIn_r _ [6, 1, 7, 8, 9, 10, 11, 12, 13, 14, 15, 16, 17, 18, 19, 20, 21, 22, 23, 24, 25, 26, 27, 28, 29] (by decide +kernel) (by decide +kernel)) (goodIn_sub (fun _ h => List.mem_cons_of_mem _ (List.mem_append_right _ h)) (by decide +kernel))
set_option maxRecDepth 20000 in
theorem gX5_isOpen_X5_isWall : GoodIn wsX5_isOpen (wsV RX5 71 RX5 yX5_isWall wsX5_isWall) := goodIn_app (goodIn_of _ (by decide +kernel)) ggX5_isOpen_X5_isWall
theorem dX5_isOpen_0 : decode cX5_isOpen 0 = .ok (.aload_n 0, 1) := by decide +kernel
theorem dX5_isOpen_1 : decode cX5_isOpen 1 = .ok (.iload_n 2, 1) := by decide +kernel
theorem dX5_isOpen_2 : decode cX5_isOpen 2 = .ok (.invokevirtual 71, 3) := by decide +kernel
theorem dX5_isOpen_5 : decode cX5_isOpen 5 = .ok (.ifCond .ne 22, 3) := by decide +kernel
theorem dX5_isOpen_8 : decode cX5_isOpen 8 = .ok (.aload_n 0, 1) := by decide +kernel
theorem dX5_isOpen_9 : decode cX5_isOpen 9 = .ok (.getfield 9, 3) := by decide +kernel
theorem dX5_isOpen_12 : decode cX5_isOpen 12 = .ok (.bipush 36, 2) := by decide +kernel
theorem dX5_isOpen_14 : decode cX5_isOpen 14 = .ok (.iload_n 2, 1) := by decide +kernel
theorem dX5_isOpen_15 : decode cX5_isOpen 15 = .ok (.iadd, 1) := by decide +kernel
theorem dX5_isOpen_16 : decode cX5_isOpen 16 = .ok (.iaload, 1) := by decide +kernel
theorem dX5_isOpen_17 : decode cX5_isOpen 17 = .ok (.iconst 2, 1) := by decide +kernel
theorem dX5_isOpen_18 : decode cX5_isOpen 18 = .ok (.iload_n 1, 1) := by decide +kernel
theorem dX5_isOpen_19 : decode cX5_isOpen 19 = .ok (.isub, 1) := by decide +kernel
theorem dX5_isOpen_20 : decode cX5_isOpen 20 = .ok (.if_icmp .eq 7, 3) := by decide +kernel
theorem dX5_isOpen_23 : decode cX5_isOpen 23 = .ok (.iconst 1, 1) := by decide +kernel
theorem dX5_isOpen_24 : decode cX5_isOpen 24 = .ok (.goto 4, 3) := by decide +kernel
theorem dX5_isOpen_27 : decode cX5_isOpen 27 = .ok (.iconst 0, 1) := by decide +kernel
theorem dX5_isOpen_28 : decode cX5_isOpen 28 = .ok (.ireturn, 1) := by decide +kernel
set_option maxRecDepth 20000 in
theorem ggX5_mayStand_X5_isOpen : GoodIn wsX5_mayStand wsX5_isOpen := goodIn_ca (goodIn_r _ [6, 1, 7, 8, 9, 5, 10, 11, 12, 13, 14, 15, 16, 17, 18, 19, 20, 21, 22, 23, 24, 25, 26, 27, 28, 29, 30, 31, 32, 33] (by decide +kernel) (by decide +kernel)) (goodIn_sub (fun _ h => List.mem_cons_of_mem _ (List.mem_append_right _ h)) (by decide +kernel))
set_option maxRecDepth 20000 in
theorem gX5_mayStand_X5_isOpen : GoodIn wsX5_mayStand (wsV RX5 75 RX5 yX5_isOpen wsX5_isOpen) := goodIn_app (goodIn_of _ (by decide +kernel)) ggX5_mayStand_X5_isOpen
theorem dX5_mayStand_0 : decode cX5_mayStand 0 = .ok (.iload_n 2, 1) := by decide +kernel
theorem dX5_mayStand_1 : decode cX5_mayStand 1 = .ok (.ifCond .lt 25, 3) := by decide +kernel
theorem dX5_mayStand_4 : decode cX5_mayStand 4 = .ok (.aload_n 0, 1) := by decide +kernel
theorem dX5_mayStand_5 : decode cX5_mayStand 5 = .ok (.iload_n 1, 1) := by decide +kernel
theorem dX5_mayStand_6 : decode cX5_mayStand 6 = .ok (.iload_n 2, 1) := by decide +kernel
theorem dX5_mayStand_7 : decode cX5_mayStand 7 = .ok (.invokevirtual 75, 3) := by decide +kernel
theorem dX5_mayStand_10 : decode cX5_mayStand 10 = .ok (.ifCond .eq 16, 3) := by decide +kernel
theorem dX5_mayStand_13 : decode cX5_mayStand 13 = .ok (.aload_n 0, 1) := by decide +kernel
theorem dX5_mayStand_14 : decode cX5_mayStand 14 = .ok (.getfield 9, 3) := by decide +kernel
theorem dX5_mayStand_17 : decode cX5_mayStand 17 = .ok (.iload_n 2, 1) := by decide +kernel
theorem dX5_mayStand_18 : decode cX5_mayStand 18 = .ok (.iaload, 1) := by decide +kernel
theorem dX5_mayStand_19 : decode cX5_mayStand 19 = .ok (.ifCond .ne 7, 3) := by decide +kernel
theorem dX5_mayStand_22 : decode cX5_mayStand 22 = .ok (.iconst 1, 1) := by decide +kernel
theorem dX5_mayStand_23 : decode cX5_mayStand 23 = .ok (.goto 4, 3) := by decide +kernel
theorem dX5_mayStand_26 : decode cX5_mayStand 26 = .ok (.iconst 0, 1) := by decide +kernel
theorem dX5_mayStand_27 : decode cX5_mayStand 27 = .ok (.ireturn, 1) := by decide +kernel
theorem dX5_empty_0 : decode cX5_empty 0 = .ok (.iconst 0, 1) := by decide +kernel
theorem dX5_empty_1 : decode cX5_empty 1 = .ok (.istore_n 1, 1) := by decide +kernel
theorem dX5_empty_2 : decode cX5_empty 2 = .ok (.iload_n 1, 1) := by decide +kernel
theorem dX5_empty_3 : decode cX5_empty 3 = .ok (.bipush 76, 2) := by decide +kernel
theorem dX5_empty_5 : decode cX5_empty 5 = .ok (.if_icmp .ge 16, 3) := by decide +kernel
theorem dX5_empty_8 : decode cX5_empty 8 = .ok (.aload_n 0, 1) := by decide +kernel
theorem dX5_empty_9 : decode cX5_empty 9 = .ok (.getfield 9, 3) := by decide +kernel
theorem dX5_empty_12 : decode cX5_empty 12 = .ok (.iload_n 1, 1) := by decide +kernel
theorem dX5_empty_13 : decode cX5_empty 13 = .ok (.iconst 0, 1) := by decide +kernel
theorem dX5_empty_14 : decode cX5_empty 14 = .ok (.iastore, 1) := by decide +kernel
theorem dX5_empty_15 : decode cX5_empty 15 = .ok (.iinc 1 1, 3) := by decide +kernel
theorem dX5_empty_18 : decode cX5_empty 18 = .ok (.goto (-16), 3) := by decide +kernel
theorem dX5_empty_21 : decode cX5_empty 21 = .ok (.aload_n 0, 1) := by decide +kernel
theorem dX5_empty_22 : decode cX5_empty 22 = .ok (.getfield 9, 3) := by decide +kernel
theorem dX5_empty_25 : decode cX5_empty 25 = .ok (.bipush 72, 2) := by decide +kernel
theorem dX5_empty_27 : decode cX5_empty 27 = .ok (.iconst 3, 1) := by decide +kernel
theorem dX5_empty_28 : decode cX5_empty 28 = .ok (.iastore, 1) := by decide +kernel
theorem dX5_empty_29 : decode cX5_empty 29 = .ok (.aload_n 0, 1) := by decide +kernel
theorem dX5_empty_30 : decode cX5_empty 30 = .ok (.getfield 9, 3) := by decide +kernel
theorem dX5_empty_33 : decode cX5_empty 33 = .ok (.bipush 73, 2) := by decide +kernel
theorem dX5_empty_35 : decode cX5_empty 35 = .ok (.iconst 3, 1) := by decide +kernel
theorem dX5_empty_36 : decode cX5_empty 36 = .ok (.iastore, 1) := by decide +kernel
theorem dX5_empty_37 : decode cX5_empty 37 = .ok (.return_, 1) := by decide +kernel
set_option maxRecDepth 20000 in
theorem ggX5_countPieces_X5_sideOf : GoodIn wsX5_countPieces wsX5_sideOf := goodIn_r _ [5, 6, 7, 4, 8] (by decide +kernel) (by decide +kernel)
set_option maxRecDepth 20000 in
theorem gX5_countPieces_X5_sideOf : GoodIn wsX5_countPieces (va_wsS RX5 79 yX5_sideOf wsX5_sideOf) := goodIn_app (goodIn_of _ (by decide +kernel)) ggX5_countPieces_X5_sideOf
theorem dX5_countPieces_0 : decode cX5_countPieces 0 = .ok (.iconst 0, 1) := by decide +kernel
theorem dX5_countPieces_1 : decode cX5_countPieces 1 = .ok (.istore_n 2, 1) := by decide +kernel
theorem dX5_countPieces_2 : decode cX5_countPieces 2 = .ok (.iconst 0, 1) := by decide +kernel
theorem dX5_countPieces_3 : decode cX5_countPieces 3 = .ok (.istore_n 3, 1) := by decide +kernel
theorem dX5_countPieces_4 : decode cX5_countPieces 4 = .ok (.iload_n 3, 1) := by decide +kernel
theorem dX5_countPieces_5 : decode cX5_countPieces 5 = .ok (.bipush 36, 2) := by decide +kernel
theorem dX5_countPieces_7 : decode cX5_countPieces 7 = .ok (.if_icmp .ge 30, 3) := by decide +kernel
theorem dX5_countPieces_10 : decode cX5_countPieces 10 = .ok (.iload_n 2, 1) := by decide +kernel
theorem dX5_countPieces_11 : decode cX5_countPieces 11 = .ok (.aload_n 0, 1) := by decide +kernel
theorem dX5_countPieces_12 : decode cX5_countPieces 12 = .ok (.getfield 9, 3) := by decide +kernel
theorem dX5_countPieces_15 : decode cX5_countPieces 15 = .ok (.iload_n 3, 1) := by decide +kernel
theorem dX5_countPieces_16 : decode cX5_countPieces 16 = .ok (.iaload, 1) := by decide +kernel
theorem dX5_countPieces_17 : decode cX5_countPieces 17 = .ok (.invokestatic 79, 3) := by decide +kernel
theorem dX5_countPieces_20 : decode cX5_countPieces 20 = .ok (.iload_n 1, 1) := by decide +kernel
theorem dX5_countPieces_21 : decode cX5_countPieces 21 = .ok (.if_icmp .ne 7, 3) := by decide +kernel
theorem dX5_countPieces_24 : decode cX5_countPieces 24 = .ok (.iconst 1, 1) := by decide +kernel
theorem dX5_countPieces_25 : decode cX5_countPieces 25 = .ok (.goto 4, 3) := by decide +kernel
theorem dX5_countPieces_28 : decode cX5_countPieces 28 = .ok (.iconst 0, 1) := by decide +kernel
theorem dX5_countPieces_29 : decode cX5_countPieces 29 = .ok (.iadd, 1) := by decide +kernel
theorem dX5_countPieces_30 : decode cX5_countPieces 30 = .ok (.istore_n 2, 1) := by decide +kernel
theorem dX5_countPieces_31 : decode cX5_countPieces 31 = .ok (.iinc 3 1, 3) := by decide +kernel
theorem dX5_countPieces_34 : decode cX5_countPieces 34 = .ok (.goto (-30), 3) := by decide +kernel
theorem dX5_countPieces_37 : decode cX5_countPieces 37 = .ok (.iload_n 2, 1) := by decide +kernel
theorem dX5_countPieces_38 : decode cX5_countPieces 38 = .ok (.ireturn, 1) := by decide +kernel
set_option maxRecDepth 20000 in
theorem ggX5_allPieces_X5_countPieces : GoodIn wsX5_allPieces wsX5_countPieces := goodIn_ca (goodIn_r _ [5, 6, 7, 8, 4, 9, 10, 11, 12, 13, 14, 15, 16, 17, 18, 19, 20, 21, 22, 23, 24, 25, 26, 27, 28, 29, 30, 31, 32, 33, 34, 35] (by decide +kernel) (by decide +kernel)) (goodIn_sub (fun _ h => List.mem_cons_of_mem _ (List.mem_append_right _ h)) (by decide +kernel))
set_option maxRecDepth 20000 in
theorem gX5_allPieces_X5_countPieces : GoodIn wsX5_allPieces (wsV RX5 83 RX5 yX5_countPieces wsX5_countPieces) := goodIn_app (goodIn_of _ (by decide +kernel)) ggX5_allPieces_X5_countPieces
theorem dX5_allPieces_0 : decode cX5_allPieces 0 = .ok (.aload_n 0, 1) := by decide +kernel
theorem dX5_allPieces_1 : decode cX5_allPieces 1 = .ok (.iconst 0, 1) := by decide +kernel
theorem dX5_allPieces_2 : decode cX5_allPieces 2 = .ok (.invokevirtual 83, 3) := by decide +kernel
theorem dX5_allPieces_5 : decode cX5_allPieces 5 = .ok (.aload_n 0, 1) := by decide +kernel
theorem dX5_allPieces_6 : decode cX5_allPieces 6 = .ok (.iconst 1, 1) := by decide +kernel
theorem dX5_allPieces_7 : decode cX5_allPieces 7 = .ok (.invokevirtual 83, 3) := by decide +kernel
theorem dX5_allPieces_10 : decode cX5_allPieces 10 = .ok (.iadd, 1) := by decide +kernel
theorem dX5_allPieces_11 : decode cX5_allPieces 11 = .ok (.ireturn, 1) := by decide +kernel
set_option maxRecDepth 20000 in
theorem ggX5_countWalls_X5_isWall : GoodIn wsX5_countWalls wsX5_isWall := goodIn_ca (goodIn_r _ [5, 6, 7, 8, 9, 10, 11, 12, 13, 14, 15, 16, 17, 18, 19, 20, 21, 22, 23, 24, 25, 26, 27, 28, 29] (by decide +kernel) (by decide +kernel)) (goodIn_sub (fun _ h => List.mem_cons_of_mem _ (List.mem_append_right _ h)) (by decide +kernel))
set_option maxRecDepth 20000 in
theorem gX5_countWalls_X5_isWall : GoodIn wsX5_countWalls (wsV RX5 71 RX5 yX5_isWall wsX5_isWall) := goodIn_app (goodIn_of _ (by decide +kernel)) ggX5_countWalls_X5_isWall
theorem dX5_countWalls_0 : decode cX5_countWalls 0 = .ok (.iconst 0, 1) := by decide +kernel
theorem dX5_countWalls_1 : decode cX5_countWalls 1 = .ok (.istore_n 1, 1) := by decide +kernel
theorem dX5_countWalls_2 : decode cX5_countWalls 2 = .ok (.iconst 0, 1) := by decide +kernel
theorem dX5_countWalls_3 : decode cX5_countWalls 3 = .ok (.istore_n 2, 1) := by decide +kernel
theorem dX5_countWalls_4 : decode cX5_countWalls 4 = .ok (.iload_n 2, 1) := by decide +kernel
theorem dX5_countWalls_5 : decode cX5_countWalls 5 = .ok (.bipush 36, 2) := by decide +kernel
theorem dX5_countWalls_7 : decode cX5_countWalls 7 = .ok (.if_icmp .ge 25, 3) := by decide +kernel
theorem dX5_countWalls_10 : decode cX5_countWalls 10 = .ok (.iload_n 1, 1) := by decide +kernel
theorem dX5_countWalls_11 : decode cX5_countWalls 11 = .ok (.aload_n 0, 1) := by decide +kernel
theorem dX5_countWalls_12 : decode cX5_countWalls 12 = .ok (.iload_n 2, 1) := by decide +kernel
theorem dX5_countWalls_13 : decode cX5_countWalls 13 = .ok (.invokevirtual 71, 3) := by decide +kernel
theorem dX5_countWalls_16 : decode cX5_countWalls 16 = .ok (.ifCond .eq 7, 3) := by decide +kernel
theorem dX5_countWalls_19 : decode cX5_countWalls 19 = .ok (.iconst 1, 1) := by decide +kernel
theorem dX5_countWalls_20 : decode cX5_countWalls 20 = .ok (.goto 4, 3) := by decide +kernel
theorem dX5_countWalls_23 : decode cX5_countWalls 23 = .ok (.iconst 0, 1) := by decide +kernel
theorem dX5_countWalls_24 : decode cX5_countWalls 24 = .ok (.iadd, 1) := by decide +kernel
theorem dX5_countWalls_25 : decode cX5_countWalls 25 = .ok (.istore_n 1, 1) := by decide +kernel
theorem dX5_countWalls_26 : decode cX5_countWalls 26 = .ok (.iinc 2 1, 3) := by decide +kernel
theorem dX5_countWalls_29 : decode cX5_countWalls 29 = .ok (.goto (-25), 3) := by decide +kernel
theorem dX5_countWalls_32 : decode cX5_countWalls 32 = .ok (.iload_n 1, 1) := by decide +kernel
theorem dX5_countWalls_33 : decode cX5_countWalls 33 = .ok (.ireturn, 1) := by decide +kernel
set_option maxRecDepth 20000 in
theorem ggX5_keeperOf_X5_codeOf : GoodIn wsX5_keeperOf wsX5_codeOf := goodIn_r _ [5] (by decide +kernel) (by decide +kernel)
set_option maxRecDepth 20000 in
theorem gX5_keeperOf_X5_codeOf : GoodIn wsX5_keeperOf (va_wsS RX5 86 yX5_codeOf wsX5_codeOf) := goodIn_app (goodIn_of _ (by decide +kernel)) ggX5_keeperOf_X5_codeOf
theorem dX5_keeperOf_0 : decode cX5_keeperOf 0 = .ok (.iconst 0, 1) := by decide +kernel
theorem dX5_keeperOf_1 : decode cX5_keeperOf 1 = .ok (.istore_n 2, 1) := by decide +kernel
theorem dX5_keeperOf_2 : decode cX5_keeperOf 2 = .ok (.iload_n 2, 1) := by decide +kernel
theorem dX5_keeperOf_3 : decode cX5_keeperOf 3 = .ok (.bipush 36, 2) := by decide +kernel
theorem dX5_keeperOf_5 : decode cX5_keeperOf 5 = .ok (.if_icmp .ge 25, 3) := by decide +kernel
theorem dX5_keeperOf_8 : decode cX5_keeperOf 8 = .ok (.aload_n 0, 1) := by decide +kernel
theorem dX5_keeperOf_9 : decode cX5_keeperOf 9 = .ok (.getfield 9, 3) := by decide +kernel
theorem dX5_keeperOf_12 : decode cX5_keeperOf 12 = .ok (.iload_n 2, 1) := by decide +kernel
theorem dX5_keeperOf_13 : decode cX5_keeperOf 13 = .ok (.iaload, 1) := by decide +kernel
theorem dX5_keeperOf_14 : decode cX5_keeperOf 14 = .ok (.iload_n 1, 1) := by decide +kernel
theorem dX5_keeperOf_15 : decode cX5_keeperOf 15 = .ok (.iconst 3, 1) := by decide +kernel
theorem dX5_keeperOf_16 : decode cX5_keeperOf 16 = .ok (.invokestatic 86, 3) := by decide +kernel
theorem dX5_keeperOf_19 : decode cX5_keeperOf 19 = .ok (.if_icmp .ne 5, 3) := by decide +kernel
theorem dX5_keeperOf_22 : decode cX5_keeperOf 22 = .ok (.iload_n 2, 1) := by decide +kernel
theorem dX5_keeperOf_23 : decode cX5_keeperOf 23 = .ok (.ireturn, 1) := by decide +kernel
theorem dX5_keeperOf_24 : decode cX5_keeperOf 24 = .ok (.iinc 2 1, 3) := by decide +kernel
theorem dX5_keeperOf_27 : decode cX5_keeperOf 27 = .ok (.goto (-25), 3) := by decide +kernel
theorem dX5_keeperOf_30 : decode cX5_keeperOf 30 = .ok (.iconst (-1), 1) := by decide +kernel
theorem dX5_keeperOf_31 : decode cX5_keeperOf 31 = .ok (.ireturn, 1) := by decide +kernel
theorem dX5_kindAt_0 : decode cX5_kindAt 0 = .ok (.iload_n 0, 1) := by decide +kernel
theorem dX5_kindAt_1 : decode cX5_kindAt 1 = .ok (.ifCond .eq 8, 3) := by decide +kernel
theorem dX5_kindAt_4 : decode cX5_kindAt 4 = .ok (.iload_n 0, 1) := by decide +kernel
theorem dX5_kindAt_5 : decode cX5_kindAt 5 = .ok (.iconst 5, 1) := by decide +kernel
theorem dX5_kindAt_6 : decode cX5_kindAt 6 = .ok (.if_icmp .ne 7, 3) := by decide +kernel
theorem dX5_kindAt_9 : decode cX5_kindAt 9 = .ok (.iconst 0, 1) := by decide +kernel
theorem dX5_kindAt_10 : decode cX5_kindAt 10 = .ok (.goto 27, 3) := by decide +kernel
theorem dX5_kindAt_13 : decode cX5_kindAt 13 = .ok (.iload_n 0, 1) := by decide +kernel
theorem dX5_kindAt_14 : decode cX5_kindAt 14 = .ok (.iconst 1, 1) := by decide +kernel
theorem dX5_kindAt_15 : decode cX5_kindAt 15 = .ok (.if_icmp .eq 8, 3) := by decide +kernel
theorem dX5_kindAt_18 : decode cX5_kindAt 18 = .ok (.iload_n 0, 1) := by decide +kernel
theorem dX5_kindAt_19 : decode cX5_kindAt 19 = .ok (.iconst 4, 1) := by decide +kernel
theorem dX5_kindAt_20 : decode cX5_kindAt 20 = .ok (.if_icmp .ne 7, 3) := by decide +kernel
theorem dX5_kindAt_23 : decode cX5_kindAt 23 = .ok (.iconst 1, 1) := by decide +kernel
theorem dX5_kindAt_24 : decode cX5_kindAt 24 = .ok (.goto 13, 3) := by decide +kernel
theorem dX5_kindAt_27 : decode cX5_kindAt 27 = .ok (.iload_n 0, 1) := by decide +kernel
theorem dX5_kindAt_28 : decode cX5_kindAt 28 = .ok (.iconst 2, 1) := by decide +kernel
theorem dX5_kindAt_29 : decode cX5_kindAt 29 = .ok (.if_icmp .ne 7, 3) := by decide +kernel
theorem dX5_kindAt_32 : decode cX5_kindAt 32 = .ok (.iconst 3, 1) := by decide +kernel
theorem dX5_kindAt_33 : decode cX5_kindAt 33 = .ok (.goto 4, 3) := by decide +kernel
theorem dX5_kindAt_36 : decode cX5_kindAt 36 = .ok (.iconst 2, 1) := by decide +kernel
theorem dX5_kindAt_37 : decode cX5_kindAt 37 = .ok (.ireturn, 1) := by decide +kernel
set_option maxRecDepth 20000 in
theorem ggX5_start_X5_remember : GoodIn wsX5_start wsX5_remember := goodIn_ca (goodIn_r _ [7, 8, 9, 10, 11, 6, 12, 37, 38, 39, 40, 41, 42, 43, 44, 45, 46, 47, 48, 49, 50, 51, 52, 53, 54, 55, 56, 57, 58, 59] (by decide +kernel) (by decide +kernel)) (goodIn_sub (fun _ h => List.mem_cons_of_mem _ (List.mem_append_right _ h)) (by decide +kernel))
set_option maxRecDepth 20000 in
theorem gX5_start_X5_remember : GoodIn wsX5_start (wsV RX5 90 RX5 yX5_remember wsX5_remember) := goodIn_app (goodIn_of _ (by decide +kernel)) ggX5_start_X5_remember
set_option maxRecDepth 20000 in
theorem ggX5_start_X5_empty : GoodIn wsX5_start wsX5_empty := goodIn_ca (goodIn_r _ [16, 2, 37, 38, 39, 40, 41, 42, 43, 44, 45, 46, 47, 48, 49, 50, 51, 52, 53, 54, 55, 56, 57, 58, 59] (by decide +kernel) (by decide +kernel)) (goodIn_sub (fun _ h => List.mem_cons_of_mem _ (List.mem_append_right _ h)) (by decide +kernel))
set_option maxRecDepth 20000 in
theorem gX5_start_X5_empty : GoodIn wsX5_start (wsV RX5 48 RX5 yX5_empty wsX5_empty) := goodIn_app (goodIn_of _ (by decide +kernel)) ggX5_start_X5_empty
set_option maxRecDepth 20000 in
theorem ggX5_start_X5_kindAt : GoodIn wsX5_start wsX5_kindAt := goodIn_r _ [19] (by decide +kernel) (by decide +kernel)
set_option maxRecDepth 20000 in
theorem gX5_start_X5_kindAt : GoodIn wsX5_start (va_wsS RX5 94 yX5_kindAt wsX5_kindAt) := goodIn_app (goodIn_of _ (by decide +kernel)) ggX5_start_X5_kindAt
set_option maxRecDepth 20000 in
theorem ggX5_start_X5_codeOf : GoodIn wsX5_start wsX5_codeOf := goodIn_r _ [22] (by decide +kernel) (by decide +kernel)
set_option maxRecDepth 20000 in
theorem gX5_start_X5_codeOf : GoodIn wsX5_start (va_wsS RX5 86 yX5_codeOf wsX5_codeOf) := goodIn_app (goodIn_of _ (by decide +kernel)) ggX5_start_X5_codeOf
set_option maxRecDepth 20000 in
theorem ggX5_start_X5_allPieces : GoodIn wsX5_start wsX5_allPieces := goodIn_ca (goodIn_r _ [26, 27, 28, 29, 6, 30, 2, 31, 32, 33, 34, 35, 36, 37, 38, 39, 40, 41, 42, 43, 44, 45, 46, 47, 48, 49, 50, 51, 52, 53, 54, 55, 56, 57, 58, 59] (by decide +kernel) (by decide +kernel)) (goodIn_sub (fun _ h => List.mem_cons_of_mem _ (List.mem_append_right _ h)) (by decide +kernel))
set_option maxRecDepth 20000 in
theorem gX5_start_X5_allPieces : GoodIn wsX5_start (wsV RX5 97 RX5 yX5_allPieces wsX5_allPieces) := goodIn_app (goodIn_of _ (by decide +kernel)) ggX5_start_X5_allPieces
theorem dX5_start_0 : decode cX5_start 0 = .ok (.aload_n 0, 1) := by decide +kernel
theorem dX5_start_1 : decode cX5_start 1 = .ok (.iconst 0, 1) := by decide +kernel
theorem dX5_start_2 : decode cX5_start 2 = .ok (.putfield 51, 3) := by decide +kernel
theorem dX5_start_5 : decode cX5_start 5 = .ok (.aload_n 0, 1) := by decide +kernel
theorem dX5_start_6 : decode cX5_start 6 = .ok (.aload_n 0, 1) := by decide +kernel
theorem dX5_start_7 : decode cX5_start 7 = .ok (.getfield 9, 3) := by decide +kernel
theorem dX5_start_10 : decode cX5_start 10 = .ok (.invokevirtual 90, 3) := by decide +kernel
theorem dX5_start_13 : decode cX5_start 13 = .ok (.aload_n 0, 1) := by decide +kernel
theorem dX5_start_14 : decode cX5_start 14 = .ok (.invokevirtual 48, 3) := by decide +kernel
theorem dX5_start_17 : decode cX5_start 17 = .ok (.iconst 0, 1) := by decide +kernel
theorem dX5_start_18 : decode cX5_start 18 = .ok (.istore_n 1, 1) := by decide +kernel
theorem dX5_start_19 : decode cX5_start 19 = .ok (.iload_n 1, 1) := by decide +kernel
theorem dX5_start_20 : decode cX5_start 20 = .ok (.bipush 6, 2) := by decide +kernel
theorem dX5_start_22 : decode cX5_start 22 = .ok (.if_icmp .ge 40, 3) := by decide +kernel
theorem dX5_start_25 : decode cX5_start 25 = .ok (.aload_n 0, 1) := by decide +kernel
theorem dX5_start_26 : decode cX5_start 26 = .ok (.getfield 9, 3) := by decide +kernel
theorem dX5_start_29 : decode cX5_start 29 = .ok (.iload_n 1, 1) := by decide +kernel
theorem dX5_start_30 : decode cX5_start 30 = .ok (.iconst 0, 1) := by decide +kernel
theorem dX5_start_31 : decode cX5_start 31 = .ok (.iload_n 1, 1) := by decide +kernel
theorem dX5_start_32 : decode cX5_start 32 = .ok (.invokestatic 94, 3) := by decide +kernel
theorem dX5_start_35 : decode cX5_start 35 = .ok (.invokestatic 86, 3) := by decide +kernel
theorem dX5_start_38 : decode cX5_start 38 = .ok (.iastore, 1) := by decide +kernel
theorem dX5_start_39 : decode cX5_start 39 = .ok (.aload_n 0, 1) := by decide +kernel
theorem dX5_start_40 : decode cX5_start 40 = .ok (.getfield 9, 3) := by decide +kernel
theorem dX5_start_43 : decode cX5_start 43 = .ok (.bipush 30, 2) := by decide +kernel
theorem dX5_start_45 : decode cX5_start 45 = .ok (.iload_n 1, 1) := by decide +kernel
theorem dX5_start_46 : decode cX5_start 46 = .ok (.iadd, 1) := by decide +kernel
theorem dX5_start_47 : decode cX5_start 47 = .ok (.iconst 1, 1) := by decide +kernel
theorem dX5_start_48 : decode cX5_start 48 = .ok (.iload_n 1, 1) := by decide +kernel
theorem dX5_start_49 : decode cX5_start 49 = .ok (.invokestatic 94, 3) := by decide +kernel
theorem dX5_start_52 : decode cX5_start 52 = .ok (.invokestatic 86, 3) := by decide +kernel
theorem dX5_start_55 : decode cX5_start 55 = .ok (.iastore, 1) := by decide +kernel
theorem dX5_start_56 : decode cX5_start 56 = .ok (.iinc 1 1, 3) := by decide +kernel
theorem dX5_start_59 : decode cX5_start 59 = .ok (.goto (-40), 3) := by decide +kernel
theorem dX5_start_62 : decode cX5_start 62 = .ok (.aload_n 0, 1) := by decide +kernel
theorem dX5_start_63 : decode cX5_start 63 = .ok (.invokevirtual 97, 3) := by decide +kernel
theorem dX5_start_66 : decode cX5_start 66 = .ok (.ireturn, 1) := by decide +kernel
set_option maxRecDepth 20000 in
theorem ggX5_clear_X5_remember : GoodIn wsX5_clear wsX5_remember := goodIn_ca (goodIn_r _ [7, 8, 9, 10, 11, 6, 12, 31, 32, 33, 34, 35, 36, 37, 38, 39, 40, 41, 42, 43, 44, 45, 46, 47, 48, 49, 50, 51, 52, 53] (by decide +kernel) (by decide +kernel)) (goodIn_sub (fun _ h => List.mem_cons_of_mem _ (List.mem_append_right _ h)) (by decide +kernel))
set_option maxRecDepth 20000 in
theorem gX5_clear_X5_remember : GoodIn wsX5_clear (wsV RX5 90 RX5 yX5_remember wsX5_remember) := goodIn_app (goodIn_of _ (by decide +kernel)) ggX5_clear_X5_remember
set_option maxRecDepth 20000 in
theorem ggX5_clear_X5_allPieces : GoodIn wsX5_clear wsX5_allPieces := goodIn_ca (goodIn_r _ [16, 17, 18, 19, 6, 20, 2, 21, 22, 23, 24, 25, 26, 31, 32, 33, 34, 35, 36, 37, 38, 39, 40, 41, 42, 43, 44, 45, 46, 47, 48, 49, 50, 51, 52, 53] (by decide +kernel) (by decide +kernel)) (goodIn_sub (fun _ h => List.mem_cons_of_mem _ (List.mem_append_right _ h)) (by decide +kernel))
set_option maxRecDepth 20000 in
theorem gX5_clear_X5_allPieces : GoodIn wsX5_clear (wsV RX5 97 RX5 yX5_allPieces wsX5_allPieces) := goodIn_app (goodIn_of _ (by decide +kernel)) ggX5_clear_X5_allPieces
set_option maxRecDepth 20000 in
theorem ggX5_clear_X5_empty : GoodIn wsX5_clear wsX5_empty := goodIn_ca (goodIn_r _ [30, 2, 31, 32, 33, 34, 35, 36, 37, 38, 39, 40, 41, 42, 43, 44, 45, 46, 47, 48, 49, 50, 51, 52, 53] (by decide +kernel) (by decide +kernel)) (goodIn_sub (fun _ h => List.mem_cons_of_mem _ (List.mem_append_right _ h)) (by decide +kernel))
set_option maxRecDepth 20000 in
theorem gX5_clear_X5_empty : GoodIn wsX5_clear (wsV RX5 48 RX5 yX5_empty wsX5_empty) := goodIn_app (goodIn_of _ (by decide +kernel)) ggX5_clear_X5_empty
theorem dX5_clear_0 : decode cX5_clear 0 = .ok (.aload_n 0, 1) := by decide +kernel
theorem dX5_clear_1 : decode cX5_clear 1 = .ok (.iconst 0, 1) := by decide +kernel
theorem dX5_clear_2 : decode cX5_clear 2 = .ok (.putfield 51, 3) := by decide +kernel
theorem dX5_clear_5 : decode cX5_clear 5 = .ok (.aload_n 0, 1) := by decide +kernel
theorem dX5_clear_6 : decode cX5_clear 6 = .ok (.aload_n 0, 1) := by decide +kernel
theorem dX5_clear_7 : decode cX5_clear 7 = .ok (.getfield 9, 3) := by decide +kernel
theorem dX5_clear_10 : decode cX5_clear 10 = .ok (.invokevirtual 90, 3) := by decide +kernel
theorem dX5_clear_13 : decode cX5_clear 13 = .ok (.aload_n 0, 1) := by decide +kernel
theorem dX5_clear_14 : decode cX5_clear 14 = .ok (.invokevirtual 97, 3) := by decide +kernel
theorem dX5_clear_17 : decode cX5_clear 17 = .ok (.istore_n 1, 1) := by decide +kernel
theorem dX5_clear_18 : decode cX5_clear 18 = .ok (.aload_n 0, 1) := by decide +kernel
theorem dX5_clear_19 : decode cX5_clear 19 = .ok (.invokevirtual 48, 3) := by decide +kernel
theorem dX5_clear_22 : decode cX5_clear 22 = .ok (.iload_n 1, 1) := by decide +kernel
theorem dX5_clear_23 : decode cX5_clear 23 = .ok (.ireturn, 1) := by decide +kernel
theorem dX5_isBusy_0 : decode cX5_isBusy 0 = .ok (.aload_n 0, 1) := by decide +kernel
theorem dX5_isBusy_1 : decode cX5_isBusy 1 = .ok (.getfield 9, 3) := by decide +kernel
theorem dX5_isBusy_4 : decode cX5_isBusy 4 = .ok (.bipush 74, 2) := by decide +kernel
theorem dX5_isBusy_6 : decode cX5_isBusy 6 = .ok (.iaload, 1) := by decide +kernel
theorem dX5_isBusy_7 : decode cX5_isBusy 7 = .ok (.ifCond .gt 24, 3) := by decide +kernel
theorem dX5_isBusy_10 : decode cX5_isBusy 10 = .ok (.aload_n 0, 1) := by decide +kernel
theorem dX5_isBusy_11 : decode cX5_isBusy 11 = .ok (.getfield 9, 3) := by decide +kernel
theorem dX5_isBusy_14 : decode cX5_isBusy 14 = .ok (.iload_n 1, 1) := by decide +kernel
theorem dX5_isBusy_15 : decode cX5_isBusy 15 = .ok (.iaload, 1) := by decide +kernel
theorem dX5_isBusy_16 : decode cX5_isBusy 16 = .ok (.ifCond .ne 15, 3) := by decide +kernel
theorem dX5_isBusy_19 : decode cX5_isBusy 19 = .ok (.aload_n 0, 1) := by decide +kernel
theorem dX5_isBusy_20 : decode cX5_isBusy 20 = .ok (.getfield 9, 3) := by decide +kernel
theorem dX5_isBusy_23 : decode cX5_isBusy 23 = .ok (.bipush 36, 2) := by decide +kernel
theorem dX5_isBusy_25 : decode cX5_isBusy 25 = .ok (.iload_n 1, 1) := by decide +kernel
theorem dX5_isBusy_26 : decode cX5_isBusy 26 = .ok (.iadd, 1) := by decide +kernel
theorem dX5_isBusy_27 : decode cX5_isBusy 27 = .ok (.iaload, 1) := by decide +kernel
theorem dX5_isBusy_28 : decode cX5_isBusy 28 = .ok (.ifCond .eq 7, 3) := by decide +kernel
theorem dX5_isBusy_31 : decode cX5_isBusy 31 = .ok (.iconst 1, 1) := by decide +kernel
theorem dX5_isBusy_32 : decode cX5_isBusy 32 = .ok (.goto 4, 3) := by decide +kernel
theorem dX5_isBusy_35 : decode cX5_isBusy 35 = .ok (.iconst 0, 1) := by decide +kernel
theorem dX5_isBusy_36 : decode cX5_isBusy 36 = .ok (.ireturn, 1) := by decide +kernel
set_option maxRecDepth 20000 in
theorem ggX5_lay_X5_isSide : GoodIn wsX5_lay wsX5_isSide := goodIn_r _ [5, 6, 7, 4, 8] (by decide +kernel) (by decide +kernel)
set_option maxRecDepth 20000 in
theorem gX5_lay_X5_isSide : GoodIn wsX5_lay (va_wsS RX5 101 yX5_isSide wsX5_isSide) := goodIn_app (goodIn_of _ (by decide +kernel)) ggX5_lay_X5_isSide
set_option maxRecDepth 20000 in
theorem ggX5_lay_X5_isSquare : GoodIn wsX5_lay wsX5_isSquare := goodIn_r _ [11, 6, 7, 4, 8] (by decide +kernel) (by decide +kernel)
set_option maxRecDepth 20000 in
theorem gX5_lay_X5_isSquare : GoodIn wsX5_lay (va_wsS RX5 104 yX5_isSquare wsX5_isSquare) := goodIn_app (goodIn_of _ (by decide +kernel)) ggX5_lay_X5_isSquare
set_option maxRecDepth 20000 in
theorem ggX5_lay_X5_fails : GoodIn wsX5_lay wsX5_fails := goodIn_r _ [15, 16, 44, 45, 46, 47, 48, 49, 50, 51, 52, 53, 54, 55, 56, 57, 58, 59, 60, 61, 62, 63, 64, 65, 66] (by decide +kernel) (by decide +kernel)
set_option maxRecDepth 20000 in
theorem gX5_lay_X5_fails : GoodIn wsX5_lay (wsV RX5 107 RX5 yX5_fails wsX5_fails) := goodIn_app (goodIn_of _ (by decide +kernel)) ggX5_lay_X5_fails
set_option maxRecDepth 20000 in
theorem ggX5_lay_X5_isBetween : GoodIn wsX5_lay wsX5_isBetween := goodIn_r _ [8] (by decide +kernel) (by decide +kernel)
set_option maxRecDepth 20000 in
theorem gX5_lay_X5_isBetween : GoodIn wsX5_lay (va_wsS RX5 67 yX5_isBetween wsX5_isBetween) := goodIn_app (goodIn_of _ (by decide +kernel)) ggX5_lay_X5_isBetween
set_option maxRecDepth 20000 in
theorem ggX5_lay_X5_isBusy : GoodIn wsX5_lay wsX5_isBusy := goodIn_ca (goodIn_r _ [20, 1, 44, 45, 46, 47, 48, 49, 50, 51, 52, 53, 54, 55, 56, 57, 58, 59, 60, 61, 62, 63, 64, 65, 66] (by decide +kernel) (by decide +kernel)) (goodIn_sub (fun _ h => List.mem_cons_of_mem _ (List.mem_append_right _ h)) (by decide +kernel))
set_option maxRecDepth 20000 in
theorem gX5_lay_X5_isBusy : GoodIn wsX5_lay (wsV RX5 111 RX5 yX5_isBusy wsX5_isBusy) := goodIn_app (goodIn_of _ (by decide +kernel)) ggX5_lay_X5_isBusy
set_option maxRecDepth 20000 in
theorem ggX5_lay_X5_keeperOf : GoodIn wsX5_lay wsX5_keeperOf := goodIn_ca (goodIn_r _ [24, 1, 25, 26, 4, 27, 44, 45, 46, 47, 48, 49, 50, 51, 52, 53, 54, 55, 56, 57, 58, 59, 60, 61, 62, 63, 64, 65, 66] (by decide +kernel) (by decide +kernel)) (goodIn_sub (fun _ h => List.mem_cons_of_mem _ (List.mem_append_right _ h)) (by decide +kernel))
set_option maxRecDepth 20000 in
theorem gX5_lay_X5_keeperOf : GoodIn wsX5_lay (wsV RX5 114 RX5 yX5_keeperOf wsX5_keeperOf) := goodIn_app (goodIn_of _ (by decide +kernel)) ggX5_lay_X5_keeperOf
set_option maxRecDepth 20000 in
theorem ggX5_lay_X5_remember : GoodIn wsX5_lay wsX5_remember := goodIn_ca (goodIn_r _ [31, 32, 33, 34, 35, 4, 36, 44, 45, 46, 47, 48, 49, 50, 51, 52, 53, 54, 55, 56, 57, 58, 59, 60, 61, 62, 63, 64, 65, 66] (by decide +kernel) (by decide +kernel)) (goodIn_sub (fun _ h => List.mem_cons_of_mem _ (List.mem_append_right _ h)) (by decide +kernel))
set_option maxRecDepth 20000 in
theorem gX5_lay_X5_remember : GoodIn wsX5_lay (wsV RX5 90 RX5 yX5_remember wsX5_remember) := goodIn_app (goodIn_of _ (by decide +kernel)) ggX5_lay_X5_remember
set_option maxRecDepth 20000 in
theorem ggX5_lay_X5_codeOf : GoodIn wsX5_lay wsX5_codeOf := goodIn_r _ [27] (by decide +kernel) (by decide +kernel)
set_option maxRecDepth 20000 in
theorem gX5_lay_X5_codeOf : GoodIn wsX5_lay (va_wsS RX5 86 yX5_codeOf wsX5_codeOf) := goodIn_app (goodIn_of _ (by decide +kernel)) ggX5_lay_X5_codeOf
set_option maxRecDepth 20000 in
theorem ggX5_lay_X5_countPieces : GoodIn wsX5_lay wsX5_countPieces := goodIn_ca (goodIn_r _ [40, 1, 41, 42, 4, 43, 6, 7, 8, 44, 45, 46, 47, 48, 49, 50, 51, 52, 53, 54, 55, 56, 57, 58, 59, 60, 61, 62, 63, 64, 65, 66] (by decide +kernel) (by decide +kernel)) (goodIn_sub (fun _ h => List.mem_cons_of_mem _ (List.mem_append_right _ h)) (by decide +kernel))
set_option maxRecDepth 20000 in
theorem gX5_lay_X5_countPieces : GoodIn wsX5_lay (wsV RX5 83 RX5 yX5_countPieces wsX5_countPieces) := goodIn_app (goodIn_of _ (by decide +kernel)) ggX5_lay_X5_countPieces
theorem dX5_lay_0 : decode cX5_lay 0 = .ok (.aload_n 0, 1) := by decide +kernel
theorem dX5_lay_1 : decode cX5_lay 1 = .ok (.iconst 1, 1) := by decide +kernel
theorem dX5_lay_2 : decode cX5_lay 2 = .ok (.iload_n 1, 1) := by decide +kernel
theorem dX5_lay_3 : decode cX5_lay 3 = .ok (.invokestatic 101, 3) := by decide +kernel
theorem dX5_lay_6 : decode cX5_lay 6 = .ok (.ifCond .eq 10, 3) := by decide +kernel
theorem dX5_lay_9 : decode cX5_lay 9 = .ok (.iload_n 3, 1) := by decide +kernel
theorem dX5_lay_10 : decode cX5_lay 10 = .ok (.invokestatic 104, 3) := by decide +kernel
theorem dX5_lay_13 : decode cX5_lay 13 = .ok (.ifCond .ne 7, 3) := by decide +kernel
theorem dX5_lay_16 : decode cX5_lay 16 = .ok (.iconst 1, 1) := by decide +kernel
theorem dX5_lay_17 : decode cX5_lay 17 = .ok (.goto 4, 3) := by decide +kernel
theorem dX5_lay_20 : decode cX5_lay 20 = .ok (.iconst 0, 1) := by decide +kernel
theorem dX5_lay_21 : decode cX5_lay 21 = .ok (.invokevirtual 107, 3) := by decide +kernel
theorem dX5_lay_24 : decode cX5_lay 24 = .ok (.ifCond .ne 59, 3) := by decide +kernel
theorem dX5_lay_27 : decode cX5_lay 27 = .ok (.aload_n 0, 1) := by decide +kernel
theorem dX5_lay_28 : decode cX5_lay 28 = .ok (.iconst 2, 1) := by decide +kernel
theorem dX5_lay_29 : decode cX5_lay 29 = .ok (.iload_n 2, 1) := by decide +kernel
theorem dX5_lay_30 : decode cX5_lay 30 = .ok (.iconst 0, 1) := by decide +kernel
theorem dX5_lay_31 : decode cX5_lay 31 = .ok (.iconst 3, 1) := by decide +kernel
theorem dX5_lay_32 : decode cX5_lay 32 = .ok (.invokestatic 67, 3) := by decide +kernel
theorem dX5_lay_35 : decode cX5_lay 35 = .ok (.ifCond .ne 7, 3) := by decide +kernel
theorem dX5_lay_38 : decode cX5_lay 38 = .ok (.iconst 1, 1) := by decide +kernel
theorem dX5_lay_39 : decode cX5_lay 39 = .ok (.goto 4, 3) := by decide +kernel
theorem dX5_lay_42 : decode cX5_lay 42 = .ok (.iconst 0, 1) := by decide +kernel
theorem dX5_lay_43 : decode cX5_lay 43 = .ok (.invokevirtual 107, 3) := by decide +kernel
theorem dX5_lay_46 : decode cX5_lay 46 = .ok (.ifCond .ne 37, 3) := by decide +kernel
theorem dX5_lay_49 : decode cX5_lay 49 = .ok (.aload_n 0, 1) := by decide +kernel
theorem dX5_lay_50 : decode cX5_lay 50 = .ok (.iconst 3, 1) := by decide +kernel
theorem dX5_lay_51 : decode cX5_lay 51 = .ok (.aload_n 0, 1) := by decide +kernel
theorem dX5_lay_52 : decode cX5_lay 52 = .ok (.iload_n 3, 1) := by decide +kernel
theorem dX5_lay_53 : decode cX5_lay 53 = .ok (.invokevirtual 111, 3) := by decide +kernel
theorem dX5_lay_56 : decode cX5_lay 56 = .ok (.ifCond .ne 16, 3) := by decide +kernel
theorem dX5_lay_59 : decode cX5_lay 59 = .ok (.iload_n 2, 1) := by decide +kernel
theorem dX5_lay_60 : decode cX5_lay 60 = .ok (.iconst 3, 1) := by decide +kernel
theorem dX5_lay_61 : decode cX5_lay 61 = .ok (.if_icmp .ne 15, 3) := by decide +kernel
theorem dX5_lay_64 : decode cX5_lay 64 = .ok (.aload_n 0, 1) := by decide +kernel
theorem dX5_lay_65 : decode cX5_lay 65 = .ok (.iload_n 1, 1) := by decide +kernel
theorem dX5_lay_66 : decode cX5_lay 66 = .ok (.invokevirtual 114, 3) := by decide +kernel
theorem dX5_lay_69 : decode cX5_lay 69 = .ok (.ifCond .lt 7, 3) := by decide +kernel
theorem dX5_lay_72 : decode cX5_lay 72 = .ok (.iconst 1, 1) := by decide +kernel
theorem dX5_lay_73 : decode cX5_lay 73 = .ok (.goto 4, 3) := by decide +kernel
theorem dX5_lay_76 : decode cX5_lay 76 = .ok (.iconst 0, 1) := by decide +kernel
theorem dX5_lay_77 : decode cX5_lay 77 = .ok (.invokevirtual 107, 3) := by decide +kernel
theorem dX5_lay_80 : decode cX5_lay 80 = .ok (.ifCond .eq 5, 3) := by decide +kernel
theorem dX5_lay_83 : decode cX5_lay 83 = .ok (.iconst 0, 1) := by decide +kernel
theorem dX5_lay_84 : decode cX5_lay 84 = .ok (.ireturn, 1) := by decide +kernel
theorem dX5_lay_85 : decode cX5_lay 85 = .ok (.aload_n 0, 1) := by decide +kernel
theorem dX5_lay_86 : decode cX5_lay 86 = .ok (.aload_n 0, 1) := by decide +kernel
theorem dX5_lay_87 : decode cX5_lay 87 = .ok (.getfield 9, 3) := by decide +kernel
theorem dX5_lay_90 : decode cX5_lay 90 = .ok (.invokevirtual 90, 3) := by decide +kernel
theorem dX5_lay_93 : decode cX5_lay 93 = .ok (.aload_n 0, 1) := by decide +kernel
theorem dX5_lay_94 : decode cX5_lay 94 = .ok (.getfield 9, 3) := by decide +kernel
theorem dX5_lay_97 : decode cX5_lay 97 = .ok (.iload_n 3, 1) := by decide +kernel
theorem dX5_lay_98 : decode cX5_lay 98 = .ok (.iload_n 1, 1) := by decide +kernel
theorem dX5_lay_99 : decode cX5_lay 99 = .ok (.iload_n 2, 1) := by decide +kernel
theorem dX5_lay_100 : decode cX5_lay 100 = .ok (.invokestatic 86, 3) := by decide +kernel
theorem dX5_lay_103 : decode cX5_lay 103 = .ok (.iastore, 1) := by decide +kernel
theorem dX5_lay_104 : decode cX5_lay 104 = .ok (.aload_n 0, 1) := by decide +kernel
theorem dX5_lay_105 : decode cX5_lay 105 = .ok (.iload_n 1, 1) := by decide +kernel
theorem dX5_lay_106 : decode cX5_lay 106 = .ok (.invokevirtual 83, 3) := by decide +kernel
theorem dX5_lay_109 : decode cX5_lay 109 = .ok (.ireturn, 1) := by decide +kernel
set_option maxRecDepth 20000 in
theorem ggX5_wall_X5_isSquare : GoodIn wsX5_wall wsX5_isSquare := goodIn_r _ [5, 6, 7, 4, 8] (by decide +kernel) (by decide +kernel)
set_option maxRecDepth 20000 in
theorem gX5_wall_X5_isSquare : GoodIn wsX5_wall (va_wsS RX5 104 yX5_isSquare wsX5_isSquare) := goodIn_app (goodIn_of _ (by decide +kernel)) ggX5_wall_X5_isSquare
set_option maxRecDepth 20000 in
theorem ggX5_wall_X5_fails : GoodIn wsX5_wall wsX5_fails := goodIn_r _ [12, 13, 35, 36, 37, 38, 39, 40, 41, 42, 43, 44, 45, 46, 47, 48, 49, 50, 51, 52, 53, 54, 55, 56, 57] (by decide +kernel) (by decide +kernel)
set_option maxRecDepth 20000 in
theorem gX5_wall_X5_fails : GoodIn wsX5_wall (wsV RX5 107 RX5 yX5_fails wsX5_fails) := goodIn_app (goodIn_of _ (by decide +kernel)) ggX5_wall_X5_fails
set_option maxRecDepth 20000 in
theorem ggX5_wall_X5_isBusy : GoodIn wsX5_wall wsX5_isBusy := goodIn_ca (goodIn_r _ [17, 1, 35, 36, 37, 38, 39, 40, 41, 42, 43, 44, 45, 46, 47, 48, 49, 50, 51, 52, 53, 54, 55, 56, 57] (by decide +kernel) (by decide +kernel)) (goodIn_sub (fun _ h => List.mem_cons_of_mem _ (List.mem_append_right _ h)) (by decide +kernel))
set_option maxRecDepth 20000 in
theorem gX5_wall_X5_isBusy : GoodIn wsX5_wall (wsV RX5 111 RX5 yX5_isBusy wsX5_isBusy) := goodIn_app (goodIn_of _ (by decide +kernel)) ggX5_wall_X5_isBusy
set_option maxRecDepth 20000 in
theorem ggX5_wall_X5_remember : GoodIn wsX5_wall wsX5_remember := goodIn_ca (goodIn_r _ [21, 22, 23, 24, 25, 4, 26, 35, 36, 37, 38, 39, 40, 41, 42, 43, 44, 45, 46, 47, 48, 49, 50, 51, 52, 53, 54, 55, 56, 57] (by decide +kernel) (by decide +kernel)) (goodIn_sub (fun _ h => List.mem_cons_of_mem _ (List.mem_append_right _ h)) (by decide +kernel))
set_option maxRecDepth 20000 in
theorem gX5_wall_X5_remember : GoodIn wsX5_wall (wsV RX5 90 RX5 yX5_remember wsX5_remember) := goodIn_app (goodIn_of _ (by decide +kernel)) ggX5_wall_X5_remember
set_option maxRecDepth 20000 in
theorem ggX5_wall_X5_countWalls : GoodIn wsX5_wall wsX5_countWalls := goodIn_ca (goodIn_r _ [30, 31, 32, 33, 4, 34, 1, 35, 36, 37, 38, 39, 40, 41, 42, 43, 44, 45, 46, 47, 48, 49, 50, 51, 52, 53, 54, 55, 56, 57] (by decide +kernel) (by decide +kernel)) (goodIn_sub (fun _ h => List.mem_cons_of_mem _ (List.mem_append_right _ h)) (by decide +kernel))
set_option maxRecDepth 20000 in
theorem gX5_wall_X5_countWalls : GoodIn wsX5_wall (wsV RX5 117 RX5 yX5_countWalls wsX5_countWalls) := goodIn_app (goodIn_of _ (by decide +kernel)) ggX5_wall_X5_countWalls
theorem dX5_wall_0 : decode cX5_wall 0 = .ok (.aload_n 0, 1) := by decide +kernel
theorem dX5_wall_1 : decode cX5_wall 1 = .ok (.iconst 1, 1) := by decide +kernel
theorem dX5_wall_2 : decode cX5_wall 2 = .ok (.iload_n 1, 1) := by decide +kernel
theorem dX5_wall_3 : decode cX5_wall 3 = .ok (.invokestatic 104, 3) := by decide +kernel
theorem dX5_wall_6 : decode cX5_wall 6 = .ok (.ifCond .ne 7, 3) := by decide +kernel
theorem dX5_wall_9 : decode cX5_wall 9 = .ok (.iconst 1, 1) := by decide +kernel
theorem dX5_wall_10 : decode cX5_wall 10 = .ok (.goto 4, 3) := by decide +kernel
theorem dX5_wall_13 : decode cX5_wall 13 = .ok (.iconst 0, 1) := by decide +kernel
theorem dX5_wall_14 : decode cX5_wall 14 = .ok (.invokevirtual 107, 3) := by decide +kernel
theorem dX5_wall_17 : decode cX5_wall 17 = .ok (.ifCond .ne 16, 3) := by decide +kernel
theorem dX5_wall_20 : decode cX5_wall 20 = .ok (.aload_n 0, 1) := by decide +kernel
theorem dX5_wall_21 : decode cX5_wall 21 = .ok (.iconst 2, 1) := by decide +kernel
theorem dX5_wall_22 : decode cX5_wall 22 = .ok (.aload_n 0, 1) := by decide +kernel
theorem dX5_wall_23 : decode cX5_wall 23 = .ok (.iload_n 1, 1) := by decide +kernel
theorem dX5_wall_24 : decode cX5_wall 24 = .ok (.invokevirtual 111, 3) := by decide +kernel
theorem dX5_wall_27 : decode cX5_wall 27 = .ok (.invokevirtual 107, 3) := by decide +kernel
theorem dX5_wall_30 : decode cX5_wall 30 = .ok (.ifCond .eq 5, 3) := by decide +kernel
theorem dX5_wall_33 : decode cX5_wall 33 = .ok (.iconst 0, 1) := by decide +kernel
theorem dX5_wall_34 : decode cX5_wall 34 = .ok (.ireturn, 1) := by decide +kernel
theorem dX5_wall_35 : decode cX5_wall 35 = .ok (.aload_n 0, 1) := by decide +kernel
theorem dX5_wall_36 : decode cX5_wall 36 = .ok (.aload_n 0, 1) := by decide +kernel
theorem dX5_wall_37 : decode cX5_wall 37 = .ok (.getfield 9, 3) := by decide +kernel
theorem dX5_wall_40 : decode cX5_wall 40 = .ok (.invokevirtual 90, 3) := by decide +kernel
theorem dX5_wall_43 : decode cX5_wall 43 = .ok (.aload_n 0, 1) := by decide +kernel
theorem dX5_wall_44 : decode cX5_wall 44 = .ok (.getfield 9, 3) := by decide +kernel
theorem dX5_wall_47 : decode cX5_wall 47 = .ok (.iload_n 1, 1) := by decide +kernel
theorem dX5_wall_48 : decode cX5_wall 48 = .ok (.bipush 20, 2) := by decide +kernel
theorem dX5_wall_50 : decode cX5_wall 50 = .ok (.iastore, 1) := by decide +kernel
theorem dX5_wall_51 : decode cX5_wall 51 = .ok (.aload_n 0, 1) := by decide +kernel
theorem dX5_wall_52 : decode cX5_wall 52 = .ok (.invokevirtual 117, 3) := by decide +kernel
theorem dX5_wall_55 : decode cX5_wall 55 = .ok (.ireturn, 1) := by decide +kernel
set_option maxRecDepth 20000 in
theorem ggX5_findNear_X5_next : GoodIn wsX5_findNear wsX5_next := goodIn_r _ [5, 6, 7, 4, 8] (by decide +kernel) (by decide +kernel)
set_option maxRecDepth 20000 in
theorem gX5_findNear_X5_next : GoodIn wsX5_findNear (va_wsS RX5 120 yX5_next wsX5_next) := goodIn_app (goodIn_of _ (by decide +kernel)) ggX5_findNear_X5_next
set_option maxRecDepth 20000 in
theorem ggX5_findNear_X5_mayStand : GoodIn wsX5_findNear wsX5_mayStand := goodIn_ca (goodIn_r _ [12, 13, 14, 15, 16, 4, 17, 18, 19, 20, 21, 22, 23, 24, 25, 26, 27, 28, 29, 30, 31, 32, 33, 34, 35, 36, 37, 38, 39, 40, 41, 42, 43, 44] (by decide +kernel) (by decide +kernel)) (goodIn_sub (fun _ h => List.mem_cons_of_mem _ (List.mem_append_right _ h)) (by decide +kernel))
set_option maxRecDepth 20000 in
theorem gX5_findNear_X5_mayStand : GoodIn wsX5_findNear (wsV RX5 123 RX5 yX5_mayStand wsX5_mayStand) := goodIn_app (goodIn_of _ (by decide +kernel)) ggX5_findNear_X5_mayStand
theorem dX5_findNear_0 : decode cX5_findNear 0 = .ok (.iconst 0, 1) := by decide +kernel
theorem dX5_findNear_1 : decode cX5_findNear 1 = .ok (.istore_n 3, 1) := by decide +kernel
theorem dX5_findNear_2 : decode cX5_findNear 2 = .ok (.iload_n 3, 1) := by decide +kernel
theorem dX5_findNear_3 : decode cX5_findNear 3 = .ok (.iconst 4, 1) := by decide +kernel
theorem dX5_findNear_4 : decode cX5_findNear 4 = .ok (.if_icmp .ge 34, 3) := by decide +kernel
theorem dX5_findNear_7 : decode cX5_findNear 7 = .ok (.iload_n 1, 1) := by decide +kernel
theorem dX5_findNear_8 : decode cX5_findNear 8 = .ok (.iload_n 3, 1) := by decide +kernel
theorem dX5_findNear_9 : decode cX5_findNear 9 = .ok (.invokestatic 120, 3) := by decide +kernel
theorem dX5_findNear_12 : decode cX5_findNear 12 = .ok (.istore 4, 2) := by decide +kernel
theorem dX5_findNear_14 : decode cX5_findNear 14 = .ok (.aload_n 0, 1) := by decide +kernel
theorem dX5_findNear_15 : decode cX5_findNear 15 = .ok (.iload_n 2, 1) := by decide +kernel
theorem dX5_findNear_16 : decode cX5_findNear 16 = .ok (.iload 4, 2) := by decide +kernel
theorem dX5_findNear_18 : decode cX5_findNear 18 = .ok (.invokevirtual 123, 3) := by decide +kernel
theorem dX5_findNear_21 : decode cX5_findNear 21 = .ok (.ifCond .eq 11, 3) := by decide +kernel
theorem dX5_findNear_24 : decode cX5_findNear 24 = .ok (.aload_n 0, 1) := by decide +kernel
theorem dX5_findNear_25 : decode cX5_findNear 25 = .ok (.getfield 21, 3) := by decide +kernel
theorem dX5_findNear_28 : decode cX5_findNear 28 = .ok (.iload 4, 2) := by decide +kernel
theorem dX5_findNear_30 : decode cX5_findNear 30 = .ok (.iconst 1, 1) := by decide +kernel
theorem dX5_findNear_31 : decode cX5_findNear 31 = .ok (.bastore, 1) := by decide +kernel
theorem dX5_findNear_32 : decode cX5_findNear 32 = .ok (.iinc 3 1, 3) := by decide +kernel
theorem dX5_findNear_35 : decode cX5_findNear 35 = .ok (.goto (-33), 3) := by decide +kernel
theorem dX5_findNear_38 : decode cX5_findNear 38 = .ok (.return_, 1) := by decide +kernel
set_option maxRecDepth 20000 in
theorem ggX5_findStraight_X5_next : GoodIn wsX5_findStraight wsX5_next := goodIn_r _ [5, 6, 7, 4, 8] (by decide +kernel) (by decide +kernel)
set_option maxRecDepth 20000 in
theorem gX5_findStraight_X5_next : GoodIn wsX5_findStraight (va_wsS RX5 120 yX5_next wsX5_next) := goodIn_app (goodIn_of _ (by decide +kernel)) ggX5_findStraight_X5_next
set_option maxRecDepth 20000 in
theorem ggX5_findStraight_X5_mayStand : GoodIn wsX5_findStraight wsX5_mayStand := goodIn_ca (goodIn_r _ [12, 13, 14, 15, 16, 4, 17, 18, 19, 20, 21, 22, 23, 24, 25, 26, 27, 28, 29, 30, 31, 32, 33, 34, 35, 36, 37, 38, 39, 40, 41, 42, 43, 44] (by decide +kernel) (by decide +kernel)) (goodIn_sub (fun _ h => List.mem_cons_of_mem _ (List.mem_append_right _ h)) (by decide +kernel))
set_option maxRecDepth 20000 in
theorem gX5_findStraight_X5_mayStand : GoodIn wsX5_findStraight (wsV RX5 123 RX5 yX5_mayStand wsX5_mayStand) := goodIn_app (goodIn_of _ (by decide +kernel)) ggX5_findStraight_X5_mayStand
theorem dX5_findStraight_0 : decode cX5_findStraight 0 = .ok (.iconst 0, 1) := by decide +kernel
theorem dX5_findStraight_1 : decode cX5_findStraight 1 = .ok (.istore_n 3, 1) := by decide +kernel
theorem dX5_findStraight_2 : decode cX5_findStraight 2 = .ok (.iload_n 3, 1) := by decide +kernel
theorem dX5_findStraight_3 : decode cX5_findStraight 3 = .ok (.iconst 4, 1) := by decide +kernel
theorem dX5_findStraight_4 : decode cX5_findStraight 4 = .ok (.if_icmp .ge 45, 3) := by decide +kernel
theorem dX5_findStraight_7 : decode cX5_findStraight 7 = .ok (.iload_n 1, 1) := by decide +kernel
theorem dX5_findStraight_8 : decode cX5_findStraight 8 = .ok (.iload_n 3, 1) := by decide +kernel
theorem dX5_findStraight_9 : decode cX5_findStraight 9 = .ok (.invokestatic 120, 3) := by decide +kernel
theorem dX5_findStraight_12 : decode cX5_findStraight 12 = .ok (.istore 4, 2) := by decide +kernel
theorem dX5_findStraight_14 : decode cX5_findStraight 14 = .ok (.aload_n 0, 1) := by decide +kernel
theorem dX5_findStraight_15 : decode cX5_findStraight 15 = .ok (.iload_n 2, 1) := by decide +kernel
theorem dX5_findStraight_16 : decode cX5_findStraight 16 = .ok (.iload 4, 2) := by decide +kernel
theorem dX5_findStraight_18 : decode cX5_findStraight 18 = .ok (.invokevirtual 123, 3) := by decide +kernel
theorem dX5_findStraight_21 : decode cX5_findStraight 21 = .ok (.ifCond .eq 22, 3) := by decide +kernel
theorem dX5_findStraight_24 : decode cX5_findStraight 24 = .ok (.aload_n 0, 1) := by decide +kernel
theorem dX5_findStraight_25 : decode cX5_findStraight 25 = .ok (.getfield 21, 3) := by decide +kernel
theorem dX5_findStraight_28 : decode cX5_findStraight 28 = .ok (.iload 4, 2) := by decide +kernel
theorem dX5_findStraight_30 : decode cX5_findStraight 30 = .ok (.iconst 1, 1) := by decide +kernel
theorem dX5_findStraight_31 : decode cX5_findStraight 31 = .ok (.bastore, 1) := by decide +kernel
theorem dX5_findStraight_32 : decode cX5_findStraight 32 = .ok (.iload 4, 2) := by decide +kernel
theorem dX5_findStraight_34 : decode cX5_findStraight 34 = .ok (.iload_n 3, 1) := by decide +kernel
theorem dX5_findStraight_35 : decode cX5_findStraight 35 = .ok (.invokestatic 120, 3) := by decide +kernel
theorem dX5_findStraight_38 : decode cX5_findStraight 38 = .ok (.istore 4, 2) := by decide +kernel
theorem dX5_findStraight_40 : decode cX5_findStraight 40 = .ok (.goto (-26), 3) := by decide +kernel
theorem dX5_findStraight_43 : decode cX5_findStraight 43 = .ok (.iinc 3 1, 3) := by decide +kernel
theorem dX5_findStraight_46 : decode cX5_findStraight 46 = .ok (.goto (-44), 3) := by decide +kernel
theorem dX5_findStraight_49 : decode cX5_findStraight 49 = .ok (.return_, 1) := by decide +kernel
set_option maxRecDepth 20000 in
theorem ggX5_findWalks_X5_next : GoodIn wsX5_findWalks wsX5_next := goodIn_r _ [7, 8, 9, 6, 10] (by decide +kernel) (by decide +kernel)
set_option maxRecDepth 20000 in
theorem gX5_findWalks_X5_next : GoodIn wsX5_findWalks (va_wsS RX5 120 yX5_next wsX5_next) := goodIn_app (goodIn_of _ (by decide +kernel)) ggX5_findWalks_X5_next
set_option maxRecDepth 20000 in
theorem ggX5_findWalks_X5_mayStand : GoodIn wsX5_findWalks wsX5_mayStand := goodIn_ca (goodIn_r _ [14, 15, 16, 17, 18, 6, 19, 20, 21, 22, 23, 24, 25, 26, 27, 28, 29, 30, 31, 32, 33, 34, 35, 36, 37, 38, 39, 40, 41, 42, 43, 44, 45, 46] (by decide +kernel) (by decide +kernel)) (goodIn_sub (fun _ h => List.mem_cons_of_mem _ (List.mem_append_right _ h)) (by decide +kernel))
set_option maxRecDepth 20000 in
theorem gX5_findWalks_X5_mayStand : GoodIn wsX5_findWalks (wsV RX5 123 RX5 yX5_mayStand wsX5_mayStand) := goodIn_app (goodIn_of _ (by decide +kernel)) ggX5_findWalks_X5_mayStand
theorem dX5_findWalks_0 : decode cX5_findWalks 0 = .ok (.iconst 1, 1) := by decide +kernel
theorem dX5_findWalks_1 : decode cX5_findWalks 1 = .ok (.istore_n 3, 1) := by decide +kernel
theorem dX5_findWalks_2 : decode cX5_findWalks 2 = .ok (.aload_n 0, 1) := by decide +kernel
theorem dX5_findWalks_3 : decode cX5_findWalks 3 = .ok (.getfield 25, 3) := by decide +kernel
theorem dX5_findWalks_6 : decode cX5_findWalks 6 = .ok (.iconst 0, 1) := by decide +kernel
theorem dX5_findWalks_7 : decode cX5_findWalks 7 = .ok (.iload_n 1, 1) := by decide +kernel
theorem dX5_findWalks_8 : decode cX5_findWalks 8 = .ok (.iastore, 1) := by decide +kernel
theorem dX5_findWalks_9 : decode cX5_findWalks 9 = .ok (.aload_n 0, 1) := by decide +kernel
theorem dX5_findWalks_10 : decode cX5_findWalks 10 = .ok (.getfield 28, 3) := by decide +kernel
theorem dX5_findWalks_13 : decode cX5_findWalks 13 = .ok (.iload_n 1, 1) := by decide +kernel
theorem dX5_findWalks_14 : decode cX5_findWalks 14 = .ok (.iconst 0, 1) := by decide +kernel
theorem dX5_findWalks_15 : decode cX5_findWalks 15 = .ok (.iastore, 1) := by decide +kernel
theorem dX5_findWalks_16 : decode cX5_findWalks 16 = .ok (.iconst 0, 1) := by decide +kernel
theorem dX5_findWalks_17 : decode cX5_findWalks 17 = .ok (.istore 4, 2) := by decide +kernel
theorem dX5_findWalks_19 : decode cX5_findWalks 19 = .ok (.iload 4, 2) := by decide +kernel
theorem dX5_findWalks_21 : decode cX5_findWalks 21 = .ok (.iload_n 3, 1) := by decide +kernel
theorem dX5_findWalks_22 : decode cX5_findWalks 22 = .ok (.if_icmp .ge 114, 3) := by decide +kernel
theorem dX5_findWalks_25 : decode cX5_findWalks 25 = .ok (.iconst 0, 1) := by decide +kernel
theorem dX5_findWalks_26 : decode cX5_findWalks 26 = .ok (.istore 5, 2) := by decide +kernel
theorem dX5_findWalks_28 : decode cX5_findWalks 28 = .ok (.iload 5, 2) := by decide +kernel
theorem dX5_findWalks_30 : decode cX5_findWalks 30 = .ok (.iconst 4, 1) := by decide +kernel
theorem dX5_findWalks_31 : decode cX5_findWalks 31 = .ok (.if_icmp .ge 99, 3) := by decide +kernel
theorem dX5_findWalks_34 : decode cX5_findWalks 34 = .ok (.aload_n 0, 1) := by decide +kernel
theorem dX5_findWalks_35 : decode cX5_findWalks 35 = .ok (.getfield 28, 3) := by decide +kernel
theorem dX5_findWalks_38 : decode cX5_findWalks 38 = .ok (.aload_n 0, 1) := by decide +kernel
theorem dX5_findWalks_39 : decode cX5_findWalks 39 = .ok (.getfield 25, 3) := by decide +kernel
theorem dX5_findWalks_42 : decode cX5_findWalks 42 = .ok (.iload 4, 2) := by decide +kernel
theorem dX5_findWalks_44 : decode cX5_findWalks 44 = .ok (.iaload, 1) := by decide +kernel
theorem dX5_findWalks_45 : decode cX5_findWalks 45 = .ok (.iaload, 1) := by decide +kernel
theorem dX5_findWalks_46 : decode cX5_findWalks 46 = .ok (.iconst 3, 1) := by decide +kernel
theorem dX5_findWalks_47 : decode cX5_findWalks 47 = .ok (.if_icmp .ge 83, 3) := by decide +kernel
theorem dX5_findWalks_50 : decode cX5_findWalks 50 = .ok (.aload_n 0, 1) := by decide +kernel
theorem dX5_findWalks_51 : decode cX5_findWalks 51 = .ok (.getfield 25, 3) := by decide +kernel
theorem dX5_findWalks_54 : decode cX5_findWalks 54 = .ok (.iload 4, 2) := by decide +kernel
theorem dX5_findWalks_56 : decode cX5_findWalks 56 = .ok (.iaload, 1) := by decide +kernel
theorem dX5_findWalks_57 : decode cX5_findWalks 57 = .ok (.iload 5, 2) := by decide +kernel
theorem dX5_findWalks_59 : decode cX5_findWalks 59 = .ok (.invokestatic 120, 3) := by decide +kernel
theorem dX5_findWalks_62 : decode cX5_findWalks 62 = .ok (.istore 6, 2) := by decide +kernel
theorem dX5_findWalks_64 : decode cX5_findWalks 64 = .ok (.aload_n 0, 1) := by decide +kernel
theorem dX5_findWalks_65 : decode cX5_findWalks 65 = .ok (.iload_n 2, 1) := by decide +kernel
theorem dX5_findWalks_66 : decode cX5_findWalks 66 = .ok (.iload 6, 2) := by decide +kernel
theorem dX5_findWalks_68 : decode cX5_findWalks 68 = .ok (.invokevirtual 123, 3) := by decide +kernel
theorem dX5_findWalks_71 : decode cX5_findWalks 71 = .ok (.ifCond .eq 53, 3) := by decide +kernel
theorem dX5_findWalks_74 : decode cX5_findWalks 74 = .ok (.aload_n 0, 1) := by decide +kernel
theorem dX5_findWalks_75 : decode cX5_findWalks 75 = .ok (.getfield 21, 3) := by decide +kernel
theorem dX5_findWalks_78 : decode cX5_findWalks 78 = .ok (.iload 6, 2) := by decide +kernel
theorem dX5_findWalks_80 : decode cX5_findWalks 80 = .ok (.baload, 1) := by decide +kernel
theorem dX5_findWalks_81 : decode cX5_findWalks 81 = .ok (.ifCond .ne 43, 3) := by decide +kernel
theorem dX5_findWalks_84 : decode cX5_findWalks 84 = .ok (.aload_n 0, 1) := by decide +kernel
theorem dX5_findWalks_85 : decode cX5_findWalks 85 = .ok (.getfield 21, 3) := by decide +kernel
theorem dX5_findWalks_88 : decode cX5_findWalks 88 = .ok (.iload 6, 2) := by decide +kernel
theorem dX5_findWalks_90 : decode cX5_findWalks 90 = .ok (.iconst 1, 1) := by decide +kernel
theorem dX5_findWalks_91 : decode cX5_findWalks 91 = .ok (.bastore, 1) := by decide +kernel
theorem dX5_findWalks_92 : decode cX5_findWalks 92 = .ok (.aload_n 0, 1) := by decide +kernel
theorem dX5_findWalks_93 : decode cX5_findWalks 93 = .ok (.getfield 28, 3) := by decide +kernel
theorem dX5_findWalks_96 : decode cX5_findWalks 96 = .ok (.iload 6, 2) := by decide +kernel
theorem dX5_findWalks_98 : decode cX5_findWalks 98 = .ok (.aload_n 0, 1) := by decide +kernel
theorem dX5_findWalks_99 : decode cX5_findWalks 99 = .ok (.getfield 28, 3) := by decide +kernel
theorem dX5_findWalks_102 : decode cX5_findWalks 102 = .ok (.aload_n 0, 1) := by decide +kernel
theorem dX5_findWalks_103 : decode cX5_findWalks 103 = .ok (.getfield 25, 3) := by decide +kernel
theorem dX5_findWalks_106 : decode cX5_findWalks 106 = .ok (.iload 4, 2) := by decide +kernel
theorem dX5_findWalks_108 : decode cX5_findWalks 108 = .ok (.iaload, 1) := by decide +kernel
theorem dX5_findWalks_109 : decode cX5_findWalks 109 = .ok (.iaload, 1) := by decide +kernel
theorem dX5_findWalks_110 : decode cX5_findWalks 110 = .ok (.iconst 1, 1) := by decide +kernel
theorem dX5_findWalks_111 : decode cX5_findWalks 111 = .ok (.iadd, 1) := by decide +kernel
theorem dX5_findWalks_112 : decode cX5_findWalks 112 = .ok (.iastore, 1) := by decide +kernel
theorem dX5_findWalks_113 : decode cX5_findWalks 113 = .ok (.aload_n 0, 1) := by decide +kernel
theorem dX5_findWalks_114 : decode cX5_findWalks 114 = .ok (.getfield 25, 3) := by decide +kernel
theorem dX5_findWalks_117 : decode cX5_findWalks 117 = .ok (.iload_n 3, 1) := by decide +kernel
theorem dX5_findWalks_118 : decode cX5_findWalks 118 = .ok (.iload 6, 2) := by decide +kernel
theorem dX5_findWalks_120 : decode cX5_findWalks 120 = .ok (.iastore, 1) := by decide +kernel
theorem dX5_findWalks_121 : decode cX5_findWalks 121 = .ok (.iinc 3 1, 3) := by decide +kernel
theorem dX5_findWalks_124 : decode cX5_findWalks 124 = .ok (.iinc 5 1, 3) := by decide +kernel
theorem dX5_findWalks_127 : decode cX5_findWalks 127 = .ok (.goto (-99), 3) := by decide +kernel
theorem dX5_findWalks_130 : decode cX5_findWalks 130 = .ok (.iinc 4 1, 3) := by decide +kernel
theorem dX5_findWalks_133 : decode cX5_findWalks 133 = .ok (.goto (-114), 3) := by decide +kernel
theorem dX5_findWalks_136 : decode cX5_findWalks 136 = .ok (.return_, 1) := by decide +kernel
set_option maxRecDepth 20000 in
theorem ggX5_findMoves_X5_sideOf : GoodIn wsX5_findMoves wsX5_sideOf := goodIn_r _ [6, 7, 8, 5, 9] (by decide +kernel) (by decide +kernel)
set_option maxRecDepth 20000 in
theorem gX5_findMoves_X5_sideOf : GoodIn wsX5_findMoves (va_wsS RX5 79 yX5_sideOf wsX5_sideOf) := goodIn_app (goodIn_of _ (by decide +kernel)) ggX5_findMoves_X5_sideOf
set_option maxRecDepth 20000 in
theorem ggX5_findMoves_X5_kindOf : GoodIn wsX5_findMoves wsX5_kindOf := goodIn_r _ [12, 7, 8, 5, 9] (by decide +kernel) (by decide +kernel)
set_option maxRecDepth 20000 in
theorem gX5_findMoves_X5_kindOf : GoodIn wsX5_findMoves (va_wsS RX5 126 yX5_kindOf wsX5_kindOf) := goodIn_app (goodIn_of _ (by decide +kernel)) ggX5_findMoves_X5_kindOf
set_option maxRecDepth 20000 in
theorem ggX5_findMoves_X5_findNear : GoodIn wsX5_findMoves wsX5_findNear := goodIn_ca (goodIn_r _ [16, 1, 17, 18, 5, 19, 7, 8, 9, 20, 21, 22, 23, 2, 24, 25, 26, 27, 28, 29, 30, 31, 42, 43, 44, 45, 46, 47, 48, 49, 50, 51, 52, 53, 54, 55, 56, 57, 58, 59, 60, 61, 62, 63, 64] (by decide +kernel) (by decide +kernel)) (goodIn_sub (fun _ h => List.mem_cons_of_mem _ (List.mem_append_right _ h)) (by decide +kernel))
set_option maxRecDepth 20000 in
theorem gX5_findMoves_X5_findNear : GoodIn wsX5_findMoves (wsV RX5 129 RX5 yX5_findNear wsX5_findNear) := goodIn_app (goodIn_of _ (by decide +kernel)) ggX5_findMoves_X5_findNear
set_option maxRecDepth 20000 in
theorem ggX5_findMoves_X5_findStraight : GoodIn wsX5_findMoves wsX5_findStraight := goodIn_ca (goodIn_r _ [35, 1, 17, 18, 5, 19, 7, 8, 9, 20, 21, 22, 23, 2, 24, 25, 26, 27, 28, 29, 30, 31, 42, 43, 44, 45, 46, 47, 48, 49, 50, 51, 52, 53, 54, 55, 56, 57, 58, 59, 60, 61, 62, 63, 64] (by decide +kernel) (by decide +kernel)) (goodIn_sub (fun _ h => List.mem_cons_of_mem _ (List.mem_append_right _ h)) (by decide +kernel))
set_option maxRecDepth 20000 in
theorem gX5_findMoves_X5_findStraight : GoodIn wsX5_findMoves (wsV RX5 133 RX5 yX5_findStraight wsX5_findStraight) := goodIn_app (goodIn_of _ (by decide +kernel)) ggX5_findMoves_X5_findStraight
set_option maxRecDepth 20000 in
theorem ggX5_findMoves_X5_findWalks : GoodIn wsX5_findMoves wsX5_findWalks := goodIn_ca (goodIn_r _ [39, 40, 41, 1, 17, 18, 5, 19, 7, 8, 9, 20, 21, 22, 23, 2, 24, 25, 26, 27, 28, 29, 30, 31, 42, 43, 44, 45, 46, 47, 48, 49, 50, 51, 52, 53, 54, 55, 56, 57, 58, 59, 60, 61, 62, 63, 64] (by decide +kernel) (by decide +kernel)) (goodIn_sub (fun _ h => List.mem_cons_of_mem _ (List.mem_append_right _ h)) (by decide +kernel))
set_option maxRecDepth 20000 in
theorem gX5_findMoves_X5_findWalks : GoodIn wsX5_findMoves (wsV RX5 136 RX5 yX5_findWalks wsX5_findWalks) := goodIn_app (goodIn_of _ (by decide +kernel)) ggX5_findMoves_X5_findWalks
theorem dX5_findMoves_0 : decode cX5_findMoves 0 = .ok (.iconst 0, 1) := by decide +kernel
theorem dX5_findMoves_1 : decode cX5_findMoves 1 = .ok (.istore_n 2, 1) := by decide +kernel
theorem dX5_findMoves_2 : decode cX5_findMoves 2 = .ok (.iload_n 2, 1) := by decide +kernel
theorem dX5_findMoves_3 : decode cX5_findMoves 3 = .ok (.bipush 36, 2) := by decide +kernel
theorem dX5_findMoves_5 : decode cX5_findMoves 5 = .ok (.if_icmp .ge 16, 3) := by decide +kernel
theorem dX5_findMoves_8 : decode cX5_findMoves 8 = .ok (.aload_n 0, 1) := by decide +kernel
theorem dX5_findMoves_9 : decode cX5_findMoves 9 = .ok (.getfield 21, 3) := by decide +kernel
theorem dX5_findMoves_12 : decode cX5_findMoves 12 = .ok (.iload_n 2, 1) := by decide +kernel
theorem dX5_findMoves_13 : decode cX5_findMoves 13 = .ok (.iconst 0, 1) := by decide +kernel
theorem dX5_findMoves_14 : decode cX5_findMoves 14 = .ok (.bastore, 1) := by decide +kernel
theorem dX5_findMoves_15 : decode cX5_findMoves 15 = .ok (.iinc 2 1, 3) := by decide +kernel
theorem dX5_findMoves_18 : decode cX5_findMoves 18 = .ok (.goto (-16), 3) := by decide +kernel
theorem dX5_findMoves_21 : decode cX5_findMoves 21 = .ok (.aload_n 0, 1) := by decide +kernel
theorem dX5_findMoves_22 : decode cX5_findMoves 22 = .ok (.getfield 9, 3) := by decide +kernel
theorem dX5_findMoves_25 : decode cX5_findMoves 25 = .ok (.iload_n 1, 1) := by decide +kernel
theorem dX5_findMoves_26 : decode cX5_findMoves 26 = .ok (.iaload, 1) := by decide +kernel
theorem dX5_findMoves_27 : decode cX5_findMoves 27 = .ok (.invokestatic 79, 3) := by decide +kernel
theorem dX5_findMoves_30 : decode cX5_findMoves 30 = .ok (.istore_n 2, 1) := by decide +kernel
theorem dX5_findMoves_31 : decode cX5_findMoves 31 = .ok (.aload_n 0, 1) := by decide +kernel
theorem dX5_findMoves_32 : decode cX5_findMoves 32 = .ok (.getfield 9, 3) := by decide +kernel
theorem dX5_findMoves_35 : decode cX5_findMoves 35 = .ok (.iload_n 1, 1) := by decide +kernel
theorem dX5_findMoves_36 : decode cX5_findMoves 36 = .ok (.iaload, 1) := by decide +kernel
theorem dX5_findMoves_37 : decode cX5_findMoves 37 = .ok (.invokestatic 126, 3) := by decide +kernel
theorem dX5_findMoves_40 : decode cX5_findMoves 40 = .ok (.tableswitch 59 0 3 #[32, 41, 50, 32], 32) := by decide +kernel
theorem dX5_findMoves_72 : decode cX5_findMoves 72 = .ok (.aload_n 0, 1) := by decide +kernel
theorem dX5_findMoves_73 : decode cX5_findMoves 73 = .ok (.iload_n 1, 1) := by decide +kernel
theorem dX5_findMoves_74 : decode cX5_findMoves 74 = .ok (.iload_n 2, 1) := by decide +kernel
theorem dX5_findMoves_75 : decode cX5_findMoves 75 = .ok (.invokevirtual 129, 3) := by decide +kernel
theorem dX5_findMoves_78 : decode cX5_findMoves 78 = .ok (.goto 21, 3) := by decide +kernel
theorem dX5_findMoves_81 : decode cX5_findMoves 81 = .ok (.aload_n 0, 1) := by decide +kernel
theorem dX5_findMoves_82 : decode cX5_findMoves 82 = .ok (.iload_n 1, 1) := by decide +kernel
theorem dX5_findMoves_83 : decode cX5_findMoves 83 = .ok (.iload_n 2, 1) := by decide +kernel
theorem dX5_findMoves_84 : decode cX5_findMoves 84 = .ok (.invokevirtual 133, 3) := by decide +kernel
theorem dX5_findMoves_87 : decode cX5_findMoves 87 = .ok (.goto 12, 3) := by decide +kernel
theorem dX5_findMoves_90 : decode cX5_findMoves 90 = .ok (.aload_n 0, 1) := by decide +kernel
theorem dX5_findMoves_91 : decode cX5_findMoves 91 = .ok (.iload_n 1, 1) := by decide +kernel
theorem dX5_findMoves_92 : decode cX5_findMoves 92 = .ok (.iload_n 2, 1) := by decide +kernel
theorem dX5_findMoves_93 : decode cX5_findMoves 93 = .ok (.invokevirtual 136, 3) := by decide +kernel
theorem dX5_findMoves_96 : decode cX5_findMoves 96 = .ok (.goto 3, 3) := by decide +kernel
theorem dX5_findMoves_99 : decode cX5_findMoves 99 = .ok (.return_, 1) := by decide +kernel
set_option maxRecDepth 20000 in
theorem ggX5_can_X5_findMoves : GoodIn wsX5_can wsX5_findMoves := goodIn_ca (goodIn_r _ [6, 1, 7, 8, 9, 5, 10, 11, 12, 13, 14, 15, 16, 17, 18, 19, 20, 21, 22, 23, 24, 25, 26, 27, 28, 29, 30, 31, 32, 33, 34, 35, 36, 37, 38, 39, 40, 41, 42, 43, 44, 45, 46, 47, 48, 49, 50, 51, 52, 53, 54, 55, 56, 57, 58, 59, 60, 61, 62, 63, 64, 65, 66, 67, 68] (by decide +kernel) (by decide +kernel)) (goodIn_sub (fun _ h => List.mem_cons_of_mem _ (List.mem_append_right _ h)) (by decide +kernel))
set_option maxRecDepth 20000 in
theorem gX5_can_X5_findMoves : GoodIn wsX5_can (wsV RX5 139 RX5 yX5_findMoves wsX5_findMoves) := goodIn_app (goodIn_of _ (by decide +kernel)) ggX5_can_X5_findMoves
theorem dX5_can_0 : decode cX5_can 0 = .ok (.aload_n 0, 1) := by decide +kernel
theorem dX5_can_1 : decode cX5_can 1 = .ok (.iload_n 1, 1) := by decide +kernel
theorem dX5_can_2 : decode cX5_can 2 = .ok (.invokevirtual 139, 3) := by decide +kernel
theorem dX5_can_5 : decode cX5_can 5 = .ok (.aload_n 0, 1) := by decide +kernel
theorem dX5_can_6 : decode cX5_can 6 = .ok (.getfield 21, 3) := by decide +kernel
theorem dX5_can_9 : decode cX5_can 9 = .ok (.iload_n 2, 1) := by decide +kernel
theorem dX5_can_10 : decode cX5_can 10 = .ok (.baload, 1) := by decide +kernel
theorem dX5_can_11 : decode cX5_can 11 = .ok (.ireturn, 1) := by decide +kernel
set_option maxRecDepth 20000 in
theorem ggX5_countMoves_X5_findMoves : GoodIn wsX5_countMoves wsX5_findMoves := goodIn_ca (goodIn_r _ [6, 1, 7, 8, 9, 5, 10, 11, 12, 13, 14, 15, 16, 17, 18, 19, 20, 21, 22, 23, 24, 25, 26, 27, 28, 29, 30, 31, 32, 33, 34, 35, 36, 37, 38, 39, 40, 41, 42, 43, 44, 45, 46, 47, 48, 49, 50, 51, 52, 53, 54, 55, 56, 57, 58, 59, 60, 61, 62, 63, 64, 65, 66, 67, 68] (by decide +kernel) (by decide +kernel)) (goodIn_sub (fun _ h => List.mem_cons_of_mem _ (List.mem_append_right _ h)) (by decide +kernel))
set_option maxRecDepth 20000 in
theorem gX5_countMoves_X5_findMoves : GoodIn wsX5_countMoves (wsV RX5 139 RX5 yX5_findMoves wsX5_findMoves) := goodIn_app (goodIn_of _ (by decide +kernel)) ggX5_countMoves_X5_findMoves
theorem dX5_countMoves_0 : decode cX5_countMoves 0 = .ok (.aload_n 0, 1) := by decide +kernel
theorem dX5_countMoves_1 : decode cX5_countMoves 1 = .ok (.iload_n 1, 1) := by decide +kernel
theorem dX5_countMoves_2 : decode cX5_countMoves 2 = .ok (.invokevirtual 139, 3) := by decide +kernel
theorem dX5_countMoves_5 : decode cX5_countMoves 5 = .ok (.iconst 0, 1) := by decide +kernel
theorem dX5_countMoves_6 : decode cX5_countMoves 6 = .ok (.istore_n 2, 1) := by decide +kernel
theorem dX5_countMoves_7 : decode cX5_countMoves 7 = .ok (.iconst 0, 1) := by decide +kernel
theorem dX5_countMoves_8 : decode cX5_countMoves 8 = .ok (.istore_n 3, 1) := by decide +kernel
theorem dX5_countMoves_9 : decode cX5_countMoves 9 = .ok (.iload_n 3, 1) := by decide +kernel
theorem dX5_countMoves_10 : decode cX5_countMoves 10 = .ok (.bipush 36, 2) := by decide +kernel
theorem dX5_countMoves_12 : decode cX5_countMoves 12 = .ok (.if_icmp .ge 26, 3) := by decide +kernel
theorem dX5_countMoves_15 : decode cX5_countMoves 15 = .ok (.iload_n 2, 1) := by decide +kernel
theorem dX5_countMoves_16 : decode cX5_countMoves 16 = .ok (.aload_n 0, 1) := by decide +kernel
theorem dX5_countMoves_17 : decode cX5_countMoves 17 = .ok (.getfield 21, 3) := by decide +kernel
theorem dX5_countMoves_20 : decode cX5_countMoves 20 = .ok (.iload_n 3, 1) := by decide +kernel
theorem dX5_countMoves_21 : decode cX5_countMoves 21 = .ok (.baload, 1) := by decide +kernel
theorem dX5_countMoves_22 : decode cX5_countMoves 22 = .ok (.ifCond .eq 7, 3) := by decide +kernel
theorem dX5_countMoves_25 : decode cX5_countMoves 25 = .ok (.iconst 1, 1) := by decide +kernel
theorem dX5_countMoves_26 : decode cX5_countMoves 26 = .ok (.goto 4, 3) := by decide +kernel
theorem dX5_countMoves_29 : decode cX5_countMoves 29 = .ok (.iconst 0, 1) := by decide +kernel
theorem dX5_countMoves_30 : decode cX5_countMoves 30 = .ok (.iadd, 1) := by decide +kernel
theorem dX5_countMoves_31 : decode cX5_countMoves 31 = .ok (.istore_n 2, 1) := by decide +kernel
theorem dX5_countMoves_32 : decode cX5_countMoves 32 = .ok (.iinc 3 1, 3) := by decide +kernel
theorem dX5_countMoves_35 : decode cX5_countMoves 35 = .ok (.goto (-26), 3) := by decide +kernel
theorem dX5_countMoves_38 : decode cX5_countMoves 38 = .ok (.iload_n 2, 1) := by decide +kernel
theorem dX5_countMoves_39 : decode cX5_countMoves 39 = .ok (.ireturn, 1) := by decide +kernel
set_option maxRecDepth 20000 in
theorem ggX5_hasMove_X5_sideOf : GoodIn wsX5_hasMove wsX5_sideOf := goodIn_r _ [5, 6, 7, 4, 8] (by decide +kernel) (by decide +kernel)
set_option maxRecDepth 20000 in
theorem gX5_hasMove_X5_sideOf : GoodIn wsX5_hasMove (va_wsS RX5 79 yX5_sideOf wsX5_sideOf) := goodIn_app (goodIn_of _ (by decide +kernel)) ggX5_hasMove_X5_sideOf
set_option maxRecDepth 20000 in
theorem ggX5_hasMove_X5_countMoves : GoodIn wsX5_hasMove wsX5_countMoves := goodIn_ca (goodIn_r _ [12, 13, 14, 15, 16, 4, 17, 1, 2, 3, 5, 6, 7, 8, 18, 19, 20, 21, 22, 23, 24, 25, 26, 27, 28, 29, 30, 31, 32, 33, 34, 35, 36, 37, 38, 39, 40, 41, 42, 43, 44, 45, 46, 47, 48, 49, 50, 51, 52, 53, 54, 55, 56, 57, 58, 59, 60, 61, 62, 63, 64, 65, 66, 67, 68, 69, 70, 71, 72] (by decide +kernel) (by decide +kernel)) (goodIn_sub (fun _ h => List.mem_cons_of_mem _ (List.mem_append_right _ h)) (by decide +kernel))
set_option maxRecDepth 20000 in
theorem gX5_hasMove_X5_countMoves : GoodIn wsX5_hasMove (wsV RX5 143 RX5 yX5_countMoves wsX5_countMoves) := goodIn_app (goodIn_of _ (by decide +kernel)) ggX5_hasMove_X5_countMoves
theorem dX5_hasMove_0 : decode cX5_hasMove 0 = .ok (.iconst 0, 1) := by decide +kernel
theorem dX5_hasMove_1 : decode cX5_hasMove 1 = .ok (.istore_n 2, 1) := by decide +kernel
theorem dX5_hasMove_2 : decode cX5_hasMove 2 = .ok (.iconst 0, 1) := by decide +kernel
theorem dX5_hasMove_3 : decode cX5_hasMove 3 = .ok (.istore_n 3, 1) := by decide +kernel
theorem dX5_hasMove_4 : decode cX5_hasMove 4 = .ok (.iload_n 3, 1) := by decide +kernel
theorem dX5_hasMove_5 : decode cX5_hasMove 5 = .ok (.bipush 36, 2) := by decide +kernel
theorem dX5_hasMove_7 : decode cX5_hasMove 7 = .ok (.if_icmp .ge 38, 3) := by decide +kernel
theorem dX5_hasMove_10 : decode cX5_hasMove 10 = .ok (.iload_n 2, 1) := by decide +kernel
theorem dX5_hasMove_11 : decode cX5_hasMove 11 = .ok (.aload_n 0, 1) := by decide +kernel
theorem dX5_hasMove_12 : decode cX5_hasMove 12 = .ok (.getfield 9, 3) := by decide +kernel
theorem dX5_hasMove_15 : decode cX5_hasMove 15 = .ok (.iload_n 3, 1) := by decide +kernel
theorem dX5_hasMove_16 : decode cX5_hasMove 16 = .ok (.iaload, 1) := by decide +kernel
theorem dX5_hasMove_17 : decode cX5_hasMove 17 = .ok (.invokestatic 79, 3) := by decide +kernel
theorem dX5_hasMove_20 : decode cX5_hasMove 20 = .ok (.iload_n 1, 1) := by decide +kernel
theorem dX5_hasMove_21 : decode cX5_hasMove 21 = .ok (.if_icmp .ne 15, 3) := by decide +kernel
theorem dX5_hasMove_24 : decode cX5_hasMove 24 = .ok (.aload_n 0, 1) := by decide +kernel
theorem dX5_hasMove_25 : decode cX5_hasMove 25 = .ok (.iload_n 3, 1) := by decide +kernel
theorem dX5_hasMove_26 : decode cX5_hasMove 26 = .ok (.invokevirtual 143, 3) := by decide +kernel
theorem dX5_hasMove_29 : decode cX5_hasMove 29 = .ok (.ifCond .le 7, 3) := by decide +kernel
theorem dX5_hasMove_32 : decode cX5_hasMove 32 = .ok (.iconst 1, 1) := by decide +kernel
theorem dX5_hasMove_33 : decode cX5_hasMove 33 = .ok (.goto 4, 3) := by decide +kernel
theorem dX5_hasMove_36 : decode cX5_hasMove 36 = .ok (.iconst 0, 1) := by decide +kernel
theorem dX5_hasMove_37 : decode cX5_hasMove 37 = .ok (.ior, 1) := by decide +kernel
theorem dX5_hasMove_38 : decode cX5_hasMove 38 = .ok (.istore_n 2, 1) := by decide +kernel
theorem dX5_hasMove_39 : decode cX5_hasMove 39 = .ok (.iinc 3 1, 3) := by decide +kernel
theorem dX5_hasMove_42 : decode cX5_hasMove 42 = .ok (.goto (-38), 3) := by decide +kernel
theorem dX5_hasMove_45 : decode cX5_hasMove 45 = .ok (.iload_n 2, 1) := by decide +kernel
theorem dX5_hasMove_46 : decode cX5_hasMove 46 = .ok (.ireturn, 1) := by decide +kernel
theorem dX5_turn_0 : decode cX5_turn 0 = .ok (.aload_n 0, 1) := by decide +kernel
theorem dX5_turn_1 : decode cX5_turn 1 = .ok (.getfield 9, 3) := by decide +kernel
theorem dX5_turn_4 : decode cX5_turn 4 = .ok (.bipush 74, 2) := by decide +kernel
theorem dX5_turn_6 : decode cX5_turn 6 = .ok (.iaload, 1) := by decide +kernel
theorem dX5_turn_7 : decode cX5_turn 7 = .ok (.iconst 2, 1) := by decide +kernel
theorem dX5_turn_8 : decode cX5_turn 8 = .ok (.irem, 1) := by decide +kernel
theorem dX5_turn_9 : decode cX5_turn 9 = .ok (.ireturn, 1) := by decide +kernel
set_option maxRecDepth 20000 in
theorem ggX5_go_X5_sideOf : GoodIn wsX5_go wsX5_sideOf := goodIn_r _ [5, 6, 7, 4, 8] (by decide +kernel) (by decide +kernel)
set_option maxRecDepth 20000 in
theorem gX5_go_X5_sideOf : GoodIn wsX5_go (va_wsS RX5 79 yX5_sideOf wsX5_sideOf) := goodIn_app (goodIn_of _ (by decide +kernel)) ggX5_go_X5_sideOf
set_option maxRecDepth 20000 in
theorem ggX5_go_X5_next : GoodIn wsX5_go wsX5_next := goodIn_r _ [11, 6, 7, 4, 8] (by decide +kernel) (by decide +kernel)
set_option maxRecDepth 20000 in
theorem gX5_go_X5_next : GoodIn wsX5_go (va_wsS RX5 120 yX5_next wsX5_next) := goodIn_app (goodIn_of _ (by decide +kernel)) ggX5_go_X5_next
theorem dX5_go_0 : decode cX5_go 0 = .ok (.aload_n 0, 1) := by decide +kernel
theorem dX5_go_1 : decode cX5_go 1 = .ok (.getfield 9, 3) := by decide +kernel
theorem dX5_go_4 : decode cX5_go 4 = .ok (.iload_n 1, 1) := by decide +kernel
theorem dX5_go_5 : decode cX5_go 5 = .ok (.iaload, 1) := by decide +kernel
theorem dX5_go_6 : decode cX5_go 6 = .ok (.invokestatic 79, 3) := by decide +kernel
theorem dX5_go_9 : decode cX5_go 9 = .ok (.istore_n 3, 1) := by decide +kernel
theorem dX5_go_10 : decode cX5_go 10 = .ok (.aload_n 0, 1) := by decide +kernel
theorem dX5_go_11 : decode cX5_go 11 = .ok (.getfield 9, 3) := by decide +kernel
theorem dX5_go_14 : decode cX5_go 14 = .ok (.iload_n 2, 1) := by decide +kernel
theorem dX5_go_15 : decode cX5_go 15 = .ok (.aload_n 0, 1) := by decide +kernel
theorem dX5_go_16 : decode cX5_go 16 = .ok (.getfield 9, 3) := by decide +kernel
theorem dX5_go_19 : decode cX5_go 19 = .ok (.iload_n 1, 1) := by decide +kernel
theorem dX5_go_20 : decode cX5_go 20 = .ok (.iaload, 1) := by decide +kernel
theorem dX5_go_21 : decode cX5_go 21 = .ok (.iastore, 1) := by decide +kernel
theorem dX5_go_22 : decode cX5_go 22 = .ok (.aload_n 0, 1) := by decide +kernel
theorem dX5_go_23 : decode cX5_go 23 = .ok (.getfield 9, 3) := by decide +kernel
theorem dX5_go_26 : decode cX5_go 26 = .ok (.iload_n 1, 1) := by decide +kernel
theorem dX5_go_27 : decode cX5_go 27 = .ok (.iconst 0, 1) := by decide +kernel
theorem dX5_go_28 : decode cX5_go 28 = .ok (.iastore, 1) := by decide +kernel
theorem dX5_go_29 : decode cX5_go 29 = .ok (.iconst 0, 1) := by decide +kernel
theorem dX5_go_30 : decode cX5_go 30 = .ok (.istore 4, 2) := by decide +kernel
theorem dX5_go_32 : decode cX5_go 32 = .ok (.iconst 0, 1) := by decide +kernel
theorem dX5_go_33 : decode cX5_go 33 = .ok (.istore 5, 2) := by decide +kernel
theorem dX5_go_35 : decode cX5_go 35 = .ok (.iload 5, 2) := by decide +kernel
theorem dX5_go_37 : decode cX5_go 37 = .ok (.iconst 4, 1) := by decide +kernel
theorem dX5_go_38 : decode cX5_go 38 = .ok (.if_icmp .ge 96, 3) := by decide +kernel
theorem dX5_go_41 : decode cX5_go 41 = .ok (.iload_n 2, 1) := by decide +kernel
theorem dX5_go_42 : decode cX5_go 42 = .ok (.iload 5, 2) := by decide +kernel
theorem dX5_go_44 : decode cX5_go 44 = .ok (.invokestatic 120, 3) := by decide +kernel
theorem dX5_go_47 : decode cX5_go 47 = .ok (.istore 6, 2) := by decide +kernel
theorem dX5_go_49 : decode cX5_go 49 = .ok (.iload 6, 2) := by decide +kernel
theorem dX5_go_51 : decode cX5_go 51 = .ok (.ifCond .ge 7, 3) := by decide +kernel
theorem dX5_go_54 : decode cX5_go 54 = .ok (.iconst (-1), 1) := by decide +kernel
theorem dX5_go_55 : decode cX5_go 55 = .ok (.goto 10, 3) := by decide +kernel
theorem dX5_go_58 : decode cX5_go 58 = .ok (.iload 6, 2) := by decide +kernel
theorem dX5_go_60 : decode cX5_go 60 = .ok (.iload 5, 2) := by decide +kernel
theorem dX5_go_62 : decode cX5_go 62 = .ok (.invokestatic 120, 3) := by decide +kernel
theorem dX5_go_65 : decode cX5_go 65 = .ok (.istore 7, 2) := by decide +kernel
theorem dX5_go_67 : decode cX5_go 67 = .ok (.iload 7, 2) := by decide +kernel
theorem dX5_go_69 : decode cX5_go 69 = .ok (.ifCond .lt 59, 3) := by decide +kernel
theorem dX5_go_72 : decode cX5_go 72 = .ok (.aload_n 0, 1) := by decide +kernel
theorem dX5_go_73 : decode cX5_go 73 = .ok (.getfield 9, 3) := by decide +kernel
theorem dX5_go_76 : decode cX5_go 76 = .ok (.iload 6, 2) := by decide +kernel
theorem dX5_go_78 : decode cX5_go 78 = .ok (.iaload, 1) := by decide +kernel
theorem dX5_go_79 : decode cX5_go 79 = .ok (.invokestatic 79, 3) := by decide +kernel
theorem dX5_go_82 : decode cX5_go 82 = .ok (.iconst 1, 1) := by decide +kernel
theorem dX5_go_83 : decode cX5_go 83 = .ok (.iload_n 3, 1) := by decide +kernel
theorem dX5_go_84 : decode cX5_go 84 = .ok (.isub, 1) := by decide +kernel
theorem dX5_go_85 : decode cX5_go 85 = .ok (.if_icmp .ne 43, 3) := by decide +kernel
theorem dX5_go_88 : decode cX5_go 88 = .ok (.aload_n 0, 1) := by decide +kernel
theorem dX5_go_89 : decode cX5_go 89 = .ok (.getfield 9, 3) := by decide +kernel
theorem dX5_go_92 : decode cX5_go 92 = .ok (.iload 7, 2) := by decide +kernel
theorem dX5_go_94 : decode cX5_go 94 = .ok (.iaload, 1) := by decide +kernel
theorem dX5_go_95 : decode cX5_go 95 = .ok (.invokestatic 79, 3) := by decide +kernel
theorem dX5_go_98 : decode cX5_go 98 = .ok (.iload_n 3, 1) := by decide +kernel
theorem dX5_go_99 : decode cX5_go 99 = .ok (.if_icmp .ne 29, 3) := by decide +kernel
theorem dX5_go_102 : decode cX5_go 102 = .ok (.aload_n 0, 1) := by decide +kernel
theorem dX5_go_103 : decode cX5_go 103 = .ok (.getfield 9, 3) := by decide +kernel
theorem dX5_go_106 : decode cX5_go 106 = .ok (.iload 6, 2) := by decide +kernel
theorem dX5_go_108 : decode cX5_go 108 = .ok (.dup2, 1) := by decide +kernel
theorem dX5_go_109 : decode cX5_go 109 = .ok (.iaload, 1) := by decide +kernel
theorem dX5_go_110 : decode cX5_go 110 = .ok (.bipush 20, 2) := by decide +kernel
theorem dX5_go_112 : decode cX5_go 112 = .ok (.iadd, 1) := by decide +kernel
theorem dX5_go_113 : decode cX5_go 113 = .ok (.iastore, 1) := by decide +kernel
theorem dX5_go_114 : decode cX5_go 114 = .ok (.aload_n 0, 1) := by decide +kernel
theorem dX5_go_115 : decode cX5_go 115 = .ok (.getfield 9, 3) := by decide +kernel
theorem dX5_go_118 : decode cX5_go 118 = .ok (.bipush 36, 2) := by decide +kernel
theorem dX5_go_120 : decode cX5_go 120 = .ok (.iload 6, 2) := by decide +kernel
theorem dX5_go_122 : decode cX5_go 122 = .ok (.iadd, 1) := by decide +kernel
theorem dX5_go_123 : decode cX5_go 123 = .ok (.iconst 0, 1) := by decide +kernel
theorem dX5_go_124 : decode cX5_go 124 = .ok (.iastore, 1) := by decide +kernel
theorem dX5_go_125 : decode cX5_go 125 = .ok (.iinc 4 1, 3) := by decide +kernel
theorem dX5_go_128 : decode cX5_go 128 = .ok (.iinc 5 1, 3) := by decide +kernel
theorem dX5_go_131 : decode cX5_go 131 = .ok (.goto (-96), 3) := by decide +kernel
theorem dX5_go_134 : decode cX5_go 134 = .ok (.iload 4, 2) := by decide +kernel
theorem dX5_go_136 : decode cX5_go 136 = .ok (.ireturn, 1) := by decide +kernel
set_option maxRecDepth 20000 in
theorem ggX5_isKeeperWall_X5_codeOf : GoodIn wsX5_isKeeperWall wsX5_codeOf := goodIn_r _ [5] (by decide +kernel) (by decide +kernel)
set_option maxRecDepth 20000 in
theorem gX5_isKeeperWall_X5_codeOf : GoodIn wsX5_isKeeperWall (va_wsS RX5 86 yX5_codeOf wsX5_codeOf) := goodIn_app (goodIn_of _ (by decide +kernel)) ggX5_isKeeperWall_X5_codeOf
theorem dX5_isKeeperWall_0 : decode cX5_isKeeperWall 0 = .ok (.aload_n 0, 1) := by decide +kernel
theorem dX5_isKeeperWall_1 : decode cX5_isKeeperWall 1 = .ok (.getfield 9, 3) := by decide +kernel
theorem dX5_isKeeperWall_4 : decode cX5_isKeeperWall 4 = .ok (.iload_n 1, 1) := by decide +kernel
theorem dX5_isKeeperWall_5 : decode cX5_isKeeperWall 5 = .ok (.iaload, 1) := by decide +kernel
theorem dX5_isKeeperWall_6 : decode cX5_isKeeperWall 6 = .ok (.bipush 20, 2) := by decide +kernel
theorem dX5_isKeeperWall_8 : decode cX5_isKeeperWall 8 = .ok (.iload_n 2, 1) := by decide +kernel
theorem dX5_isKeeperWall_9 : decode cX5_isKeeperWall 9 = .ok (.iconst 3, 1) := by decide +kernel
theorem dX5_isKeeperWall_10 : decode cX5_isKeeperWall 10 = .ok (.invokestatic 86, 3) := by decide +kernel
theorem dX5_isKeeperWall_13 : decode cX5_isKeeperWall 13 = .ok (.iadd, 1) := by decide +kernel
theorem dX5_isKeeperWall_14 : decode cX5_isKeeperWall 14 = .ok (.if_icmp .ne 7, 3) := by decide +kernel
theorem dX5_isKeeperWall_17 : decode cX5_isKeeperWall 17 = .ok (.iconst 1, 1) := by decide +kernel
theorem dX5_isKeeperWall_18 : decode cX5_isKeeperWall 18 = .ok (.goto 4, 3) := by decide +kernel
theorem dX5_isKeeperWall_21 : decode cX5_isKeeperWall 21 = .ok (.iconst 0, 1) := by decide +kernel
theorem dX5_isKeeperWall_22 : decode cX5_isKeeperWall 22 = .ok (.ireturn, 1) := by decide +kernel
set_option maxRecDepth 20000 in
theorem ggX5_countKeeperWalls_X5_isKeeperWall : GoodIn wsX5_countKeeperWalls wsX5_isKeeperWall := goodIn_ca (goodIn_r _ [5, 6, 7, 8, 4, 9, 10, 11, 12, 13, 14, 15, 16, 17, 18, 19, 20, 21, 22, 23, 24, 25, 26, 27, 28, 29, 30, 31, 32] (by decide +kernel) (by decide +kernel)) (goodIn_sub (fun _ h => List.mem_cons_of_mem _ (List.mem_append_right _ h)) (by decide +kernel))
set_option maxRecDepth 20000 in
theorem gX5_countKeeperWalls_X5_isKeeperWall : GoodIn wsX5_countKeeperWalls (wsV RX5 146 RX5 yX5_isKeeperWall wsX5_isKeeperWall) := goodIn_app (goodIn_of _ (by decide +kernel)) ggX5_countKeeperWalls_X5_isKeeperWall
theorem dX5_countKeeperWalls_0 : decode cX5_countKeeperWalls 0 = .ok (.iconst 0, 1) := by decide +kernel
theorem dX5_countKeeperWalls_1 : decode cX5_countKeeperWalls 1 = .ok (.istore_n 2, 1) := by decide +kernel
theorem dX5_countKeeperWalls_2 : decode cX5_countKeeperWalls 2 = .ok (.iconst 0, 1) := by decide +kernel
theorem dX5_countKeeperWalls_3 : decode cX5_countKeeperWalls 3 = .ok (.istore_n 3, 1) := by decide +kernel
theorem dX5_countKeeperWalls_4 : decode cX5_countKeeperWalls 4 = .ok (.iload_n 3, 1) := by decide +kernel
theorem dX5_countKeeperWalls_5 : decode cX5_countKeeperWalls 5 = .ok (.bipush 36, 2) := by decide +kernel
theorem dX5_countKeeperWalls_7 : decode cX5_countKeeperWalls 7 = .ok (.if_icmp .ge 26, 3) := by decide +kernel
theorem dX5_countKeeperWalls_10 : decode cX5_countKeeperWalls 10 = .ok (.iload_n 2, 1) := by decide +kernel
theorem dX5_countKeeperWalls_11 : decode cX5_countKeeperWalls 11 = .ok (.aload_n 0, 1) := by decide +kernel
theorem dX5_countKeeperWalls_12 : decode cX5_countKeeperWalls 12 = .ok (.iload_n 3, 1) := by decide +kernel
theorem dX5_countKeeperWalls_13 : decode cX5_countKeeperWalls 13 = .ok (.iload_n 1, 1) := by decide +kernel
theorem dX5_countKeeperWalls_14 : decode cX5_countKeeperWalls 14 = .ok (.invokevirtual 146, 3) := by decide +kernel
theorem dX5_countKeeperWalls_17 : decode cX5_countKeeperWalls 17 = .ok (.ifCond .eq 7, 3) := by decide +kernel
theorem dX5_countKeeperWalls_20 : decode cX5_countKeeperWalls 20 = .ok (.iconst 1, 1) := by decide +kernel
theorem dX5_countKeeperWalls_21 : decode cX5_countKeeperWalls 21 = .ok (.goto 4, 3) := by decide +kernel
theorem dX5_countKeeperWalls_24 : decode cX5_countKeeperWalls 24 = .ok (.iconst 0, 1) := by decide +kernel
theorem dX5_countKeeperWalls_25 : decode cX5_countKeeperWalls 25 = .ok (.iadd, 1) := by decide +kernel
theorem dX5_countKeeperWalls_26 : decode cX5_countKeeperWalls 26 = .ok (.istore_n 2, 1) := by decide +kernel
theorem dX5_countKeeperWalls_27 : decode cX5_countKeeperWalls 27 = .ok (.iinc 3 1, 3) := by decide +kernel
theorem dX5_countKeeperWalls_30 : decode cX5_countKeeperWalls 30 = .ok (.goto (-26), 3) := by decide +kernel
theorem dX5_countKeeperWalls_33 : decode cX5_countKeeperWalls 33 = .ok (.iload_n 2, 1) := by decide +kernel
theorem dX5_countKeeperWalls_34 : decode cX5_countKeeperWalls 34 = .ok (.ireturn, 1) := by decide +kernel
set_option maxRecDepth 20000 in
theorem ggX5_endTurn_X5_hasMove : GoodIn wsX5_endTurn wsX5_hasMove := goodIn_ca (goodIn_r _ [6, 1, 7, 8, 5, 9, 10, 11, 12, 13, 14, 15, 16, 17, 18, 19, 20, 21, 22, 23, 24, 25, 26, 27, 28, 29, 30, 31, 32, 33, 34, 35, 36, 37, 38, 39, 40, 41, 42, 43, 44, 45, 46, 47, 48, 49, 50, 51, 52, 53, 54, 55, 56, 57, 58, 59, 60, 61, 62, 63, 64, 65, 66, 67, 68, 69, 70, 71, 72, 73, 74, 75, 76] (by decide +kernel) (by decide +kernel)) (goodIn_sub (fun _ h => List.mem_cons_of_mem _ (List.mem_append_right _ h)) (by decide +kernel))
set_option maxRecDepth 20000 in
theorem gX5_endTurn_X5_hasMove : GoodIn wsX5_endTurn (wsV RX5 149 RX5 yX5_hasMove wsX5_hasMove) := goodIn_app (goodIn_of _ (by decide +kernel)) ggX5_endTurn_X5_hasMove
theorem dX5_endTurn_0 : decode cX5_endTurn 0 = .ok (.aload_n 0, 1) := by decide +kernel
theorem dX5_endTurn_1 : decode cX5_endTurn 1 = .ok (.getfield 9, 3) := by decide +kernel
theorem dX5_endTurn_4 : decode cX5_endTurn 4 = .ok (.bipush 74, 2) := by decide +kernel
theorem dX5_endTurn_6 : decode cX5_endTurn 6 = .ok (.dup2, 1) := by decide +kernel
theorem dX5_endTurn_7 : decode cX5_endTurn 7 = .ok (.iaload, 1) := by decide +kernel
theorem dX5_endTurn_8 : decode cX5_endTurn 8 = .ok (.iconst 1, 1) := by decide +kernel
theorem dX5_endTurn_9 : decode cX5_endTurn 9 = .ok (.iadd, 1) := by decide +kernel
theorem dX5_endTurn_10 : decode cX5_endTurn 10 = .ok (.iastore, 1) := by decide +kernel
theorem dX5_endTurn_11 : decode cX5_endTurn 11 = .ok (.iload_n 2, 1) := by decide +kernel
theorem dX5_endTurn_12 : decode cX5_endTurn 12 = .ok (.ifCond .ne 13, 3) := by decide +kernel
theorem dX5_endTurn_15 : decode cX5_endTurn 15 = .ok (.aload_n 0, 1) := by decide +kernel
theorem dX5_endTurn_16 : decode cX5_endTurn 16 = .ok (.iconst 1, 1) := by decide +kernel
theorem dX5_endTurn_17 : decode cX5_endTurn 17 = .ok (.iload_n 1, 1) := by decide +kernel
theorem dX5_endTurn_18 : decode cX5_endTurn 18 = .ok (.isub, 1) := by decide +kernel
theorem dX5_endTurn_19 : decode cX5_endTurn 19 = .ok (.invokevirtual 149, 3) := by decide +kernel
theorem dX5_endTurn_22 : decode cX5_endTurn 22 = .ok (.ifCond .ne 16, 3) := by decide +kernel
theorem dX5_endTurn_25 : decode cX5_endTurn 25 = .ok (.aload_n 0, 1) := by decide +kernel
theorem dX5_endTurn_26 : decode cX5_endTurn 26 = .ok (.getfield 9, 3) := by decide +kernel
theorem dX5_endTurn_29 : decode cX5_endTurn 29 = .ok (.bipush 75, 2) := by decide +kernel
theorem dX5_endTurn_31 : decode cX5_endTurn 31 = .ok (.iload_n 1, 1) := by decide +kernel
theorem dX5_endTurn_32 : decode cX5_endTurn 32 = .ok (.iconst 1, 1) := by decide +kernel
theorem dX5_endTurn_33 : decode cX5_endTurn 33 = .ok (.iadd, 1) := by decide +kernel
theorem dX5_endTurn_34 : decode cX5_endTurn 34 = .ok (.iastore, 1) := by decide +kernel
theorem dX5_endTurn_35 : decode cX5_endTurn 35 = .ok (.goto 23, 3) := by decide +kernel
theorem dX5_endTurn_38 : decode cX5_endTurn 38 = .ok (.aload_n 0, 1) := by decide +kernel
theorem dX5_endTurn_39 : decode cX5_endTurn 39 = .ok (.getfield 9, 3) := by decide +kernel
theorem dX5_endTurn_42 : decode cX5_endTurn 42 = .ok (.bipush 74, 2) := by decide +kernel
theorem dX5_endTurn_44 : decode cX5_endTurn 44 = .ok (.iaload, 1) := by decide +kernel
theorem dX5_endTurn_45 : decode cX5_endTurn 45 = .ok (.bipush 60, 2) := by decide +kernel
theorem dX5_endTurn_47 : decode cX5_endTurn 47 = .ok (.if_icmp .ne 11, 3) := by decide +kernel
theorem dX5_endTurn_50 : decode cX5_endTurn 50 = .ok (.aload_n 0, 1) := by decide +kernel
theorem dX5_endTurn_51 : decode cX5_endTurn 51 = .ok (.getfield 9, 3) := by decide +kernel
theorem dX5_endTurn_54 : decode cX5_endTurn 54 = .ok (.bipush 75, 2) := by decide +kernel
theorem dX5_endTurn_56 : decode cX5_endTurn 56 = .ok (.iconst 3, 1) := by decide +kernel
theorem dX5_endTurn_57 : decode cX5_endTurn 57 = .ok (.iastore, 1) := by decide +kernel
theorem dX5_endTurn_58 : decode cX5_endTurn 58 = .ok (.return_, 1) := by decide +kernel
theorem dX5_isOver_0 : decode cX5_isOver 0 = .ok (.aload_n 0, 1) := by decide +kernel
theorem dX5_isOver_1 : decode cX5_isOver 1 = .ok (.getfield 9, 3) := by decide +kernel
theorem dX5_isOver_4 : decode cX5_isOver 4 = .ok (.bipush 75, 2) := by decide +kernel
theorem dX5_isOver_6 : decode cX5_isOver 6 = .ok (.iaload, 1) := by decide +kernel
theorem dX5_isOver_7 : decode cX5_isOver 7 = .ok (.ifCond .le 7, 3) := by decide +kernel
theorem dX5_isOver_10 : decode cX5_isOver 10 = .ok (.iconst 1, 1) := by decide +kernel
theorem dX5_isOver_11 : decode cX5_isOver 11 = .ok (.goto 4, 3) := by decide +kernel
theorem dX5_isOver_14 : decode cX5_isOver 14 = .ok (.iconst 0, 1) := by decide +kernel
theorem dX5_isOver_15 : decode cX5_isOver 15 = .ok (.ireturn, 1) := by decide +kernel
set_option maxRecDepth 20000 in
theorem ggX5_isMoveRefused_X5_isOver : GoodIn wsX5_isMoveRefused wsX5_isOver := goodIn_ca (goodIn_r _ [6, 1, 64, 65, 66, 67, 68, 69, 70, 71, 72, 73, 74, 75, 76, 77, 78, 79, 80, 81, 82, 83, 84, 85, 86] (by decide +kernel) (by decide +kernel)) (goodIn_sub (fun _ h => List.mem_cons_of_mem _ (List.mem_append_right _ h)) (by decide +kernel))
set_option maxRecDepth 20000 in
theorem gX5_isMoveRefused_X5_isOver : GoodIn wsX5_isMoveRefused (wsV RX5 152 RX5 yX5_isOver wsX5_isOver) := goodIn_app (goodIn_of _ (by decide +kernel)) ggX5_isMoveRefused_X5_isOver
set_option maxRecDepth 20000 in
theorem ggX5_isMoveRefused_X5_refuse : GoodIn wsX5_isMoveRefused wsX5_refuse := goodIn_r _ [10, 11, 12, 64, 65, 66, 67, 68, 69, 70, 71, 72, 73, 74, 75, 76, 77, 78, 79, 80, 81, 82, 83, 84, 85, 86] (by decide +kernel) (by decide +kernel)
set_option maxRecDepth 20000 in
theorem gX5_isMoveRefused_X5_refuse : GoodIn wsX5_isMoveRefused (wsV RX5 156 RX5 yX5_refuse wsX5_refuse) := goodIn_app (goodIn_of _ (by decide +kernel)) ggX5_isMoveRefused_X5_refuse
set_option maxRecDepth 20000 in
theorem ggX5_isMoveRefused_X5_sideOf : GoodIn wsX5_isMoveRefused wsX5_sideOf := goodIn_r _ [15, 16, 17, 5, 18] (by decide +kernel) (by decide +kernel)
set_option maxRecDepth 20000 in
theorem gX5_isMoveRefused_X5_sideOf : GoodIn wsX5_isMoveRefused (va_wsS RX5 79 yX5_sideOf wsX5_sideOf) := goodIn_app (goodIn_of _ (by decide +kernel)) ggX5_isMoveRefused_X5_sideOf
set_option maxRecDepth 20000 in
theorem ggX5_isMoveRefused_X5_turn : GoodIn wsX5_isMoveRefused wsX5_turn := goodIn_ca (goodIn_r _ [22, 1, 64, 65, 66, 67, 68, 69, 70, 71, 72, 73, 74, 75, 76, 77, 78, 79, 80, 81, 82, 83, 84, 85, 86] (by decide +kernel) (by decide +kernel)) (goodIn_sub (fun _ h => List.mem_cons_of_mem _ (List.mem_append_right _ h)) (by decide +kernel))
set_option maxRecDepth 20000 in
theorem gX5_isMoveRefused_X5_turn : GoodIn wsX5_isMoveRefused (wsV RX5 160 RX5 yX5_turn wsX5_turn) := goodIn_app (goodIn_of _ (by decide +kernel)) ggX5_isMoveRefused_X5_turn
set_option maxRecDepth 20000 in
theorem ggX5_isMoveRefused_X5_can : GoodIn wsX5_isMoveRefused wsX5_can := goodIn_ca (goodIn_r _ [26, 27, 28, 29, 30, 5, 31, 1, 13, 14, 15, 16, 17, 18, 32, 33, 34, 35, 36, 37, 38, 39, 40, 41, 42, 43, 44, 45, 46, 47, 48, 49, 50, 51, 52, 53, 54, 55, 56, 57, 58, 59, 60, 61, 62, 63, 64, 65, 66, 67, 68, 69, 70, 71, 72, 73, 74, 75, 76, 77, 78, 79, 80, 81, 82, 83, 84, 85, 86] (by decide +kernel) (by decide +kernel)) (goodIn_sub (fun _ h => List.mem_cons_of_mem _ (List.mem_append_right _ h)) (by decide +kernel))
set_option maxRecDepth 20000 in
theorem gX5_isMoveRefused_X5_can : GoodIn wsX5_isMoveRefused (wsV RX5 163 RX5 yX5_can wsX5_can) := goodIn_app (goodIn_of _ (by decide +kernel)) ggX5_isMoveRefused_X5_can
theorem dX5_isMoveRefused_0 : decode cX5_isMoveRefused 0 = .ok (.aload_n 0, 1) := by decide +kernel
theorem dX5_isMoveRefused_1 : decode cX5_isMoveRefused 1 = .ok (.aload_n 0, 1) := by decide +kernel
theorem dX5_isMoveRefused_2 : decode cX5_isMoveRefused 2 = .ok (.invokevirtual 152, 3) := by decide +kernel
theorem dX5_isMoveRefused_5 : decode cX5_isMoveRefused 5 = .ok (.iconst 1, 1) := by decide +kernel
theorem dX5_isMoveRefused_6 : decode cX5_isMoveRefused 6 = .ok (.aload_n 0, 1) := by decide +kernel
theorem dX5_isMoveRefused_7 : decode cX5_isMoveRefused 7 = .ok (.getfield 9, 3) := by decide +kernel
theorem dX5_isMoveRefused_10 : decode cX5_isMoveRefused 10 = .ok (.bipush 74, 2) := by decide +kernel
theorem dX5_isMoveRefused_12 : decode cX5_isMoveRefused 12 = .ok (.iaload, 1) := by decide +kernel
theorem dX5_isMoveRefused_13 : decode cX5_isMoveRefused 13 = .ok (.invokevirtual 156, 3) := by decide +kernel
theorem dX5_isMoveRefused_16 : decode cX5_isMoveRefused 16 = .ok (.ifCond .ne 56, 3) := by decide +kernel
theorem dX5_isMoveRefused_19 : decode cX5_isMoveRefused 19 = .ok (.aload_n 0, 1) := by decide +kernel
theorem dX5_isMoveRefused_20 : decode cX5_isMoveRefused 20 = .ok (.aload_n 0, 1) := by decide +kernel
theorem dX5_isMoveRefused_21 : decode cX5_isMoveRefused 21 = .ok (.getfield 9, 3) := by decide +kernel
theorem dX5_isMoveRefused_24 : decode cX5_isMoveRefused 24 = .ok (.iload_n 1, 1) := by decide +kernel
theorem dX5_isMoveRefused_25 : decode cX5_isMoveRefused 25 = .ok (.iaload, 1) := by decide +kernel
theorem dX5_isMoveRefused_26 : decode cX5_isMoveRefused 26 = .ok (.invokestatic 79, 3) := by decide +kernel
theorem dX5_isMoveRefused_29 : decode cX5_isMoveRefused 29 = .ok (.aload_n 0, 1) := by decide +kernel
theorem dX5_isMoveRefused_30 : decode cX5_isMoveRefused 30 = .ok (.invokevirtual 160, 3) := by decide +kernel
theorem dX5_isMoveRefused_33 : decode cX5_isMoveRefused 33 = .ok (.if_icmp .eq 7, 3) := by decide +kernel
theorem dX5_isMoveRefused_36 : decode cX5_isMoveRefused 36 = .ok (.iconst 1, 1) := by decide +kernel
theorem dX5_isMoveRefused_37 : decode cX5_isMoveRefused 37 = .ok (.goto 4, 3) := by decide +kernel
theorem dX5_isMoveRefused_40 : decode cX5_isMoveRefused 40 = .ok (.iconst 0, 1) := by decide +kernel
theorem dX5_isMoveRefused_41 : decode cX5_isMoveRefused 41 = .ok (.iconst 2, 1) := by decide +kernel
theorem dX5_isMoveRefused_42 : decode cX5_isMoveRefused 42 = .ok (.iload_n 1, 1) := by decide +kernel
theorem dX5_isMoveRefused_43 : decode cX5_isMoveRefused 43 = .ok (.invokevirtual 156, 3) := by decide +kernel
theorem dX5_isMoveRefused_46 : decode cX5_isMoveRefused 46 = .ok (.ifCond .ne 26, 3) := by decide +kernel
theorem dX5_isMoveRefused_49 : decode cX5_isMoveRefused 49 = .ok (.aload_n 0, 1) := by decide +kernel
theorem dX5_isMoveRefused_50 : decode cX5_isMoveRefused 50 = .ok (.aload_n 0, 1) := by decide +kernel
theorem dX5_isMoveRefused_51 : decode cX5_isMoveRefused 51 = .ok (.iload_n 1, 1) := by decide +kernel
theorem dX5_isMoveRefused_52 : decode cX5_isMoveRefused 52 = .ok (.iload_n 2, 1) := by decide +kernel
theorem dX5_isMoveRefused_53 : decode cX5_isMoveRefused 53 = .ok (.invokevirtual 163, 3) := by decide +kernel
theorem dX5_isMoveRefused_56 : decode cX5_isMoveRefused 56 = .ok (.ifCond .ne 7, 3) := by decide +kernel
theorem dX5_isMoveRefused_59 : decode cX5_isMoveRefused 59 = .ok (.iconst 1, 1) := by decide +kernel
theorem dX5_isMoveRefused_60 : decode cX5_isMoveRefused 60 = .ok (.goto 4, 3) := by decide +kernel
theorem dX5_isMoveRefused_63 : decode cX5_isMoveRefused 63 = .ok (.iconst 0, 1) := by decide +kernel
theorem dX5_isMoveRefused_64 : decode cX5_isMoveRefused 64 = .ok (.iconst 3, 1) := by decide +kernel
theorem dX5_isMoveRefused_65 : decode cX5_isMoveRefused 65 = .ok (.iload_n 2, 1) := by decide +kernel
theorem dX5_isMoveRefused_66 : decode cX5_isMoveRefused 66 = .ok (.invokevirtual 156, 3) := by decide +kernel
theorem dX5_isMoveRefused_69 : decode cX5_isMoveRefused 69 = .ok (.ifCond .eq 7, 3) := by decide +kernel
theorem dX5_isMoveRefused_72 : decode cX5_isMoveRefused 72 = .ok (.iconst 1, 1) := by decide +kernel
theorem dX5_isMoveRefused_73 : decode cX5_isMoveRefused 73 = .ok (.goto 4, 3) := by decide +kernel
theorem dX5_isMoveRefused_76 : decode cX5_isMoveRefused 76 = .ok (.iconst 0, 1) := by decide +kernel
theorem dX5_isMoveRefused_77 : decode cX5_isMoveRefused 77 = .ok (.ireturn, 1) := by decide +kernel
set_option maxRecDepth 20000 in
theorem ggX5_doMove_X5_turn : GoodIn wsX5_doMove wsX5_turn := goodIn_ca (goodIn_r _ [6, 1, 77, 78, 79, 80, 81, 82, 83, 84, 85, 86, 87, 88, 89, 90, 91, 92, 93, 94, 95, 96, 97, 98, 99] (by decide +kernel) (by decide +kernel)) (goodIn_sub (fun _ h => List.mem_cons_of_mem _ (List.mem_append_right _ h)) (by decide +kernel))
set_option maxRecDepth 20000 in
theorem gX5_doMove_X5_turn : GoodIn wsX5_doMove (wsV RX5 160 RX5 yX5_turn wsX5_turn) := goodIn_app (goodIn_of _ (by decide +kernel)) ggX5_doMove_X5_turn
set_option maxRecDepth 20000 in
theorem ggX5_doMove_X5_countKeeperWalls : GoodIn wsX5_doMove wsX5_countKeeperWalls := goodIn_ca (goodIn_r _ [10, 11, 12, 13, 5, 14, 1, 15, 16, 17, 77, 78, 79, 80, 81, 82, 83, 84, 85, 86, 87, 88, 89, 90, 91, 92, 93, 94, 95, 96, 97, 98, 99] (by decide +kernel) (by decide +kernel)) (goodIn_sub (fun _ h => List.mem_cons_of_mem _ (List.mem_append_right _ h)) (by decide +kernel))
set_option maxRecDepth 20000 in
theorem gX5_doMove_X5_countKeeperWalls : GoodIn wsX5_doMove (wsV RX5 166 RX5 yX5_countKeeperWalls wsX5_countKeeperWalls) := goodIn_app (goodIn_of _ (by decide +kernel)) ggX5_doMove_X5_countKeeperWalls
set_option maxRecDepth 20000 in
theorem ggX5_doMove_X5_go : GoodIn wsX5_doMove wsX5_go := goodIn_ca (goodIn_r _ [21, 1, 22, 23, 5, 24, 25, 26, 27, 28, 29, 30, 77, 78, 79, 80, 81, 82, 83, 84, 85, 86, 87, 88, 89, 90, 91, 92, 93, 94, 95, 96, 97, 98, 99] (by decide +kernel) (by decide +kernel)) (goodIn_sub (fun _ h => List.mem_cons_of_mem _ (List.mem_append_right _ h)) (by decide +kernel))
set_option maxRecDepth 20000 in
theorem gX5_doMove_X5_go : GoodIn wsX5_doMove (wsV RX5 169 RX5 yX5_go wsX5_go) := goodIn_app (goodIn_of _ (by decide +kernel)) ggX5_doMove_X5_go
set_option maxRecDepth 20000 in
theorem ggX5_doMove_X5_endTurn : GoodIn wsX5_doMove wsX5_endTurn := goodIn_ca (goodIn_r _ [34, 1, 35, 36, 37, 5, 38, 22, 23, 24, 25, 26, 27, 39, 40, 41, 42, 43, 44, 45, 46, 47, 48, 49, 50, 51, 52, 53, 54, 28, 29, 30, 55, 56, 57, 58, 59, 60, 61, 62, 63, 64, 65, 66, 67, 68, 69, 70, 71, 72, 73, 74, 75, 76, 77, 78, 79, 80, 81, 82, 83, 84, 85, 86, 87, 88, 89, 90, 91, 92, 93, 94, 95, 96, 97, 98, 99] (by decide +kernel) (by decide +kernel)) (goodIn_sub (fun _ h => List.mem_cons_of_mem _ (List.mem_append_right _ h)) (by decide +kernel))
set_option maxRecDepth 20000 in
theorem gX5_doMove_X5_endTurn : GoodIn wsX5_doMove (wsV RX5 172 RX5 yX5_endTurn wsX5_endTurn) := goodIn_app (goodIn_of _ (by decide +kernel)) ggX5_doMove_X5_endTurn
theorem dX5_doMove_0 : decode cX5_doMove 0 = .ok (.aload_n 0, 1) := by decide +kernel
theorem dX5_doMove_1 : decode cX5_doMove 1 = .ok (.invokevirtual 160, 3) := by decide +kernel
theorem dX5_doMove_4 : decode cX5_doMove 4 = .ok (.istore_n 3, 1) := by decide +kernel
theorem dX5_doMove_5 : decode cX5_doMove 5 = .ok (.aload_n 0, 1) := by decide +kernel
theorem dX5_doMove_6 : decode cX5_doMove 6 = .ok (.iconst 1, 1) := by decide +kernel
theorem dX5_doMove_7 : decode cX5_doMove 7 = .ok (.iload_n 3, 1) := by decide +kernel
theorem dX5_doMove_8 : decode cX5_doMove 8 = .ok (.isub, 1) := by decide +kernel
theorem dX5_doMove_9 : decode cX5_doMove 9 = .ok (.invokevirtual 166, 3) := by decide +kernel
theorem dX5_doMove_12 : decode cX5_doMove 12 = .ok (.istore 4, 2) := by decide +kernel
theorem dX5_doMove_14 : decode cX5_doMove 14 = .ok (.aload_n 0, 1) := by decide +kernel
theorem dX5_doMove_15 : decode cX5_doMove 15 = .ok (.iload_n 1, 1) := by decide +kernel
theorem dX5_doMove_16 : decode cX5_doMove 16 = .ok (.iload_n 2, 1) := by decide +kernel
theorem dX5_doMove_17 : decode cX5_doMove 17 = .ok (.invokevirtual 169, 3) := by decide +kernel
theorem dX5_doMove_20 : decode cX5_doMove 20 = .ok (.istore 5, 2) := by decide +kernel
theorem dX5_doMove_22 : decode cX5_doMove 22 = .ok (.aload_n 0, 1) := by decide +kernel
theorem dX5_doMove_23 : decode cX5_doMove 23 = .ok (.getfield 9, 3) := by decide +kernel
theorem dX5_doMove_26 : decode cX5_doMove 26 = .ok (.bipush 72, 2) := by decide +kernel
theorem dX5_doMove_28 : decode cX5_doMove 28 = .ok (.iload_n 3, 1) := by decide +kernel
theorem dX5_doMove_29 : decode cX5_doMove 29 = .ok (.iadd, 1) := by decide +kernel
theorem dX5_doMove_30 : decode cX5_doMove 30 = .ok (.dup2, 1) := by decide +kernel
theorem dX5_doMove_31 : decode cX5_doMove 31 = .ok (.iaload, 1) := by decide +kernel
theorem dX5_doMove_32 : decode cX5_doMove 32 = .ok (.iconst 2, 1) := by decide +kernel
theorem dX5_doMove_33 : decode cX5_doMove 33 = .ok (.iload 5, 2) := by decide +kernel
theorem dX5_doMove_35 : decode cX5_doMove 35 = .ok (.imul, 1) := by decide +kernel
theorem dX5_doMove_36 : decode cX5_doMove 36 = .ok (.iadd, 1) := by decide +kernel
theorem dX5_doMove_37 : decode cX5_doMove 37 = .ok (.iastore, 1) := by decide +kernel
theorem dX5_doMove_38 : decode cX5_doMove 38 = .ok (.aload_n 0, 1) := by decide +kernel
theorem dX5_doMove_39 : decode cX5_doMove 39 = .ok (.iload_n 3, 1) := by decide +kernel
theorem dX5_doMove_40 : decode cX5_doMove 40 = .ok (.aload_n 0, 1) := by decide +kernel
theorem dX5_doMove_41 : decode cX5_doMove 41 = .ok (.iconst 1, 1) := by decide +kernel
theorem dX5_doMove_42 : decode cX5_doMove 42 = .ok (.iload_n 3, 1) := by decide +kernel
theorem dX5_doMove_43 : decode cX5_doMove 43 = .ok (.isub, 1) := by decide +kernel
theorem dX5_doMove_44 : decode cX5_doMove 44 = .ok (.invokevirtual 166, 3) := by decide +kernel
theorem dX5_doMove_47 : decode cX5_doMove 47 = .ok (.iload 4, 2) := by decide +kernel
theorem dX5_doMove_49 : decode cX5_doMove 49 = .ok (.if_icmp .le 7, 3) := by decide +kernel
theorem dX5_doMove_52 : decode cX5_doMove 52 = .ok (.iconst 1, 1) := by decide +kernel
theorem dX5_doMove_53 : decode cX5_doMove 53 = .ok (.goto 4, 3) := by decide +kernel
theorem dX5_doMove_56 : decode cX5_doMove 56 = .ok (.iconst 0, 1) := by decide +kernel
theorem dX5_doMove_57 : decode cX5_doMove 57 = .ok (.invokevirtual 172, 3) := by decide +kernel
theorem dX5_doMove_60 : decode cX5_doMove 60 = .ok (.iload 5, 2) := by decide +kernel
theorem dX5_doMove_62 : decode cX5_doMove 62 = .ok (.ireturn, 1) := by decide +kernel
set_option maxRecDepth 20000 in
theorem ggX5_change_X5_remember : GoodIn wsX5_change wsX5_remember := goodIn_ca (goodIn_r _ [7, 8, 9, 10, 11, 6, 12, 13, 14, 15, 16, 17, 18, 19, 20, 21, 22, 23, 24, 25, 26, 27, 28, 29, 30, 31, 32, 33, 34, 35] (by decide +kernel) (by decide +kernel)) (goodIn_sub (fun _ h => List.mem_cons_of_mem _ (List.mem_append_right _ h)) (by decide +kernel))
set_option maxRecDepth 20000 in
theorem gX5_change_X5_remember : GoodIn wsX5_change (wsV RX5 90 RX5 yX5_remember wsX5_remember) := goodIn_app (goodIn_of _ (by decide +kernel)) ggX5_change_X5_remember
theorem dX5_change_0 : decode cX5_change 0 = .ok (.aload_n 0, 1) := by decide +kernel
theorem dX5_change_1 : decode cX5_change 1 = .ok (.getfield 176, 3) := by decide +kernel
theorem dX5_change_4 : decode cX5_change 4 = .ok (.ifCond .ne 11, 3) := by decide +kernel
theorem dX5_change_7 : decode cX5_change 7 = .ok (.aload_n 0, 1) := by decide +kernel
theorem dX5_change_8 : decode cX5_change 8 = .ok (.aload_n 0, 1) := by decide +kernel
theorem dX5_change_9 : decode cX5_change 9 = .ok (.getfield 9, 3) := by decide +kernel
theorem dX5_change_12 : decode cX5_change 12 = .ok (.invokevirtual 90, 3) := by decide +kernel
theorem dX5_change_15 : decode cX5_change 15 = .ok (.return_, 1) := by decide +kernel
set_option maxRecDepth 20000 in
theorem ggX5_move_X5_isSquare : GoodIn wsX5_move wsX5_isSquare := goodIn_r _ [4, 5, 6, 3, 7] (by decide +kernel) (by decide +kernel)
set_option maxRecDepth 20000 in
theorem gX5_move_X5_isSquare : GoodIn wsX5_move (va_wsS RX5 104 yX5_isSquare wsX5_isSquare) := goodIn_app (goodIn_of _ (by decide +kernel)) ggX5_move_X5_isSquare
set_option maxRecDepth 20000 in
theorem ggX5_move_X5_fails : GoodIn wsX5_move wsX5_fails := goodIn_r _ [11, 12, 121, 122, 123, 124, 125, 126, 127, 128, 129, 130, 131, 132, 133, 134, 135, 136, 137, 138, 139, 140, 141, 142, 143] (by decide +kernel) (by decide +kernel)
set_option maxRecDepth 20000 in
theorem gX5_move_X5_fails : GoodIn wsX5_move (wsV RX5 107 RX5 yX5_fails wsX5_fails) := goodIn_app (goodIn_of _ (by decide +kernel)) ggX5_move_X5_fails
set_option maxRecDepth 20000 in
theorem ggX5_move_X5_isMoveRefused : GoodIn wsX5_move wsX5_isMoveRefused := goodIn_ca (goodIn_r _ [16, 17, 18, 19, 20, 3, 21, 22, 23, 24, 25, 26, 27, 28, 29, 30, 5, 6, 7, 31, 32, 33, 34, 35, 36, 37, 38, 39, 40, 41, 42, 43, 44, 45, 46, 47, 48, 49, 50, 51, 52, 53, 54, 55, 56, 57, 58, 59, 60, 61, 62, 63, 64, 65, 66, 67, 68, 69, 70, 71, 72, 73, 74, 75, 121, 122, 123, 124, 125, 126, 127, 128, 129, 130, 131, 132, 133, 134, 135, 136, 137, 138, 139, 140, 141, 142, 143] (by decide +kernel) (by decide +kernel)) (goodIn_sub (fun _ h => List.mem_cons_of_mem _ (List.mem_append_right _ h)) (by decide +kernel))
set_option maxRecDepth 20000 in
theorem gX5_move_X5_isMoveRefused : GoodIn wsX5_move (wsV RX5 180 RX5 yX5_isMoveRefused wsX5_isMoveRefused) := goodIn_app (goodIn_of _ (by decide +kernel)) ggX5_move_X5_isMoveRefused
set_option maxRecDepth 20000 in
theorem ggX5_move_X5_change : GoodIn wsX5_move wsX5_change := goodIn_ca (goodIn_r _ [79, 80, 17, 81, 82, 83, 3, 84, 85, 86, 87, 88, 89, 121, 122, 123, 124, 125, 126, 127, 128, 129, 130, 131, 132, 133, 134, 135, 136, 137, 138, 139, 140, 141, 142, 143] (by decide +kernel) (by decide +kernel)) (goodIn_sub (fun _ h => List.mem_cons_of_mem _ (List.mem_append_right _ h)) (by decide +kernel))
set_option maxRecDepth 20000 in
theorem gX5_move_X5_change : GoodIn wsX5_move (wsV RX5 183 RX5 yX5_change wsX5_change) := goodIn_app (goodIn_of _ (by decide +kernel)) ggX5_move_X5_change
set_option maxRecDepth 20000 in
theorem ggX5_move_X5_doMove : GoodIn wsX5_move wsX5_doMove := goodIn_ca (goodIn_r _ [93, 17, 31, 32, 33, 3, 34, 94, 95, 96, 97, 98, 99, 100, 101, 102, 103, 104, 105, 106, 107, 108, 28, 29, 30, 5, 6, 7, 51, 52, 53, 109, 110, 111, 112, 113, 114, 115, 116, 117, 118, 119, 120, 39, 40, 41, 42, 43, 44, 45, 46, 47, 48, 49, 50, 54, 55, 56, 57, 58, 59, 60, 61, 62, 63, 64, 65, 66, 67, 68, 69, 70, 71, 72, 73, 74, 75, 121, 122, 123, 124, 125, 126, 127, 128, 129, 130, 131, 132, 133, 134, 135, 136, 137, 138, 139, 140, 141, 142, 143] (by decide +kernel) (by decide +kernel)) (goodIn_sub (fun _ h => List.mem_cons_of_mem _ (List.mem_append_right _ h)) (by decide +kernel))
set_option maxRecDepth 20000 in
theorem gX5_move_X5_doMove : GoodIn wsX5_move (wsV RX5 186 RX5 yX5_doMove wsX5_doMove) := goodIn_app (goodIn_of _ (by decide +kernel)) ggX5_move_X5_doMove
theorem dX5_move_0 : decode cX5_move 0 = .ok (.aload_n 0, 1) := by decide +kernel
theorem dX5_move_1 : decode cX5_move 1 = .ok (.iconst 1, 1) := by decide +kernel
theorem dX5_move_2 : decode cX5_move 2 = .ok (.iload_n 1, 1) := by decide +kernel
theorem dX5_move_3 : decode cX5_move 3 = .ok (.invokestatic 104, 3) := by decide +kernel
theorem dX5_move_6 : decode cX5_move 6 = .ok (.ifCond .eq 10, 3) := by decide +kernel
theorem dX5_move_9 : decode cX5_move 9 = .ok (.iload_n 2, 1) := by decide +kernel
theorem dX5_move_10 : decode cX5_move 10 = .ok (.invokestatic 104, 3) := by decide +kernel
theorem dX5_move_13 : decode cX5_move 13 = .ok (.ifCond .ne 7, 3) := by decide +kernel
theorem dX5_move_16 : decode cX5_move 16 = .ok (.iconst 1, 1) := by decide +kernel
theorem dX5_move_17 : decode cX5_move 17 = .ok (.goto 4, 3) := by decide +kernel
theorem dX5_move_20 : decode cX5_move 20 = .ok (.iconst 0, 1) := by decide +kernel
theorem dX5_move_21 : decode cX5_move 21 = .ok (.invokevirtual 107, 3) := by decide +kernel
theorem dX5_move_24 : decode cX5_move 24 = .ok (.ifCond .ne 17, 3) := by decide +kernel
theorem dX5_move_27 : decode cX5_move 27 = .ok (.aload_n 0, 1) := by decide +kernel
theorem dX5_move_28 : decode cX5_move 28 = .ok (.iconst 2, 1) := by decide +kernel
theorem dX5_move_29 : decode cX5_move 29 = .ok (.aload_n 0, 1) := by decide +kernel
theorem dX5_move_30 : decode cX5_move 30 = .ok (.iload_n 1, 1) := by decide +kernel
theorem dX5_move_31 : decode cX5_move 31 = .ok (.iload_n 2, 1) := by decide +kernel
theorem dX5_move_32 : decode cX5_move 32 = .ok (.invokevirtual 180, 3) := by decide +kernel
theorem dX5_move_35 : decode cX5_move 35 = .ok (.invokevirtual 107, 3) := by decide +kernel
theorem dX5_move_38 : decode cX5_move 38 = .ok (.ifCond .eq 5, 3) := by decide +kernel
theorem dX5_move_41 : decode cX5_move 41 = .ok (.iconst 0, 1) := by decide +kernel
theorem dX5_move_42 : decode cX5_move 42 = .ok (.ireturn, 1) := by decide +kernel
theorem dX5_move_43 : decode cX5_move 43 = .ok (.aload_n 0, 1) := by decide +kernel
theorem dX5_move_44 : decode cX5_move 44 = .ok (.invokevirtual 183, 3) := by decide +kernel
theorem dX5_move_47 : decode cX5_move 47 = .ok (.aload_n 0, 1) := by decide +kernel
theorem dX5_move_48 : decode cX5_move 48 = .ok (.iload_n 1, 1) := by decide +kernel
theorem dX5_move_49 : decode cX5_move 49 = .ok (.iload_n 2, 1) := by decide +kernel
theorem dX5_move_50 : decode cX5_move 50 = .ok (.invokevirtual 186, 3) := by decide +kernel
theorem dX5_move_53 : decode cX5_move 53 = .ok (.ireturn, 1) := by decide +kernel
set_option maxRecDepth 20000 in
theorem ggX5_isBeside_X5_next : GoodIn wsX5_isBeside wsX5_next := goodIn_r _ [5, 6, 7, 4, 8] (by decide +kernel) (by decide +kernel)
set_option maxRecDepth 20000 in
theorem gX5_isBeside_X5_next : GoodIn wsX5_isBeside (va_wsS RX5 120 yX5_next wsX5_next) := goodIn_app (goodIn_of _ (by decide +kernel)) ggX5_isBeside_X5_next
set_option maxRecDepth 20000 in
theorem ggX5_isBeside_X5_sideOf : GoodIn wsX5_isBeside wsX5_sideOf := goodIn_r _ [11, 6, 7, 4, 8] (by decide +kernel) (by decide +kernel)
set_option maxRecDepth 20000 in
theorem gX5_isBeside_X5_sideOf : GoodIn wsX5_isBeside (va_wsS RX5 79 yX5_sideOf wsX5_sideOf) := goodIn_app (goodIn_of _ (by decide +kernel)) ggX5_isBeside_X5_sideOf
theorem dX5_isBeside_0 : decode cX5_isBeside 0 = .ok (.iconst 0, 1) := by decide +kernel
theorem dX5_isBeside_1 : decode cX5_isBeside 1 = .ok (.istore_n 3, 1) := by decide +kernel
theorem dX5_isBeside_2 : decode cX5_isBeside 2 = .ok (.iconst 0, 1) := by decide +kernel
theorem dX5_isBeside_3 : decode cX5_isBeside 3 = .ok (.istore 4, 2) := by decide +kernel
theorem dX5_isBeside_5 : decode cX5_isBeside 5 = .ok (.iload 4, 2) := by decide +kernel
theorem dX5_isBeside_7 : decode cX5_isBeside 7 = .ok (.iconst 4, 1) := by decide +kernel
theorem dX5_isBeside_8 : decode cX5_isBeside 8 = .ok (.if_icmp .ge 44, 3) := by decide +kernel
theorem dX5_isBeside_11 : decode cX5_isBeside 11 = .ok (.iload_n 1, 1) := by decide +kernel
theorem dX5_isBeside_12 : decode cX5_isBeside 12 = .ok (.iload 4, 2) := by decide +kernel
theorem dX5_isBeside_14 : decode cX5_isBeside 14 = .ok (.invokestatic 120, 3) := by decide +kernel
theorem dX5_isBeside_17 : decode cX5_isBeside 17 = .ok (.istore 5, 2) := by decide +kernel
theorem dX5_isBeside_19 : decode cX5_isBeside 19 = .ok (.iload_n 3, 1) := by decide +kernel
theorem dX5_isBeside_20 : decode cX5_isBeside 20 = .ok (.iload 5, 2) := by decide +kernel
theorem dX5_isBeside_22 : decode cX5_isBeside 22 = .ok (.ifCond .lt 21, 3) := by decide +kernel
theorem dX5_isBeside_25 : decode cX5_isBeside 25 = .ok (.aload_n 0, 1) := by decide +kernel
theorem dX5_isBeside_26 : decode cX5_isBeside 26 = .ok (.getfield 9, 3) := by decide +kernel
theorem dX5_isBeside_29 : decode cX5_isBeside 29 = .ok (.iload 5, 2) := by decide +kernel
theorem dX5_isBeside_31 : decode cX5_isBeside 31 = .ok (.iaload, 1) := by decide +kernel
theorem dX5_isBeside_32 : decode cX5_isBeside 32 = .ok (.invokestatic 79, 3) := by decide +kernel
theorem dX5_isBeside_35 : decode cX5_isBeside 35 = .ok (.iload_n 2, 1) := by decide +kernel
theorem dX5_isBeside_36 : decode cX5_isBeside 36 = .ok (.if_icmp .ne 7, 3) := by decide +kernel
theorem dX5_isBeside_39 : decode cX5_isBeside 39 = .ok (.iconst 1, 1) := by decide +kernel
theorem dX5_isBeside_40 : decode cX5_isBeside 40 = .ok (.goto 4, 3) := by decide +kernel
theorem dX5_isBeside_43 : decode cX5_isBeside 43 = .ok (.iconst 0, 1) := by decide +kernel
theorem dX5_isBeside_44 : decode cX5_isBeside 44 = .ok (.ior, 1) := by decide +kernel
theorem dX5_isBeside_45 : decode cX5_isBeside 45 = .ok (.istore_n 3, 1) := by decide +kernel
theorem dX5_isBeside_46 : decode cX5_isBeside 46 = .ok (.iinc 4 1, 3) := by decide +kernel
theorem dX5_isBeside_49 : decode cX5_isBeside 49 = .ok (.goto (-44), 3) := by decide +kernel
theorem dX5_isBeside_52 : decode cX5_isBeside 52 = .ok (.iload_n 3, 1) := by decide +kernel
theorem dX5_isBeside_53 : decode cX5_isBeside 53 = .ok (.ireturn, 1) := by decide +kernel
set_option maxRecDepth 20000 in
theorem ggX5_isTooDear_X5_turn : GoodIn wsX5_isTooDear wsX5_turn := goodIn_ca (goodIn_r _ [6, 1, 13, 14, 15, 16, 17, 18, 19, 20, 21, 22, 23, 24, 25, 26, 27, 28, 29, 30, 31, 32, 33, 34, 35] (by decide +kernel) (by decide +kernel)) (goodIn_sub (fun _ h => List.mem_cons_of_mem _ (List.mem_append_right _ h)) (by decide +kernel))
set_option maxRecDepth 20000 in
theorem gX5_isTooDear_X5_turn : GoodIn wsX5_isTooDear (wsV RX5 160 RX5 yX5_turn wsX5_turn) := goodIn_app (goodIn_of _ (by decide +kernel)) ggX5_isTooDear_X5_turn
set_option maxRecDepth 20000 in
theorem ggX5_isTooDear_X5_refuse : GoodIn wsX5_isTooDear wsX5_refuse := goodIn_r _ [10, 11, 12, 13, 14, 15, 16, 17, 18, 19, 20, 21, 22, 23, 24, 25, 26, 27, 28, 29, 30, 31, 32, 33, 34, 35] (by decide +kernel) (by decide +kernel)
set_option maxRecDepth 20000 in
theorem gX5_isTooDear_X5_refuse : GoodIn wsX5_isTooDear (wsV RX5 156 RX5 yX5_refuse wsX5_refuse) := goodIn_app (goodIn_of _ (by decide +kernel)) ggX5_isTooDear_X5_refuse
theorem dX5_isTooDear_0 : decode cX5_isTooDear 0 = .ok (.aload_n 0, 1) := by decide +kernel
theorem dX5_isTooDear_1 : decode cX5_isTooDear 1 = .ok (.getfield 9, 3) := by decide +kernel
theorem dX5_isTooDear_4 : decode cX5_isTooDear 4 = .ok (.bipush 72, 2) := by decide +kernel
theorem dX5_isTooDear_6 : decode cX5_isTooDear 6 = .ok (.aload_n 0, 1) := by decide +kernel
theorem dX5_isTooDear_7 : decode cX5_isTooDear 7 = .ok (.invokevirtual 160, 3) := by decide +kernel
theorem dX5_isTooDear_10 : decode cX5_isTooDear 10 = .ok (.iadd, 1) := by decide +kernel
theorem dX5_isTooDear_11 : decode cX5_isTooDear 11 = .ok (.iaload, 1) := by decide +kernel
theorem dX5_isTooDear_12 : decode cX5_isTooDear 12 = .ok (.istore_n 2, 1) := by decide +kernel
theorem dX5_isTooDear_13 : decode cX5_isTooDear 13 = .ok (.aload_n 0, 1) := by decide +kernel
theorem dX5_isTooDear_14 : decode cX5_isTooDear 14 = .ok (.iload_n 2, 1) := by decide +kernel
theorem dX5_isTooDear_15 : decode cX5_isTooDear 15 = .ok (.iload_n 1, 1) := by decide +kernel
theorem dX5_isTooDear_16 : decode cX5_isTooDear 16 = .ok (.if_icmp .ge 7, 3) := by decide +kernel
theorem dX5_isTooDear_19 : decode cX5_isTooDear 19 = .ok (.iconst 1, 1) := by decide +kernel
theorem dX5_isTooDear_20 : decode cX5_isTooDear 20 = .ok (.goto 4, 3) := by decide +kernel
theorem dX5_isTooDear_23 : decode cX5_isTooDear 23 = .ok (.iconst 0, 1) := by decide +kernel
theorem dX5_isTooDear_24 : decode cX5_isTooDear 24 = .ok (.bipush 8, 2) := by decide +kernel
theorem dX5_isTooDear_26 : decode cX5_isTooDear 26 = .ok (.iload_n 1, 1) := by decide +kernel
theorem dX5_isTooDear_27 : decode cX5_isTooDear 27 = .ok (.iload_n 2, 1) := by decide +kernel
theorem dX5_isTooDear_28 : decode cX5_isTooDear 28 = .ok (.isub, 1) := by decide +kernel
theorem dX5_isTooDear_29 : decode cX5_isTooDear 29 = .ok (.invokevirtual 156, 3) := by decide +kernel
theorem dX5_isTooDear_32 : decode cX5_isTooDear 32 = .ok (.ireturn, 1) := by decide +kernel
set_option maxRecDepth 20000 in
theorem ggX5_door_X5_isSquare : GoodIn wsX5_door wsX5_isSquare := goodIn_r _ [5, 6, 7, 4, 8] (by decide +kernel) (by decide +kernel)
set_option maxRecDepth 20000 in
theorem gX5_door_X5_isSquare : GoodIn wsX5_door (va_wsS RX5 104 yX5_isSquare wsX5_isSquare) := goodIn_app (goodIn_of _ (by decide +kernel)) ggX5_door_X5_isSquare
set_option maxRecDepth 20000 in
theorem ggX5_door_X5_fails : GoodIn wsX5_door wsX5_fails := goodIn_r _ [12, 13, 102, 103, 104, 105, 106, 107, 108, 109, 110, 111, 112, 113, 114, 115, 116, 117, 118, 119, 120, 121, 122, 123, 124] (by decide +kernel) (by decide +kernel)
set_option maxRecDepth 20000 in
theorem gX5_door_X5_fails : GoodIn wsX5_door (wsV RX5 107 RX5 yX5_fails wsX5_fails) := goodIn_app (goodIn_of _ (by decide +kernel)) ggX5_door_X5_fails
set_option maxRecDepth 20000 in
theorem ggX5_door_X5_isOver : GoodIn wsX5_door wsX5_isOver := goodIn_ca (goodIn_r _ [17, 1, 102, 103, 104, 105, 106, 107, 108, 109, 110, 111, 112, 113, 114, 115, 116, 117, 118, 119, 120, 121, 122, 123, 124] (by decide +kernel) (by decide +kernel)) (goodIn_sub (fun _ h => List.mem_cons_of_mem _ (List.mem_append_right _ h)) (by decide +kernel))
set_option maxRecDepth 20000 in
theorem gX5_door_X5_isOver : GoodIn wsX5_door (wsV RX5 152 RX5 yX5_isOver wsX5_isOver) := goodIn_app (goodIn_of _ (by decide +kernel)) ggX5_door_X5_isOver
set_option maxRecDepth 20000 in
theorem ggX5_door_X5_refuse : GoodIn wsX5_door wsX5_refuse := goodIn_r _ [21, 22, 23, 102, 103, 104, 105, 106, 107, 108, 109, 110, 111, 112, 113, 114, 115, 116, 117, 118, 119, 120, 121, 122, 123, 124] (by decide +kernel) (by decide +kernel)
set_option maxRecDepth 20000 in
theorem gX5_door_X5_refuse : GoodIn wsX5_door (wsV RX5 156 RX5 yX5_refuse wsX5_refuse) := goodIn_app (goodIn_of _ (by decide +kernel)) ggX5_door_X5_refuse
set_option maxRecDepth 20000 in
theorem ggX5_door_X5_isWall : GoodIn wsX5_door wsX5_isWall := goodIn_ca (goodIn_r _ [27, 1, 102, 103, 104, 105, 106, 107, 108, 109, 110, 111, 112, 113, 114, 115, 116, 117, 118, 119, 120, 121, 122, 123, 124] (by decide +kernel) (by decide +kernel)) (goodIn_sub (fun _ h => List.mem_cons_of_mem _ (List.mem_append_right _ h)) (by decide +kernel))
set_option maxRecDepth 20000 in
theorem gX5_door_X5_isWall : GoodIn wsX5_door (wsV RX5 71 RX5 yX5_isWall wsX5_isWall) := goodIn_app (goodIn_of _ (by decide +kernel)) ggX5_door_X5_isWall
set_option maxRecDepth 20000 in
theorem ggX5_door_X5_turn : GoodIn wsX5_door wsX5_turn := goodIn_ca (goodIn_r _ [31, 1, 102, 103, 104, 105, 106, 107, 108, 109, 110, 111, 112, 113, 114, 115, 116, 117, 118, 119, 120, 121, 122, 123, 124] (by decide +kernel) (by decide +kernel)) (goodIn_sub (fun _ h => List.mem_cons_of_mem _ (List.mem_append_right _ h)) (by decide +kernel))
set_option maxRecDepth 20000 in
theorem gX5_door_X5_turn : GoodIn wsX5_door (wsV RX5 160 RX5 yX5_turn wsX5_turn) := goodIn_app (goodIn_of _ (by decide +kernel)) ggX5_door_X5_turn
set_option maxRecDepth 20000 in
theorem ggX5_door_X5_isBeside : GoodIn wsX5_door wsX5_isBeside := goodIn_ca (goodIn_r _ [35, 1, 36, 37, 4, 38, 6, 7, 8, 39, 40, 41, 102, 103, 104, 105, 106, 107, 108, 109, 110, 111, 112, 113, 114, 115, 116, 117, 118, 119, 120, 121, 122, 123, 124] (by decide +kernel) (by decide +kernel)) (goodIn_sub (fun _ h => List.mem_cons_of_mem _ (List.mem_append_right _ h)) (by decide +kernel))
set_option maxRecDepth 20000 in
theorem gX5_door_X5_isBeside : GoodIn wsX5_door (wsV RX5 189 RX5 yX5_isBeside wsX5_isBeside) := goodIn_app (goodIn_of _ (by decide +kernel)) ggX5_door_X5_isBeside
set_option maxRecDepth 20000 in
theorem ggX5_door_X5_isTooDear : GoodIn wsX5_door wsX5_isTooDear := goodIn_ca (goodIn_r _ [45, 1, 28, 29, 30, 4, 31, 18, 19, 20, 21, 22, 23, 102, 103, 104, 105, 106, 107, 108, 109, 110, 111, 112, 113, 114, 115, 116, 117, 118, 119, 120, 121, 122, 123, 124] (by decide +kernel) (by decide +kernel)) (goodIn_sub (fun _ h => List.mem_cons_of_mem _ (List.mem_append_right _ h)) (by decide +kernel))
set_option maxRecDepth 20000 in
theorem gX5_door_X5_isTooDear : GoodIn wsX5_door (wsV RX5 192 RX5 yX5_isTooDear wsX5_isTooDear) := goodIn_app (goodIn_of _ (by decide +kernel)) ggX5_door_X5_isTooDear
set_option maxRecDepth 20000 in
theorem ggX5_door_X5_change : GoodIn wsX5_door wsX5_change := goodIn_ca (goodIn_r _ [49, 50, 1, 51, 52, 53, 4, 54, 55, 56, 57, 58, 59, 102, 103, 104, 105, 106, 107, 108, 109, 110, 111, 112, 113, 114, 115, 116, 117, 118, 119, 120, 121, 122, 123, 124] (by decide +kernel) (by decide +kernel)) (goodIn_sub (fun _ h => List.mem_cons_of_mem _ (List.mem_append_right _ h)) (by decide +kernel))
set_option maxRecDepth 20000 in
theorem gX5_door_X5_change : GoodIn wsX5_door (wsV RX5 183 RX5 yX5_change wsX5_change) := goodIn_app (goodIn_of _ (by decide +kernel)) ggX5_door_X5_change
set_option maxRecDepth 20000 in
theorem ggX5_door_X5_endTurn : GoodIn wsX5_door wsX5_endTurn := goodIn_ca (goodIn_r _ [63, 1, 64, 65, 66, 4, 67, 39, 40, 41, 6, 7, 8, 68, 69, 70, 71, 72, 73, 74, 75, 76, 77, 78, 79, 80, 81, 82, 83, 36, 37, 38, 84, 85, 86, 87, 88, 89, 90, 91, 24, 25, 26, 27, 92, 93, 94, 95, 96, 97, 98, 99, 100, 101, 102, 103, 104, 105, 106, 107, 108, 109, 110, 111, 112, 113, 114, 115, 116, 117, 118, 119, 120, 121, 122, 123, 124] (by decide +kernel) (by decide +kernel)) (goodIn_sub (fun _ h => List.mem_cons_of_mem _ (List.mem_append_right _ h)) (by decide +kernel))
set_option maxRecDepth 20000 in
theorem gX5_door_X5_endTurn : GoodIn wsX5_door (wsV RX5 172 RX5 yX5_endTurn wsX5_endTurn) := goodIn_app (goodIn_of _ (by decide +kernel)) ggX5_door_X5_endTurn
theorem dX5_door_0 : decode cX5_door 0 = .ok (.aload_n 0, 1) := by decide +kernel
theorem dX5_door_1 : decode cX5_door 1 = .ok (.iconst 1, 1) := by decide +kernel
theorem dX5_door_2 : decode cX5_door 2 = .ok (.iload_n 1, 1) := by decide +kernel
theorem dX5_door_3 : decode cX5_door 3 = .ok (.invokestatic 104, 3) := by decide +kernel
theorem dX5_door_6 : decode cX5_door 6 = .ok (.ifCond .ne 7, 3) := by decide +kernel
theorem dX5_door_9 : decode cX5_door 9 = .ok (.iconst 1, 1) := by decide +kernel
theorem dX5_door_10 : decode cX5_door 10 = .ok (.goto 4, 3) := by decide +kernel
theorem dX5_door_13 : decode cX5_door 13 = .ok (.iconst 0, 1) := by decide +kernel
theorem dX5_door_14 : decode cX5_door 14 = .ok (.invokevirtual 107, 3) := by decide +kernel
theorem dX5_door_17 : decode cX5_door 17 = .ok (.ifCond .ne 92, 3) := by decide +kernel
theorem dX5_door_20 : decode cX5_door 20 = .ok (.aload_n 0, 1) := by decide +kernel
theorem dX5_door_21 : decode cX5_door 21 = .ok (.iconst 2, 1) := by decide +kernel
theorem dX5_door_22 : decode cX5_door 22 = .ok (.aload_n 0, 1) := by decide +kernel
theorem dX5_door_23 : decode cX5_door 23 = .ok (.aload_n 0, 1) := by decide +kernel
theorem dX5_door_24 : decode cX5_door 24 = .ok (.invokevirtual 152, 3) := by decide +kernel
theorem dX5_door_27 : decode cX5_door 27 = .ok (.iconst 1, 1) := by decide +kernel
theorem dX5_door_28 : decode cX5_door 28 = .ok (.aload_n 0, 1) := by decide +kernel
theorem dX5_door_29 : decode cX5_door 29 = .ok (.getfield 9, 3) := by decide +kernel
theorem dX5_door_32 : decode cX5_door 32 = .ok (.bipush 74, 2) := by decide +kernel
theorem dX5_door_34 : decode cX5_door 34 = .ok (.iaload, 1) := by decide +kernel
theorem dX5_door_35 : decode cX5_door 35 = .ok (.invokevirtual 156, 3) := by decide +kernel
theorem dX5_door_38 : decode cX5_door 38 = .ok (.ifCond .ne 60, 3) := by decide +kernel
theorem dX5_door_41 : decode cX5_door 41 = .ok (.aload_n 0, 1) := by decide +kernel
theorem dX5_door_42 : decode cX5_door 42 = .ok (.aload_n 0, 1) := by decide +kernel
theorem dX5_door_43 : decode cX5_door 43 = .ok (.iload_n 1, 1) := by decide +kernel
theorem dX5_door_44 : decode cX5_door 44 = .ok (.invokevirtual 71, 3) := by decide +kernel
theorem dX5_door_47 : decode cX5_door 47 = .ok (.ifCond .ne 7, 3) := by decide +kernel
theorem dX5_door_50 : decode cX5_door 50 = .ok (.iconst 1, 1) := by decide +kernel
theorem dX5_door_51 : decode cX5_door 51 = .ok (.goto 4, 3) := by decide +kernel
theorem dX5_door_54 : decode cX5_door 54 = .ok (.iconst 0, 1) := by decide +kernel
theorem dX5_door_55 : decode cX5_door 55 = .ok (.iconst 4, 1) := by decide +kernel
theorem dX5_door_56 : decode cX5_door 56 = .ok (.iload_n 1, 1) := by decide +kernel
theorem dX5_door_57 : decode cX5_door 57 = .ok (.invokevirtual 156, 3) := by decide +kernel
theorem dX5_door_60 : decode cX5_door 60 = .ok (.ifCond .ne 38, 3) := by decide +kernel
theorem dX5_door_63 : decode cX5_door 63 = .ok (.aload_n 0, 1) := by decide +kernel
theorem dX5_door_64 : decode cX5_door 64 = .ok (.aload_n 0, 1) := by decide +kernel
theorem dX5_door_65 : decode cX5_door 65 = .ok (.iload_n 1, 1) := by decide +kernel
theorem dX5_door_66 : decode cX5_door 66 = .ok (.aload_n 0, 1) := by decide +kernel
theorem dX5_door_67 : decode cX5_door 67 = .ok (.invokevirtual 160, 3) := by decide +kernel
theorem dX5_door_70 : decode cX5_door 70 = .ok (.invokevirtual 189, 3) := by decide +kernel
theorem dX5_door_73 : decode cX5_door 73 = .ok (.ifCond .ne 7, 3) := by decide +kernel
theorem dX5_door_76 : decode cX5_door 76 = .ok (.iconst 1, 1) := by decide +kernel
theorem dX5_door_77 : decode cX5_door 77 = .ok (.goto 4, 3) := by decide +kernel
theorem dX5_door_80 : decode cX5_door 80 = .ok (.iconst 0, 1) := by decide +kernel
theorem dX5_door_81 : decode cX5_door 81 = .ok (.bipush 6, 2) := by decide +kernel
theorem dX5_door_83 : decode cX5_door 83 = .ok (.iload_n 1, 1) := by decide +kernel
theorem dX5_door_84 : decode cX5_door 84 = .ok (.invokevirtual 156, 3) := by decide +kernel
theorem dX5_door_87 : decode cX5_door 87 = .ok (.ifCond .ne 11, 3) := by decide +kernel
theorem dX5_door_90 : decode cX5_door 90 = .ok (.aload_n 0, 1) := by decide +kernel
theorem dX5_door_91 : decode cX5_door 91 = .ok (.iconst 3, 1) := by decide +kernel
theorem dX5_door_92 : decode cX5_door 92 = .ok (.invokevirtual 192, 3) := by decide +kernel
theorem dX5_door_95 : decode cX5_door 95 = .ok (.ifCond .eq 7, 3) := by decide +kernel
theorem dX5_door_98 : decode cX5_door 98 = .ok (.iconst 1, 1) := by decide +kernel
theorem dX5_door_99 : decode cX5_door 99 = .ok (.goto 4, 3) := by decide +kernel
theorem dX5_door_102 : decode cX5_door 102 = .ok (.iconst 0, 1) := by decide +kernel
theorem dX5_door_103 : decode cX5_door 103 = .ok (.invokevirtual 107, 3) := by decide +kernel
theorem dX5_door_106 : decode cX5_door 106 = .ok (.ifCond .eq 5, 3) := by decide +kernel
theorem dX5_door_109 : decode cX5_door 109 = .ok (.iconst 0, 1) := by decide +kernel
theorem dX5_door_110 : decode cX5_door 110 = .ok (.ireturn, 1) := by decide +kernel
theorem dX5_door_111 : decode cX5_door 111 = .ok (.aload_n 0, 1) := by decide +kernel
theorem dX5_door_112 : decode cX5_door 112 = .ok (.invokevirtual 183, 3) := by decide +kernel
theorem dX5_door_115 : decode cX5_door 115 = .ok (.aload_n 0, 1) := by decide +kernel
theorem dX5_door_116 : decode cX5_door 116 = .ok (.invokevirtual 160, 3) := by decide +kernel
theorem dX5_door_119 : decode cX5_door 119 = .ok (.istore_n 2, 1) := by decide +kernel
theorem dX5_door_120 : decode cX5_door 120 = .ok (.aload_n 0, 1) := by decide +kernel
theorem dX5_door_121 : decode cX5_door 121 = .ok (.getfield 9, 3) := by decide +kernel
theorem dX5_door_124 : decode cX5_door 124 = .ok (.iload_n 1, 1) := by decide +kernel
theorem dX5_door_125 : decode cX5_door 125 = .ok (.iconst 0, 1) := by decide +kernel
theorem dX5_door_126 : decode cX5_door 126 = .ok (.iastore, 1) := by decide +kernel
theorem dX5_door_127 : decode cX5_door 127 = .ok (.aload_n 0, 1) := by decide +kernel
theorem dX5_door_128 : decode cX5_door 128 = .ok (.getfield 9, 3) := by decide +kernel
theorem dX5_door_131 : decode cX5_door 131 = .ok (.bipush 36, 2) := by decide +kernel
theorem dX5_door_133 : decode cX5_door 133 = .ok (.iload_n 1, 1) := by decide +kernel
theorem dX5_door_134 : decode cX5_door 134 = .ok (.iadd, 1) := by decide +kernel
theorem dX5_door_135 : decode cX5_door 135 = .ok (.iload_n 2, 1) := by decide +kernel
theorem dX5_door_136 : decode cX5_door 136 = .ok (.iconst 1, 1) := by decide +kernel
theorem dX5_door_137 : decode cX5_door 137 = .ok (.iadd, 1) := by decide +kernel
theorem dX5_door_138 : decode cX5_door 138 = .ok (.iastore, 1) := by decide +kernel
theorem dX5_door_139 : decode cX5_door 139 = .ok (.aload_n 0, 1) := by decide +kernel
theorem dX5_door_140 : decode cX5_door 140 = .ok (.getfield 9, 3) := by decide +kernel
theorem dX5_door_143 : decode cX5_door 143 = .ok (.bipush 72, 2) := by decide +kernel
theorem dX5_door_145 : decode cX5_door 145 = .ok (.iload_n 2, 1) := by decide +kernel
theorem dX5_door_146 : decode cX5_door 146 = .ok (.iadd, 1) := by decide +kernel
theorem dX5_door_147 : decode cX5_door 147 = .ok (.dup2, 1) := by decide +kernel
theorem dX5_door_148 : decode cX5_door 148 = .ok (.iaload, 1) := by decide +kernel
theorem dX5_door_149 : decode cX5_door 149 = .ok (.iconst 3, 1) := by decide +kernel
theorem dX5_door_150 : decode cX5_door 150 = .ok (.isub, 1) := by decide +kernel
theorem dX5_door_151 : decode cX5_door 151 = .ok (.iastore, 1) := by decide +kernel
theorem dX5_door_152 : decode cX5_door 152 = .ok (.aload_n 0, 1) := by decide +kernel
theorem dX5_door_153 : decode cX5_door 153 = .ok (.iload_n 2, 1) := by decide +kernel
theorem dX5_door_154 : decode cX5_door 154 = .ok (.iconst 0, 1) := by decide +kernel
theorem dX5_door_155 : decode cX5_door 155 = .ok (.invokevirtual 172, 3) := by decide +kernel
theorem dX5_door_158 : decode cX5_door 158 = .ok (.aload_n 0, 1) := by decide +kernel
theorem dX5_door_159 : decode cX5_door 159 = .ok (.getfield 9, 3) := by decide +kernel
theorem dX5_door_162 : decode cX5_door 162 = .ok (.bipush 72, 2) := by decide +kernel
theorem dX5_door_164 : decode cX5_door 164 = .ok (.iload_n 2, 1) := by decide +kernel
theorem dX5_door_165 : decode cX5_door 165 = .ok (.iadd, 1) := by decide +kernel
theorem dX5_door_166 : decode cX5_door 166 = .ok (.iaload, 1) := by decide +kernel
theorem dX5_door_167 : decode cX5_door 167 = .ok (.ireturn, 1) := by decide +kernel
set_option maxRecDepth 20000 in
theorem ggX5_isBuyRefused_X5_turn : GoodIn wsX5_isBuyRefused wsX5_turn := goodIn_ca (goodIn_r _ [6, 1, 48, 49, 50, 51, 52, 53, 54, 55, 56, 57, 58, 59, 60, 61, 62, 63, 64, 65, 66, 67, 68, 69, 70] (by decide +kernel) (by decide +kernel)) (goodIn_sub (fun _ h => List.mem_cons_of_mem _ (List.mem_append_right _ h)) (by decide +kernel))
set_option maxRecDepth 20000 in
theorem gX5_isBuyRefused_X5_turn : GoodIn wsX5_isBuyRefused (wsV RX5 160 RX5 yX5_turn wsX5_turn) := goodIn_app (goodIn_of _ (by decide +kernel)) ggX5_isBuyRefused_X5_turn
set_option maxRecDepth 20000 in
theorem ggX5_isBuyRefused_X5_isOver : GoodIn wsX5_isBuyRefused wsX5_isOver := goodIn_ca (goodIn_r _ [10, 1, 48, 49, 50, 51, 52, 53, 54, 55, 56, 57, 58, 59, 60, 61, 62, 63, 64, 65, 66, 67, 68, 69, 70] (by decide +kernel) (by decide +kernel)) (goodIn_sub (fun _ h => List.mem_cons_of_mem _ (List.mem_append_right _ h)) (by decide +kernel))
set_option maxRecDepth 20000 in
theorem gX5_isBuyRefused_X5_isOver : GoodIn wsX5_isBuyRefused (wsV RX5 152 RX5 yX5_isOver wsX5_isOver) := goodIn_app (goodIn_of _ (by decide +kernel)) ggX5_isBuyRefused_X5_isOver
set_option maxRecDepth 20000 in
theorem ggX5_isBuyRefused_X5_refuse : GoodIn wsX5_isBuyRefused wsX5_refuse := goodIn_r _ [14, 15, 16, 48, 49, 50, 51, 52, 53, 54, 55, 56, 57, 58, 59, 60, 61, 62, 63, 64, 65, 66, 67, 68, 69, 70] (by decide +kernel) (by decide +kernel)
set_option maxRecDepth 20000 in
theorem gX5_isBuyRefused_X5_refuse : GoodIn wsX5_isBuyRefused (wsV RX5 156 RX5 yX5_refuse wsX5_refuse) := goodIn_app (goodIn_of _ (by decide +kernel)) ggX5_isBuyRefused_X5_refuse
set_option maxRecDepth 20000 in
theorem ggX5_isBuyRefused_X5_isWall : GoodIn wsX5_isBuyRefused wsX5_isWall := goodIn_ca (goodIn_r _ [20, 1, 48, 49, 50, 51, 52, 53, 54, 55, 56, 57, 58, 59, 60, 61, 62, 63, 64, 65, 66, 67, 68, 69, 70] (by decide +kernel) (by decide +kernel)) (goodIn_sub (fun _ h => List.mem_cons_of_mem _ (List.mem_append_right _ h)) (by decide +kernel))
set_option maxRecDepth 20000 in
theorem gX5_isBuyRefused_X5_isWall : GoodIn wsX5_isBuyRefused (wsV RX5 71 RX5 yX5_isWall wsX5_isWall) := goodIn_app (goodIn_of _ (by decide +kernel)) ggX5_isBuyRefused_X5_isWall
set_option maxRecDepth 20000 in
theorem ggX5_isBuyRefused_X5_keeperOf : GoodIn wsX5_isBuyRefused wsX5_keeperOf := goodIn_ca (goodIn_r _ [24, 1, 25, 26, 5, 27, 48, 49, 50, 51, 52, 53, 54, 55, 56, 57, 58, 59, 60, 61, 62, 63, 64, 65, 66, 67, 68, 69, 70] (by decide +kernel) (by decide +kernel)) (goodIn_sub (fun _ h => List.mem_cons_of_mem _ (List.mem_append_right _ h)) (by decide +kernel))
set_option maxRecDepth 20000 in
theorem gX5_isBuyRefused_X5_keeperOf : GoodIn wsX5_isBuyRefused (wsV RX5 114 RX5 yX5_keeperOf wsX5_keeperOf) := goodIn_app (goodIn_of _ (by decide +kernel)) ggX5_isBuyRefused_X5_keeperOf
set_option maxRecDepth 20000 in
theorem ggX5_isBuyRefused_X5_sideOf : GoodIn wsX5_isBuyRefused wsX5_sideOf := goodIn_r _ [30, 31, 32, 5, 33] (by decide +kernel) (by decide +kernel)
set_option maxRecDepth 20000 in
theorem gX5_isBuyRefused_X5_sideOf : GoodIn wsX5_isBuyRefused (va_wsS RX5 79 yX5_sideOf wsX5_sideOf) := goodIn_app (goodIn_of _ (by decide +kernel)) ggX5_isBuyRefused_X5_sideOf
set_option maxRecDepth 20000 in
theorem ggX5_isBuyRefused_X5_isBeside : GoodIn wsX5_isBuyRefused wsX5_isBeside := goodIn_ca (goodIn_r _ [37, 1, 38, 39, 5, 40, 31, 32, 33, 28, 29, 30, 48, 49, 50, 51, 52, 53, 54, 55, 56, 57, 58, 59, 60, 61, 62, 63, 64, 65, 66, 67, 68, 69, 70] (by decide +kernel) (by decide +kernel)) (goodIn_sub (fun _ h => List.mem_cons_of_mem _ (List.mem_append_right _ h)) (by decide +kernel))
set_option maxRecDepth 20000 in
theorem gX5_isBuyRefused_X5_isBeside : GoodIn wsX5_isBuyRefused (wsV RX5 189 RX5 yX5_isBeside wsX5_isBeside) := goodIn_app (goodIn_of _ (by decide +kernel)) ggX5_isBuyRefused_X5_isBeside
set_option maxRecDepth 20000 in
theorem ggX5_isBuyRefused_X5_kindOf : GoodIn wsX5_isBuyRefused wsX5_kindOf := goodIn_r _ [43, 31, 32, 5, 33] (by decide +kernel) (by decide +kernel)
set_option maxRecDepth 20000 in
theorem gX5_isBuyRefused_X5_kindOf : GoodIn wsX5_isBuyRefused (va_wsS RX5 126 yX5_kindOf wsX5_kindOf) := goodIn_app (goodIn_of _ (by decide +kernel)) ggX5_isBuyRefused_X5_kindOf
set_option maxRecDepth 20000 in
theorem ggX5_isBuyRefused_X5_isTooDear : GoodIn wsX5_isBuyRefused wsX5_isTooDear := goodIn_ca (goodIn_r _ [47, 1, 2, 3, 4, 5, 6, 11, 12, 13, 14, 15, 16, 48, 49, 50, 51, 52, 53, 54, 55, 56, 57, 58, 59, 60, 61, 62, 63, 64, 65, 66, 67, 68, 69, 70] (by decide +kernel) (by decide +kernel)) (goodIn_sub (fun _ h => List.mem_cons_of_mem _ (List.mem_append_right _ h)) (by decide +kernel))
set_option maxRecDepth 20000 in
theorem gX5_isBuyRefused_X5_isTooDear : GoodIn wsX5_isBuyRefused (wsV RX5 192 RX5 yX5_isTooDear wsX5_isTooDear) := goodIn_app (goodIn_of _ (by decide +kernel)) ggX5_isBuyRefused_X5_isTooDear
theorem dX5_isBuyRefused_0 : decode cX5_isBuyRefused 0 = .ok (.aload_n 0, 1) := by decide +kernel
theorem dX5_isBuyRefused_1 : decode cX5_isBuyRefused 1 = .ok (.invokevirtual 160, 3) := by decide +kernel
theorem dX5_isBuyRefused_4 : decode cX5_isBuyRefused 4 = .ok (.istore_n 2, 1) := by decide +kernel
theorem dX5_isBuyRefused_5 : decode cX5_isBuyRefused 5 = .ok (.aload_n 0, 1) := by decide +kernel
theorem dX5_isBuyRefused_6 : decode cX5_isBuyRefused 6 = .ok (.aload_n 0, 1) := by decide +kernel
theorem dX5_isBuyRefused_7 : decode cX5_isBuyRefused 7 = .ok (.invokevirtual 152, 3) := by decide +kernel
theorem dX5_isBuyRefused_10 : decode cX5_isBuyRefused 10 = .ok (.iconst 1, 1) := by decide +kernel
theorem dX5_isBuyRefused_11 : decode cX5_isBuyRefused 11 = .ok (.aload_n 0, 1) := by decide +kernel
theorem dX5_isBuyRefused_12 : decode cX5_isBuyRefused 12 = .ok (.getfield 9, 3) := by decide +kernel
theorem dX5_isBuyRefused_15 : decode cX5_isBuyRefused 15 = .ok (.bipush 74, 2) := by decide +kernel
theorem dX5_isBuyRefused_17 : decode cX5_isBuyRefused 17 = .ok (.iaload, 1) := by decide +kernel
theorem dX5_isBuyRefused_18 : decode cX5_isBuyRefused 18 = .ok (.invokevirtual 156, 3) := by decide +kernel
theorem dX5_isBuyRefused_21 : decode cX5_isBuyRefused 21 = .ok (.ifCond .ne 25, 3) := by decide +kernel
theorem dX5_isBuyRefused_24 : decode cX5_isBuyRefused 24 = .ok (.aload_n 0, 1) := by decide +kernel
theorem dX5_isBuyRefused_25 : decode cX5_isBuyRefused 25 = .ok (.aload_n 0, 1) := by decide +kernel
theorem dX5_isBuyRefused_26 : decode cX5_isBuyRefused 26 = .ok (.iload_n 1, 1) := by decide +kernel
theorem dX5_isBuyRefused_27 : decode cX5_isBuyRefused 27 = .ok (.invokevirtual 71, 3) := by decide +kernel
theorem dX5_isBuyRefused_30 : decode cX5_isBuyRefused 30 = .ok (.ifCond .ne 7, 3) := by decide +kernel
theorem dX5_isBuyRefused_33 : decode cX5_isBuyRefused 33 = .ok (.iconst 1, 1) := by decide +kernel
theorem dX5_isBuyRefused_34 : decode cX5_isBuyRefused 34 = .ok (.goto 4, 3) := by decide +kernel
theorem dX5_isBuyRefused_37 : decode cX5_isBuyRefused 37 = .ok (.iconst 0, 1) := by decide +kernel
theorem dX5_isBuyRefused_38 : decode cX5_isBuyRefused 38 = .ok (.iconst 4, 1) := by decide +kernel
theorem dX5_isBuyRefused_39 : decode cX5_isBuyRefused 39 = .ok (.iload_n 1, 1) := by decide +kernel
theorem dX5_isBuyRefused_40 : decode cX5_isBuyRefused 40 = .ok (.invokevirtual 156, 3) := by decide +kernel
theorem dX5_isBuyRefused_43 : decode cX5_isBuyRefused 43 = .ok (.ifCond .eq 5, 3) := by decide +kernel
theorem dX5_isBuyRefused_46 : decode cX5_isBuyRefused 46 = .ok (.iconst 1, 1) := by decide +kernel
theorem dX5_isBuyRefused_47 : decode cX5_isBuyRefused 47 = .ok (.ireturn, 1) := by decide +kernel
theorem dX5_isBuyRefused_48 : decode cX5_isBuyRefused 48 = .ok (.aload_n 0, 1) := by decide +kernel
theorem dX5_isBuyRefused_49 : decode cX5_isBuyRefused 49 = .ok (.getfield 9, 3) := by decide +kernel
theorem dX5_isBuyRefused_52 : decode cX5_isBuyRefused 52 = .ok (.iload_n 1, 1) := by decide +kernel
theorem dX5_isBuyRefused_53 : decode cX5_isBuyRefused 53 = .ok (.iaload, 1) := by decide +kernel
theorem dX5_isBuyRefused_54 : decode cX5_isBuyRefused 54 = .ok (.bipush 20, 2) := by decide +kernel
theorem dX5_isBuyRefused_56 : decode cX5_isBuyRefused 56 = .ok (.isub, 1) := by decide +kernel
theorem dX5_isBuyRefused_57 : decode cX5_isBuyRefused 57 = .ok (.istore_n 3, 1) := by decide +kernel
theorem dX5_isBuyRefused_58 : decode cX5_isBuyRefused 58 = .ok (.aload_n 0, 1) := by decide +kernel
theorem dX5_isBuyRefused_59 : decode cX5_isBuyRefused 59 = .ok (.iload_n 2, 1) := by decide +kernel
theorem dX5_isBuyRefused_60 : decode cX5_isBuyRefused 60 = .ok (.invokevirtual 114, 3) := by decide +kernel
theorem dX5_isBuyRefused_63 : decode cX5_isBuyRefused 63 = .ok (.istore 4, 2) := by decide +kernel
theorem dX5_isBuyRefused_65 : decode cX5_isBuyRefused 65 = .ok (.aload_n 0, 1) := by decide +kernel
theorem dX5_isBuyRefused_66 : decode cX5_isBuyRefused 66 = .ok (.iload_n 3, 1) := by decide +kernel
theorem dX5_isBuyRefused_67 : decode cX5_isBuyRefused 67 = .ok (.invokestatic 79, 3) := by decide +kernel
theorem dX5_isBuyRefused_70 : decode cX5_isBuyRefused 70 = .ok (.iload_n 2, 1) := by decide +kernel
theorem dX5_isBuyRefused_71 : decode cX5_isBuyRefused 71 = .ok (.if_icmp .eq 7, 3) := by decide +kernel
theorem dX5_isBuyRefused_74 : decode cX5_isBuyRefused 74 = .ok (.iconst 1, 1) := by decide +kernel
theorem dX5_isBuyRefused_75 : decode cX5_isBuyRefused 75 = .ok (.goto 4, 3) := by decide +kernel
theorem dX5_isBuyRefused_78 : decode cX5_isBuyRefused 78 = .ok (.iconst 0, 1) := by decide +kernel
theorem dX5_isBuyRefused_79 : decode cX5_isBuyRefused 79 = .ok (.iconst 5, 1) := by decide +kernel
theorem dX5_isBuyRefused_80 : decode cX5_isBuyRefused 80 = .ok (.iload_n 1, 1) := by decide +kernel
theorem dX5_isBuyRefused_81 : decode cX5_isBuyRefused 81 = .ok (.invokevirtual 156, 3) := by decide +kernel
theorem dX5_isBuyRefused_84 : decode cX5_isBuyRefused 84 = .ok (.ifCond .ne 69, 3) := by decide +kernel
theorem dX5_isBuyRefused_87 : decode cX5_isBuyRefused 87 = .ok (.aload_n 0, 1) := by decide +kernel
theorem dX5_isBuyRefused_88 : decode cX5_isBuyRefused 88 = .ok (.aload_n 0, 1) := by decide +kernel
theorem dX5_isBuyRefused_89 : decode cX5_isBuyRefused 89 = .ok (.iload_n 1, 1) := by decide +kernel
theorem dX5_isBuyRefused_90 : decode cX5_isBuyRefused 90 = .ok (.iload_n 2, 1) := by decide +kernel
theorem dX5_isBuyRefused_91 : decode cX5_isBuyRefused 91 = .ok (.invokevirtual 189, 3) := by decide +kernel
theorem dX5_isBuyRefused_94 : decode cX5_isBuyRefused 94 = .ok (.ifCond .ne 7, 3) := by decide +kernel
theorem dX5_isBuyRefused_97 : decode cX5_isBuyRefused 97 = .ok (.iconst 1, 1) := by decide +kernel
theorem dX5_isBuyRefused_98 : decode cX5_isBuyRefused 98 = .ok (.goto 4, 3) := by decide +kernel
theorem dX5_isBuyRefused_101 : decode cX5_isBuyRefused 101 = .ok (.iconst 0, 1) := by decide +kernel
theorem dX5_isBuyRefused_102 : decode cX5_isBuyRefused 102 = .ok (.bipush 6, 2) := by decide +kernel
theorem dX5_isBuyRefused_104 : decode cX5_isBuyRefused 104 = .ok (.iload_n 1, 1) := by decide +kernel
theorem dX5_isBuyRefused_105 : decode cX5_isBuyRefused 105 = .ok (.invokevirtual 156, 3) := by decide +kernel
theorem dX5_isBuyRefused_108 : decode cX5_isBuyRefused 108 = .ok (.ifCond .ne 45, 3) := by decide +kernel
theorem dX5_isBuyRefused_111 : decode cX5_isBuyRefused 111 = .ok (.aload_n 0, 1) := by decide +kernel
theorem dX5_isBuyRefused_112 : decode cX5_isBuyRefused 112 = .ok (.iload_n 3, 1) := by decide +kernel
theorem dX5_isBuyRefused_113 : decode cX5_isBuyRefused 113 = .ok (.invokestatic 126, 3) := by decide +kernel
theorem dX5_isBuyRefused_116 : decode cX5_isBuyRefused 116 = .ok (.iconst 3, 1) := by decide +kernel
theorem dX5_isBuyRefused_117 : decode cX5_isBuyRefused 117 = .ok (.if_icmp .ne 12, 3) := by decide +kernel
theorem dX5_isBuyRefused_120 : decode cX5_isBuyRefused 120 = .ok (.iload 4, 2) := by decide +kernel
theorem dX5_isBuyRefused_122 : decode cX5_isBuyRefused 122 = .ok (.ifCond .lt 7, 3) := by decide +kernel
theorem dX5_isBuyRefused_125 : decode cX5_isBuyRefused 125 = .ok (.iconst 1, 1) := by decide +kernel
theorem dX5_isBuyRefused_126 : decode cX5_isBuyRefused 126 = .ok (.goto 4, 3) := by decide +kernel
theorem dX5_isBuyRefused_129 : decode cX5_isBuyRefused 129 = .ok (.iconst 0, 1) := by decide +kernel
theorem dX5_isBuyRefused_130 : decode cX5_isBuyRefused 130 = .ok (.bipush 7, 2) := by decide +kernel
theorem dX5_isBuyRefused_132 : decode cX5_isBuyRefused 132 = .ok (.iload 4, 2) := by decide +kernel
theorem dX5_isBuyRefused_134 : decode cX5_isBuyRefused 134 = .ok (.invokevirtual 156, 3) := by decide +kernel
theorem dX5_isBuyRefused_137 : decode cX5_isBuyRefused 137 = .ok (.ifCond .ne 16, 3) := by decide +kernel
theorem dX5_isBuyRefused_140 : decode cX5_isBuyRefused 140 = .ok (.aload_n 0, 1) := by decide +kernel
theorem dX5_isBuyRefused_141 : decode cX5_isBuyRefused 141 = .ok (.iconst 2, 1) := by decide +kernel
theorem dX5_isBuyRefused_142 : decode cX5_isBuyRefused 142 = .ok (.iload_n 3, 1) := by decide +kernel
theorem dX5_isBuyRefused_143 : decode cX5_isBuyRefused 143 = .ok (.invokestatic 126, 3) := by decide +kernel
theorem dX5_isBuyRefused_146 : decode cX5_isBuyRefused 146 = .ok (.iadd, 1) := by decide +kernel
theorem dX5_isBuyRefused_147 : decode cX5_isBuyRefused 147 = .ok (.invokevirtual 192, 3) := by decide +kernel
theorem dX5_isBuyRefused_150 : decode cX5_isBuyRefused 150 = .ok (.ifCond .eq 7, 3) := by decide +kernel
theorem dX5_isBuyRefused_153 : decode cX5_isBuyRefused 153 = .ok (.iconst 1, 1) := by decide +kernel
theorem dX5_isBuyRefused_154 : decode cX5_isBuyRefused 154 = .ok (.goto 4, 3) := by decide +kernel
theorem dX5_isBuyRefused_157 : decode cX5_isBuyRefused 157 = .ok (.iconst 0, 1) := by decide +kernel
theorem dX5_isBuyRefused_158 : decode cX5_isBuyRefused 158 = .ok (.ireturn, 1) := by decide +kernel
set_option maxRecDepth 20000 in
theorem ggX5_buy_X5_isSquare : GoodIn wsX5_buy wsX5_isSquare := goodIn_r _ [5, 6, 7, 4, 8] (by decide +kernel) (by decide +kernel)
set_option maxRecDepth 20000 in
theorem gX5_buy_X5_isSquare : GoodIn wsX5_buy (va_wsS RX5 104 yX5_isSquare wsX5_isSquare) := goodIn_app (goodIn_of _ (by decide +kernel)) ggX5_buy_X5_isSquare
set_option maxRecDepth 20000 in
theorem ggX5_buy_X5_fails : GoodIn wsX5_buy wsX5_fails := goodIn_r _ [12, 13, 113, 114, 115, 116, 117, 118, 119, 120, 121, 122, 123, 124, 125, 126, 127, 128, 129, 130, 131, 132, 133, 134, 135] (by decide +kernel) (by decide +kernel)
set_option maxRecDepth 20000 in
theorem gX5_buy_X5_fails : GoodIn wsX5_buy (wsV RX5 107 RX5 yX5_fails wsX5_fails) := goodIn_app (goodIn_of _ (by decide +kernel)) ggX5_buy_X5_fails
set_option maxRecDepth 20000 in
theorem ggX5_buy_X5_isBuyRefused : GoodIn wsX5_buy wsX5_isBuyRefused := goodIn_ca (goodIn_r _ [17, 1, 18, 19, 20, 4, 21, 22, 23, 24, 25, 26, 27, 28, 29, 30, 31, 32, 33, 34, 35, 36, 37, 38, 39, 40, 41, 42, 43, 44, 45, 6, 7, 8, 46, 47, 48, 49, 50, 51, 52, 53, 54, 55, 56, 57, 58, 59, 113, 114, 115, 116, 117, 118, 119, 120, 121, 122, 123, 124, 125, 126, 127, 128, 129, 130, 131, 132, 133, 134, 135] (by decide +kernel) (by decide +kernel)) (goodIn_sub (fun _ h => List.mem_cons_of_mem _ (List.mem_append_right _ h)) (by decide +kernel))
set_option maxRecDepth 20000 in
theorem gX5_buy_X5_isBuyRefused : GoodIn wsX5_buy (wsV RX5 195 RX5 yX5_isBuyRefused wsX5_isBuyRefused) := goodIn_app (goodIn_of _ (by decide +kernel)) ggX5_buy_X5_isBuyRefused
set_option maxRecDepth 20000 in
theorem ggX5_buy_X5_change : GoodIn wsX5_buy wsX5_change := goodIn_ca (goodIn_r _ [63, 64, 1, 65, 66, 67, 4, 68, 69, 70, 71, 72, 73, 113, 114, 115, 116, 117, 118, 119, 120, 121, 122, 123, 124, 125, 126, 127, 128, 129, 130, 131, 132, 133, 134, 135] (by decide +kernel) (by decide +kernel)) (goodIn_sub (fun _ h => List.mem_cons_of_mem _ (List.mem_append_right _ h)) (by decide +kernel))
set_option maxRecDepth 20000 in
theorem gX5_buy_X5_change : GoodIn wsX5_buy (wsV RX5 183 RX5 yX5_change wsX5_change) := goodIn_app (goodIn_of _ (by decide +kernel)) ggX5_buy_X5_change
set_option maxRecDepth 20000 in
theorem ggX5_buy_X5_turn : GoodIn wsX5_buy wsX5_turn := goodIn_ca (goodIn_r _ [21, 1, 113, 114, 115, 116, 117, 118, 119, 120, 121, 122, 123, 124, 125, 126, 127, 128, 129, 130, 131, 132, 133, 134, 135] (by decide +kernel) (by decide +kernel)) (goodIn_sub (fun _ h => List.mem_cons_of_mem _ (List.mem_append_right _ h)) (by decide +kernel))
set_option maxRecDepth 20000 in
theorem gX5_buy_X5_turn : GoodIn wsX5_buy (wsV RX5 160 RX5 yX5_turn wsX5_turn) := goodIn_app (goodIn_of _ (by decide +kernel)) ggX5_buy_X5_turn
set_option maxRecDepth 20000 in
theorem ggX5_buy_X5_kindOf : GoodIn wsX5_buy wsX5_kindOf := goodIn_r _ [55, 6, 7, 4, 8] (by decide +kernel) (by decide +kernel)
set_option maxRecDepth 20000 in
theorem gX5_buy_X5_kindOf : GoodIn wsX5_buy (va_wsS RX5 126 yX5_kindOf wsX5_kindOf) := goodIn_app (goodIn_of _ (by decide +kernel)) ggX5_buy_X5_kindOf
set_option maxRecDepth 20000 in
theorem ggX5_buy_X5_endTurn : GoodIn wsX5_buy wsX5_endTurn := goodIn_ca (goodIn_r _ [77, 1, 78, 79, 80, 4, 81, 43, 44, 45, 6, 7, 8, 82, 83, 84, 85, 86, 87, 88, 89, 90, 53, 54, 55, 91, 92, 93, 94, 50, 51, 52, 95, 96, 97, 98, 99, 100, 101, 102, 32, 33, 34, 35, 103, 104, 105, 106, 107, 108, 109, 110, 111, 112, 113, 114, 115, 116, 117, 118, 119, 120, 121, 122, 123, 124, 125, 126, 127, 128, 129, 130, 131, 132, 133, 134, 135] (by decide +kernel) (by decide +kernel)) (goodIn_sub (fun _ h => List.mem_cons_of_mem _ (List.mem_append_right _ h)) (by decide +kernel))
set_option maxRecDepth 20000 in
theorem gX5_buy_X5_endTurn : GoodIn wsX5_buy (wsV RX5 172 RX5 yX5_endTurn wsX5_endTurn) := goodIn_app (goodIn_of _ (by decide +kernel)) ggX5_buy_X5_endTurn
theorem dX5_buy_0 : decode cX5_buy 0 = .ok (.aload_n 0, 1) := by decide +kernel
theorem dX5_buy_1 : decode cX5_buy 1 = .ok (.iconst 1, 1) := by decide +kernel
theorem dX5_buy_2 : decode cX5_buy 2 = .ok (.iload_n 1, 1) := by decide +kernel
theorem dX5_buy_3 : decode cX5_buy 3 = .ok (.invokestatic 104, 3) := by decide +kernel
theorem dX5_buy_6 : decode cX5_buy 6 = .ok (.ifCond .ne 7, 3) := by decide +kernel
theorem dX5_buy_9 : decode cX5_buy 9 = .ok (.iconst 1, 1) := by decide +kernel
theorem dX5_buy_10 : decode cX5_buy 10 = .ok (.goto 4, 3) := by decide +kernel
theorem dX5_buy_13 : decode cX5_buy 13 = .ok (.iconst 0, 1) := by decide +kernel
theorem dX5_buy_14 : decode cX5_buy 14 = .ok (.invokevirtual 107, 3) := by decide +kernel
theorem dX5_buy_17 : decode cX5_buy 17 = .ok (.ifCond .ne 16, 3) := by decide +kernel
theorem dX5_buy_20 : decode cX5_buy 20 = .ok (.aload_n 0, 1) := by decide +kernel
theorem dX5_buy_21 : decode cX5_buy 21 = .ok (.iconst 2, 1) := by decide +kernel
theorem dX5_buy_22 : decode cX5_buy 22 = .ok (.aload_n 0, 1) := by decide +kernel
theorem dX5_buy_23 : decode cX5_buy 23 = .ok (.iload_n 1, 1) := by decide +kernel
theorem dX5_buy_24 : decode cX5_buy 24 = .ok (.invokevirtual 195, 3) := by decide +kernel
theorem dX5_buy_27 : decode cX5_buy 27 = .ok (.invokevirtual 107, 3) := by decide +kernel
theorem dX5_buy_30 : decode cX5_buy 30 = .ok (.ifCond .eq 5, 3) := by decide +kernel
theorem dX5_buy_33 : decode cX5_buy 33 = .ok (.iconst 0, 1) := by decide +kernel
theorem dX5_buy_34 : decode cX5_buy 34 = .ok (.ireturn, 1) := by decide +kernel
theorem dX5_buy_35 : decode cX5_buy 35 = .ok (.aload_n 0, 1) := by decide +kernel
theorem dX5_buy_36 : decode cX5_buy 36 = .ok (.invokevirtual 183, 3) := by decide +kernel
theorem dX5_buy_39 : decode cX5_buy 39 = .ok (.aload_n 0, 1) := by decide +kernel
theorem dX5_buy_40 : decode cX5_buy 40 = .ok (.invokevirtual 160, 3) := by decide +kernel
theorem dX5_buy_43 : decode cX5_buy 43 = .ok (.istore_n 2, 1) := by decide +kernel
theorem dX5_buy_44 : decode cX5_buy 44 = .ok (.aload_n 0, 1) := by decide +kernel
theorem dX5_buy_45 : decode cX5_buy 45 = .ok (.getfield 9, 3) := by decide +kernel
theorem dX5_buy_48 : decode cX5_buy 48 = .ok (.iload_n 1, 1) := by decide +kernel
theorem dX5_buy_49 : decode cX5_buy 49 = .ok (.dup2, 1) := by decide +kernel
theorem dX5_buy_50 : decode cX5_buy 50 = .ok (.iaload, 1) := by decide +kernel
theorem dX5_buy_51 : decode cX5_buy 51 = .ok (.bipush 20, 2) := by decide +kernel
theorem dX5_buy_53 : decode cX5_buy 53 = .ok (.isub, 1) := by decide +kernel
theorem dX5_buy_54 : decode cX5_buy 54 = .ok (.iastore, 1) := by decide +kernel
theorem dX5_buy_55 : decode cX5_buy 55 = .ok (.aload_n 0, 1) := by decide +kernel
theorem dX5_buy_56 : decode cX5_buy 56 = .ok (.getfield 9, 3) := by decide +kernel
theorem dX5_buy_59 : decode cX5_buy 59 = .ok (.bipush 72, 2) := by decide +kernel
theorem dX5_buy_61 : decode cX5_buy 61 = .ok (.iload_n 2, 1) := by decide +kernel
theorem dX5_buy_62 : decode cX5_buy 62 = .ok (.iadd, 1) := by decide +kernel
theorem dX5_buy_63 : decode cX5_buy 63 = .ok (.dup2, 1) := by decide +kernel
theorem dX5_buy_64 : decode cX5_buy 64 = .ok (.iaload, 1) := by decide +kernel
theorem dX5_buy_65 : decode cX5_buy 65 = .ok (.iconst 2, 1) := by decide +kernel
theorem dX5_buy_66 : decode cX5_buy 66 = .ok (.aload_n 0, 1) := by decide +kernel
theorem dX5_buy_67 : decode cX5_buy 67 = .ok (.getfield 9, 3) := by decide +kernel
theorem dX5_buy_70 : decode cX5_buy 70 = .ok (.iload_n 1, 1) := by decide +kernel
theorem dX5_buy_71 : decode cX5_buy 71 = .ok (.iaload, 1) := by decide +kernel
theorem dX5_buy_72 : decode cX5_buy 72 = .ok (.invokestatic 126, 3) := by decide +kernel
theorem dX5_buy_75 : decode cX5_buy 75 = .ok (.iadd, 1) := by decide +kernel
theorem dX5_buy_76 : decode cX5_buy 76 = .ok (.isub, 1) := by decide +kernel
theorem dX5_buy_77 : decode cX5_buy 77 = .ok (.iastore, 1) := by decide +kernel
theorem dX5_buy_78 : decode cX5_buy 78 = .ok (.aload_n 0, 1) := by decide +kernel
theorem dX5_buy_79 : decode cX5_buy 79 = .ok (.iload_n 2, 1) := by decide +kernel
theorem dX5_buy_80 : decode cX5_buy 80 = .ok (.iconst 0, 1) := by decide +kernel
theorem dX5_buy_81 : decode cX5_buy 81 = .ok (.invokevirtual 172, 3) := by decide +kernel
theorem dX5_buy_84 : decode cX5_buy 84 = .ok (.aload_n 0, 1) := by decide +kernel
theorem dX5_buy_85 : decode cX5_buy 85 = .ok (.getfield 9, 3) := by decide +kernel
theorem dX5_buy_88 : decode cX5_buy 88 = .ok (.bipush 72, 2) := by decide +kernel
theorem dX5_buy_90 : decode cX5_buy 90 = .ok (.iload_n 2, 1) := by decide +kernel
theorem dX5_buy_91 : decode cX5_buy 91 = .ok (.iadd, 1) := by decide +kernel
theorem dX5_buy_92 : decode cX5_buy 92 = .ok (.iaload, 1) := by decide +kernel
theorem dX5_buy_93 : decode cX5_buy 93 = .ok (.ireturn, 1) := by decide +kernel
set_option maxRecDepth 20000 in
theorem ggX5_square_X5_isSquare : GoodIn wsX5_square wsX5_isSquare := goodIn_r _ [5, 6, 7, 4, 8] (by decide +kernel) (by decide +kernel)
set_option maxRecDepth 20000 in
theorem gX5_square_X5_isSquare : GoodIn wsX5_square (va_wsS RX5 104 yX5_isSquare wsX5_isSquare) := goodIn_app (goodIn_of _ (by decide +kernel)) ggX5_square_X5_isSquare
set_option maxRecDepth 20000 in
theorem ggX5_square_X5_fails : GoodIn wsX5_square wsX5_fails := goodIn_r _ [12, 13, 24, 25, 26, 27, 28, 29, 30, 31, 32, 33, 34, 35, 36, 37, 38, 39, 40, 41, 42, 43, 44, 45, 46] (by decide +kernel) (by decide +kernel)
set_option maxRecDepth 20000 in
theorem gX5_square_X5_fails : GoodIn wsX5_square (wsV RX5 107 RX5 yX5_fails wsX5_fails) := goodIn_app (goodIn_of _ (by decide +kernel)) ggX5_square_X5_fails
set_option maxRecDepth 20000 in
theorem ggX5_square_X5_isBetween : GoodIn wsX5_square wsX5_isBetween := goodIn_r _ [8] (by decide +kernel) (by decide +kernel)
set_option maxRecDepth 20000 in
theorem gX5_square_X5_isBetween : GoodIn wsX5_square (va_wsS RX5 67 yX5_isBetween wsX5_isBetween) := goodIn_app (goodIn_of _ (by decide +kernel)) ggX5_square_X5_isBetween
set_option maxRecDepth 20000 in
theorem ggX5_square_X5_isWall : GoodIn wsX5_square wsX5_isWall := goodIn_ca (goodIn_r _ [17, 1, 24, 25, 26, 27, 28, 29, 30, 31, 32, 33, 34, 35, 36, 37, 38, 39, 40, 41, 42, 43, 44, 45, 46] (by decide +kernel) (by decide +kernel)) (goodIn_sub (fun _ h => List.mem_cons_of_mem _ (List.mem_append_right _ h)) (by decide +kernel))
set_option maxRecDepth 20000 in
theorem gX5_square_X5_isWall : GoodIn wsX5_square (wsV RX5 71 RX5 yX5_isWall wsX5_isWall) := goodIn_app (goodIn_of _ (by decide +kernel)) ggX5_square_X5_isWall
set_option maxRecDepth 20000 in
theorem ggX5_square_X5_sideOf : GoodIn wsX5_square wsX5_sideOf := goodIn_r _ [20, 6, 7, 4, 8] (by decide +kernel) (by decide +kernel)
set_option maxRecDepth 20000 in
theorem gX5_square_X5_sideOf : GoodIn wsX5_square (va_wsS RX5 79 yX5_sideOf wsX5_sideOf) := goodIn_app (goodIn_of _ (by decide +kernel)) ggX5_square_X5_sideOf
set_option maxRecDepth 20000 in
theorem ggX5_square_X5_kindOf : GoodIn wsX5_square wsX5_kindOf := goodIn_r _ [23, 6, 7, 4, 8] (by decide +kernel) (by decide +kernel)
set_option maxRecDepth 20000 in
theorem gX5_square_X5_kindOf : GoodIn wsX5_square (va_wsS RX5 126 yX5_kindOf wsX5_kindOf) := goodIn_app (goodIn_of _ (by decide +kernel)) ggX5_square_X5_kindOf
theorem dX5_square_0 : decode cX5_square 0 = .ok (.aload_n 0, 1) := by decide +kernel
theorem dX5_square_1 : decode cX5_square 1 = .ok (.iconst 1, 1) := by decide +kernel
theorem dX5_square_2 : decode cX5_square 2 = .ok (.iload_n 1, 1) := by decide +kernel
theorem dX5_square_3 : decode cX5_square 3 = .ok (.invokestatic 104, 3) := by decide +kernel
theorem dX5_square_6 : decode cX5_square 6 = .ok (.ifCond .ne 7, 3) := by decide +kernel
theorem dX5_square_9 : decode cX5_square 9 = .ok (.iconst 1, 1) := by decide +kernel
theorem dX5_square_10 : decode cX5_square 10 = .ok (.goto 4, 3) := by decide +kernel
theorem dX5_square_13 : decode cX5_square 13 = .ok (.iconst 0, 1) := by decide +kernel
theorem dX5_square_14 : decode cX5_square 14 = .ok (.invokevirtual 107, 3) := by decide +kernel
theorem dX5_square_17 : decode cX5_square 17 = .ok (.ifCond .ne 25, 3) := by decide +kernel
theorem dX5_square_20 : decode cX5_square 20 = .ok (.aload_n 0, 1) := by decide +kernel
theorem dX5_square_21 : decode cX5_square 21 = .ok (.iconst 2, 1) := by decide +kernel
theorem dX5_square_22 : decode cX5_square 22 = .ok (.iload_n 2, 1) := by decide +kernel
theorem dX5_square_23 : decode cX5_square 23 = .ok (.iconst 0, 1) := by decide +kernel
theorem dX5_square_24 : decode cX5_square 24 = .ok (.iconst 3, 1) := by decide +kernel
theorem dX5_square_25 : decode cX5_square 25 = .ok (.invokestatic 67, 3) := by decide +kernel
theorem dX5_square_28 : decode cX5_square 28 = .ok (.ifCond .ne 7, 3) := by decide +kernel
theorem dX5_square_31 : decode cX5_square 31 = .ok (.iconst 1, 1) := by decide +kernel
theorem dX5_square_32 : decode cX5_square 32 = .ok (.goto 4, 3) := by decide +kernel
theorem dX5_square_35 : decode cX5_square 35 = .ok (.iconst 0, 1) := by decide +kernel
theorem dX5_square_36 : decode cX5_square 36 = .ok (.invokevirtual 107, 3) := by decide +kernel
theorem dX5_square_39 : decode cX5_square 39 = .ok (.ifCond .eq 5, 3) := by decide +kernel
theorem dX5_square_42 : decode cX5_square 42 = .ok (.iconst 0, 1) := by decide +kernel
theorem dX5_square_43 : decode cX5_square 43 = .ok (.ireturn, 1) := by decide +kernel
theorem dX5_square_44 : decode cX5_square 44 = .ok (.aload_n 0, 1) := by decide +kernel
theorem dX5_square_45 : decode cX5_square 45 = .ok (.getfield 9, 3) := by decide +kernel
theorem dX5_square_48 : decode cX5_square 48 = .ok (.bipush 36, 2) := by decide +kernel
theorem dX5_square_50 : decode cX5_square 50 = .ok (.iload_n 1, 1) := by decide +kernel
theorem dX5_square_51 : decode cX5_square 51 = .ok (.iadd, 1) := by decide +kernel
theorem dX5_square_52 : decode cX5_square 52 = .ok (.iaload, 1) := by decide +kernel
theorem dX5_square_53 : decode cX5_square 53 = .ok (.istore_n 3, 1) := by decide +kernel
theorem dX5_square_54 : decode cX5_square 54 = .ok (.aload_n 0, 1) := by decide +kernel
theorem dX5_square_55 : decode cX5_square 55 = .ok (.iload_n 1, 1) := by decide +kernel
theorem dX5_square_56 : decode cX5_square 56 = .ok (.invokevirtual 71, 3) := by decide +kernel
theorem dX5_square_59 : decode cX5_square 59 = .ok (.ifCond .eq 15, 3) := by decide +kernel
theorem dX5_square_62 : decode cX5_square 62 = .ok (.aload_n 0, 1) := by decide +kernel
theorem dX5_square_63 : decode cX5_square 63 = .ok (.getfield 9, 3) := by decide +kernel
theorem dX5_square_66 : decode cX5_square 66 = .ok (.iload_n 1, 1) := by decide +kernel
theorem dX5_square_67 : decode cX5_square 67 = .ok (.iaload, 1) := by decide +kernel
theorem dX5_square_68 : decode cX5_square 68 = .ok (.bipush 20, 2) := by decide +kernel
theorem dX5_square_70 : decode cX5_square 70 = .ok (.isub, 1) := by decide +kernel
theorem dX5_square_71 : decode cX5_square 71 = .ok (.goto 9, 3) := by decide +kernel
theorem dX5_square_74 : decode cX5_square 74 = .ok (.aload_n 0, 1) := by decide +kernel
theorem dX5_square_75 : decode cX5_square 75 = .ok (.getfield 9, 3) := by decide +kernel
theorem dX5_square_78 : decode cX5_square 78 = .ok (.iload_n 1, 1) := by decide +kernel
theorem dX5_square_79 : decode cX5_square 79 = .ok (.iaload, 1) := by decide +kernel
theorem dX5_square_80 : decode cX5_square 80 = .ok (.istore 4, 2) := by decide +kernel
theorem dX5_square_82 : decode cX5_square 82 = .ok (.iload_n 2, 1) := by decide +kernel
theorem dX5_square_83 : decode cX5_square 83 = .ok (.tableswitch 83 0 2 #[25, 56, 77], 25) := by decide +kernel
theorem dX5_square_108 : decode cX5_square 108 = .ok (.aload_n 0, 1) := by decide +kernel
theorem dX5_square_109 : decode cX5_square 109 = .ok (.iload_n 1, 1) := by decide +kernel
theorem dX5_square_110 : decode cX5_square 110 = .ok (.invokevirtual 71, 3) := by decide +kernel
theorem dX5_square_113 : decode cX5_square 113 = .ok (.ifCond .eq 7, 3) := by decide +kernel
theorem dX5_square_116 : decode cX5_square 116 = .ok (.iconst 2, 1) := by decide +kernel
theorem dX5_square_117 : decode cX5_square 117 = .ok (.goto 21, 3) := by decide +kernel
theorem dX5_square_120 : decode cX5_square 120 = .ok (.iload 4, 2) := by decide +kernel
theorem dX5_square_122 : decode cX5_square 122 = .ok (.ifCond .eq 7, 3) := by decide +kernel
theorem dX5_square_125 : decode cX5_square 125 = .ok (.iconst 1, 1) := by decide +kernel
theorem dX5_square_126 : decode cX5_square 126 = .ok (.goto 12, 3) := by decide +kernel
theorem dX5_square_129 : decode cX5_square 129 = .ok (.iload_n 3, 1) := by decide +kernel
theorem dX5_square_130 : decode cX5_square 130 = .ok (.ifCond .le 7, 3) := by decide +kernel
theorem dX5_square_133 : decode cX5_square 133 = .ok (.iconst 3, 1) := by decide +kernel
theorem dX5_square_134 : decode cX5_square 134 = .ok (.goto 4, 3) := by decide +kernel
theorem dX5_square_137 : decode cX5_square 137 = .ok (.iconst 0, 1) := by decide +kernel
theorem dX5_square_138 : decode cX5_square 138 = .ok (.ireturn, 1) := by decide +kernel
theorem dX5_square_139 : decode cX5_square 139 = .ok (.iload 4, 2) := by decide +kernel
theorem dX5_square_141 : decode cX5_square 141 = .ok (.ifCond .ne 13, 3) := by decide +kernel
theorem dX5_square_144 : decode cX5_square 144 = .ok (.iload_n 3, 1) := by decide +kernel
theorem dX5_square_145 : decode cX5_square 145 = .ok (.ifCond .le 9, 3) := by decide +kernel
theorem dX5_square_148 : decode cX5_square 148 = .ok (.iload_n 3, 1) := by decide +kernel
theorem dX5_square_149 : decode cX5_square 149 = .ok (.iconst 1, 1) := by decide +kernel
theorem dX5_square_150 : decode cX5_square 150 = .ok (.isub, 1) := by decide +kernel
theorem dX5_square_151 : decode cX5_square 151 = .ok (.goto 8, 3) := by decide +kernel
theorem dX5_square_154 : decode cX5_square 154 = .ok (.iload 4, 2) := by decide +kernel
theorem dX5_square_156 : decode cX5_square 156 = .ok (.invokestatic 79, 3) := by decide +kernel
theorem dX5_square_159 : decode cX5_square 159 = .ok (.ireturn, 1) := by decide +kernel
theorem dX5_square_160 : decode cX5_square 160 = .ok (.iload 4, 2) := by decide +kernel
theorem dX5_square_162 : decode cX5_square 162 = .ok (.invokestatic 126, 3) := by decide +kernel
theorem dX5_square_165 : decode cX5_square 165 = .ok (.ireturn, 1) := by decide +kernel
theorem dX5_square_166 : decode cX5_square 166 = .ok (.iload_n 3, 1) := by decide +kernel
theorem dX5_square_167 : decode cX5_square 167 = .ok (.ifCond .le 7, 3) := by decide +kernel
theorem dX5_square_170 : decode cX5_square 170 = .ok (.iconst 1, 1) := by decide +kernel
theorem dX5_square_171 : decode cX5_square 171 = .ok (.goto 4, 3) := by decide +kernel
theorem dX5_square_174 : decode cX5_square 174 = .ok (.iconst 0, 1) := by decide +kernel
theorem dX5_square_175 : decode cX5_square 175 = .ok (.ireturn, 1) := by decide +kernel
set_option maxRecDepth 20000 in
theorem ggX5_lacksPiece_X5_sideOf : GoodIn wsX5_lacksPiece wsX5_sideOf := goodIn_r _ [5, 6, 7, 4, 8] (by decide +kernel) (by decide +kernel)
set_option maxRecDepth 20000 in
theorem gX5_lacksPiece_X5_sideOf : GoodIn wsX5_lacksPiece (va_wsS RX5 79 yX5_sideOf wsX5_sideOf) := goodIn_app (goodIn_of _ (by decide +kernel)) ggX5_lacksPiece_X5_sideOf
theorem dX5_lacksPiece_0 : decode cX5_lacksPiece 0 = .ok (.aload_n 0, 1) := by decide +kernel
theorem dX5_lacksPiece_1 : decode cX5_lacksPiece 1 = .ok (.getfield 9, 3) := by decide +kernel
theorem dX5_lacksPiece_4 : decode cX5_lacksPiece 4 = .ok (.iload_n 1, 1) := by decide +kernel
theorem dX5_lacksPiece_5 : decode cX5_lacksPiece 5 = .ok (.iaload, 1) := by decide +kernel
theorem dX5_lacksPiece_6 : decode cX5_lacksPiece 6 = .ok (.invokestatic 79, 3) := by decide +kernel
theorem dX5_lacksPiece_9 : decode cX5_lacksPiece 9 = .ok (.ifCond .ge 7, 3) := by decide +kernel
theorem dX5_lacksPiece_12 : decode cX5_lacksPiece 12 = .ok (.iconst 1, 1) := by decide +kernel
theorem dX5_lacksPiece_13 : decode cX5_lacksPiece 13 = .ok (.goto 4, 3) := by decide +kernel
theorem dX5_lacksPiece_16 : decode cX5_lacksPiece 16 = .ok (.iconst 0, 1) := by decide +kernel
theorem dX5_lacksPiece_17 : decode cX5_lacksPiece 17 = .ok (.ireturn, 1) := by decide +kernel
set_option maxRecDepth 20000 in
theorem ggX5_canMove_X5_isSquare : GoodIn wsX5_canMove wsX5_isSquare := goodIn_r _ [4, 5, 6, 3, 7] (by decide +kernel) (by decide +kernel)
set_option maxRecDepth 20000 in
theorem gX5_canMove_X5_isSquare : GoodIn wsX5_canMove (va_wsS RX5 104 yX5_isSquare wsX5_isSquare) := goodIn_app (goodIn_of _ (by decide +kernel)) ggX5_canMove_X5_isSquare
set_option maxRecDepth 20000 in
theorem ggX5_canMove_X5_fails : GoodIn wsX5_canMove wsX5_fails := goodIn_r _ [11, 12, 62, 63, 64, 65, 66, 67, 68, 69, 70, 71, 72, 73, 74, 75, 76, 77, 78, 79, 80, 81, 82, 83, 84] (by decide +kernel) (by decide +kernel)
set_option maxRecDepth 20000 in
theorem gX5_canMove_X5_fails : GoodIn wsX5_canMove (wsV RX5 107 RX5 yX5_fails wsX5_fails) := goodIn_app (goodIn_of _ (by decide +kernel)) ggX5_canMove_X5_fails
set_option maxRecDepth 20000 in
theorem ggX5_canMove_X5_lacksPiece : GoodIn wsX5_canMove wsX5_lacksPiece := goodIn_ca (goodIn_r _ [16, 17, 18, 19, 3, 20, 5, 6, 7, 62, 63, 64, 65, 66, 67, 68, 69, 70, 71, 72, 73, 74, 75, 76, 77, 78, 79, 80, 81, 82, 83, 84] (by decide +kernel) (by decide +kernel)) (goodIn_sub (fun _ h => List.mem_cons_of_mem _ (List.mem_append_right _ h)) (by decide +kernel))
set_option maxRecDepth 20000 in
theorem gX5_canMove_X5_lacksPiece : GoodIn wsX5_canMove (wsV RX5 198 RX5 yX5_lacksPiece wsX5_lacksPiece) := goodIn_app (goodIn_of _ (by decide +kernel)) ggX5_canMove_X5_lacksPiece
set_option maxRecDepth 20000 in
theorem ggX5_canMove_X5_can : GoodIn wsX5_canMove wsX5_can := goodIn_ca (goodIn_r _ [24, 25, 26, 27, 28, 3, 29, 17, 18, 19, 20, 5, 6, 7, 30, 31, 32, 33, 34, 35, 36, 37, 38, 39, 40, 41, 42, 43, 44, 45, 46, 47, 48, 49, 50, 51, 52, 53, 54, 55, 56, 57, 58, 59, 60, 61, 62, 63, 64, 65, 66, 67, 68, 69, 70, 71, 72, 73, 74, 75, 76, 77, 78, 79, 80, 81, 82, 83, 84] (by decide +kernel) (by decide +kernel)) (goodIn_sub (fun _ h => List.mem_cons_of_mem _ (List.mem_append_right _ h)) (by decide +kernel))
set_option maxRecDepth 20000 in
theorem gX5_canMove_X5_can : GoodIn wsX5_canMove (wsV RX5 163 RX5 yX5_can wsX5_can) := goodIn_app (goodIn_of _ (by decide +kernel)) ggX5_canMove_X5_can
theorem dX5_canMove_0 : decode cX5_canMove 0 = .ok (.aload_n 0, 1) := by decide +kernel
theorem dX5_canMove_1 : decode cX5_canMove 1 = .ok (.iconst 1, 1) := by decide +kernel
theorem dX5_canMove_2 : decode cX5_canMove 2 = .ok (.iload_n 1, 1) := by decide +kernel
theorem dX5_canMove_3 : decode cX5_canMove 3 = .ok (.invokestatic 104, 3) := by decide +kernel
theorem dX5_canMove_6 : decode cX5_canMove 6 = .ok (.ifCond .eq 10, 3) := by decide +kernel
theorem dX5_canMove_9 : decode cX5_canMove 9 = .ok (.iload_n 2, 1) := by decide +kernel
theorem dX5_canMove_10 : decode cX5_canMove 10 = .ok (.invokestatic 104, 3) := by decide +kernel
theorem dX5_canMove_13 : decode cX5_canMove 13 = .ok (.ifCond .ne 7, 3) := by decide +kernel
theorem dX5_canMove_16 : decode cX5_canMove 16 = .ok (.iconst 1, 1) := by decide +kernel
theorem dX5_canMove_17 : decode cX5_canMove 17 = .ok (.goto 4, 3) := by decide +kernel
theorem dX5_canMove_20 : decode cX5_canMove 20 = .ok (.iconst 0, 1) := by decide +kernel
theorem dX5_canMove_21 : decode cX5_canMove 21 = .ok (.invokevirtual 107, 3) := by decide +kernel
theorem dX5_canMove_24 : decode cX5_canMove 24 = .ok (.ifCond .ne 16, 3) := by decide +kernel
theorem dX5_canMove_27 : decode cX5_canMove 27 = .ok (.aload_n 0, 1) := by decide +kernel
theorem dX5_canMove_28 : decode cX5_canMove 28 = .ok (.iconst 2, 1) := by decide +kernel
theorem dX5_canMove_29 : decode cX5_canMove 29 = .ok (.aload_n 0, 1) := by decide +kernel
theorem dX5_canMove_30 : decode cX5_canMove 30 = .ok (.iload_n 1, 1) := by decide +kernel
theorem dX5_canMove_31 : decode cX5_canMove 31 = .ok (.invokevirtual 198, 3) := by decide +kernel
theorem dX5_canMove_34 : decode cX5_canMove 34 = .ok (.invokevirtual 107, 3) := by decide +kernel
theorem dX5_canMove_37 : decode cX5_canMove 37 = .ok (.ifCond .eq 5, 3) := by decide +kernel
theorem dX5_canMove_40 : decode cX5_canMove 40 = .ok (.iconst 0, 1) := by decide +kernel
theorem dX5_canMove_41 : decode cX5_canMove 41 = .ok (.ireturn, 1) := by decide +kernel
theorem dX5_canMove_42 : decode cX5_canMove 42 = .ok (.aload_n 0, 1) := by decide +kernel
theorem dX5_canMove_43 : decode cX5_canMove 43 = .ok (.iload_n 1, 1) := by decide +kernel
theorem dX5_canMove_44 : decode cX5_canMove 44 = .ok (.iload_n 2, 1) := by decide +kernel
theorem dX5_canMove_45 : decode cX5_canMove 45 = .ok (.invokevirtual 163, 3) := by decide +kernel
theorem dX5_canMove_48 : decode cX5_canMove 48 = .ok (.ireturn, 1) := by decide +kernel
set_option maxRecDepth 20000 in
theorem ggX5_moves_X5_isSquare : GoodIn wsX5_moves wsX5_isSquare := goodIn_r _ [4, 5, 6, 3, 7] (by decide +kernel) (by decide +kernel)
set_option maxRecDepth 20000 in
theorem gX5_moves_X5_isSquare : GoodIn wsX5_moves (va_wsS RX5 104 yX5_isSquare wsX5_isSquare) := goodIn_app (goodIn_of _ (by decide +kernel)) ggX5_moves_X5_isSquare
set_option maxRecDepth 20000 in
theorem ggX5_moves_X5_fails : GoodIn wsX5_moves wsX5_fails := goodIn_r _ [11, 12, 62, 63, 64, 65, 66, 67, 68, 69, 70, 71, 72, 73, 74, 75, 76, 77, 78, 79, 80, 81, 82, 83, 84] (by decide +kernel) (by decide +kernel)
set_option maxRecDepth 20000 in
theorem gX5_moves_X5_fails : GoodIn wsX5_moves (wsV RX5 107 RX5 yX5_fails wsX5_fails) := goodIn_app (goodIn_of _ (by decide +kernel)) ggX5_moves_X5_fails
set_option maxRecDepth 20000 in
theorem ggX5_moves_X5_lacksPiece : GoodIn wsX5_moves wsX5_lacksPiece := goodIn_ca (goodIn_r _ [16, 17, 18, 19, 3, 20, 5, 6, 7, 62, 63, 64, 65, 66, 67, 68, 69, 70, 71, 72, 73, 74, 75, 76, 77, 78, 79, 80, 81, 82, 83, 84] (by decide +kernel) (by decide +kernel)) (goodIn_sub (fun _ h => List.mem_cons_of_mem _ (List.mem_append_right _ h)) (by decide +kernel))
set_option maxRecDepth 20000 in
theorem gX5_moves_X5_lacksPiece : GoodIn wsX5_moves (wsV RX5 198 RX5 yX5_lacksPiece wsX5_lacksPiece) := goodIn_app (goodIn_of _ (by decide +kernel)) ggX5_moves_X5_lacksPiece
set_option maxRecDepth 20000 in
theorem ggX5_moves_X5_countMoves : GoodIn wsX5_moves wsX5_countMoves := goodIn_ca (goodIn_r _ [24, 25, 26, 27, 28, 3, 29, 17, 18, 19, 20, 5, 6, 7, 30, 31, 32, 33, 34, 35, 36, 37, 38, 39, 40, 41, 42, 43, 44, 45, 46, 47, 48, 49, 50, 51, 52, 53, 54, 55, 56, 57, 58, 59, 60, 61, 62, 63, 64, 65, 66, 67, 68, 69, 70, 71, 72, 73, 74, 75, 76, 77, 78, 79, 80, 81, 82, 83, 84] (by decide +kernel) (by decide +kernel)) (goodIn_sub (fun _ h => List.mem_cons_of_mem _ (List.mem_append_right _ h)) (by decide +kernel))
set_option maxRecDepth 20000 in
theorem gX5_moves_X5_countMoves : GoodIn wsX5_moves (wsV RX5 143 RX5 yX5_countMoves wsX5_countMoves) := goodIn_app (goodIn_of _ (by decide +kernel)) ggX5_moves_X5_countMoves
theorem dX5_moves_0 : decode cX5_moves 0 = .ok (.aload_n 0, 1) := by decide +kernel
theorem dX5_moves_1 : decode cX5_moves 1 = .ok (.iconst 1, 1) := by decide +kernel
theorem dX5_moves_2 : decode cX5_moves 2 = .ok (.iload_n 1, 1) := by decide +kernel
theorem dX5_moves_3 : decode cX5_moves 3 = .ok (.invokestatic 104, 3) := by decide +kernel
theorem dX5_moves_6 : decode cX5_moves 6 = .ok (.ifCond .ne 7, 3) := by decide +kernel
theorem dX5_moves_9 : decode cX5_moves 9 = .ok (.iconst 1, 1) := by decide +kernel
theorem dX5_moves_10 : decode cX5_moves 10 = .ok (.goto 4, 3) := by decide +kernel
theorem dX5_moves_13 : decode cX5_moves 13 = .ok (.iconst 0, 1) := by decide +kernel
theorem dX5_moves_14 : decode cX5_moves 14 = .ok (.invokevirtual 107, 3) := by decide +kernel
theorem dX5_moves_17 : decode cX5_moves 17 = .ok (.ifCond .ne 16, 3) := by decide +kernel
theorem dX5_moves_20 : decode cX5_moves 20 = .ok (.aload_n 0, 1) := by decide +kernel
theorem dX5_moves_21 : decode cX5_moves 21 = .ok (.iconst 2, 1) := by decide +kernel
theorem dX5_moves_22 : decode cX5_moves 22 = .ok (.aload_n 0, 1) := by decide +kernel
theorem dX5_moves_23 : decode cX5_moves 23 = .ok (.iload_n 1, 1) := by decide +kernel
theorem dX5_moves_24 : decode cX5_moves 24 = .ok (.invokevirtual 198, 3) := by decide +kernel
theorem dX5_moves_27 : decode cX5_moves 27 = .ok (.invokevirtual 107, 3) := by decide +kernel
theorem dX5_moves_30 : decode cX5_moves 30 = .ok (.ifCond .eq 7, 3) := by decide +kernel
theorem dX5_moves_33 : decode cX5_moves 33 = .ok (.iconst 0, 1) := by decide +kernel
theorem dX5_moves_34 : decode cX5_moves 34 = .ok (.goto 8, 3) := by decide +kernel
theorem dX5_moves_37 : decode cX5_moves 37 = .ok (.aload_n 0, 1) := by decide +kernel
theorem dX5_moves_38 : decode cX5_moves 38 = .ok (.iload_n 1, 1) := by decide +kernel
theorem dX5_moves_39 : decode cX5_moves 39 = .ok (.invokevirtual 143, 3) := by decide +kernel
theorem dX5_moves_42 : decode cX5_moves 42 = .ok (.ireturn, 1) := by decide +kernel
set_option maxRecDepth 20000 in
theorem ggX5_captures_X5_isSquare : GoodIn wsX5_captures wsX5_isSquare := goodIn_r _ [6, 7, 8, 5, 9] (by decide +kernel) (by decide +kernel)
set_option maxRecDepth 20000 in
theorem gX5_captures_X5_isSquare : GoodIn wsX5_captures (va_wsS RX5 104 yX5_isSquare wsX5_isSquare) := goodIn_app (goodIn_of _ (by decide +kernel)) ggX5_captures_X5_isSquare
set_option maxRecDepth 20000 in
theorem ggX5_captures_X5_fails : GoodIn wsX5_captures wsX5_fails := goodIn_r _ [13, 14, 70, 71, 72, 73, 74, 75, 76, 77, 78, 79, 80, 81, 82, 83, 84, 85, 86, 87, 88, 89, 90, 91, 92] (by decide +kernel) (by decide +kernel)
set_option maxRecDepth 20000 in
theorem gX5_captures_X5_fails : GoodIn wsX5_captures (wsV RX5 107 RX5 yX5_fails wsX5_fails) := goodIn_app (goodIn_of _ (by decide +kernel)) ggX5_captures_X5_fails
set_option maxRecDepth 20000 in
theorem ggX5_captures_X5_lacksPiece : GoodIn wsX5_captures wsX5_lacksPiece := goodIn_ca (goodIn_r _ [18, 1, 19, 20, 5, 21, 7, 8, 9, 70, 71, 72, 73, 74, 75, 76, 77, 78, 79, 80, 81, 82, 83, 84, 85, 86, 87, 88, 89, 90, 91, 92] (by decide +kernel) (by decide +kernel)) (goodIn_sub (fun _ h => List.mem_cons_of_mem _ (List.mem_append_right _ h)) (by decide +kernel))
set_option maxRecDepth 20000 in
theorem gX5_captures_X5_lacksPiece : GoodIn wsX5_captures (wsV RX5 198 RX5 yX5_lacksPiece wsX5_lacksPiece) := goodIn_app (goodIn_of _ (by decide +kernel)) ggX5_captures_X5_lacksPiece
set_option maxRecDepth 20000 in
theorem ggX5_captures_X5_can : GoodIn wsX5_captures wsX5_can := goodIn_ca (goodIn_r _ [25, 26, 27, 28, 29, 5, 30, 1, 19, 20, 21, 7, 8, 9, 31, 32, 33, 34, 35, 36, 37, 38, 39, 40, 41, 42, 43, 44, 45, 46, 47, 48, 49, 50, 51, 52, 53, 54, 55, 56, 57, 58, 59, 60, 61, 62, 70, 71, 72, 73, 74, 75, 76, 77, 78, 79, 80, 81, 82, 83, 84, 85, 86, 87, 88, 89, 90, 91, 92] (by decide +kernel) (by decide +kernel)) (goodIn_sub (fun _ h => List.mem_cons_of_mem _ (List.mem_append_right _ h)) (by decide +kernel))
set_option maxRecDepth 20000 in
theorem gX5_captures_X5_can : GoodIn wsX5_captures (wsV RX5 163 RX5 yX5_can wsX5_can) := goodIn_app (goodIn_of _ (by decide +kernel)) ggX5_captures_X5_can
set_option maxRecDepth 20000 in
theorem ggX5_captures_X5_copyRow : GoodIn wsX5_captures wsX5_copyRow := goodIn_ca (goodIn_r _ [65] (by decide +kernel) (by decide +kernel)) (goodIn_sub (fun _ h => List.mem_cons_of_mem _ (List.mem_append_right _ h)) (by decide +kernel))
set_option maxRecDepth 20000 in
theorem gX5_captures_X5_copyRow : GoodIn wsX5_captures (va_wsS RX5 63 yX5_copyRow wsX5_copyRow) := goodIn_app (goodIn_of _ (by decide +kernel)) ggX5_captures_X5_copyRow
set_option maxRecDepth 20000 in
theorem ggX5_captures_X5_go : GoodIn wsX5_captures wsX5_go := goodIn_ca (goodIn_r _ [69, 1, 19, 20, 5, 21, 7, 8, 9, 38, 39, 40, 70, 71, 72, 73, 74, 75, 76, 77, 78, 79, 80, 81, 82, 83, 84, 85, 86, 87, 88, 89, 90, 91, 92] (by decide +kernel) (by decide +kernel)) (goodIn_sub (fun _ h => List.mem_cons_of_mem _ (List.mem_append_right _ h)) (by decide +kernel))
set_option maxRecDepth 20000 in
theorem gX5_captures_X5_go : GoodIn wsX5_captures (wsV RX5 169 RX5 yX5_go wsX5_go) := goodIn_app (goodIn_of _ (by decide +kernel)) ggX5_captures_X5_go
theorem dX5_captures_0 : decode cX5_captures 0 = .ok (.aload_n 0, 1) := by decide +kernel
theorem dX5_captures_1 : decode cX5_captures 1 = .ok (.iconst 1, 1) := by decide +kernel
theorem dX5_captures_2 : decode cX5_captures 2 = .ok (.iload_n 1, 1) := by decide +kernel
theorem dX5_captures_3 : decode cX5_captures 3 = .ok (.invokestatic 104, 3) := by decide +kernel
theorem dX5_captures_6 : decode cX5_captures 6 = .ok (.ifCond .eq 10, 3) := by decide +kernel
theorem dX5_captures_9 : decode cX5_captures 9 = .ok (.iload_n 2, 1) := by decide +kernel
theorem dX5_captures_10 : decode cX5_captures 10 = .ok (.invokestatic 104, 3) := by decide +kernel
theorem dX5_captures_13 : decode cX5_captures 13 = .ok (.ifCond .ne 7, 3) := by decide +kernel
theorem dX5_captures_16 : decode cX5_captures 16 = .ok (.iconst 1, 1) := by decide +kernel
theorem dX5_captures_17 : decode cX5_captures 17 = .ok (.goto 4, 3) := by decide +kernel
theorem dX5_captures_20 : decode cX5_captures 20 = .ok (.iconst 0, 1) := by decide +kernel
theorem dX5_captures_21 : decode cX5_captures 21 = .ok (.invokevirtual 107, 3) := by decide +kernel
theorem dX5_captures_24 : decode cX5_captures 24 = .ok (.ifCond .ne 33, 3) := by decide +kernel
theorem dX5_captures_27 : decode cX5_captures 27 = .ok (.aload_n 0, 1) := by decide +kernel
theorem dX5_captures_28 : decode cX5_captures 28 = .ok (.iconst 2, 1) := by decide +kernel
theorem dX5_captures_29 : decode cX5_captures 29 = .ok (.aload_n 0, 1) := by decide +kernel
theorem dX5_captures_30 : decode cX5_captures 30 = .ok (.iload_n 1, 1) := by decide +kernel
theorem dX5_captures_31 : decode cX5_captures 31 = .ok (.invokevirtual 198, 3) := by decide +kernel
theorem dX5_captures_34 : decode cX5_captures 34 = .ok (.ifCond .ne 12, 3) := by decide +kernel
theorem dX5_captures_37 : decode cX5_captures 37 = .ok (.aload_n 0, 1) := by decide +kernel
theorem dX5_captures_38 : decode cX5_captures 38 = .ok (.iload_n 1, 1) := by decide +kernel
theorem dX5_captures_39 : decode cX5_captures 39 = .ok (.iload_n 2, 1) := by decide +kernel
theorem dX5_captures_40 : decode cX5_captures 40 = .ok (.invokevirtual 163, 3) := by decide +kernel
theorem dX5_captures_43 : decode cX5_captures 43 = .ok (.ifCond .ne 7, 3) := by decide +kernel
theorem dX5_captures_46 : decode cX5_captures 46 = .ok (.iconst 1, 1) := by decide +kernel
theorem dX5_captures_47 : decode cX5_captures 47 = .ok (.goto 4, 3) := by decide +kernel
theorem dX5_captures_50 : decode cX5_captures 50 = .ok (.iconst 0, 1) := by decide +kernel
theorem dX5_captures_51 : decode cX5_captures 51 = .ok (.invokevirtual 107, 3) := by decide +kernel
theorem dX5_captures_54 : decode cX5_captures 54 = .ok (.ifCond .eq 5, 3) := by decide +kernel
theorem dX5_captures_57 : decode cX5_captures 57 = .ok (.iconst 0, 1) := by decide +kernel
theorem dX5_captures_58 : decode cX5_captures 58 = .ok (.ireturn, 1) := by decide +kernel
theorem dX5_captures_59 : decode cX5_captures 59 = .ok (.aload_n 0, 1) := by decide +kernel
theorem dX5_captures_60 : decode cX5_captures 60 = .ok (.getfield 9, 3) := by decide +kernel
theorem dX5_captures_63 : decode cX5_captures 63 = .ok (.aload_n 0, 1) := by decide +kernel
theorem dX5_captures_64 : decode cX5_captures 64 = .ok (.getfield 31, 3) := by decide +kernel
theorem dX5_captures_67 : decode cX5_captures 67 = .ok (.invokestatic 63, 3) := by decide +kernel
theorem dX5_captures_70 : decode cX5_captures 70 = .ok (.aload_n 0, 1) := by decide +kernel
theorem dX5_captures_71 : decode cX5_captures 71 = .ok (.iload_n 1, 1) := by decide +kernel
theorem dX5_captures_72 : decode cX5_captures 72 = .ok (.iload_n 2, 1) := by decide +kernel
theorem dX5_captures_73 : decode cX5_captures 73 = .ok (.invokevirtual 169, 3) := by decide +kernel
theorem dX5_captures_76 : decode cX5_captures 76 = .ok (.istore_n 3, 1) := by decide +kernel
theorem dX5_captures_77 : decode cX5_captures 77 = .ok (.aload_n 0, 1) := by decide +kernel
theorem dX5_captures_78 : decode cX5_captures 78 = .ok (.getfield 31, 3) := by decide +kernel
theorem dX5_captures_81 : decode cX5_captures 81 = .ok (.aload_n 0, 1) := by decide +kernel
theorem dX5_captures_82 : decode cX5_captures 82 = .ok (.getfield 9, 3) := by decide +kernel
theorem dX5_captures_85 : decode cX5_captures 85 = .ok (.invokestatic 63, 3) := by decide +kernel
theorem dX5_captures_88 : decode cX5_captures 88 = .ok (.iload_n 3, 1) := by decide +kernel
theorem dX5_captures_89 : decode cX5_captures 89 = .ok (.ireturn, 1) := by decide +kernel
set_option maxRecDepth 20000 in
theorem ggX5_worthOf_X5_sideOf : GoodIn wsX5_worthOf wsX5_sideOf := goodIn_r _ [6, 7, 8, 5, 9] (by decide +kernel) (by decide +kernel)
set_option maxRecDepth 20000 in
theorem gX5_worthOf_X5_sideOf : GoodIn wsX5_worthOf (va_wsS RX5 79 yX5_sideOf wsX5_sideOf) := goodIn_app (goodIn_of _ (by decide +kernel)) ggX5_worthOf_X5_sideOf
set_option maxRecDepth 20000 in
theorem ggX5_worthOf_X5_copyRow : GoodIn wsX5_worthOf wsX5_copyRow := goodIn_ca (goodIn_r _ [12] (by decide +kernel) (by decide +kernel)) (goodIn_sub (fun _ h => List.mem_cons_of_mem _ (List.mem_append_right _ h)) (by decide +kernel))
set_option maxRecDepth 20000 in
theorem gX5_worthOf_X5_copyRow : GoodIn wsX5_worthOf (va_wsS RX5 63 yX5_copyRow wsX5_copyRow) := goodIn_app (goodIn_of _ (by decide +kernel)) ggX5_worthOf_X5_copyRow
set_option maxRecDepth 20000 in
theorem ggX5_worthOf_X5_go : GoodIn wsX5_worthOf wsX5_go := goodIn_ca (goodIn_r _ [16, 1, 3, 4, 5, 6, 7, 8, 9, 17, 18, 19, 51, 52, 53, 54, 55, 56, 57, 58, 59, 60, 61, 62, 63, 64, 65, 66, 67, 68, 69, 70, 71, 72, 73] (by decide +kernel) (by decide +kernel)) (goodIn_sub (fun _ h => List.mem_cons_of_mem _ (List.mem_append_right _ h)) (by decide +kernel))
set_option maxRecDepth 20000 in
theorem gX5_worthOf_X5_go : GoodIn wsX5_worthOf (wsV RX5 169 RX5 yX5_go wsX5_go) := goodIn_app (goodIn_of _ (by decide +kernel)) ggX5_worthOf_X5_go
set_option maxRecDepth 20000 in
theorem ggX5_worthOf_X5_countSealed : GoodIn wsX5_worthOf wsX5_countSealed := goodIn_ca (goodIn_r _ [23, 24, 25, 26, 27, 5, 28, 29, 30, 31, 32, 33, 1, 34, 35, 36, 37, 38, 39, 40, 41, 42, 17, 18, 19, 7, 8, 9, 43, 44, 45, 46, 3, 4, 6, 47, 48, 49, 50, 51, 52, 53, 54, 55, 56, 57, 58, 59, 60, 61, 62, 63, 64, 65, 66, 67, 68, 69, 70, 71, 72, 73] (by decide +kernel) (by decide +kernel)) (goodIn_sub (fun _ h => List.mem_cons_of_mem _ (List.mem_append_right _ h)) (by decide +kernel))
set_option maxRecDepth 20000 in
theorem gX5_worthOf_X5_countSealed : GoodIn wsX5_worthOf (wsV RX5 201 RX5 yX5_countSealed wsX5_countSealed) := goodIn_app (goodIn_of _ (by decide +kernel)) ggX5_worthOf_X5_countSealed
theorem dX5_worthOf_0 : decode cX5_worthOf 0 = .ok (.iconst 1, 1) := by decide +kernel
theorem dX5_worthOf_1 : decode cX5_worthOf 1 = .ok (.aload_n 0, 1) := by decide +kernel
theorem dX5_worthOf_2 : decode cX5_worthOf 2 = .ok (.getfield 9, 3) := by decide +kernel
theorem dX5_worthOf_5 : decode cX5_worthOf 5 = .ok (.iload_n 1, 1) := by decide +kernel
theorem dX5_worthOf_6 : decode cX5_worthOf 6 = .ok (.iaload, 1) := by decide +kernel
theorem dX5_worthOf_7 : decode cX5_worthOf 7 = .ok (.invokestatic 79, 3) := by decide +kernel
theorem dX5_worthOf_10 : decode cX5_worthOf 10 = .ok (.isub, 1) := by decide +kernel
theorem dX5_worthOf_11 : decode cX5_worthOf 11 = .ok (.istore_n 3, 1) := by decide +kernel
theorem dX5_worthOf_12 : decode cX5_worthOf 12 = .ok (.aload_n 0, 1) := by decide +kernel
theorem dX5_worthOf_13 : decode cX5_worthOf 13 = .ok (.getfield 9, 3) := by decide +kernel
theorem dX5_worthOf_16 : decode cX5_worthOf 16 = .ok (.aload_n 0, 1) := by decide +kernel
theorem dX5_worthOf_17 : decode cX5_worthOf 17 = .ok (.getfield 31, 3) := by decide +kernel
theorem dX5_worthOf_20 : decode cX5_worthOf 20 = .ok (.invokestatic 63, 3) := by decide +kernel
theorem dX5_worthOf_23 : decode cX5_worthOf 23 = .ok (.aload_n 0, 1) := by decide +kernel
theorem dX5_worthOf_24 : decode cX5_worthOf 24 = .ok (.iload_n 1, 1) := by decide +kernel
theorem dX5_worthOf_25 : decode cX5_worthOf 25 = .ok (.iload_n 2, 1) := by decide +kernel
theorem dX5_worthOf_26 : decode cX5_worthOf 26 = .ok (.invokevirtual 169, 3) := by decide +kernel
theorem dX5_worthOf_29 : decode cX5_worthOf 29 = .ok (.istore 4, 2) := by decide +kernel
theorem dX5_worthOf_31 : decode cX5_worthOf 31 = .ok (.aload_n 0, 1) := by decide +kernel
theorem dX5_worthOf_32 : decode cX5_worthOf 32 = .ok (.iload_n 3, 1) := by decide +kernel
theorem dX5_worthOf_33 : decode cX5_worthOf 33 = .ok (.invokevirtual 201, 3) := by decide +kernel
theorem dX5_worthOf_36 : decode cX5_worthOf 36 = .ok (.istore 5, 2) := by decide +kernel
theorem dX5_worthOf_38 : decode cX5_worthOf 38 = .ok (.aload_n 0, 1) := by decide +kernel
theorem dX5_worthOf_39 : decode cX5_worthOf 39 = .ok (.getfield 31, 3) := by decide +kernel
theorem dX5_worthOf_42 : decode cX5_worthOf 42 = .ok (.aload_n 0, 1) := by decide +kernel
theorem dX5_worthOf_43 : decode cX5_worthOf 43 = .ok (.getfield 9, 3) := by decide +kernel
theorem dX5_worthOf_46 : decode cX5_worthOf 46 = .ok (.invokestatic 63, 3) := by decide +kernel
theorem dX5_worthOf_49 : decode cX5_worthOf 49 = .ok (.bipush 10, 2) := by decide +kernel
theorem dX5_worthOf_51 : decode cX5_worthOf 51 = .ok (.iload 4, 2) := by decide +kernel
theorem dX5_worthOf_53 : decode cX5_worthOf 53 = .ok (.imul, 1) := by decide +kernel
theorem dX5_worthOf_54 : decode cX5_worthOf 54 = .ok (.iload 5, 2) := by decide +kernel
theorem dX5_worthOf_56 : decode cX5_worthOf 56 = .ok (.iadd, 1) := by decide +kernel

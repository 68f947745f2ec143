theorem dX0_init_0 : decode cX0_init 0 = .ok (.aload_n 0, 1) := by decide +kernel
theorem dX0_init_1 : decode cX0_init 1 = .ok (.invokespecial 1, 3) := by decide +kernel
theorem dX0_init_4 : decode cX0_init 4 = .ok (.aload_n 0, 1) := by decide +kernel
theorem dX0_init_5 : decode cX0_init 5 = .ok (.bipush 90, 2) := by decide +kernel
theorem dX0_init_7 : decode cX0_init 7 = .ok (.newarray .long, 2) := by decide +kernel
theorem dX0_init_9 : decode cX0_init 9 = .ok (.putfield 11, 3) := by decide +kernel
theorem dX0_init_12 : decode cX0_init 12 = .ok (.return_, 1) := by decide +kernel
theorem dX0_count_0 : decode cX0_count 0 = .ok (.aload_n 0, 1) := by decide +kernel
theorem dX0_count_1 : decode cX0_count 1 = .ok (.getfield 15, 3) := by decide +kernel
theorem dX0_count_4 : decode cX0_count 4 = .ok (.ireturn, 1) := by decide +kernel
set_option maxRecDepth 20000 in
theorem ggX0_remember_X2_writeTo : GoodIn wsX0_remember wsX2_writeTo := goodIn_ca (goodIn_r _ [12, 13, 17] (by decide +kernel) (by decide +kernel)) (goodIn_sub (fun _ h => List.mem_cons_of_mem _ (List.mem_append_right _ h)) (by decide +kernel))
set_option maxRecDepth 20000 in
theorem gX0_remember_X2_writeTo : GoodIn wsX0_remember (wsV RX0 22 RX2 yX2_writeTo wsX2_writeTo) := goodIn_app (goodIn_of _ (by decide +kernel)) ggX0_remember_X2_writeTo
theorem dX0_remember_0 : decode cX0_remember 0 = .ok (.aload_n 1, 1) := by decide +kernel
theorem dX0_remember_1 : decode cX0_remember 1 = .ok (.aload_n 0, 1) := by decide +kernel
theorem dX0_remember_2 : decode cX0_remember 2 = .ok (.getfield 11, 3) := by decide +kernel
theorem dX0_remember_5 : decode cX0_remember 5 = .ok (.aload_n 0, 1) := by decide +kernel
theorem dX0_remember_6 : decode cX0_remember 6 = .ok (.getfield 19, 3) := by decide +kernel
theorem dX0_remember_9 : decode cX0_remember 9 = .ok (.bipush 15, 2) := by decide +kernel
theorem dX0_remember_11 : decode cX0_remember 11 = .ok (.imul, 1) := by decide +kernel
theorem dX0_remember_12 : decode cX0_remember 12 = .ok (.invokevirtual 22, 3) := by decide +kernel
theorem dX0_remember_15 : decode cX0_remember 15 = .ok (.aload_n 0, 1) := by decide +kernel
theorem dX0_remember_16 : decode cX0_remember 16 = .ok (.aload_n 0, 1) := by decide +kernel
theorem dX0_remember_17 : decode cX0_remember 17 = .ok (.getfield 19, 3) := by decide +kernel
theorem dX0_remember_20 : decode cX0_remember 20 = .ok (.iconst 1, 1) := by decide +kernel
theorem dX0_remember_21 : decode cX0_remember 21 = .ok (.iadd, 1) := by decide +kernel
theorem dX0_remember_22 : decode cX0_remember 22 = .ok (.bipush 6, 2) := by decide +kernel
theorem dX0_remember_24 : decode cX0_remember 24 = .ok (.irem, 1) := by decide +kernel
theorem dX0_remember_25 : decode cX0_remember 25 = .ok (.putfield 19, 3) := by decide +kernel
theorem dX0_remember_28 : decode cX0_remember 28 = .ok (.aload_n 0, 1) := by decide +kernel
theorem dX0_remember_29 : decode cX0_remember 29 = .ok (.aload_n 0, 1) := by decide +kernel
theorem dX0_remember_30 : decode cX0_remember 30 = .ok (.getfield 15, 3) := by decide +kernel
theorem dX0_remember_33 : decode cX0_remember 33 = .ok (.iconst 1, 1) := by decide +kernel
theorem dX0_remember_34 : decode cX0_remember 34 = .ok (.iadd, 1) := by decide +kernel
theorem dX0_remember_35 : decode cX0_remember 35 = .ok (.bipush 6, 2) := by decide +kernel
theorem dX0_remember_37 : decode cX0_remember 37 = .ok (.invokestatic 26, 3) := by decide +kernel
theorem dX0_remember_40 : decode cX0_remember 40 = .ok (.putfield 15, 3) := by decide +kernel
theorem dX0_remember_43 : decode cX0_remember 43 = .ok (.return_, 1) := by decide +kernel
set_option maxRecDepth 20000 in
theorem ggX0_bringBack_X2_readFrom : GoodIn wsX0_bringBack wsX2_readFrom := goodIn_ca (goodIn_r _ [8, 9, 13] (by decide +kernel) (by decide +kernel)) (goodIn_sub (fun _ h => List.mem_cons_of_mem _ (List.mem_append_right _ h)) (by decide +kernel))
set_option maxRecDepth 20000 in
theorem gX0_bringBack_X2_readFrom : GoodIn wsX0_bringBack (wsV RX0 32 RX2 yX2_readFrom wsX2_readFrom) := goodIn_app (goodIn_of _ (by decide +kernel)) ggX0_bringBack_X2_readFrom
theorem dX0_bringBack_0 : decode cX0_bringBack 0 = .ok (.aload_n 0, 1) := by decide +kernel
theorem dX0_bringBack_1 : decode cX0_bringBack 1 = .ok (.getfield 15, 3) := by decide +kernel
theorem dX0_bringBack_4 : decode cX0_bringBack 4 = .ok (.ifCond .le 44, 3) := by decide +kernel
theorem dX0_bringBack_7 : decode cX0_bringBack 7 = .ok (.aload_n 0, 1) := by decide +kernel
theorem dX0_bringBack_8 : decode cX0_bringBack 8 = .ok (.aload_n 0, 1) := by decide +kernel
theorem dX0_bringBack_9 : decode cX0_bringBack 9 = .ok (.getfield 19, 3) := by decide +kernel
theorem dX0_bringBack_12 : decode cX0_bringBack 12 = .ok (.bipush 6, 2) := by decide +kernel
theorem dX0_bringBack_14 : decode cX0_bringBack 14 = .ok (.iadd, 1) := by decide +kernel
theorem dX0_bringBack_15 : decode cX0_bringBack 15 = .ok (.iconst 1, 1) := by decide +kernel
theorem dX0_bringBack_16 : decode cX0_bringBack 16 = .ok (.isub, 1) := by decide +kernel
theorem dX0_bringBack_17 : decode cX0_bringBack 17 = .ok (.bipush 6, 2) := by decide +kernel
theorem dX0_bringBack_19 : decode cX0_bringBack 19 = .ok (.irem, 1) := by decide +kernel
theorem dX0_bringBack_20 : decode cX0_bringBack 20 = .ok (.putfield 19, 3) := by decide +kernel
theorem dX0_bringBack_23 : decode cX0_bringBack 23 = .ok (.aload_n 0, 1) := by decide +kernel
theorem dX0_bringBack_24 : decode cX0_bringBack 24 = .ok (.dup, 1) := by decide +kernel
theorem dX0_bringBack_25 : decode cX0_bringBack 25 = .ok (.getfield 15, 3) := by decide +kernel
theorem dX0_bringBack_28 : decode cX0_bringBack 28 = .ok (.iconst 1, 1) := by decide +kernel
theorem dX0_bringBack_29 : decode cX0_bringBack 29 = .ok (.isub, 1) := by decide +kernel
theorem dX0_bringBack_30 : decode cX0_bringBack 30 = .ok (.putfield 15, 3) := by decide +kernel
theorem dX0_bringBack_33 : decode cX0_bringBack 33 = .ok (.aload_n 1, 1) := by decide +kernel
theorem dX0_bringBack_34 : decode cX0_bringBack 34 = .ok (.aload_n 0, 1) := by decide +kernel
theorem dX0_bringBack_35 : decode cX0_bringBack 35 = .ok (.getfield 11, 3) := by decide +kernel
theorem dX0_bringBack_38 : decode cX0_bringBack 38 = .ok (.aload_n 0, 1) := by decide +kernel
theorem dX0_bringBack_39 : decode cX0_bringBack 39 = .ok (.getfield 19, 3) := by decide +kernel
theorem dX0_bringBack_42 : decode cX0_bringBack 42 = .ok (.bipush 15, 2) := by decide +kernel
theorem dX0_bringBack_44 : decode cX0_bringBack 44 = .ok (.imul, 1) := by decide +kernel
theorem dX0_bringBack_45 : decode cX0_bringBack 45 = .ok (.invokevirtual 32, 3) := by decide +kernel
theorem dX0_bringBack_48 : decode cX0_bringBack 48 = .ok (.return_, 1) := by decide +kernel
theorem dX0_forget_0 : decode cX0_forget 0 = .ok (.aload_n 0, 1) := by decide +kernel
theorem dX0_forget_1 : decode cX0_forget 1 = .ok (.iconst 0, 1) := by decide +kernel
theorem dX0_forget_2 : decode cX0_forget 2 = .ok (.putfield 15, 3) := by decide +kernel
theorem dX0_forget_5 : decode cX0_forget 5 = .ok (.return_, 1) := by decide +kernel
theorem dX1_init_0 : decode cX1_init 0 = .ok (.aload_n 0, 1) := by decide +kernel
theorem dX1_init_1 : decode cX1_init 1 = .ok (.invokespecial 3, 3) := by decide +kernel
theorem dX1_init_4 : decode cX1_init 4 = .ok (.aload_n 0, 1) := by decide +kernel
theorem dX1_init_5 : decode cX1_init 5 = .ok (.bipush 60, 2) := by decide +kernel
theorem dX1_init_7 : decode cX1_init 7 = .ok (.newarray .char, 2) := by decide +kernel
theorem dX1_init_9 : decode cX1_init 9 = .ok (.putfield 11, 3) := by decide +kernel
theorem dX1_init_12 : decode cX1_init 12 = .ok (.return_, 1) := by decide +kernel
theorem dX1_length_0 : decode cX1_length 0 = .ok (.aload_n 0, 1) := by decide +kernel
theorem dX1_length_1 : decode cX1_length 1 = .ok (.getfield 15, 3) := by decide +kernel
theorem dX1_length_4 : decode cX1_length 4 = .ok (.ireturn, 1) := by decide +kernel
theorem dX1_isFull_0 : decode cX1_isFull 0 = .ok (.aload_n 0, 1) := by decide +kernel
theorem dX1_isFull_1 : decode cX1_isFull 1 = .ok (.getfield 15, 3) := by decide +kernel
theorem dX1_isFull_4 : decode cX1_isFull 4 = .ok (.bipush 60, 2) := by decide +kernel
theorem dX1_isFull_6 : decode cX1_isFull 6 = .ok (.if_icmp .lt 7, 3) := by decide +kernel
theorem dX1_isFull_9 : decode cX1_isFull 9 = .ok (.iconst 1, 1) := by decide +kernel
theorem dX1_isFull_10 : decode cX1_isFull 10 = .ok (.goto 4, 3) := by decide +kernel
theorem dX1_isFull_13 : decode cX1_isFull 13 = .ok (.iconst 0, 1) := by decide +kernel
theorem dX1_isFull_14 : decode cX1_isFull 14 = .ok (.ireturn, 1) := by decide +kernel
theorem dX1_put_0 : decode cX1_put 0 = .ok (.aload_n 0, 1) := by decide +kernel
theorem dX1_put_1 : decode cX1_put 1 = .ok (.getfield 15, 3) := by decide +kernel
theorem dX1_put_4 : decode cX1_put 4 = .ok (.ifCond .lt 32, 3) := by decide +kernel
theorem dX1_put_7 : decode cX1_put 7 = .ok (.aload_n 0, 1) := by decide +kernel
theorem dX1_put_8 : decode cX1_put 8 = .ok (.getfield 15, 3) := by decide +kernel
theorem dX1_put_11 : decode cX1_put 11 = .ok (.bipush 60, 2) := by decide +kernel
theorem dX1_put_13 : decode cX1_put 13 = .ok (.if_icmp .ge 23, 3) := by decide +kernel
theorem dX1_put_16 : decode cX1_put 16 = .ok (.aload_n 0, 1) := by decide +kernel
theorem dX1_put_17 : decode cX1_put 17 = .ok (.getfield 11, 3) := by decide +kernel
theorem dX1_put_20 : decode cX1_put 20 = .ok (.aload_n 0, 1) := by decide +kernel
theorem dX1_put_21 : decode cX1_put 21 = .ok (.getfield 15, 3) := by decide +kernel
theorem dX1_put_24 : decode cX1_put 24 = .ok (.iload_n 1, 1) := by decide +kernel
theorem dX1_put_25 : decode cX1_put 25 = .ok (.castore, 1) := by decide +kernel
theorem dX1_put_26 : decode cX1_put 26 = .ok (.aload_n 0, 1) := by decide +kernel
theorem dX1_put_27 : decode cX1_put 27 = .ok (.dup, 1) := by decide +kernel
theorem dX1_put_28 : decode cX1_put 28 = .ok (.getfield 15, 3) := by decide +kernel
theorem dX1_put_31 : decode cX1_put 31 = .ok (.iconst 1, 1) := by decide +kernel
theorem dX1_put_32 : decode cX1_put 32 = .ok (.iadd, 1) := by decide +kernel
theorem dX1_put_33 : decode cX1_put 33 = .ok (.putfield 15, 3) := by decide +kernel
theorem dX1_put_36 : decode cX1_put 36 = .ok (.aload_n 0, 1) := by decide +kernel
theorem dX1_put_37 : decode cX1_put 37 = .ok (.getfield 15, 3) := by decide +kernel
theorem dX1_put_40 : decode cX1_put 40 = .ok (.ireturn, 1) := by decide +kernel
theorem dX1_empty_0 : decode cX1_empty 0 = .ok (.aload_n 0, 1) := by decide +kernel
theorem dX1_empty_1 : decode cX1_empty 1 = .ok (.iconst 0, 1) := by decide +kernel
theorem dX1_empty_2 : decode cX1_empty 2 = .ok (.putfield 15, 3) := by decide +kernel
theorem dX1_empty_5 : decode cX1_empty 5 = .ok (.return_, 1) := by decide +kernel
theorem dX1_characterAt_0 : decode cX1_characterAt 0 = .ok (.iload_n 1, 1) := by decide +kernel
theorem dX1_characterAt_1 : decode cX1_characterAt 1 = .ok (.ifCond .lt 26, 3) := by decide +kernel
theorem dX1_characterAt_4 : decode cX1_characterAt 4 = .ok (.iload_n 1, 1) := by decide +kernel
theorem dX1_characterAt_5 : decode cX1_characterAt 5 = .ok (.aload_n 0, 1) := by decide +kernel
theorem dX1_characterAt_6 : decode cX1_characterAt 6 = .ok (.getfield 15, 3) := by decide +kernel
theorem dX1_characterAt_9 : decode cX1_characterAt 9 = .ok (.if_icmp .ge 18, 3) := by decide +kernel
theorem dX1_characterAt_12 : decode cX1_characterAt 12 = .ok (.iload_n 1, 1) := by decide +kernel
theorem dX1_characterAt_13 : decode cX1_characterAt 13 = .ok (.bipush 60, 2) := by decide +kernel
theorem dX1_characterAt_15 : decode cX1_characterAt 15 = .ok (.if_icmp .ge 12, 3) := by decide +kernel
theorem dX1_characterAt_18 : decode cX1_characterAt 18 = .ok (.aload_n 0, 1) := by decide +kernel
theorem dX1_characterAt_19 : decode cX1_characterAt 19 = .ok (.getfield 11, 3) := by decide +kernel
theorem dX1_characterAt_22 : decode cX1_characterAt 22 = .ok (.iload_n 1, 1) := by decide +kernel
theorem dX1_characterAt_23 : decode cX1_characterAt 23 = .ok (.caload, 1) := by decide +kernel
theorem dX1_characterAt_24 : decode cX1_characterAt 24 = .ok (.goto 4, 3) := by decide +kernel
theorem dX1_characterAt_27 : decode cX1_characterAt 27 = .ok (.iconst 0, 1) := by decide +kernel
theorem dX1_characterAt_28 : decode cX1_characterAt 28 = .ok (.ireturn, 1) := by decide +kernel
set_option maxRecDepth 20000 in
theorem ggX1_isTurnAt_X1_characterAt : GoodIn wsX1_isTurnAt wsX1_characterAt := goodIn_ca (goodIn_r _ [5, 6, 7, 8, 9] (by decide +kernel) (by decide +kernel)) (goodIn_sub (fun _ h => List.mem_cons_of_mem _ (List.mem_append_right _ h)) (by decide +kernel))
set_option maxRecDepth 20000 in
theorem gX1_isTurnAt_X1_characterAt : GoodIn wsX1_isTurnAt (wsV RX1 19 RX1 yX1_characterAt wsX1_characterAt) := goodIn_app (goodIn_of _ (by decide +kernel)) ggX1_isTurnAt_X1_characterAt
theorem dX1_isTurnAt_0 : decode cX1_isTurnAt 0 = .ok (.iload_n 1, 1) := by decide +kernel
theorem dX1_isTurnAt_1 : decode cX1_isTurnAt 1 = .ok (.ifCond .eq 15, 3) := by decide +kernel
theorem dX1_isTurnAt_4 : decode cX1_isTurnAt 4 = .ok (.aload_n 0, 1) := by decide +kernel
theorem dX1_isTurnAt_5 : decode cX1_isTurnAt 5 = .ok (.iload_n 1, 1) := by decide +kernel
theorem dX1_isTurnAt_6 : decode cX1_isTurnAt 6 = .ok (.iconst 1, 1) := by decide +kernel
theorem dX1_isTurnAt_7 : decode cX1_isTurnAt 7 = .ok (.isub, 1) := by decide +kernel
theorem dX1_isTurnAt_8 : decode cX1_isTurnAt 8 = .ok (.invokevirtual 19, 3) := by decide +kernel
theorem dX1_isTurnAt_11 : decode cX1_isTurnAt 11 = .ok (.bipush 59, 2) := by decide +kernel
theorem dX1_isTurnAt_13 : decode cX1_isTurnAt 13 = .ok (.if_icmp .ne 7, 3) := by decide +kernel
theorem dX1_isTurnAt_16 : decode cX1_isTurnAt 16 = .ok (.iconst 1, 1) := by decide +kernel
theorem dX1_isTurnAt_17 : decode cX1_isTurnAt 17 = .ok (.goto 4, 3) := by decide +kernel
theorem dX1_isTurnAt_20 : decode cX1_isTurnAt 20 = .ok (.iconst 0, 1) := by decide +kernel
theorem dX1_isTurnAt_21 : decode cX1_isTurnAt 21 = .ok (.ireturn, 1) := by decide +kernel
set_option maxRecDepth 20000 in
theorem ggX1_squareAt_X1_characterAt : GoodIn wsX1_squareAt wsX1_characterAt := goodIn_ca (goodIn_r _ [5, 6, 7, 14, 15] (by decide +kernel) (by decide +kernel)) (goodIn_sub (fun _ h => List.mem_cons_of_mem _ (List.mem_append_right _ h)) (by decide +kernel))
set_option maxRecDepth 20000 in
theorem gX1_squareAt_X1_characterAt : GoodIn wsX1_squareAt (wsV RX1 19 RX1 yX1_characterAt wsX1_characterAt) := goodIn_app (goodIn_of _ (by decide +kernel)) ggX1_squareAt_X1_characterAt
set_option maxRecDepth 20000 in
theorem ggX1_squareAt_X1_isColumn : GoodIn wsX1_squareAt wsX1_isColumn := goodIn_r _ [10] (by decide +kernel) (by decide +kernel)
set_option maxRecDepth 20000 in
theorem gX1_squareAt_X1_isColumn : GoodIn wsX1_squareAt (va_wsS RX1 23 yX1_isColumn wsX1_isColumn) := goodIn_app (goodIn_of _ (by decide +kernel)) ggX1_squareAt_X1_isColumn
set_option maxRecDepth 20000 in
theorem ggX1_squareAt_X1_isRow : GoodIn wsX1_squareAt wsX1_isRow := goodIn_r _ [13] (by decide +kernel) (by decide +kernel)
set_option maxRecDepth 20000 in
theorem gX1_squareAt_X1_isRow : GoodIn wsX1_squareAt (va_wsS RX1 27 yX1_isRow wsX1_isRow) := goodIn_app (goodIn_of _ (by decide +kernel)) ggX1_squareAt_X1_isRow
theorem dX1_squareAt_0 : decode cX1_squareAt 0 = .ok (.aload_n 0, 1) := by decide +kernel
theorem dX1_squareAt_1 : decode cX1_squareAt 1 = .ok (.iload_n 1, 1) := by decide +kernel
theorem dX1_squareAt_2 : decode cX1_squareAt 2 = .ok (.invokevirtual 19, 3) := by decide +kernel
theorem dX1_squareAt_5 : decode cX1_squareAt 5 = .ok (.istore_n 2, 1) := by decide +kernel
theorem dX1_squareAt_6 : decode cX1_squareAt 6 = .ok (.aload_n 0, 1) := by decide +kernel
theorem dX1_squareAt_7 : decode cX1_squareAt 7 = .ok (.iload_n 1, 1) := by decide +kernel
theorem dX1_squareAt_8 : decode cX1_squareAt 8 = .ok (.iconst 1, 1) := by decide +kernel
theorem dX1_squareAt_9 : decode cX1_squareAt 9 = .ok (.iadd, 1) := by decide +kernel
theorem dX1_squareAt_10 : decode cX1_squareAt 10 = .ok (.invokevirtual 19, 3) := by decide +kernel
theorem dX1_squareAt_13 : decode cX1_squareAt 13 = .ok (.istore_n 3, 1) := by decide +kernel
theorem dX1_squareAt_14 : decode cX1_squareAt 14 = .ok (.iload_n 2, 1) := by decide +kernel
theorem dX1_squareAt_15 : decode cX1_squareAt 15 = .ok (.invokestatic 23, 3) := by decide +kernel
theorem dX1_squareAt_18 : decode cX1_squareAt 18 = .ok (.ifCond .eq 25, 3) := by decide +kernel
theorem dX1_squareAt_21 : decode cX1_squareAt 21 = .ok (.iload_n 3, 1) := by decide +kernel
theorem dX1_squareAt_22 : decode cX1_squareAt 22 = .ok (.invokestatic 27, 3) := by decide +kernel
theorem dX1_squareAt_25 : decode cX1_squareAt 25 = .ok (.ifCond .eq 18, 3) := by decide +kernel
theorem dX1_squareAt_28 : decode cX1_squareAt 28 = .ok (.iload_n 3, 1) := by decide +kernel
theorem dX1_squareAt_29 : decode cX1_squareAt 29 = .ok (.bipush 49, 2) := by decide +kernel
theorem dX1_squareAt_31 : decode cX1_squareAt 31 = .ok (.isub, 1) := by decide +kernel
theorem dX1_squareAt_32 : decode cX1_squareAt 32 = .ok (.bipush 6, 2) := by decide +kernel
theorem dX1_squareAt_34 : decode cX1_squareAt 34 = .ok (.imul, 1) := by decide +kernel
theorem dX1_squareAt_35 : decode cX1_squareAt 35 = .ok (.iload_n 2, 1) := by decide +kernel
theorem dX1_squareAt_36 : decode cX1_squareAt 36 = .ok (.bipush 97, 2) := by decide +kernel
theorem dX1_squareAt_38 : decode cX1_squareAt 38 = .ok (.isub, 1) := by decide +kernel
theorem dX1_squareAt_39 : decode cX1_squareAt 39 = .ok (.iadd, 1) := by decide +kernel
theorem dX1_squareAt_40 : decode cX1_squareAt 40 = .ok (.goto 4, 3) := by decide +kernel
theorem dX1_squareAt_43 : decode cX1_squareAt 43 = .ok (.iconst (-1), 1) := by decide +kernel
theorem dX1_squareAt_44 : decode cX1_squareAt 44 = .ok (.ireturn, 1) := by decide +kernel
set_option maxRecDepth 20000 in
theorem ggX1_firstError_X1_characterAt : GoodIn wsX1_firstError wsX1_characterAt := goodIn_ca (goodIn_r _ [6, 1, 7, 17, 18] (by decide +kernel) (by decide +kernel)) (goodIn_sub (fun _ h => List.mem_cons_of_mem _ (List.mem_append_right _ h)) (by decide +kernel))
set_option maxRecDepth 20000 in
theorem gX1_firstError_X1_characterAt : GoodIn wsX1_firstError (wsV RX1 19 RX1 yX1_characterAt wsX1_characterAt) := goodIn_app (goodIn_of _ (by decide +kernel)) ggX1_firstError_X1_characterAt
set_option maxRecDepth 20000 in
theorem ggX1_firstError_X1_expectedAfter : GoodIn wsX1_firstError wsX1_expectedAfter := goodIn_r _ [10, 11, 12, 5, 13, 14, 15, 16] (by decide +kernel) (by decide +kernel)
set_option maxRecDepth 20000 in
theorem gX1_firstError_X1_expectedAfter : GoodIn wsX1_firstError (va_wsS RX1 30 yX1_expectedAfter wsX1_expectedAfter) := goodIn_app (goodIn_of _ (by decide +kernel)) ggX1_firstError_X1_expectedAfter
theorem dX1_firstError_0 : decode cX1_firstError 0 = .ok (.iconst 0, 1) := by decide +kernel
theorem dX1_firstError_1 : decode cX1_firstError 1 = .ok (.istore_n 1, 1) := by decide +kernel
theorem dX1_firstError_2 : decode cX1_firstError 2 = .ok (.iconst 0, 1) := by decide +kernel
theorem dX1_firstError_3 : decode cX1_firstError 3 = .ok (.istore_n 2, 1) := by decide +kernel
theorem dX1_firstError_4 : decode cX1_firstError 4 = .ok (.iload_n 2, 1) := by decide +kernel
theorem dX1_firstError_5 : decode cX1_firstError 5 = .ok (.aload_n 0, 1) := by decide +kernel
theorem dX1_firstError_6 : decode cX1_firstError 6 = .ok (.getfield 15, 3) := by decide +kernel
theorem dX1_firstError_9 : decode cX1_firstError 9 = .ok (.if_icmp .ge 26, 3) := by decide +kernel
theorem dX1_firstError_12 : decode cX1_firstError 12 = .ok (.iload_n 1, 1) := by decide +kernel
theorem dX1_firstError_13 : decode cX1_firstError 13 = .ok (.aload_n 0, 1) := by decide +kernel
theorem dX1_firstError_14 : decode cX1_firstError 14 = .ok (.iload_n 2, 1) := by decide +kernel
theorem dX1_firstError_15 : decode cX1_firstError 15 = .ok (.invokevirtual 19, 3) := by decide +kernel
theorem dX1_firstError_18 : decode cX1_firstError 18 = .ok (.invokestatic 30, 3) := by decide +kernel
theorem dX1_firstError_21 : decode cX1_firstError 21 = .ok (.istore_n 1, 1) := by decide +kernel
theorem dX1_firstError_22 : decode cX1_firstError 22 = .ok (.iload_n 1, 1) := by decide +kernel
theorem dX1_firstError_23 : decode cX1_firstError 23 = .ok (.iconst (-1), 1) := by decide +kernel
theorem dX1_firstError_24 : decode cX1_firstError 24 = .ok (.if_icmp .ne 5, 3) := by decide +kernel
theorem dX1_firstError_27 : decode cX1_firstError 27 = .ok (.iload_n 2, 1) := by decide +kernel
theorem dX1_firstError_28 : decode cX1_firstError 28 = .ok (.ireturn, 1) := by decide +kernel
theorem dX1_firstError_29 : decode cX1_firstError 29 = .ok (.iinc 2 1, 3) := by decide +kernel
theorem dX1_firstError_32 : decode cX1_firstError 32 = .ok (.goto (-28), 3) := by decide +kernel
theorem dX1_firstError_35 : decode cX1_firstError 35 = .ok (.iload_n 1, 1) := by decide +kernel
theorem dX1_firstError_36 : decode cX1_firstError 36 = .ok (.iconst 5, 1) := by decide +kernel
theorem dX1_firstError_37 : decode cX1_firstError 37 = .ok (.if_icmp .ne 7, 3) := by decide +kernel
theorem dX1_firstError_40 : decode cX1_firstError 40 = .ok (.iconst (-1), 1) := by decide +kernel
theorem dX1_firstError_41 : decode cX1_firstError 41 = .ok (.goto 7, 3) := by decide +kernel
theorem dX1_firstError_44 : decode cX1_firstError 44 = .ok (.aload_n 0, 1) := by decide +kernel
theorem dX1_firstError_45 : decode cX1_firstError 45 = .ok (.getfield 15, 3) := by decide +kernel
theorem dX1_firstError_48 : decode cX1_firstError 48 = .ok (.ireturn, 1) := by decide +kernel
set_option maxRecDepth 20000 in
theorem ggX1_expectedAfter_X1_isColumn : GoodIn wsX1_expectedAfter wsX1_isColumn := goodIn_r _ [4] (by decide +kernel) (by decide +kernel)
set_option maxRecDepth 20000 in
theorem gX1_expectedAfter_X1_isColumn : GoodIn wsX1_expectedAfter (va_wsS RX1 23 yX1_isColumn wsX1_isColumn) := goodIn_app (goodIn_of _ (by decide +kernel)) ggX1_expectedAfter_X1_isColumn
set_option maxRecDepth 20000 in
theorem ggX1_expectedAfter_X1_isRow : GoodIn wsX1_expectedAfter wsX1_isRow := goodIn_r _ [7] (by decide +kernel) (by decide +kernel)
set_option maxRecDepth 20000 in
theorem gX1_expectedAfter_X1_isRow : GoodIn wsX1_expectedAfter (va_wsS RX1 27 yX1_isRow wsX1_isRow) := goodIn_app (goodIn_of _ (by decide +kernel)) ggX1_expectedAfter_X1_isRow
theorem dX1_expectedAfter_0 : decode cX1_expectedAfter 0 = .ok (.iload_n 0, 1) := by decide +kernel
theorem dX1_expectedAfter_1 : decode cX1_expectedAfter 1 = .ok (.tableswitch 113 0 4 #[35, 62, 75, 87, 100], 35) := by decide +kernel
theorem dX1_expectedAfter_36 : decode cX1_expectedAfter 36 = .ok (.iload_n 1, 1) := by decide +kernel
theorem dX1_expectedAfter_37 : decode cX1_expectedAfter 37 = .ok (.bipush 43, 2) := by decide +kernel
theorem dX1_expectedAfter_39 : decode cX1_expectedAfter 39 = .ok (.if_icmp .eq 9, 3) := by decide +kernel
theorem dX1_expectedAfter_42 : decode cX1_expectedAfter 42 = .ok (.iload_n 1, 1) := by decide +kernel
theorem dX1_expectedAfter_43 : decode cX1_expectedAfter 43 = .ok (.bipush 42, 2) := by decide +kernel
theorem dX1_expectedAfter_45 : decode cX1_expectedAfter 45 = .ok (.if_icmp .ne 5, 3) := by decide +kernel
theorem dX1_expectedAfter_48 : decode cX1_expectedAfter 48 = .ok (.iconst 3, 1) := by decide +kernel
theorem dX1_expectedAfter_49 : decode cX1_expectedAfter 49 = .ok (.ireturn, 1) := by decide +kernel
theorem dX1_expectedAfter_50 : decode cX1_expectedAfter 50 = .ok (.iload_n 1, 1) := by decide +kernel
theorem dX1_expectedAfter_51 : decode cX1_expectedAfter 51 = .ok (.invokestatic 23, 3) := by decide +kernel
theorem dX1_expectedAfter_54 : decode cX1_expectedAfter 54 = .ok (.ifCond .eq 7, 3) := by decide +kernel
theorem dX1_expectedAfter_57 : decode cX1_expectedAfter 57 = .ok (.iconst 1, 1) := by decide +kernel
theorem dX1_expectedAfter_58 : decode cX1_expectedAfter 58 = .ok (.goto 4, 3) := by decide +kernel
theorem dX1_expectedAfter_61 : decode cX1_expectedAfter 61 = .ok (.iconst (-1), 1) := by decide +kernel
theorem dX1_expectedAfter_62 : decode cX1_expectedAfter 62 = .ok (.ireturn, 1) := by decide +kernel
theorem dX1_expectedAfter_63 : decode cX1_expectedAfter 63 = .ok (.iload_n 1, 1) := by decide +kernel
theorem dX1_expectedAfter_64 : decode cX1_expectedAfter 64 = .ok (.invokestatic 27, 3) := by decide +kernel
theorem dX1_expectedAfter_67 : decode cX1_expectedAfter 67 = .ok (.ifCond .eq 7, 3) := by decide +kernel
theorem dX1_expectedAfter_70 : decode cX1_expectedAfter 70 = .ok (.iconst 2, 1) := by decide +kernel
theorem dX1_expectedAfter_71 : decode cX1_expectedAfter 71 = .ok (.goto 4, 3) := by decide +kernel
theorem dX1_expectedAfter_74 : decode cX1_expectedAfter 74 = .ok (.iconst (-1), 1) := by decide +kernel
theorem dX1_expectedAfter_75 : decode cX1_expectedAfter 75 = .ok (.ireturn, 1) := by decide +kernel
theorem dX1_expectedAfter_76 : decode cX1_expectedAfter 76 = .ok (.iload_n 1, 1) := by decide +kernel
theorem dX1_expectedAfter_77 : decode cX1_expectedAfter 77 = .ok (.bipush 45, 2) := by decide +kernel
theorem dX1_expectedAfter_79 : decode cX1_expectedAfter 79 = .ok (.if_icmp .ne 7, 3) := by decide +kernel
theorem dX1_expectedAfter_82 : decode cX1_expectedAfter 82 = .ok (.iconst 3, 1) := by decide +kernel
theorem dX1_expectedAfter_83 : decode cX1_expectedAfter 83 = .ok (.goto 4, 3) := by decide +kernel
theorem dX1_expectedAfter_86 : decode cX1_expectedAfter 86 = .ok (.iconst (-1), 1) := by decide +kernel
theorem dX1_expectedAfter_87 : decode cX1_expectedAfter 87 = .ok (.ireturn, 1) := by decide +kernel
theorem dX1_expectedAfter_88 : decode cX1_expectedAfter 88 = .ok (.iload_n 1, 1) := by decide +kernel
theorem dX1_expectedAfter_89 : decode cX1_expectedAfter 89 = .ok (.invokestatic 23, 3) := by decide +kernel
theorem dX1_expectedAfter_92 : decode cX1_expectedAfter 92 = .ok (.ifCond .eq 7, 3) := by decide +kernel
theorem dX1_expectedAfter_95 : decode cX1_expectedAfter 95 = .ok (.iconst 4, 1) := by decide +kernel
theorem dX1_expectedAfter_96 : decode cX1_expectedAfter 96 = .ok (.goto 4, 3) := by decide +kernel
theorem dX1_expectedAfter_99 : decode cX1_expectedAfter 99 = .ok (.iconst (-1), 1) := by decide +kernel
theorem dX1_expectedAfter_100 : decode cX1_expectedAfter 100 = .ok (.ireturn, 1) := by decide +kernel
theorem dX1_expectedAfter_101 : decode cX1_expectedAfter 101 = .ok (.iload_n 1, 1) := by decide +kernel
theorem dX1_expectedAfter_102 : decode cX1_expectedAfter 102 = .ok (.invokestatic 27, 3) := by decide +kernel
theorem dX1_expectedAfter_105 : decode cX1_expectedAfter 105 = .ok (.ifCond .eq 7, 3) := by decide +kernel
theorem dX1_expectedAfter_108 : decode cX1_expectedAfter 108 = .ok (.iconst 5, 1) := by decide +kernel
theorem dX1_expectedAfter_109 : decode cX1_expectedAfter 109 = .ok (.goto 4, 3) := by decide +kernel
theorem dX1_expectedAfter_112 : decode cX1_expectedAfter 112 = .ok (.iconst (-1), 1) := by decide +kernel
theorem dX1_expectedAfter_113 : decode cX1_expectedAfter 113 = .ok (.ireturn, 1) := by decide +kernel
theorem dX1_expectedAfter_114 : decode cX1_expectedAfter 114 = .ok (.iload_n 1, 1) := by decide +kernel
theorem dX1_expectedAfter_115 : decode cX1_expectedAfter 115 = .ok (.bipush 59, 2) := by decide +kernel
theorem dX1_expectedAfter_117 : decode cX1_expectedAfter 117 = .ok (.if_icmp .ne 7, 3) := by decide +kernel
theorem dX1_expectedAfter_120 : decode cX1_expectedAfter 120 = .ok (.iconst 0, 1) := by decide +kernel
theorem dX1_expectedAfter_121 : decode cX1_expectedAfter 121 = .ok (.goto 4, 3) := by decide +kernel
theorem dX1_expectedAfter_124 : decode cX1_expectedAfter 124 = .ok (.iconst (-1), 1) := by decide +kernel
theorem dX1_expectedAfter_125 : decode cX1_expectedAfter 125 = .ok (.ireturn, 1) := by decide +kernel
theorem dX1_isColumn_0 : decode cX1_isColumn 0 = .ok (.iload_n 0, 1) := by decide +kernel
theorem dX1_isColumn_1 : decode cX1_isColumn 1 = .ok (.bipush 97, 2) := by decide +kernel
theorem dX1_isColumn_3 : decode cX1_isColumn 3 = .ok (.if_icmp .lt 13, 3) := by decide +kernel
theorem dX1_isColumn_6 : decode cX1_isColumn 6 = .ok (.iload_n 0, 1) := by decide +kernel
theorem dX1_isColumn_7 : decode cX1_isColumn 7 = .ok (.bipush 102, 2) := by decide +kernel
theorem dX1_isColumn_9 : decode cX1_isColumn 9 = .ok (.if_icmp .gt 7, 3) := by decide +kernel
theorem dX1_isColumn_12 : decode cX1_isColumn 12 = .ok (.iconst 1, 1) := by decide +kernel
theorem dX1_isColumn_13 : decode cX1_isColumn 13 = .ok (.goto 4, 3) := by decide +kernel
theorem dX1_isColumn_16 : decode cX1_isColumn 16 = .ok (.iconst 0, 1) := by decide +kernel
theorem dX1_isColumn_17 : decode cX1_isColumn 17 = .ok (.ireturn, 1) := by decide +kernel
theorem dX1_isRow_0 : decode cX1_isRow 0 = .ok (.iload_n 0, 1) := by decide +kernel
theorem dX1_isRow_1 : decode cX1_isRow 1 = .ok (.bipush 49, 2) := by decide +kernel
theorem dX1_isRow_3 : decode cX1_isRow 3 = .ok (.if_icmp .lt 13, 3) := by decide +kernel
theorem dX1_isRow_6 : decode cX1_isRow 6 = .ok (.iload_n 0, 1) := by decide +kernel
theorem dX1_isRow_7 : decode cX1_isRow 7 = .ok (.bipush 54, 2) := by decide +kernel
theorem dX1_isRow_9 : decode cX1_isRow 9 = .ok (.if_icmp .gt 7, 3) := by decide +kernel
theorem dX1_isRow_12 : decode cX1_isRow 12 = .ok (.iconst 1, 1) := by decide +kernel
theorem dX1_isRow_13 : decode cX1_isRow 13 = .ok (.goto 4, 3) := by decide +kernel
theorem dX1_isRow_16 : decode cX1_isRow 16 = .ok (.iconst 0, 1) := by decide +kernel
theorem dX1_isRow_17 : decode cX1_isRow 17 = .ok (.ireturn, 1) := by decide +kernel
set_option maxRecDepth 20000 in
theorem ggX2_init_X2_reset : GoodIn wsX2_init wsX2_reset := goodIn_ca (goodIn_r _ [10, 5, 11, 12] (by decide +kernel) (by decide +kernel)) (goodIn_sub (fun _ h => List.mem_cons_of_mem _ (List.mem_append_right _ h)) (by decide +kernel))
set_option maxRecDepth 20000 in
theorem gX2_init_X2_reset : GoodIn wsX2_init (wsV RX2 15 RX2 yX2_reset wsX2_reset) := goodIn_app (goodIn_of _ (by decide +kernel)) ggX2_init_X2_reset
theorem dX2_init_0 : decode cX2_init 0 = .ok (.aload_n 0, 1) := by decide +kernel
theorem dX2_init_1 : decode cX2_init 1 = .ok (.invokespecial 5, 3) := by decide +kernel
theorem dX2_init_4 : decode cX2_init 4 = .ok (.aload_n 0, 1) := by decide +kernel
theorem dX2_init_5 : decode cX2_init 5 = .ok (.bipush 15, 2) := by decide +kernel
theorem dX2_init_7 : decode cX2_init 7 = .ok (.newarray .long, 2) := by decide +kernel
theorem dX2_init_9 : decode cX2_init 9 = .ok (.putfield 11, 3) := by decide +kernel
theorem dX2_init_12 : decode cX2_init 12 = .ok (.aload_n 0, 1) := by decide +kernel
theorem dX2_init_13 : decode cX2_init 13 = .ok (.invokevirtual 15, 3) := by decide +kernel
theorem dX2_init_16 : decode cX2_init 16 = .ok (.return_, 1) := by decide +kernel
theorem dX2_at_0 : decode cX2_at 0 = .ok (.iload_n 1, 1) := by decide +kernel
theorem dX2_at_1 : decode cX2_at 1 = .ok (.ifCond .lt 18, 3) := by decide +kernel
theorem dX2_at_4 : decode cX2_at 4 = .ok (.iload_n 1, 1) := by decide +kernel
theorem dX2_at_5 : decode cX2_at 5 = .ok (.bipush 15, 2) := by decide +kernel
theorem dX2_at_7 : decode cX2_at 7 = .ok (.if_icmp .ge 12, 3) := by decide +kernel
theorem dX2_at_10 : decode cX2_at 10 = .ok (.aload_n 0, 1) := by decide +kernel
theorem dX2_at_11 : decode cX2_at 11 = .ok (.getfield 11, 3) := by decide +kernel
theorem dX2_at_14 : decode cX2_at 14 = .ok (.iload_n 1, 1) := by decide +kernel
theorem dX2_at_15 : decode cX2_at 15 = .ok (.laload, 1) := by decide +kernel
theorem dX2_at_16 : decode cX2_at 16 = .ok (.goto 4, 3) := by decide +kernel
theorem dX2_at_19 : decode cX2_at 19 = .ok (.lconst 0, 1) := by decide +kernel
theorem dX2_at_20 : decode cX2_at 20 = .ok (.lreturn, 1) := by decide +kernel
theorem dX2_include_0 : decode cX2_include 0 = .ok (.iload_n 1, 1) := by decide +kernel
theorem dX2_include_1 : decode cX2_include 1 = .ok (.ifCond .lt 19, 3) := by decide +kernel
theorem dX2_include_4 : decode cX2_include 4 = .ok (.iload_n 1, 1) := by decide +kernel
theorem dX2_include_5 : decode cX2_include 5 = .ok (.bipush 15, 2) := by decide +kernel
theorem dX2_include_7 : decode cX2_include 7 = .ok (.if_icmp .ge 13, 3) := by decide +kernel
theorem dX2_include_10 : decode cX2_include 10 = .ok (.aload_n 0, 1) := by decide +kernel
theorem dX2_include_11 : decode cX2_include 11 = .ok (.getfield 11, 3) := by decide +kernel
theorem dX2_include_14 : decode cX2_include 14 = .ok (.iload_n 1, 1) := by decide +kernel
theorem dX2_include_15 : decode cX2_include 15 = .ok (.dup2, 1) := by decide +kernel
theorem dX2_include_16 : decode cX2_include 16 = .ok (.laload, 1) := by decide +kernel
theorem dX2_include_17 : decode cX2_include 17 = .ok (.lload_n 2, 1) := by decide +kernel
theorem dX2_include_18 : decode cX2_include 18 = .ok (.lor, 1) := by decide +kernel
theorem dX2_include_19 : decode cX2_include 19 = .ok (.lastore, 1) := by decide +kernel
theorem dX2_include_20 : decode cX2_include 20 = .ok (.return_, 1) := by decide +kernel
theorem dX2_exclude_0 : decode cX2_exclude 0 = .ok (.iload_n 1, 1) := by decide +kernel
theorem dX2_exclude_1 : decode cX2_exclude 1 = .ok (.ifCond .lt 23, 3) := by decide +kernel
theorem dX2_exclude_4 : decode cX2_exclude 4 = .ok (.iload_n 1, 1) := by decide +kernel
theorem dX2_exclude_5 : decode cX2_exclude 5 = .ok (.bipush 15, 2) := by decide +kernel
theorem dX2_exclude_7 : decode cX2_exclude 7 = .ok (.if_icmp .ge 17, 3) := by decide +kernel
theorem dX2_exclude_10 : decode cX2_exclude 10 = .ok (.aload_n 0, 1) := by decide +kernel
theorem dX2_exclude_11 : decode cX2_exclude 11 = .ok (.getfield 11, 3) := by decide +kernel
theorem dX2_exclude_14 : decode cX2_exclude 14 = .ok (.iload_n 1, 1) := by decide +kernel
theorem dX2_exclude_15 : decode cX2_exclude 15 = .ok (.dup2, 1) := by decide +kernel
theorem dX2_exclude_16 : decode cX2_exclude 16 = .ok (.laload, 1) := by decide +kernel
theorem dX2_exclude_17 : decode cX2_exclude 17 = .ok (.lload_n 2, 1) := by decide +kernel
theorem dX2_exclude_18 : decode cX2_exclude 18 = .ok (.ldc2_w 18, 3) := by decide +kernel
theorem dX2_exclude_21 : decode cX2_exclude 21 = .ok (.lxor, 1) := by decide +kernel
theorem dX2_exclude_22 : decode cX2_exclude 22 = .ok (.land, 1) := by decide +kernel
theorem dX2_exclude_23 : decode cX2_exclude 23 = .ok (.lastore, 1) := by decide +kernel
theorem dX2_exclude_24 : decode cX2_exclude 24 = .ok (.return_, 1) := by decide +kernel
theorem dX2_reset_0 : decode cX2_reset 0 = .ok (.iconst 0, 1) := by decide +kernel
theorem dX2_reset_1 : decode cX2_reset 1 = .ok (.istore_n 1, 1) := by decide +kernel
theorem dX2_reset_2 : decode cX2_reset 2 = .ok (.iload_n 1, 1) := by decide +kernel
theorem dX2_reset_3 : decode cX2_reset 3 = .ok (.bipush 15, 2) := by decide +kernel
theorem dX2_reset_5 : decode cX2_reset 5 = .ok (.if_icmp .ge 16, 3) := by decide +kernel
theorem dX2_reset_8 : decode cX2_reset 8 = .ok (.aload_n 0, 1) := by decide +kernel
theorem dX2_reset_9 : decode cX2_reset 9 = .ok (.getfield 11, 3) := by decide +kernel
theorem dX2_reset_12 : decode cX2_reset 12 = .ok (.iload_n 1, 1) := by decide +kernel
theorem dX2_reset_13 : decode cX2_reset 13 = .ok (.lconst 0, 1) := by decide +kernel
theorem dX2_reset_14 : decode cX2_reset 14 = .ok (.lastore, 1) := by decide +kernel
theorem dX2_reset_15 : decode cX2_reset 15 = .ok (.iinc 1 1, 3) := by decide +kernel
theorem dX2_reset_18 : decode cX2_reset 18 = .ok (.goto (-16), 3) := by decide +kernel
theorem dX2_reset_21 : decode cX2_reset 21 = .ok (.aload_n 0, 1) := by decide +kernel
theorem dX2_reset_22 : decode cX2_reset 22 = .ok (.getfield 11, 3) := by decide +kernel
theorem dX2_reset_25 : decode cX2_reset 25 = .ok (.bipush 11, 2) := by decide +kernel
theorem dX2_reset_27 : decode cX2_reset 27 = .ok (.ldc2_w 20, 3) := by decide +kernel
theorem dX2_reset_30 : decode cX2_reset 30 = .ok (.lastore, 1) := by decide +kernel
theorem dX2_reset_31 : decode cX2_reset 31 = .ok (.aload_n 0, 1) := by decide +kernel
theorem dX2_reset_32 : decode cX2_reset 32 = .ok (.getfield 11, 3) := by decide +kernel
theorem dX2_reset_35 : decode cX2_reset 35 = .ok (.bipush 12, 2) := by decide +kernel
theorem dX2_reset_37 : decode cX2_reset 37 = .ok (.ldc2_w 20, 3) := by decide +kernel
theorem dX2_reset_40 : decode cX2_reset 40 = .ok (.lastore, 1) := by decide +kernel
theorem dX2_reset_41 : decode cX2_reset 41 = .ok (.return_, 1) := by decide +kernel
set_option maxRecDepth 20000 in
theorem ggX2_setUp_X2_reset : GoodIn wsX2_setUp wsX2_reset := goodIn_ca (goodIn_r _ [6, 7, 8, 21] (by decide +kernel) (by decide +kernel)) (goodIn_sub (fun _ h => List.mem_cons_of_mem _ (List.mem_append_right _ h)) (by decide +kernel))
set_option maxRecDepth 20000 in
theorem gX2_setUp_X2_reset : GoodIn wsX2_setUp (wsV RX2 15 RX2 yX2_reset wsX2_reset) := goodIn_app (goodIn_of _ (by decide +kernel)) ggX2_setUp_X2_reset
set_option maxRecDepth 20000 in
theorem ggX2_setUp_X3_of : GoodIn wsX2_setUp wsX3_of := goodIn_r _ [12] (by decide +kernel) (by decide +kernel)
set_option maxRecDepth 20000 in
theorem gX2_setUp_X3_of : GoodIn wsX2_setUp (va_wsS RX2 26 yX3_of wsX3_of) := goodIn_app (goodIn_of _ (by decide +kernel)) ggX2_setUp_X3_of
set_option maxRecDepth 20000 in
theorem ggX2_setUp_X2_putPiece : GoodIn wsX2_setUp wsX2_putPiece := goodIn_ca (goodIn_r _ [16, 17, 18, 19, 5, 20, 7, 21] (by decide +kernel) (by decide +kernel)) (goodIn_sub (fun _ h => List.mem_cons_of_mem _ (List.mem_append_right _ h)) (by decide +kernel))
set_option maxRecDepth 20000 in
theorem gX2_setUp_X2_putPiece : GoodIn wsX2_setUp (wsV RX2 32 RX2 yX2_putPiece wsX2_putPiece) := goodIn_app (goodIn_of _ (by decide +kernel)) ggX2_setUp_X2_putPiece
theorem dX2_setUp_0 : decode cX2_setUp 0 = .ok (.aload_n 0, 1) := by decide +kernel
theorem dX2_setUp_1 : decode cX2_setUp 1 = .ok (.invokevirtual 15, 3) := by decide +kernel
theorem dX2_setUp_4 : decode cX2_setUp 4 = .ok (.iconst 0, 1) := by decide +kernel
theorem dX2_setUp_5 : decode cX2_setUp 5 = .ok (.istore_n 1, 1) := by decide +kernel
theorem dX2_setUp_6 : decode cX2_setUp 6 = .ok (.iload_n 1, 1) := by decide +kernel
theorem dX2_setUp_7 : decode cX2_setUp 7 = .ok (.bipush 6, 2) := by decide +kernel
theorem dX2_setUp_9 : decode cX2_setUp 9 = .ok (.if_icmp .ge 46, 3) := by decide +kernel
theorem dX2_setUp_12 : decode cX2_setUp 12 = .ok (.iload_n 1, 1) := by decide +kernel
theorem dX2_setUp_13 : decode cX2_setUp 13 = .ok (.getstatic 22, 3) := by decide +kernel
theorem dX2_setUp_16 : decode cX2_setUp 16 = .ok (.arraylength, 1) := by decide +kernel
theorem dX2_setUp_17 : decode cX2_setUp 17 = .ok (.if_icmp .ge 38, 3) := by decide +kernel
theorem dX2_setUp_20 : decode cX2_setUp 20 = .ok (.getstatic 22, 3) := by decide +kernel
theorem dX2_setUp_23 : decode cX2_setUp 23 = .ok (.iload_n 1, 1) := by decide +kernel
theorem dX2_setUp_24 : decode cX2_setUp 24 = .ok (.iaload, 1) := by decide +kernel
theorem dX2_setUp_25 : decode cX2_setUp 25 = .ok (.istore_n 2, 1) := by decide +kernel
theorem dX2_setUp_26 : decode cX2_setUp 26 = .ok (.aload_n 0, 1) := by decide +kernel
theorem dX2_setUp_27 : decode cX2_setUp 27 = .ok (.iconst 0, 1) := by decide +kernel
theorem dX2_setUp_28 : decode cX2_setUp 28 = .ok (.iload_n 2, 1) := by decide +kernel
theorem dX2_setUp_29 : decode cX2_setUp 29 = .ok (.iload_n 1, 1) := by decide +kernel
theorem dX2_setUp_30 : decode cX2_setUp 30 = .ok (.invokestatic 26, 3) := by decide +kernel
theorem dX2_setUp_33 : decode cX2_setUp 33 = .ok (.invokevirtual 32, 3) := by decide +kernel
theorem dX2_setUp_36 : decode cX2_setUp 36 = .ok (.aload_n 0, 1) := by decide +kernel
theorem dX2_setUp_37 : decode cX2_setUp 37 = .ok (.iconst 1, 1) := by decide +kernel
theorem dX2_setUp_38 : decode cX2_setUp 38 = .ok (.iload_n 2, 1) := by decide +kernel
theorem dX2_setUp_39 : decode cX2_setUp 39 = .ok (.bipush 30, 2) := by decide +kernel
theorem dX2_setUp_41 : decode cX2_setUp 41 = .ok (.iload_n 1, 1) := by decide +kernel
theorem dX2_setUp_42 : decode cX2_setUp 42 = .ok (.iadd, 1) := by decide +kernel
theorem dX2_setUp_43 : decode cX2_setUp 43 = .ok (.invokestatic 26, 3) := by decide +kernel
theorem dX2_setUp_46 : decode cX2_setUp 46 = .ok (.invokevirtual 32, 3) := by decide +kernel
theorem dX2_setUp_49 : decode cX2_setUp 49 = .ok (.iinc 1 1, 3) := by decide +kernel
theorem dX2_setUp_52 : decode cX2_setUp 52 = .ok (.goto (-46), 3) := by decide +kernel
theorem dX2_setUp_55 : decode cX2_setUp 55 = .ok (.return_, 1) := by decide +kernel
theorem dX2_copyFrom_0 : decode cX2_copyFrom 0 = .ok (.iconst 0, 1) := by decide +kernel
theorem dX2_copyFrom_1 : decode cX2_copyFrom 1 = .ok (.istore_n 2, 1) := by decide +kernel
theorem dX2_copyFrom_2 : decode cX2_copyFrom 2 = .ok (.iload_n 2, 1) := by decide +kernel
theorem dX2_copyFrom_3 : decode cX2_copyFrom 3 = .ok (.bipush 15, 2) := by decide +kernel
theorem dX2_copyFrom_5 : decode cX2_copyFrom 5 = .ok (.if_icmp .ge 21, 3) := by decide +kernel
theorem dX2_copyFrom_8 : decode cX2_copyFrom 8 = .ok (.aload_n 0, 1) := by decide +kernel
theorem dX2_copyFrom_9 : decode cX2_copyFrom 9 = .ok (.getfield 11, 3) := by decide +kernel
theorem dX2_copyFrom_12 : decode cX2_copyFrom 12 = .ok (.iload_n 2, 1) := by decide +kernel
theorem dX2_copyFrom_13 : decode cX2_copyFrom 13 = .ok (.aload_n 1, 1) := by decide +kernel
theorem dX2_copyFrom_14 : decode cX2_copyFrom 14 = .ok (.getfield 11, 3) := by decide +kernel
theorem dX2_copyFrom_17 : decode cX2_copyFrom 17 = .ok (.iload_n 2, 1) := by decide +kernel
theorem dX2_copyFrom_18 : decode cX2_copyFrom 18 = .ok (.laload, 1) := by decide +kernel
theorem dX2_copyFrom_19 : decode cX2_copyFrom 19 = .ok (.lastore, 1) := by decide +kernel
theorem dX2_copyFrom_20 : decode cX2_copyFrom 20 = .ok (.iinc 2 1, 3) := by decide +kernel
theorem dX2_copyFrom_23 : decode cX2_copyFrom 23 = .ok (.goto (-21), 3) := by decide +kernel
theorem dX2_copyFrom_26 : decode cX2_copyFrom 26 = .ok (.return_, 1) := by decide +kernel
theorem dX2_writeTo_0 : decode cX2_writeTo 0 = .ok (.iconst 0, 1) := by decide +kernel
theorem dX2_writeTo_1 : decode cX2_writeTo 1 = .ok (.istore_n 3, 1) := by decide +kernel
theorem dX2_writeTo_2 : decode cX2_writeTo 2 = .ok (.iload_n 3, 1) := by decide +kernel
theorem dX2_writeTo_3 : decode cX2_writeTo 3 = .ok (.bipush 15, 2) := by decide +kernel
theorem dX2_writeTo_5 : decode cX2_writeTo 5 = .ok (.if_icmp .ge 36, 3) := by decide +kernel
theorem dX2_writeTo_8 : decode cX2_writeTo 8 = .ok (.iload_n 2, 1) := by decide +kernel
theorem dX2_writeTo_9 : decode cX2_writeTo 9 = .ok (.iload_n 3, 1) := by decide +kernel
theorem dX2_writeTo_10 : decode cX2_writeTo 10 = .ok (.iadd, 1) := by decide +kernel
theorem dX2_writeTo_11 : decode cX2_writeTo 11 = .ok (.istore 4, 2) := by decide +kernel
theorem dX2_writeTo_13 : decode cX2_writeTo 13 = .ok (.iload 4, 2) := by decide +kernel
theorem dX2_writeTo_15 : decode cX2_writeTo 15 = .ok (.ifCond .lt 20, 3) := by decide +kernel
theorem dX2_writeTo_18 : decode cX2_writeTo 18 = .ok (.iload 4, 2) := by decide +kernel
theorem dX2_writeTo_20 : decode cX2_writeTo 20 = .ok (.aload_n 1, 1) := by decide +kernel
theorem dX2_writeTo_21 : decode cX2_writeTo 21 = .ok (.arraylength, 1) := by decide +kernel
theorem dX2_writeTo_22 : decode cX2_writeTo 22 = .ok (.if_icmp .ge 13, 3) := by decide +kernel
theorem dX2_writeTo_25 : decode cX2_writeTo 25 = .ok (.aload_n 1, 1) := by decide +kernel
theorem dX2_writeTo_26 : decode cX2_writeTo 26 = .ok (.iload 4, 2) := by decide +kernel
theorem dX2_writeTo_28 : decode cX2_writeTo 28 = .ok (.aload_n 0, 1) := by decide +kernel
theorem dX2_writeTo_29 : decode cX2_writeTo 29 = .ok (.getfield 11, 3) := by decide +kernel
theorem dX2_writeTo_32 : decode cX2_writeTo 32 = .ok (.iload_n 3, 1) := by decide +kernel
theorem dX2_writeTo_33 : decode cX2_writeTo 33 = .ok (.laload, 1) := by decide +kernel
theorem dX2_writeTo_34 : decode cX2_writeTo 34 = .ok (.lastore, 1) := by decide +kernel
theorem dX2_writeTo_35 : decode cX2_writeTo 35 = .ok (.iinc 3 1, 3) := by decide +kernel
theorem dX2_writeTo_38 : decode cX2_writeTo 38 = .ok (.goto (-36), 3) := by decide +kernel
theorem dX2_writeTo_41 : decode cX2_writeTo 41 = .ok (.return_, 1) := by decide +kernel
theorem dX2_readFrom_0 : decode cX2_readFrom 0 = .ok (.iconst 0, 1) := by decide +kernel
theorem dX2_readFrom_1 : decode cX2_readFrom 1 = .ok (.istore_n 3, 1) := by decide +kernel
theorem dX2_readFrom_2 : decode cX2_readFrom 2 = .ok (.iload_n 3, 1) := by decide +kernel
theorem dX2_readFrom_3 : decode cX2_readFrom 3 = .ok (.bipush 15, 2) := by decide +kernel
theorem dX2_readFrom_5 : decode cX2_readFrom 5 = .ok (.if_icmp .ge 36, 3) := by decide +kernel
theorem dX2_readFrom_8 : decode cX2_readFrom 8 = .ok (.iload_n 2, 1) := by decide +kernel
theorem dX2_readFrom_9 : decode cX2_readFrom 9 = .ok (.iload_n 3, 1) := by decide +kernel
theorem dX2_readFrom_10 : decode cX2_readFrom 10 = .ok (.iadd, 1) := by decide +kernel
theorem dX2_readFrom_11 : decode cX2_readFrom 11 = .ok (.istore 4, 2) := by decide +kernel
theorem dX2_readFrom_13 : decode cX2_readFrom 13 = .ok (.iload 4, 2) := by decide +kernel
theorem dX2_readFrom_15 : decode cX2_readFrom 15 = .ok (.ifCond .lt 20, 3) := by decide +kernel
theorem dX2_readFrom_18 : decode cX2_readFrom 18 = .ok (.iload 4, 2) := by decide +kernel
theorem dX2_readFrom_20 : decode cX2_readFrom 20 = .ok (.aload_n 1, 1) := by decide +kernel
theorem dX2_readFrom_21 : decode cX2_readFrom 21 = .ok (.arraylength, 1) := by decide +kernel
theorem dX2_readFrom_22 : decode cX2_readFrom 22 = .ok (.if_icmp .ge 13, 3) := by decide +kernel
theorem dX2_readFrom_25 : decode cX2_readFrom 25 = .ok (.aload_n 0, 1) := by decide +kernel
theorem dX2_readFrom_26 : decode cX2_readFrom 26 = .ok (.getfield 11, 3) := by decide +kernel
theorem dX2_readFrom_29 : decode cX2_readFrom 29 = .ok (.iload_n 3, 1) := by decide +kernel
theorem dX2_readFrom_30 : decode cX2_readFrom 30 = .ok (.aload_n 1, 1) := by decide +kernel
theorem dX2_readFrom_31 : decode cX2_readFrom 31 = .ok (.iload 4, 2) := by decide +kernel
theorem dX2_readFrom_33 : decode cX2_readFrom 33 = .ok (.laload, 1) := by decide +kernel
theorem dX2_readFrom_34 : decode cX2_readFrom 34 = .ok (.lastore, 1) := by decide +kernel
theorem dX2_readFrom_35 : decode cX2_readFrom 35 = .ok (.iinc 3 1, 3) := by decide +kernel
theorem dX2_readFrom_38 : decode cX2_readFrom 38 = .ok (.goto (-36), 3) := by decide +kernel
theorem dX2_readFrom_41 : decode cX2_readFrom 41 = .ok (.return_, 1) := by decide +kernel
theorem dX2_piecesOf_0 : decode cX2_piecesOf 0 = .ok (.iload_n 1, 1) := by decide +kernel
theorem dX2_piecesOf_1 : decode cX2_piecesOf 1 = .ok (.ifCond .ne 12, 3) := by decide +kernel
theorem dX2_piecesOf_4 : decode cX2_piecesOf 4 = .ok (.aload_n 0, 1) := by decide +kernel
theorem dX2_piecesOf_5 : decode cX2_piecesOf 5 = .ok (.getfield 11, 3) := by decide +kernel
theorem dX2_piecesOf_8 : decode cX2_piecesOf 8 = .ok (.iconst 0, 1) := by decide +kernel
theorem dX2_piecesOf_9 : decode cX2_piecesOf 9 = .ok (.laload, 1) := by decide +kernel
theorem dX2_piecesOf_10 : decode cX2_piecesOf 10 = .ok (.goto 9, 3) := by decide +kernel
theorem dX2_piecesOf_13 : decode cX2_piecesOf 13 = .ok (.aload_n 0, 1) := by decide +kernel
theorem dX2_piecesOf_14 : decode cX2_piecesOf 14 = .ok (.getfield 11, 3) := by decide +kernel
theorem dX2_piecesOf_17 : decode cX2_piecesOf 17 = .ok (.iconst 1, 1) := by decide +kernel
theorem dX2_piecesOf_18 : decode cX2_piecesOf 18 = .ok (.laload, 1) := by decide +kernel
theorem dX2_piecesOf_19 : decode cX2_piecesOf 19 = .ok (.lreturn, 1) := by decide +kernel
theorem dX2_allPieces_0 : decode cX2_allPieces 0 = .ok (.aload_n 0, 1) := by decide +kernel
theorem dX2_allPieces_1 : decode cX2_allPieces 1 = .ok (.getfield 11, 3) := by decide +kernel
theorem dX2_allPieces_4 : decode cX2_allPieces 4 = .ok (.iconst 0, 1) := by decide +kernel
theorem dX2_allPieces_5 : decode cX2_allPieces 5 = .ok (.laload, 1) := by decide +kernel
theorem dX2_allPieces_6 : decode cX2_allPieces 6 = .ok (.aload_n 0, 1) := by decide +kernel
theorem dX2_allPieces_7 : decode cX2_allPieces 7 = .ok (.getfield 11, 3) := by decide +kernel
theorem dX2_allPieces_10 : decode cX2_allPieces 10 = .ok (.iconst 1, 1) := by decide +kernel
theorem dX2_allPieces_11 : decode cX2_allPieces 11 = .ok (.laload, 1) := by decide +kernel
theorem dX2_allPieces_12 : decode cX2_allPieces 12 = .ok (.lor, 1) := by decide +kernel
theorem dX2_allPieces_13 : decode cX2_allPieces 13 = .ok (.lreturn, 1) := by decide +kernel
theorem dX2_doorsOf_0 : decode cX2_doorsOf 0 = .ok (.iload_n 1, 1) := by decide +kernel
theorem dX2_doorsOf_1 : decode cX2_doorsOf 1 = .ok (.ifCond .ne 12, 3) := by decide +kernel
theorem dX2_doorsOf_4 : decode cX2_doorsOf 4 = .ok (.aload_n 0, 1) := by decide +kernel
theorem dX2_doorsOf_5 : decode cX2_doorsOf 5 = .ok (.getfield 11, 3) := by decide +kernel
theorem dX2_doorsOf_8 : decode cX2_doorsOf 8 = .ok (.iconst 2, 1) := by decide +kernel
theorem dX2_doorsOf_9 : decode cX2_doorsOf 9 = .ok (.laload, 1) := by decide +kernel
theorem dX2_doorsOf_10 : decode cX2_doorsOf 10 = .ok (.goto 9, 3) := by decide +kernel
theorem dX2_doorsOf_13 : decode cX2_doorsOf 13 = .ok (.aload_n 0, 1) := by decide +kernel
theorem dX2_doorsOf_14 : decode cX2_doorsOf 14 = .ok (.getfield 11, 3) := by decide +kernel
theorem dX2_doorsOf_17 : decode cX2_doorsOf 17 = .ok (.iconst 3, 1) := by decide +kernel
theorem dX2_doorsOf_18 : decode cX2_doorsOf 18 = .ok (.laload, 1) := by decide +kernel
theorem dX2_doorsOf_19 : decode cX2_doorsOf 19 = .ok (.lreturn, 1) := by decide +kernel
theorem dX2_allDoors_0 : decode cX2_allDoors 0 = .ok (.aload_n 0, 1) := by decide +kernel
theorem dX2_allDoors_1 : decode cX2_allDoors 1 = .ok (.getfield 11, 3) := by decide +kernel
theorem dX2_allDoors_4 : decode cX2_allDoors 4 = .ok (.iconst 2, 1) := by decide +kernel
theorem dX2_allDoors_5 : decode cX2_allDoors 5 = .ok (.laload, 1) := by decide +kernel
theorem dX2_allDoors_6 : decode cX2_allDoors 6 = .ok (.aload_n 0, 1) := by decide +kernel
theorem dX2_allDoors_7 : decode cX2_allDoors 7 = .ok (.getfield 11, 3) := by decide +kernel
theorem dX2_allDoors_10 : decode cX2_allDoors 10 = .ok (.iconst 3, 1) := by decide +kernel
theorem dX2_allDoors_11 : decode cX2_allDoors 11 = .ok (.laload, 1) := by decide +kernel
theorem dX2_allDoors_12 : decode cX2_allDoors 12 = .ok (.lor, 1) := by decide +kernel
theorem dX2_allDoors_13 : decode cX2_allDoors 13 = .ok (.lreturn, 1) := by decide +kernel
theorem dX2_memoriesOf_0 : decode cX2_memoriesOf 0 = .ok (.iload_n 1, 1) := by decide +kernel
theorem dX2_memoriesOf_1 : decode cX2_memoriesOf 1 = .ok (.ifCond .ne 12, 3) := by decide +kernel
theorem dX2_memoriesOf_4 : decode cX2_memoriesOf 4 = .ok (.aload_n 0, 1) := by decide +kernel
theorem dX2_memoriesOf_5 : decode cX2_memoriesOf 5 = .ok (.getfield 11, 3) := by decide +kernel
theorem dX2_memoriesOf_8 : decode cX2_memoriesOf 8 = .ok (.iconst 4, 1) := by decide +kernel
theorem dX2_memoriesOf_9 : decode cX2_memoriesOf 9 = .ok (.laload, 1) := by decide +kernel
theorem dX2_memoriesOf_10 : decode cX2_memoriesOf 10 = .ok (.goto 9, 3) := by decide +kernel
theorem dX2_memoriesOf_13 : decode cX2_memoriesOf 13 = .ok (.aload_n 0, 1) := by decide +kernel
theorem dX2_memoriesOf_14 : decode cX2_memoriesOf 14 = .ok (.getfield 11, 3) := by decide +kernel
theorem dX2_memoriesOf_17 : decode cX2_memoriesOf 17 = .ok (.iconst 5, 1) := by decide +kernel
theorem dX2_memoriesOf_18 : decode cX2_memoriesOf 18 = .ok (.laload, 1) := by decide +kernel
theorem dX2_memoriesOf_19 : decode cX2_memoriesOf 19 = .ok (.lreturn, 1) := by decide +kernel
theorem dX2_walls_0 : decode cX2_walls 0 = .ok (.aload_n 0, 1) := by decide +kernel
theorem dX2_walls_1 : decode cX2_walls 1 = .ok (.getfield 11, 3) := by decide +kernel
theorem dX2_walls_4 : decode cX2_walls 4 = .ok (.bipush 10, 2) := by decide +kernel
theorem dX2_walls_6 : decode cX2_walls 6 = .ok (.laload, 1) := by decide +kernel
theorem dX2_walls_7 : decode cX2_walls 7 = .ok (.lreturn, 1) := by decide +kernel
theorem dX2_openTo_0 : decode cX2_openTo 0 = .ok (.iload_n 1, 1) := by decide +kernel
theorem dX2_openTo_1 : decode cX2_openTo 1 = .ok (.ifCond .ne 12, 3) := by decide +kernel
theorem dX2_openTo_4 : decode cX2_openTo 4 = .ok (.aload_n 0, 1) := by decide +kernel
theorem dX2_openTo_5 : decode cX2_openTo 5 = .ok (.getfield 11, 3) := by decide +kernel
theorem dX2_openTo_8 : decode cX2_openTo 8 = .ok (.iconst 3, 1) := by decide +kernel
theorem dX2_openTo_9 : decode cX2_openTo 9 = .ok (.laload, 1) := by decide +kernel
theorem dX2_openTo_10 : decode cX2_openTo 10 = .ok (.goto 9, 3) := by decide +kernel
theorem dX2_openTo_13 : decode cX2_openTo 13 = .ok (.aload_n 0, 1) := by decide +kernel
theorem dX2_openTo_14 : decode cX2_openTo 14 = .ok (.getfield 11, 3) := by decide +kernel
theorem dX2_openTo_17 : decode cX2_openTo 17 = .ok (.iconst 2, 1) := by decide +kernel
theorem dX2_openTo_18 : decode cX2_openTo 18 = .ok (.laload, 1) := by decide +kernel
theorem dX2_openTo_19 : decode cX2_openTo 19 = .ok (.lstore_n 2, 1) := by decide +kernel
theorem dX2_openTo_20 : decode cX2_openTo 20 = .ok (.ldc2_w 36, 3) := by decide +kernel
theorem dX2_openTo_23 : decode cX2_openTo 23 = .ok (.aload_n 0, 1) := by decide +kernel
theorem dX2_openTo_24 : decode cX2_openTo 24 = .ok (.getfield 11, 3) := by decide +kernel
theorem dX2_openTo_27 : decode cX2_openTo 27 = .ok (.bipush 10, 2) := by decide +kernel
theorem dX2_openTo_29 : decode cX2_openTo 29 = .ok (.laload, 1) := by decide +kernel
theorem dX2_openTo_30 : decode cX2_openTo 30 = .ok (.ldc2_w 18, 3) := by decide +kernel
theorem dX2_openTo_33 : decode cX2_openTo 33 = .ok (.lxor, 1) := by decide +kernel
theorem dX2_openTo_34 : decode cX2_openTo 34 = .ok (.land, 1) := by decide +kernel
theorem dX2_openTo_35 : decode cX2_openTo 35 = .ok (.lload_n 2, 1) := by decide +kernel
theorem dX2_openTo_36 : decode cX2_openTo 36 = .ok (.ldc2_w 18, 3) := by decide +kernel
theorem dX2_openTo_39 : decode cX2_openTo 39 = .ok (.lxor, 1) := by decide +kernel
theorem dX2_openTo_40 : decode cX2_openTo 40 = .ok (.land, 1) := by decide +kernel
theorem dX2_openTo_41 : decode cX2_openTo 41 = .ok (.lreturn, 1) := by decide +kernel
theorem dX2_coinsOf_0 : decode cX2_coinsOf 0 = .ok (.iload_n 1, 1) := by decide +kernel
theorem dX2_coinsOf_1 : decode cX2_coinsOf 1 = .ok (.ifCond .ne 13, 3) := by decide +kernel
theorem dX2_coinsOf_4 : decode cX2_coinsOf 4 = .ok (.aload_n 0, 1) := by decide +kernel
theorem dX2_coinsOf_5 : decode cX2_coinsOf 5 = .ok (.getfield 11, 3) := by decide +kernel
theorem dX2_coinsOf_8 : decode cX2_coinsOf 8 = .ok (.bipush 11, 2) := by decide +kernel
theorem dX2_coinsOf_10 : decode cX2_coinsOf 10 = .ok (.laload, 1) := by decide +kernel
theorem dX2_coinsOf_11 : decode cX2_coinsOf 11 = .ok (.goto 10, 3) := by decide +kernel
theorem dX2_coinsOf_14 : decode cX2_coinsOf 14 = .ok (.aload_n 0, 1) := by decide +kernel
theorem dX2_coinsOf_15 : decode cX2_coinsOf 15 = .ok (.getfield 11, 3) := by decide +kernel
theorem dX2_coinsOf_18 : decode cX2_coinsOf 18 = .ok (.bipush 12, 2) := by decide +kernel
theorem dX2_coinsOf_20 : decode cX2_coinsOf 20 = .ok (.laload, 1) := by decide +kernel
theorem dX2_coinsOf_21 : decode cX2_coinsOf 21 = .ok (.l2i, 1) := by decide +kernel
theorem dX2_coinsOf_22 : decode cX2_coinsOf 22 = .ok (.ireturn, 1) := by decide +kernel
theorem dX2_turns_0 : decode cX2_turns 0 = .ok (.aload_n 0, 1) := by decide +kernel
theorem dX2_turns_1 : decode cX2_turns 1 = .ok (.getfield 11, 3) := by decide +kernel
theorem dX2_turns_4 : decode cX2_turns 4 = .ok (.bipush 13, 2) := by decide +kernel
theorem dX2_turns_6 : decode cX2_turns 6 = .ok (.laload, 1) := by decide +kernel
theorem dX2_turns_7 : decode cX2_turns 7 = .ok (.l2i, 1) := by decide +kernel
theorem dX2_turns_8 : decode cX2_turns 8 = .ok (.ireturn, 1) := by decide +kernel
theorem dX2_ending_0 : decode cX2_ending 0 = .ok (.aload_n 0, 1) := by decide +kernel
theorem dX2_ending_1 : decode cX2_ending 1 = .ok (.getfield 11, 3) := by decide +kernel
theorem dX2_ending_4 : decode cX2_ending 4 = .ok (.bipush 14, 2) := by decide +kernel
theorem dX2_ending_6 : decode cX2_ending 6 = .ok (.laload, 1) := by decide +kernel
theorem dX2_ending_7 : decode cX2_ending 7 = .ok (.l2i, 1) := by decide +kernel
theorem dX2_ending_8 : decode cX2_ending 8 = .ok (.ireturn, 1) := by decide +kernel
theorem dX2_isOver_0 : decode cX2_isOver 0 = .ok (.aload_n 0, 1) := by decide +kernel
theorem dX2_isOver_1 : decode cX2_isOver 1 = .ok (.getfield 11, 3) := by decide +kernel
theorem dX2_isOver_4 : decode cX2_isOver 4 = .ok (.bipush 14, 2) := by decide +kernel
theorem dX2_isOver_6 : decode cX2_isOver 6 = .ok (.laload, 1) := by decide +kernel
theorem dX2_isOver_7 : decode cX2_isOver 7 = .ok (.lconst 0, 1) := by decide +kernel
theorem dX2_isOver_8 : decode cX2_isOver 8 = .ok (.lcmp, 1) := by decide +kernel
theorem dX2_isOver_9 : decode cX2_isOver 9 = .ok (.ifCond .eq 7, 3) := by decide +kernel
theorem dX2_isOver_12 : decode cX2_isOver 12 = .ok (.iconst 1, 1) := by decide +kernel
theorem dX2_isOver_13 : decode cX2_isOver 13 = .ok (.goto 4, 3) := by decide +kernel
theorem dX2_isOver_16 : decode cX2_isOver 16 = .ok (.iconst 0, 1) := by decide +kernel
theorem dX2_isOver_17 : decode cX2_isOver 17 = .ok (.ireturn, 1) := by decide +kernel
set_option maxRecDepth 20000 in
theorem ggX2_mover_X2_turns : GoodIn wsX2_mover wsX2_turns := goodIn_ca (goodIn_r _ [5, 6, 7] (by decide +kernel) (by decide +kernel)) (goodIn_sub (fun _ h => List.mem_cons_of_mem _ (List.mem_append_right _ h)) (by decide +kernel))
set_option maxRecDepth 20000 in
theorem gX2_mover_X2_turns : GoodIn wsX2_mover (wsV RX2 38 RX2 yX2_turns wsX2_turns) := goodIn_app (goodIn_of _ (by decide +kernel)) ggX2_mover_X2_turns
theorem dX2_mover_0 : decode cX2_mover 0 = .ok (.aload_n 0, 1) := by decide +kernel
theorem dX2_mover_1 : decode cX2_mover 1 = .ok (.invokevirtual 38, 3) := by decide +kernel
theorem dX2_mover_4 : decode cX2_mover 4 = .ok (.iconst 1, 1) := by decide +kernel
theorem dX2_mover_5 : decode cX2_mover 5 = .ok (.iand, 1) := by decide +kernel
theorem dX2_mover_6 : decode cX2_mover 6 = .ok (.ireturn, 1) := by decide +kernel
set_option maxRecDepth 20000 in
theorem ggX2_whatOn_X2_allPieces : GoodIn wsX2_whatOn wsX2_allPieces := goodIn_ca (goodIn_r _ [5, 6, 19] (by decide +kernel) (by decide +kernel)) (goodIn_sub (fun _ h => List.mem_cons_of_mem _ (List.mem_append_right _ h)) (by decide +kernel))
set_option maxRecDepth 20000 in
theorem gX2_whatOn_X2_allPieces : GoodIn wsX2_whatOn (wsV RX2 42 RX2 yX2_allPieces wsX2_allPieces) := goodIn_app (goodIn_of _ (by decide +kernel)) ggX2_whatOn_X2_allPieces
set_option maxRecDepth 20000 in
theorem ggX2_whatOn_X3_has : GoodIn wsX2_whatOn wsX3_has := goodIn_r _ [10] (by decide +kernel) (by decide +kernel)
set_option maxRecDepth 20000 in
theorem gX2_whatOn_X3_has : GoodIn wsX2_whatOn (va_wsS RX2 46 yX3_has wsX3_has) := goodIn_app (goodIn_of _ (by decide +kernel)) ggX2_whatOn_X3_has
set_option maxRecDepth 20000 in
theorem ggX2_whatOn_X2_walls : GoodIn wsX2_whatOn wsX2_walls := goodIn_ca (goodIn_r _ [14, 6, 19] (by decide +kernel) (by decide +kernel)) (goodIn_sub (fun _ h => List.mem_cons_of_mem _ (List.mem_append_right _ h)) (by decide +kernel))
set_option maxRecDepth 20000 in
theorem gX2_whatOn_X2_walls : GoodIn wsX2_whatOn (wsV RX2 50 RX2 yX2_walls wsX2_walls) := goodIn_app (goodIn_of _ (by decide +kernel)) ggX2_whatOn_X2_walls
set_option maxRecDepth 20000 in
theorem ggX2_whatOn_X2_allDoors : GoodIn wsX2_whatOn wsX2_allDoors := goodIn_ca (goodIn_r _ [18, 6, 19] (by decide +kernel) (by decide +kernel)) (goodIn_sub (fun _ h => List.mem_cons_of_mem _ (List.mem_append_right _ h)) (by decide +kernel))
set_option maxRecDepth 20000 in
theorem gX2_whatOn_X2_allDoors : GoodIn wsX2_whatOn (wsV RX2 53 RX2 yX2_allDoors wsX2_allDoors) := goodIn_app (goodIn_of _ (by decide +kernel)) ggX2_whatOn_X2_allDoors
theorem dX2_whatOn_0 : decode cX2_whatOn 0 = .ok (.aload_n 0, 1) := by decide +kernel
theorem dX2_whatOn_1 : decode cX2_whatOn 1 = .ok (.invokevirtual 42, 3) := by decide +kernel
theorem dX2_whatOn_4 : decode cX2_whatOn 4 = .ok (.iload_n 1, 1) := by decide +kernel
theorem dX2_whatOn_5 : decode cX2_whatOn 5 = .ok (.invokestatic 46, 3) := by decide +kernel
theorem dX2_whatOn_8 : decode cX2_whatOn 8 = .ok (.ifCond .eq 5, 3) := by decide +kernel
theorem dX2_whatOn_11 : decode cX2_whatOn 11 = .ok (.iconst 1, 1) := by decide +kernel
theorem dX2_whatOn_12 : decode cX2_whatOn 12 = .ok (.ireturn, 1) := by decide +kernel
theorem dX2_whatOn_13 : decode cX2_whatOn 13 = .ok (.aload_n 0, 1) := by decide +kernel
theorem dX2_whatOn_14 : decode cX2_whatOn 14 = .ok (.invokevirtual 50, 3) := by decide +kernel
theorem dX2_whatOn_17 : decode cX2_whatOn 17 = .ok (.iload_n 1, 1) := by decide +kernel
theorem dX2_whatOn_18 : decode cX2_whatOn 18 = .ok (.invokestatic 46, 3) := by decide +kernel
theorem dX2_whatOn_21 : decode cX2_whatOn 21 = .ok (.ifCond .eq 5, 3) := by decide +kernel
theorem dX2_whatOn_24 : decode cX2_whatOn 24 = .ok (.iconst 2, 1) := by decide +kernel
theorem dX2_whatOn_25 : decode cX2_whatOn 25 = .ok (.ireturn, 1) := by decide +kernel
theorem dX2_whatOn_26 : decode cX2_whatOn 26 = .ok (.aload_n 0, 1) := by decide +kernel
theorem dX2_whatOn_27 : decode cX2_whatOn 27 = .ok (.invokevirtual 53, 3) := by decide +kernel
theorem dX2_whatOn_30 : decode cX2_whatOn 30 = .ok (.iload_n 1, 1) := by decide +kernel
theorem dX2_whatOn_31 : decode cX2_whatOn 31 = .ok (.invokestatic 46, 3) := by decide +kernel
theorem dX2_whatOn_34 : decode cX2_whatOn 34 = .ok (.ifCond .eq 7, 3) := by decide +kernel
theorem dX2_whatOn_37 : decode cX2_whatOn 37 = .ok (.iconst 3, 1) := by decide +kernel
theorem dX2_whatOn_38 : decode cX2_whatOn 38 = .ok (.goto 4, 3) := by decide +kernel
theorem dX2_whatOn_41 : decode cX2_whatOn 41 = .ok (.iconst 0, 1) := by decide +kernel
theorem dX2_whatOn_42 : decode cX2_whatOn 42 = .ok (.ireturn, 1) := by decide +kernel
set_option maxRecDepth 20000 in
theorem ggX2_sideOn_X2_piecesOf : GoodIn wsX2_sideOn wsX2_piecesOf := goodIn_ca (goodIn_r _ [5, 6, 19] (by decide +kernel) (by decide +kernel)) (goodIn_sub (fun _ h => List.mem_cons_of_mem _ (List.mem_append_right _ h)) (by decide +kernel))
set_option maxRecDepth 20000 in
theorem gX2_sideOn_X2_piecesOf : GoodIn wsX2_sideOn (wsV RX2 56 RX2 yX2_piecesOf wsX2_piecesOf) := goodIn_app (goodIn_of _ (by decide +kernel)) ggX2_sideOn_X2_piecesOf
set_option maxRecDepth 20000 in
theorem ggX2_sideOn_X2_doorsOf : GoodIn wsX2_sideOn wsX2_doorsOf := goodIn_ca (goodIn_r _ [10, 6, 19] (by decide +kernel) (by decide +kernel)) (goodIn_sub (fun _ h => List.mem_cons_of_mem _ (List.mem_append_right _ h)) (by decide +kernel))
set_option maxRecDepth 20000 in
theorem gX2_sideOn_X2_doorsOf : GoodIn wsX2_sideOn (wsV RX2 59 RX2 yX2_doorsOf wsX2_doorsOf) := goodIn_app (goodIn_of _ (by decide +kernel)) ggX2_sideOn_X2_doorsOf
set_option maxRecDepth 20000 in
theorem ggX2_sideOn_X2_memoriesOf : GoodIn wsX2_sideOn wsX2_memoriesOf := goodIn_ca (goodIn_r _ [14, 6, 19] (by decide +kernel) (by decide +kernel)) (goodIn_sub (fun _ h => List.mem_cons_of_mem _ (List.mem_append_right _ h)) (by decide +kernel))
set_option maxRecDepth 20000 in
theorem gX2_sideOn_X2_memoriesOf : GoodIn wsX2_sideOn (wsV RX2 62 RX2 yX2_memoriesOf wsX2_memoriesOf) := goodIn_app (goodIn_of _ (by decide +kernel)) ggX2_sideOn_X2_memoriesOf
set_option maxRecDepth 20000 in
theorem ggX2_sideOn_X3_has : GoodIn wsX2_sideOn wsX3_has := goodIn_r _ [18] (by decide +kernel) (by decide +kernel)
set_option maxRecDepth 20000 in
theorem gX2_sideOn_X3_has : GoodIn wsX2_sideOn (va_wsS RX2 46 yX3_has wsX3_has) := goodIn_app (goodIn_of _ (by decide +kernel)) ggX2_sideOn_X3_has
theorem dX2_sideOn_0 : decode cX2_sideOn 0 = .ok (.iconst 0, 1) := by decide +kernel
theorem dX2_sideOn_1 : decode cX2_sideOn 1 = .ok (.istore_n 2, 1) := by decide +kernel
theorem dX2_sideOn_2 : decode cX2_sideOn 2 = .ok (.iload_n 2, 1) := by decide +kernel
theorem dX2_sideOn_3 : decode cX2_sideOn 3 = .ok (.iconst 2, 1) := by decide +kernel
theorem dX2_sideOn_4 : decode cX2_sideOn 4 = .ok (.if_icmp .ge 35, 3) := by decide +kernel
theorem dX2_sideOn_7 : decode cX2_sideOn 7 = .ok (.aload_n 0, 1) := by decide +kernel
theorem dX2_sideOn_8 : decode cX2_sideOn 8 = .ok (.iload_n 2, 1) := by decide +kernel
theorem dX2_sideOn_9 : decode cX2_sideOn 9 = .ok (.invokevirtual 56, 3) := by decide +kernel
theorem dX2_sideOn_12 : decode cX2_sideOn 12 = .ok (.aload_n 0, 1) := by decide +kernel
theorem dX2_sideOn_13 : decode cX2_sideOn 13 = .ok (.iload_n 2, 1) := by decide +kernel
theorem dX2_sideOn_14 : decode cX2_sideOn 14 = .ok (.invokevirtual 59, 3) := by decide +kernel
theorem dX2_sideOn_17 : decode cX2_sideOn 17 = .ok (.lor, 1) := by decide +kernel
theorem dX2_sideOn_18 : decode cX2_sideOn 18 = .ok (.aload_n 0, 1) := by decide +kernel
theorem dX2_sideOn_19 : decode cX2_sideOn 19 = .ok (.iload_n 2, 1) := by decide +kernel
theorem dX2_sideOn_20 : decode cX2_sideOn 20 = .ok (.invokevirtual 62, 3) := by decide +kernel
theorem dX2_sideOn_23 : decode cX2_sideOn 23 = .ok (.lor, 1) := by decide +kernel
theorem dX2_sideOn_24 : decode cX2_sideOn 24 = .ok (.iload_n 1, 1) := by decide +kernel
theorem dX2_sideOn_25 : decode cX2_sideOn 25 = .ok (.invokestatic 46, 3) := by decide +kernel
theorem dX2_sideOn_28 : decode cX2_sideOn 28 = .ok (.ifCond .eq 5, 3) := by decide +kernel
theorem dX2_sideOn_31 : decode cX2_sideOn 31 = .ok (.iload_n 2, 1) := by decide +kernel
theorem dX2_sideOn_32 : decode cX2_sideOn 32 = .ok (.ireturn, 1) := by decide +kernel
theorem dX2_sideOn_33 : decode cX2_sideOn 33 = .ok (.iinc 2 1, 3) := by decide +kernel
theorem dX2_sideOn_36 : decode cX2_sideOn 36 = .ok (.goto (-34), 3) := by decide +kernel
theorem dX2_sideOn_39 : decode cX2_sideOn 39 = .ok (.iconst (-1), 1) := by decide +kernel
theorem dX2_sideOn_40 : decode cX2_sideOn 40 = .ok (.ireturn, 1) := by decide +kernel
set_option maxRecDepth 20000 in
theorem ggX2_kindOn_X2_at : GoodIn wsX2_kindOn wsX2_at := goodIn_ca (goodIn_r _ [5, 6, 11] (by decide +kernel) (by decide +kernel)) (goodIn_sub (fun _ h => List.mem_cons_of_mem _ (List.mem_append_right _ h)) (by decide +kernel))
set_option maxRecDepth 20000 in
theorem gX2_kindOn_X2_at : GoodIn wsX2_kindOn (wsV RX2 65 RX2 yX2_at wsX2_at) := goodIn_app (goodIn_of _ (by decide +kernel)) ggX2_kindOn_X2_at
set_option maxRecDepth 20000 in
theorem ggX2_kindOn_X3_has : GoodIn wsX2_kindOn wsX3_has := goodIn_r _ [10] (by decide +kernel) (by decide +kernel)
set_option maxRecDepth 20000 in
theorem gX2_kindOn_X3_has : GoodIn wsX2_kindOn (va_wsS RX2 46 yX3_has wsX3_has) := goodIn_app (goodIn_of _ (by decide +kernel)) ggX2_kindOn_X3_has
theorem dX2_kindOn_0 : decode cX2_kindOn 0 = .ok (.iconst 0, 1) := by decide +kernel
theorem dX2_kindOn_1 : decode cX2_kindOn 1 = .ok (.istore_n 2, 1) := by decide +kernel
theorem dX2_kindOn_2 : decode cX2_kindOn 2 = .ok (.iload_n 2, 1) := by decide +kernel
theorem dX2_kindOn_3 : decode cX2_kindOn 3 = .ok (.iconst 4, 1) := by decide +kernel
theorem dX2_kindOn_4 : decode cX2_kindOn 4 = .ok (.if_icmp .ge 26, 3) := by decide +kernel
theorem dX2_kindOn_7 : decode cX2_kindOn 7 = .ok (.aload_n 0, 1) := by decide +kernel
theorem dX2_kindOn_8 : decode cX2_kindOn 8 = .ok (.bipush 6, 2) := by decide +kernel
theorem dX2_kindOn_10 : decode cX2_kindOn 10 = .ok (.iload_n 2, 1) := by decide +kernel
theorem dX2_kindOn_11 : decode cX2_kindOn 11 = .ok (.iadd, 1) := by decide +kernel
theorem dX2_kindOn_12 : decode cX2_kindOn 12 = .ok (.invokevirtual 65, 3) := by decide +kernel
theorem dX2_kindOn_15 : decode cX2_kindOn 15 = .ok (.iload_n 1, 1) := by decide +kernel
theorem dX2_kindOn_16 : decode cX2_kindOn 16 = .ok (.invokestatic 46, 3) := by decide +kernel
theorem dX2_kindOn_19 : decode cX2_kindOn 19 = .ok (.ifCond .eq 5, 3) := by decide +kernel
theorem dX2_kindOn_22 : decode cX2_kindOn 22 = .ok (.iload_n 2, 1) := by decide +kernel
theorem dX2_kindOn_23 : decode cX2_kindOn 23 = .ok (.ireturn, 1) := by decide +kernel
theorem dX2_kindOn_24 : decode cX2_kindOn 24 = .ok (.iinc 2 1, 3) := by decide +kernel
theorem dX2_kindOn_27 : decode cX2_kindOn 27 = .ok (.goto (-25), 3) := by decide +kernel
theorem dX2_kindOn_30 : decode cX2_kindOn 30 = .ok (.iconst (-1), 1) := by decide +kernel
theorem dX2_kindOn_31 : decode cX2_kindOn 31 = .ok (.ireturn, 1) := by decide +kernel
set_option maxRecDepth 20000 in
theorem ggX2_keeperOf_X2_piecesOf : GoodIn wsX2_keeperOf wsX2_piecesOf := goodIn_ca (goodIn_r _ [6, 1, 18] (by decide +kernel) (by decide +kernel)) (goodIn_sub (fun _ h => List.mem_cons_of_mem _ (List.mem_append_right _ h)) (by decide +kernel))
set_option maxRecDepth 20000 in
theorem gX2_keeperOf_X2_piecesOf : GoodIn wsX2_keeperOf (wsV RX2 56 RX2 yX2_piecesOf wsX2_piecesOf) := goodIn_app (goodIn_of _ (by decide +kernel)) ggX2_keeperOf_X2_piecesOf
set_option maxRecDepth 20000 in
theorem ggX2_keeperOf_X3_lowest : GoodIn wsX2_keeperOf wsX3_lowest := goodIn_r _ [10, 11, 12, 13, 14, 15, 16, 17] (by decide +kernel) (by decide +kernel)
set_option maxRecDepth 20000 in
theorem gX2_keeperOf_X3_lowest : GoodIn wsX2_keeperOf (va_wsS RX2 68 yX3_lowest wsX3_lowest) := goodIn_app (goodIn_of _ (by decide +kernel)) ggX2_keeperOf_X3_lowest
theorem dX2_keeperOf_0 : decode cX2_keeperOf 0 = .ok (.aload_n 0, 1) := by decide +kernel
theorem dX2_keeperOf_1 : decode cX2_keeperOf 1 = .ok (.iload_n 1, 1) := by decide +kernel
theorem dX2_keeperOf_2 : decode cX2_keeperOf 2 = .ok (.invokevirtual 56, 3) := by decide +kernel
theorem dX2_keeperOf_5 : decode cX2_keeperOf 5 = .ok (.aload_n 0, 1) := by decide +kernel
theorem dX2_keeperOf_6 : decode cX2_keeperOf 6 = .ok (.getfield 11, 3) := by decide +kernel
theorem dX2_keeperOf_9 : decode cX2_keeperOf 9 = .ok (.bipush 9, 2) := by decide +kernel
theorem dX2_keeperOf_11 : decode cX2_keeperOf 11 = .ok (.laload, 1) := by decide +kernel
theorem dX2_keeperOf_12 : decode cX2_keeperOf 12 = .ok (.land, 1) := by decide +kernel
theorem dX2_keeperOf_13 : decode cX2_keeperOf 13 = .ok (.invokestatic 68, 3) := by decide +kernel
theorem dX2_keeperOf_16 : decode cX2_keeperOf 16 = .ok (.ireturn, 1) := by decide +kernel
set_option maxRecDepth 20000 in
theorem ggX2_putPiece_X2_include : GoodIn wsX2_putPiece wsX2_include := goodIn_ca (goodIn_r _ [5, 6, 7] (by decide +kernel) (by decide +kernel)) (goodIn_sub (fun _ h => List.mem_cons_of_mem _ (List.mem_append_right _ h)) (by decide +kernel))
set_option maxRecDepth 20000 in
theorem gX2_putPiece_X2_include : GoodIn wsX2_putPiece (wsV RX2 72 RX2 yX2_include wsX2_include) := goodIn_app (goodIn_of _ (by decide +kernel)) ggX2_putPiece_X2_include
theorem dX2_putPiece_0 : decode cX2_putPiece 0 = .ok (.aload_n 0, 1) := by decide +kernel
theorem dX2_putPiece_1 : decode cX2_putPiece 1 = .ok (.iconst 0, 1) := by decide +kernel
theorem dX2_putPiece_2 : decode cX2_putPiece 2 = .ok (.iload_n 1, 1) := by decide +kernel
theorem dX2_putPiece_3 : decode cX2_putPiece 3 = .ok (.iadd, 1) := by decide +kernel
theorem dX2_putPiece_4 : decode cX2_putPiece 4 = .ok (.lload_n 3, 1) := by decide +kernel
theorem dX2_putPiece_5 : decode cX2_putPiece 5 = .ok (.invokevirtual 72, 3) := by decide +kernel
theorem dX2_putPiece_8 : decode cX2_putPiece 8 = .ok (.aload_n 0, 1) := by decide +kernel
theorem dX2_putPiece_9 : decode cX2_putPiece 9 = .ok (.bipush 6, 2) := by decide +kernel
theorem dX2_putPiece_11 : decode cX2_putPiece 11 = .ok (.iload_n 2, 1) := by decide +kernel
theorem dX2_putPiece_12 : decode cX2_putPiece 12 = .ok (.iadd, 1) := by decide +kernel
theorem dX2_putPiece_13 : decode cX2_putPiece 13 = .ok (.lload_n 3, 1) := by decide +kernel
theorem dX2_putPiece_14 : decode cX2_putPiece 14 = .ok (.invokevirtual 72, 3) := by decide +kernel
theorem dX2_putPiece_17 : decode cX2_putPiece 17 = .ok (.return_, 1) := by decide +kernel
set_option maxRecDepth 20000 in
theorem ggX2_putWall_X2_include : GoodIn wsX2_putWall wsX2_include := goodIn_ca (goodIn_r _ [5, 6, 7] (by decide +kernel) (by decide +kernel)) (goodIn_sub (fun _ h => List.mem_cons_of_mem _ (List.mem_append_right _ h)) (by decide +kernel))
set_option maxRecDepth 20000 in
theorem gX2_putWall_X2_include : GoodIn wsX2_putWall (wsV RX2 72 RX2 yX2_include wsX2_include) := goodIn_app (goodIn_of _ (by decide +kernel)) ggX2_putWall_X2_include
theorem dX2_putWall_0 : decode cX2_putWall 0 = .ok (.aload_n 0, 1) := by decide +kernel
theorem dX2_putWall_1 : decode cX2_putWall 1 = .ok (.bipush 10, 2) := by decide +kernel
theorem dX2_putWall_3 : decode cX2_putWall 3 = .ok (.lload_n 1, 1) := by decide +kernel
theorem dX2_putWall_4 : decode cX2_putWall 4 = .ok (.invokevirtual 72, 3) := by decide +kernel
theorem dX2_putWall_7 : decode cX2_putWall 7 = .ok (.return_, 1) := by decide +kernel
set_option maxRecDepth 20000 in
theorem ggX2_targetsOf_X2_sideOn : GoodIn wsX2_targetsOf wsX2_sideOn := goodIn_ca (goodIn_r _ [6, 7, 8, 9, 5, 10, 11, 12, 13, 14, 15, 16, 17, 18, 19, 20, 21, 22, 23, 60] (by decide +kernel) (by decide +kernel)) (goodIn_sub (fun _ h => List.mem_cons_of_mem _ (List.mem_append_right _ h)) (by decide +kernel))
set_option maxRecDepth 20000 in
theorem gX2_targetsOf_X2_sideOn : GoodIn wsX2_targetsOf (wsV RX2 76 RX2 yX2_sideOn wsX2_sideOn) := goodIn_app (goodIn_of _ (by decide +kernel)) ggX2_targetsOf_X2_sideOn
set_option maxRecDepth 20000 in
theorem ggX2_targetsOf_X3_of : GoodIn wsX2_targetsOf wsX3_of := goodIn_r _ [26] (by decide +kernel) (by decide +kernel)
set_option maxRecDepth 20000 in
theorem gX2_targetsOf_X3_of : GoodIn wsX2_targetsOf (va_wsS RX2 26 yX3_of wsX3_of) := goodIn_app (goodIn_of _ (by decide +kernel)) ggX2_targetsOf_X3_of
set_option maxRecDepth 20000 in
theorem ggX2_targetsOf_X2_openTo : GoodIn wsX2_targetsOf wsX2_openTo := goodIn_ca (goodIn_r _ [30, 11, 31, 1, 60] (by decide +kernel) (by decide +kernel)) (goodIn_sub (fun _ h => List.mem_cons_of_mem _ (List.mem_append_right _ h)) (by decide +kernel))
set_option maxRecDepth 20000 in
theorem gX2_targetsOf_X2_openTo : GoodIn wsX2_targetsOf (wsV RX2 80 RX2 yX2_openTo wsX2_openTo) := goodIn_app (goodIn_of _ (by decide +kernel)) ggX2_targetsOf_X2_openTo
set_option maxRecDepth 20000 in
theorem ggX2_targetsOf_X2_allPieces : GoodIn wsX2_targetsOf wsX2_allPieces := goodIn_ca (goodIn_r _ [35, 11, 60] (by decide +kernel) (by decide +kernel)) (goodIn_sub (fun _ h => List.mem_cons_of_mem _ (List.mem_append_right _ h)) (by decide +kernel))
set_option maxRecDepth 20000 in
theorem gX2_targetsOf_X2_allPieces : GoodIn wsX2_targetsOf (wsV RX2 42 RX2 yX2_allPieces wsX2_allPieces) := goodIn_app (goodIn_of _ (by decide +kernel)) ggX2_targetsOf_X2_allPieces
set_option maxRecDepth 20000 in
theorem ggX2_targetsOf_X2_kindOn : GoodIn wsX2_targetsOf wsX2_kindOn := goodIn_ca (goodIn_r _ [39, 40, 41, 42, 5, 43, 11, 20, 21, 22, 23, 60] (by decide +kernel) (by decide +kernel)) (goodIn_sub (fun _ h => List.mem_cons_of_mem _ (List.mem_append_right _ h)) (by decide +kernel))
set_option maxRecDepth 20000 in
theorem gX2_targetsOf_X2_kindOn : GoodIn wsX2_targetsOf (wsV RX2 83 RX2 yX2_kindOn wsX2_kindOn) := goodIn_app (goodIn_of _ (by decide +kernel)) ggX2_targetsOf_X2_kindOn
set_option maxRecDepth 20000 in
theorem ggX2_targetsOf_X3_alongLines : GoodIn wsX2_targetsOf wsX3_alongLines := goodIn_r _ [46, 47, 48, 22, 49, 50, 51, 52] (by decide +kernel) (by decide +kernel)
set_option maxRecDepth 20000 in
theorem gX2_targetsOf_X3_alongLines : GoodIn wsX2_targetsOf (va_wsS RX2 86 yX3_alongLines wsX3_alongLines) := goodIn_app (goodIn_of _ (by decide +kernel)) ggX2_targetsOf_X3_alongLines
set_option maxRecDepth 20000 in
theorem ggX2_targetsOf_X3_byWalking : GoodIn wsX2_targetsOf wsX3_byWalking := goodIn_r _ [55, 56, 57, 22, 58, 50, 51, 52] (by decide +kernel) (by decide +kernel)
set_option maxRecDepth 20000 in
theorem gX2_targetsOf_X3_byWalking : GoodIn wsX2_targetsOf (va_wsS RX2 90 yX3_byWalking wsX3_byWalking) := goodIn_app (goodIn_of _ (by decide +kernel)) ggX2_targetsOf_X3_byWalking
set_option maxRecDepth 20000 in
theorem ggX2_targetsOf_X3_around : GoodIn wsX2_targetsOf wsX3_around := goodIn_r _ [58, 50, 51, 52] (by decide +kernel) (by decide +kernel)
set_option maxRecDepth 20000 in
theorem gX2_targetsOf_X3_around : GoodIn wsX2_targetsOf (va_wsS RX2 94 yX3_around wsX3_around) := goodIn_app (goodIn_of _ (by decide +kernel)) ggX2_targetsOf_X3_around
theorem dX2_targetsOf_0 : decode cX2_targetsOf 0 = .ok (.aload_n 0, 1) := by decide +kernel
theorem dX2_targetsOf_1 : decode cX2_targetsOf 1 = .ok (.iload_n 1, 1) := by decide +kernel
theorem dX2_targetsOf_2 : decode cX2_targetsOf 2 = .ok (.invokevirtual 76, 3) := by decide +kernel
theorem dX2_targetsOf_5 : decode cX2_targetsOf 5 = .ok (.istore_n 2, 1) := by decide +kernel
theorem dX2_targetsOf_6 : decode cX2_targetsOf 6 = .ok (.iload_n 2, 1) := by decide +kernel
theorem dX2_targetsOf_7 : decode cX2_targetsOf 7 = .ok (.iconst (-1), 1) := by decide +kernel
theorem dX2_targetsOf_8 : decode cX2_targetsOf 8 = .ok (.if_icmp .ne 5, 3) := by decide +kernel
theorem dX2_targetsOf_11 : decode cX2_targetsOf 11 = .ok (.lconst 0, 1) := by decide +kernel
theorem dX2_targetsOf_12 : decode cX2_targetsOf 12 = .ok (.lreturn, 1) := by decide +kernel
theorem dX2_targetsOf_13 : decode cX2_targetsOf 13 = .ok (.iload_n 1, 1) := by decide +kernel
theorem dX2_targetsOf_14 : decode cX2_targetsOf 14 = .ok (.invokestatic 26, 3) := by decide +kernel
theorem dX2_targetsOf_17 : decode cX2_targetsOf 17 = .ok (.lstore_n 3, 1) := by decide +kernel
theorem dX2_targetsOf_18 : decode cX2_targetsOf 18 = .ok (.aload_n 0, 1) := by decide +kernel
theorem dX2_targetsOf_19 : decode cX2_targetsOf 19 = .ok (.iload_n 2, 1) := by decide +kernel
theorem dX2_targetsOf_20 : decode cX2_targetsOf 20 = .ok (.invokevirtual 80, 3) := by decide +kernel
theorem dX2_targetsOf_23 : decode cX2_targetsOf 23 = .ok (.aload_n 0, 1) := by decide +kernel
theorem dX2_targetsOf_24 : decode cX2_targetsOf 24 = .ok (.invokevirtual 42, 3) := by decide +kernel
theorem dX2_targetsOf_27 : decode cX2_targetsOf 27 = .ok (.ldc2_w 18, 3) := by decide +kernel
theorem dX2_targetsOf_30 : decode cX2_targetsOf 30 = .ok (.lxor, 1) := by decide +kernel
theorem dX2_targetsOf_31 : decode cX2_targetsOf 31 = .ok (.land, 1) := by decide +kernel
theorem dX2_targetsOf_32 : decode cX2_targetsOf 32 = .ok (.lstore 5, 2) := by decide +kernel
theorem dX2_targetsOf_34 : decode cX2_targetsOf 34 = .ok (.aload_n 0, 1) := by decide +kernel
theorem dX2_targetsOf_35 : decode cX2_targetsOf 35 = .ok (.iload_n 1, 1) := by decide +kernel
theorem dX2_targetsOf_36 : decode cX2_targetsOf 36 = .ok (.invokevirtual 83, 3) := by decide +kernel
theorem dX2_targetsOf_39 : decode cX2_targetsOf 39 = .ok (.lookupswitch 40 #[(1, 25), (2, 32)], 25) := by decide +kernel
theorem dX2_targetsOf_64 : decode cX2_targetsOf 64 = .ok (.lload_n 3, 1) := by decide +kernel
theorem dX2_targetsOf_65 : decode cX2_targetsOf 65 = .ok (.lload 5, 2) := by decide +kernel
theorem dX2_targetsOf_67 : decode cX2_targetsOf 67 = .ok (.invokestatic 86, 3) := by decide +kernel
theorem dX2_targetsOf_70 : decode cX2_targetsOf 70 = .ok (.lreturn, 1) := by decide +kernel
theorem dX2_targetsOf_71 : decode cX2_targetsOf 71 = .ok (.lload_n 3, 1) := by decide +kernel
theorem dX2_targetsOf_72 : decode cX2_targetsOf 72 = .ok (.lload 5, 2) := by decide +kernel
theorem dX2_targetsOf_74 : decode cX2_targetsOf 74 = .ok (.iconst 3, 1) := by decide +kernel
theorem dX2_targetsOf_75 : decode cX2_targetsOf 75 = .ok (.invokestatic 90, 3) := by decide +kernel
theorem dX2_targetsOf_78 : decode cX2_targetsOf 78 = .ok (.lreturn, 1) := by decide +kernel
theorem dX2_targetsOf_79 : decode cX2_targetsOf 79 = .ok (.lload_n 3, 1) := by decide +kernel
theorem dX2_targetsOf_80 : decode cX2_targetsOf 80 = .ok (.invokestatic 94, 3) := by decide +kernel
theorem dX2_targetsOf_83 : decode cX2_targetsOf 83 = .ok (.lload 5, 2) := by decide +kernel
theorem dX2_targetsOf_85 : decode cX2_targetsOf 85 = .ok (.land, 1) := by decide +kernel
theorem dX2_targetsOf_86 : decode cX2_targetsOf 86 = .ok (.lreturn, 1) := by decide +kernel
set_option maxRecDepth 20000 in
theorem ggX2_hasMove_X2_piecesOf : GoodIn wsX2_hasMove wsX2_piecesOf := goodIn_ca (goodIn_r _ [6, 7, 24] (by decide +kernel) (by decide +kernel)) (goodIn_sub (fun _ h => List.mem_cons_of_mem _ (List.mem_append_right _ h)) (by decide +kernel))
set_option maxRecDepth 20000 in
theorem gX2_hasMove_X2_piecesOf : GoodIn wsX2_hasMove (wsV RX2 56 RX2 yX2_piecesOf wsX2_piecesOf) := goodIn_app (goodIn_of _ (by decide +kernel)) ggX2_hasMove_X2_piecesOf
set_option maxRecDepth 20000 in
theorem ggX2_hasMove_X3_around : GoodIn wsX2_hasMove wsX3_around := goodIn_r _ [11, 12, 13, 14] (by decide +kernel) (by decide +kernel)
set_option maxRecDepth 20000 in
theorem gX2_hasMove_X3_around : GoodIn wsX2_hasMove (va_wsS RX2 94 yX3_around wsX3_around) := goodIn_app (goodIn_of _ (by decide +kernel)) ggX2_hasMove_X3_around
set_option maxRecDepth 20000 in
theorem ggX2_hasMove_X2_openTo : GoodIn wsX2_hasMove wsX2_openTo := goodIn_ca (goodIn_r _ [18, 7, 19, 1, 24] (by decide +kernel) (by decide +kernel)) (goodIn_sub (fun _ h => List.mem_cons_of_mem _ (List.mem_append_right _ h)) (by decide +kernel))
set_option maxRecDepth 20000 in
theorem gX2_hasMove_X2_openTo : GoodIn wsX2_hasMove (wsV RX2 80 RX2 yX2_openTo wsX2_openTo) := goodIn_app (goodIn_of _ (by decide +kernel)) ggX2_hasMove_X2_openTo
set_option maxRecDepth 20000 in
theorem ggX2_hasMove_X2_allPieces : GoodIn wsX2_hasMove wsX2_allPieces := goodIn_ca (goodIn_r _ [23, 7, 24] (by decide +kernel) (by decide +kernel)) (goodIn_sub (fun _ h => List.mem_cons_of_mem _ (List.mem_append_right _ h)) (by decide +kernel))
set_option maxRecDepth 20000 in
theorem gX2_hasMove_X2_allPieces : GoodIn wsX2_hasMove (wsV RX2 42 RX2 yX2_allPieces wsX2_allPieces) := goodIn_app (goodIn_of _ (by decide +kernel)) ggX2_hasMove_X2_allPieces
theorem dX2_hasMove_0 : decode cX2_hasMove 0 = .ok (.aload_n 0, 1) := by decide +kernel
theorem dX2_hasMove_1 : decode cX2_hasMove 1 = .ok (.iload_n 1, 1) := by decide +kernel
theorem dX2_hasMove_2 : decode cX2_hasMove 2 = .ok (.invokevirtual 56, 3) := by decide +kernel
theorem dX2_hasMove_5 : decode cX2_hasMove 5 = .ok (.invokestatic 94, 3) := by decide +kernel
theorem dX2_hasMove_8 : decode cX2_hasMove 8 = .ok (.aload_n 0, 1) := by decide +kernel
theorem dX2_hasMove_9 : decode cX2_hasMove 9 = .ok (.iload_n 1, 1) := by decide +kernel
theorem dX2_hasMove_10 : decode cX2_hasMove 10 = .ok (.invokevirtual 80, 3) := by decide +kernel
theorem dX2_hasMove_13 : decode cX2_hasMove 13 = .ok (.land, 1) := by decide +kernel
theorem dX2_hasMove_14 : decode cX2_hasMove 14 = .ok (.aload_n 0, 1) := by decide +kernel
theorem dX2_hasMove_15 : decode cX2_hasMove 15 = .ok (.invokevirtual 42, 3) := by decide +kernel
theorem dX2_hasMove_18 : decode cX2_hasMove 18 = .ok (.ldc2_w 18, 3) := by decide +kernel
theorem dX2_hasMove_21 : decode cX2_hasMove 21 = .ok (.lxor, 1) := by decide +kernel
theorem dX2_hasMove_22 : decode cX2_hasMove 22 = .ok (.land, 1) := by decide +kernel
theorem dX2_hasMove_23 : decode cX2_hasMove 23 = .ok (.lconst 0, 1) := by decide +kernel
theorem dX2_hasMove_24 : decode cX2_hasMove 24 = .ok (.lcmp, 1) := by decide +kernel
theorem dX2_hasMove_25 : decode cX2_hasMove 25 = .ok (.ifCond .eq 7, 3) := by decide +kernel
theorem dX2_hasMove_28 : decode cX2_hasMove 28 = .ok (.iconst 1, 1) := by decide +kernel
theorem dX2_hasMove_29 : decode cX2_hasMove 29 = .ok (.goto 4, 3) := by decide +kernel
theorem dX2_hasMove_32 : decode cX2_hasMove 32 = .ok (.iconst 0, 1) := by decide +kernel
theorem dX2_hasMove_33 : decode cX2_hasMove 33 = .ok (.ireturn, 1) := by decide +kernel
set_option maxRecDepth 20000 in
theorem ggX2_movePiece_X2_sideOn : GoodIn wsX2_movePiece wsX2_sideOn := goodIn_ca (goodIn_r _ [5, 6, 7, 8, 4, 9, 10, 11, 12, 13, 14, 15, 16, 17, 18, 19, 20, 21, 22, 74] (by decide +kernel) (by decide +kernel)) (goodIn_sub (fun _ h => List.mem_cons_of_mem _ (List.mem_append_right _ h)) (by decide +kernel))
set_option maxRecDepth 20000 in
theorem gX2_movePiece_X2_sideOn : GoodIn wsX2_movePiece (wsV RX2 76 RX2 yX2_sideOn wsX2_sideOn) := goodIn_app (goodIn_of _ (by decide +kernel)) ggX2_movePiece_X2_sideOn
set_option maxRecDepth 20000 in
theorem ggX2_movePiece_X2_kindOn : GoodIn wsX2_movePiece wsX2_kindOn := goodIn_ca (goodIn_r _ [26, 27, 28, 29, 4, 30, 10, 19, 20, 21, 22, 74] (by decide +kernel) (by decide +kernel)) (goodIn_sub (fun _ h => List.mem_cons_of_mem _ (List.mem_append_right _ h)) (by decide +kernel))
set_option maxRecDepth 20000 in
theorem gX2_movePiece_X2_kindOn : GoodIn wsX2_movePiece (wsV RX2 83 RX2 yX2_kindOn wsX2_kindOn) := goodIn_app (goodIn_of _ (by decide +kernel)) ggX2_movePiece_X2_kindOn
set_option maxRecDepth 20000 in
theorem ggX2_movePiece_X3_of : GoodIn wsX2_movePiece wsX3_of := goodIn_r _ [33] (by decide +kernel) (by decide +kernel)
set_option maxRecDepth 20000 in
theorem gX2_movePiece_X3_of : GoodIn wsX2_movePiece (va_wsS RX2 26 yX3_of wsX3_of) := goodIn_app (goodIn_of _ (by decide +kernel)) ggX2_movePiece_X3_of
set_option maxRecDepth 20000 in
theorem ggX2_movePiece_X2_exclude : GoodIn wsX2_movePiece wsX2_exclude := goodIn_ca (goodIn_r _ [37, 10, 38, 74] (by decide +kernel) (by decide +kernel)) (goodIn_sub (fun _ h => List.mem_cons_of_mem _ (List.mem_append_right _ h)) (by decide +kernel))
set_option maxRecDepth 20000 in
theorem gX2_movePiece_X2_exclude : GoodIn wsX2_movePiece (wsV RX2 98 RX2 yX2_exclude wsX2_exclude) := goodIn_app (goodIn_of _ (by decide +kernel)) ggX2_movePiece_X2_exclude
set_option maxRecDepth 20000 in
theorem ggX2_movePiece_X2_putPiece : GoodIn wsX2_movePiece wsX2_putPiece := goodIn_ca (goodIn_r _ [42, 43, 44, 45, 4, 46, 10, 74] (by decide +kernel) (by decide +kernel)) (goodIn_sub (fun _ h => List.mem_cons_of_mem _ (List.mem_append_right _ h)) (by decide +kernel))
set_option maxRecDepth 20000 in
theorem gX2_movePiece_X2_putPiece : GoodIn wsX2_movePiece (wsV RX2 32 RX2 yX2_putPiece wsX2_putPiece) := goodIn_app (goodIn_of _ (by decide +kernel)) ggX2_movePiece_X2_putPiece
set_option maxRecDepth 20000 in
theorem ggX2_movePiece_X2_capturedFrom : GoodIn wsX2_movePiece wsX2_capturedFrom := goodIn_ca (goodIn_r _ [50, 51, 52, 21, 53, 54, 55, 56, 57, 58, 59, 6, 7, 8, 4, 9, 10, 74] (by decide +kernel) (by decide +kernel)) (goodIn_sub (fun _ h => List.mem_cons_of_mem _ (List.mem_append_right _ h)) (by decide +kernel))
set_option maxRecDepth 20000 in
theorem gX2_movePiece_X2_capturedFrom : GoodIn wsX2_movePiece (wsV RX2 101 RX2 yX2_capturedFrom wsX2_capturedFrom) := goodIn_app (goodIn_of _ (by decide +kernel)) ggX2_movePiece_X2_capturedFrom
set_option maxRecDepth 20000 in
theorem ggX2_movePiece_X4_otherSide : GoodIn wsX2_movePiece wsX4_otherSide := goodIn_r _ [59] (by decide +kernel) (by decide +kernel)
set_option maxRecDepth 20000 in
theorem gX2_movePiece_X4_otherSide_n105 : GoodIn wsX2_movePiece (wsX4_otherSide) := ggX2_movePiece_X4_otherSide
set_option maxRecDepth 20000 in
theorem ggX2_movePiece_X2_turnToWalls : GoodIn wsX2_movePiece wsX2_turnToWalls := goodIn_ca (goodIn_r _ [63, 34, 35, 36, 4, 37, 10, 38, 43, 44, 45, 46, 74] (by decide +kernel) (by decide +kernel)) (goodIn_sub (fun _ h => List.mem_cons_of_mem _ (List.mem_append_right _ h)) (by decide +kernel))
set_option maxRecDepth 20000 in
theorem gX2_movePiece_X2_turnToWalls : GoodIn wsX2_movePiece (wsV RX2 108 RX2 yX2_turnToWalls wsX2_turnToWalls) := goodIn_app (goodIn_of _ (by decide +kernel)) ggX2_movePiece_X2_turnToWalls
set_option maxRecDepth 20000 in
theorem ggX2_movePiece_X3_size : GoodIn wsX2_movePiece wsX3_size := goodIn_r _ [66, 67, 68, 69, 70, 71, 72, 73] (by decide +kernel) (by decide +kernel)
set_option maxRecDepth 20000 in
theorem gX2_movePiece_X3_size : GoodIn wsX2_movePiece (va_wsS RX2 111 yX3_size wsX3_size) := goodIn_app (goodIn_of _ (by decide +kernel)) ggX2_movePiece_X3_size
theorem dX2_movePiece_0 : decode cX2_movePiece 0 = .ok (.aload_n 0, 1) := by decide +kernel
theorem dX2_movePiece_1 : decode cX2_movePiece 1 = .ok (.iload_n 1, 1) := by decide +kernel
theorem dX2_movePiece_2 : decode cX2_movePiece 2 = .ok (.invokevirtual 76, 3) := by decide +kernel
theorem dX2_movePiece_5 : decode cX2_movePiece 5 = .ok (.istore_n 3, 1) := by decide +kernel
theorem dX2_movePiece_6 : decode cX2_movePiece 6 = .ok (.aload_n 0, 1) := by decide +kernel
theorem dX2_movePiece_7 : decode cX2_movePiece 7 = .ok (.iload_n 1, 1) := by decide +kernel
theorem dX2_movePiece_8 : decode cX2_movePiece 8 = .ok (.invokevirtual 83, 3) := by decide +kernel
theorem dX2_movePiece_11 : decode cX2_movePiece 11 = .ok (.istore 4, 2) := by decide +kernel
theorem dX2_movePiece_13 : decode cX2_movePiece 13 = .ok (.iload_n 3, 1) := by decide +kernel
theorem dX2_movePiece_14 : decode cX2_movePiece 14 = .ok (.iconst (-1), 1) := by decide +kernel
theorem dX2_movePiece_15 : decode cX2_movePiece 15 = .ok (.if_icmp .eq 9, 3) := by decide +kernel
theorem dX2_movePiece_18 : decode cX2_movePiece 18 = .ok (.iload 4, 2) := by decide +kernel
theorem dX2_movePiece_20 : decode cX2_movePiece 20 = .ok (.iconst (-1), 1) := by decide +kernel
theorem dX2_movePiece_21 : decode cX2_movePiece 21 = .ok (.if_icmp .ne 5, 3) := by decide +kernel
theorem dX2_movePiece_24 : decode cX2_movePiece 24 = .ok (.iconst 0, 1) := by decide +kernel
theorem dX2_movePiece_25 : decode cX2_movePiece 25 = .ok (.ireturn, 1) := by decide +kernel
theorem dX2_movePiece_26 : decode cX2_movePiece 26 = .ok (.aload_n 0, 1) := by decide +kernel
theorem dX2_movePiece_27 : decode cX2_movePiece 27 = .ok (.iconst 0, 1) := by decide +kernel
theorem dX2_movePiece_28 : decode cX2_movePiece 28 = .ok (.iload_n 3, 1) := by decide +kernel
theorem dX2_movePiece_29 : decode cX2_movePiece 29 = .ok (.iadd, 1) := by decide +kernel
theorem dX2_movePiece_30 : decode cX2_movePiece 30 = .ok (.iload_n 1, 1) := by decide +kernel
theorem dX2_movePiece_31 : decode cX2_movePiece 31 = .ok (.invokestatic 26, 3) := by decide +kernel
theorem dX2_movePiece_34 : decode cX2_movePiece 34 = .ok (.invokevirtual 98, 3) := by decide +kernel
theorem dX2_movePiece_37 : decode cX2_movePiece 37 = .ok (.aload_n 0, 1) := by decide +kernel
theorem dX2_movePiece_38 : decode cX2_movePiece 38 = .ok (.bipush 6, 2) := by decide +kernel
theorem dX2_movePiece_40 : decode cX2_movePiece 40 = .ok (.iload 4, 2) := by decide +kernel
theorem dX2_movePiece_42 : decode cX2_movePiece 42 = .ok (.iadd, 1) := by decide +kernel
theorem dX2_movePiece_43 : decode cX2_movePiece 43 = .ok (.iload_n 1, 1) := by decide +kernel
theorem dX2_movePiece_44 : decode cX2_movePiece 44 = .ok (.invokestatic 26, 3) := by decide +kernel
theorem dX2_movePiece_47 : decode cX2_movePiece 47 = .ok (.invokevirtual 98, 3) := by decide +kernel
theorem dX2_movePiece_50 : decode cX2_movePiece 50 = .ok (.aload_n 0, 1) := by decide +kernel
theorem dX2_movePiece_51 : decode cX2_movePiece 51 = .ok (.iload_n 3, 1) := by decide +kernel
theorem dX2_movePiece_52 : decode cX2_movePiece 52 = .ok (.iload 4, 2) := by decide +kernel
theorem dX2_movePiece_54 : decode cX2_movePiece 54 = .ok (.iload_n 2, 1) := by decide +kernel
theorem dX2_movePiece_55 : decode cX2_movePiece 55 = .ok (.invokestatic 26, 3) := by decide +kernel
theorem dX2_movePiece_58 : decode cX2_movePiece 58 = .ok (.invokevirtual 32, 3) := by decide +kernel
theorem dX2_movePiece_61 : decode cX2_movePiece 61 = .ok (.aload_n 0, 1) := by decide +kernel
theorem dX2_movePiece_62 : decode cX2_movePiece 62 = .ok (.iload_n 3, 1) := by decide +kernel
theorem dX2_movePiece_63 : decode cX2_movePiece 63 = .ok (.iload_n 2, 1) := by decide +kernel
theorem dX2_movePiece_64 : decode cX2_movePiece 64 = .ok (.invokestatic 26, 3) := by decide +kernel
theorem dX2_movePiece_67 : decode cX2_movePiece 67 = .ok (.invokevirtual 101, 3) := by decide +kernel
theorem dX2_movePiece_70 : decode cX2_movePiece 70 = .ok (.lstore 5, 2) := by decide +kernel
theorem dX2_movePiece_72 : decode cX2_movePiece 72 = .ok (.aload_n 0, 1) := by decide +kernel
theorem dX2_movePiece_73 : decode cX2_movePiece 73 = .ok (.iload_n 3, 1) := by decide +kernel
theorem dX2_movePiece_74 : decode cX2_movePiece 74 = .ok (.invokestatic 105, 3) := by decide +kernel
theorem dX2_movePiece_77 : decode cX2_movePiece 77 = .ok (.lload 5, 2) := by decide +kernel
theorem dX2_movePiece_79 : decode cX2_movePiece 79 = .ok (.invokevirtual 108, 3) := by decide +kernel
theorem dX2_movePiece_82 : decode cX2_movePiece 82 = .ok (.lload 5, 2) := by decide +kernel
theorem dX2_movePiece_84 : decode cX2_movePiece 84 = .ok (.invokestatic 111, 3) := by decide +kernel
theorem dX2_movePiece_87 : decode cX2_movePiece 87 = .ok (.ireturn, 1) := by decide +kernel
set_option maxRecDepth 20000 in
theorem ggX2_capturedFrom_X3_stepped : GoodIn wsX2_capturedFrom wsX3_stepped := goodIn_r _ [4, 5, 6, 7] (by decide +kernel) (by decide +kernel)
set_option maxRecDepth 20000 in
theorem gX2_capturedFrom_X3_stepped : GoodIn wsX2_capturedFrom (va_wsS RX2 114 yX3_stepped wsX3_stepped) := goodIn_app (goodIn_of _ (by decide +kernel)) ggX2_capturedFrom_X3_stepped
set_option maxRecDepth 20000 in
theorem ggX2_capturedFrom_X4_otherSide : GoodIn wsX2_capturedFrom wsX4_otherSide := goodIn_r _ [10] (by decide +kernel) (by decide +kernel)
set_option maxRecDepth 20000 in
theorem gX2_capturedFrom_X4_otherSide_n105 : GoodIn wsX2_capturedFrom (wsX4_otherSide) := ggX2_capturedFrom_X4_otherSide
set_option maxRecDepth 20000 in
theorem ggX2_capturedFrom_X2_piecesOf : GoodIn wsX2_capturedFrom wsX2_piecesOf := goodIn_ca (goodIn_r _ [15, 16, 17] (by decide +kernel) (by decide +kernel)) (goodIn_sub (fun _ h => List.mem_cons_of_mem _ (List.mem_append_right _ h)) (by decide +kernel))
set_option maxRecDepth 20000 in
theorem gX2_capturedFrom_X2_piecesOf : GoodIn wsX2_capturedFrom (wsV RX2 56 RX2 yX2_piecesOf wsX2_piecesOf) := goodIn_app (goodIn_of _ (by decide +kernel)) ggX2_capturedFrom_X2_piecesOf
theorem dX2_capturedFrom_0 : decode cX2_capturedFrom 0 = .ok (.lconst 0, 1) := by decide +kernel
theorem dX2_capturedFrom_1 : decode cX2_capturedFrom 1 = .ok (.lstore 4, 2) := by decide +kernel
theorem dX2_capturedFrom_3 : decode cX2_capturedFrom 3 = .ok (.iconst 0, 1) := by decide +kernel
theorem dX2_capturedFrom_4 : decode cX2_capturedFrom 4 = .ok (.istore 6, 2) := by decide +kernel
theorem dX2_capturedFrom_6 : decode cX2_capturedFrom 6 = .ok (.iload 6, 2) := by decide +kernel
theorem dX2_capturedFrom_8 : decode cX2_capturedFrom 8 = .ok (.iconst 4, 1) := by decide +kernel
theorem dX2_capturedFrom_9 : decode cX2_capturedFrom 9 = .ok (.if_icmp .ge 51, 3) := by decide +kernel
theorem dX2_capturedFrom_12 : decode cX2_capturedFrom 12 = .ok (.lload_n 2, 1) := by decide +kernel
theorem dX2_capturedFrom_13 : decode cX2_capturedFrom 13 = .ok (.iload 6, 2) := by decide +kernel
theorem dX2_capturedFrom_15 : decode cX2_capturedFrom 15 = .ok (.invokestatic 114, 3) := by decide +kernel
theorem dX2_capturedFrom_18 : decode cX2_capturedFrom 18 = .ok (.aload_n 0, 1) := by decide +kernel
theorem dX2_capturedFrom_19 : decode cX2_capturedFrom 19 = .ok (.iload_n 1, 1) := by decide +kernel
theorem dX2_capturedFrom_20 : decode cX2_capturedFrom 20 = .ok (.invokestatic 105, 3) := by decide +kernel
theorem dX2_capturedFrom_23 : decode cX2_capturedFrom 23 = .ok (.invokevirtual 56, 3) := by decide +kernel
theorem dX2_capturedFrom_26 : decode cX2_capturedFrom 26 = .ok (.land, 1) := by decide +kernel
theorem dX2_capturedFrom_27 : decode cX2_capturedFrom 27 = .ok (.lstore 7, 2) := by decide +kernel
theorem dX2_capturedFrom_29 : decode cX2_capturedFrom 29 = .ok (.lload 7, 2) := by decide +kernel
theorem dX2_capturedFrom_31 : decode cX2_capturedFrom 31 = .ok (.iload 6, 2) := by decide +kernel
theorem dX2_capturedFrom_33 : decode cX2_capturedFrom 33 = .ok (.invokestatic 114, 3) := by decide +kernel
theorem dX2_capturedFrom_36 : decode cX2_capturedFrom 36 = .ok (.aload_n 0, 1) := by decide +kernel
theorem dX2_capturedFrom_37 : decode cX2_capturedFrom 37 = .ok (.iload_n 1, 1) := by decide +kernel
theorem dX2_capturedFrom_38 : decode cX2_capturedFrom 38 = .ok (.invokevirtual 56, 3) := by decide +kernel
theorem dX2_capturedFrom_41 : decode cX2_capturedFrom 41 = .ok (.land, 1) := by decide +kernel
theorem dX2_capturedFrom_42 : decode cX2_capturedFrom 42 = .ok (.lconst 0, 1) := by decide +kernel
theorem dX2_capturedFrom_43 : decode cX2_capturedFrom 43 = .ok (.lcmp, 1) := by decide +kernel
theorem dX2_capturedFrom_44 : decode cX2_capturedFrom 44 = .ok (.ifCond .eq 10, 3) := by decide +kernel
theorem dX2_capturedFrom_47 : decode cX2_capturedFrom 47 = .ok (.lload 4, 2) := by decide +kernel
theorem dX2_capturedFrom_49 : decode cX2_capturedFrom 49 = .ok (.lload 7, 2) := by decide +kernel
theorem dX2_capturedFrom_51 : decode cX2_capturedFrom 51 = .ok (.lor, 1) := by decide +kernel
theorem dX2_capturedFrom_52 : decode cX2_capturedFrom 52 = .ok (.lstore 4, 2) := by decide +kernel
theorem dX2_capturedFrom_54 : decode cX2_capturedFrom 54 = .ok (.iinc 6 1, 3) := by decide +kernel
theorem dX2_capturedFrom_57 : decode cX2_capturedFrom 57 = .ok (.goto (-51), 3) := by decide +kernel
theorem dX2_capturedFrom_60 : decode cX2_capturedFrom 60 = .ok (.lload 4, 2) := by decide +kernel
theorem dX2_capturedFrom_62 : decode cX2_capturedFrom 62 = .ok (.lreturn, 1) := by decide +kernel
set_option maxRecDepth 20000 in
theorem ggX2_turnToWalls_X2_exclude : GoodIn wsX2_turnToWalls wsX2_exclude := goodIn_ca (goodIn_r _ [5, 6, 7, 12] (by decide +kernel) (by decide +kernel)) (goodIn_sub (fun _ h => List.mem_cons_of_mem _ (List.mem_append_right _ h)) (by decide +kernel))
set_option maxRecDepth 20000 in
theorem gX2_turnToWalls_X2_exclude : GoodIn wsX2_turnToWalls (wsV RX2 98 RX2 yX2_exclude wsX2_exclude) := goodIn_app (goodIn_of _ (by decide +kernel)) ggX2_turnToWalls_X2_exclude
set_option maxRecDepth 20000 in
theorem ggX2_turnToWalls_X2_include : GoodIn wsX2_turnToWalls wsX2_include := goodIn_ca (goodIn_r _ [11, 6, 12] (by decide +kernel) (by decide +kernel)) (goodIn_sub (fun _ h => List.mem_cons_of_mem _ (List.mem_append_right _ h)) (by decide +kernel))
set_option maxRecDepth 20000 in
theorem gX2_turnToWalls_X2_include : GoodIn wsX2_turnToWalls (wsV RX2 72 RX2 yX2_include wsX2_include) := goodIn_app (goodIn_of _ (by decide +kernel)) ggX2_turnToWalls_X2_include
theorem dX2_turnToWalls_0 : decode cX2_turnToWalls 0 = .ok (.aload_n 0, 1) := by decide +kernel
theorem dX2_turnToWalls_1 : decode cX2_turnToWalls 1 = .ok (.iconst 0, 1) := by decide +kernel
theorem dX2_turnToWalls_2 : decode cX2_turnToWalls 2 = .ok (.iload_n 1, 1) := by decide +kernel
theorem dX2_turnToWalls_3 : decode cX2_turnToWalls 3 = .ok (.iadd, 1) := by decide +kernel
theorem dX2_turnToWalls_4 : decode cX2_turnToWalls 4 = .ok (.lload_n 2, 1) := by decide +kernel
theorem dX2_turnToWalls_5 : decode cX2_turnToWalls 5 = .ok (.invokevirtual 98, 3) := by decide +kernel
theorem dX2_turnToWalls_8 : decode cX2_turnToWalls 8 = .ok (.aload_n 0, 1) := by decide +kernel
theorem dX2_turnToWalls_9 : decode cX2_turnToWalls 9 = .ok (.iconst 2, 1) := by decide +kernel
theorem dX2_turnToWalls_10 : decode cX2_turnToWalls 10 = .ok (.iload_n 1, 1) := by decide +kernel
theorem dX2_turnToWalls_11 : decode cX2_turnToWalls 11 = .ok (.iadd, 1) := by decide +kernel
theorem dX2_turnToWalls_12 : decode cX2_turnToWalls 12 = .ok (.lload_n 2, 1) := by decide +kernel
theorem dX2_turnToWalls_13 : decode cX2_turnToWalls 13 = .ok (.invokevirtual 98, 3) := by decide +kernel
theorem dX2_turnToWalls_16 : decode cX2_turnToWalls 16 = .ok (.aload_n 0, 1) := by decide +kernel
theorem dX2_turnToWalls_17 : decode cX2_turnToWalls 17 = .ok (.iconst 4, 1) := by decide +kernel
theorem dX2_turnToWalls_18 : decode cX2_turnToWalls 18 = .ok (.iload_n 1, 1) := by decide +kernel
theorem dX2_turnToWalls_19 : decode cX2_turnToWalls 19 = .ok (.iadd, 1) := by decide +kernel
theorem dX2_turnToWalls_20 : decode cX2_turnToWalls 20 = .ok (.lload_n 2, 1) := by decide +kernel
theorem dX2_turnToWalls_21 : decode cX2_turnToWalls 21 = .ok (.invokevirtual 72, 3) := by decide +kernel
theorem dX2_turnToWalls_24 : decode cX2_turnToWalls 24 = .ok (.aload_n 0, 1) := by decide +kernel
theorem dX2_turnToWalls_25 : decode cX2_turnToWalls 25 = .ok (.bipush 10, 2) := by decide +kernel
theorem dX2_turnToWalls_27 : decode cX2_turnToWalls 27 = .ok (.lload_n 2, 1) := by decide +kernel
theorem dX2_turnToWalls_28 : decode cX2_turnToWalls 28 = .ok (.invokevirtual 72, 3) := by decide +kernel
theorem dX2_turnToWalls_31 : decode cX2_turnToWalls 31 = .ok (.return_, 1) := by decide +kernel
set_option maxRecDepth 20000 in
theorem ggX2_takeMove_X2_mover : GoodIn wsX2_takeMove wsX2_mover := goodIn_ca (goodIn_r _ [5, 6, 7, 8, 4, 9, 10, 118] (by decide +kernel) (by decide +kernel)) (goodIn_sub (fun _ h => List.mem_cons_of_mem _ (List.mem_append_right _ h)) (by decide +kernel))
set_option maxRecDepth 20000 in
theorem gX2_takeMove_X2_mover : GoodIn wsX2_takeMove (wsV RX2 118 RX2 yX2_mover wsX2_mover) := goodIn_app (goodIn_of _ (by decide +kernel)) ggX2_takeMove_X2_mover
set_option maxRecDepth 20000 in
theorem ggX2_takeMove_X4_otherSide : GoodIn wsX2_takeMove wsX4_otherSide := goodIn_r _ [13] (by decide +kernel) (by decide +kernel)
set_option maxRecDepth 20000 in
theorem gX2_takeMove_X4_otherSide_n105 : GoodIn wsX2_takeMove (wsX4_otherSide) := ggX2_takeMove_X4_otherSide
set_option maxRecDepth 20000 in
theorem ggX2_takeMove_X2_keeperOf : GoodIn wsX2_takeMove wsX2_keeperOf := goodIn_ca (goodIn_r _ [17, 10, 18, 19, 20, 4, 21, 22, 23, 24, 25, 26, 27, 28, 29, 30, 31, 32, 118] (by decide +kernel) (by decide +kernel)) (goodIn_sub (fun _ h => List.mem_cons_of_mem _ (List.mem_append_right _ h)) (by decide +kernel))
set_option maxRecDepth 20000 in
theorem gX2_takeMove_X2_keeperOf : GoodIn wsX2_takeMove (wsV RX2 121 RX2 yX2_keeperOf wsX2_keeperOf) := goodIn_app (goodIn_of _ (by decide +kernel)) ggX2_takeMove_X2_keeperOf
set_option maxRecDepth 20000 in
theorem ggX2_takeMove_X2_movePiece : GoodIn wsX2_takeMove wsX2_movePiece := goodIn_ca (goodIn_r _ [36, 37, 38, 39, 4, 40, 18, 19, 20, 21, 10, 41, 42, 43, 44, 45, 46, 47, 48, 49, 50, 24, 51, 52, 53, 54, 55, 56, 57, 58, 59, 60, 61, 62, 63, 64, 65, 66, 67, 68, 69, 70, 71, 72, 73, 74, 75, 76, 77, 78, 79, 80, 81, 82, 83, 84, 85, 11, 12, 13, 86, 87, 88, 89, 90, 91, 92, 26, 27, 28, 29, 30, 31, 32, 118] (by decide +kernel) (by decide +kernel)) (goodIn_sub (fun _ h => List.mem_cons_of_mem _ (List.mem_append_right _ h)) (by decide +kernel))
set_option maxRecDepth 20000 in
theorem gX2_takeMove_X2_movePiece : GoodIn wsX2_takeMove (wsV RX2 124 RX2 yX2_movePiece wsX2_movePiece) := goodIn_app (goodIn_of _ (by decide +kernel)) ggX2_takeMove_X2_movePiece
set_option maxRecDepth 20000 in
theorem ggX2_takeMove_X2_earn : GoodIn wsX2_takeMove wsX2_earn := goodIn_ca (goodIn_r _ [96, 10, 118] (by decide +kernel) (by decide +kernel)) (goodIn_sub (fun _ h => List.mem_cons_of_mem _ (List.mem_append_right _ h)) (by decide +kernel))
set_option maxRecDepth 20000 in
theorem gX2_takeMove_X2_earn : GoodIn wsX2_takeMove (wsV RX2 128 RX2 yX2_earn wsX2_earn) := goodIn_app (goodIn_of _ (by decide +kernel)) ggX2_takeMove_X2_earn
set_option maxRecDepth 20000 in
theorem ggX2_takeMove_X2_endTurn : GoodIn wsX2_takeMove wsX2_endTurn := goodIn_ca (goodIn_r _ [100, 10, 101, 1, 2, 3, 4, 5, 6, 7, 8, 9, 11, 12, 13, 102, 103, 104, 105, 67, 18, 19, 20, 21, 106, 107, 24, 108, 83, 84, 85, 109, 110, 111, 112, 113, 114, 115, 116, 117, 118] (by decide +kernel) (by decide +kernel)) (goodIn_sub (fun _ h => List.mem_cons_of_mem _ (List.mem_append_right _ h)) (by decide +kernel))
set_option maxRecDepth 20000 in
theorem gX2_takeMove_X2_endTurn : GoodIn wsX2_takeMove (wsV RX2 132 RX2 yX2_endTurn wsX2_endTurn) := goodIn_app (goodIn_of _ (by decide +kernel)) ggX2_takeMove_X2_endTurn
theorem dX2_takeMove_0 : decode cX2_takeMove 0 = .ok (.aload_n 0, 1) := by decide +kernel
theorem dX2_takeMove_1 : decode cX2_takeMove 1 = .ok (.invokevirtual 118, 3) := by decide +kernel
theorem dX2_takeMove_4 : decode cX2_takeMove 4 = .ok (.istore_n 3, 1) := by decide +kernel
theorem dX2_takeMove_5 : decode cX2_takeMove 5 = .ok (.iload_n 3, 1) := by decide +kernel
theorem dX2_takeMove_6 : decode cX2_takeMove 6 = .ok (.invokestatic 105, 3) := by decide +kernel
theorem dX2_takeMove_9 : decode cX2_takeMove 9 = .ok (.istore 4, 2) := by decide +kernel
theorem dX2_takeMove_11 : decode cX2_takeMove 11 = .ok (.aload_n 0, 1) := by decide +kernel
theorem dX2_takeMove_12 : decode cX2_takeMove 12 = .ok (.iload 4, 2) := by decide +kernel
theorem dX2_takeMove_14 : decode cX2_takeMove 14 = .ok (.invokevirtual 121, 3) := by decide +kernel
theorem dX2_takeMove_17 : decode cX2_takeMove 17 = .ok (.iconst (-1), 1) := by decide +kernel
theorem dX2_takeMove_18 : decode cX2_takeMove 18 = .ok (.if_icmp .eq 7, 3) := by decide +kernel
theorem dX2_takeMove_21 : decode cX2_takeMove 21 = .ok (.iconst 1, 1) := by decide +kernel
theorem dX2_takeMove_22 : decode cX2_takeMove 22 = .ok (.goto 4, 3) := by decide +kernel
theorem dX2_takeMove_25 : decode cX2_takeMove 25 = .ok (.iconst 0, 1) := by decide +kernel
theorem dX2_takeMove_26 : decode cX2_takeMove 26 = .ok (.istore 5, 2) := by decide +kernel
theorem dX2_takeMove_28 : decode cX2_takeMove 28 = .ok (.aload_n 0, 1) := by decide +kernel
theorem dX2_takeMove_29 : decode cX2_takeMove 29 = .ok (.iload_n 1, 1) := by decide +kernel
theorem dX2_takeMove_30 : decode cX2_takeMove 30 = .ok (.iload_n 2, 1) := by decide +kernel
theorem dX2_takeMove_31 : decode cX2_takeMove 31 = .ok (.invokevirtual 124, 3) := by decide +kernel
theorem dX2_takeMove_34 : decode cX2_takeMove 34 = .ok (.istore 6, 2) := by decide +kernel
theorem dX2_takeMove_36 : decode cX2_takeMove 36 = .ok (.aload_n 0, 1) := by decide +kernel
theorem dX2_takeMove_37 : decode cX2_takeMove 37 = .ok (.iload_n 3, 1) := by decide +kernel
theorem dX2_takeMove_38 : decode cX2_takeMove 38 = .ok (.iconst 2, 1) := by decide +kernel
theorem dX2_takeMove_39 : decode cX2_takeMove 39 = .ok (.iload 6, 2) := by decide +kernel
theorem dX2_takeMove_41 : decode cX2_takeMove 41 = .ok (.imul, 1) := by decide +kernel
theorem dX2_takeMove_42 : decode cX2_takeMove 42 = .ok (.invokevirtual 128, 3) := by decide +kernel
theorem dX2_takeMove_45 : decode cX2_takeMove 45 = .ok (.aload_n 0, 1) := by decide +kernel
theorem dX2_takeMove_46 : decode cX2_takeMove 46 = .ok (.iload 5, 2) := by decide +kernel
theorem dX2_takeMove_48 : decode cX2_takeMove 48 = .ok (.ifCond .eq 17, 3) := by decide +kernel
theorem dX2_takeMove_51 : decode cX2_takeMove 51 = .ok (.aload_n 0, 1) := by decide +kernel
theorem dX2_takeMove_52 : decode cX2_takeMove 52 = .ok (.iload 4, 2) := by decide +kernel
theorem dX2_takeMove_54 : decode cX2_takeMove 54 = .ok (.invokevirtual 121, 3) := by decide +kernel
theorem dX2_takeMove_57 : decode cX2_takeMove 57 = .ok (.iconst (-1), 1) := by decide +kernel
theorem dX2_takeMove_58 : decode cX2_takeMove 58 = .ok (.if_icmp .ne 7, 3) := by decide +kernel
theorem dX2_takeMove_61 : decode cX2_takeMove 61 = .ok (.iconst 1, 1) := by decide +kernel
theorem dX2_takeMove_62 : decode cX2_takeMove 62 = .ok (.goto 4, 3) := by decide +kernel
theorem dX2_takeMove_65 : decode cX2_takeMove 65 = .ok (.iconst 0, 1) := by decide +kernel
theorem dX2_takeMove_66 : decode cX2_takeMove 66 = .ok (.invokevirtual 132, 3) := by decide +kernel
theorem dX2_takeMove_69 : decode cX2_takeMove 69 = .ok (.iload 6, 2) := by decide +kernel
theorem dX2_takeMove_71 : decode cX2_takeMove 71 = .ok (.ireturn, 1) := by decide +kernel
set_option maxRecDepth 20000 in
theorem ggX2_takeDoor_X2_mover : GoodIn wsX2_takeDoor wsX2_mover := goodIn_ca (goodIn_r _ [5, 6, 7, 8, 4, 9, 10, 63] (by decide +kernel) (by decide +kernel)) (goodIn_sub (fun _ h => List.mem_cons_of_mem _ (List.mem_append_right _ h)) (by decide +kernel))
set_option maxRecDepth 20000 in
theorem gX2_takeDoor_X2_mover : GoodIn wsX2_takeDoor (wsV RX2 118 RX2 yX2_mover wsX2_mover) := goodIn_app (goodIn_of _ (by decide +kernel)) ggX2_takeDoor_X2_mover
set_option maxRecDepth 20000 in
theorem ggX2_takeDoor_X3_of : GoodIn wsX2_takeDoor wsX3_of := goodIn_r _ [14] (by decide +kernel) (by decide +kernel)
set_option maxRecDepth 20000 in
theorem gX2_takeDoor_X3_of : GoodIn wsX2_takeDoor (va_wsS RX2 26 yX3_of wsX3_of) := goodIn_app (goodIn_of _ (by decide +kernel)) ggX2_takeDoor_X3_of
set_option maxRecDepth 20000 in
theorem ggX2_takeDoor_X2_exclude : GoodIn wsX2_takeDoor wsX2_exclude := goodIn_ca (goodIn_r _ [18, 10, 19, 63] (by decide +kernel) (by decide +kernel)) (goodIn_sub (fun _ h => List.mem_cons_of_mem _ (List.mem_append_right _ h)) (by decide +kernel))
set_option maxRecDepth 20000 in
theorem gX2_takeDoor_X2_exclude : GoodIn wsX2_takeDoor (wsV RX2 98 RX2 yX2_exclude wsX2_exclude) := goodIn_app (goodIn_of _ (by decide +kernel)) ggX2_takeDoor_X2_exclude
set_option maxRecDepth 20000 in
theorem ggX2_takeDoor_X2_include : GoodIn wsX2_takeDoor wsX2_include := goodIn_ca (goodIn_r _ [23, 10, 63] (by decide +kernel) (by decide +kernel)) (goodIn_sub (fun _ h => List.mem_cons_of_mem _ (List.mem_append_right _ h)) (by decide +kernel))
set_option maxRecDepth 20000 in
theorem gX2_takeDoor_X2_include : GoodIn wsX2_takeDoor (wsV RX2 72 RX2 yX2_include wsX2_include) := goodIn_app (goodIn_of _ (by decide +kernel)) ggX2_takeDoor_X2_include
set_option maxRecDepth 20000 in
theorem ggX2_takeDoor_X2_earn : GoodIn wsX2_takeDoor wsX2_earn := goodIn_ca (goodIn_r _ [27, 10, 63] (by decide +kernel) (by decide +kernel)) (goodIn_sub (fun _ h => List.mem_cons_of_mem _ (List.mem_append_right _ h)) (by decide +kernel))
set_option maxRecDepth 20000 in
theorem gX2_takeDoor_X2_earn : GoodIn wsX2_takeDoor (wsV RX2 128 RX2 yX2_earn wsX2_earn) := goodIn_app (goodIn_of _ (by decide +kernel)) ggX2_takeDoor_X2_earn
set_option maxRecDepth 20000 in
theorem ggX2_takeDoor_X2_endTurn : GoodIn wsX2_takeDoor wsX2_endTurn := goodIn_ca (goodIn_r _ [31, 10, 32, 1, 2, 3, 4, 5, 6, 7, 8, 9, 33, 34, 35, 36, 37, 38, 39, 19, 40, 41, 42, 43, 44, 45, 13, 46, 47, 48, 49, 50, 51, 52, 53, 54, 55, 56, 57, 58, 63] (by decide +kernel) (by decide +kernel)) (goodIn_sub (fun _ h => List.mem_cons_of_mem _ (List.mem_append_right _ h)) (by decide +kernel))
set_option maxRecDepth 20000 in
theorem gX2_takeDoor_X2_endTurn : GoodIn wsX2_takeDoor (wsV RX2 132 RX2 yX2_endTurn wsX2_endTurn) := goodIn_app (goodIn_of _ (by decide +kernel)) ggX2_takeDoor_X2_endTurn
set_option maxRecDepth 20000 in
theorem ggX2_takeDoor_X2_coinsOf : GoodIn wsX2_takeDoor wsX2_coinsOf := goodIn_ca (goodIn_r _ [62, 10, 63] (by decide +kernel) (by decide +kernel)) (goodIn_sub (fun _ h => List.mem_cons_of_mem _ (List.mem_append_right _ h)) (by decide +kernel))
set_option maxRecDepth 20000 in
theorem gX2_takeDoor_X2_coinsOf : GoodIn wsX2_takeDoor (wsV RX2 136 RX2 yX2_coinsOf wsX2_coinsOf) := goodIn_app (goodIn_of _ (by decide +kernel)) ggX2_takeDoor_X2_coinsOf
theorem dX2_takeDoor_0 : decode cX2_takeDoor 0 = .ok (.aload_n 0, 1) := by decide +kernel
theorem dX2_takeDoor_1 : decode cX2_takeDoor 1 = .ok (.invokevirtual 118, 3) := by decide +kernel
theorem dX2_takeDoor_4 : decode cX2_takeDoor 4 = .ok (.istore_n 2, 1) := by decide +kernel
theorem dX2_takeDoor_5 : decode cX2_takeDoor 5 = .ok (.iload_n 1, 1) := by decide +kernel
theorem dX2_takeDoor_6 : decode cX2_takeDoor 6 = .ok (.invokestatic 26, 3) := by decide +kernel
theorem dX2_takeDoor_9 : decode cX2_takeDoor 9 = .ok (.lstore_n 3, 1) := by decide +kernel
theorem dX2_takeDoor_10 : decode cX2_takeDoor 10 = .ok (.aload_n 0, 1) := by decide +kernel
theorem dX2_takeDoor_11 : decode cX2_takeDoor 11 = .ok (.bipush 10, 2) := by decide +kernel
theorem dX2_takeDoor_13 : decode cX2_takeDoor 13 = .ok (.lload_n 3, 1) := by decide +kernel
theorem dX2_takeDoor_14 : decode cX2_takeDoor 14 = .ok (.invokevirtual 98, 3) := by decide +kernel
theorem dX2_takeDoor_17 : decode cX2_takeDoor 17 = .ok (.iconst 0, 1) := by decide +kernel
theorem dX2_takeDoor_18 : decode cX2_takeDoor 18 = .ok (.istore 5, 2) := by decide +kernel
theorem dX2_takeDoor_20 : decode cX2_takeDoor 20 = .ok (.iload 5, 2) := by decide +kernel
theorem dX2_takeDoor_22 : decode cX2_takeDoor 22 = .ok (.iconst 2, 1) := by decide +kernel
theorem dX2_takeDoor_23 : decode cX2_takeDoor 23 = .ok (.if_icmp .ge 18, 3) := by decide +kernel
theorem dX2_takeDoor_26 : decode cX2_takeDoor 26 = .ok (.aload_n 0, 1) := by decide +kernel
theorem dX2_takeDoor_27 : decode cX2_takeDoor 27 = .ok (.iconst 4, 1) := by decide +kernel
theorem dX2_takeDoor_28 : decode cX2_takeDoor 28 = .ok (.iload 5, 2) := by decide +kernel
theorem dX2_takeDoor_30 : decode cX2_takeDoor 30 = .ok (.iadd, 1) := by decide +kernel
theorem dX2_takeDoor_31 : decode cX2_takeDoor 31 = .ok (.lload_n 3, 1) := by decide +kernel
theorem dX2_takeDoor_32 : decode cX2_takeDoor 32 = .ok (.invokevirtual 98, 3) := by decide +kernel
theorem dX2_takeDoor_35 : decode cX2_takeDoor 35 = .ok (.iinc 5 1, 3) := by decide +kernel
theorem dX2_takeDoor_38 : decode cX2_takeDoor 38 = .ok (.goto (-18), 3) := by decide +kernel
theorem dX2_takeDoor_41 : decode cX2_takeDoor 41 = .ok (.iconst 0, 1) := by decide +kernel
theorem dX2_takeDoor_42 : decode cX2_takeDoor 42 = .ok (.istore 5, 2) := by decide +kernel
theorem dX2_takeDoor_44 : decode cX2_takeDoor 44 = .ok (.iload 5, 2) := by decide +kernel
theorem dX2_takeDoor_46 : decode cX2_takeDoor 46 = .ok (.iconst 4, 1) := by decide +kernel
theorem dX2_takeDoor_47 : decode cX2_takeDoor 47 = .ok (.if_icmp .ge 19, 3) := by decide +kernel
theorem dX2_takeDoor_50 : decode cX2_takeDoor 50 = .ok (.aload_n 0, 1) := by decide +kernel
theorem dX2_takeDoor_51 : decode cX2_takeDoor 51 = .ok (.bipush 6, 2) := by decide +kernel
theorem dX2_takeDoor_53 : decode cX2_takeDoor 53 = .ok (.iload 5, 2) := by decide +kernel
theorem dX2_takeDoor_55 : decode cX2_takeDoor 55 = .ok (.iadd, 1) := by decide +kernel
theorem dX2_takeDoor_56 : decode cX2_takeDoor 56 = .ok (.lload_n 3, 1) := by decide +kernel
theorem dX2_takeDoor_57 : decode cX2_takeDoor 57 = .ok (.invokevirtual 98, 3) := by decide +kernel
theorem dX2_takeDoor_60 : decode cX2_takeDoor 60 = .ok (.iinc 5 1, 3) := by decide +kernel
theorem dX2_takeDoor_63 : decode cX2_takeDoor 63 = .ok (.goto (-19), 3) := by decide +kernel
theorem dX2_takeDoor_66 : decode cX2_takeDoor 66 = .ok (.aload_n 0, 1) := by decide +kernel
theorem dX2_takeDoor_67 : decode cX2_takeDoor 67 = .ok (.iconst 2, 1) := by decide +kernel
theorem dX2_takeDoor_68 : decode cX2_takeDoor 68 = .ok (.iload_n 2, 1) := by decide +kernel
theorem dX2_takeDoor_69 : decode cX2_takeDoor 69 = .ok (.iadd, 1) := by decide +kernel
theorem dX2_takeDoor_70 : decode cX2_takeDoor 70 = .ok (.lload_n 3, 1) := by decide +kernel
theorem dX2_takeDoor_71 : decode cX2_takeDoor 71 = .ok (.invokevirtual 72, 3) := by decide +kernel
theorem dX2_takeDoor_74 : decode cX2_takeDoor 74 = .ok (.aload_n 0, 1) := by decide +kernel
theorem dX2_takeDoor_75 : decode cX2_takeDoor 75 = .ok (.iload_n 2, 1) := by decide +kernel
theorem dX2_takeDoor_76 : decode cX2_takeDoor 76 = .ok (.bipush (-3), 2) := by decide +kernel
theorem dX2_takeDoor_78 : decode cX2_takeDoor 78 = .ok (.invokevirtual 128, 3) := by decide +kernel
theorem dX2_takeDoor_81 : decode cX2_takeDoor 81 = .ok (.aload_n 0, 1) := by decide +kernel
theorem dX2_takeDoor_82 : decode cX2_takeDoor 82 = .ok (.iconst 0, 1) := by decide +kernel
theorem dX2_takeDoor_83 : decode cX2_takeDoor 83 = .ok (.invokevirtual 132, 3) := by decide +kernel
theorem dX2_takeDoor_86 : decode cX2_takeDoor 86 = .ok (.aload_n 0, 1) := by decide +kernel
theorem dX2_takeDoor_87 : decode cX2_takeDoor 87 = .ok (.iload_n 2, 1) := by decide +kernel
theorem dX2_takeDoor_88 : decode cX2_takeDoor 88 = .ok (.invokevirtual 136, 3) := by decide +kernel
theorem dX2_takeDoor_91 : decode cX2_takeDoor 91 = .ok (.ireturn, 1) := by decide +kernel
set_option maxRecDepth 20000 in
theorem ggX2_takePiece_X2_mover : GoodIn wsX2_takePiece wsX2_mover := goodIn_ca (goodIn_r _ [5, 6, 7, 8, 4, 9, 10, 78] (by decide +kernel) (by decide +kernel)) (goodIn_sub (fun _ h => List.mem_cons_of_mem _ (List.mem_append_right _ h)) (by decide +kernel))
set_option maxRecDepth 20000 in
theorem gX2_takePiece_X2_mover : GoodIn wsX2_takePiece (wsV RX2 118 RX2 yX2_mover wsX2_mover) := goodIn_app (goodIn_of _ (by decide +kernel)) ggX2_takePiece_X2_mover
set_option maxRecDepth 20000 in
theorem ggX2_takePiece_X3_of : GoodIn wsX2_takePiece wsX3_of := goodIn_r _ [14] (by decide +kernel) (by decide +kernel)
set_option maxRecDepth 20000 in
theorem gX2_takePiece_X3_of : GoodIn wsX2_takePiece (va_wsS RX2 26 yX3_of wsX3_of) := goodIn_app (goodIn_of _ (by decide +kernel)) ggX2_takePiece_X3_of
set_option maxRecDepth 20000 in
theorem ggX2_takePiece_X2_exclude : GoodIn wsX2_takePiece wsX2_exclude := goodIn_ca (goodIn_r _ [18, 10, 19, 78] (by decide +kernel) (by decide +kernel)) (goodIn_sub (fun _ h => List.mem_cons_of_mem _ (List.mem_append_right _ h)) (by decide +kernel))
set_option maxRecDepth 20000 in
theorem gX2_takePiece_X2_exclude : GoodIn wsX2_takePiece (wsV RX2 98 RX2 yX2_exclude wsX2_exclude) := goodIn_app (goodIn_of _ (by decide +kernel)) ggX2_takePiece_X2_exclude
set_option maxRecDepth 20000 in
theorem ggX2_takePiece_X2_include : GoodIn wsX2_takePiece wsX2_include := goodIn_ca (goodIn_r _ [23, 10, 78] (by decide +kernel) (by decide +kernel)) (goodIn_sub (fun _ h => List.mem_cons_of_mem _ (List.mem_append_right _ h)) (by decide +kernel))
set_option maxRecDepth 20000 in
theorem gX2_takePiece_X2_include : GoodIn wsX2_takePiece (wsV RX2 72 RX2 yX2_include wsX2_include) := goodIn_app (goodIn_of _ (by decide +kernel)) ggX2_takePiece_X2_include
set_option maxRecDepth 20000 in
theorem ggX2_takePiece_X2_priceOfPiece : GoodIn wsX2_takePiece wsX2_priceOfPiece := goodIn_ca (goodIn_r _ [27, 28, 29, 30, 4, 31, 32, 33, 34, 35, 10, 36, 37, 13, 38, 78] (by decide +kernel) (by decide +kernel)) (goodIn_sub (fun _ h => List.mem_cons_of_mem _ (List.mem_append_right _ h)) (by decide +kernel))
set_option maxRecDepth 20000 in
theorem gX2_takePiece_X2_priceOfPiece : GoodIn wsX2_takePiece (wsV RX2 139 RX2 yX2_priceOfPiece wsX2_priceOfPiece) := goodIn_app (goodIn_of _ (by decide +kernel)) ggX2_takePiece_X2_priceOfPiece
set_option maxRecDepth 20000 in
theorem ggX2_takePiece_X2_earn : GoodIn wsX2_takePiece wsX2_earn := goodIn_ca (goodIn_r _ [42, 10, 78] (by decide +kernel) (by decide +kernel)) (goodIn_sub (fun _ h => List.mem_cons_of_mem _ (List.mem_append_right _ h)) (by decide +kernel))
set_option maxRecDepth 20000 in
theorem gX2_takePiece_X2_earn : GoodIn wsX2_takePiece (wsV RX2 128 RX2 yX2_earn wsX2_earn) := goodIn_app (goodIn_of _ (by decide +kernel)) ggX2_takePiece_X2_earn
set_option maxRecDepth 20000 in
theorem ggX2_takePiece_X2_endTurn : GoodIn wsX2_takePiece wsX2_endTurn := goodIn_ca (goodIn_r _ [46, 10, 47, 1, 2, 3, 4, 5, 6, 7, 8, 9, 48, 49, 50, 51, 52, 53, 54, 19, 55, 56, 57, 58, 59, 60, 13, 61, 62, 63, 64, 65, 66, 67, 68, 69, 70, 71, 72, 73, 78] (by decide +kernel) (by decide +kernel)) (goodIn_sub (fun _ h => List.mem_cons_of_mem _ (List.mem_append_right _ h)) (by decide +kernel))
set_option maxRecDepth 20000 in
theorem gX2_takePiece_X2_endTurn : GoodIn wsX2_takePiece (wsV RX2 132 RX2 yX2_endTurn wsX2_endTurn) := goodIn_app (goodIn_of _ (by decide +kernel)) ggX2_takePiece_X2_endTurn
set_option maxRecDepth 20000 in
theorem ggX2_takePiece_X2_coinsOf : GoodIn wsX2_takePiece wsX2_coinsOf := goodIn_ca (goodIn_r _ [77, 10, 78] (by decide +kernel) (by decide +kernel)) (goodIn_sub (fun _ h => List.mem_cons_of_mem _ (List.mem_append_right _ h)) (by decide +kernel))
set_option maxRecDepth 20000 in
theorem gX2_takePiece_X2_coinsOf : GoodIn wsX2_takePiece (wsV RX2 136 RX2 yX2_coinsOf wsX2_coinsOf) := goodIn_app (goodIn_of _ (by decide +kernel)) ggX2_takePiece_X2_coinsOf
theorem dX2_takePiece_0 : decode cX2_takePiece 0 = .ok (.aload_n 0, 1) := by decide +kernel
theorem dX2_takePiece_1 : decode cX2_takePiece 1 = .ok (.invokevirtual 118, 3) := by decide +kernel
theorem dX2_takePiece_4 : decode cX2_takePiece 4 = .ok (.istore_n 2, 1) := by decide +kernel
theorem dX2_takePiece_5 : decode cX2_takePiece 5 = .ok (.iload_n 1, 1) := by decide +kernel
theorem dX2_takePiece_6 : decode cX2_takePiece 6 = .ok (.invokestatic 26, 3) := by decide +kernel
theorem dX2_takePiece_9 : decode cX2_takePiece 9 = .ok (.lstore_n 3, 1) := by decide +kernel
theorem dX2_takePiece_10 : decode cX2_takePiece 10 = .ok (.aload_n 0, 1) := by decide +kernel
theorem dX2_takePiece_11 : decode cX2_takePiece 11 = .ok (.bipush 10, 2) := by decide +kernel
theorem dX2_takePiece_13 : decode cX2_takePiece 13 = .ok (.lload_n 3, 1) := by decide +kernel
theorem dX2_takePiece_14 : decode cX2_takePiece 14 = .ok (.invokevirtual 98, 3) := by decide +kernel
theorem dX2_takePiece_17 : decode cX2_takePiece 17 = .ok (.aload_n 0, 1) := by decide +kernel
theorem dX2_takePiece_18 : decode cX2_takePiece 18 = .ok (.iconst 4, 1) := by decide +kernel
theorem dX2_takePiece_19 : decode cX2_takePiece 19 = .ok (.iload_n 2, 1) := by decide +kernel
theorem dX2_takePiece_20 : decode cX2_takePiece 20 = .ok (.iadd, 1) := by decide +kernel
theorem dX2_takePiece_21 : decode cX2_takePiece 21 = .ok (.lload_n 3, 1) := by decide +kernel
theorem dX2_takePiece_22 : decode cX2_takePiece 22 = .ok (.invokevirtual 98, 3) := by decide +kernel
theorem dX2_takePiece_25 : decode cX2_takePiece 25 = .ok (.aload_n 0, 1) := by decide +kernel
theorem dX2_takePiece_26 : decode cX2_takePiece 26 = .ok (.iconst 0, 1) := by decide +kernel
theorem dX2_takePiece_27 : decode cX2_takePiece 27 = .ok (.iload_n 2, 1) := by decide +kernel
theorem dX2_takePiece_28 : decode cX2_takePiece 28 = .ok (.iadd, 1) := by decide +kernel
theorem dX2_takePiece_29 : decode cX2_takePiece 29 = .ok (.lload_n 3, 1) := by decide +kernel
theorem dX2_takePiece_30 : decode cX2_takePiece 30 = .ok (.invokevirtual 72, 3) := by decide +kernel
theorem dX2_takePiece_33 : decode cX2_takePiece 33 = .ok (.aload_n 0, 1) := by decide +kernel
theorem dX2_takePiece_34 : decode cX2_takePiece 34 = .ok (.iload_n 2, 1) := by decide +kernel
theorem dX2_takePiece_35 : decode cX2_takePiece 35 = .ok (.aload_n 0, 1) := by decide +kernel
theorem dX2_takePiece_36 : decode cX2_takePiece 36 = .ok (.iload_n 1, 1) := by decide +kernel
theorem dX2_takePiece_37 : decode cX2_takePiece 37 = .ok (.invokevirtual 139, 3) := by decide +kernel
theorem dX2_takePiece_40 : decode cX2_takePiece 40 = .ok (.ineg, 1) := by decide +kernel
theorem dX2_takePiece_41 : decode cX2_takePiece 41 = .ok (.invokevirtual 128, 3) := by decide +kernel
theorem dX2_takePiece_44 : decode cX2_takePiece 44 = .ok (.aload_n 0, 1) := by decide +kernel
theorem dX2_takePiece_45 : decode cX2_takePiece 45 = .ok (.iconst 0, 1) := by decide +kernel
theorem dX2_takePiece_46 : decode cX2_takePiece 46 = .ok (.invokevirtual 132, 3) := by decide +kernel
theorem dX2_takePiece_49 : decode cX2_takePiece 49 = .ok (.aload_n 0, 1) := by decide +kernel
theorem dX2_takePiece_50 : decode cX2_takePiece 50 = .ok (.iload_n 2, 1) := by decide +kernel
theorem dX2_takePiece_51 : decode cX2_takePiece 51 = .ok (.invokevirtual 136, 3) := by decide +kernel
theorem dX2_takePiece_54 : decode cX2_takePiece 54 = .ok (.ireturn, 1) := by decide +kernel
set_option maxRecDepth 20000 in
theorem ggX2_priceOfPiece_X2_kindOn : GoodIn wsX2_priceOfPiece wsX2_kindOn := goodIn_ca (goodIn_r _ [5, 6, 7, 8, 4, 9, 10, 11, 12, 13, 14, 15] (by decide +kernel) (by decide +kernel)) (goodIn_sub (fun _ h => List.mem_cons_of_mem _ (List.mem_append_right _ h)) (by decide +kernel))
set_option maxRecDepth 20000 in
theorem gX2_priceOfPiece_X2_kindOn : GoodIn wsX2_priceOfPiece (wsV RX2 83 RX2 yX2_kindOn wsX2_kindOn) := goodIn_app (goodIn_of _ (by decide +kernel)) ggX2_priceOfPiece_X2_kindOn
theorem dX2_priceOfPiece_0 : decode cX2_priceOfPiece 0 = .ok (.iconst 2, 1) := by decide +kernel
theorem dX2_priceOfPiece_1 : decode cX2_priceOfPiece 1 = .ok (.aload_n 0, 1) := by decide +kernel
theorem dX2_priceOfPiece_2 : decode cX2_priceOfPiece 2 = .ok (.iload_n 1, 1) := by decide +kernel
theorem dX2_priceOfPiece_3 : decode cX2_priceOfPiece 3 = .ok (.invokevirtual 83, 3) := by decide +kernel
theorem dX2_priceOfPiece_6 : decode cX2_priceOfPiece 6 = .ok (.iadd, 1) := by decide +kernel
theorem dX2_priceOfPiece_7 : decode cX2_priceOfPiece 7 = .ok (.ireturn, 1) := by decide +kernel
theorem dX2_earn_0 : decode cX2_earn 0 = .ok (.iload_n 1, 1) := by decide +kernel
theorem dX2_earn_1 : decode cX2_earn 1 = .ok (.ifCond .ne 18, 3) := by decide +kernel
theorem dX2_earn_4 : decode cX2_earn 4 = .ok (.aload_n 0, 1) := by decide +kernel
theorem dX2_earn_5 : decode cX2_earn 5 = .ok (.getfield 11, 3) := by decide +kernel
theorem dX2_earn_8 : decode cX2_earn 8 = .ok (.bipush 11, 2) := by decide +kernel
theorem dX2_earn_10 : decode cX2_earn 10 = .ok (.dup2, 1) := by decide +kernel
theorem dX2_earn_11 : decode cX2_earn 11 = .ok (.laload, 1) := by decide +kernel
theorem dX2_earn_12 : decode cX2_earn 12 = .ok (.iload_n 2, 1) := by decide +kernel
theorem dX2_earn_13 : decode cX2_earn 13 = .ok (.i2l, 1) := by decide +kernel
theorem dX2_earn_14 : decode cX2_earn 14 = .ok (.ladd, 1) := by decide +kernel
theorem dX2_earn_15 : decode cX2_earn 15 = .ok (.lastore, 1) := by decide +kernel
theorem dX2_earn_16 : decode cX2_earn 16 = .ok (.goto 15, 3) := by decide +kernel
theorem dX2_earn_19 : decode cX2_earn 19 = .ok (.aload_n 0, 1) := by decide +kernel
theorem dX2_earn_20 : decode cX2_earn 20 = .ok (.getfield 11, 3) := by decide +kernel
theorem dX2_earn_23 : decode cX2_earn 23 = .ok (.bipush 12, 2) := by decide +kernel
theorem dX2_earn_25 : decode cX2_earn 25 = .ok (.dup2, 1) := by decide +kernel
theorem dX2_earn_26 : decode cX2_earn 26 = .ok (.laload, 1) := by decide +kernel
theorem dX2_earn_27 : decode cX2_earn 27 = .ok (.iload_n 2, 1) := by decide +kernel
theorem dX2_earn_28 : decode cX2_earn 28 = .ok (.i2l, 1) := by decide +kernel
theorem dX2_earn_29 : decode cX2_earn 29 = .ok (.ladd, 1) := by decide +kernel
theorem dX2_earn_30 : decode cX2_earn 30 = .ok (.lastore, 1) := by decide +kernel
theorem dX2_earn_31 : decode cX2_earn 31 = .ok (.return_, 1) := by decide +kernel
set_option maxRecDepth 20000 in
theorem ggX2_endTurn_X2_mover : GoodIn wsX2_endTurn wsX2_mover := goodIn_ca (goodIn_r _ [7, 8, 9, 10, 6, 11, 1, 40] (by decide +kernel) (by decide +kernel)) (goodIn_sub (fun _ h => List.mem_cons_of_mem _ (List.mem_append_right _ h)) (by decide +kernel))
set_option maxRecDepth 20000 in
theorem gX2_endTurn_X2_mover : GoodIn wsX2_endTurn (wsV RX2 118 RX2 yX2_mover wsX2_mover) := goodIn_app (goodIn_of _ (by decide +kernel)) ggX2_endTurn_X2_mover
set_option maxRecDepth 20000 in
theorem ggX2_endTurn_X4_otherSide : GoodIn wsX2_endTurn wsX4_otherSide := goodIn_r _ [14] (by decide +kernel) (by decide +kernel)
set_option maxRecDepth 20000 in
theorem gX2_endTurn_X4_otherSide_n105 : GoodIn wsX2_endTurn (wsX4_otherSide) := ggX2_endTurn_X4_otherSide
set_option maxRecDepth 20000 in
theorem ggX2_endTurn_X2_hasMove : GoodIn wsX2_endTurn wsX2_hasMove := goodIn_ca (goodIn_r _ [18, 19, 20, 21, 22, 6, 23, 1, 24, 25, 26, 27, 28, 29, 30, 31, 32, 33, 34, 35, 36, 37, 38, 39, 40] (by decide +kernel) (by decide +kernel)) (goodIn_sub (fun _ h => List.mem_cons_of_mem _ (List.mem_append_right _ h)) (by decide +kernel))
set_option maxRecDepth 20000 in
theorem gX2_endTurn_X2_hasMove : GoodIn wsX2_endTurn (wsV RX2 142 RX2 yX2_hasMove wsX2_hasMove) := goodIn_app (goodIn_of _ (by decide +kernel)) ggX2_endTurn_X2_hasMove
set_option maxRecDepth 20000 in
theorem ggX2_endTurn_X2_turns : GoodIn wsX2_endTurn wsX2_turns := goodIn_ca (goodIn_r _ [11, 1, 40] (by decide +kernel) (by decide +kernel)) (goodIn_sub (fun _ h => List.mem_cons_of_mem _ (List.mem_append_right _ h)) (by decide +kernel))
set_option maxRecDepth 20000 in
theorem gX2_endTurn_X2_turns : GoodIn wsX2_endTurn (wsV RX2 38 RX2 yX2_turns wsX2_turns) := goodIn_app (goodIn_of _ (by decide +kernel)) ggX2_endTurn_X2_turns
theorem dX2_endTurn_0 : decode cX2_endTurn 0 = .ok (.aload_n 0, 1) := by decide +kernel
theorem dX2_endTurn_1 : decode cX2_endTurn 1 = .ok (.invokevirtual 118, 3) := by decide +kernel
theorem dX2_endTurn_4 : decode cX2_endTurn 4 = .ok (.istore_n 2, 1) := by decide +kernel
theorem dX2_endTurn_5 : decode cX2_endTurn 5 = .ok (.aload_n 0, 1) := by decide +kernel
theorem dX2_endTurn_6 : decode cX2_endTurn 6 = .ok (.getfield 11, 3) := by decide +kernel
theorem dX2_endTurn_9 : decode cX2_endTurn 9 = .ok (.bipush 13, 2) := by decide +kernel
theorem dX2_endTurn_11 : decode cX2_endTurn 11 = .ok (.dup2, 1) := by decide +kernel
theorem dX2_endTurn_12 : decode cX2_endTurn 12 = .ok (.laload, 1) := by decide +kernel
theorem dX2_endTurn_13 : decode cX2_endTurn 13 = .ok (.lconst 1, 1) := by decide +kernel
theorem dX2_endTurn_14 : decode cX2_endTurn 14 = .ok (.ladd, 1) := by decide +kernel
theorem dX2_endTurn_15 : decode cX2_endTurn 15 = .ok (.lastore, 1) := by decide +kernel
theorem dX2_endTurn_16 : decode cX2_endTurn 16 = .ok (.iload_n 1, 1) := by decide +kernel
theorem dX2_endTurn_17 : decode cX2_endTurn 17 = .ok (.ifCond .ne 14, 3) := by decide +kernel
theorem dX2_endTurn_20 : decode cX2_endTurn 20 = .ok (.aload_n 0, 1) := by decide +kernel
theorem dX2_endTurn_21 : decode cX2_endTurn 21 = .ok (.iload_n 2, 1) := by decide +kernel
theorem dX2_endTurn_22 : decode cX2_endTurn 22 = .ok (.invokestatic 105, 3) := by decide +kernel
theorem dX2_endTurn_25 : decode cX2_endTurn 25 = .ok (.invokevirtual 142, 3) := by decide +kernel
theorem dX2_endTurn_28 : decode cX2_endTurn 28 = .ok (.ifCond .ne 17, 3) := by decide +kernel
theorem dX2_endTurn_31 : decode cX2_endTurn 31 = .ok (.aload_n 0, 1) := by decide +kernel
theorem dX2_endTurn_32 : decode cX2_endTurn 32 = .ok (.getfield 11, 3) := by decide +kernel
theorem dX2_endTurn_35 : decode cX2_endTurn 35 = .ok (.bipush 14, 2) := by decide +kernel
theorem dX2_endTurn_37 : decode cX2_endTurn 37 = .ok (.iload_n 2, 1) := by decide +kernel
theorem dX2_endTurn_38 : decode cX2_endTurn 38 = .ok (.iconst 1, 1) := by decide +kernel
theorem dX2_endTurn_39 : decode cX2_endTurn 39 = .ok (.iadd, 1) := by decide +kernel
theorem dX2_endTurn_40 : decode cX2_endTurn 40 = .ok (.i2l, 1) := by decide +kernel
theorem dX2_endTurn_41 : decode cX2_endTurn 41 = .ok (.lastore, 1) := by decide +kernel
theorem dX2_endTurn_42 : decode cX2_endTurn 42 = .ok (.goto 22, 3) := by decide +kernel
theorem dX2_endTurn_45 : decode cX2_endTurn 45 = .ok (.aload_n 0, 1) := by decide +kernel
theorem dX2_endTurn_46 : decode cX2_endTurn 46 = .ok (.invokevirtual 38, 3) := by decide +kernel
theorem dX2_endTurn_49 : decode cX2_endTurn 49 = .ok (.bipush 60, 2) := by decide +kernel
theorem dX2_endTurn_51 : decode cX2_endTurn 51 = .ok (.if_icmp .lt 13, 3) := by decide +kernel
theorem dX2_endTurn_54 : decode cX2_endTurn 54 = .ok (.aload_n 0, 1) := by decide +kernel
theorem dX2_endTurn_55 : decode cX2_endTurn 55 = .ok (.getfield 11, 3) := by decide +kernel
theorem dX2_endTurn_58 : decode cX2_endTurn 58 = .ok (.bipush 14, 2) := by decide +kernel
theorem dX2_endTurn_60 : decode cX2_endTurn 60 = .ok (.ldc2_w 20, 3) := by decide +kernel
theorem dX2_endTurn_63 : decode cX2_endTurn 63 = .ok (.lastore, 1) := by decide +kernel
theorem dX2_endTurn_64 : decode cX2_endTurn 64 = .ok (.return_, 1) := by decide +kernel
theorem dX2_refusal_0 : decode cX2_refusal 0 = .ok (.iload_n 0, 1) := by decide +kernel
theorem dX2_refusal_1 : decode cX2_refusal 1 = .ok (.bipush 100, 2) := by decide +kernel
theorem dX2_refusal_3 : decode cX2_refusal 3 = .ok (.imul, 1) := by decide +kernel
theorem dX2_refusal_4 : decode cX2_refusal 4 = .ok (.iload_n 1, 1) := by decide +kernel
theorem dX2_refusal_5 : decode cX2_refusal 5 = .ok (.iadd, 1) := by decide +kernel
theorem dX2_refusal_6 : decode cX2_refusal 6 = .ok (.ireturn, 1) := by decide +kernel
set_option maxRecDepth 20000 in
theorem ggX2_refusalOfMove_X2_isOver : GoodIn wsX2_refusalOfMove wsX2_isOver := goodIn_ca (goodIn_r _ [5, 6, 79] (by decide +kernel) (by decide +kernel)) (goodIn_sub (fun _ h => List.mem_cons_of_mem _ (List.mem_append_right _ h)) (by decide +kernel))
set_option maxRecDepth 20000 in
theorem gX2_refusalOfMove_X2_isOver : GoodIn wsX2_refusalOfMove (wsV RX2 146 RX2 yX2_isOver wsX2_isOver) := goodIn_app (goodIn_of _ (by decide +kernel)) ggX2_refusalOfMove_X2_isOver
set_option maxRecDepth 20000 in
theorem ggX2_refusalOfMove_X2_turns : GoodIn wsX2_refusalOfMove wsX2_turns := goodIn_ca (goodIn_r _ [10, 6, 79] (by decide +kernel) (by decide +kernel)) (goodIn_sub (fun _ h => List.mem_cons_of_mem _ (List.mem_append_right _ h)) (by decide +kernel))
set_option maxRecDepth 20000 in
theorem gX2_refusalOfMove_X2_turns : GoodIn wsX2_refusalOfMove (wsV RX2 38 RX2 yX2_turns wsX2_turns) := goodIn_app (goodIn_of _ (by decide +kernel)) ggX2_refusalOfMove_X2_turns
set_option maxRecDepth 20000 in
theorem ggX2_refusalOfMove_X2_refusal : GoodIn wsX2_refusalOfMove wsX2_refusal := goodIn_r _ [13] (by decide +kernel) (by decide +kernel)
set_option maxRecDepth 20000 in
theorem gX2_refusalOfMove_X2_refusal : GoodIn wsX2_refusalOfMove (va_wsS RX2 150 yX2_refusal wsX2_refusal) := goodIn_app (goodIn_of _ (by decide +kernel)) ggX2_refusalOfMove_X2_refusal
set_option maxRecDepth 20000 in
theorem ggX2_refusalOfMove_X2_mover : GoodIn wsX2_refusalOfMove wsX2_mover := goodIn_ca (goodIn_r _ [17, 7, 8, 9, 4, 10, 6, 79] (by decide +kernel) (by decide +kernel)) (goodIn_sub (fun _ h => List.mem_cons_of_mem _ (List.mem_append_right _ h)) (by decide +kernel))
set_option maxRecDepth 20000 in
theorem gX2_refusalOfMove_X2_mover : GoodIn wsX2_refusalOfMove (wsV RX2 118 RX2 yX2_mover wsX2_mover) := goodIn_app (goodIn_of _ (by decide +kernel)) ggX2_refusalOfMove_X2_mover
set_option maxRecDepth 20000 in
theorem ggX2_refusalOfMove_X2_piecesOf : GoodIn wsX2_refusalOfMove wsX2_piecesOf := goodIn_ca (goodIn_r _ [21, 6, 79] (by decide +kernel) (by decide +kernel)) (goodIn_sub (fun _ h => List.mem_cons_of_mem _ (List.mem_append_right _ h)) (by decide +kernel))
set_option maxRecDepth 20000 in
theorem gX2_refusalOfMove_X2_piecesOf : GoodIn wsX2_refusalOfMove (wsV RX2 56 RX2 yX2_piecesOf wsX2_piecesOf) := goodIn_app (goodIn_of _ (by decide +kernel)) ggX2_refusalOfMove_X2_piecesOf
set_option maxRecDepth 20000 in
theorem ggX2_refusalOfMove_X3_has : GoodIn wsX2_refusalOfMove wsX3_has := goodIn_r _ [25] (by decide +kernel) (by decide +kernel)
set_option maxRecDepth 20000 in
theorem gX2_refusalOfMove_X3_has : GoodIn wsX2_refusalOfMove (va_wsS RX2 46 yX3_has wsX3_has) := goodIn_app (goodIn_of _ (by decide +kernel)) ggX2_refusalOfMove_X3_has
set_option maxRecDepth 20000 in
theorem ggX2_refusalOfMove_X2_targetsOf : GoodIn wsX2_refusalOfMove wsX2_targetsOf := goodIn_ca (goodIn_r _ [29, 30, 31, 32, 33, 4, 34, 18, 19, 20, 21, 6, 35, 36, 37, 38, 39, 40, 41, 42, 22, 23, 24, 25, 43, 44, 45, 46, 47, 48, 49, 50, 51, 52, 53, 54, 55, 56, 57, 58, 59, 60, 61, 62, 63, 64, 65, 66, 67, 68, 69, 70, 71, 72, 73, 74, 75, 76, 77, 78, 79] (by decide +kernel) (by decide +kernel)) (goodIn_sub (fun _ h => List.mem_cons_of_mem _ (List.mem_append_right _ h)) (by decide +kernel))
set_option maxRecDepth 20000 in
theorem gX2_refusalOfMove_X2_targetsOf : GoodIn wsX2_refusalOfMove (wsV RX2 153 RX2 yX2_targetsOf wsX2_targetsOf) := goodIn_app (goodIn_of _ (by decide +kernel)) ggX2_refusalOfMove_X2_targetsOf
theorem dX2_refusalOfMove_0 : decode cX2_refusalOfMove 0 = .ok (.aload_n 0, 1) := by decide +kernel
theorem dX2_refusalOfMove_1 : decode cX2_refusalOfMove 1 = .ok (.invokevirtual 146, 3) := by decide +kernel
theorem dX2_refusalOfMove_4 : decode cX2_refusalOfMove 4 = .ok (.ifCond .eq 12, 3) := by decide +kernel
theorem dX2_refusalOfMove_7 : decode cX2_refusalOfMove 7 = .ok (.iconst 1, 1) := by decide +kernel
theorem dX2_refusalOfMove_8 : decode cX2_refusalOfMove 8 = .ok (.aload_n 0, 1) := by decide +kernel
theorem dX2_refusalOfMove_9 : decode cX2_refusalOfMove 9 = .ok (.invokevirtual 38, 3) := by decide +kernel
theorem dX2_refusalOfMove_12 : decode cX2_refusalOfMove 12 = .ok (.invokestatic 150, 3) := by decide +kernel
theorem dX2_refusalOfMove_15 : decode cX2_refusalOfMove 15 = .ok (.ireturn, 1) := by decide +kernel
theorem dX2_refusalOfMove_16 : decode cX2_refusalOfMove 16 = .ok (.aload_n 0, 1) := by decide +kernel
theorem dX2_refusalOfMove_17 : decode cX2_refusalOfMove 17 = .ok (.aload_n 0, 1) := by decide +kernel
theorem dX2_refusalOfMove_18 : decode cX2_refusalOfMove 18 = .ok (.invokevirtual 118, 3) := by decide +kernel
theorem dX2_refusalOfMove_21 : decode cX2_refusalOfMove 21 = .ok (.invokevirtual 56, 3) := by decide +kernel
theorem dX2_refusalOfMove_24 : decode cX2_refusalOfMove 24 = .ok (.iload_n 1, 1) := by decide +kernel
theorem dX2_refusalOfMove_25 : decode cX2_refusalOfMove 25 = .ok (.invokestatic 46, 3) := by decide +kernel
theorem dX2_refusalOfMove_28 : decode cX2_refusalOfMove 28 = .ok (.ifCond .ne 9, 3) := by decide +kernel
theorem dX2_refusalOfMove_31 : decode cX2_refusalOfMove 31 = .ok (.iconst 2, 1) := by decide +kernel
theorem dX2_refusalOfMove_32 : decode cX2_refusalOfMove 32 = .ok (.iload_n 1, 1) := by decide +kernel
theorem dX2_refusalOfMove_33 : decode cX2_refusalOfMove 33 = .ok (.invokestatic 150, 3) := by decide +kernel
theorem dX2_refusalOfMove_36 : decode cX2_refusalOfMove 36 = .ok (.ireturn, 1) := by decide +kernel
theorem dX2_refusalOfMove_37 : decode cX2_refusalOfMove 37 = .ok (.aload_n 0, 1) := by decide +kernel
theorem dX2_refusalOfMove_38 : decode cX2_refusalOfMove 38 = .ok (.iload_n 1, 1) := by decide +kernel
theorem dX2_refusalOfMove_39 : decode cX2_refusalOfMove 39 = .ok (.invokevirtual 153, 3) := by decide +kernel
theorem dX2_refusalOfMove_42 : decode cX2_refusalOfMove 42 = .ok (.iload_n 2, 1) := by decide +kernel
theorem dX2_refusalOfMove_43 : decode cX2_refusalOfMove 43 = .ok (.invokestatic 46, 3) := by decide +kernel
theorem dX2_refusalOfMove_46 : decode cX2_refusalOfMove 46 = .ok (.ifCond .ne 9, 3) := by decide +kernel
theorem dX2_refusalOfMove_49 : decode cX2_refusalOfMove 49 = .ok (.iconst 3, 1) := by decide +kernel
theorem dX2_refusalOfMove_50 : decode cX2_refusalOfMove 50 = .ok (.iload_n 2, 1) := by decide +kernel
theorem dX2_refusalOfMove_51 : decode cX2_refusalOfMove 51 = .ok (.invokestatic 150, 3) := by decide +kernel
theorem dX2_refusalOfMove_54 : decode cX2_refusalOfMove 54 = .ok (.ireturn, 1) := by decide +kernel
theorem dX2_refusalOfMove_55 : decode cX2_refusalOfMove 55 = .ok (.iconst 0, 1) := by decide +kernel
theorem dX2_refusalOfMove_56 : decode cX2_refusalOfMove 56 = .ok (.ireturn, 1) := by decide +kernel
set_option maxRecDepth 20000 in
theorem ggX2_refusalOfPurchase_X2_mover : GoodIn wsX2_refusalOfPurchase wsX2_mover := goodIn_ca (goodIn_r _ [5, 6, 7, 8, 4, 9, 10, 73] (by decide +kernel) (by decide +kernel)) (goodIn_sub (fun _ h => List.mem_cons_of_mem _ (List.mem_append_right _ h)) (by decide +kernel))
set_option maxRecDepth 20000 in
theorem gX2_refusalOfPurchase_X2_mover : GoodIn wsX2_refusalOfPurchase (wsV RX2 118 RX2 yX2_mover wsX2_mover) := goodIn_app (goodIn_of _ (by decide +kernel)) ggX2_refusalOfPurchase_X2_mover
set_option maxRecDepth 20000 in
theorem ggX2_refusalOfPurchase_X2_isOver : GoodIn wsX2_refusalOfPurchase wsX2_isOver := goodIn_ca (goodIn_r _ [14, 10, 73] (by decide +kernel) (by decide +kernel)) (goodIn_sub (fun _ h => List.mem_cons_of_mem _ (List.mem_append_right _ h)) (by decide +kernel))
set_option maxRecDepth 20000 in
theorem gX2_refusalOfPurchase_X2_isOver : GoodIn wsX2_refusalOfPurchase (wsV RX2 146 RX2 yX2_isOver wsX2_isOver) := goodIn_app (goodIn_of _ (by decide +kernel)) ggX2_refusalOfPurchase_X2_isOver
set_option maxRecDepth 20000 in
theorem ggX2_refusalOfPurchase_X2_turns : GoodIn wsX2_refusalOfPurchase wsX2_turns := goodIn_ca (goodIn_r _ [9, 10, 73] (by decide +kernel) (by decide +kernel)) (goodIn_sub (fun _ h => List.mem_cons_of_mem _ (List.mem_append_right _ h)) (by decide +kernel))
set_option maxRecDepth 20000 in
theorem gX2_refusalOfPurchase_X2_turns : GoodIn wsX2_refusalOfPurchase (wsV RX2 38 RX2 yX2_turns wsX2_turns) := goodIn_app (goodIn_of _ (by decide +kernel)) ggX2_refusalOfPurchase_X2_turns
set_option maxRecDepth 20000 in
theorem ggX2_refusalOfPurchase_X2_refusal : GoodIn wsX2_refusalOfPurchase wsX2_refusal := goodIn_r _ [17] (by decide +kernel) (by decide +kernel)
set_option maxRecDepth 20000 in
theorem gX2_refusalOfPurchase_X2_refusal : GoodIn wsX2_refusalOfPurchase (va_wsS RX2 150 yX2_refusal wsX2_refusal) := goodIn_app (goodIn_of _ (by decide +kernel)) ggX2_refusalOfPurchase_X2_refusal
set_option maxRecDepth 20000 in
theorem ggX2_refusalOfPurchase_X2_walls : GoodIn wsX2_refusalOfPurchase wsX2_walls := goodIn_ca (goodIn_r _ [21, 10, 73] (by decide +kernel) (by decide +kernel)) (goodIn_sub (fun _ h => List.mem_cons_of_mem _ (List.mem_append_right _ h)) (by decide +kernel))
set_option maxRecDepth 20000 in
theorem gX2_refusalOfPurchase_X2_walls : GoodIn wsX2_refusalOfPurchase (wsV RX2 50 RX2 yX2_walls wsX2_walls) := goodIn_app (goodIn_of _ (by decide +kernel)) ggX2_refusalOfPurchase_X2_walls
set_option maxRecDepth 20000 in
theorem ggX2_refusalOfPurchase_X3_has : GoodIn wsX2_refusalOfPurchase wsX3_has := goodIn_r _ [25] (by decide +kernel) (by decide +kernel)
set_option maxRecDepth 20000 in
theorem gX2_refusalOfPurchase_X3_has : GoodIn wsX2_refusalOfPurchase (va_wsS RX2 46 yX3_has wsX3_has) := goodIn_app (goodIn_of _ (by decide +kernel)) ggX2_refusalOfPurchase_X3_has
set_option maxRecDepth 20000 in
theorem ggX2_refusalOfPurchase_X2_memoriesOf : GoodIn wsX2_refusalOfPurchase wsX2_memoriesOf := goodIn_ca (goodIn_r _ [29, 10, 73] (by decide +kernel) (by decide +kernel)) (goodIn_sub (fun _ h => List.mem_cons_of_mem _ (List.mem_append_right _ h)) (by decide +kernel))
set_option maxRecDepth 20000 in
theorem gX2_refusalOfPurchase_X2_memoriesOf : GoodIn wsX2_refusalOfPurchase (wsV RX2 62 RX2 yX2_memoriesOf wsX2_memoriesOf) := goodIn_app (goodIn_of _ (by decide +kernel)) ggX2_refusalOfPurchase_X2_memoriesOf
set_option maxRecDepth 20000 in
theorem ggX2_refusalOfPurchase_X3_of : GoodIn wsX2_refusalOfPurchase wsX3_of := goodIn_r _ [32] (by decide +kernel) (by decide +kernel)
set_option maxRecDepth 20000 in
theorem gX2_refusalOfPurchase_X3_of : GoodIn wsX2_refusalOfPurchase (va_wsS RX2 26 yX3_of wsX3_of) := goodIn_app (goodIn_of _ (by decide +kernel)) ggX2_refusalOfPurchase_X3_of
set_option maxRecDepth 20000 in
theorem ggX2_refusalOfPurchase_X3_around : GoodIn wsX2_refusalOfPurchase wsX3_around := goodIn_r _ [35, 36, 37, 38] (by decide +kernel) (by decide +kernel)
set_option maxRecDepth 20000 in
theorem gX2_refusalOfPurchase_X3_around : GoodIn wsX2_refusalOfPurchase (va_wsS RX2 94 yX3_around wsX3_around) := goodIn_app (goodIn_of _ (by decide +kernel)) ggX2_refusalOfPurchase_X3_around
set_option maxRecDepth 20000 in
theorem ggX2_refusalOfPurchase_X2_piecesOf : GoodIn wsX2_refusalOfPurchase wsX2_piecesOf := goodIn_ca (goodIn_r _ [42, 10, 73] (by decide +kernel) (by decide +kernel)) (goodIn_sub (fun _ h => List.mem_cons_of_mem _ (List.mem_append_right _ h)) (by decide +kernel))
set_option maxRecDepth 20000 in
theorem gX2_refusalOfPurchase_X2_piecesOf : GoodIn wsX2_refusalOfPurchase (wsV RX2 56 RX2 yX2_piecesOf wsX2_piecesOf) := goodIn_app (goodIn_of _ (by decide +kernel)) ggX2_refusalOfPurchase_X2_piecesOf
set_option maxRecDepth 20000 in
theorem ggX2_refusalOfPurchase_X2_kindOn : GoodIn wsX2_refusalOfPurchase wsX2_kindOn := goodIn_ca (goodIn_r _ [46, 47, 48, 49, 4, 50, 10, 22, 23, 24, 25, 73] (by decide +kernel) (by decide +kernel)) (goodIn_sub (fun _ h => List.mem_cons_of_mem _ (List.mem_append_right _ h)) (by decide +kernel))
set_option maxRecDepth 20000 in
theorem gX2_refusalOfPurchase_X2_kindOn : GoodIn wsX2_refusalOfPurchase (wsV RX2 83 RX2 yX2_kindOn wsX2_kindOn) := goodIn_app (goodIn_of _ (by decide +kernel)) ggX2_refusalOfPurchase_X2_kindOn
set_option maxRecDepth 20000 in
theorem ggX2_refusalOfPurchase_X2_keeperOf : GoodIn wsX2_refusalOfPurchase wsX2_keeperOf := goodIn_ca (goodIn_r _ [54, 10, 39, 40, 41, 4, 42, 55, 56, 24, 57, 58, 59, 60, 61, 62, 63, 64, 73] (by decide +kernel) (by decide +kernel)) (goodIn_sub (fun _ h => List.mem_cons_of_mem _ (List.mem_append_right _ h)) (by decide +kernel))
set_option maxRecDepth 20000 in
theorem gX2_refusalOfPurchase_X2_keeperOf : GoodIn wsX2_refusalOfPurchase (wsV RX2 121 RX2 yX2_keeperOf wsX2_keeperOf) := goodIn_app (goodIn_of _ (by decide +kernel)) ggX2_refusalOfPurchase_X2_keeperOf
set_option maxRecDepth 20000 in
theorem ggX2_refusalOfPurchase_X2_priceOfPiece : GoodIn wsX2_refusalOfPurchase wsX2_priceOfPiece := goodIn_ca (goodIn_r _ [68, 43, 44, 45, 4, 46, 47, 48, 49, 50, 10, 22, 23, 24, 25, 73] (by decide +kernel) (by decide +kernel)) (goodIn_sub (fun _ h => List.mem_cons_of_mem _ (List.mem_append_right _ h)) (by decide +kernel))
set_option maxRecDepth 20000 in
theorem gX2_refusalOfPurchase_X2_priceOfPiece : GoodIn wsX2_refusalOfPurchase (wsV RX2 139 RX2 yX2_priceOfPiece wsX2_priceOfPiece) := goodIn_app (goodIn_of _ (by decide +kernel)) ggX2_refusalOfPurchase_X2_priceOfPiece
set_option maxRecDepth 20000 in
theorem ggX2_refusalOfPurchase_X2_coinsOf : GoodIn wsX2_refusalOfPurchase wsX2_coinsOf := goodIn_ca (goodIn_r _ [72, 10, 73] (by decide +kernel) (by decide +kernel)) (goodIn_sub (fun _ h => List.mem_cons_of_mem _ (List.mem_append_right _ h)) (by decide +kernel))
set_option maxRecDepth 20000 in
theorem gX2_refusalOfPurchase_X2_coinsOf : GoodIn wsX2_refusalOfPurchase (wsV RX2 136 RX2 yX2_coinsOf wsX2_coinsOf) := goodIn_app (goodIn_of _ (by decide +kernel)) ggX2_refusalOfPurchase_X2_coinsOf
theorem dX2_refusalOfPurchase_0 : decode cX2_refusalOfPurchase 0 = .ok (.aload_n 0, 1) := by decide +kernel
theorem dX2_refusalOfPurchase_1 : decode cX2_refusalOfPurchase 1 = .ok (.invokevirtual 118, 3) := by decide +kernel
theorem dX2_refusalOfPurchase_4 : decode cX2_refusalOfPurchase 4 = .ok (.istore_n 3, 1) := by decide +kernel
theorem dX2_refusalOfPurchase_5 : decode cX2_refusalOfPurchase 5 = .ok (.aload_n 0, 1) := by decide +kernel
theorem dX2_refusalOfPurchase_6 : decode cX2_refusalOfPurchase 6 = .ok (.invokevirtual 146, 3) := by decide +kernel
theorem dX2_refusalOfPurchase_9 : decode cX2_refusalOfPurchase 9 = .ok (.ifCond .eq 12, 3) := by decide +kernel
theorem dX2_refusalOfPurchase_12 : decode cX2_refusalOfPurchase 12 = .ok (.iconst 1, 1) := by decide +kernel
theorem dX2_refusalOfPurchase_13 : decode cX2_refusalOfPurchase 13 = .ok (.aload_n 0, 1) := by decide +kernel
theorem dX2_refusalOfPurchase_14 : decode cX2_refusalOfPurchase 14 = .ok (.invokevirtual 38, 3) := by decide +kernel
theorem dX2_refusalOfPurchase_17 : decode cX2_refusalOfPurchase 17 = .ok (.invokestatic 150, 3) := by decide +kernel
theorem dX2_refusalOfPurchase_20 : decode cX2_refusalOfPurchase 20 = .ok (.ireturn, 1) := by decide +kernel
theorem dX2_refusalOfPurchase_21 : decode cX2_refusalOfPurchase 21 = .ok (.aload_n 0, 1) := by decide +kernel
theorem dX2_refusalOfPurchase_22 : decode cX2_refusalOfPurchase 22 = .ok (.invokevirtual 50, 3) := by decide +kernel
theorem dX2_refusalOfPurchase_25 : decode cX2_refusalOfPurchase 25 = .ok (.iload_n 1, 1) := by decide +kernel
theorem dX2_refusalOfPurchase_26 : decode cX2_refusalOfPurchase 26 = .ok (.invokestatic 46, 3) := by decide +kernel
theorem dX2_refusalOfPurchase_29 : decode cX2_refusalOfPurchase 29 = .ok (.ifCond .ne 9, 3) := by decide +kernel
theorem dX2_refusalOfPurchase_32 : decode cX2_refusalOfPurchase 32 = .ok (.iconst 4, 1) := by decide +kernel
theorem dX2_refusalOfPurchase_33 : decode cX2_refusalOfPurchase 33 = .ok (.iload_n 1, 1) := by decide +kernel
theorem dX2_refusalOfPurchase_34 : decode cX2_refusalOfPurchase 34 = .ok (.invokestatic 150, 3) := by decide +kernel
theorem dX2_refusalOfPurchase_37 : decode cX2_refusalOfPurchase 37 = .ok (.ireturn, 1) := by decide +kernel
theorem dX2_refusalOfPurchase_38 : decode cX2_refusalOfPurchase 38 = .ok (.iload_n 2, 1) := by decide +kernel
theorem dX2_refusalOfPurchase_39 : decode cX2_refusalOfPurchase 39 = .ok (.ifCond .eq 21, 3) := by decide +kernel
theorem dX2_refusalOfPurchase_42 : decode cX2_refusalOfPurchase 42 = .ok (.aload_n 0, 1) := by decide +kernel
theorem dX2_refusalOfPurchase_43 : decode cX2_refusalOfPurchase 43 = .ok (.iload_n 3, 1) := by decide +kernel
theorem dX2_refusalOfPurchase_44 : decode cX2_refusalOfPurchase 44 = .ok (.invokevirtual 62, 3) := by decide +kernel
theorem dX2_refusalOfPurchase_47 : decode cX2_refusalOfPurchase 47 = .ok (.iload_n 1, 1) := by decide +kernel
theorem dX2_refusalOfPurchase_48 : decode cX2_refusalOfPurchase 48 = .ok (.invokestatic 46, 3) := by decide +kernel
theorem dX2_refusalOfPurchase_51 : decode cX2_refusalOfPurchase 51 = .ok (.ifCond .ne 9, 3) := by decide +kernel
theorem dX2_refusalOfPurchase_54 : decode cX2_refusalOfPurchase 54 = .ok (.iconst 5, 1) := by decide +kernel
theorem dX2_refusalOfPurchase_55 : decode cX2_refusalOfPurchase 55 = .ok (.iload_n 1, 1) := by decide +kernel
theorem dX2_refusalOfPurchase_56 : decode cX2_refusalOfPurchase 56 = .ok (.invokestatic 150, 3) := by decide +kernel
theorem dX2_refusalOfPurchase_59 : decode cX2_refusalOfPurchase 59 = .ok (.ireturn, 1) := by decide +kernel
theorem dX2_refusalOfPurchase_60 : decode cX2_refusalOfPurchase 60 = .ok (.iload_n 1, 1) := by decide +kernel
theorem dX2_refusalOfPurchase_61 : decode cX2_refusalOfPurchase 61 = .ok (.invokestatic 26, 3) := by decide +kernel
theorem dX2_refusalOfPurchase_64 : decode cX2_refusalOfPurchase 64 = .ok (.invokestatic 94, 3) := by decide +kernel
theorem dX2_refusalOfPurchase_67 : decode cX2_refusalOfPurchase 67 = .ok (.aload_n 0, 1) := by decide +kernel
theorem dX2_refusalOfPurchase_68 : decode cX2_refusalOfPurchase 68 = .ok (.iload_n 3, 1) := by decide +kernel
theorem dX2_refusalOfPurchase_69 : decode cX2_refusalOfPurchase 69 = .ok (.invokevirtual 56, 3) := by decide +kernel
theorem dX2_refusalOfPurchase_72 : decode cX2_refusalOfPurchase 72 = .ok (.land, 1) := by decide +kernel
theorem dX2_refusalOfPurchase_73 : decode cX2_refusalOfPurchase 73 = .ok (.lconst 0, 1) := by decide +kernel
theorem dX2_refusalOfPurchase_74 : decode cX2_refusalOfPurchase 74 = .ok (.lcmp, 1) := by decide +kernel
theorem dX2_refusalOfPurchase_75 : decode cX2_refusalOfPurchase 75 = .ok (.ifCond .ne 10, 3) := by decide +kernel
theorem dX2_refusalOfPurchase_78 : decode cX2_refusalOfPurchase 78 = .ok (.bipush 6, 2) := by decide +kernel
theorem dX2_refusalOfPurchase_80 : decode cX2_refusalOfPurchase 80 = .ok (.iload_n 1, 1) := by decide +kernel
theorem dX2_refusalOfPurchase_81 : decode cX2_refusalOfPurchase 81 = .ok (.invokestatic 150, 3) := by decide +kernel
theorem dX2_refusalOfPurchase_84 : decode cX2_refusalOfPurchase 84 = .ok (.ireturn, 1) := by decide +kernel
theorem dX2_refusalOfPurchase_85 : decode cX2_refusalOfPurchase 85 = .ok (.iload_n 2, 1) := by decide +kernel
theorem dX2_refusalOfPurchase_86 : decode cX2_refusalOfPurchase 86 = .ok (.ifCond .eq 32, 3) := by decide +kernel
theorem dX2_refusalOfPurchase_89 : decode cX2_refusalOfPurchase 89 = .ok (.aload_n 0, 1) := by decide +kernel
theorem dX2_refusalOfPurchase_90 : decode cX2_refusalOfPurchase 90 = .ok (.iload_n 1, 1) := by decide +kernel
theorem dX2_refusalOfPurchase_91 : decode cX2_refusalOfPurchase 91 = .ok (.invokevirtual 83, 3) := by decide +kernel
theorem dX2_refusalOfPurchase_94 : decode cX2_refusalOfPurchase 94 = .ok (.iconst 3, 1) := by decide +kernel
theorem dX2_refusalOfPurchase_95 : decode cX2_refusalOfPurchase 95 = .ok (.if_icmp .ne 23, 3) := by decide +kernel
theorem dX2_refusalOfPurchase_98 : decode cX2_refusalOfPurchase 98 = .ok (.aload_n 0, 1) := by decide +kernel
theorem dX2_refusalOfPurchase_99 : decode cX2_refusalOfPurchase 99 = .ok (.iload_n 3, 1) := by decide +kernel
theorem dX2_refusalOfPurchase_100 : decode cX2_refusalOfPurchase 100 = .ok (.invokevirtual 121, 3) := by decide +kernel
theorem dX2_refusalOfPurchase_103 : decode cX2_refusalOfPurchase 103 = .ok (.iconst (-1), 1) := by decide +kernel
theorem dX2_refusalOfPurchase_104 : decode cX2_refusalOfPurchase 104 = .ok (.if_icmp .eq 14, 3) := by decide +kernel
theorem dX2_refusalOfPurchase_107 : decode cX2_refusalOfPurchase 107 = .ok (.bipush 7, 2) := by decide +kernel
theorem dX2_refusalOfPurchase_109 : decode cX2_refusalOfPurchase 109 = .ok (.aload_n 0, 1) := by decide +kernel
theorem dX2_refusalOfPurchase_110 : decode cX2_refusalOfPurchase 110 = .ok (.iload_n 3, 1) := by decide +kernel
theorem dX2_refusalOfPurchase_111 : decode cX2_refusalOfPurchase 111 = .ok (.invokevirtual 121, 3) := by decide +kernel
theorem dX2_refusalOfPurchase_114 : decode cX2_refusalOfPurchase 114 = .ok (.invokestatic 150, 3) := by decide +kernel
theorem dX2_refusalOfPurchase_117 : decode cX2_refusalOfPurchase 117 = .ok (.ireturn, 1) := by decide +kernel
theorem dX2_refusalOfPurchase_118 : decode cX2_refusalOfPurchase 118 = .ok (.iload_n 2, 1) := by decide +kernel
theorem dX2_refusalOfPurchase_119 : decode cX2_refusalOfPurchase 119 = .ok (.ifCond .eq 11, 3) := by decide +kernel
theorem dX2_refusalOfPurchase_122 : decode cX2_refusalOfPurchase 122 = .ok (.aload_n 0, 1) := by decide +kernel
theorem dX2_refusalOfPurchase_123 : decode cX2_refusalOfPurchase 123 = .ok (.iload_n 1, 1) := by decide +kernel
theorem dX2_refusalOfPurchase_124 : decode cX2_refusalOfPurchase 124 = .ok (.invokevirtual 139, 3) := by decide +kernel
theorem dX2_refusalOfPurchase_127 : decode cX2_refusalOfPurchase 127 = .ok (.goto 4, 3) := by decide +kernel
theorem dX2_refusalOfPurchase_130 : decode cX2_refusalOfPurchase 130 = .ok (.iconst 3, 1) := by decide +kernel
theorem dX2_refusalOfPurchase_131 : decode cX2_refusalOfPurchase 131 = .ok (.istore 4, 2) := by decide +kernel
theorem dX2_refusalOfPurchase_133 : decode cX2_refusalOfPurchase 133 = .ok (.iload 4, 2) := by decide +kernel
theorem dX2_refusalOfPurchase_135 : decode cX2_refusalOfPurchase 135 = .ok (.aload_n 0, 1) := by decide +kernel
theorem dX2_refusalOfPurchase_136 : decode cX2_refusalOfPurchase 136 = .ok (.iload_n 3, 1) := by decide +kernel
theorem dX2_refusalOfPurchase_137 : decode cX2_refusalOfPurchase 137 = .ok (.invokevirtual 136, 3) := by decide +kernel
theorem dX2_refusalOfPurchase_140 : decode cX2_refusalOfPurchase 140 = .ok (.isub, 1) := by decide +kernel
theorem dX2_refusalOfPurchase_141 : decode cX2_refusalOfPurchase 141 = .ok (.istore 5, 2) := by decide +kernel
theorem dX2_refusalOfPurchase_143 : decode cX2_refusalOfPurchase 143 = .ok (.iload 5, 2) := by decide +kernel
theorem dX2_refusalOfPurchase_145 : decode cX2_refusalOfPurchase 145 = .ok (.ifCond .le 13, 3) := by decide +kernel
theorem dX2_refusalOfPurchase_148 : decode cX2_refusalOfPurchase 148 = .ok (.bipush 8, 2) := by decide +kernel
theorem dX2_refusalOfPurchase_150 : decode cX2_refusalOfPurchase 150 = .ok (.iload 5, 2) := by decide +kernel
theorem dX2_refusalOfPurchase_152 : decode cX2_refusalOfPurchase 152 = .ok (.invokestatic 150, 3) := by decide +kernel
theorem dX2_refusalOfPurchase_155 : decode cX2_refusalOfPurchase 155 = .ok (.goto 4, 3) := by decide +kernel
theorem dX2_refusalOfPurchase_158 : decode cX2_refusalOfPurchase 158 = .ok (.iconst 0, 1) := by decide +kernel
theorem dX2_refusalOfPurchase_159 : decode cX2_refusalOfPurchase 159 = .ok (.ireturn, 1) := by decide +kernel
set_option maxRecDepth 20000 in
theorem ggX2_countRooms_X2_openTo : GoodIn wsX2_countRooms wsX2_openTo := goodIn_ca (goodIn_r _ [6, 7, 8, 1, 22] (by decide +kernel) (by decide +kernel)) (goodIn_sub (fun _ h => List.mem_cons_of_mem _ (List.mem_append_right _ h)) (by decide +kernel))
set_option maxRecDepth 20000 in
theorem gX2_countRooms_X2_openTo : GoodIn wsX2_countRooms (wsV RX2 80 RX2 yX2_openTo wsX2_openTo) := goodIn_app (goodIn_of _ (by decide +kernel)) ggX2_countRooms_X2_openTo
set_option maxRecDepth 20000 in
theorem ggX2_countRooms_X3_lowestRoom : GoodIn wsX2_countRooms wsX3_lowestRoom := goodIn_r _ [12, 13, 14, 11, 15, 16, 17, 18, 19, 20, 21] (by decide +kernel) (by decide +kernel)
set_option maxRecDepth 20000 in
theorem gX2_countRooms_X3_lowestRoom : GoodIn wsX2_countRooms (va_wsS RX2 156 yX3_lowestRoom wsX3_lowestRoom) := goodIn_app (goodIn_of _ (by decide +kernel)) ggX2_countRooms_X3_lowestRoom
theorem dX2_countRooms_0 : decode cX2_countRooms 0 = .ok (.aload_n 0, 1) := by decide +kernel
theorem dX2_countRooms_1 : decode cX2_countRooms 1 = .ok (.iload_n 1, 1) := by decide +kernel
theorem dX2_countRooms_2 : decode cX2_countRooms 2 = .ok (.invokevirtual 80, 3) := by decide +kernel
theorem dX2_countRooms_5 : decode cX2_countRooms 5 = .ok (.lstore_n 2, 1) := by decide +kernel
theorem dX2_countRooms_6 : decode cX2_countRooms 6 = .ok (.iconst 0, 1) := by decide +kernel
theorem dX2_countRooms_7 : decode cX2_countRooms 7 = .ok (.istore 4, 2) := by decide +kernel
theorem dX2_countRooms_9 : decode cX2_countRooms 9 = .ok (.lload_n 2, 1) := by decide +kernel
theorem dX2_countRooms_10 : decode cX2_countRooms 10 = .ok (.lconst 0, 1) := by decide +kernel
theorem dX2_countRooms_11 : decode cX2_countRooms 11 = .ok (.lcmp, 1) := by decide +kernel
theorem dX2_countRooms_12 : decode cX2_countRooms 12 = .ok (.ifCond .eq 27, 3) := by decide +kernel
theorem dX2_countRooms_15 : decode cX2_countRooms 15 = .ok (.iload 4, 2) := by decide +kernel
theorem dX2_countRooms_17 : decode cX2_countRooms 17 = .ok (.bipush 36, 2) := by decide +kernel
theorem dX2_countRooms_19 : decode cX2_countRooms 19 = .ok (.if_icmp .ge 20, 3) := by decide +kernel
theorem dX2_countRooms_22 : decode cX2_countRooms 22 = .ok (.lload_n 2, 1) := by decide +kernel
theorem dX2_countRooms_23 : decode cX2_countRooms 23 = .ok (.lload_n 2, 1) := by decide +kernel
theorem dX2_countRooms_24 : decode cX2_countRooms 24 = .ok (.invokestatic 156, 3) := by decide +kernel
theorem dX2_countRooms_27 : decode cX2_countRooms 27 = .ok (.ldc2_w 18, 3) := by decide +kernel
theorem dX2_countRooms_30 : decode cX2_countRooms 30 = .ok (.lxor, 1) := by decide +kernel
theorem dX2_countRooms_31 : decode cX2_countRooms 31 = .ok (.land, 1) := by decide +kernel
theorem dX2_countRooms_32 : decode cX2_countRooms 32 = .ok (.lstore_n 2, 1) := by decide +kernel
theorem dX2_countRooms_33 : decode cX2_countRooms 33 = .ok (.iinc 4 1, 3) := by decide +kernel
theorem dX2_countRooms_36 : decode cX2_countRooms 36 = .ok (.goto (-27), 3) := by decide +kernel
theorem dX2_countRooms_39 : decode cX2_countRooms 39 = .ok (.iload 4, 2) := by decide +kernel
theorem dX2_countRooms_41 : decode cX2_countRooms 41 = .ok (.ireturn, 1) := by decide +kernel
set_option maxRecDepth 20000 in
theorem ggX2_roomNumbered_X2_openTo : GoodIn wsX2_roomNumbered wsX2_openTo := goodIn_ca (goodIn_r _ [6, 7, 8, 1, 22] (by decide +kernel) (by decide +kernel)) (goodIn_sub (fun _ h => List.mem_cons_of_mem _ (List.mem_append_right _ h)) (by decide +kernel))
set_option maxRecDepth 20000 in
theorem gX2_roomNumbered_X2_openTo : GoodIn wsX2_roomNumbered (wsV RX2 80 RX2 yX2_openTo wsX2_openTo) := goodIn_app (goodIn_of _ (by decide +kernel)) ggX2_roomNumbered_X2_openTo
set_option maxRecDepth 20000 in
theorem ggX2_roomNumbered_X3_lowestRoom : GoodIn wsX2_roomNumbered wsX3_lowestRoom := goodIn_r _ [12, 13, 14, 11, 15, 16, 17, 18, 19, 20, 21] (by decide +kernel) (by decide +kernel)
set_option maxRecDepth 20000 in
theorem gX2_roomNumbered_X3_lowestRoom : GoodIn wsX2_roomNumbered (va_wsS RX2 156 yX3_lowestRoom wsX3_lowestRoom) := goodIn_app (goodIn_of _ (by decide +kernel)) ggX2_roomNumbered_X3_lowestRoom
theorem dX2_roomNumbered_0 : decode cX2_roomNumbered 0 = .ok (.aload_n 0, 1) := by decide +kernel
theorem dX2_roomNumbered_1 : decode cX2_roomNumbered 1 = .ok (.iload_n 1, 1) := by decide +kernel
theorem dX2_roomNumbered_2 : decode cX2_roomNumbered 2 = .ok (.invokevirtual 80, 3) := by decide +kernel
theorem dX2_roomNumbered_5 : decode cX2_roomNumbered 5 = .ok (.lstore_n 3, 1) := by decide +kernel
theorem dX2_roomNumbered_6 : decode cX2_roomNumbered 6 = .ok (.iconst 0, 1) := by decide +kernel
theorem dX2_roomNumbered_7 : decode cX2_roomNumbered 7 = .ok (.istore 5, 2) := by decide +kernel
theorem dX2_roomNumbered_9 : decode cX2_roomNumbered 9 = .ok (.iload 5, 2) := by decide +kernel
theorem dX2_roomNumbered_11 : decode cX2_roomNumbered 11 = .ok (.iload_n 2, 1) := by decide +kernel
theorem dX2_roomNumbered_12 : decode cX2_roomNumbered 12 = .ok (.if_icmp .ge 26, 3) := by decide +kernel
theorem dX2_roomNumbered_15 : decode cX2_roomNumbered 15 = .ok (.lload_n 3, 1) := by decide +kernel
theorem dX2_roomNumbered_16 : decode cX2_roomNumbered 16 = .ok (.lconst 0, 1) := by decide +kernel
theorem dX2_roomNumbered_17 : decode cX2_roomNumbered 17 = .ok (.lcmp, 1) := by decide +kernel
theorem dX2_roomNumbered_18 : decode cX2_roomNumbered 18 = .ok (.ifCond .eq 20, 3) := by decide +kernel
theorem dX2_roomNumbered_21 : decode cX2_roomNumbered 21 = .ok (.lload_n 3, 1) := by decide +kernel
theorem dX2_roomNumbered_22 : decode cX2_roomNumbered 22 = .ok (.lload_n 3, 1) := by decide +kernel
theorem dX2_roomNumbered_23 : decode cX2_roomNumbered 23 = .ok (.invokestatic 156, 3) := by decide +kernel
theorem dX2_roomNumbered_26 : decode cX2_roomNumbered 26 = .ok (.ldc2_w 18, 3) := by decide +kernel
theorem dX2_roomNumbered_29 : decode cX2_roomNumbered 29 = .ok (.lxor, 1) := by decide +kernel
theorem dX2_roomNumbered_30 : decode cX2_roomNumbered 30 = .ok (.land, 1) := by decide +kernel
theorem dX2_roomNumbered_31 : decode cX2_roomNumbered 31 = .ok (.lstore_n 3, 1) := by decide +kernel
theorem dX2_roomNumbered_32 : decode cX2_roomNumbered 32 = .ok (.iinc 5 1, 3) := by decide +kernel
theorem dX2_roomNumbered_35 : decode cX2_roomNumbered 35 = .ok (.goto (-26), 3) := by decide +kernel
theorem dX2_roomNumbered_38 : decode cX2_roomNumbered 38 = .ok (.iload_n 2, 1) := by decide +kernel
theorem dX2_roomNumbered_39 : decode cX2_roomNumbered 39 = .ok (.ifCond .ge 7, 3) := by decide +kernel
theorem dX2_roomNumbered_42 : decode cX2_roomNumbered 42 = .ok (.lconst 0, 1) := by decide +kernel
theorem dX2_roomNumbered_43 : decode cX2_roomNumbered 43 = .ok (.goto 7, 3) := by decide +kernel
theorem dX2_roomNumbered_46 : decode cX2_roomNumbered 46 = .ok (.lload_n 3, 1) := by decide +kernel
theorem dX2_roomNumbered_47 : decode cX2_roomNumbered 47 = .ok (.invokestatic 156, 3) := by decide +kernel
theorem dX2_roomNumbered_50 : decode cX2_roomNumbered 50 = .ok (.lreturn, 1) := by decide +kernel
set_option maxRecDepth 20000 in
theorem ggX2_roomNumberOf_X2_openTo : GoodIn wsX2_roomNumberOf wsX2_openTo := goodIn_ca (goodIn_r _ [6, 7, 8, 1, 25] (by decide +kernel) (by decide +kernel)) (goodIn_sub (fun _ h => List.mem_cons_of_mem _ (List.mem_append_right _ h)) (by decide +kernel))
set_option maxRecDepth 20000 in
theorem gX2_roomNumberOf_X2_openTo : GoodIn wsX2_roomNumberOf (wsV RX2 80 RX2 yX2_openTo wsX2_openTo) := goodIn_app (goodIn_of _ (by decide +kernel)) ggX2_roomNumberOf_X2_openTo
set_option maxRecDepth 20000 in
theorem ggX2_roomNumberOf_X3_has : GoodIn wsX2_roomNumberOf wsX3_has := goodIn_r _ [12] (by decide +kernel) (by decide +kernel)
set_option maxRecDepth 20000 in
theorem gX2_roomNumberOf_X3_has : GoodIn wsX2_roomNumberOf (va_wsS RX2 46 yX3_has wsX3_has) := goodIn_app (goodIn_of _ (by decide +kernel)) ggX2_roomNumberOf_X3_has
set_option maxRecDepth 20000 in
theorem ggX2_roomNumberOf_X3_lowestRoom : GoodIn wsX2_roomNumberOf wsX3_lowestRoom := goodIn_r _ [15, 16, 17, 11, 18, 19, 20, 21, 22, 23, 24] (by decide +kernel) (by decide +kernel)
set_option maxRecDepth 20000 in
theorem gX2_roomNumberOf_X3_lowestRoom : GoodIn wsX2_roomNumberOf (va_wsS RX2 156 yX3_lowestRoom wsX3_lowestRoom) := goodIn_app (goodIn_of _ (by decide +kernel)) ggX2_roomNumberOf_X3_lowestRoom
theorem dX2_roomNumberOf_0 : decode cX2_roomNumberOf 0 = .ok (.aload_n 0, 1) := by decide +kernel
theorem dX2_roomNumberOf_1 : decode cX2_roomNumberOf 1 = .ok (.iload_n 1, 1) := by decide +kernel
theorem dX2_roomNumberOf_2 : decode cX2_roomNumberOf 2 = .ok (.invokevirtual 80, 3) := by decide +kernel
theorem dX2_roomNumberOf_5 : decode cX2_roomNumberOf 5 = .ok (.lstore_n 3, 1) := by decide +kernel
theorem dX2_roomNumberOf_6 : decode cX2_roomNumberOf 6 = .ok (.iconst 0, 1) := by decide +kernel
theorem dX2_roomNumberOf_7 : decode cX2_roomNumberOf 7 = .ok (.istore 5, 2) := by decide +kernel
theorem dX2_roomNumberOf_9 : decode cX2_roomNumberOf 9 = .ok (.iload 5, 2) := by decide +kernel
theorem dX2_roomNumberOf_11 : decode cX2_roomNumberOf 11 = .ok (.bipush 36, 2) := by decide +kernel
theorem dX2_roomNumberOf_13 : decode cX2_roomNumberOf 13 = .ok (.if_icmp .ge 39, 3) := by decide +kernel
theorem dX2_roomNumberOf_16 : decode cX2_roomNumberOf 16 = .ok (.lload_n 3, 1) := by decide +kernel
theorem dX2_roomNumberOf_17 : decode cX2_roomNumberOf 17 = .ok (.iload_n 2, 1) := by decide +kernel
theorem dX2_roomNumberOf_18 : decode cX2_roomNumberOf 18 = .ok (.invokestatic 46, 3) := by decide +kernel
theorem dX2_roomNumberOf_21 : decode cX2_roomNumberOf 21 = .ok (.ifCond .eq 31, 3) := by decide +kernel
theorem dX2_roomNumberOf_24 : decode cX2_roomNumberOf 24 = .ok (.lload_n 3, 1) := by decide +kernel
theorem dX2_roomNumberOf_25 : decode cX2_roomNumberOf 25 = .ok (.lload_n 3, 1) := by decide +kernel
theorem dX2_roomNumberOf_26 : decode cX2_roomNumberOf 26 = .ok (.invokestatic 156, 3) := by decide +kernel
theorem dX2_roomNumberOf_29 : decode cX2_roomNumberOf 29 = .ok (.ldc2_w 18, 3) := by decide +kernel
theorem dX2_roomNumberOf_32 : decode cX2_roomNumberOf 32 = .ok (.lxor, 1) := by decide +kernel
theorem dX2_roomNumberOf_33 : decode cX2_roomNumberOf 33 = .ok (.land, 1) := by decide +kernel
theorem dX2_roomNumberOf_34 : decode cX2_roomNumberOf 34 = .ok (.lstore_n 3, 1) := by decide +kernel
theorem dX2_roomNumberOf_35 : decode cX2_roomNumberOf 35 = .ok (.lload_n 3, 1) := by decide +kernel
theorem dX2_roomNumberOf_36 : decode cX2_roomNumberOf 36 = .ok (.iload_n 2, 1) := by decide +kernel
theorem dX2_roomNumberOf_37 : decode cX2_roomNumberOf 37 = .ok (.invokestatic 46, 3) := by decide +kernel
theorem dX2_roomNumberOf_40 : decode cX2_roomNumberOf 40 = .ok (.ifCond .ne 6, 3) := by decide +kernel
theorem dX2_roomNumberOf_43 : decode cX2_roomNumberOf 43 = .ok (.iload 5, 2) := by decide +kernel
theorem dX2_roomNumberOf_45 : decode cX2_roomNumberOf 45 = .ok (.ireturn, 1) := by decide +kernel
theorem dX2_roomNumberOf_46 : decode cX2_roomNumberOf 46 = .ok (.iinc 5 1, 3) := by decide +kernel
theorem dX2_roomNumberOf_49 : decode cX2_roomNumberOf 49 = .ok (.goto (-40), 3) := by decide +kernel
theorem dX2_roomNumberOf_52 : decode cX2_roomNumberOf 52 = .ok (.iconst (-1), 1) := by decide +kernel
theorem dX2_roomNumberOf_53 : decode cX2_roomNumberOf 53 = .ok (.ireturn, 1) := by decide +kernel
set_option maxRecDepth 20000 in
theorem ggX2_countSealedByRooms_X2_openTo : GoodIn wsX2_countSealedByRooms wsX2_openTo := goodIn_ca (goodIn_r _ [6, 7, 8, 1, 36] (by decide +kernel) (by decide +kernel)) (goodIn_sub (fun _ h => List.mem_cons_of_mem _ (List.mem_append_right _ h)) (by decide +kernel))
set_option maxRecDepth 20000 in
theorem gX2_countSealedByRooms_X2_openTo : GoodIn wsX2_countSealedByRooms (wsV RX2 80 RX2 yX2_openTo wsX2_openTo) := goodIn_app (goodIn_of _ (by decide +kernel)) ggX2_countSealedByRooms_X2_openTo
set_option maxRecDepth 20000 in
theorem ggX2_countSealedByRooms_X3_lowestRoom : GoodIn wsX2_countSealedByRooms wsX3_lowestRoom := goodIn_r _ [12, 13, 14, 11, 15, 16, 17, 18, 19, 20, 21] (by decide +kernel) (by decide +kernel)
set_option maxRecDepth 20000 in
theorem gX2_countSealedByRooms_X3_lowestRoom : GoodIn wsX2_countSealedByRooms (va_wsS RX2 156 yX3_lowestRoom wsX3_lowestRoom) := goodIn_app (goodIn_of _ (by decide +kernel)) ggX2_countSealedByRooms_X3_lowestRoom
set_option maxRecDepth 20000 in
theorem ggX2_countSealedByRooms_X2_piecesOf : GoodIn wsX2_countSealedByRooms wsX2_piecesOf := goodIn_ca (goodIn_r _ [25, 7, 36] (by decide +kernel) (by decide +kernel)) (goodIn_sub (fun _ h => List.mem_cons_of_mem _ (List.mem_append_right _ h)) (by decide +kernel))
set_option maxRecDepth 20000 in
theorem gX2_countSealedByRooms_X2_piecesOf : GoodIn wsX2_countSealedByRooms (wsV RX2 56 RX2 yX2_piecesOf wsX2_piecesOf) := goodIn_app (goodIn_of _ (by decide +kernel)) ggX2_countSealedByRooms_X2_piecesOf
set_option maxRecDepth 20000 in
theorem ggX2_countSealedByRooms_X3_size : GoodIn wsX2_countSealedByRooms wsX3_size := goodIn_r _ [28, 29, 30, 31, 32, 33, 34, 35] (by decide +kernel) (by decide +kernel)
set_option maxRecDepth 20000 in
theorem gX2_countSealedByRooms_X3_size : GoodIn wsX2_countSealedByRooms (va_wsS RX2 111 yX3_size wsX3_size) := goodIn_app (goodIn_of _ (by decide +kernel)) ggX2_countSealedByRooms_X3_size
theorem dX2_countSealedByRooms_0 : decode cX2_countSealedByRooms 0 = .ok (.aload_n 0, 1) := by decide +kernel
theorem dX2_countSealedByRooms_1 : decode cX2_countSealedByRooms 1 = .ok (.iload_n 1, 1) := by decide +kernel
theorem dX2_countSealedByRooms_2 : decode cX2_countSealedByRooms 2 = .ok (.invokevirtual 80, 3) := by decide +kernel
theorem dX2_countSealedByRooms_5 : decode cX2_countSealedByRooms 5 = .ok (.lstore_n 2, 1) := by decide +kernel
theorem dX2_countSealedByRooms_6 : decode cX2_countSealedByRooms 6 = .ok (.iconst 0, 1) := by decide +kernel
theorem dX2_countSealedByRooms_7 : decode cX2_countSealedByRooms 7 = .ok (.istore 4, 2) := by decide +kernel
theorem dX2_countSealedByRooms_9 : decode cX2_countSealedByRooms 9 = .ok (.iconst 0, 1) := by decide +kernel
theorem dX2_countSealedByRooms_10 : decode cX2_countSealedByRooms 10 = .ok (.istore 5, 2) := by decide +kernel
theorem dX2_countSealedByRooms_12 : decode cX2_countSealedByRooms 12 = .ok (.iload 5, 2) := by decide +kernel
theorem dX2_countSealedByRooms_14 : decode cX2_countSealedByRooms 14 = .ok (.bipush 36, 2) := by decide +kernel
theorem dX2_countSealedByRooms_16 : decode cX2_countSealedByRooms 16 = .ok (.if_icmp .ge 53, 3) := by decide +kernel
theorem dX2_countSealedByRooms_19 : decode cX2_countSealedByRooms 19 = .ok (.lload_n 2, 1) := by decide +kernel
theorem dX2_countSealedByRooms_20 : decode cX2_countSealedByRooms 20 = .ok (.lconst 0, 1) := by decide +kernel
theorem dX2_countSealedByRooms_21 : decode cX2_countSealedByRooms 21 = .ok (.lcmp, 1) := by decide +kernel
theorem dX2_countSealedByRooms_22 : decode cX2_countSealedByRooms 22 = .ok (.ifCond .eq 47, 3) := by decide +kernel
theorem dX2_countSealedByRooms_25 : decode cX2_countSealedByRooms 25 = .ok (.lload_n 2, 1) := by decide +kernel
theorem dX2_countSealedByRooms_26 : decode cX2_countSealedByRooms 26 = .ok (.invokestatic 156, 3) := by decide +kernel
theorem dX2_countSealedByRooms_29 : decode cX2_countSealedByRooms 29 = .ok (.lstore 6, 2) := by decide +kernel
theorem dX2_countSealedByRooms_31 : decode cX2_countSealedByRooms 31 = .ok (.lload 6, 2) := by decide +kernel
theorem dX2_countSealedByRooms_33 : decode cX2_countSealedByRooms 33 = .ok (.aload_n 0, 1) := by decide +kernel
theorem dX2_countSealedByRooms_34 : decode cX2_countSealedByRooms 34 = .ok (.iload_n 1, 1) := by decide +kernel
theorem dX2_countSealedByRooms_35 : decode cX2_countSealedByRooms 35 = .ok (.invokevirtual 56, 3) := by decide +kernel
theorem dX2_countSealedByRooms_38 : decode cX2_countSealedByRooms 38 = .ok (.land, 1) := by decide +kernel
theorem dX2_countSealedByRooms_39 : decode cX2_countSealedByRooms 39 = .ok (.lconst 0, 1) := by decide +kernel
theorem dX2_countSealedByRooms_40 : decode cX2_countSealedByRooms 40 = .ok (.lcmp, 1) := by decide +kernel
theorem dX2_countSealedByRooms_41 : decode cX2_countSealedByRooms 41 = .ok (.ifCond .ne 13, 3) := by decide +kernel
theorem dX2_countSealedByRooms_44 : decode cX2_countSealedByRooms 44 = .ok (.iload 4, 2) := by decide +kernel
theorem dX2_countSealedByRooms_46 : decode cX2_countSealedByRooms 46 = .ok (.lload 6, 2) := by decide +kernel
theorem dX2_countSealedByRooms_48 : decode cX2_countSealedByRooms 48 = .ok (.invokestatic 111, 3) := by decide +kernel
theorem dX2_countSealedByRooms_51 : decode cX2_countSealedByRooms 51 = .ok (.iadd, 1) := by decide +kernel
theorem dX2_countSealedByRooms_52 : decode cX2_countSealedByRooms 52 = .ok (.istore 4, 2) := by decide +kernel
theorem dX2_countSealedByRooms_54 : decode cX2_countSealedByRooms 54 = .ok (.lload_n 2, 1) := by decide +kernel
theorem dX2_countSealedByRooms_55 : decode cX2_countSealedByRooms 55 = .ok (.lload 6, 2) := by decide +kernel
theorem dX2_countSealedByRooms_57 : decode cX2_countSealedByRooms 57 = .ok (.ldc2_w 18, 3) := by decide +kernel
theorem dX2_countSealedByRooms_60 : decode cX2_countSealedByRooms 60 = .ok (.lxor, 1) := by decide +kernel
theorem dX2_countSealedByRooms_61 : decode cX2_countSealedByRooms 61 = .ok (.land, 1) := by decide +kernel
theorem dX2_countSealedByRooms_62 : decode cX2_countSealedByRooms 62 = .ok (.lstore_n 2, 1) := by decide +kernel
theorem dX2_countSealedByRooms_63 : decode cX2_countSealedByRooms 63 = .ok (.iinc 5 1, 3) := by decide +kernel
theorem dX2_countSealedByRooms_66 : decode cX2_countSealedByRooms 66 = .ok (.goto (-54), 3) := by decide +kernel
theorem dX2_countSealedByRooms_69 : decode cX2_countSealedByRooms 69 = .ok (.iload 4, 2) := by decide +kernel
theorem dX2_countSealedByRooms_71 : decode cX2_countSealedByRooms 71 = .ok (.ireturn, 1) := by decide +kernel
set_option maxRecDepth 20000 in
theorem ggX2_countSealedByReach_X2_openTo : GoodIn wsX2_countSealedByReach wsX2_openTo := goodIn_ca (goodIn_r _ [6, 7, 8, 1, 33] (by decide +kernel) (by decide +kernel)) (goodIn_sub (fun _ h => List.mem_cons_of_mem _ (List.mem_append_right _ h)) (by decide +kernel))
set_option maxRecDepth 20000 in
theorem gX2_countSealedByReach_X2_openTo : GoodIn wsX2_countSealedByReach (wsV RX2 80 RX2 yX2_openTo wsX2_openTo) := goodIn_app (goodIn_of _ (by decide +kernel)) ggX2_countSealedByReach_X2_openTo
set_option maxRecDepth 20000 in
theorem ggX2_countSealedByReach_X2_piecesOf : GoodIn wsX2_countSealedByReach wsX2_piecesOf := goodIn_ca (goodIn_r _ [12, 7, 33] (by decide +kernel) (by decide +kernel)) (goodIn_sub (fun _ h => List.mem_cons_of_mem _ (List.mem_append_right _ h)) (by decide +kernel))
set_option maxRecDepth 20000 in
theorem gX2_countSealedByReach_X2_piecesOf : GoodIn wsX2_countSealedByReach (wsV RX2 56 RX2 yX2_piecesOf wsX2_piecesOf) := goodIn_app (goodIn_of _ (by decide +kernel)) ggX2_countSealedByReach_X2_piecesOf
set_option maxRecDepth 20000 in
theorem ggX2_countSealedByReach_X3_reached : GoodIn wsX2_countSealedByReach wsX3_reached := goodIn_r _ [16, 17, 18, 15, 19, 20, 21, 22] (by decide +kernel) (by decide +kernel)
set_option maxRecDepth 20000 in
theorem gX2_countSealedByReach_X3_reached : GoodIn wsX2_countSealedByReach (va_wsS RX2 159 yX3_reached wsX3_reached) := goodIn_app (goodIn_of _ (by decide +kernel)) ggX2_countSealedByReach_X3_reached
set_option maxRecDepth 20000 in
theorem ggX2_countSealedByReach_X3_size : GoodIn wsX2_countSealedByReach wsX3_size := goodIn_r _ [25, 26, 27, 28, 29, 30, 31, 32] (by decide +kernel) (by decide +kernel)
set_option maxRecDepth 20000 in
theorem gX2_countSealedByReach_X3_size : GoodIn wsX2_countSealedByReach (va_wsS RX2 111 yX3_size wsX3_size) := goodIn_app (goodIn_of _ (by decide +kernel)) ggX2_countSealedByReach_X3_size
theorem dX2_countSealedByReach_0 : decode cX2_countSealedByReach 0 = .ok (.aload_n 0, 1) := by decide +kernel
theorem dX2_countSealedByReach_1 : decode cX2_countSealedByReach 1 = .ok (.iload_n 1, 1) := by decide +kernel
theorem dX2_countSealedByReach_2 : decode cX2_countSealedByReach 2 = .ok (.invokevirtual 80, 3) := by decide +kernel
theorem dX2_countSealedByReach_5 : decode cX2_countSealedByReach 5 = .ok (.lstore_n 2, 1) := by decide +kernel
theorem dX2_countSealedByReach_6 : decode cX2_countSealedByReach 6 = .ok (.lload_n 2, 1) := by decide +kernel
theorem dX2_countSealedByReach_7 : decode cX2_countSealedByReach 7 = .ok (.aload_n 0, 1) := by decide +kernel
theorem dX2_countSealedByReach_8 : decode cX2_countSealedByReach 8 = .ok (.iload_n 1, 1) := by decide +kernel
theorem dX2_countSealedByReach_9 : decode cX2_countSealedByReach 9 = .ok (.invokevirtual 56, 3) := by decide +kernel
theorem dX2_countSealedByReach_12 : decode cX2_countSealedByReach 12 = .ok (.lload_n 2, 1) := by decide +kernel
theorem dX2_countSealedByReach_13 : decode cX2_countSealedByReach 13 = .ok (.invokestatic 159, 3) := by decide +kernel
theorem dX2_countSealedByReach_16 : decode cX2_countSealedByReach 16 = .ok (.ldc2_w 18, 3) := by decide +kernel
theorem dX2_countSealedByReach_19 : decode cX2_countSealedByReach 19 = .ok (.lxor, 1) := by decide +kernel
theorem dX2_countSealedByReach_20 : decode cX2_countSealedByReach 20 = .ok (.land, 1) := by decide +kernel
theorem dX2_countSealedByReach_21 : decode cX2_countSealedByReach 21 = .ok (.invokestatic 111, 3) := by decide +kernel
theorem dX2_countSealedByReach_24 : decode cX2_countSealedByReach 24 = .ok (.ireturn, 1) := by decide +kernel
set_option maxRecDepth 20000 in
theorem ggX2_countStepsTo_X2_openTo : GoodIn wsX2_countStepsTo wsX2_openTo := goodIn_ca (goodIn_r _ [5, 6, 7, 8, 23] (by decide +kernel) (by decide +kernel)) (goodIn_sub (fun _ h => List.mem_cons_of_mem _ (List.mem_append_right _ h)) (by decide +kernel))
set_option maxRecDepth 20000 in
theorem gX2_countStepsTo_X2_openTo : GoodIn wsX2_countStepsTo (wsV RX2 80 RX2 yX2_openTo wsX2_openTo) := goodIn_app (goodIn_of _ (by decide +kernel)) ggX2_countStepsTo_X2_openTo
set_option maxRecDepth 20000 in
theorem ggX2_countStepsTo_X2_piecesOf : GoodIn wsX2_countStepsTo wsX2_piecesOf := goodIn_ca (goodIn_r _ [12, 6, 23] (by decide +kernel) (by decide +kernel)) (goodIn_sub (fun _ h => List.mem_cons_of_mem _ (List.mem_append_right _ h)) (by decide +kernel))
set_option maxRecDepth 20000 in
theorem gX2_countStepsTo_X2_piecesOf : GoodIn wsX2_countStepsTo (wsV RX2 56 RX2 yX2_piecesOf wsX2_piecesOf) := goodIn_app (goodIn_of _ (by decide +kernel)) ggX2_countStepsTo_X2_piecesOf
set_option maxRecDepth 20000 in
theorem ggX2_countStepsTo_X3_has : GoodIn wsX2_countStepsTo wsX3_has := goodIn_r _ [16] (by decide +kernel) (by decide +kernel)
set_option maxRecDepth 20000 in
theorem gX2_countStepsTo_X3_has : GoodIn wsX2_countStepsTo (va_wsS RX2 46 yX3_has wsX3_has) := goodIn_app (goodIn_of _ (by decide +kernel)) ggX2_countStepsTo_X3_has
set_option maxRecDepth 20000 in
theorem ggX2_countStepsTo_X3_around : GoodIn wsX2_countStepsTo wsX3_around := goodIn_r _ [19, 20, 21, 22] (by decide +kernel) (by decide +kernel)
set_option maxRecDepth 20000 in
theorem gX2_countStepsTo_X3_around : GoodIn wsX2_countStepsTo (va_wsS RX2 94 yX3_around wsX3_around) := goodIn_app (goodIn_of _ (by decide +kernel)) ggX2_countStepsTo_X3_around
theorem dX2_countStepsTo_0 : decode cX2_countStepsTo 0 = .ok (.aload_n 0, 1) := by decide +kernel
theorem dX2_countStepsTo_1 : decode cX2_countStepsTo 1 = .ok (.iload_n 1, 1) := by decide +kernel
theorem dX2_countStepsTo_2 : decode cX2_countStepsTo 2 = .ok (.invokevirtual 80, 3) := by decide +kernel
theorem dX2_countStepsTo_5 : decode cX2_countStepsTo 5 = .ok (.lstore_n 3, 1) := by decide +kernel
theorem dX2_countStepsTo_6 : decode cX2_countStepsTo 6 = .ok (.aload_n 0, 1) := by decide +kernel
theorem dX2_countStepsTo_7 : decode cX2_countStepsTo 7 = .ok (.iload_n 1, 1) := by decide +kernel
theorem dX2_countStepsTo_8 : decode cX2_countStepsTo 8 = .ok (.invokevirtual 56, 3) := by decide +kernel
theorem dX2_countStepsTo_11 : decode cX2_countStepsTo 11 = .ok (.lload_n 3, 1) := by decide +kernel
theorem dX2_countStepsTo_12 : decode cX2_countStepsTo 12 = .ok (.land, 1) := by decide +kernel
theorem dX2_countStepsTo_13 : decode cX2_countStepsTo 13 = .ok (.lstore 5, 2) := by decide +kernel
theorem dX2_countStepsTo_15 : decode cX2_countStepsTo 15 = .ok (.iconst 0, 1) := by decide +kernel
theorem dX2_countStepsTo_16 : decode cX2_countStepsTo 16 = .ok (.istore 7, 2) := by decide +kernel
theorem dX2_countStepsTo_18 : decode cX2_countStepsTo 18 = .ok (.iload 7, 2) := by decide +kernel
theorem dX2_countStepsTo_20 : decode cX2_countStepsTo 20 = .ok (.bipush 36, 2) := by decide +kernel
theorem dX2_countStepsTo_22 : decode cX2_countStepsTo 22 = .ok (.if_icmp .ge 33, 3) := by decide +kernel
theorem dX2_countStepsTo_25 : decode cX2_countStepsTo 25 = .ok (.lload 5, 2) := by decide +kernel
theorem dX2_countStepsTo_27 : decode cX2_countStepsTo 27 = .ok (.iload_n 2, 1) := by decide +kernel
theorem dX2_countStepsTo_28 : decode cX2_countStepsTo 28 = .ok (.invokestatic 46, 3) := by decide +kernel
theorem dX2_countStepsTo_31 : decode cX2_countStepsTo 31 = .ok (.ifCond .eq 6, 3) := by decide +kernel
theorem dX2_countStepsTo_34 : decode cX2_countStepsTo 34 = .ok (.iload 7, 2) := by decide +kernel
theorem dX2_countStepsTo_36 : decode cX2_countStepsTo 36 = .ok (.ireturn, 1) := by decide +kernel
theorem dX2_countStepsTo_37 : decode cX2_countStepsTo 37 = .ok (.lload 5, 2) := by decide +kernel
theorem dX2_countStepsTo_39 : decode cX2_countStepsTo 39 = .ok (.lload 5, 2) := by decide +kernel
theorem dX2_countStepsTo_41 : decode cX2_countStepsTo 41 = .ok (.invokestatic 94, 3) := by decide +kernel
theorem dX2_countStepsTo_44 : decode cX2_countStepsTo 44 = .ok (.lload_n 3, 1) := by decide +kernel
theorem dX2_countStepsTo_45 : decode cX2_countStepsTo 45 = .ok (.land, 1) := by decide +kernel
theorem dX2_countStepsTo_46 : decode cX2_countStepsTo 46 = .ok (.lor, 1) := by decide +kernel
theorem dX2_countStepsTo_47 : decode cX2_countStepsTo 47 = .ok (.lstore 5, 2) := by decide +kernel
theorem dX2_countStepsTo_49 : decode cX2_countStepsTo 49 = .ok (.iinc 7 1, 3) := by decide +kernel
theorem dX2_countStepsTo_52 : decode cX2_countStepsTo 52 = .ok (.goto (-34), 3) := by decide +kernel
theorem dX2_countStepsTo_55 : decode cX2_countStepsTo 55 = .ok (.iconst (-1), 1) := by decide +kernel
theorem dX2_countStepsTo_56 : decode cX2_countStepsTo 56 = .ok (.ireturn, 1) := by decide +kernel

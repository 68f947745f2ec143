theorem dX3_of_0 : decode cX3_of 0 = .ok (.iload_n 0, 1) := by decide +kernel
theorem dX3_of_1 : decode cX3_of 1 = .ok (.ifCond .lt 15, 3) := by decide +kernel
theorem dX3_of_4 : decode cX3_of 4 = .ok (.iload_n 0, 1) := by decide +kernel
theorem dX3_of_5 : decode cX3_of 5 = .ok (.bipush 36, 2) := by decide +kernel
theorem dX3_of_7 : decode cX3_of 7 = .ok (.if_icmp .ge 9, 3) := by decide +kernel
theorem dX3_of_10 : decode cX3_of 10 = .ok (.lconst 1, 1) := by decide +kernel
theorem dX3_of_11 : decode cX3_of 11 = .ok (.iload_n 0, 1) := by decide +kernel
theorem dX3_of_12 : decode cX3_of 12 = .ok (.lshl, 1) := by decide +kernel
theorem dX3_of_13 : decode cX3_of 13 = .ok (.goto 4, 3) := by decide +kernel
theorem dX3_of_16 : decode cX3_of 16 = .ok (.lconst 0, 1) := by decide +kernel
theorem dX3_of_17 : decode cX3_of 17 = .ok (.lreturn, 1) := by decide +kernel
theorem dX3_has_0 : decode cX3_has 0 = .ok (.iload_n 2, 1) := by decide +kernel
theorem dX3_has_1 : decode cX3_has 1 = .ok (.ifCond .lt 23, 3) := by decide +kernel
theorem dX3_has_4 : decode cX3_has 4 = .ok (.iload_n 2, 1) := by decide +kernel
theorem dX3_has_5 : decode cX3_has 5 = .ok (.bipush 36, 2) := by decide +kernel
theorem dX3_has_7 : decode cX3_has 7 = .ok (.if_icmp .ge 17, 3) := by decide +kernel
theorem dX3_has_10 : decode cX3_has 10 = .ok (.lload_n 0, 1) := by decide +kernel
theorem dX3_has_11 : decode cX3_has 11 = .ok (.iload_n 2, 1) := by decide +kernel
theorem dX3_has_12 : decode cX3_has 12 = .ok (.lushr, 1) := by decide +kernel
theorem dX3_has_13 : decode cX3_has 13 = .ok (.lconst 1, 1) := by decide +kernel
theorem dX3_has_14 : decode cX3_has 14 = .ok (.land, 1) := by decide +kernel
theorem dX3_has_15 : decode cX3_has 15 = .ok (.lconst 0, 1) := by decide +kernel
theorem dX3_has_16 : decode cX3_has 16 = .ok (.lcmp, 1) := by decide +kernel
theorem dX3_has_17 : decode cX3_has 17 = .ok (.ifCond .eq 7, 3) := by decide +kernel
theorem dX3_has_20 : decode cX3_has 20 = .ok (.iconst 1, 1) := by decide +kernel
theorem dX3_has_21 : decode cX3_has 21 = .ok (.goto 4, 3) := by decide +kernel
theorem dX3_has_24 : decode cX3_has 24 = .ok (.iconst 0, 1) := by decide +kernel
theorem dX3_has_25 : decode cX3_has 25 = .ok (.ireturn, 1) := by decide +kernel
set_option maxRecDepth 20000 in
theorem ggX3_size_J13_bitCount_95d88 : GoodIn wsX3_size wsJ13_bitCount_95d88 := goodIn_r _ [4, 5, 6, 7] (by decide +kernel) (by decide +kernel)
set_option maxRecDepth 20000 in
theorem gX3_size_J13_bitCount_95d88 : GoodIn wsX3_size (va_wsS RX3 11 yJ13_bitCount_95d88 wsJ13_bitCount_95d88) := goodIn_app (goodIn_of _ (by decide +kernel)) ggX3_size_J13_bitCount_95d88
theorem dX3_size_0 : decode cX3_size 0 = .ok (.lload_n 0, 1) := by decide +kernel
theorem dX3_size_1 : decode cX3_size 1 = .ok (.invokestatic 11, 3) := by decide +kernel
theorem dX3_size_4 : decode cX3_size 4 = .ok (.ireturn, 1) := by decide +kernel
set_option maxRecDepth 20000 in
theorem ggX3_lowest_J13_bitCount_95d88 : GoodIn wsX3_lowest wsJ13_bitCount_95d88 := goodIn_r _ [4, 5, 6, 7] (by decide +kernel) (by decide +kernel)
set_option maxRecDepth 20000 in
theorem gX3_lowest_J13_bitCount_95d88 : GoodIn wsX3_lowest (va_wsS RX3 11 yJ13_bitCount_95d88 wsJ13_bitCount_95d88) := goodIn_app (goodIn_of _ (by decide +kernel)) ggX3_lowest_J13_bitCount_95d88
theorem dX3_lowest_0 : decode cX3_lowest 0 = .ok (.lload_n 0, 1) := by decide +kernel
theorem dX3_lowest_1 : decode cX3_lowest 1 = .ok (.lconst 0, 1) := by decide +kernel
theorem dX3_lowest_2 : decode cX3_lowest 2 = .ok (.lcmp, 1) := by decide +kernel
theorem dX3_lowest_3 : decode cX3_lowest 3 = .ok (.ifCond .ne 7, 3) := by decide +kernel
theorem dX3_lowest_6 : decode cX3_lowest 6 = .ok (.iconst (-1), 1) := by decide +kernel
theorem dX3_lowest_7 : decode cX3_lowest 7 = .ok (.goto 12, 3) := by decide +kernel
theorem dX3_lowest_10 : decode cX3_lowest 10 = .ok (.lload_n 0, 1) := by decide +kernel
theorem dX3_lowest_11 : decode cX3_lowest 11 = .ok (.lload_n 0, 1) := by decide +kernel
theorem dX3_lowest_12 : decode cX3_lowest 12 = .ok (.lneg, 1) := by decide +kernel
theorem dX3_lowest_13 : decode cX3_lowest 13 = .ok (.land, 1) := by decide +kernel
theorem dX3_lowest_14 : decode cX3_lowest 14 = .ok (.lconst 1, 1) := by decide +kernel
theorem dX3_lowest_15 : decode cX3_lowest 15 = .ok (.lsub, 1) := by decide +kernel
theorem dX3_lowest_16 : decode cX3_lowest 16 = .ok (.invokestatic 11, 3) := by decide +kernel
theorem dX3_lowest_19 : decode cX3_lowest 19 = .ok (.ireturn, 1) := by decide +kernel
set_option maxRecDepth 20000 in
theorem ggX3_lowestRoom_X3_reached : GoodIn wsX3_lowestRoom wsX3_reached := goodIn_r _ [4, 5, 6, 3, 7, 8, 9, 10] (by decide +kernel) (by decide +kernel)
set_option maxRecDepth 20000 in
theorem gX3_lowestRoom_X3_reached : GoodIn wsX3_lowestRoom (va_wsS RX3 17 yX3_reached wsX3_reached) := goodIn_app (goodIn_of _ (by decide +kernel)) ggX3_lowestRoom_X3_reached
theorem dX3_lowestRoom_0 : decode cX3_lowestRoom 0 = .ok (.lload_n 0, 1) := by decide +kernel
theorem dX3_lowestRoom_1 : decode cX3_lowestRoom 1 = .ok (.lload_n 0, 1) := by decide +kernel
theorem dX3_lowestRoom_2 : decode cX3_lowestRoom 2 = .ok (.lneg, 1) := by decide +kernel
theorem dX3_lowestRoom_3 : decode cX3_lowestRoom 3 = .ok (.land, 1) := by decide +kernel
theorem dX3_lowestRoom_4 : decode cX3_lowestRoom 4 = .ok (.lload_n 0, 1) := by decide +kernel
theorem dX3_lowestRoom_5 : decode cX3_lowestRoom 5 = .ok (.invokestatic 17, 3) := by decide +kernel
theorem dX3_lowestRoom_8 : decode cX3_lowestRoom 8 = .ok (.lreturn, 1) := by decide +kernel
theorem dX3_stepped_0 : decode cX3_stepped 0 = .ok (.iload_n 2, 1) := by decide +kernel
theorem dX3_stepped_1 : decode cX3_stepped 1 = .ok (.tableswitch 48 0 2 #[27, 32, 40], 27) := by decide +kernel
theorem dX3_stepped_28 : decode cX3_stepped 28 = .ok (.lload_n 0, 1) := by decide +kernel
theorem dX3_stepped_29 : decode cX3_stepped 29 = .ok (.bipush 6, 2) := by decide +kernel
theorem dX3_stepped_31 : decode cX3_stepped 31 = .ok (.lushr, 1) := by decide +kernel
theorem dX3_stepped_32 : decode cX3_stepped 32 = .ok (.lreturn, 1) := by decide +kernel
theorem dX3_stepped_33 : decode cX3_stepped 33 = .ok (.lload_n 0, 1) := by decide +kernel
theorem dX3_stepped_34 : decode cX3_stepped 34 = .ok (.ldc2_w 21, 3) := by decide +kernel
theorem dX3_stepped_37 : decode cX3_stepped 37 = .ok (.land, 1) := by decide +kernel
theorem dX3_stepped_38 : decode cX3_stepped 38 = .ok (.iconst 1, 1) := by decide +kernel
theorem dX3_stepped_39 : decode cX3_stepped 39 = .ok (.lushr, 1) := by decide +kernel
theorem dX3_stepped_40 : decode cX3_stepped 40 = .ok (.lreturn, 1) := by decide +kernel
theorem dX3_stepped_41 : decode cX3_stepped 41 = .ok (.lload_n 0, 1) := by decide +kernel
theorem dX3_stepped_42 : decode cX3_stepped 42 = .ok (.ldc2_w 23, 3) := by decide +kernel
theorem dX3_stepped_45 : decode cX3_stepped 45 = .ok (.land, 1) := by decide +kernel
theorem dX3_stepped_46 : decode cX3_stepped 46 = .ok (.iconst 1, 1) := by decide +kernel
theorem dX3_stepped_47 : decode cX3_stepped 47 = .ok (.lshl, 1) := by decide +kernel
theorem dX3_stepped_48 : decode cX3_stepped 48 = .ok (.lreturn, 1) := by decide +kernel
theorem dX3_stepped_49 : decode cX3_stepped 49 = .ok (.lload_n 0, 1) := by decide +kernel
theorem dX3_stepped_50 : decode cX3_stepped 50 = .ok (.bipush 6, 2) := by decide +kernel
theorem dX3_stepped_52 : decode cX3_stepped 52 = .ok (.lshl, 1) := by decide +kernel
theorem dX3_stepped_53 : decode cX3_stepped 53 = .ok (.ldc2_w 25, 3) := by decide +kernel
theorem dX3_stepped_56 : decode cX3_stepped 56 = .ok (.land, 1) := by decide +kernel
theorem dX3_stepped_57 : decode cX3_stepped 57 = .ok (.lreturn, 1) := by decide +kernel
theorem dX3_around_0 : decode cX3_around 0 = .ok (.lload_n 0, 1) := by decide +kernel
theorem dX3_around_1 : decode cX3_around 1 = .ok (.bipush 6, 2) := by decide +kernel
theorem dX3_around_3 : decode cX3_around 3 = .ok (.lushr, 1) := by decide +kernel
theorem dX3_around_4 : decode cX3_around 4 = .ok (.lstore_n 2, 1) := by decide +kernel
theorem dX3_around_5 : decode cX3_around 5 = .ok (.lload_n 0, 1) := by decide +kernel
theorem dX3_around_6 : decode cX3_around 6 = .ok (.ldc2_w 21, 3) := by decide +kernel
theorem dX3_around_9 : decode cX3_around 9 = .ok (.land, 1) := by decide +kernel
theorem dX3_around_10 : decode cX3_around 10 = .ok (.iconst 1, 1) := by decide +kernel
theorem dX3_around_11 : decode cX3_around 11 = .ok (.lushr, 1) := by decide +kernel
theorem dX3_around_12 : decode cX3_around 12 = .ok (.lstore 4, 2) := by decide +kernel
theorem dX3_around_14 : decode cX3_around 14 = .ok (.lload_n 0, 1) := by decide +kernel
theorem dX3_around_15 : decode cX3_around 15 = .ok (.ldc2_w 23, 3) := by decide +kernel
theorem dX3_around_18 : decode cX3_around 18 = .ok (.land, 1) := by decide +kernel
theorem dX3_around_19 : decode cX3_around 19 = .ok (.iconst 1, 1) := by decide +kernel
theorem dX3_around_20 : decode cX3_around 20 = .ok (.lshl, 1) := by decide +kernel
theorem dX3_around_21 : decode cX3_around 21 = .ok (.lstore 6, 2) := by decide +kernel
theorem dX3_around_23 : decode cX3_around 23 = .ok (.lload_n 0, 1) := by decide +kernel
theorem dX3_around_24 : decode cX3_around 24 = .ok (.bipush 6, 2) := by decide +kernel
theorem dX3_around_26 : decode cX3_around 26 = .ok (.lshl, 1) := by decide +kernel
theorem dX3_around_27 : decode cX3_around 27 = .ok (.ldc2_w 25, 3) := by decide +kernel
theorem dX3_around_30 : decode cX3_around 30 = .ok (.land, 1) := by decide +kernel
theorem dX3_around_31 : decode cX3_around 31 = .ok (.lstore 8, 2) := by decide +kernel
theorem dX3_around_33 : decode cX3_around 33 = .ok (.lload_n 2, 1) := by decide +kernel
theorem dX3_around_34 : decode cX3_around 34 = .ok (.lload 4, 2) := by decide +kernel
theorem dX3_around_36 : decode cX3_around 36 = .ok (.lor, 1) := by decide +kernel
theorem dX3_around_37 : decode cX3_around 37 = .ok (.lload 6, 2) := by decide +kernel
theorem dX3_around_39 : decode cX3_around 39 = .ok (.lor, 1) := by decide +kernel
theorem dX3_around_40 : decode cX3_around 40 = .ok (.lload 8, 2) := by decide +kernel
theorem dX3_around_42 : decode cX3_around 42 = .ok (.lor, 1) := by decide +kernel
theorem dX3_around_43 : decode cX3_around 43 = .ok (.lreturn, 1) := by decide +kernel
set_option maxRecDepth 20000 in
theorem ggX3_reached_X3_around : GoodIn wsX3_reached wsX3_around := goodIn_r _ [4, 5, 6, 7] (by decide +kernel) (by decide +kernel)
set_option maxRecDepth 20000 in
theorem gX3_reached_X3_around : GoodIn wsX3_reached (va_wsS RX3 27 yX3_around wsX3_around) := goodIn_app (goodIn_of _ (by decide +kernel)) ggX3_reached_X3_around
theorem dX3_reached_0 : decode cX3_reached 0 = .ok (.lload_n 0, 1) := by decide +kernel
theorem dX3_reached_1 : decode cX3_reached 1 = .ok (.lload_n 2, 1) := by decide +kernel
theorem dX3_reached_2 : decode cX3_reached 2 = .ok (.land, 1) := by decide +kernel
theorem dX3_reached_3 : decode cX3_reached 3 = .ok (.lstore 4, 2) := by decide +kernel
theorem dX3_reached_5 : decode cX3_reached 5 = .ok (.iconst 0, 1) := by decide +kernel
theorem dX3_reached_6 : decode cX3_reached 6 = .ok (.istore 6, 2) := by decide +kernel
theorem dX3_reached_8 : decode cX3_reached 8 = .ok (.iload 6, 2) := by decide +kernel
theorem dX3_reached_10 : decode cX3_reached 10 = .ok (.bipush 36, 2) := by decide +kernel
theorem dX3_reached_12 : decode cX3_reached 12 = .ok (.if_icmp .ge 36, 3) := by decide +kernel
theorem dX3_reached_15 : decode cX3_reached 15 = .ok (.lload 4, 2) := by decide +kernel
theorem dX3_reached_17 : decode cX3_reached 17 = .ok (.lload 4, 2) := by decide +kernel
theorem dX3_reached_19 : decode cX3_reached 19 = .ok (.invokestatic 27, 3) := by decide +kernel
theorem dX3_reached_22 : decode cX3_reached 22 = .ok (.lor, 1) := by decide +kernel
theorem dX3_reached_23 : decode cX3_reached 23 = .ok (.lload_n 2, 1) := by decide +kernel
theorem dX3_reached_24 : decode cX3_reached 24 = .ok (.land, 1) := by decide +kernel
theorem dX3_reached_25 : decode cX3_reached 25 = .ok (.lstore 7, 2) := by decide +kernel
theorem dX3_reached_27 : decode cX3_reached 27 = .ok (.lload 7, 2) := by decide +kernel
theorem dX3_reached_29 : decode cX3_reached 29 = .ok (.lload 4, 2) := by decide +kernel
theorem dX3_reached_31 : decode cX3_reached 31 = .ok (.lcmp, 1) := by decide +kernel
theorem dX3_reached_32 : decode cX3_reached 32 = .ok (.ifCond .ne 6, 3) := by decide +kernel
theorem dX3_reached_35 : decode cX3_reached 35 = .ok (.lload 4, 2) := by decide +kernel
theorem dX3_reached_37 : decode cX3_reached 37 = .ok (.lreturn, 1) := by decide +kernel
theorem dX3_reached_38 : decode cX3_reached 38 = .ok (.lload 7, 2) := by decide +kernel
theorem dX3_reached_40 : decode cX3_reached 40 = .ok (.lstore 4, 2) := by decide +kernel
theorem dX3_reached_42 : decode cX3_reached 42 = .ok (.iinc 6 1, 3) := by decide +kernel
theorem dX3_reached_45 : decode cX3_reached 45 = .ok (.goto (-37), 3) := by decide +kernel
theorem dX3_reached_48 : decode cX3_reached 48 = .ok (.lload 4, 2) := by decide +kernel
theorem dX3_reached_50 : decode cX3_reached 50 = .ok (.lreturn, 1) := by decide +kernel
set_option maxRecDepth 20000 in
theorem ggX3_alongLines_X3_stepped : GoodIn wsX3_alongLines wsX3_stepped := goodIn_r _ [4, 5, 6, 7] (by decide +kernel) (by decide +kernel)
set_option maxRecDepth 20000 in
theorem gX3_alongLines_X3_stepped : GoodIn wsX3_alongLines (va_wsS RX3 31 yX3_stepped wsX3_stepped) := goodIn_app (goodIn_of _ (by decide +kernel)) ggX3_alongLines_X3_stepped
theorem dX3_alongLines_0 : decode cX3_alongLines 0 = .ok (.lconst 0, 1) := by decide +kernel
theorem dX3_alongLines_1 : decode cX3_alongLines 1 = .ok (.lstore 4, 2) := by decide +kernel
theorem dX3_alongLines_3 : decode cX3_alongLines 3 = .ok (.iconst 0, 1) := by decide +kernel
theorem dX3_alongLines_4 : decode cX3_alongLines 4 = .ok (.istore 6, 2) := by decide +kernel
theorem dX3_alongLines_6 : decode cX3_alongLines 6 = .ok (.iload 6, 2) := by decide +kernel
theorem dX3_alongLines_8 : decode cX3_alongLines 8 = .ok (.iconst 4, 1) := by decide +kernel
theorem dX3_alongLines_9 : decode cX3_alongLines 9 = .ok (.if_icmp .ge 60, 3) := by decide +kernel
theorem dX3_alongLines_12 : decode cX3_alongLines 12 = .ok (.lload_n 0, 1) := by decide +kernel
theorem dX3_alongLines_13 : decode cX3_alongLines 13 = .ok (.iload 6, 2) := by decide +kernel
theorem dX3_alongLines_15 : decode cX3_alongLines 15 = .ok (.invokestatic 31, 3) := by decide +kernel
theorem dX3_alongLines_18 : decode cX3_alongLines 18 = .ok (.lload_n 2, 1) := by decide +kernel
theorem dX3_alongLines_19 : decode cX3_alongLines 19 = .ok (.land, 1) := by decide +kernel
theorem dX3_alongLines_20 : decode cX3_alongLines 20 = .ok (.lstore 7, 2) := by decide +kernel
theorem dX3_alongLines_22 : decode cX3_alongLines 22 = .ok (.iconst 1, 1) := by decide +kernel
theorem dX3_alongLines_23 : decode cX3_alongLines 23 = .ok (.istore 9, 2) := by decide +kernel
theorem dX3_alongLines_25 : decode cX3_alongLines 25 = .ok (.iload 9, 2) := by decide +kernel
theorem dX3_alongLines_27 : decode cX3_alongLines 27 = .ok (.bipush 6, 2) := by decide +kernel
theorem dX3_alongLines_29 : decode cX3_alongLines 29 = .ok (.if_icmp .ge 34, 3) := by decide +kernel
theorem dX3_alongLines_32 : decode cX3_alongLines 32 = .ok (.lload 7, 2) := by decide +kernel
theorem dX3_alongLines_34 : decode cX3_alongLines 34 = .ok (.lconst 0, 1) := by decide +kernel
theorem dX3_alongLines_35 : decode cX3_alongLines 35 = .ok (.lcmp, 1) := by decide +kernel
theorem dX3_alongLines_36 : decode cX3_alongLines 36 = .ok (.ifCond .eq 27, 3) := by decide +kernel
theorem dX3_alongLines_39 : decode cX3_alongLines 39 = .ok (.lload 4, 2) := by decide +kernel
theorem dX3_alongLines_41 : decode cX3_alongLines 41 = .ok (.lload 7, 2) := by decide +kernel
theorem dX3_alongLines_43 : decode cX3_alongLines 43 = .ok (.lor, 1) := by decide +kernel
theorem dX3_alongLines_44 : decode cX3_alongLines 44 = .ok (.lstore 4, 2) := by decide +kernel
theorem dX3_alongLines_46 : decode cX3_alongLines 46 = .ok (.lload 7, 2) := by decide +kernel
theorem dX3_alongLines_48 : decode cX3_alongLines 48 = .ok (.iload 6, 2) := by decide +kernel
theorem dX3_alongLines_50 : decode cX3_alongLines 50 = .ok (.invokestatic 31, 3) := by decide +kernel
theorem dX3_alongLines_53 : decode cX3_alongLines 53 = .ok (.lload_n 2, 1) := by decide +kernel
theorem dX3_alongLines_54 : decode cX3_alongLines 54 = .ok (.land, 1) := by decide +kernel
theorem dX3_alongLines_55 : decode cX3_alongLines 55 = .ok (.lstore 7, 2) := by decide +kernel
theorem dX3_alongLines_57 : decode cX3_alongLines 57 = .ok (.iinc 9 1, 3) := by decide +kernel
theorem dX3_alongLines_60 : decode cX3_alongLines 60 = .ok (.goto (-35), 3) := by decide +kernel
theorem dX3_alongLines_63 : decode cX3_alongLines 63 = .ok (.iinc 6 1, 3) := by decide +kernel
theorem dX3_alongLines_66 : decode cX3_alongLines 66 = .ok (.goto (-60), 3) := by decide +kernel
theorem dX3_alongLines_69 : decode cX3_alongLines 69 = .ok (.lload 4, 2) := by decide +kernel
theorem dX3_alongLines_71 : decode cX3_alongLines 71 = .ok (.lreturn, 1) := by decide +kernel
set_option maxRecDepth 20000 in
theorem ggX3_byWalking_X3_around : GoodIn wsX3_byWalking wsX3_around := goodIn_r _ [4, 5, 6, 7] (by decide +kernel) (by decide +kernel)
set_option maxRecDepth 20000 in
theorem gX3_byWalking_X3_around : GoodIn wsX3_byWalking (va_wsS RX3 27 yX3_around wsX3_around) := goodIn_app (goodIn_of _ (by decide +kernel)) ggX3_byWalking_X3_around
theorem dX3_byWalking_0 : decode cX3_byWalking 0 = .ok (.lload_n 0, 1) := by decide +kernel
theorem dX3_byWalking_1 : decode cX3_byWalking 1 = .ok (.invokestatic 27, 3) := by decide +kernel
theorem dX3_byWalking_4 : decode cX3_byWalking 4 = .ok (.lload_n 2, 1) := by decide +kernel
theorem dX3_byWalking_5 : decode cX3_byWalking 5 = .ok (.land, 1) := by decide +kernel
theorem dX3_byWalking_6 : decode cX3_byWalking 6 = .ok (.lstore 5, 2) := by decide +kernel
theorem dX3_byWalking_8 : decode cX3_byWalking 8 = .ok (.iconst 1, 1) := by decide +kernel
theorem dX3_byWalking_9 : decode cX3_byWalking 9 = .ok (.istore 7, 2) := by decide +kernel
theorem dX3_byWalking_11 : decode cX3_byWalking 11 = .ok (.iload 7, 2) := by decide +kernel
theorem dX3_byWalking_13 : decode cX3_byWalking 13 = .ok (.iload 4, 2) := by decide +kernel
theorem dX3_byWalking_15 : decode cX3_byWalking 15 = .ok (.if_icmp .ge 21, 3) := by decide +kernel
theorem dX3_byWalking_18 : decode cX3_byWalking 18 = .ok (.lload 5, 2) := by decide +kernel
theorem dX3_byWalking_20 : decode cX3_byWalking 20 = .ok (.lload 5, 2) := by decide +kernel
theorem dX3_byWalking_22 : decode cX3_byWalking 22 = .ok (.invokestatic 27, 3) := by decide +kernel
theorem dX3_byWalking_25 : decode cX3_byWalking 25 = .ok (.lload_n 2, 1) := by decide +kernel
theorem dX3_byWalking_26 : decode cX3_byWalking 26 = .ok (.land, 1) := by decide +kernel
theorem dX3_byWalking_27 : decode cX3_byWalking 27 = .ok (.lor, 1) := by decide +kernel
theorem dX3_byWalking_28 : decode cX3_byWalking 28 = .ok (.lstore 5, 2) := by decide +kernel
theorem dX3_byWalking_30 : decode cX3_byWalking 30 = .ok (.iinc 7 1, 3) := by decide +kernel
theorem dX3_byWalking_33 : decode cX3_byWalking 33 = .ok (.goto (-22), 3) := by decide +kernel
theorem dX3_byWalking_36 : decode cX3_byWalking 36 = .ok (.lload 5, 2) := by decide +kernel
theorem dX3_byWalking_38 : decode cX3_byWalking 38 = .ok (.lreturn, 1) := by decide +kernel
set_option maxRecDepth 20000 in
theorem ggX4_init_X2_init : GoodIn wsX4_init wsX2_init := goodIn_ca (goodIn_r _ [22, 23, 2, 3, 24, 25, 26, 27, 28, 6, 29, 30, 40] (by decide +kernel) (by decide +kernel)) (goodIn_sub (fun _ h => List.mem_cons_of_mem _ (List.mem_append_right _ h)) (by decide +kernel))
set_option maxRecDepth 20000 in
theorem gX4_init_X2_init : GoodIn wsX4_init (wsX2_init) := ggX4_init_X2_init
set_option maxRecDepth 20000 in
theorem ggX4_init_X0_init : GoodIn wsX4_init wsX0_init := goodIn_r _ [32, 33, 2, 3, 24, 34, 49, 50, 51] (by decide +kernel) (by decide +kernel)
set_option maxRecDepth 20000 in
theorem gX4_init_X0_init_n24 : GoodIn wsX4_init (wsX0_init) := ggX4_init_X0_init
set_option maxRecDepth 20000 in
theorem ggX4_init_X1_init : GoodIn wsX4_init wsX1_init := goodIn_r _ [36, 37, 2, 3, 38, 39, 52, 53] (by decide +kernel) (by decide +kernel)
set_option maxRecDepth 20000 in
theorem gX4_init_X1_init_n31 : GoodIn wsX4_init (wsX1_init) := ggX4_init_X1_init
theorem dX4_init_0 : decode cX4_init 0 = .ok (.aload_n 0, 1) := by decide +kernel
theorem dX4_init_1 : decode cX4_init 1 = .ok (.invokespecial 1, 3) := by decide +kernel
theorem dX4_init_4 : decode cX4_init 4 = .ok (.aload_n 0, 1) := by decide +kernel
theorem dX4_init_5 : decode cX4_init 5 = .ok (.new 7, 3) := by decide +kernel
theorem dX4_init_8 : decode cX4_init 8 = .ok (.dup, 1) := by decide +kernel
theorem dX4_init_9 : decode cX4_init 9 = .ok (.invokespecial 9, 3) := by decide +kernel
theorem dX4_init_12 : decode cX4_init 12 = .ok (.putfield 10, 3) := by decide +kernel
theorem dX4_init_15 : decode cX4_init 15 = .ok (.aload_n 0, 1) := by decide +kernel
theorem dX4_init_16 : decode cX4_init 16 = .ok (.new 7, 3) := by decide +kernel
theorem dX4_init_19 : decode cX4_init 19 = .ok (.dup, 1) := by decide +kernel
theorem dX4_init_20 : decode cX4_init 20 = .ok (.invokespecial 9, 3) := by decide +kernel
theorem dX4_init_23 : decode cX4_init 23 = .ok (.putfield 16, 3) := by decide +kernel
theorem dX4_init_26 : decode cX4_init 26 = .ok (.aload_n 0, 1) := by decide +kernel
theorem dX4_init_27 : decode cX4_init 27 = .ok (.new 7, 3) := by decide +kernel
theorem dX4_init_30 : decode cX4_init 30 = .ok (.dup, 1) := by decide +kernel
theorem dX4_init_31 : decode cX4_init 31 = .ok (.invokespecial 9, 3) := by decide +kernel
theorem dX4_init_34 : decode cX4_init 34 = .ok (.putfield 19, 3) := by decide +kernel
theorem dX4_init_37 : decode cX4_init 37 = .ok (.aload_n 0, 1) := by decide +kernel
theorem dX4_init_38 : decode cX4_init 38 = .ok (.new 22, 3) := by decide +kernel
theorem dX4_init_41 : decode cX4_init 41 = .ok (.dup, 1) := by decide +kernel
theorem dX4_init_42 : decode cX4_init 42 = .ok (.invokespecial 24, 3) := by decide +kernel
theorem dX4_init_45 : decode cX4_init 45 = .ok (.putfield 25, 3) := by decide +kernel
theorem dX4_init_48 : decode cX4_init 48 = .ok (.aload_n 0, 1) := by decide +kernel
theorem dX4_init_49 : decode cX4_init 49 = .ok (.new 29, 3) := by decide +kernel
theorem dX4_init_52 : decode cX4_init 52 = .ok (.dup, 1) := by decide +kernel
theorem dX4_init_53 : decode cX4_init 53 = .ok (.invokespecial 31, 3) := by decide +kernel
theorem dX4_init_56 : decode cX4_init 56 = .ok (.putfield 32, 3) := by decide +kernel
theorem dX4_init_59 : decode cX4_init 59 = .ok (.aload_n 0, 1) := by decide +kernel
theorem dX4_init_60 : decode cX4_init 60 = .ok (.iconst (-1), 1) := by decide +kernel
theorem dX4_init_61 : decode cX4_init 61 = .ok (.putfield 36, 3) := by decide +kernel
theorem dX4_init_64 : decode cX4_init 64 = .ok (.aload_n 0, 1) := by decide +kernel
theorem dX4_init_65 : decode cX4_init 65 = .ok (.iconst 0, 1) := by decide +kernel
theorem dX4_init_66 : decode cX4_init 66 = .ok (.putfield 40, 3) := by decide +kernel
theorem dX4_init_69 : decode cX4_init 69 = .ok (.return_, 1) := by decide +kernel
set_option maxRecDepth 20000 in
theorem ggX4_start_X0_remember : GoodIn wsX4_start wsX0_remember := goodIn_ca (goodIn_r _ [7, 8, 9, 10, 11, 12, 13, 14, 15, 16, 17, 18, 19, 20, 65, 66, 67, 68] (by decide +kernel) (by decide +kernel)) (goodIn_sub (fun _ h => List.mem_cons_of_mem _ (List.mem_append_right _ h)) (by decide +kernel))
set_option maxRecDepth 20000 in
theorem gX4_start_X0_remember : GoodIn wsX4_start (wsV RX4 43 RX0 yX0_remember wsX0_remember) := goodIn_app (goodIn_of _ (by decide +kernel)) ggX4_start_X0_remember
set_option maxRecDepth 20000 in
theorem ggX4_start_X2_setUp : GoodIn wsX4_start wsX2_setUp := goodIn_ca (goodIn_r _ [24, 25, 26, 27, 28, 18, 29, 20, 30, 31, 32, 33, 34, 35, 36, 37, 38, 39, 40, 41, 42, 68] (by decide +kernel) (by decide +kernel)) (goodIn_sub (fun _ h => List.mem_cons_of_mem _ (List.mem_append_right _ h)) (by decide +kernel))
set_option maxRecDepth 20000 in
theorem gX4_start_X2_setUp : GoodIn wsX4_start (wsV RX4 47 RX2 yX2_setUp wsX2_setUp) := goodIn_app (goodIn_of _ (by decide +kernel)) ggX4_start_X2_setUp
set_option maxRecDepth 20000 in
theorem ggX4_start_X2_allPieces : GoodIn wsX4_start wsX2_allPieces := goodIn_ca (goodIn_r _ [46, 20, 68] (by decide +kernel) (by decide +kernel)) (goodIn_sub (fun _ h => List.mem_cons_of_mem _ (List.mem_append_right _ h)) (by decide +kernel))
set_option maxRecDepth 20000 in
theorem gX4_start_X2_allPieces : GoodIn wsX4_start (wsV RX4 50 RX2 yX2_allPieces wsX2_allPieces) := goodIn_app (goodIn_of _ (by decide +kernel)) ggX4_start_X2_allPieces
set_option maxRecDepth 20000 in
theorem ggX4_start_X3_size : GoodIn wsX4_start wsX3_size := goodIn_r _ [49, 50, 51, 52, 53, 54, 55, 56] (by decide +kernel) (by decide +kernel)
set_option maxRecDepth 20000 in
theorem gX4_start_X3_size : GoodIn wsX4_start (va_wsS RX4 54 yX3_size wsX3_size) := goodIn_app (goodIn_of _ (by decide +kernel)) ggX4_start_X3_size
theorem dX4_start_0 : decode cX4_start 0 = .ok (.aload_n 0, 1) := by decide +kernel
theorem dX4_start_1 : decode cX4_start 1 = .ok (.getfield 25, 3) := by decide +kernel
theorem dX4_start_4 : decode cX4_start 4 = .ok (.aload_n 0, 1) := by decide +kernel
theorem dX4_start_5 : decode cX4_start 5 = .ok (.getfield 10, 3) := by decide +kernel
theorem dX4_start_8 : decode cX4_start 8 = .ok (.invokevirtual 43, 3) := by decide +kernel
theorem dX4_start_11 : decode cX4_start 11 = .ok (.aload_n 0, 1) := by decide +kernel
theorem dX4_start_12 : decode cX4_start 12 = .ok (.getfield 10, 3) := by decide +kernel
theorem dX4_start_15 : decode cX4_start 15 = .ok (.invokevirtual 47, 3) := by decide +kernel
theorem dX4_start_18 : decode cX4_start 18 = .ok (.aload_n 0, 1) := by decide +kernel
theorem dX4_start_19 : decode cX4_start 19 = .ok (.getfield 10, 3) := by decide +kernel
theorem dX4_start_22 : decode cX4_start 22 = .ok (.invokevirtual 50, 3) := by decide +kernel
theorem dX4_start_25 : decode cX4_start 25 = .ok (.invokestatic 54, 3) := by decide +kernel
theorem dX4_start_28 : decode cX4_start 28 = .ok (.ireturn, 1) := by decide +kernel
set_option maxRecDepth 20000 in
theorem ggX4_clear_X0_remember : GoodIn wsX4_clear wsX0_remember := goodIn_ca (goodIn_r _ [7, 8, 9, 10, 11, 12, 13, 14, 15, 16, 17, 18, 19, 20, 49, 50, 51, 52] (by decide +kernel) (by decide +kernel)) (goodIn_sub (fun _ h => List.mem_cons_of_mem _ (List.mem_append_right _ h)) (by decide +kernel))
set_option maxRecDepth 20000 in
theorem gX4_clear_X0_remember : GoodIn wsX4_clear (wsV RX4 43 RX0 yX0_remember wsX0_remember) := goodIn_app (goodIn_of _ (by decide +kernel)) ggX4_clear_X0_remember
set_option maxRecDepth 20000 in
theorem ggX4_clear_X2_allPieces : GoodIn wsX4_clear wsX2_allPieces := goodIn_ca (goodIn_r _ [24, 20, 52] (by decide +kernel) (by decide +kernel)) (goodIn_sub (fun _ h => List.mem_cons_of_mem _ (List.mem_append_right _ h)) (by decide +kernel))
set_option maxRecDepth 20000 in
theorem gX4_clear_X2_allPieces : GoodIn wsX4_clear (wsV RX4 50 RX2 yX2_allPieces wsX2_allPieces) := goodIn_app (goodIn_of _ (by decide +kernel)) ggX4_clear_X2_allPieces
set_option maxRecDepth 20000 in
theorem ggX4_clear_X3_size : GoodIn wsX4_clear wsX3_size := goodIn_r _ [28, 29, 30, 31, 32, 33, 34, 35] (by decide +kernel) (by decide +kernel)
set_option maxRecDepth 20000 in
theorem gX4_clear_X3_size : GoodIn wsX4_clear (va_wsS RX4 54 yX3_size wsX3_size) := goodIn_app (goodIn_of _ (by decide +kernel)) ggX4_clear_X3_size
set_option maxRecDepth 20000 in
theorem ggX4_clear_X2_reset : GoodIn wsX4_clear wsX2_reset := goodIn_ca (goodIn_r _ [39, 20, 40, 52] (by decide +kernel) (by decide +kernel)) (goodIn_sub (fun _ h => List.mem_cons_of_mem _ (List.mem_append_right _ h)) (by decide +kernel))
set_option maxRecDepth 20000 in
theorem gX4_clear_X2_reset : GoodIn wsX4_clear (wsV RX4 60 RX2 yX2_reset wsX2_reset) := goodIn_app (goodIn_of _ (by decide +kernel)) ggX4_clear_X2_reset
theorem dX4_clear_0 : decode cX4_clear 0 = .ok (.aload_n 0, 1) := by decide +kernel
theorem dX4_clear_1 : decode cX4_clear 1 = .ok (.getfield 25, 3) := by decide +kernel
theorem dX4_clear_4 : decode cX4_clear 4 = .ok (.aload_n 0, 1) := by decide +kernel
theorem dX4_clear_5 : decode cX4_clear 5 = .ok (.getfield 10, 3) := by decide +kernel
theorem dX4_clear_8 : decode cX4_clear 8 = .ok (.invokevirtual 43, 3) := by decide +kernel
theorem dX4_clear_11 : decode cX4_clear 11 = .ok (.aload_n 0, 1) := by decide +kernel
theorem dX4_clear_12 : decode cX4_clear 12 = .ok (.getfield 10, 3) := by decide +kernel
theorem dX4_clear_15 : decode cX4_clear 15 = .ok (.invokevirtual 50, 3) := by decide +kernel
theorem dX4_clear_18 : decode cX4_clear 18 = .ok (.invokestatic 54, 3) := by decide +kernel
theorem dX4_clear_21 : decode cX4_clear 21 = .ok (.istore_n 1, 1) := by decide +kernel
theorem dX4_clear_22 : decode cX4_clear 22 = .ok (.aload_n 0, 1) := by decide +kernel
theorem dX4_clear_23 : decode cX4_clear 23 = .ok (.getfield 10, 3) := by decide +kernel
theorem dX4_clear_26 : decode cX4_clear 26 = .ok (.invokevirtual 60, 3) := by decide +kernel
theorem dX4_clear_29 : decode cX4_clear 29 = .ok (.iload_n 1, 1) := by decide +kernel
theorem dX4_clear_30 : decode cX4_clear 30 = .ok (.ireturn, 1) := by decide +kernel
set_option maxRecDepth 20000 in
theorem ggX4_lay_X4_requireSide : GoodIn wsX4_lay wsX4_requireSide := goodIn_ca (goodIn_r _ [10, 11, 12] (by decide +kernel) (by decide +kernel)) (goodIn_sub (fun _ h => List.mem_cons_of_mem _ (List.mem_append_left _ (List.mem_append_right _ h))) (by decide +kernel))
set_option maxRecDepth 20000 in
theorem gX4_lay_X4_requireSide : GoodIn wsX4_lay (va_wsS RX4 63 yX4_requireSide wsX4_requireSide) := goodIn_app (goodIn_of _ (by decide +kernel)) ggX4_lay_X4_requireSide
set_option maxRecDepth 20000 in
theorem ggX4_lay_X4_requireSquare : GoodIn wsX4_lay wsX4_requireSquare := goodIn_ca (goodIn_r _ [15, 11, 12] (by decide +kernel) (by decide +kernel)) (goodIn_sub (fun _ h => List.mem_cons_of_mem _ (List.mem_append_left _ (List.mem_append_right _ h))) (by decide +kernel))
set_option maxRecDepth 20000 in
theorem gX4_lay_X4_requireSquare : GoodIn wsX4_lay (va_wsS RX4 67 yX4_requireSquare wsX4_requireSquare) := goodIn_app (goodIn_of _ (by decide +kernel)) ggX4_lay_X4_requireSquare
set_option maxRecDepth 20000 in
theorem ggX4_lay_X4_requireFreeForLaying : GoodIn wsX4_lay wsX4_requireFreeForLaying := goodIn_ca (goodIn_ca (goodIn_r _ [19, 3, 4, 5, 20, 21, 22, 23, 24, 25, 26, 27, 28, 29, 30, 31, 32, 33, 34, 35, 36, 37, 38, 39, 40, 41, 42, 43, 44, 45, 95, 96, 97, 98, 99, 100, 101, 102, 103] (by decide +kernel) (by decide +kernel)) (goodIn_sub (fun _ h => List.mem_cons_of_mem _ (List.mem_append_left _ (List.mem_append_left _ (List.mem_append_right _ h)))) (by decide +kernel))) (goodIn_sub (fun _ h => List.mem_cons_of_mem _ (List.mem_append_right _ h)) (by decide +kernel))
set_option maxRecDepth 20000 in
theorem gX4_lay_X4_requireFreeForLaying : GoodIn wsX4_lay (wsV RX4 77 RX4 yX4_requireFreeForLaying wsX4_requireFreeForLaying) := goodIn_app (goodIn_of _ (by decide +kernel)) ggX4_lay_X4_requireFreeForLaying
set_option maxRecDepth 20000 in
theorem ggX4_lay_X2_keeperOf : GoodIn wsX4_lay wsX2_keeperOf := goodIn_ca (goodIn_r _ [49, 25, 50, 51, 52, 23, 53, 54, 55, 36, 56, 57, 58, 59, 60, 61, 62, 63, 103] (by decide +kernel) (by decide +kernel)) (goodIn_sub (fun _ h => List.mem_cons_of_mem _ (List.mem_append_right _ h)) (by decide +kernel))
set_option maxRecDepth 20000 in
theorem gX4_lay_X2_keeperOf : GoodIn wsX4_lay (wsV RX4 80 RX2 yX2_keeperOf wsX2_keeperOf) := goodIn_app (goodIn_of _ (by decide +kernel)) ggX4_lay_X2_keeperOf
set_option maxRecDepth 20000 in
theorem ggX4_lay_X0_remember : GoodIn wsX4_lay wsX0_remember := goodIn_ca (goodIn_r _ [68, 69, 70, 71, 72, 73, 74, 75, 76, 77, 78, 23, 79, 25, 104, 105, 106, 103] (by decide +kernel) (by decide +kernel)) (goodIn_sub (fun _ h => List.mem_cons_of_mem _ (List.mem_append_right _ h)) (by decide +kernel))
set_option maxRecDepth 20000 in
theorem gX4_lay_X0_remember : GoodIn wsX4_lay (wsV RX4 43 RX0 yX0_remember wsX0_remember) := goodIn_app (goodIn_of _ (by decide +kernel)) ggX4_lay_X0_remember
set_option maxRecDepth 20000 in
theorem ggX4_lay_X3_of : GoodIn wsX4_lay wsX3_of := goodIn_r _ [82] (by decide +kernel) (by decide +kernel)
set_option maxRecDepth 20000 in
theorem gX4_lay_X3_of : GoodIn wsX4_lay (va_wsS RX4 89 yX3_of wsX3_of) := goodIn_app (goodIn_of _ (by decide +kernel)) ggX4_lay_X3_of
set_option maxRecDepth 20000 in
theorem ggX4_lay_X2_putPiece : GoodIn wsX4_lay wsX2_putPiece := goodIn_ca (goodIn_r _ [86, 87, 88, 89, 23, 90, 25, 103] (by decide +kernel) (by decide +kernel)) (goodIn_sub (fun _ h => List.mem_cons_of_mem _ (List.mem_append_right _ h)) (by decide +kernel))
set_option maxRecDepth 20000 in
theorem gX4_lay_X2_putPiece : GoodIn wsX4_lay (wsV RX4 93 RX2 yX2_putPiece wsX2_putPiece) := goodIn_app (goodIn_of _ (by decide +kernel)) ggX4_lay_X2_putPiece
set_option maxRecDepth 20000 in
theorem ggX4_lay_X2_piecesOf : GoodIn wsX4_lay wsX2_piecesOf := goodIn_ca (goodIn_r _ [53, 25, 103] (by decide +kernel) (by decide +kernel)) (goodIn_sub (fun _ h => List.mem_cons_of_mem _ (List.mem_append_right _ h)) (by decide +kernel))
set_option maxRecDepth 20000 in
theorem gX4_lay_X2_piecesOf : GoodIn wsX4_lay (wsV RX4 97 RX2 yX2_piecesOf wsX2_piecesOf) := goodIn_app (goodIn_of _ (by decide +kernel)) ggX4_lay_X2_piecesOf
set_option maxRecDepth 20000 in
theorem ggX4_lay_X3_size : GoodIn wsX4_lay wsX3_size := goodIn_r _ [94, 57, 58, 59, 60, 61, 62, 63] (by decide +kernel) (by decide +kernel)
set_option maxRecDepth 20000 in
theorem gX4_lay_X3_size : GoodIn wsX4_lay (va_wsS RX4 54 yX3_size wsX3_size) := goodIn_app (goodIn_of _ (by decide +kernel)) ggX4_lay_X3_size
theorem dX4_lay_0 : decode cX4_lay 0 = .ok (.iload_n 1, 1) := by decide +kernel
theorem dX4_lay_1 : decode cX4_lay 1 = .ok (.invokestatic 63, 3) := by decide +kernel
theorem dX4_lay_4 : decode cX4_lay 4 = .ok (.iload_n 3, 1) := by decide +kernel
theorem dX4_lay_5 : decode cX4_lay 5 = .ok (.invokestatic 67, 3) := by decide +kernel
theorem dX4_lay_8 : decode cX4_lay 8 = .ok (.iload_n 2, 1) := by decide +kernel
theorem dX4_lay_9 : decode cX4_lay 9 = .ok (.ifCond .lt 8, 3) := by decide +kernel
theorem dX4_lay_12 : decode cX4_lay 12 = .ok (.iload_n 2, 1) := by decide +kernel
theorem dX4_lay_13 : decode cX4_lay 13 = .ok (.iconst 4, 1) := by decide +kernel
theorem dX4_lay_14 : decode cX4_lay 14 = .ok (.if_icmp .lt 13, 3) := by decide +kernel
theorem dX4_lay_17 : decode cX4_lay 17 = .ok (.new 70, 3) := by decide +kernel
theorem dX4_lay_20 : decode cX4_lay 20 = .ok (.dup, 1) := by decide +kernel
theorem dX4_lay_21 : decode cX4_lay 21 = .ok (.ldc 72, 2) := by decide +kernel
theorem dX4_lay_23 : decode cX4_lay 23 = .ok (.invokespecial 74, 3) := by decide +kernel
theorem dX4_lay_26 : decode cX4_lay 26 = .ok (.athrow, 1) := by decide +kernel
theorem dX4_lay_27 : decode cX4_lay 27 = .ok (.aload_n 0, 1) := by decide +kernel
theorem dX4_lay_28 : decode cX4_lay 28 = .ok (.iload_n 3, 1) := by decide +kernel
theorem dX4_lay_29 : decode cX4_lay 29 = .ok (.invokevirtual 77, 3) := by decide +kernel
theorem dX4_lay_32 : decode cX4_lay 32 = .ok (.iload_n 2, 1) := by decide +kernel
theorem dX4_lay_33 : decode cX4_lay 33 = .ok (.iconst 3, 1) := by decide +kernel
theorem dX4_lay_34 : decode cX4_lay 34 = .ok (.if_icmp .ne 25, 3) := by decide +kernel
theorem dX4_lay_37 : decode cX4_lay 37 = .ok (.aload_n 0, 1) := by decide +kernel
theorem dX4_lay_38 : decode cX4_lay 38 = .ok (.getfield 10, 3) := by decide +kernel
theorem dX4_lay_41 : decode cX4_lay 41 = .ok (.iload_n 1, 1) := by decide +kernel
theorem dX4_lay_42 : decode cX4_lay 42 = .ok (.invokevirtual 80, 3) := by decide +kernel
theorem dX4_lay_45 : decode cX4_lay 45 = .ok (.iconst (-1), 1) := by decide +kernel
theorem dX4_lay_46 : decode cX4_lay 46 = .ok (.if_icmp .eq 13, 3) := by decide +kernel
theorem dX4_lay_49 : decode cX4_lay 49 = .ok (.new 84, 3) := by decide +kernel
theorem dX4_lay_52 : decode cX4_lay 52 = .ok (.dup, 1) := by decide +kernel
theorem dX4_lay_53 : decode cX4_lay 53 = .ok (.ldc 86, 2) := by decide +kernel
theorem dX4_lay_55 : decode cX4_lay 55 = .ok (.invokespecial 88, 3) := by decide +kernel
theorem dX4_lay_58 : decode cX4_lay 58 = .ok (.athrow, 1) := by decide +kernel
theorem dX4_lay_59 : decode cX4_lay 59 = .ok (.aload_n 0, 1) := by decide +kernel
theorem dX4_lay_60 : decode cX4_lay 60 = .ok (.getfield 25, 3) := by decide +kernel
theorem dX4_lay_63 : decode cX4_lay 63 = .ok (.aload_n 0, 1) := by decide +kernel
theorem dX4_lay_64 : decode cX4_lay 64 = .ok (.getfield 10, 3) := by decide +kernel
theorem dX4_lay_67 : decode cX4_lay 67 = .ok (.invokevirtual 43, 3) := by decide +kernel
theorem dX4_lay_70 : decode cX4_lay 70 = .ok (.aload_n 0, 1) := by decide +kernel
theorem dX4_lay_71 : decode cX4_lay 71 = .ok (.getfield 10, 3) := by decide +kernel
theorem dX4_lay_74 : decode cX4_lay 74 = .ok (.iload_n 1, 1) := by decide +kernel
theorem dX4_lay_75 : decode cX4_lay 75 = .ok (.iload_n 2, 1) := by decide +kernel
theorem dX4_lay_76 : decode cX4_lay 76 = .ok (.iload_n 3, 1) := by decide +kernel
theorem dX4_lay_77 : decode cX4_lay 77 = .ok (.invokestatic 89, 3) := by decide +kernel
theorem dX4_lay_80 : decode cX4_lay 80 = .ok (.invokevirtual 93, 3) := by decide +kernel
theorem dX4_lay_83 : decode cX4_lay 83 = .ok (.aload_n 0, 1) := by decide +kernel
theorem dX4_lay_84 : decode cX4_lay 84 = .ok (.getfield 10, 3) := by decide +kernel
theorem dX4_lay_87 : decode cX4_lay 87 = .ok (.iload_n 1, 1) := by decide +kernel
theorem dX4_lay_88 : decode cX4_lay 88 = .ok (.invokevirtual 97, 3) := by decide +kernel
theorem dX4_lay_91 : decode cX4_lay 91 = .ok (.invokestatic 54, 3) := by decide +kernel
theorem dX4_lay_94 : decode cX4_lay 94 = .ok (.ireturn, 1) := by decide +kernel
set_option maxRecDepth 20000 in
theorem ggX4_wall_X4_requireSquare : GoodIn wsX4_wall wsX4_requireSquare := goodIn_ca (goodIn_r _ [6, 7, 8] (by decide +kernel) (by decide +kernel)) (goodIn_sub (fun _ h => List.mem_cons_of_mem _ (List.mem_append_left _ (List.mem_append_left _ (List.mem_append_right _ h)))) (by decide +kernel))
set_option maxRecDepth 20000 in
theorem gX4_wall_X4_requireSquare : GoodIn wsX4_wall (va_wsS RX4 67 yX4_requireSquare wsX4_requireSquare) := goodIn_app (goodIn_of _ (by decide +kernel)) ggX4_wall_X4_requireSquare
set_option maxRecDepth 20000 in
theorem ggX4_wall_X4_requireFreeForLaying : GoodIn wsX4_wall wsX4_requireFreeForLaying := goodIn_ca (goodIn_ca (goodIn_r _ [12, 13, 14, 2, 15, 16, 17, 18, 19, 20, 21, 22, 23, 24, 25, 26, 27, 28, 29, 30, 31, 32, 33, 34, 35, 36, 37, 38, 39, 40, 79, 80, 81, 82, 83, 84, 85, 86, 87] (by decide +kernel) (by decide +kernel)) (goodIn_sub (fun _ h => List.mem_cons_of_mem _ (List.mem_append_left _ (List.mem_append_right _ h))) (by decide +kernel))) (goodIn_sub (fun _ h => List.mem_cons_of_mem _ (List.mem_append_right _ h)) (by decide +kernel))
set_option maxRecDepth 20000 in
theorem gX4_wall_X4_requireFreeForLaying : GoodIn wsX4_wall (wsV RX4 77 RX4 yX4_requireFreeForLaying wsX4_requireFreeForLaying) := goodIn_app (goodIn_of _ (by decide +kernel)) ggX4_wall_X4_requireFreeForLaying
set_option maxRecDepth 20000 in
theorem ggX4_wall_X0_remember : GoodIn wsX4_wall wsX0_remember := goodIn_ca (goodIn_r _ [45, 46, 47, 48, 49, 50, 51, 52, 53, 54, 55, 18, 56, 20, 88, 89, 90, 87] (by decide +kernel) (by decide +kernel)) (goodIn_sub (fun _ h => List.mem_cons_of_mem _ (List.mem_append_right _ h)) (by decide +kernel))
set_option maxRecDepth 20000 in
theorem gX4_wall_X0_remember : GoodIn wsX4_wall (wsV RX4 43 RX0 yX0_remember wsX0_remember) := goodIn_app (goodIn_of _ (by decide +kernel)) ggX4_wall_X0_remember
set_option maxRecDepth 20000 in
theorem ggX4_wall_X3_of : GoodIn wsX4_wall wsX3_of := goodIn_r _ [59] (by decide +kernel) (by decide +kernel)
set_option maxRecDepth 20000 in
theorem gX4_wall_X3_of : GoodIn wsX4_wall (va_wsS RX4 89 yX3_of wsX3_of) := goodIn_app (goodIn_of _ (by decide +kernel)) ggX4_wall_X3_of
set_option maxRecDepth 20000 in
theorem ggX4_wall_X2_putWall : GoodIn wsX4_wall wsX2_putWall := goodIn_ca (goodIn_r _ [63, 64, 65, 66, 18, 67, 20, 87] (by decide +kernel) (by decide +kernel)) (goodIn_sub (fun _ h => List.mem_cons_of_mem _ (List.mem_append_right _ h)) (by decide +kernel))
set_option maxRecDepth 20000 in
theorem gX4_wall_X2_putWall : GoodIn wsX4_wall (wsV RX4 100 RX2 yX2_putWall wsX2_putWall) := goodIn_app (goodIn_of _ (by decide +kernel)) ggX4_wall_X2_putWall
set_option maxRecDepth 20000 in
theorem ggX4_wall_X2_walls : GoodIn wsX4_wall wsX2_walls := goodIn_ca (goodIn_r _ [36, 20, 87] (by decide +kernel) (by decide +kernel)) (goodIn_sub (fun _ h => List.mem_cons_of_mem _ (List.mem_append_right _ h)) (by decide +kernel))
set_option maxRecDepth 20000 in
theorem gX4_wall_X2_walls : GoodIn wsX4_wall (wsV RX4 104 RX2 yX2_walls wsX2_walls) := goodIn_app (goodIn_of _ (by decide +kernel)) ggX4_wall_X2_walls
set_option maxRecDepth 20000 in
theorem ggX4_wall_X3_size : GoodIn wsX4_wall wsX3_size := goodIn_r _ [71, 72, 73, 74, 75, 76, 77, 78] (by decide +kernel) (by decide +kernel)
set_option maxRecDepth 20000 in
theorem gX4_wall_X3_size : GoodIn wsX4_wall (va_wsS RX4 54 yX3_size wsX3_size) := goodIn_app (goodIn_of _ (by decide +kernel)) ggX4_wall_X3_size
theorem dX4_wall_0 : decode cX4_wall 0 = .ok (.iload_n 1, 1) := by decide +kernel
theorem dX4_wall_1 : decode cX4_wall 1 = .ok (.invokestatic 67, 3) := by decide +kernel
theorem dX4_wall_4 : decode cX4_wall 4 = .ok (.aload_n 0, 1) := by decide +kernel
theorem dX4_wall_5 : decode cX4_wall 5 = .ok (.iload_n 1, 1) := by decide +kernel
theorem dX4_wall_6 : decode cX4_wall 6 = .ok (.invokevirtual 77, 3) := by decide +kernel
theorem dX4_wall_9 : decode cX4_wall 9 = .ok (.aload_n 0, 1) := by decide +kernel
theorem dX4_wall_10 : decode cX4_wall 10 = .ok (.getfield 25, 3) := by decide +kernel
theorem dX4_wall_13 : decode cX4_wall 13 = .ok (.aload_n 0, 1) := by decide +kernel
theorem dX4_wall_14 : decode cX4_wall 14 = .ok (.getfield 10, 3) := by decide +kernel
theorem dX4_wall_17 : decode cX4_wall 17 = .ok (.invokevirtual 43, 3) := by decide +kernel
theorem dX4_wall_20 : decode cX4_wall 20 = .ok (.aload_n 0, 1) := by decide +kernel
theorem dX4_wall_21 : decode cX4_wall 21 = .ok (.getfield 10, 3) := by decide +kernel
theorem dX4_wall_24 : decode cX4_wall 24 = .ok (.iload_n 1, 1) := by decide +kernel
theorem dX4_wall_25 : decode cX4_wall 25 = .ok (.invokestatic 89, 3) := by decide +kernel
theorem dX4_wall_28 : decode cX4_wall 28 = .ok (.invokevirtual 100, 3) := by decide +kernel
theorem dX4_wall_31 : decode cX4_wall 31 = .ok (.aload_n 0, 1) := by decide +kernel
theorem dX4_wall_32 : decode cX4_wall 32 = .ok (.getfield 10, 3) := by decide +kernel
theorem dX4_wall_35 : decode cX4_wall 35 = .ok (.invokevirtual 104, 3) := by decide +kernel
theorem dX4_wall_38 : decode cX4_wall 38 = .ok (.invokestatic 54, 3) := by decide +kernel
theorem dX4_wall_41 : decode cX4_wall 41 = .ok (.ireturn, 1) := by decide +kernel
set_option maxRecDepth 20000 in
theorem ggX4_move_X4_requireSquare : GoodIn wsX4_move wsX4_requireSquare := goodIn_ca (goodIn_r _ [6, 7, 8] (by decide +kernel) (by decide +kernel)) (goodIn_sub (fun _ h => List.mem_cons_of_mem _ (List.mem_append_left _ (List.mem_append_left _ (List.mem_append_right _ h)))) (by decide +kernel))
set_option maxRecDepth 20000 in
theorem gX4_move_X4_requireSquare : GoodIn wsX4_move (va_wsS RX4 67 yX4_requireSquare wsX4_requireSquare) := goodIn_app (goodIn_of _ (by decide +kernel)) ggX4_move_X4_requireSquare
set_option maxRecDepth 20000 in
theorem ggX4_move_X2_refusalOfMove : GoodIn wsX4_move wsX2_refusalOfMove := goodIn_ca (goodIn_r _ [13, 14, 15, 16, 12, 17, 18, 19, 20, 21, 22, 23, 24, 25, 26, 27, 28, 29, 30, 31, 32, 33, 34, 35, 36, 37, 38, 39, 40, 41, 42, 43, 44, 45, 46, 47, 48, 49, 50, 51, 52, 53, 54, 55, 56, 57, 58, 59, 60, 61, 62, 63, 64, 65, 66, 67, 68, 69, 70, 71, 72, 73, 74, 75, 76, 77, 78, 79, 80, 81, 82, 83, 84, 85, 86, 87, 88, 89, 90, 183] (by decide +kernel) (by decide +kernel)) (goodIn_sub (fun _ h => List.mem_cons_of_mem _ (List.mem_append_left _ (List.mem_append_right _ h))) (by decide +kernel))
set_option maxRecDepth 20000 in
theorem gX4_move_X2_refusalOfMove : GoodIn wsX4_move (wsV RX4 107 RX2 yX2_refusalOfMove wsX2_refusalOfMove) := goodIn_app (goodIn_of _ (by decide +kernel)) ggX4_move_X2_refusalOfMove
set_option maxRecDepth 20000 in
theorem ggX4_move_X4_requireTaken : GoodIn wsX4_move wsX4_requireTaken := goodIn_ca (goodIn_r _ [94, 95, 96, 97, 175, 176, 177, 178, 179, 180, 181, 182] (by decide +kernel) (by decide +kernel)) (goodIn_sub (fun _ h => List.mem_cons_of_mem _ (List.mem_append_right _ h)) (by decide +kernel))
set_option maxRecDepth 20000 in
theorem gX4_move_X4_requireTaken : GoodIn wsX4_move (wsV RX4 111 RX4 yX4_requireTaken wsX4_requireTaken) := goodIn_app (goodIn_of _ (by decide +kernel)) ggX4_move_X4_requireTaken
set_option maxRecDepth 20000 in
theorem ggX4_move_X0_remember : GoodIn wsX4_move wsX0_remember := goodIn_ca (goodIn_r _ [102, 103, 104, 105, 106, 107, 108, 109, 110, 111, 112, 12, 113, 18, 184, 185, 186, 183] (by decide +kernel) (by decide +kernel)) (goodIn_sub (fun _ h => List.mem_cons_of_mem _ (List.mem_append_left _ (List.mem_append_right _ h))) (by decide +kernel))
set_option maxRecDepth 20000 in
theorem gX4_move_X0_remember : GoodIn wsX4_move (wsV RX4 43 RX0 yX0_remember wsX0_remember) := goodIn_app (goodIn_of _ (by decide +kernel)) ggX4_move_X0_remember
set_option maxRecDepth 20000 in
theorem ggX4_move_X2_takeMove : GoodIn wsX4_move wsX2_takeMove := goodIn_ca (goodIn_r _ [117, 26, 27, 28, 12, 29, 19, 20, 21, 22, 18, 118, 5, 119, 120, 121, 122, 123, 30, 31, 32, 33, 124, 125, 36, 126, 127, 128, 129, 130, 131, 132, 133, 134, 135, 136, 137, 43, 44, 45, 46, 47, 48, 49, 50, 51, 52, 53, 54, 34, 35, 37, 67, 68, 69, 70, 71, 72, 73, 74, 55, 56, 57, 138, 139, 140, 141, 42, 142, 143, 144, 145, 146, 147, 148, 149, 150, 151, 152, 153, 154, 79, 80, 81, 82, 83, 155, 156, 157, 158, 159, 160, 161, 162, 163, 164, 165, 166, 167, 168, 169, 170, 171, 172, 173, 174, 90, 88, 89, 58, 59, 60, 61, 62, 63, 64, 65, 66, 183] (by decide +kernel) (by decide +kernel)) (goodIn_sub (fun _ h => List.mem_cons_of_mem _ (List.mem_append_left _ (List.mem_append_right _ h))) (by decide +kernel))
set_option maxRecDepth 20000 in
theorem gX4_move_X2_takeMove : GoodIn wsX4_move (wsV RX4 114 RX2 yX2_takeMove wsX2_takeMove) := goodIn_app (goodIn_of _ (by decide +kernel)) ggX4_move_X2_takeMove
theorem dX4_move_0 : decode cX4_move 0 = .ok (.iload_n 1, 1) := by decide +kernel
theorem dX4_move_1 : decode cX4_move 1 = .ok (.invokestatic 67, 3) := by decide +kernel
theorem dX4_move_4 : decode cX4_move 4 = .ok (.iload_n 2, 1) := by decide +kernel
theorem dX4_move_5 : decode cX4_move 5 = .ok (.invokestatic 67, 3) := by decide +kernel
theorem dX4_move_8 : decode cX4_move 8 = .ok (.aload_n 0, 1) := by decide +kernel
theorem dX4_move_9 : decode cX4_move 9 = .ok (.aload_n 0, 1) := by decide +kernel
theorem dX4_move_10 : decode cX4_move 10 = .ok (.getfield 10, 3) := by decide +kernel
theorem dX4_move_13 : decode cX4_move 13 = .ok (.iload_n 1, 1) := by decide +kernel
theorem dX4_move_14 : decode cX4_move 14 = .ok (.iload_n 2, 1) := by decide +kernel
theorem dX4_move_15 : decode cX4_move 15 = .ok (.invokevirtual 107, 3) := by decide +kernel
theorem dX4_move_18 : decode cX4_move 18 = .ok (.invokevirtual 111, 3) := by decide +kernel
theorem dX4_move_21 : decode cX4_move 21 = .ok (.aload_n 0, 1) := by decide +kernel
theorem dX4_move_22 : decode cX4_move 22 = .ok (.getfield 25, 3) := by decide +kernel
theorem dX4_move_25 : decode cX4_move 25 = .ok (.aload_n 0, 1) := by decide +kernel
theorem dX4_move_26 : decode cX4_move 26 = .ok (.getfield 10, 3) := by decide +kernel
theorem dX4_move_29 : decode cX4_move 29 = .ok (.invokevirtual 43, 3) := by decide +kernel
theorem dX4_move_32 : decode cX4_move 32 = .ok (.aload_n 0, 1) := by decide +kernel
theorem dX4_move_33 : decode cX4_move 33 = .ok (.getfield 10, 3) := by decide +kernel
theorem dX4_move_36 : decode cX4_move 36 = .ok (.iload_n 1, 1) := by decide +kernel
theorem dX4_move_37 : decode cX4_move 37 = .ok (.iload_n 2, 1) := by decide +kernel
theorem dX4_move_38 : decode cX4_move 38 = .ok (.invokevirtual 114, 3) := by decide +kernel
theorem dX4_move_41 : decode cX4_move 41 = .ok (.ireturn, 1) := by decide +kernel
set_option maxRecDepth 20000 in
theorem ggX4_door_X4_requireSquare : GoodIn wsX4_door wsX4_requireSquare := goodIn_ca (goodIn_r _ [6, 7, 8] (by decide +kernel) (by decide +kernel)) (goodIn_sub (fun _ h => List.mem_cons_of_mem _ (List.mem_append_left _ (List.mem_append_left _ (List.mem_append_right _ h)))) (by decide +kernel))
set_option maxRecDepth 20000 in
theorem gX4_door_X4_requireSquare : GoodIn wsX4_door (va_wsS RX4 67 yX4_requireSquare wsX4_requireSquare) := goodIn_app (goodIn_of _ (by decide +kernel)) ggX4_door_X4_requireSquare
set_option maxRecDepth 20000 in
theorem ggX4_door_X2_refusalOfPurchase : GoodIn wsX4_door wsX2_refusalOfPurchase := goodIn_ca (goodIn_r _ [13, 14, 15, 16, 12, 17, 18, 19, 20, 21, 22, 23, 24, 25, 26, 27, 28, 29, 30, 31, 32, 33, 34, 35, 36, 37, 38, 39, 40, 41, 42, 43, 44, 45, 46, 47, 48, 49, 50, 51, 52, 53, 54, 55, 56, 57, 58, 59, 60, 61, 62, 63, 64, 65, 66, 67, 68, 69, 70, 71, 72, 73, 74, 75, 76, 77, 78, 79, 80, 81, 82, 83, 84, 153] (by decide +kernel) (by decide +kernel)) (goodIn_sub (fun _ h => List.mem_cons_of_mem _ (List.mem_append_left _ (List.mem_append_right _ h))) (by decide +kernel))
set_option maxRecDepth 20000 in
theorem gX4_door_X2_refusalOfPurchase : GoodIn wsX4_door (wsV RX4 117 RX2 yX2_refusalOfPurchase wsX2_refusalOfPurchase) := goodIn_app (goodIn_of _ (by decide +kernel)) ggX4_door_X2_refusalOfPurchase
set_option maxRecDepth 20000 in
theorem ggX4_door_X4_requireTaken : GoodIn wsX4_door wsX4_requireTaken := goodIn_ca (goodIn_r _ [88, 89, 90, 91, 145, 146, 147, 148, 149, 150, 151, 152] (by decide +kernel) (by decide +kernel)) (goodIn_sub (fun _ h => List.mem_cons_of_mem _ (List.mem_append_right _ h)) (by decide +kernel))
set_option maxRecDepth 20000 in
theorem gX4_door_X4_requireTaken : GoodIn wsX4_door (wsV RX4 111 RX4 yX4_requireTaken wsX4_requireTaken) := goodIn_app (goodIn_of _ (by decide +kernel)) ggX4_door_X4_requireTaken
set_option maxRecDepth 20000 in
theorem ggX4_door_X0_remember : GoodIn wsX4_door wsX0_remember := goodIn_ca (goodIn_r _ [96, 97, 98, 99, 100, 101, 102, 103, 104, 105, 106, 12, 107, 22, 154, 155, 156, 153] (by decide +kernel) (by decide +kernel)) (goodIn_sub (fun _ h => List.mem_cons_of_mem _ (List.mem_append_left _ (List.mem_append_right _ h))) (by decide +kernel))
set_option maxRecDepth 20000 in
theorem gX4_door_X0_remember : GoodIn wsX4_door (wsV RX4 43 RX0 yX0_remember wsX0_remember) := goodIn_app (goodIn_of _ (by decide +kernel)) ggX4_door_X0_remember
set_option maxRecDepth 20000 in
theorem ggX4_door_X2_takeDoor : GoodIn wsX4_door wsX2_takeDoor := goodIn_ca (goodIn_r _ [111, 14, 15, 16, 12, 17, 18, 19, 20, 21, 22, 42, 43, 36, 44, 112, 113, 114, 115, 116, 117, 118, 119, 120, 121, 122, 123, 124, 125, 126, 127, 128, 129, 130, 5, 131, 132, 133, 134, 135, 51, 52, 53, 54, 45, 46, 47, 48, 49, 50, 136, 137, 138, 139, 140, 141, 142, 143, 144, 81, 82, 83, 84, 153] (by decide +kernel) (by decide +kernel)) (goodIn_sub (fun _ h => List.mem_cons_of_mem _ (List.mem_append_left _ (List.mem_append_right _ h))) (by decide +kernel))
set_option maxRecDepth 20000 in
theorem gX4_door_X2_takeDoor : GoodIn wsX4_door (wsV RX4 121 RX2 yX2_takeDoor wsX2_takeDoor) := goodIn_app (goodIn_of _ (by decide +kernel)) ggX4_door_X2_takeDoor
theorem dX4_door_0 : decode cX4_door 0 = .ok (.iload_n 1, 1) := by decide +kernel
theorem dX4_door_1 : decode cX4_door 1 = .ok (.invokestatic 67, 3) := by decide +kernel
theorem dX4_door_4 : decode cX4_door 4 = .ok (.aload_n 0, 1) := by decide +kernel
theorem dX4_door_5 : decode cX4_door 5 = .ok (.aload_n 0, 1) := by decide +kernel
theorem dX4_door_6 : decode cX4_door 6 = .ok (.getfield 10, 3) := by decide +kernel
theorem dX4_door_9 : decode cX4_door 9 = .ok (.iload_n 1, 1) := by decide +kernel
theorem dX4_door_10 : decode cX4_door 10 = .ok (.iconst 0, 1) := by decide +kernel
theorem dX4_door_11 : decode cX4_door 11 = .ok (.invokevirtual 117, 3) := by decide +kernel
theorem dX4_door_14 : decode cX4_door 14 = .ok (.invokevirtual 111, 3) := by decide +kernel
theorem dX4_door_17 : decode cX4_door 17 = .ok (.aload_n 0, 1) := by decide +kernel
theorem dX4_door_18 : decode cX4_door 18 = .ok (.getfield 25, 3) := by decide +kernel
theorem dX4_door_21 : decode cX4_door 21 = .ok (.aload_n 0, 1) := by decide +kernel
theorem dX4_door_22 : decode cX4_door 22 = .ok (.getfield 10, 3) := by decide +kernel
theorem dX4_door_25 : decode cX4_door 25 = .ok (.invokevirtual 43, 3) := by decide +kernel
theorem dX4_door_28 : decode cX4_door 28 = .ok (.aload_n 0, 1) := by decide +kernel
theorem dX4_door_29 : decode cX4_door 29 = .ok (.getfield 10, 3) := by decide +kernel
theorem dX4_door_32 : decode cX4_door 32 = .ok (.iload_n 1, 1) := by decide +kernel
theorem dX4_door_33 : decode cX4_door 33 = .ok (.invokevirtual 121, 3) := by decide +kernel
theorem dX4_door_36 : decode cX4_door 36 = .ok (.ireturn, 1) := by decide +kernel
set_option maxRecDepth 20000 in
theorem ggX4_buy_X4_requireSquare : GoodIn wsX4_buy wsX4_requireSquare := goodIn_ca (goodIn_r _ [6, 7, 8] (by decide +kernel) (by decide +kernel)) (goodIn_sub (fun _ h => List.mem_cons_of_mem _ (List.mem_append_left _ (List.mem_append_left _ (List.mem_append_right _ h)))) (by decide +kernel))
set_option maxRecDepth 20000 in
theorem gX4_buy_X4_requireSquare : GoodIn wsX4_buy (va_wsS RX4 67 yX4_requireSquare wsX4_requireSquare) := goodIn_app (goodIn_of _ (by decide +kernel)) ggX4_buy_X4_requireSquare
set_option maxRecDepth 20000 in
theorem ggX4_buy_X2_refusalOfPurchase : GoodIn wsX4_buy wsX2_refusalOfPurchase := goodIn_ca (goodIn_r _ [13, 14, 15, 16, 12, 17, 18, 19, 20, 21, 22, 23, 24, 25, 26, 27, 28, 29, 30, 31, 32, 33, 34, 35, 36, 37, 38, 39, 40, 41, 42, 43, 44, 45, 46, 47, 48, 49, 50, 51, 52, 53, 54, 55, 56, 57, 58, 59, 60, 61, 62, 63, 64, 65, 66, 67, 68, 69, 70, 71, 72, 73, 74, 75, 76, 77, 78, 79, 80, 81, 82, 83, 84, 153] (by decide +kernel) (by decide +kernel)) (goodIn_sub (fun _ h => List.mem_cons_of_mem _ (List.mem_append_left _ (List.mem_append_right _ h))) (by decide +kernel))
set_option maxRecDepth 20000 in
theorem gX4_buy_X2_refusalOfPurchase : GoodIn wsX4_buy (wsV RX4 117 RX2 yX2_refusalOfPurchase wsX2_refusalOfPurchase) := goodIn_app (goodIn_of _ (by decide +kernel)) ggX4_buy_X2_refusalOfPurchase
set_option maxRecDepth 20000 in
theorem ggX4_buy_X4_requireTaken : GoodIn wsX4_buy wsX4_requireTaken := goodIn_ca (goodIn_r _ [88, 89, 90, 91, 145, 146, 147, 148, 149, 150, 151, 152] (by decide +kernel) (by decide +kernel)) (goodIn_sub (fun _ h => List.mem_cons_of_mem _ (List.mem_append_right _ h)) (by decide +kernel))
set_option maxRecDepth 20000 in
theorem gX4_buy_X4_requireTaken : GoodIn wsX4_buy (wsV RX4 111 RX4 yX4_requireTaken wsX4_requireTaken) := goodIn_app (goodIn_of _ (by decide +kernel)) ggX4_buy_X4_requireTaken
set_option maxRecDepth 20000 in
theorem ggX4_buy_X0_remember : GoodIn wsX4_buy wsX0_remember := goodIn_ca (goodIn_r _ [96, 97, 98, 99, 100, 101, 102, 103, 104, 105, 106, 12, 107, 22, 154, 155, 156, 153] (by decide +kernel) (by decide +kernel)) (goodIn_sub (fun _ h => List.mem_cons_of_mem _ (List.mem_append_left _ (List.mem_append_right _ h))) (by decide +kernel))
set_option maxRecDepth 20000 in
theorem gX4_buy_X0_remember : GoodIn wsX4_buy (wsV RX4 43 RX0 yX0_remember wsX0_remember) := goodIn_app (goodIn_of _ (by decide +kernel)) ggX4_buy_X0_remember
set_option maxRecDepth 20000 in
theorem ggX4_buy_X2_takePiece : GoodIn wsX4_buy wsX2_takePiece := goodIn_ca (goodIn_r _ [111, 14, 15, 16, 12, 17, 18, 19, 20, 21, 22, 42, 43, 36, 44, 112, 113, 114, 115, 116, 117, 118, 119, 120, 77, 78, 79, 80, 55, 56, 57, 58, 59, 60, 61, 62, 34, 35, 37, 121, 122, 123, 124, 125, 126, 127, 128, 129, 130, 5, 131, 132, 133, 134, 135, 51, 52, 53, 54, 45, 46, 47, 48, 49, 50, 136, 137, 138, 139, 140, 141, 142, 143, 144, 81, 82, 83, 84, 153] (by decide +kernel) (by decide +kernel)) (goodIn_sub (fun _ h => List.mem_cons_of_mem _ (List.mem_append_left _ (List.mem_append_right _ h))) (by decide +kernel))
set_option maxRecDepth 20000 in
theorem gX4_buy_X2_takePiece : GoodIn wsX4_buy (wsV RX4 124 RX2 yX2_takePiece wsX2_takePiece) := goodIn_app (goodIn_of _ (by decide +kernel)) ggX4_buy_X2_takePiece
theorem dX4_buy_0 : decode cX4_buy 0 = .ok (.iload_n 1, 1) := by decide +kernel
theorem dX4_buy_1 : decode cX4_buy 1 = .ok (.invokestatic 67, 3) := by decide +kernel
theorem dX4_buy_4 : decode cX4_buy 4 = .ok (.aload_n 0, 1) := by decide +kernel
theorem dX4_buy_5 : decode cX4_buy 5 = .ok (.aload_n 0, 1) := by decide +kernel
theorem dX4_buy_6 : decode cX4_buy 6 = .ok (.getfield 10, 3) := by decide +kernel
theorem dX4_buy_9 : decode cX4_buy 9 = .ok (.iload_n 1, 1) := by decide +kernel
theorem dX4_buy_10 : decode cX4_buy 10 = .ok (.iconst 1, 1) := by decide +kernel
theorem dX4_buy_11 : decode cX4_buy 11 = .ok (.invokevirtual 117, 3) := by decide +kernel
theorem dX4_buy_14 : decode cX4_buy 14 = .ok (.invokevirtual 111, 3) := by decide +kernel
theorem dX4_buy_17 : decode cX4_buy 17 = .ok (.aload_n 0, 1) := by decide +kernel
theorem dX4_buy_18 : decode cX4_buy 18 = .ok (.getfield 25, 3) := by decide +kernel
theorem dX4_buy_21 : decode cX4_buy 21 = .ok (.aload_n 0, 1) := by decide +kernel
theorem dX4_buy_22 : decode cX4_buy 22 = .ok (.getfield 10, 3) := by decide +kernel
theorem dX4_buy_25 : decode cX4_buy 25 = .ok (.invokevirtual 43, 3) := by decide +kernel
theorem dX4_buy_28 : decode cX4_buy 28 = .ok (.aload_n 0, 1) := by decide +kernel
theorem dX4_buy_29 : decode cX4_buy 29 = .ok (.getfield 10, 3) := by decide +kernel
theorem dX4_buy_32 : decode cX4_buy 32 = .ok (.iload_n 1, 1) := by decide +kernel
theorem dX4_buy_33 : decode cX4_buy 33 = .ok (.invokevirtual 124, 3) := by decide +kernel
theorem dX4_buy_36 : decode cX4_buy 36 = .ok (.ireturn, 1) := by decide +kernel
set_option maxRecDepth 20000 in
theorem ggX4_square_X4_requireSquare : GoodIn wsX4_square wsX4_requireSquare := goodIn_ca (goodIn_r _ [7, 8, 9] (by decide +kernel) (by decide +kernel)) (goodIn_sub (fun _ h => List.mem_cons_of_mem _ (List.mem_append_left _ (List.mem_append_right _ h))) (by decide +kernel))
set_option maxRecDepth 20000 in
theorem gX4_square_X4_requireSquare : GoodIn wsX4_square (va_wsS RX4 67 yX4_requireSquare wsX4_requireSquare) := goodIn_app (goodIn_of _ (by decide +kernel)) ggX4_square_X4_requireSquare
set_option maxRecDepth 20000 in
theorem ggX4_square_X2_whatOn : GoodIn wsX4_square wsX2_whatOn := goodIn_ca (goodIn_r _ [14, 15, 16, 17, 13, 18, 19, 20, 21, 22, 23, 24, 25, 26, 27, 28, 29, 30, 31, 66] (by decide +kernel) (by decide +kernel)) (goodIn_sub (fun _ h => List.mem_cons_of_mem _ (List.mem_append_right _ h)) (by decide +kernel))
set_option maxRecDepth 20000 in
theorem gX4_square_X2_whatOn : GoodIn wsX4_square (wsV RX4 129 RX2 yX2_whatOn wsX2_whatOn) := goodIn_app (goodIn_of _ (by decide +kernel)) ggX4_square_X2_whatOn
set_option maxRecDepth 20000 in
theorem ggX4_square_X2_sideOn : GoodIn wsX4_square wsX2_sideOn := goodIn_ca (goodIn_r _ [35, 36, 37, 38, 13, 39, 19, 40, 41, 42, 43, 44, 45, 46, 47, 20, 21, 22, 23, 66] (by decide +kernel) (by decide +kernel)) (goodIn_sub (fun _ h => List.mem_cons_of_mem _ (List.mem_append_right _ h)) (by decide +kernel))
set_option maxRecDepth 20000 in
theorem gX4_square_X2_sideOn : GoodIn wsX4_square (wsV RX4 132 RX2 yX2_sideOn wsX2_sideOn) := goodIn_app (goodIn_of _ (by decide +kernel)) ggX4_square_X2_sideOn
set_option maxRecDepth 20000 in
theorem ggX4_square_X2_kindOn : GoodIn wsX4_square wsX2_kindOn := goodIn_ca (goodIn_r _ [51, 52, 53, 54, 13, 55, 19, 20, 21, 22, 23, 66] (by decide +kernel) (by decide +kernel)) (goodIn_sub (fun _ h => List.mem_cons_of_mem _ (List.mem_append_right _ h)) (by decide +kernel))
set_option maxRecDepth 20000 in
theorem gX4_square_X2_kindOn : GoodIn wsX4_square (wsV RX4 135 RX2 yX2_kindOn wsX2_kindOn) := goodIn_app (goodIn_of _ (by decide +kernel)) ggX4_square_X2_kindOn
set_option maxRecDepth 20000 in
theorem ggX4_square_X2_allDoors : GoodIn wsX4_square wsX2_allDoors := goodIn_ca (goodIn_r _ [31, 19, 66] (by decide +kernel) (by decide +kernel)) (goodIn_sub (fun _ h => List.mem_cons_of_mem _ (List.mem_append_right _ h)) (by decide +kernel))
set_option maxRecDepth 20000 in
theorem gX4_square_X2_allDoors : GoodIn wsX4_square (wsV RX4 138 RX2 yX2_allDoors wsX2_allDoors) := goodIn_app (goodIn_of _ (by decide +kernel)) ggX4_square_X2_allDoors
set_option maxRecDepth 20000 in
theorem ggX4_square_X3_has : GoodIn wsX4_square wsX3_has := goodIn_r _ [23] (by decide +kernel) (by decide +kernel)
set_option maxRecDepth 20000 in
theorem gX4_square_X3_has : GoodIn wsX4_square (va_wsS RX4 141 yX3_has wsX3_has) := goodIn_app (goodIn_of _ (by decide +kernel)) ggX4_square_X3_has
theorem dX4_square_0 : decode cX4_square 0 = .ok (.iload_n 1, 1) := by decide +kernel
theorem dX4_square_1 : decode cX4_square 1 = .ok (.invokestatic 67, 3) := by decide +kernel
theorem dX4_square_4 : decode cX4_square 4 = .ok (.iload_n 2, 1) := by decide +kernel
theorem dX4_square_5 : decode cX4_square 5 = .ok (.ifCond .lt 8, 3) := by decide +kernel
theorem dX4_square_8 : decode cX4_square 8 = .ok (.iload_n 2, 1) := by decide +kernel
theorem dX4_square_9 : decode cX4_square 9 = .ok (.iconst 4, 1) := by decide +kernel
theorem dX4_square_10 : decode cX4_square 10 = .ok (.if_icmp .lt 13, 3) := by decide +kernel
theorem dX4_square_13 : decode cX4_square 13 = .ok (.new 70, 3) := by decide +kernel
theorem dX4_square_16 : decode cX4_square 16 = .ok (.dup, 1) := by decide +kernel
theorem dX4_square_17 : decode cX4_square 17 = .ok (.ldc 127, 2) := by decide +kernel
theorem dX4_square_19 : decode cX4_square 19 = .ok (.invokespecial 74, 3) := by decide +kernel
theorem dX4_square_22 : decode cX4_square 22 = .ok (.athrow, 1) := by decide +kernel
theorem dX4_square_23 : decode cX4_square 23 = .ok (.iload_n 2, 1) := by decide +kernel
theorem dX4_square_24 : decode cX4_square 24 = .ok (.tableswitch 55 0 2 #[28, 37, 46], 28) := by decide +kernel
theorem dX4_square_52 : decode cX4_square 52 = .ok (.aload_n 0, 1) := by decide +kernel
theorem dX4_square_53 : decode cX4_square 53 = .ok (.getfield 10, 3) := by decide +kernel
theorem dX4_square_56 : decode cX4_square 56 = .ok (.iload_n 1, 1) := by decide +kernel
theorem dX4_square_57 : decode cX4_square 57 = .ok (.invokevirtual 129, 3) := by decide +kernel
theorem dX4_square_60 : decode cX4_square 60 = .ok (.ireturn, 1) := by decide +kernel
theorem dX4_square_61 : decode cX4_square 61 = .ok (.aload_n 0, 1) := by decide +kernel
theorem dX4_square_62 : decode cX4_square 62 = .ok (.getfield 10, 3) := by decide +kernel
theorem dX4_square_65 : decode cX4_square 65 = .ok (.iload_n 1, 1) := by decide +kernel
theorem dX4_square_66 : decode cX4_square 66 = .ok (.invokevirtual 132, 3) := by decide +kernel
theorem dX4_square_69 : decode cX4_square 69 = .ok (.ireturn, 1) := by decide +kernel
theorem dX4_square_70 : decode cX4_square 70 = .ok (.aload_n 0, 1) := by decide +kernel
theorem dX4_square_71 : decode cX4_square 71 = .ok (.getfield 10, 3) := by decide +kernel
theorem dX4_square_74 : decode cX4_square 74 = .ok (.iload_n 1, 1) := by decide +kernel
theorem dX4_square_75 : decode cX4_square 75 = .ok (.invokevirtual 135, 3) := by decide +kernel
theorem dX4_square_78 : decode cX4_square 78 = .ok (.ireturn, 1) := by decide +kernel
theorem dX4_square_79 : decode cX4_square 79 = .ok (.aload_n 0, 1) := by decide +kernel
theorem dX4_square_80 : decode cX4_square 80 = .ok (.getfield 10, 3) := by decide +kernel
theorem dX4_square_83 : decode cX4_square 83 = .ok (.invokevirtual 138, 3) := by decide +kernel
theorem dX4_square_86 : decode cX4_square 86 = .ok (.iload_n 1, 1) := by decide +kernel
theorem dX4_square_87 : decode cX4_square 87 = .ok (.invokestatic 141, 3) := by decide +kernel
theorem dX4_square_90 : decode cX4_square 90 = .ok (.ifCond .eq 7, 3) := by decide +kernel
theorem dX4_square_93 : decode cX4_square 93 = .ok (.iconst 1, 1) := by decide +kernel
theorem dX4_square_94 : decode cX4_square 94 = .ok (.goto 4, 3) := by decide +kernel
theorem dX4_square_97 : decode cX4_square 97 = .ok (.iconst 0, 1) := by decide +kernel
theorem dX4_square_98 : decode cX4_square 98 = .ok (.ireturn, 1) := by decide +kernel
set_option maxRecDepth 20000 in
theorem ggX4_canMove_X4_requireSquare : GoodIn wsX4_canMove wsX4_requireSquare := goodIn_ca (goodIn_r _ [5, 6, 7] (by decide +kernel) (by decide +kernel)) (goodIn_sub (fun _ h => List.mem_cons_of_mem _ (List.mem_append_left _ (List.mem_append_left _ (List.mem_append_right _ h)))) (by decide +kernel))
set_option maxRecDepth 20000 in
theorem gX4_canMove_X4_requireSquare : GoodIn wsX4_canMove (va_wsS RX4 67 yX4_requireSquare wsX4_requireSquare) := goodIn_app (goodIn_of _ (by decide +kernel)) ggX4_canMove_X4_requireSquare
set_option maxRecDepth 20000 in
theorem ggX4_canMove_X4_requirePiece : GoodIn wsX4_canMove wsX4_requirePiece := goodIn_ca (goodIn_ca (goodIn_r _ [11, 12, 13, 1, 14, 15, 16, 17, 18, 19, 20, 21, 22, 23, 24, 25, 26, 27, 28, 29, 30, 31, 32, 33, 34, 35, 90, 91, 92, 93, 94, 95, 96, 97, 98] (by decide +kernel) (by decide +kernel)) (goodIn_sub (fun _ h => List.mem_cons_of_mem _ (List.mem_append_left _ (List.mem_append_right _ h))) (by decide +kernel))) (goodIn_sub (fun _ h => List.mem_cons_of_mem _ (List.mem_append_right _ h)) (by decide +kernel))
set_option maxRecDepth 20000 in
theorem gX4_canMove_X4_requirePiece : GoodIn wsX4_canMove (wsV RX4 145 RX4 yX4_requirePiece wsX4_requirePiece) := goodIn_app (goodIn_of _ (by decide +kernel)) ggX4_canMove_X4_requirePiece
set_option maxRecDepth 20000 in
theorem ggX4_canMove_X2_targetsOf : GoodIn wsX4_canMove wsX2_targetsOf := goodIn_ca (goodIn_r _ [39, 40, 41, 42, 43, 17, 44, 45, 46, 47, 48, 23, 49, 50, 51, 52, 53, 54, 55, 56, 24, 25, 26, 27, 57, 58, 59, 60, 61, 62, 63, 64, 19, 20, 21, 22, 65, 66, 67, 68, 69, 70, 71, 72, 73, 74, 75, 76, 77, 78, 79, 80, 81, 82, 83, 84, 85, 86, 87, 88, 98] (by decide +kernel) (by decide +kernel)) (goodIn_sub (fun _ h => List.mem_cons_of_mem _ (List.mem_append_right _ h)) (by decide +kernel))
set_option maxRecDepth 20000 in
theorem gX4_canMove_X2_targetsOf : GoodIn wsX4_canMove (wsV RX4 148 RX2 yX2_targetsOf wsX2_targetsOf) := goodIn_app (goodIn_of _ (by decide +kernel)) ggX4_canMove_X2_targetsOf
set_option maxRecDepth 20000 in
theorem ggX4_canMove_X3_has : GoodIn wsX4_canMove wsX3_has := goodIn_r _ [27] (by decide +kernel) (by decide +kernel)
set_option maxRecDepth 20000 in
theorem gX4_canMove_X3_has : GoodIn wsX4_canMove (va_wsS RX4 141 yX3_has wsX3_has) := goodIn_app (goodIn_of _ (by decide +kernel)) ggX4_canMove_X3_has
theorem dX4_canMove_0 : decode cX4_canMove 0 = .ok (.iload_n 1, 1) := by decide +kernel
theorem dX4_canMove_1 : decode cX4_canMove 1 = .ok (.invokestatic 67, 3) := by decide +kernel
theorem dX4_canMove_4 : decode cX4_canMove 4 = .ok (.iload_n 2, 1) := by decide +kernel
theorem dX4_canMove_5 : decode cX4_canMove 5 = .ok (.invokestatic 67, 3) := by decide +kernel
theorem dX4_canMove_8 : decode cX4_canMove 8 = .ok (.aload_n 0, 1) := by decide +kernel
theorem dX4_canMove_9 : decode cX4_canMove 9 = .ok (.iload_n 1, 1) := by decide +kernel
theorem dX4_canMove_10 : decode cX4_canMove 10 = .ok (.invokevirtual 145, 3) := by decide +kernel
theorem dX4_canMove_13 : decode cX4_canMove 13 = .ok (.aload_n 0, 1) := by decide +kernel
theorem dX4_canMove_14 : decode cX4_canMove 14 = .ok (.getfield 10, 3) := by decide +kernel
theorem dX4_canMove_17 : decode cX4_canMove 17 = .ok (.iload_n 1, 1) := by decide +kernel
theorem dX4_canMove_18 : decode cX4_canMove 18 = .ok (.invokevirtual 148, 3) := by decide +kernel
theorem dX4_canMove_21 : decode cX4_canMove 21 = .ok (.iload_n 2, 1) := by decide +kernel
theorem dX4_canMove_22 : decode cX4_canMove 22 = .ok (.invokestatic 141, 3) := by decide +kernel
theorem dX4_canMove_25 : decode cX4_canMove 25 = .ok (.ireturn, 1) := by decide +kernel
set_option maxRecDepth 20000 in
theorem ggX4_moves_X4_requireSquare : GoodIn wsX4_moves wsX4_requireSquare := goodIn_ca (goodIn_r _ [5, 6, 7] (by decide +kernel) (by decide +kernel)) (goodIn_sub (fun _ h => List.mem_cons_of_mem _ (List.mem_append_left _ (List.mem_append_left _ (List.mem_append_right _ h)))) (by decide +kernel))
set_option maxRecDepth 20000 in
theorem gX4_moves_X4_requireSquare : GoodIn wsX4_moves (va_wsS RX4 67 yX4_requireSquare wsX4_requireSquare) := goodIn_app (goodIn_of _ (by decide +kernel)) ggX4_moves_X4_requireSquare
set_option maxRecDepth 20000 in
theorem ggX4_moves_X4_requirePiece : GoodIn wsX4_moves wsX4_requirePiece := goodIn_ca (goodIn_ca (goodIn_r _ [11, 12, 13, 1, 14, 15, 16, 17, 18, 19, 20, 21, 22, 23, 24, 25, 26, 27, 28, 29, 30, 31, 32, 33, 34, 35, 99, 100, 101, 102, 103, 104, 105, 106, 107] (by decide +kernel) (by decide +kernel)) (goodIn_sub (fun _ h => List.mem_cons_of_mem _ (List.mem_append_left _ (List.mem_append_right _ h))) (by decide +kernel))) (goodIn_sub (fun _ h => List.mem_cons_of_mem _ (List.mem_append_right _ h)) (by decide +kernel))
set_option maxRecDepth 20000 in
theorem gX4_moves_X4_requirePiece : GoodIn wsX4_moves (wsV RX4 145 RX4 yX4_requirePiece wsX4_requirePiece) := goodIn_app (goodIn_of _ (by decide +kernel)) ggX4_moves_X4_requirePiece
set_option maxRecDepth 20000 in
theorem ggX4_moves_X2_targetsOf : GoodIn wsX4_moves wsX2_targetsOf := goodIn_ca (goodIn_r _ [39, 40, 41, 42, 43, 17, 44, 45, 46, 47, 48, 23, 49, 50, 51, 52, 53, 54, 55, 56, 24, 25, 26, 27, 57, 58, 59, 60, 61, 62, 63, 64, 19, 20, 21, 22, 65, 66, 67, 68, 69, 70, 71, 72, 73, 74, 75, 76, 77, 78, 79, 80, 81, 82, 83, 84, 85, 86, 87, 88, 107] (by decide +kernel) (by decide +kernel)) (goodIn_sub (fun _ h => List.mem_cons_of_mem _ (List.mem_append_right _ h)) (by decide +kernel))
set_option maxRecDepth 20000 in
theorem gX4_moves_X2_targetsOf : GoodIn wsX4_moves (wsV RX4 148 RX2 yX2_targetsOf wsX2_targetsOf) := goodIn_app (goodIn_of _ (by decide +kernel)) ggX4_moves_X2_targetsOf
set_option maxRecDepth 20000 in
theorem ggX4_moves_X3_size : GoodIn wsX4_moves wsX3_size := goodIn_r _ [91, 92, 93, 94, 95, 96, 97, 98] (by decide +kernel) (by decide +kernel)
set_option maxRecDepth 20000 in
theorem gX4_moves_X3_size : GoodIn wsX4_moves (va_wsS RX4 54 yX3_size wsX3_size) := goodIn_app (goodIn_of _ (by decide +kernel)) ggX4_moves_X3_size
theorem dX4_moves_0 : decode cX4_moves 0 = .ok (.iload_n 1, 1) := by decide +kernel
theorem dX4_moves_1 : decode cX4_moves 1 = .ok (.invokestatic 67, 3) := by decide +kernel
theorem dX4_moves_4 : decode cX4_moves 4 = .ok (.aload_n 0, 1) := by decide +kernel
theorem dX4_moves_5 : decode cX4_moves 5 = .ok (.iload_n 1, 1) := by decide +kernel
theorem dX4_moves_6 : decode cX4_moves 6 = .ok (.invokevirtual 145, 3) := by decide +kernel
theorem dX4_moves_9 : decode cX4_moves 9 = .ok (.aload_n 0, 1) := by decide +kernel
theorem dX4_moves_10 : decode cX4_moves 10 = .ok (.getfield 10, 3) := by decide +kernel
theorem dX4_moves_13 : decode cX4_moves 13 = .ok (.iload_n 1, 1) := by decide +kernel
theorem dX4_moves_14 : decode cX4_moves 14 = .ok (.invokevirtual 148, 3) := by decide +kernel
theorem dX4_moves_17 : decode cX4_moves 17 = .ok (.invokestatic 54, 3) := by decide +kernel
theorem dX4_moves_20 : decode cX4_moves 20 = .ok (.ireturn, 1) := by decide +kernel
set_option maxRecDepth 20000 in
theorem ggX4_captures_X4_requireSquare : GoodIn wsX4_captures wsX4_requireSquare := goodIn_ca (goodIn_r _ [6, 7, 8] (by decide +kernel) (by decide +kernel)) (goodIn_sub (fun _ h => List.mem_cons_of_mem _ (List.mem_append_left _ (List.mem_append_left _ (List.mem_append_right _ h)))) (by decide +kernel))
set_option maxRecDepth 20000 in
theorem gX4_captures_X4_requireSquare : GoodIn wsX4_captures (va_wsS RX4 67 yX4_requireSquare wsX4_requireSquare) := goodIn_app (goodIn_of _ (by decide +kernel)) ggX4_captures_X4_requireSquare
set_option maxRecDepth 20000 in
theorem ggX4_captures_X4_requirePiece : GoodIn wsX4_captures wsX4_requirePiece := goodIn_ca (goodIn_ca (goodIn_r _ [12, 13, 14, 2, 15, 16, 17, 18, 19, 20, 21, 22, 23, 24, 25, 26, 27, 28, 29, 30, 31, 32, 33, 34, 35, 36, 136, 137, 138, 139, 140, 141, 142, 143, 144] (by decide +kernel) (by decide +kernel)) (goodIn_sub (fun _ h => List.mem_cons_of_mem _ (List.mem_append_left _ (List.mem_append_right _ h))) (by decide +kernel))) (goodIn_sub (fun _ h => List.mem_cons_of_mem _ (List.mem_append_right _ h)) (by decide +kernel))
set_option maxRecDepth 20000 in
theorem gX4_captures_X4_requirePiece : GoodIn wsX4_captures (wsV RX4 145 RX4 yX4_requirePiece wsX4_requirePiece) := goodIn_app (goodIn_of _ (by decide +kernel)) ggX4_captures_X4_requirePiece
set_option maxRecDepth 20000 in
theorem ggX4_captures_X4_requireTarget : GoodIn wsX4_captures wsX4_requireTarget := goodIn_ca (goodIn_ca (goodIn_r _ [40, 13, 14, 2, 41, 42, 43, 18, 44, 45, 46, 47, 48, 49, 50, 51, 52, 53, 24, 54, 55, 56, 57, 58, 59, 60, 61, 25, 26, 27, 28, 62, 63, 64, 65, 66, 67, 68, 69, 20, 21, 22, 23, 70, 71, 72, 73, 74, 75, 76, 77, 78, 79, 80, 81, 82, 83, 84, 85, 86, 87, 88, 89, 90, 91, 92, 93, 94, 136, 137, 138, 139, 140, 141, 142, 143, 144] (by decide +kernel) (by decide +kernel)) (goodIn_sub (fun _ h => List.mem_cons_of_mem _ (List.mem_append_left _ (List.mem_append_right _ h))) (by decide +kernel))) (goodIn_sub (fun _ h => List.mem_cons_of_mem _ (List.mem_append_right _ h)) (by decide +kernel))
set_option maxRecDepth 20000 in
theorem gX4_captures_X4_requireTarget : GoodIn wsX4_captures (wsV RX4 151 RX4 yX4_requireTarget wsX4_requireTarget) := goodIn_app (goodIn_of _ (by decide +kernel)) ggX4_captures_X4_requireTarget
set_option maxRecDepth 20000 in
theorem ggX4_captures_X2_copyFrom : GoodIn wsX4_captures wsX2_copyFrom := goodIn_ca (goodIn_r _ [98, 24, 144] (by decide +kernel) (by decide +kernel)) (goodIn_sub (fun _ h => List.mem_cons_of_mem _ (List.mem_append_right _ h)) (by decide +kernel))
set_option maxRecDepth 20000 in
theorem gX4_captures_X2_copyFrom : GoodIn wsX4_captures (wsV RX4 155 RX2 yX2_copyFrom wsX2_copyFrom) := goodIn_app (goodIn_of _ (by decide +kernel)) ggX4_captures_X2_copyFrom
set_option maxRecDepth 20000 in
theorem ggX4_captures_X2_movePiece : GoodIn wsX4_captures wsX2_movePiece := goodIn_ca (goodIn_r _ [102, 46, 47, 48, 18, 49, 50, 51, 52, 53, 24, 54, 55, 56, 57, 58, 59, 60, 61, 25, 26, 27, 28, 70, 71, 72, 73, 74, 75, 76, 77, 62, 63, 64, 103, 104, 105, 106, 45, 107, 108, 109, 110, 111, 112, 113, 114, 115, 116, 117, 118, 119, 82, 83, 84, 85, 86, 120, 5, 121, 122, 123, 124, 125, 126, 127, 128, 129, 130, 131, 132, 133, 134, 135, 144] (by decide +kernel) (by decide +kernel)) (goodIn_sub (fun _ h => List.mem_cons_of_mem _ (List.mem_append_right _ h)) (by decide +kernel))
set_option maxRecDepth 20000 in
theorem gX4_captures_X2_movePiece : GoodIn wsX4_captures (wsV RX4 158 RX2 yX2_movePiece wsX2_movePiece) := goodIn_app (goodIn_of _ (by decide +kernel)) ggX4_captures_X2_movePiece
theorem dX4_captures_0 : decode cX4_captures 0 = .ok (.iload_n 1, 1) := by decide +kernel
theorem dX4_captures_1 : decode cX4_captures 1 = .ok (.invokestatic 67, 3) := by decide +kernel
theorem dX4_captures_4 : decode cX4_captures 4 = .ok (.iload_n 2, 1) := by decide +kernel
theorem dX4_captures_5 : decode cX4_captures 5 = .ok (.invokestatic 67, 3) := by decide +kernel
theorem dX4_captures_8 : decode cX4_captures 8 = .ok (.aload_n 0, 1) := by decide +kernel
theorem dX4_captures_9 : decode cX4_captures 9 = .ok (.iload_n 1, 1) := by decide +kernel
theorem dX4_captures_10 : decode cX4_captures 10 = .ok (.invokevirtual 145, 3) := by decide +kernel
theorem dX4_captures_13 : decode cX4_captures 13 = .ok (.aload_n 0, 1) := by decide +kernel
theorem dX4_captures_14 : decode cX4_captures 14 = .ok (.iload_n 1, 1) := by decide +kernel
theorem dX4_captures_15 : decode cX4_captures 15 = .ok (.iload_n 2, 1) := by decide +kernel
theorem dX4_captures_16 : decode cX4_captures 16 = .ok (.invokevirtual 151, 3) := by decide +kernel
theorem dX4_captures_19 : decode cX4_captures 19 = .ok (.aload_n 0, 1) := by decide +kernel
theorem dX4_captures_20 : decode cX4_captures 20 = .ok (.getfield 16, 3) := by decide +kernel
theorem dX4_captures_23 : decode cX4_captures 23 = .ok (.aload_n 0, 1) := by decide +kernel
theorem dX4_captures_24 : decode cX4_captures 24 = .ok (.getfield 10, 3) := by decide +kernel
theorem dX4_captures_27 : decode cX4_captures 27 = .ok (.invokevirtual 155, 3) := by decide +kernel
theorem dX4_captures_30 : decode cX4_captures 30 = .ok (.aload_n 0, 1) := by decide +kernel
theorem dX4_captures_31 : decode cX4_captures 31 = .ok (.getfield 16, 3) := by decide +kernel
theorem dX4_captures_34 : decode cX4_captures 34 = .ok (.iload_n 1, 1) := by decide +kernel
theorem dX4_captures_35 : decode cX4_captures 35 = .ok (.iload_n 2, 1) := by decide +kernel
theorem dX4_captures_36 : decode cX4_captures 36 = .ok (.invokevirtual 158, 3) := by decide +kernel
theorem dX4_captures_39 : decode cX4_captures 39 = .ok (.ireturn, 1) := by decide +kernel
set_option maxRecDepth 20000 in
theorem ggX4_best_X2_isOver : GoodIn wsX4_best wsX2_isOver := goodIn_ca (goodIn_r _ [8, 9, 151] (by decide +kernel) (by decide +kernel)) (goodIn_sub (fun _ h => List.mem_cons_of_mem _ (List.mem_append_right _ h)) (by decide +kernel))
set_option maxRecDepth 20000 in
theorem gX4_best_X2_isOver : GoodIn wsX4_best (wsV RX4 161 RX2 yX2_isOver wsX2_isOver) := goodIn_app (goodIn_of _ (by decide +kernel)) ggX4_best_X2_isOver
set_option maxRecDepth 20000 in
theorem ggX4_best_X4_bestMove : GoodIn wsX4_best wsX4_bestMove := goodIn_ca (goodIn_r _ [14, 3, 15, 16, 17, 7, 18, 19, 20, 21, 22, 9, 23, 24, 25, 26, 27, 28, 29, 30, 31, 32, 33, 34, 35, 36, 37, 38, 39, 40, 41, 42, 43, 44, 45, 46, 47, 48, 49, 50, 51, 52, 53, 54, 55, 56, 57, 58, 59, 60, 61, 62, 63, 64, 65, 66, 67, 68, 69, 70, 71, 72, 73, 74, 75, 76, 77, 78, 79, 80, 81, 82, 83, 84, 85, 86, 87, 88, 13, 89, 90, 91, 92, 93, 94, 95, 96, 97, 98, 99, 100, 101, 102, 103, 104, 105, 106, 107, 108, 109, 110, 111, 112, 113, 114, 115, 116, 117, 118, 119, 120, 121, 122, 123, 124, 125, 126, 127, 128, 129, 130, 131, 132, 133, 134, 135, 136, 137, 138, 139, 140, 141, 142, 143, 144, 145, 146, 147, 148, 149, 150, 151] (by decide +kernel) (by decide +kernel)) (goodIn_sub (fun _ h => List.mem_cons_of_mem _ (List.mem_append_right _ h)) (by decide +kernel))
set_option maxRecDepth 20000 in
theorem gX4_best_X4_bestMove : GoodIn wsX4_best (wsV RX4 170 RX4 yX4_bestMove wsX4_bestMove) := goodIn_app (goodIn_of _ (by decide +kernel)) ggX4_best_X4_bestMove
theorem dX4_best_0 : decode cX4_best 0 = .ok (.aload_n 0, 1) := by decide +kernel
theorem dX4_best_1 : decode cX4_best 1 = .ok (.getfield 10, 3) := by decide +kernel
theorem dX4_best_4 : decode cX4_best 4 = .ok (.invokevirtual 161, 3) := by decide +kernel
theorem dX4_best_7 : decode cX4_best 7 = .ok (.ifCond .eq 13, 3) := by decide +kernel
theorem dX4_best_10 : decode cX4_best 10 = .ok (.new 165, 3) := by decide +kernel
theorem dX4_best_13 : decode cX4_best 13 = .ok (.dup, 1) := by decide +kernel
theorem dX4_best_14 : decode cX4_best 14 = .ok (.ldc 167, 2) := by decide +kernel
theorem dX4_best_16 : decode cX4_best 16 = .ok (.invokespecial 169, 3) := by decide +kernel
theorem dX4_best_19 : decode cX4_best 19 = .ok (.athrow, 1) := by decide +kernel
theorem dX4_best_20 : decode cX4_best 20 = .ok (.aload_n 0, 1) := by decide +kernel
theorem dX4_best_21 : decode cX4_best 21 = .ok (.invokevirtual 170, 3) := by decide +kernel
theorem dX4_best_24 : decode cX4_best 24 = .ok (.istore_n 1, 1) := by decide +kernel
theorem dX4_best_25 : decode cX4_best 25 = .ok (.iload_n 1, 1) := by decide +kernel
theorem dX4_best_26 : decode cX4_best 26 = .ok (.iconst (-1), 1) := by decide +kernel
theorem dX4_best_27 : decode cX4_best 27 = .ok (.if_icmp .ne 13, 3) := by decide +kernel
theorem dX4_best_30 : decode cX4_best 30 = .ok (.new 165, 3) := by decide +kernel
theorem dX4_best_33 : decode cX4_best 33 = .ok (.dup, 1) := by decide +kernel
theorem dX4_best_34 : decode cX4_best 34 = .ok (.ldc 174, 2) := by decide +kernel
theorem dX4_best_36 : decode cX4_best 36 = .ok (.invokespecial 169, 3) := by decide +kernel
theorem dX4_best_39 : decode cX4_best 39 = .ok (.athrow, 1) := by decide +kernel
theorem dX4_best_40 : decode cX4_best 40 = .ok (.iload_n 1, 1) := by decide +kernel
theorem dX4_best_41 : decode cX4_best 41 = .ok (.ireturn, 1) := by decide +kernel
set_option maxRecDepth 20000 in
theorem ggX4_worth_X4_requireSquare : GoodIn wsX4_worth wsX4_requireSquare := goodIn_ca (goodIn_r _ [7, 8, 9] (by decide +kernel) (by decide +kernel)) (goodIn_sub (fun _ h => List.mem_cons_of_mem _ (List.mem_append_left _ (List.mem_append_right _ h))) (by decide +kernel))
set_option maxRecDepth 20000 in
theorem gX4_worth_X4_requireSquare : GoodIn wsX4_worth (va_wsS RX4 67 yX4_requireSquare wsX4_requireSquare) := goodIn_app (goodIn_of _ (by decide +kernel)) ggX4_worth_X4_requireSquare
set_option maxRecDepth 20000 in
theorem ggX4_worth_X2_mover : GoodIn wsX4_worth wsX2_mover := goodIn_ca (goodIn_r _ [14, 15, 16, 17, 13, 18, 19, 152] (by decide +kernel) (by decide +kernel)) (goodIn_sub (fun _ h => List.mem_cons_of_mem _ (List.mem_append_right _ h)) (by decide +kernel))
set_option maxRecDepth 20000 in
theorem gX4_worth_X2_mover : GoodIn wsX4_worth (wsV RX4 176 RX2 yX2_mover wsX2_mover) := goodIn_app (goodIn_of _ (by decide +kernel)) ggX4_worth_X2_mover
set_option maxRecDepth 20000 in
theorem ggX4_worth_X2_piecesOf : GoodIn wsX4_worth wsX2_piecesOf := goodIn_ca (goodIn_r _ [23, 19, 152] (by decide +kernel) (by decide +kernel)) (goodIn_sub (fun _ h => List.mem_cons_of_mem _ (List.mem_append_right _ h)) (by decide +kernel))
set_option maxRecDepth 20000 in
theorem gX4_worth_X2_piecesOf : GoodIn wsX4_worth (wsV RX4 97 RX2 yX2_piecesOf wsX2_piecesOf) := goodIn_app (goodIn_of _ (by decide +kernel)) ggX4_worth_X2_piecesOf
set_option maxRecDepth 20000 in
theorem ggX4_worth_X3_has : GoodIn wsX4_worth wsX3_has := goodIn_r _ [27] (by decide +kernel) (by decide +kernel)
set_option maxRecDepth 20000 in
theorem gX4_worth_X3_has : GoodIn wsX4_worth (va_wsS RX4 141 yX3_has wsX3_has) := goodIn_app (goodIn_of _ (by decide +kernel)) ggX4_worth_X3_has
set_option maxRecDepth 20000 in
theorem ggX4_worth_X4_requireTarget : GoodIn wsX4_worth wsX4_requireTarget := goodIn_ca (goodIn_ca (goodIn_r _ [31, 1, 2, 3, 32, 33, 34, 13, 35, 36, 37, 38, 39, 40, 41, 21, 22, 23, 19, 42, 43, 44, 45, 46, 47, 48, 49, 50, 25, 26, 27, 51, 52, 53, 54, 55, 56, 57, 58, 59, 60, 61, 62, 63, 64, 65, 66, 67, 68, 69, 70, 71, 72, 73, 74, 75, 76, 77, 78, 79, 80, 81, 82, 83, 84, 85, 86, 24, 144, 145, 146, 147, 148, 149, 150, 151, 152] (by decide +kernel) (by decide +kernel)) (goodIn_sub (fun _ h => List.mem_cons_of_mem _ (List.mem_append_left _ (List.mem_append_left _ (List.mem_append_right _ h)))) (by decide +kernel))) (goodIn_sub (fun _ h => List.mem_cons_of_mem _ (List.mem_append_right _ h)) (by decide +kernel))
set_option maxRecDepth 20000 in
theorem gX4_worth_X4_requireTarget : GoodIn wsX4_worth (wsV RX4 151 RX4 yX4_requireTarget wsX4_requireTarget) := goodIn_app (goodIn_of _ (by decide +kernel)) ggX4_worth_X4_requireTarget
set_option maxRecDepth 20000 in
theorem ggX4_worth_X4_worthOfMove : GoodIn wsX4_worth wsX4_worthOfMove := goodIn_ca (goodIn_r _ [90, 91, 3, 92, 93, 94, 13, 95, 19, 96, 97, 98, 99, 37, 38, 39, 40, 41, 21, 22, 23, 42, 43, 44, 45, 46, 47, 48, 49, 50, 25, 26, 27, 63, 64, 65, 66, 67, 68, 69, 70, 51, 52, 53, 100, 101, 102, 103, 36, 104, 105, 106, 107, 108, 109, 110, 111, 112, 113, 114, 115, 116, 75, 76, 77, 78, 79, 117, 6, 118, 119, 120, 121, 122, 123, 124, 125, 126, 127, 128, 129, 130, 131, 132, 10, 11, 12, 14, 15, 16, 17, 18, 133, 134, 135, 136, 137, 54, 55, 56, 57, 58, 138, 139, 140, 141, 142, 143, 83, 84, 85, 144, 145, 146, 147, 148, 149, 150, 151, 152] (by decide +kernel) (by decide +kernel)) (goodIn_sub (fun _ h => List.mem_cons_of_mem _ (List.mem_append_right _ h)) (by decide +kernel))
set_option maxRecDepth 20000 in
theorem gX4_worth_X4_worthOfMove : GoodIn wsX4_worth (wsV RX4 181 RX4 yX4_worthOfMove wsX4_worthOfMove) := goodIn_app (goodIn_of _ (by decide +kernel)) ggX4_worth_X4_worthOfMove
theorem dX4_worth_0 : decode cX4_worth 0 = .ok (.iload_n 1, 1) := by decide +kernel
theorem dX4_worth_1 : decode cX4_worth 1 = .ok (.invokestatic 67, 3) := by decide +kernel
theorem dX4_worth_4 : decode cX4_worth 4 = .ok (.iload_n 2, 1) := by decide +kernel
theorem dX4_worth_5 : decode cX4_worth 5 = .ok (.invokestatic 67, 3) := by decide +kernel
theorem dX4_worth_8 : decode cX4_worth 8 = .ok (.aload_n 0, 1) := by decide +kernel
theorem dX4_worth_9 : decode cX4_worth 9 = .ok (.getfield 10, 3) := by decide +kernel
theorem dX4_worth_12 : decode cX4_worth 12 = .ok (.aload_n 0, 1) := by decide +kernel
theorem dX4_worth_13 : decode cX4_worth 13 = .ok (.getfield 10, 3) := by decide +kernel
theorem dX4_worth_16 : decode cX4_worth 16 = .ok (.invokevirtual 176, 3) := by decide +kernel
theorem dX4_worth_19 : decode cX4_worth 19 = .ok (.invokevirtual 97, 3) := by decide +kernel
theorem dX4_worth_22 : decode cX4_worth 22 = .ok (.iload_n 1, 1) := by decide +kernel
theorem dX4_worth_23 : decode cX4_worth 23 = .ok (.invokestatic 141, 3) := by decide +kernel
theorem dX4_worth_26 : decode cX4_worth 26 = .ok (.ifCond .ne 13, 3) := by decide +kernel
theorem dX4_worth_29 : decode cX4_worth 29 = .ok (.new 165, 3) := by decide +kernel
theorem dX4_worth_32 : decode cX4_worth 32 = .ok (.dup, 1) := by decide +kernel
theorem dX4_worth_33 : decode cX4_worth 33 = .ok (.ldc 179, 2) := by decide +kernel
theorem dX4_worth_35 : decode cX4_worth 35 = .ok (.invokespecial 169, 3) := by decide +kernel
theorem dX4_worth_38 : decode cX4_worth 38 = .ok (.athrow, 1) := by decide +kernel
theorem dX4_worth_39 : decode cX4_worth 39 = .ok (.aload_n 0, 1) := by decide +kernel
theorem dX4_worth_40 : decode cX4_worth 40 = .ok (.iload_n 1, 1) := by decide +kernel
theorem dX4_worth_41 : decode cX4_worth 41 = .ok (.iload_n 2, 1) := by decide +kernel
theorem dX4_worth_42 : decode cX4_worth 42 = .ok (.invokevirtual 151, 3) := by decide +kernel
theorem dX4_worth_45 : decode cX4_worth 45 = .ok (.aload_n 0, 1) := by decide +kernel
theorem dX4_worth_46 : decode cX4_worth 46 = .ok (.iload_n 1, 1) := by decide +kernel
theorem dX4_worth_47 : decode cX4_worth 47 = .ok (.iload_n 2, 1) := by decide +kernel
theorem dX4_worth_48 : decode cX4_worth 48 = .ok (.invokevirtual 181, 3) := by decide +kernel
theorem dX4_worth_51 : decode cX4_worth 51 = .ok (.ireturn, 1) := by decide +kernel
set_option maxRecDepth 20000 in
theorem ggX4_rooms_X4_requireSide : GoodIn wsX4_rooms wsX4_requireSide := goodIn_ca (goodIn_r _ [5, 6, 7] (by decide +kernel) (by decide +kernel)) (goodIn_sub (fun _ h => List.mem_cons_of_mem _ (List.mem_append_left _ (List.mem_append_right _ h))) (by decide +kernel))
set_option maxRecDepth 20000 in
theorem gX4_rooms_X4_requireSide : GoodIn wsX4_rooms (va_wsS RX4 63 yX4_requireSide wsX4_requireSide) := goodIn_app (goodIn_of _ (by decide +kernel)) ggX4_rooms_X4_requireSide
set_option maxRecDepth 20000 in
theorem ggX4_rooms_X2_countRooms : GoodIn wsX4_rooms wsX2_countRooms := goodIn_ca (goodIn_r _ [12, 13, 14, 15, 16, 11, 17, 18, 19, 20, 21, 22, 23, 24, 25, 26, 27, 28, 29, 30, 31, 32, 41] (by decide +kernel) (by decide +kernel)) (goodIn_sub (fun _ h => List.mem_cons_of_mem _ (List.mem_append_right _ h)) (by decide +kernel))
set_option maxRecDepth 20000 in
theorem gX4_rooms_X2_countRooms : GoodIn wsX4_rooms (wsV RX4 184 RX2 yX2_countRooms wsX2_countRooms) := goodIn_app (goodIn_of _ (by decide +kernel)) ggX4_rooms_X2_countRooms
theorem dX4_rooms_0 : decode cX4_rooms 0 = .ok (.iload_n 1, 1) := by decide +kernel
theorem dX4_rooms_1 : decode cX4_rooms 1 = .ok (.invokestatic 63, 3) := by decide +kernel
theorem dX4_rooms_4 : decode cX4_rooms 4 = .ok (.aload_n 0, 1) := by decide +kernel
theorem dX4_rooms_5 : decode cX4_rooms 5 = .ok (.getfield 10, 3) := by decide +kernel
theorem dX4_rooms_8 : decode cX4_rooms 8 = .ok (.iload_n 1, 1) := by decide +kernel
theorem dX4_rooms_9 : decode cX4_rooms 9 = .ok (.invokevirtual 184, 3) := by decide +kernel
theorem dX4_rooms_12 : decode cX4_rooms 12 = .ok (.ireturn, 1) := by decide +kernel
set_option maxRecDepth 20000 in
theorem ggX4_room_X4_requireSide : GoodIn wsX4_room wsX4_requireSide := goodIn_ca (goodIn_r _ [7, 8, 9] (by decide +kernel) (by decide +kernel)) (goodIn_sub (fun _ h => List.mem_cons_of_mem _ (List.mem_append_left _ (List.mem_append_right _ h))) (by decide +kernel))
set_option maxRecDepth 20000 in
theorem gX4_room_X4_requireSide : GoodIn wsX4_room (va_wsS RX4 63 yX4_requireSide wsX4_requireSide) := goodIn_app (goodIn_of _ (by decide +kernel)) ggX4_room_X4_requireSide
set_option maxRecDepth 20000 in
theorem ggX4_room_X4_requireSquare : GoodIn wsX4_room wsX4_requireSquare := goodIn_ca (goodIn_r _ [12, 8, 9] (by decide +kernel) (by decide +kernel)) (goodIn_sub (fun _ h => List.mem_cons_of_mem _ (List.mem_append_left _ (List.mem_append_right _ h))) (by decide +kernel))
set_option maxRecDepth 20000 in
theorem gX4_room_X4_requireSquare : GoodIn wsX4_room (va_wsS RX4 67 yX4_requireSquare wsX4_requireSquare) := goodIn_app (goodIn_of _ (by decide +kernel)) ggX4_room_X4_requireSquare
set_option maxRecDepth 20000 in
theorem ggX4_room_X2_roomNumberOf : GoodIn wsX4_room wsX2_roomNumberOf := goodIn_ca (goodIn_r _ [17, 18, 19, 20, 21, 16, 22, 23, 24, 25, 26, 27, 28, 29, 30, 31, 32, 33, 34, 35, 36, 37, 38, 39, 40, 49] (by decide +kernel) (by decide +kernel)) (goodIn_sub (fun _ h => List.mem_cons_of_mem _ (List.mem_append_right _ h)) (by decide +kernel))
set_option maxRecDepth 20000 in
theorem gX4_room_X2_roomNumberOf : GoodIn wsX4_room (wsV RX4 187 RX2 yX2_roomNumberOf wsX2_roomNumberOf) := goodIn_app (goodIn_of _ (by decide +kernel)) ggX4_room_X2_roomNumberOf
theorem dX4_room_0 : decode cX4_room 0 = .ok (.iload_n 1, 1) := by decide +kernel
theorem dX4_room_1 : decode cX4_room 1 = .ok (.invokestatic 63, 3) := by decide +kernel
theorem dX4_room_4 : decode cX4_room 4 = .ok (.iload_n 2, 1) := by decide +kernel
theorem dX4_room_5 : decode cX4_room 5 = .ok (.invokestatic 67, 3) := by decide +kernel
theorem dX4_room_8 : decode cX4_room 8 = .ok (.aload_n 0, 1) := by decide +kernel
theorem dX4_room_9 : decode cX4_room 9 = .ok (.getfield 10, 3) := by decide +kernel
theorem dX4_room_12 : decode cX4_room 12 = .ok (.iload_n 1, 1) := by decide +kernel
theorem dX4_room_13 : decode cX4_room 13 = .ok (.iload_n 2, 1) := by decide +kernel
theorem dX4_room_14 : decode cX4_room 14 = .ok (.invokevirtual 187, 3) := by decide +kernel
theorem dX4_room_17 : decode cX4_room 17 = .ok (.istore_n 3, 1) := by decide +kernel
theorem dX4_room_18 : decode cX4_room 18 = .ok (.iload_n 3, 1) := by decide +kernel
theorem dX4_room_19 : decode cX4_room 19 = .ok (.iconst (-1), 1) := by decide +kernel
theorem dX4_room_20 : decode cX4_room 20 = .ok (.if_icmp .ne 13, 3) := by decide +kernel
theorem dX4_room_23 : decode cX4_room 23 = .ok (.new 165, 3) := by decide +kernel
theorem dX4_room_26 : decode cX4_room 26 = .ok (.dup, 1) := by decide +kernel
theorem dX4_room_27 : decode cX4_room 27 = .ok (.ldc 190, 2) := by decide +kernel
theorem dX4_room_29 : decode cX4_room 29 = .ok (.invokespecial 169, 3) := by decide +kernel
theorem dX4_room_32 : decode cX4_room 32 = .ok (.athrow, 1) := by decide +kernel
theorem dX4_room_33 : decode cX4_room 33 = .ok (.iload_n 3, 1) := by decide +kernel
theorem dX4_room_34 : decode cX4_room 34 = .ok (.ireturn, 1) := by decide +kernel
set_option maxRecDepth 20000 in
theorem ggX4_roomOf_X4_requireSide : GoodIn wsX4_roomOf wsX4_requireSide := goodIn_ca (goodIn_r _ [9, 1, 2] (by decide +kernel) (by decide +kernel)) (goodIn_sub (fun _ h => List.mem_cons_of_mem _ (List.mem_append_left _ (List.mem_append_left _ (List.mem_append_right _ h)))) (by decide +kernel))
set_option maxRecDepth 20000 in
theorem gX4_roomOf_X4_requireSide : GoodIn wsX4_roomOf (va_wsS RX4 63 yX4_requireSide wsX4_requireSide) := goodIn_app (goodIn_of _ (by decide +kernel)) ggX4_roomOf_X4_requireSide
set_option maxRecDepth 20000 in
theorem ggX4_roomOf_X2_roomNumbered : GoodIn wsX4_roomOf wsX2_roomNumbered := goodIn_ca (goodIn_r _ [14, 15, 16, 17, 18, 13, 19, 20, 21, 22, 23, 24, 25, 26, 27, 28, 29, 30, 31, 32, 33, 34, 67] (by decide +kernel) (by decide +kernel)) (goodIn_sub (fun _ h => List.mem_cons_of_mem _ (List.mem_append_right _ h)) (by decide +kernel))
set_option maxRecDepth 20000 in
theorem gX4_roomOf_X2_roomNumbered : GoodIn wsX4_roomOf (wsV RX4 192 RX2 yX2_roomNumbered wsX2_roomNumbered) := goodIn_app (goodIn_of _ (by decide +kernel)) ggX4_roomOf_X2_roomNumbered
set_option maxRecDepth 20000 in
theorem ggX4_roomOf_X3_size : GoodIn wsX4_roomOf wsX3_size := goodIn_r _ [37, 38, 39, 40, 41, 42, 43, 44] (by decide +kernel) (by decide +kernel)
set_option maxRecDepth 20000 in
theorem gX4_roomOf_X3_size : GoodIn wsX4_roomOf (va_wsS RX4 54 yX3_size wsX3_size) := goodIn_app (goodIn_of _ (by decide +kernel)) ggX4_roomOf_X3_size
set_option maxRecDepth 20000 in
theorem ggX4_roomOf_X2_piecesOf : GoodIn wsX4_roomOf wsX2_piecesOf := goodIn_ca (goodIn_r _ [48, 20, 67] (by decide +kernel) (by decide +kernel)) (goodIn_sub (fun _ h => List.mem_cons_of_mem _ (List.mem_append_right _ h)) (by decide +kernel))
set_option maxRecDepth 20000 in
theorem gX4_roomOf_X2_piecesOf : GoodIn wsX4_roomOf (wsV RX4 97 RX2 yX2_piecesOf wsX2_piecesOf) := goodIn_app (goodIn_of _ (by decide +kernel)) ggX4_roomOf_X2_piecesOf
set_option maxRecDepth 20000 in
theorem ggX4_roomOf_X4_otherSide : GoodIn wsX4_roomOf wsX4_otherSide := goodIn_r _ [51] (by decide +kernel) (by decide +kernel)
set_option maxRecDepth 20000 in
theorem gX4_roomOf_X4_otherSide : GoodIn wsX4_roomOf (va_wsS RX4 203 yX4_otherSide wsX4_otherSide) := goodIn_app (goodIn_of _ (by decide +kernel)) ggX4_roomOf_X4_otherSide
set_option maxRecDepth 20000 in
theorem ggX4_roomOf_X2_allDoors : GoodIn wsX4_roomOf wsX2_allDoors := goodIn_ca (goodIn_r _ [55, 20, 67] (by decide +kernel) (by decide +kernel)) (goodIn_sub (fun _ h => List.mem_cons_of_mem _ (List.mem_append_right _ h)) (by decide +kernel))
set_option maxRecDepth 20000 in
theorem gX4_roomOf_X2_allDoors : GoodIn wsX4_roomOf (wsV RX4 138 RX2 yX2_allDoors wsX2_allDoors) := goodIn_app (goodIn_of _ (by decide +kernel)) ggX4_roomOf_X2_allDoors
set_option maxRecDepth 20000 in
theorem ggX4_roomOf_X3_lowest : GoodIn wsX4_roomOf wsX3_lowest := goodIn_r _ [58, 38, 39, 40, 41, 42, 43, 44] (by decide +kernel) (by decide +kernel)
set_option maxRecDepth 20000 in
theorem gX4_roomOf_X3_lowest : GoodIn wsX4_roomOf (va_wsS RX4 206 yX3_lowest wsX3_lowest) := goodIn_app (goodIn_of _ (by decide +kernel)) ggX4_roomOf_X3_lowest
theorem dX4_roomOf_0 : decode cX4_roomOf 0 = .ok (.iload_n 1, 1) := by decide +kernel
theorem dX4_roomOf_1 : decode cX4_roomOf 1 = .ok (.invokestatic 63, 3) := by decide +kernel
theorem dX4_roomOf_4 : decode cX4_roomOf 4 = .ok (.aload_n 0, 1) := by decide +kernel
theorem dX4_roomOf_5 : decode cX4_roomOf 5 = .ok (.getfield 10, 3) := by decide +kernel
theorem dX4_roomOf_8 : decode cX4_roomOf 8 = .ok (.iload_n 1, 1) := by decide +kernel
theorem dX4_roomOf_9 : decode cX4_roomOf 9 = .ok (.iload_n 2, 1) := by decide +kernel
theorem dX4_roomOf_10 : decode cX4_roomOf 10 = .ok (.invokevirtual 192, 3) := by decide +kernel
theorem dX4_roomOf_13 : decode cX4_roomOf 13 = .ok (.lstore 4, 2) := by decide +kernel
theorem dX4_roomOf_15 : decode cX4_roomOf 15 = .ok (.lload 4, 2) := by decide +kernel
theorem dX4_roomOf_17 : decode cX4_roomOf 17 = .ok (.lconst 0, 1) := by decide +kernel
theorem dX4_roomOf_18 : decode cX4_roomOf 18 = .ok (.lcmp, 1) := by decide +kernel
theorem dX4_roomOf_19 : decode cX4_roomOf 19 = .ok (.ifCond .ne 13, 3) := by decide +kernel
theorem dX4_roomOf_22 : decode cX4_roomOf 22 = .ok (.new 196, 3) := by decide +kernel
theorem dX4_roomOf_25 : decode cX4_roomOf 25 = .ok (.dup, 1) := by decide +kernel
theorem dX4_roomOf_26 : decode cX4_roomOf 26 = .ok (.ldc 198, 2) := by decide +kernel
theorem dX4_roomOf_28 : decode cX4_roomOf 28 = .ok (.invokespecial 200, 3) := by decide +kernel
theorem dX4_roomOf_31 : decode cX4_roomOf 31 = .ok (.athrow, 1) := by decide +kernel
theorem dX4_roomOf_32 : decode cX4_roomOf 32 = .ok (.iload_n 3, 1) := by decide +kernel
theorem dX4_roomOf_33 : decode cX4_roomOf 33 = .ok (.ifCond .lt 9, 3) := by decide +kernel
theorem dX4_roomOf_36 : decode cX4_roomOf 36 = .ok (.iload_n 3, 1) := by decide +kernel
theorem dX4_roomOf_37 : decode cX4_roomOf 37 = .ok (.bipush 6, 2) := by decide +kernel
theorem dX4_roomOf_39 : decode cX4_roomOf 39 = .ok (.if_icmp .lt 13, 3) := by decide +kernel
theorem dX4_roomOf_42 : decode cX4_roomOf 42 = .ok (.new 70, 3) := by decide +kernel
theorem dX4_roomOf_45 : decode cX4_roomOf 45 = .ok (.dup, 1) := by decide +kernel
theorem dX4_roomOf_46 : decode cX4_roomOf 46 = .ok (.ldc 201, 2) := by decide +kernel
theorem dX4_roomOf_48 : decode cX4_roomOf 48 = .ok (.invokespecial 74, 3) := by decide +kernel
theorem dX4_roomOf_51 : decode cX4_roomOf 51 = .ok (.athrow, 1) := by decide +kernel
theorem dX4_roomOf_52 : decode cX4_roomOf 52 = .ok (.iload_n 3, 1) := by decide +kernel
theorem dX4_roomOf_53 : decode cX4_roomOf 53 = .ok (.tableswitch 94 0 4 #[35, 41, 56, 74, 88], 35) := by decide +kernel
theorem dX4_roomOf_88 : decode cX4_roomOf 88 = .ok (.lload 4, 2) := by decide +kernel
theorem dX4_roomOf_90 : decode cX4_roomOf 90 = .ok (.invokestatic 54, 3) := by decide +kernel
theorem dX4_roomOf_93 : decode cX4_roomOf 93 = .ok (.ireturn, 1) := by decide +kernel
theorem dX4_roomOf_94 : decode cX4_roomOf 94 = .ok (.lload 4, 2) := by decide +kernel
theorem dX4_roomOf_96 : decode cX4_roomOf 96 = .ok (.aload_n 0, 1) := by decide +kernel
theorem dX4_roomOf_97 : decode cX4_roomOf 97 = .ok (.getfield 10, 3) := by decide +kernel
theorem dX4_roomOf_100 : decode cX4_roomOf 100 = .ok (.iload_n 1, 1) := by decide +kernel
theorem dX4_roomOf_101 : decode cX4_roomOf 101 = .ok (.invokevirtual 97, 3) := by decide +kernel
theorem dX4_roomOf_104 : decode cX4_roomOf 104 = .ok (.land, 1) := by decide +kernel
theorem dX4_roomOf_105 : decode cX4_roomOf 105 = .ok (.invokestatic 54, 3) := by decide +kernel
theorem dX4_roomOf_108 : decode cX4_roomOf 108 = .ok (.ireturn, 1) := by decide +kernel
theorem dX4_roomOf_109 : decode cX4_roomOf 109 = .ok (.lload 4, 2) := by decide +kernel
theorem dX4_roomOf_111 : decode cX4_roomOf 111 = .ok (.aload_n 0, 1) := by decide +kernel
theorem dX4_roomOf_112 : decode cX4_roomOf 112 = .ok (.getfield 10, 3) := by decide +kernel
theorem dX4_roomOf_115 : decode cX4_roomOf 115 = .ok (.iload_n 1, 1) := by decide +kernel
theorem dX4_roomOf_116 : decode cX4_roomOf 116 = .ok (.invokestatic 203, 3) := by decide +kernel
theorem dX4_roomOf_119 : decode cX4_roomOf 119 = .ok (.invokevirtual 97, 3) := by decide +kernel
theorem dX4_roomOf_122 : decode cX4_roomOf 122 = .ok (.land, 1) := by decide +kernel
theorem dX4_roomOf_123 : decode cX4_roomOf 123 = .ok (.invokestatic 54, 3) := by decide +kernel
theorem dX4_roomOf_126 : decode cX4_roomOf 126 = .ok (.ireturn, 1) := by decide +kernel
theorem dX4_roomOf_127 : decode cX4_roomOf 127 = .ok (.lload 4, 2) := by decide +kernel
theorem dX4_roomOf_129 : decode cX4_roomOf 129 = .ok (.aload_n 0, 1) := by decide +kernel
theorem dX4_roomOf_130 : decode cX4_roomOf 130 = .ok (.getfield 10, 3) := by decide +kernel
theorem dX4_roomOf_133 : decode cX4_roomOf 133 = .ok (.invokevirtual 138, 3) := by decide +kernel
theorem dX4_roomOf_136 : decode cX4_roomOf 136 = .ok (.land, 1) := by decide +kernel
theorem dX4_roomOf_137 : decode cX4_roomOf 137 = .ok (.invokestatic 54, 3) := by decide +kernel
theorem dX4_roomOf_140 : decode cX4_roomOf 140 = .ok (.ireturn, 1) := by decide +kernel
theorem dX4_roomOf_141 : decode cX4_roomOf 141 = .ok (.lload 4, 2) := by decide +kernel
theorem dX4_roomOf_143 : decode cX4_roomOf 143 = .ok (.invokestatic 206, 3) := by decide +kernel
theorem dX4_roomOf_146 : decode cX4_roomOf 146 = .ok (.ireturn, 1) := by decide +kernel
theorem dX4_roomOf_147 : decode cX4_roomOf 147 = .ok (.lload 4, 2) := by decide +kernel
theorem dX4_roomOf_149 : decode cX4_roomOf 149 = .ok (.aload_n 0, 1) := by decide +kernel
theorem dX4_roomOf_150 : decode cX4_roomOf 150 = .ok (.getfield 10, 3) := by decide +kernel
theorem dX4_roomOf_153 : decode cX4_roomOf 153 = .ok (.iload_n 1, 1) := by decide +kernel
theorem dX4_roomOf_154 : decode cX4_roomOf 154 = .ok (.invokevirtual 97, 3) := by decide +kernel
theorem dX4_roomOf_157 : decode cX4_roomOf 157 = .ok (.land, 1) := by decide +kernel
theorem dX4_roomOf_158 : decode cX4_roomOf 158 = .ok (.lconst 0, 1) := by decide +kernel
theorem dX4_roomOf_159 : decode cX4_roomOf 159 = .ok (.lcmp, 1) := by decide +kernel
theorem dX4_roomOf_160 : decode cX4_roomOf 160 = .ok (.ifCond .ne 7, 3) := by decide +kernel
theorem dX4_roomOf_163 : decode cX4_roomOf 163 = .ok (.iconst 1, 1) := by decide +kernel
theorem dX4_roomOf_164 : decode cX4_roomOf 164 = .ok (.goto 4, 3) := by decide +kernel
theorem dX4_roomOf_167 : decode cX4_roomOf 167 = .ok (.iconst 0, 1) := by decide +kernel
theorem dX4_roomOf_168 : decode cX4_roomOf 168 = .ok (.ireturn, 1) := by decide +kernel
set_option maxRecDepth 20000 in
theorem ggX4_sealed_X4_requireSide : GoodIn wsX4_sealed wsX4_requireSide := goodIn_ca (goodIn_r _ [5, 6, 7] (by decide +kernel) (by decide +kernel)) (goodIn_sub (fun _ h => List.mem_cons_of_mem _ (List.mem_append_left _ (List.mem_append_right _ h))) (by decide +kernel))
set_option maxRecDepth 20000 in
theorem gX4_sealed_X4_requireSide : GoodIn wsX4_sealed (va_wsS RX4 63 yX4_requireSide wsX4_requireSide) := goodIn_app (goodIn_of _ (by decide +kernel)) ggX4_sealed_X4_requireSide
set_option maxRecDepth 20000 in
theorem ggX4_sealed_X2_countSealedByRooms : GoodIn wsX4_sealed wsX2_countSealedByRooms := goodIn_ca (goodIn_r _ [12, 13, 14, 15, 16, 11, 17, 18, 19, 20, 21, 22, 23, 24, 25, 26, 27, 28, 29, 30, 31, 32, 33, 34, 35, 36, 37, 38, 39, 40, 41, 42, 43, 44, 45, 46, 55] (by decide +kernel) (by decide +kernel)) (goodIn_sub (fun _ h => List.mem_cons_of_mem _ (List.mem_append_right _ h)) (by decide +kernel))
set_option maxRecDepth 20000 in
theorem gX4_sealed_X2_countSealedByRooms : GoodIn wsX4_sealed (wsV RX4 209 RX2 yX2_countSealedByRooms wsX2_countSealedByRooms) := goodIn_app (goodIn_of _ (by decide +kernel)) ggX4_sealed_X2_countSealedByRooms
theorem dX4_sealed_0 : decode cX4_sealed 0 = .ok (.iload_n 1, 1) := by decide +kernel
theorem dX4_sealed_1 : decode cX4_sealed 1 = .ok (.invokestatic 63, 3) := by decide +kernel
theorem dX4_sealed_4 : decode cX4_sealed 4 = .ok (.aload_n 0, 1) := by decide +kernel
theorem dX4_sealed_5 : decode cX4_sealed 5 = .ok (.getfield 10, 3) := by decide +kernel
theorem dX4_sealed_8 : decode cX4_sealed 8 = .ok (.iload_n 1, 1) := by decide +kernel
theorem dX4_sealed_9 : decode cX4_sealed 9 = .ok (.invokevirtual 209, 3) := by decide +kernel
theorem dX4_sealed_12 : decode cX4_sealed 12 = .ok (.ireturn, 1) := by decide +kernel
set_option maxRecDepth 20000 in
theorem ggX4_sealedAgain_X4_requireSide : GoodIn wsX4_sealedAgain wsX4_requireSide := goodIn_ca (goodIn_r _ [5, 6, 7] (by decide +kernel) (by decide +kernel)) (goodIn_sub (fun _ h => List.mem_cons_of_mem _ (List.mem_append_left _ (List.mem_append_right _ h))) (by decide +kernel))
set_option maxRecDepth 20000 in
theorem gX4_sealedAgain_X4_requireSide : GoodIn wsX4_sealedAgain (va_wsS RX4 63 yX4_requireSide wsX4_requireSide) := goodIn_app (goodIn_of _ (by decide +kernel)) ggX4_sealedAgain_X4_requireSide
set_option maxRecDepth 20000 in
theorem ggX4_sealedAgain_X2_countSealedByReach : GoodIn wsX4_sealedAgain wsX2_countSealedByReach := goodIn_ca (goodIn_r _ [12, 13, 14, 15, 16, 11, 17, 18, 19, 20, 21, 22, 23, 24, 25, 26, 27, 28, 29, 30, 31, 32, 33, 34, 35, 36, 37, 38, 39, 40, 41, 42, 43, 52] (by decide +kernel) (by decide +kernel)) (goodIn_sub (fun _ h => List.mem_cons_of_mem _ (List.mem_append_right _ h)) (by decide +kernel))
set_option maxRecDepth 20000 in
theorem gX4_sealedAgain_X2_countSealedByReach : GoodIn wsX4_sealedAgain (wsV RX4 212 RX2 yX2_countSealedByReach wsX2_countSealedByReach) := goodIn_app (goodIn_of _ (by decide +kernel)) ggX4_sealedAgain_X2_countSealedByReach
theorem dX4_sealedAgain_0 : decode cX4_sealedAgain 0 = .ok (.iload_n 1, 1) := by decide +kernel
theorem dX4_sealedAgain_1 : decode cX4_sealedAgain 1 = .ok (.invokestatic 63, 3) := by decide +kernel
theorem dX4_sealedAgain_4 : decode cX4_sealedAgain 4 = .ok (.aload_n 0, 1) := by decide +kernel
theorem dX4_sealedAgain_5 : decode cX4_sealedAgain 5 = .ok (.getfield 10, 3) := by decide +kernel
theorem dX4_sealedAgain_8 : decode cX4_sealedAgain 8 = .ok (.iload_n 1, 1) := by decide +kernel
theorem dX4_sealedAgain_9 : decode cX4_sealedAgain 9 = .ok (.invokevirtual 212, 3) := by decide +kernel
theorem dX4_sealedAgain_12 : decode cX4_sealedAgain 12 = .ok (.ireturn, 1) := by decide +kernel
set_option maxRecDepth 20000 in
theorem ggX4_steps_X4_requireSide : GoodIn wsX4_steps wsX4_requireSide := goodIn_ca (goodIn_r _ [7, 8, 9] (by decide +kernel) (by decide +kernel)) (goodIn_sub (fun _ h => List.mem_cons_of_mem _ (List.mem_append_left _ (List.mem_append_right _ h))) (by decide +kernel))
set_option maxRecDepth 20000 in
theorem gX4_steps_X4_requireSide : GoodIn wsX4_steps (va_wsS RX4 63 yX4_requireSide wsX4_requireSide) := goodIn_app (goodIn_of _ (by decide +kernel)) ggX4_steps_X4_requireSide
set_option maxRecDepth 20000 in
theorem ggX4_steps_X4_requireSquare : GoodIn wsX4_steps wsX4_requireSquare := goodIn_ca (goodIn_r _ [12, 8, 9] (by decide +kernel) (by decide +kernel)) (goodIn_sub (fun _ h => List.mem_cons_of_mem _ (List.mem_append_left _ (List.mem_append_right _ h))) (by decide +kernel))
set_option maxRecDepth 20000 in
theorem gX4_steps_X4_requireSquare : GoodIn wsX4_steps (va_wsS RX4 67 yX4_requireSquare wsX4_requireSquare) := goodIn_app (goodIn_of _ (by decide +kernel)) ggX4_steps_X4_requireSquare
set_option maxRecDepth 20000 in
theorem ggX4_steps_X2_countStepsTo : GoodIn wsX4_steps wsX2_countStepsTo := goodIn_ca (goodIn_r _ [17, 18, 19, 20, 16, 21, 22, 23, 24, 25, 26, 27, 28, 29, 30, 31, 32, 33, 34, 35, 36, 37, 38, 47] (by decide +kernel) (by decide +kernel)) (goodIn_sub (fun _ h => List.mem_cons_of_mem _ (List.mem_append_right _ h)) (by decide +kernel))
set_option maxRecDepth 20000 in
theorem gX4_steps_X2_countStepsTo : GoodIn wsX4_steps (wsV RX4 215 RX2 yX2_countStepsTo wsX2_countStepsTo) := goodIn_app (goodIn_of _ (by decide +kernel)) ggX4_steps_X2_countStepsTo
theorem dX4_steps_0 : decode cX4_steps 0 = .ok (.iload_n 1, 1) := by decide +kernel
theorem dX4_steps_1 : decode cX4_steps 1 = .ok (.invokestatic 63, 3) := by decide +kernel
theorem dX4_steps_4 : decode cX4_steps 4 = .ok (.iload_n 2, 1) := by decide +kernel
theorem dX4_steps_5 : decode cX4_steps 5 = .ok (.invokestatic 67, 3) := by decide +kernel
theorem dX4_steps_8 : decode cX4_steps 8 = .ok (.aload_n 0, 1) := by decide +kernel
theorem dX4_steps_9 : decode cX4_steps 9 = .ok (.getfield 10, 3) := by decide +kernel
theorem dX4_steps_12 : decode cX4_steps 12 = .ok (.iload_n 1, 1) := by decide +kernel
theorem dX4_steps_13 : decode cX4_steps 13 = .ok (.iload_n 2, 1) := by decide +kernel
theorem dX4_steps_14 : decode cX4_steps 14 = .ok (.invokevirtual 215, 3) := by decide +kernel
theorem dX4_steps_17 : decode cX4_steps 17 = .ok (.istore_n 3, 1) := by decide +kernel
theorem dX4_steps_18 : decode cX4_steps 18 = .ok (.iload_n 3, 1) := by decide +kernel
theorem dX4_steps_19 : decode cX4_steps 19 = .ok (.iconst (-1), 1) := by decide +kernel
theorem dX4_steps_20 : decode cX4_steps 20 = .ok (.if_icmp .ne 13, 3) := by decide +kernel
theorem dX4_steps_23 : decode cX4_steps 23 = .ok (.new 165, 3) := by decide +kernel
theorem dX4_steps_26 : decode cX4_steps 26 = .ok (.dup, 1) := by decide +kernel
theorem dX4_steps_27 : decode cX4_steps 27 = .ok (.ldc 218, 2) := by decide +kernel
theorem dX4_steps_29 : decode cX4_steps 29 = .ok (.invokespecial 169, 3) := by decide +kernel
theorem dX4_steps_32 : decode cX4_steps 32 = .ok (.athrow, 1) := by decide +kernel
theorem dX4_steps_33 : decode cX4_steps 33 = .ok (.iload_n 3, 1) := by decide +kernel
theorem dX4_steps_34 : decode cX4_steps 34 = .ok (.ireturn, 1) := by decide +kernel
set_option maxRecDepth 20000 in
theorem ggX4_sealedShare_X4_requireSide : GoodIn wsX4_sealedShare wsX4_requireSide := goodIn_ca (goodIn_r _ [7, 8, 9] (by decide +kernel) (by decide +kernel)) (goodIn_sub (fun _ h => List.mem_cons_of_mem _ (List.mem_append_left _ (List.mem_append_right _ h))) (by decide +kernel))
set_option maxRecDepth 20000 in
theorem gX4_sealedShare_X4_requireSide : GoodIn wsX4_sealedShare (va_wsS RX4 63 yX4_requireSide wsX4_requireSide) := goodIn_app (goodIn_of _ (by decide +kernel)) ggX4_sealedShare_X4_requireSide
set_option maxRecDepth 20000 in
theorem ggX4_sealedShare_X2_openTo : GoodIn wsX4_sealedShare wsX2_openTo := goodIn_ca (goodIn_r _ [14, 15, 16, 17, 59] (by decide +kernel) (by decide +kernel)) (goodIn_sub (fun _ h => List.mem_cons_of_mem _ (List.mem_append_right _ h)) (by decide +kernel))
set_option maxRecDepth 20000 in
theorem gX4_sealedShare_X2_openTo : GoodIn wsX4_sealedShare (wsV RX4 220 RX2 yX2_openTo wsX2_openTo) := goodIn_app (goodIn_of _ (by decide +kernel)) ggX4_sealedShare_X2_openTo
set_option maxRecDepth 20000 in
theorem ggX4_sealedShare_X3_size : GoodIn wsX4_sealedShare wsX3_size := goodIn_r _ [21, 22, 23, 24, 25, 26, 27, 28] (by decide +kernel) (by decide +kernel)
set_option maxRecDepth 20000 in
theorem gX4_sealedShare_X3_size : GoodIn wsX4_sealedShare (va_wsS RX4 54 yX3_size wsX3_size) := goodIn_app (goodIn_of _ (by decide +kernel)) ggX4_sealedShare_X3_size
set_option maxRecDepth 20000 in
theorem ggX4_sealedShare_X2_countSealedByRooms : GoodIn wsX4_sealedShare wsX2_countSealedByRooms := goodIn_ca (goodIn_r _ [32, 17, 33, 11, 12, 13, 14, 15, 16, 34, 35, 20, 36, 37, 38, 39, 40, 41, 42, 43, 44, 45, 46, 47, 48, 49, 50, 19, 21, 22, 23, 24, 25, 26, 27, 28, 59] (by decide +kernel) (by decide +kernel)) (goodIn_sub (fun _ h => List.mem_cons_of_mem _ (List.mem_append_right _ h)) (by decide +kernel))
set_option maxRecDepth 20000 in
theorem gX4_sealedShare_X2_countSealedByRooms : GoodIn wsX4_sealedShare (wsV RX4 209 RX2 yX2_countSealedByRooms wsX2_countSealedByRooms) := goodIn_app (goodIn_of _ (by decide +kernel)) ggX4_sealedShare_X2_countSealedByRooms
theorem dX4_sealedShare_0 : decode cX4_sealedShare 0 = .ok (.iload_n 1, 1) := by decide +kernel
theorem dX4_sealedShare_1 : decode cX4_sealedShare 1 = .ok (.invokestatic 63, 3) := by decide +kernel
theorem dX4_sealedShare_4 : decode cX4_sealedShare 4 = .ok (.aload_n 0, 1) := by decide +kernel
theorem dX4_sealedShare_5 : decode cX4_sealedShare 5 = .ok (.getfield 10, 3) := by decide +kernel
theorem dX4_sealedShare_8 : decode cX4_sealedShare 8 = .ok (.iload_n 1, 1) := by decide +kernel
theorem dX4_sealedShare_9 : decode cX4_sealedShare 9 = .ok (.invokevirtual 220, 3) := by decide +kernel
theorem dX4_sealedShare_12 : decode cX4_sealedShare 12 = .ok (.invokestatic 54, 3) := by decide +kernel
theorem dX4_sealedShare_15 : decode cX4_sealedShare 15 = .ok (.istore_n 2, 1) := by decide +kernel
theorem dX4_sealedShare_16 : decode cX4_sealedShare 16 = .ok (.iload_n 2, 1) := by decide +kernel
theorem dX4_sealedShare_17 : decode cX4_sealedShare 17 = .ok (.ifCond .ne 13, 3) := by decide +kernel
theorem dX4_sealedShare_20 : decode cX4_sealedShare 20 = .ok (.new 223, 3) := by decide +kernel
theorem dX4_sealedShare_23 : decode cX4_sealedShare 23 = .ok (.dup, 1) := by decide +kernel
theorem dX4_sealedShare_24 : decode cX4_sealedShare 24 = .ok (.ldc 225, 2) := by decide +kernel
theorem dX4_sealedShare_26 : decode cX4_sealedShare 26 = .ok (.invokespecial 227, 3) := by decide +kernel
theorem dX4_sealedShare_29 : decode cX4_sealedShare 29 = .ok (.athrow, 1) := by decide +kernel
theorem dX4_sealedShare_30 : decode cX4_sealedShare 30 = .ok (.aload_n 0, 1) := by decide +kernel
theorem dX4_sealedShare_31 : decode cX4_sealedShare 31 = .ok (.getfield 10, 3) := by decide +kernel
theorem dX4_sealedShare_34 : decode cX4_sealedShare 34 = .ok (.iload_n 1, 1) := by decide +kernel
theorem dX4_sealedShare_35 : decode cX4_sealedShare 35 = .ok (.invokevirtual 209, 3) := by decide +kernel
theorem dX4_sealedShare_38 : decode cX4_sealedShare 38 = .ok (.i2d, 1) := by decide +kernel
theorem dX4_sealedShare_39 : decode cX4_sealedShare 39 = .ok (.iload_n 2, 1) := by decide +kernel
theorem dX4_sealedShare_40 : decode cX4_sealedShare 40 = .ok (.i2d, 1) := by decide +kernel
theorem dX4_sealedShare_41 : decode cX4_sealedShare 41 = .ok (.ddiv, 1) := by decide +kernel
theorem dX4_sealedShare_42 : decode cX4_sealedShare 42 = .ok (.dreturn, 1) := by decide +kernel
set_option maxRecDepth 20000 in
theorem ggX4_append_X1_isFull : GoodIn wsX4_append wsX1_isFull := goodIn_r _ [10, 11, 25, 26] (by decide +kernel) (by decide +kernel)
set_option maxRecDepth 20000 in
theorem gX4_append_X1_isFull : GoodIn wsX4_append (wsV RX4 230 RX1 yX1_isFull wsX1_isFull) := goodIn_app (goodIn_of _ (by decide +kernel)) ggX4_append_X1_isFull
set_option maxRecDepth 20000 in
theorem ggX4_append_X1_put : GoodIn wsX4_append wsX1_put := goodIn_ca (goodIn_r _ [15, 11, 16, 25, 26] (by decide +kernel) (by decide +kernel)) (goodIn_sub (fun _ h => List.mem_cons_of_mem _ (List.mem_append_right _ h)) (by decide +kernel))
set_option maxRecDepth 20000 in
theorem gX4_append_X1_put : GoodIn wsX4_append (wsV RX4 235 RX1 yX1_put wsX1_put) := goodIn_app (goodIn_of _ (by decide +kernel)) ggX4_append_X1_put
theorem dX4_append_0 : decode cX4_append 0 = .ok (.iload_n 1, 1) := by decide +kernel
theorem dX4_append_1 : decode cX4_append 1 = .ok (.bipush 32, 2) := by decide +kernel
theorem dX4_append_3 : decode cX4_append 3 = .ok (.if_icmp .lt 9, 3) := by decide +kernel
theorem dX4_append_6 : decode cX4_append 6 = .ok (.iload_n 1, 1) := by decide +kernel
theorem dX4_append_7 : decode cX4_append 7 = .ok (.bipush 126, 2) := by decide +kernel
theorem dX4_append_9 : decode cX4_append 9 = .ok (.if_icmp .le 13, 3) := by decide +kernel
theorem dX4_append_12 : decode cX4_append 12 = .ok (.new 70, 3) := by decide +kernel
theorem dX4_append_15 : decode cX4_append 15 = .ok (.dup, 1) := by decide +kernel
theorem dX4_append_16 : decode cX4_append 16 = .ok (.ldc 228, 2) := by decide +kernel
theorem dX4_append_18 : decode cX4_append 18 = .ok (.invokespecial 74, 3) := by decide +kernel
theorem dX4_append_21 : decode cX4_append 21 = .ok (.athrow, 1) := by decide +kernel
theorem dX4_append_22 : decode cX4_append 22 = .ok (.aload_n 0, 1) := by decide +kernel
theorem dX4_append_23 : decode cX4_append 23 = .ok (.getfield 32, 3) := by decide +kernel
theorem dX4_append_26 : decode cX4_append 26 = .ok (.invokevirtual 230, 3) := by decide +kernel
theorem dX4_append_29 : decode cX4_append 29 = .ok (.ifCond .eq 13, 3) := by decide +kernel
theorem dX4_append_32 : decode cX4_append 32 = .ok (.new 84, 3) := by decide +kernel
theorem dX4_append_35 : decode cX4_append 35 = .ok (.dup, 1) := by decide +kernel
theorem dX4_append_36 : decode cX4_append 36 = .ok (.ldc 233, 2) := by decide +kernel
theorem dX4_append_38 : decode cX4_append 38 = .ok (.invokespecial 88, 3) := by decide +kernel
theorem dX4_append_41 : decode cX4_append 41 = .ok (.athrow, 1) := by decide +kernel
theorem dX4_append_42 : decode cX4_append 42 = .ok (.aload_n 0, 1) := by decide +kernel
theorem dX4_append_43 : decode cX4_append 43 = .ok (.getfield 32, 3) := by decide +kernel
theorem dX4_append_46 : decode cX4_append 46 = .ok (.iload_n 1, 1) := by decide +kernel
theorem dX4_append_47 : decode cX4_append 47 = .ok (.invokevirtual 235, 3) := by decide +kernel
theorem dX4_append_50 : decode cX4_append 50 = .ok (.ireturn, 1) := by decide +kernel
set_option maxRecDepth 20000 in
theorem ggX4_read_X1_firstError : GoodIn wsX4_read wsX1_firstError := goodIn_ca (goodIn_r _ [12, 13, 14, 15, 16, 11, 17, 18, 19, 20, 21, 22, 23, 24, 25, 26, 27, 257, 258] (by decide +kernel) (by decide +kernel)) (goodIn_sub (fun _ h => List.mem_cons_of_mem _ (List.mem_append_left _ (List.mem_append_right _ h))) (by decide +kernel))
set_option maxRecDepth 20000 in
theorem gX4_read_X1_firstError : GoodIn wsX4_read (wsV RX4 239 RX1 yX1_firstError wsX1_firstError) := goodIn_app (goodIn_of _ (by decide +kernel)) ggX4_read_X1_firstError
set_option maxRecDepth 20000 in
theorem ggX4_read_X1_empty : GoodIn wsX4_read wsX1_empty := goodIn_r _ [31, 13, 257, 258] (by decide +kernel) (by decide +kernel)
set_option maxRecDepth 20000 in
theorem gX4_read_X1_empty : GoodIn wsX4_read (wsV RX4 242 RX1 yX1_empty wsX1_empty) := goodIn_app (goodIn_of _ (by decide +kernel)) ggX4_read_X1_empty
set_option maxRecDepth 20000 in
theorem ggX4_read_X2_copyFrom : GoodIn wsX4_read wsX2_copyFrom := goodIn_ca (goodIn_r _ [36, 37, 259] (by decide +kernel) (by decide +kernel)) (goodIn_sub (fun _ h => List.mem_cons_of_mem _ (List.mem_append_left _ (List.mem_append_right _ h))) (by decide +kernel))
set_option maxRecDepth 20000 in
theorem gX4_read_X2_copyFrom : GoodIn wsX4_read (wsV RX4 155 RX2 yX2_copyFrom wsX2_copyFrom) := goodIn_app (goodIn_of _ (by decide +kernel)) ggX4_read_X2_copyFrom
set_option maxRecDepth 20000 in
theorem ggX4_read_X1_length : GoodIn wsX4_read wsX1_length := goodIn_r _ [41, 13, 257, 258] (by decide +kernel) (by decide +kernel)
set_option maxRecDepth 20000 in
theorem gX4_read_X1_length : GoodIn wsX4_read (wsV RX4 247 RX1 yX1_length wsX1_length) := goodIn_app (goodIn_of _ (by decide +kernel)) ggX4_read_X1_length
set_option maxRecDepth 20000 in
theorem ggX4_read_X1_isTurnAt : GoodIn wsX4_read wsX1_isTurnAt := goodIn_ca (goodIn_r _ [45, 14, 15, 16, 11, 17, 13, 18, 257, 258] (by decide +kernel) (by decide +kernel)) (goodIn_sub (fun _ h => List.mem_cons_of_mem _ (List.mem_append_left _ (List.mem_append_right _ h))) (by decide +kernel))
set_option maxRecDepth 20000 in
theorem gX4_read_X1_isTurnAt : GoodIn wsX4_read (wsV RX4 250 RX1 yX1_isTurnAt wsX1_isTurnAt) := goodIn_app (goodIn_of _ (by decide +kernel)) ggX4_read_X1_isTurnAt
set_option maxRecDepth 20000 in
theorem ggX4_read_X4_takeTurnOnTrial : GoodIn wsX4_read wsX4_takeTurnOnTrial := goodIn_ca (goodIn_r _ [50, 3, 5, 51, 15, 16, 11, 17, 13, 18, 52, 53, 54, 55, 14, 22, 23, 24, 25, 26, 27, 56, 57, 58, 49, 59, 60, 61, 62, 35, 63, 64, 65, 66, 67, 68, 69, 70, 71, 37, 72, 73, 74, 75, 76, 77, 78, 79, 80, 81, 82, 83, 84, 85, 86, 87, 88, 89, 90, 91, 92, 93, 94, 95, 96, 97, 98, 99, 100, 101, 102, 103, 104, 105, 106, 107, 108, 109, 110, 111, 112, 113, 114, 115, 116, 117, 118, 119, 120, 121, 122, 123, 124, 125, 126, 127, 128, 129, 130, 131, 132, 133, 134, 135, 136, 137, 138, 139, 140, 141, 142, 143, 144, 145, 146, 147, 148, 149, 150, 151, 152, 153, 154, 155, 156, 157, 158, 159, 160, 161, 162, 163, 164, 165, 166, 167, 168, 169, 170, 171, 172, 173, 174, 175, 176, 177, 178, 179, 180, 181, 182, 183, 184, 185, 186, 187, 188, 189, 190, 191, 192, 193, 194, 195, 196, 197, 198, 199, 200, 201, 202, 203, 204, 205, 206, 207, 208, 209, 210, 211, 212, 213, 214, 215, 216, 217, 218, 219, 220, 221, 222, 223, 224, 249, 250, 251, 252, 253, 254, 255, 256, 257, 258, 259] (by decide +kernel) (by decide +kernel)) (goodIn_sub (fun _ h => List.mem_cons_of_mem _ (List.mem_append_left _ (List.mem_append_right _ h))) (by decide +kernel))
set_option maxRecDepth 20000 in
theorem gX4_read_X4_takeTurnOnTrial : GoodIn wsX4_read (wsV RX4 254 RX4 yX4_takeTurnOnTrial wsX4_takeTurnOnTrial) := goodIn_app (goodIn_of _ (by decide +kernel)) ggX4_read_X4_takeTurnOnTrial
set_option maxRecDepth 20000 in
theorem ggX4_read_X4_requireTaken : GoodIn wsX4_read wsX4_requireTaken := goodIn_ca (goodIn_r _ [228, 229, 230, 231, 249, 250, 251, 252, 253, 254, 255, 256] (by decide +kernel) (by decide +kernel)) (goodIn_sub (fun _ h => List.mem_cons_of_mem _ (List.mem_append_right _ h)) (by decide +kernel))
set_option maxRecDepth 20000 in
theorem gX4_read_X4_requireTaken : GoodIn wsX4_read (wsV RX4 111 RX4 yX4_requireTaken wsX4_requireTaken) := goodIn_app (goodIn_of _ (by decide +kernel)) ggX4_read_X4_requireTaken
set_option maxRecDepth 20000 in
theorem ggX4_read_X2_turns : GoodIn wsX4_read wsX2_turns := goodIn_ca (goodIn_r _ [71, 37, 259] (by decide +kernel) (by decide +kernel)) (goodIn_sub (fun _ h => List.mem_cons_of_mem _ (List.mem_append_left _ (List.mem_append_right _ h))) (by decide +kernel))
set_option maxRecDepth 20000 in
theorem gX4_read_X2_turns : GoodIn wsX4_read (wsV RX4 257 RX2 yX2_turns wsX2_turns) := goodIn_app (goodIn_of _ (by decide +kernel)) ggX4_read_X2_turns
set_option maxRecDepth 20000 in
theorem ggX4_read_X0_remember : GoodIn wsX4_read wsX0_remember := goodIn_ca (goodIn_r _ [237, 238, 239, 240, 241, 242, 243, 244, 245, 246, 247, 35, 248, 37, 260, 261, 262, 259] (by decide +kernel) (by decide +kernel)) (goodIn_sub (fun _ h => List.mem_cons_of_mem _ (List.mem_append_left _ (List.mem_append_right _ h))) (by decide +kernel))
set_option maxRecDepth 20000 in
theorem gX4_read_X0_remember : GoodIn wsX4_read (wsV RX4 43 RX0 yX0_remember wsX0_remember) := goodIn_app (goodIn_of _ (by decide +kernel)) ggX4_read_X0_remember
theorem dX4_read_0 : decode cX4_read 0 = .ok (.aload_n 0, 1) := by decide +kernel
theorem dX4_read_1 : decode cX4_read 1 = .ok (.getfield 32, 3) := by decide +kernel
theorem dX4_read_4 : decode cX4_read 4 = .ok (.invokevirtual 239, 3) := by decide +kernel
theorem dX4_read_7 : decode cX4_read 7 = .ok (.istore_n 1, 1) := by decide +kernel
theorem dX4_read_8 : decode cX4_read 8 = .ok (.iload_n 1, 1) := by decide +kernel
theorem dX4_read_9 : decode cX4_read 9 = .ok (.iconst (-1), 1) := by decide +kernel
theorem dX4_read_10 : decode cX4_read 10 = .ok (.if_icmp .eq 25, 3) := by decide +kernel
theorem dX4_read_13 : decode cX4_read 13 = .ok (.aload_n 0, 1) := by decide +kernel
theorem dX4_read_14 : decode cX4_read 14 = .ok (.getfield 32, 3) := by decide +kernel
theorem dX4_read_17 : decode cX4_read 17 = .ok (.invokevirtual 242, 3) := by decide +kernel
theorem dX4_read_20 : decode cX4_read 20 = .ok (.aload_n 0, 1) := by decide +kernel
theorem dX4_read_21 : decode cX4_read 21 = .ok (.iload_n 1, 1) := by decide +kernel
theorem dX4_read_22 : decode cX4_read 22 = .ok (.putfield 36, 3) := by decide +kernel
theorem dX4_read_25 : decode cX4_read 25 = .ok (.new 70, 3) := by decide +kernel
theorem dX4_read_28 : decode cX4_read 28 = .ok (.dup, 1) := by decide +kernel
theorem dX4_read_29 : decode cX4_read 29 = .ok (.ldc 245, 2) := by decide +kernel
theorem dX4_read_31 : decode cX4_read 31 = .ok (.invokespecial 74, 3) := by decide +kernel
theorem dX4_read_34 : decode cX4_read 34 = .ok (.athrow, 1) := by decide +kernel
theorem dX4_read_35 : decode cX4_read 35 = .ok (.aload_n 0, 1) := by decide +kernel
theorem dX4_read_36 : decode cX4_read 36 = .ok (.getfield 16, 3) := by decide +kernel
theorem dX4_read_39 : decode cX4_read 39 = .ok (.aload_n 0, 1) := by decide +kernel
theorem dX4_read_40 : decode cX4_read 40 = .ok (.getfield 10, 3) := by decide +kernel
theorem dX4_read_43 : decode cX4_read 43 = .ok (.invokevirtual 155, 3) := by decide +kernel
theorem dX4_read_46 : decode cX4_read 46 = .ok (.iconst 0, 1) := by decide +kernel
theorem dX4_read_47 : decode cX4_read 47 = .ok (.istore_n 2, 1) := by decide +kernel
theorem dX4_read_48 : decode cX4_read 48 = .ok (.iconst 0, 1) := by decide +kernel
theorem dX4_read_49 : decode cX4_read 49 = .ok (.istore_n 3, 1) := by decide +kernel
theorem dX4_read_50 : decode cX4_read 50 = .ok (.iload_n 3, 1) := by decide +kernel
theorem dX4_read_51 : decode cX4_read 51 = .ok (.aload_n 0, 1) := by decide +kernel
theorem dX4_read_52 : decode cX4_read 52 = .ok (.getfield 32, 3) := by decide +kernel
theorem dX4_read_55 : decode cX4_read 55 = .ok (.invokevirtual 247, 3) := by decide +kernel
theorem dX4_read_58 : decode cX4_read 58 = .ok (.if_icmp .ge 30, 3) := by decide +kernel
theorem dX4_read_61 : decode cX4_read 61 = .ok (.iload_n 2, 1) := by decide +kernel
theorem dX4_read_62 : decode cX4_read 62 = .ok (.ifCond .ne 26, 3) := by decide +kernel
theorem dX4_read_65 : decode cX4_read 65 = .ok (.aload_n 0, 1) := by decide +kernel
theorem dX4_read_66 : decode cX4_read 66 = .ok (.getfield 32, 3) := by decide +kernel
theorem dX4_read_69 : decode cX4_read 69 = .ok (.iload_n 3, 1) := by decide +kernel
theorem dX4_read_70 : decode cX4_read 70 = .ok (.invokevirtual 250, 3) := by decide +kernel
theorem dX4_read_73 : decode cX4_read 73 = .ok (.ifCond .eq 9, 3) := by decide +kernel
theorem dX4_read_76 : decode cX4_read 76 = .ok (.aload_n 0, 1) := by decide +kernel
theorem dX4_read_77 : decode cX4_read 77 = .ok (.iload_n 3, 1) := by decide +kernel
theorem dX4_read_78 : decode cX4_read 78 = .ok (.invokevirtual 254, 3) := by decide +kernel
theorem dX4_read_81 : decode cX4_read 81 = .ok (.istore_n 2, 1) := by decide +kernel
theorem dX4_read_82 : decode cX4_read 82 = .ok (.iinc 3 1, 3) := by decide +kernel
theorem dX4_read_85 : decode cX4_read 85 = .ok (.goto (-35), 3) := by decide +kernel
theorem dX4_read_88 : decode cX4_read 88 = .ok (.aload_n 0, 1) := by decide +kernel
theorem dX4_read_89 : decode cX4_read 89 = .ok (.getfield 32, 3) := by decide +kernel
theorem dX4_read_92 : decode cX4_read 92 = .ok (.invokevirtual 242, 3) := by decide +kernel
theorem dX4_read_95 : decode cX4_read 95 = .ok (.aload_n 0, 1) := by decide +kernel
theorem dX4_read_96 : decode cX4_read 96 = .ok (.iload_n 2, 1) := by decide +kernel
theorem dX4_read_97 : decode cX4_read 97 = .ok (.invokevirtual 111, 3) := by decide +kernel
theorem dX4_read_100 : decode cX4_read 100 = .ok (.aload_n 0, 1) := by decide +kernel
theorem dX4_read_101 : decode cX4_read 101 = .ok (.getfield 16, 3) := by decide +kernel
theorem dX4_read_104 : decode cX4_read 104 = .ok (.invokevirtual 257, 3) := by decide +kernel
theorem dX4_read_107 : decode cX4_read 107 = .ok (.aload_n 0, 1) := by decide +kernel
theorem dX4_read_108 : decode cX4_read 108 = .ok (.getfield 10, 3) := by decide +kernel
theorem dX4_read_111 : decode cX4_read 111 = .ok (.invokevirtual 257, 3) := by decide +kernel
theorem dX4_read_114 : decode cX4_read 114 = .ok (.isub, 1) := by decide +kernel
theorem dX4_read_115 : decode cX4_read 115 = .ok (.istore_n 3, 1) := by decide +kernel
theorem dX4_read_116 : decode cX4_read 116 = .ok (.aload_n 0, 1) := by decide +kernel
theorem dX4_read_117 : decode cX4_read 117 = .ok (.getfield 25, 3) := by decide +kernel
theorem dX4_read_120 : decode cX4_read 120 = .ok (.aload_n 0, 1) := by decide +kernel
theorem dX4_read_121 : decode cX4_read 121 = .ok (.getfield 10, 3) := by decide +kernel
theorem dX4_read_124 : decode cX4_read 124 = .ok (.invokevirtual 43, 3) := by decide +kernel
theorem dX4_read_127 : decode cX4_read 127 = .ok (.aload_n 0, 1) := by decide +kernel
theorem dX4_read_128 : decode cX4_read 128 = .ok (.getfield 10, 3) := by decide +kernel
theorem dX4_read_131 : decode cX4_read 131 = .ok (.aload_n 0, 1) := by decide +kernel
theorem dX4_read_132 : decode cX4_read 132 = .ok (.getfield 16, 3) := by decide +kernel
theorem dX4_read_135 : decode cX4_read 135 = .ok (.invokevirtual 155, 3) := by decide +kernel
theorem dX4_read_138 : decode cX4_read 138 = .ok (.iload_n 3, 1) := by decide +kernel
theorem dX4_read_139 : decode cX4_read 139 = .ok (.ireturn, 1) := by decide +kernel
set_option maxRecDepth 20000 in
theorem ggX4_picture_X4_requireSquare : GoodIn wsX4_picture wsX4_requireSquare := goodIn_ca (goodIn_r _ [5, 6, 7] (by decide +kernel) (by decide +kernel)) (goodIn_sub (fun _ h => List.mem_cons_of_mem _ (List.mem_append_left _ (List.mem_append_right _ h))) (by decide +kernel))
set_option maxRecDepth 20000 in
theorem gX4_picture_X4_requireSquare : GoodIn wsX4_picture (va_wsS RX4 67 yX4_requireSquare wsX4_requireSquare) := goodIn_app (goodIn_of _ (by decide +kernel)) ggX4_picture_X4_requireSquare
set_option maxRecDepth 20000 in
theorem ggX4_picture_X2_sideOn : GoodIn wsX4_picture wsX2_sideOn := goodIn_ca (goodIn_r _ [12, 13, 14, 15, 11, 16, 17, 18, 19, 20, 21, 22, 23, 24, 25, 26, 27, 28, 29, 65] (by decide +kernel) (by decide +kernel)) (goodIn_sub (fun _ h => List.mem_cons_of_mem _ (List.mem_append_right _ h)) (by decide +kernel))
set_option maxRecDepth 20000 in
theorem gX4_picture_X2_sideOn : GoodIn wsX4_picture (wsV RX4 132 RX2 yX2_sideOn wsX2_sideOn) := goodIn_app (goodIn_of _ (by decide +kernel)) ggX4_picture_X2_sideOn
set_option maxRecDepth 20000 in
theorem ggX4_picture_X2_whatOn : GoodIn wsX4_picture wsX2_whatOn := goodIn_ca (goodIn_r _ [33, 34, 35, 36, 11, 37, 17, 26, 27, 28, 29, 38, 39, 40, 41, 42, 43, 44, 45, 65] (by decide +kernel) (by decide +kernel)) (goodIn_sub (fun _ h => List.mem_cons_of_mem _ (List.mem_append_right _ h)) (by decide +kernel))
set_option maxRecDepth 20000 in
theorem gX4_picture_X2_whatOn : GoodIn wsX4_picture (wsV RX4 129 RX2 yX2_whatOn wsX2_whatOn) := goodIn_app (goodIn_of _ (by decide +kernel)) ggX4_picture_X2_whatOn
set_option maxRecDepth 20000 in
theorem ggX4_picture_X2_kindOn : GoodIn wsX4_picture wsX2_kindOn := goodIn_ca (goodIn_r _ [49, 50, 51, 52, 11, 53, 17, 26, 27, 28, 29, 65] (by decide +kernel) (by decide +kernel)) (goodIn_sub (fun _ h => List.mem_cons_of_mem _ (List.mem_append_right _ h)) (by decide +kernel))
set_option maxRecDepth 20000 in
theorem gX4_picture_X2_kindOn : GoodIn wsX4_picture (wsV RX4 135 RX2 yX2_kindOn wsX2_kindOn) := goodIn_app (goodIn_of _ (by decide +kernel)) ggX4_picture_X2_kindOn
set_option maxRecDepth 20000 in
theorem ggX4_picture_X4_signOfPiece : GoodIn wsX4_picture wsX4_signOfPiece := goodIn_r _ [56] (by decide +kernel) (by decide +kernel)
set_option maxRecDepth 20000 in
theorem gX4_picture_X4_signOfPiece : GoodIn wsX4_picture (va_wsS RX4 264 yX4_signOfPiece wsX4_signOfPiece) := goodIn_app (goodIn_of _ (by decide +kernel)) ggX4_picture_X4_signOfPiece
theorem dX4_picture_0 : decode cX4_picture 0 = .ok (.iload_n 1, 1) := by decide +kernel
theorem dX4_picture_1 : decode cX4_picture 1 = .ok (.invokestatic 67, 3) := by decide +kernel
theorem dX4_picture_4 : decode cX4_picture 4 = .ok (.aload_n 0, 1) := by decide +kernel
theorem dX4_picture_5 : decode cX4_picture 5 = .ok (.getfield 10, 3) := by decide +kernel
theorem dX4_picture_8 : decode cX4_picture 8 = .ok (.iload_n 1, 1) := by decide +kernel
theorem dX4_picture_9 : decode cX4_picture 9 = .ok (.invokevirtual 132, 3) := by decide +kernel
theorem dX4_picture_12 : decode cX4_picture 12 = .ok (.istore_n 2, 1) := by decide +kernel
theorem dX4_picture_13 : decode cX4_picture 13 = .ok (.aload_n 0, 1) := by decide +kernel
theorem dX4_picture_14 : decode cX4_picture 14 = .ok (.getfield 10, 3) := by decide +kernel
theorem dX4_picture_17 : decode cX4_picture 17 = .ok (.iload_n 1, 1) := by decide +kernel
theorem dX4_picture_18 : decode cX4_picture 18 = .ok (.invokevirtual 129, 3) := by decide +kernel
theorem dX4_picture_21 : decode cX4_picture 21 = .ok (.tableswitch 55 1 3 #[27, 40, 43], 27) := by decide +kernel
theorem dX4_picture_48 : decode cX4_picture 48 = .ok (.iload_n 2, 1) := by decide +kernel
theorem dX4_picture_49 : decode cX4_picture 49 = .ok (.aload_n 0, 1) := by decide +kernel
theorem dX4_picture_50 : decode cX4_picture 50 = .ok (.getfield 10, 3) := by decide +kernel
theorem dX4_picture_53 : decode cX4_picture 53 = .ok (.iload_n 1, 1) := by decide +kernel
theorem dX4_picture_54 : decode cX4_picture 54 = .ok (.invokevirtual 135, 3) := by decide +kernel
theorem dX4_picture_57 : decode cX4_picture 57 = .ok (.invokestatic 264, 3) := by decide +kernel
theorem dX4_picture_60 : decode cX4_picture 60 = .ok (.ireturn, 1) := by decide +kernel
theorem dX4_picture_61 : decode cX4_picture 61 = .ok (.bipush 35, 2) := by decide +kernel
theorem dX4_picture_63 : decode cX4_picture 63 = .ok (.ireturn, 1) := by decide +kernel
theorem dX4_picture_64 : decode cX4_picture 64 = .ok (.iload_n 2, 1) := by decide +kernel
theorem dX4_picture_65 : decode cX4_picture 65 = .ok (.ifCond .ne 8, 3) := by decide +kernel
theorem dX4_picture_68 : decode cX4_picture 68 = .ok (.bipush 40, 2) := by decide +kernel
theorem dX4_picture_70 : decode cX4_picture 70 = .ok (.goto 5, 3) := by decide +kernel
theorem dX4_picture_73 : decode cX4_picture 73 = .ok (.bipush 41, 2) := by decide +kernel
theorem dX4_picture_75 : decode cX4_picture 75 = .ok (.ireturn, 1) := by decide +kernel
theorem dX4_picture_76 : decode cX4_picture 76 = .ok (.bipush 46, 2) := by decide +kernel
theorem dX4_picture_78 : decode cX4_picture 78 = .ok (.ireturn, 1) := by decide +kernel
set_option maxRecDepth 20000 in
theorem ggX4_account_X2_piecesOf : GoodIn wsX4_account wsX2_piecesOf := goodIn_ca (goodIn_r _ [10, 11, 68] (by decide +kernel) (by decide +kernel)) (goodIn_sub (fun _ h => List.mem_cons_of_mem _ (List.mem_append_right _ h)) (by decide +kernel))
set_option maxRecDepth 20000 in
theorem gX4_account_X2_piecesOf : GoodIn wsX4_account (wsV RX4 97 RX2 yX2_piecesOf wsX2_piecesOf) := goodIn_app (goodIn_of _ (by decide +kernel)) ggX4_account_X2_piecesOf
set_option maxRecDepth 20000 in
theorem ggX4_account_X3_size : GoodIn wsX4_account wsX3_size := goodIn_r _ [15, 16, 17, 18, 19, 20, 21, 22] (by decide +kernel) (by decide +kernel)
set_option maxRecDepth 20000 in
theorem gX4_account_X3_size : GoodIn wsX4_account (va_wsS RX4 54 yX3_size wsX3_size) := goodIn_app (goodIn_of _ (by decide +kernel)) ggX4_account_X3_size
set_option maxRecDepth 20000 in
theorem ggX4_account_X2_walls : GoodIn wsX4_account wsX2_walls := goodIn_ca (goodIn_r _ [26, 11, 68] (by decide +kernel) (by decide +kernel)) (goodIn_sub (fun _ h => List.mem_cons_of_mem _ (List.mem_append_right _ h)) (by decide +kernel))
set_option maxRecDepth 20000 in
theorem gX4_account_X2_walls : GoodIn wsX4_account (wsV RX4 104 RX2 yX2_walls wsX2_walls) := goodIn_app (goodIn_of _ (by decide +kernel)) ggX4_account_X2_walls
set_option maxRecDepth 20000 in
theorem ggX4_account_X2_allDoors : GoodIn wsX4_account wsX2_allDoors := goodIn_ca (goodIn_r _ [30, 11, 68] (by decide +kernel) (by decide +kernel)) (goodIn_sub (fun _ h => List.mem_cons_of_mem _ (List.mem_append_right _ h)) (by decide +kernel))
set_option maxRecDepth 20000 in
theorem gX4_account_X2_allDoors : GoodIn wsX4_account (wsV RX4 138 RX2 yX2_allDoors wsX2_allDoors) := goodIn_app (goodIn_of _ (by decide +kernel)) ggX4_account_X2_allDoors
set_option maxRecDepth 20000 in
theorem ggX4_account_X2_coinsOf : GoodIn wsX4_account wsX2_coinsOf := goodIn_ca (goodIn_r _ [34, 11, 68] (by decide +kernel) (by decide +kernel)) (goodIn_sub (fun _ h => List.mem_cons_of_mem _ (List.mem_append_right _ h)) (by decide +kernel))
set_option maxRecDepth 20000 in
theorem gX4_account_X2_coinsOf : GoodIn wsX4_account (wsV RX4 270 RX2 yX2_coinsOf wsX2_coinsOf) := goodIn_app (goodIn_of _ (by decide +kernel)) ggX4_account_X2_coinsOf
set_option maxRecDepth 20000 in
theorem ggX4_account_X2_turns : GoodIn wsX4_account wsX2_turns := goodIn_ca (goodIn_r _ [38, 11, 68] (by decide +kernel) (by decide +kernel)) (goodIn_sub (fun _ h => List.mem_cons_of_mem _ (List.mem_append_right _ h)) (by decide +kernel))
set_option maxRecDepth 20000 in
theorem gX4_account_X2_turns : GoodIn wsX4_account (wsV RX4 257 RX2 yX2_turns wsX2_turns) := goodIn_app (goodIn_of _ (by decide +kernel)) ggX4_account_X2_turns
set_option maxRecDepth 20000 in
theorem ggX4_account_X2_mover : GoodIn wsX4_account wsX2_mover := goodIn_ca (goodIn_r _ [42, 43, 36, 37, 9, 38, 11, 68] (by decide +kernel) (by decide +kernel)) (goodIn_sub (fun _ h => List.mem_cons_of_mem _ (List.mem_append_right _ h)) (by decide +kernel))
set_option maxRecDepth 20000 in
theorem gX4_account_X2_mover : GoodIn wsX4_account (wsV RX4 176 RX2 yX2_mover wsX2_mover) := goodIn_app (goodIn_of _ (by decide +kernel)) ggX4_account_X2_mover
set_option maxRecDepth 20000 in
theorem ggX4_account_X2_ending : GoodIn wsX4_account wsX2_ending := goodIn_ca (goodIn_r _ [47, 11, 68] (by decide +kernel) (by decide +kernel)) (goodIn_sub (fun _ h => List.mem_cons_of_mem _ (List.mem_append_right _ h)) (by decide +kernel))
set_option maxRecDepth 20000 in
theorem gX4_account_X2_ending : GoodIn wsX4_account (wsV RX4 273 RX2 yX2_ending wsX2_ending) := goodIn_app (goodIn_of _ (by decide +kernel)) ggX4_account_X2_ending
set_option maxRecDepth 20000 in
theorem ggX4_account_X1_length : GoodIn wsX4_account wsX1_length := goodIn_r _ [52, 53, 69, 70] (by decide +kernel) (by decide +kernel)
set_option maxRecDepth 20000 in
theorem gX4_account_X1_length : GoodIn wsX4_account (wsV RX4 247 RX1 yX1_length wsX1_length) := goodIn_app (goodIn_of _ (by decide +kernel)) ggX4_account_X1_length
set_option maxRecDepth 20000 in
theorem ggX4_account_X0_count : GoodIn wsX4_account wsX0_count := goodIn_r _ [58, 59, 71, 72, 73] (by decide +kernel) (by decide +kernel)
set_option maxRecDepth 20000 in
theorem gX4_account_X0_count : GoodIn wsX4_account (wsV RX4 276 RX0 yX0_count wsX0_count) := goodIn_app (goodIn_of _ (by decide +kernel)) ggX4_account_X0_count
theorem dX4_account_0 : decode cX4_account 0 = .ok (.iload_n 1, 1) := by decide +kernel
theorem dX4_account_1 : decode cX4_account 1 = .ok (.ifCond .lt 9, 3) := by decide +kernel
theorem dX4_account_4 : decode cX4_account 4 = .ok (.iload_n 1, 1) := by decide +kernel
theorem dX4_account_5 : decode cX4_account 5 = .ok (.bipush 11, 2) := by decide +kernel
theorem dX4_account_7 : decode cX4_account 7 = .ok (.if_icmp .lt 14, 3) := by decide +kernel
theorem dX4_account_10 : decode cX4_account 10 = .ok (.new 70, 3) := by decide +kernel
theorem dX4_account_13 : decode cX4_account 13 = .ok (.dup, 1) := by decide +kernel
theorem dX4_account_14 : decode cX4_account 14 = .ok (.ldc_w 268, 3) := by decide +kernel
theorem dX4_account_17 : decode cX4_account 17 = .ok (.invokespecial 74, 3) := by decide +kernel
theorem dX4_account_20 : decode cX4_account 20 = .ok (.athrow, 1) := by decide +kernel
theorem dX4_account_21 : decode cX4_account 21 = .ok (.iload_n 1, 1) := by decide +kernel
theorem dX4_account_22 : decode cX4_account 22 = .ok (.tableswitch 131 0 9 #[54, 54, 66, 77, 88, 88, 99, 107, 115, 123], 54) := by decide +kernel
theorem dX4_account_76 : decode cX4_account 76 = .ok (.aload_n 0, 1) := by decide +kernel
theorem dX4_account_77 : decode cX4_account 77 = .ok (.getfield 10, 3) := by decide +kernel
theorem dX4_account_80 : decode cX4_account 80 = .ok (.iload_n 1, 1) := by decide +kernel
theorem dX4_account_81 : decode cX4_account 81 = .ok (.invokevirtual 97, 3) := by decide +kernel
theorem dX4_account_84 : decode cX4_account 84 = .ok (.invokestatic 54, 3) := by decide +kernel
theorem dX4_account_87 : decode cX4_account 87 = .ok (.ireturn, 1) := by decide +kernel
theorem dX4_account_88 : decode cX4_account 88 = .ok (.aload_n 0, 1) := by decide +kernel
theorem dX4_account_89 : decode cX4_account 89 = .ok (.getfield 10, 3) := by decide +kernel
theorem dX4_account_92 : decode cX4_account 92 = .ok (.invokevirtual 104, 3) := by decide +kernel
theorem dX4_account_95 : decode cX4_account 95 = .ok (.invokestatic 54, 3) := by decide +kernel
theorem dX4_account_98 : decode cX4_account 98 = .ok (.ireturn, 1) := by decide +kernel
theorem dX4_account_99 : decode cX4_account 99 = .ok (.aload_n 0, 1) := by decide +kernel
theorem dX4_account_100 : decode cX4_account 100 = .ok (.getfield 10, 3) := by decide +kernel
theorem dX4_account_103 : decode cX4_account 103 = .ok (.invokevirtual 138, 3) := by decide +kernel
theorem dX4_account_106 : decode cX4_account 106 = .ok (.invokestatic 54, 3) := by decide +kernel
theorem dX4_account_109 : decode cX4_account 109 = .ok (.ireturn, 1) := by decide +kernel
theorem dX4_account_110 : decode cX4_account 110 = .ok (.aload_n 0, 1) := by decide +kernel
theorem dX4_account_111 : decode cX4_account 111 = .ok (.getfield 10, 3) := by decide +kernel
theorem dX4_account_114 : decode cX4_account 114 = .ok (.iload_n 1, 1) := by decide +kernel
theorem dX4_account_115 : decode cX4_account 115 = .ok (.iconst 4, 1) := by decide +kernel
theorem dX4_account_116 : decode cX4_account 116 = .ok (.isub, 1) := by decide +kernel
theorem dX4_account_117 : decode cX4_account 117 = .ok (.invokevirtual 270, 3) := by decide +kernel
theorem dX4_account_120 : decode cX4_account 120 = .ok (.ireturn, 1) := by decide +kernel
theorem dX4_account_121 : decode cX4_account 121 = .ok (.aload_n 0, 1) := by decide +kernel
theorem dX4_account_122 : decode cX4_account 122 = .ok (.getfield 10, 3) := by decide +kernel
theorem dX4_account_125 : decode cX4_account 125 = .ok (.invokevirtual 257, 3) := by decide +kernel
theorem dX4_account_128 : decode cX4_account 128 = .ok (.ireturn, 1) := by decide +kernel
theorem dX4_account_129 : decode cX4_account 129 = .ok (.aload_n 0, 1) := by decide +kernel
theorem dX4_account_130 : decode cX4_account 130 = .ok (.getfield 10, 3) := by decide +kernel
theorem dX4_account_133 : decode cX4_account 133 = .ok (.invokevirtual 176, 3) := by decide +kernel
theorem dX4_account_136 : decode cX4_account 136 = .ok (.ireturn, 1) := by decide +kernel
theorem dX4_account_137 : decode cX4_account 137 = .ok (.aload_n 0, 1) := by decide +kernel
theorem dX4_account_138 : decode cX4_account 138 = .ok (.getfield 10, 3) := by decide +kernel
theorem dX4_account_141 : decode cX4_account 141 = .ok (.invokevirtual 273, 3) := by decide +kernel
theorem dX4_account_144 : decode cX4_account 144 = .ok (.ireturn, 1) := by decide +kernel
theorem dX4_account_145 : decode cX4_account 145 = .ok (.aload_n 0, 1) := by decide +kernel
theorem dX4_account_146 : decode cX4_account 146 = .ok (.getfield 32, 3) := by decide +kernel
theorem dX4_account_149 : decode cX4_account 149 = .ok (.invokevirtual 247, 3) := by decide +kernel
theorem dX4_account_152 : decode cX4_account 152 = .ok (.ireturn, 1) := by decide +kernel
theorem dX4_account_153 : decode cX4_account 153 = .ok (.aload_n 0, 1) := by decide +kernel
theorem dX4_account_154 : decode cX4_account 154 = .ok (.getfield 25, 3) := by decide +kernel
theorem dX4_account_157 : decode cX4_account 157 = .ok (.invokevirtual 276, 3) := by decide +kernel
theorem dX4_account_160 : decode cX4_account 160 = .ok (.ireturn, 1) := by decide +kernel
set_option maxRecDepth 20000 in
theorem ggX4_undo_X0_count : GoodIn wsX4_undo wsX0_count := goodIn_r _ [9, 10, 31, 32, 33] (by decide +kernel) (by decide +kernel)
set_option maxRecDepth 20000 in
theorem gX4_undo_X0_count : GoodIn wsX4_undo (wsV RX4 276 RX0 yX0_count wsX0_count) := goodIn_app (goodIn_of _ (by decide +kernel)) ggX4_undo_X0_count
set_option maxRecDepth 20000 in
theorem ggX4_undo_X0_bringBack : GoodIn wsX4_undo wsX0_bringBack := goodIn_ca (goodIn_r _ [14, 10, 15, 16, 17, 18, 19, 20, 21, 22, 31, 32, 33, 34] (by decide +kernel) (by decide +kernel)) (goodIn_sub (fun _ h => List.mem_cons_of_mem _ (List.mem_append_right _ h)) (by decide +kernel))
set_option maxRecDepth 20000 in
theorem gX4_undo_X0_bringBack : GoodIn wsX4_undo (wsV RX4 281 RX0 yX0_bringBack wsX0_bringBack) := goodIn_app (goodIn_of _ (by decide +kernel)) ggX4_undo_X0_bringBack
theorem dX4_undo_0 : decode cX4_undo 0 = .ok (.aload_n 0, 1) := by decide +kernel
theorem dX4_undo_1 : decode cX4_undo 1 = .ok (.getfield 25, 3) := by decide +kernel
theorem dX4_undo_4 : decode cX4_undo 4 = .ok (.invokevirtual 276, 3) := by decide +kernel
theorem dX4_undo_7 : decode cX4_undo 7 = .ok (.ifCond .ne 14, 3) := by decide +kernel
theorem dX4_undo_10 : decode cX4_undo 10 = .ok (.new 165, 3) := by decide +kernel
theorem dX4_undo_13 : decode cX4_undo 13 = .ok (.dup, 1) := by decide +kernel
theorem dX4_undo_14 : decode cX4_undo 14 = .ok (.ldc_w 279, 3) := by decide +kernel
theorem dX4_undo_17 : decode cX4_undo 17 = .ok (.invokespecial 169, 3) := by decide +kernel
theorem dX4_undo_20 : decode cX4_undo 20 = .ok (.athrow, 1) := by decide +kernel
theorem dX4_undo_21 : decode cX4_undo 21 = .ok (.aload_n 0, 1) := by decide +kernel
theorem dX4_undo_22 : decode cX4_undo 22 = .ok (.getfield 25, 3) := by decide +kernel
theorem dX4_undo_25 : decode cX4_undo 25 = .ok (.aload_n 0, 1) := by decide +kernel
theorem dX4_undo_26 : decode cX4_undo 26 = .ok (.getfield 10, 3) := by decide +kernel
theorem dX4_undo_29 : decode cX4_undo 29 = .ok (.invokevirtual 281, 3) := by decide +kernel
theorem dX4_undo_32 : decode cX4_undo 32 = .ok (.aload_n 0, 1) := by decide +kernel
theorem dX4_undo_33 : decode cX4_undo 33 = .ok (.getfield 25, 3) := by decide +kernel
theorem dX4_undo_36 : decode cX4_undo 36 = .ok (.invokevirtual 276, 3) := by decide +kernel
theorem dX4_undo_39 : decode cX4_undo 39 = .ok (.ireturn, 1) := by decide +kernel
set_option maxRecDepth 20000 in
theorem ggX4_save_X2_copyFrom : GoodIn wsX4_save wsX2_copyFrom := goodIn_ca (goodIn_r _ [8, 9, 33] (by decide +kernel) (by decide +kernel)) (goodIn_sub (fun _ h => List.mem_cons_of_mem _ (List.mem_append_right _ h)) (by decide +kernel))
set_option maxRecDepth 20000 in
theorem gX4_save_X2_copyFrom : GoodIn wsX4_save (wsV RX4 155 RX2 yX2_copyFrom wsX2_copyFrom) := goodIn_app (goodIn_of _ (by decide +kernel)) ggX4_save_X2_copyFrom
set_option maxRecDepth 20000 in
theorem ggX4_save_X2_allPieces : GoodIn wsX4_save wsX2_allPieces := goodIn_ca (goodIn_r _ [13, 9, 33] (by decide +kernel) (by decide +kernel)) (goodIn_sub (fun _ h => List.mem_cons_of_mem _ (List.mem_append_right _ h)) (by decide +kernel))
set_option maxRecDepth 20000 in
theorem gX4_save_X2_allPieces : GoodIn wsX4_save (wsV RX4 50 RX2 yX2_allPieces wsX2_allPieces) := goodIn_app (goodIn_of _ (by decide +kernel)) ggX4_save_X2_allPieces
set_option maxRecDepth 20000 in
theorem ggX4_save_X3_size : GoodIn wsX4_save wsX3_size := goodIn_r _ [17, 18, 19, 20, 21, 22, 23, 24] (by decide +kernel) (by decide +kernel)
set_option maxRecDepth 20000 in
theorem gX4_save_X3_size : GoodIn wsX4_save (va_wsS RX4 54 yX3_size wsX3_size) := goodIn_app (goodIn_of _ (by decide +kernel)) ggX4_save_X3_size
theorem dX4_save_0 : decode cX4_save 0 = .ok (.aload_n 0, 1) := by decide +kernel
theorem dX4_save_1 : decode cX4_save 1 = .ok (.getfield 19, 3) := by decide +kernel
theorem dX4_save_4 : decode cX4_save 4 = .ok (.aload_n 0, 1) := by decide +kernel
theorem dX4_save_5 : decode cX4_save 5 = .ok (.getfield 10, 3) := by decide +kernel
theorem dX4_save_8 : decode cX4_save 8 = .ok (.invokevirtual 155, 3) := by decide +kernel
theorem dX4_save_11 : decode cX4_save 11 = .ok (.aload_n 0, 1) := by decide +kernel
theorem dX4_save_12 : decode cX4_save 12 = .ok (.iconst 1, 1) := by decide +kernel
theorem dX4_save_13 : decode cX4_save 13 = .ok (.putfield 284, 3) := by decide +kernel
theorem dX4_save_16 : decode cX4_save 16 = .ok (.aload_n 0, 1) := by decide +kernel
theorem dX4_save_17 : decode cX4_save 17 = .ok (.getfield 19, 3) := by decide +kernel
theorem dX4_save_20 : decode cX4_save 20 = .ok (.invokevirtual 50, 3) := by decide +kernel
theorem dX4_save_23 : decode cX4_save 23 = .ok (.invokestatic 54, 3) := by decide +kernel
theorem dX4_save_26 : decode cX4_save 26 = .ok (.ireturn, 1) := by decide +kernel
set_option maxRecDepth 20000 in
theorem ggX4_restore_X2_copyFrom : GoodIn wsX4_restore wsX2_copyFrom := goodIn_ca (goodIn_r _ [11, 12, 42] (by decide +kernel) (by decide +kernel)) (goodIn_sub (fun _ h => List.mem_cons_of_mem _ (List.mem_append_right _ h)) (by decide +kernel))
set_option maxRecDepth 20000 in
theorem gX4_restore_X2_copyFrom : GoodIn wsX4_restore (wsV RX4 155 RX2 yX2_copyFrom wsX2_copyFrom) := goodIn_app (goodIn_of _ (by decide +kernel)) ggX4_restore_X2_copyFrom
set_option maxRecDepth 20000 in
theorem ggX4_restore_X0_forget : GoodIn wsX4_restore wsX0_forget := goodIn_r _ [17, 18, 43, 44, 45] (by decide +kernel) (by decide +kernel)
set_option maxRecDepth 20000 in
theorem gX4_restore_X0_forget : GoodIn wsX4_restore (wsV RX4 290 RX0 yX0_forget wsX0_forget) := goodIn_app (goodIn_of _ (by decide +kernel)) ggX4_restore_X0_forget
set_option maxRecDepth 20000 in
theorem ggX4_restore_X2_allPieces : GoodIn wsX4_restore wsX2_allPieces := goodIn_ca (goodIn_r _ [22, 12, 42] (by decide +kernel) (by decide +kernel)) (goodIn_sub (fun _ h => List.mem_cons_of_mem _ (List.mem_append_right _ h)) (by decide +kernel))
set_option maxRecDepth 20000 in
theorem gX4_restore_X2_allPieces : GoodIn wsX4_restore (wsV RX4 50 RX2 yX2_allPieces wsX2_allPieces) := goodIn_app (goodIn_of _ (by decide +kernel)) ggX4_restore_X2_allPieces
set_option maxRecDepth 20000 in
theorem ggX4_restore_X3_size : GoodIn wsX4_restore wsX3_size := goodIn_r _ [26, 27, 28, 29, 30, 31, 32, 33] (by decide +kernel) (by decide +kernel)
set_option maxRecDepth 20000 in
theorem gX4_restore_X3_size : GoodIn wsX4_restore (va_wsS RX4 54 yX3_size wsX3_size) := goodIn_app (goodIn_of _ (by decide +kernel)) ggX4_restore_X3_size
theorem dX4_restore_0 : decode cX4_restore 0 = .ok (.aload_n 0, 1) := by decide +kernel
theorem dX4_restore_1 : decode cX4_restore 1 = .ok (.getfield 284, 3) := by decide +kernel
theorem dX4_restore_4 : decode cX4_restore 4 = .ok (.ifCond .ne 14, 3) := by decide +kernel
theorem dX4_restore_7 : decode cX4_restore 7 = .ok (.new 84, 3) := by decide +kernel
theorem dX4_restore_10 : decode cX4_restore 10 = .ok (.dup, 1) := by decide +kernel
theorem dX4_restore_11 : decode cX4_restore 11 = .ok (.ldc_w 288, 3) := by decide +kernel
theorem dX4_restore_14 : decode cX4_restore 14 = .ok (.invokespecial 88, 3) := by decide +kernel
theorem dX4_restore_17 : decode cX4_restore 17 = .ok (.athrow, 1) := by decide +kernel
theorem dX4_restore_18 : decode cX4_restore 18 = .ok (.aload_n 0, 1) := by decide +kernel
theorem dX4_restore_19 : decode cX4_restore 19 = .ok (.getfield 10, 3) := by decide +kernel
theorem dX4_restore_22 : decode cX4_restore 22 = .ok (.aload_n 0, 1) := by decide +kernel
theorem dX4_restore_23 : decode cX4_restore 23 = .ok (.getfield 19, 3) := by decide +kernel
theorem dX4_restore_26 : decode cX4_restore 26 = .ok (.invokevirtual 155, 3) := by decide +kernel
theorem dX4_restore_29 : decode cX4_restore 29 = .ok (.aload_n 0, 1) := by decide +kernel
theorem dX4_restore_30 : decode cX4_restore 30 = .ok (.getfield 25, 3) := by decide +kernel
theorem dX4_restore_33 : decode cX4_restore 33 = .ok (.invokevirtual 290, 3) := by decide +kernel
theorem dX4_restore_36 : decode cX4_restore 36 = .ok (.aload_n 0, 1) := by decide +kernel
theorem dX4_restore_37 : decode cX4_restore 37 = .ok (.getfield 10, 3) := by decide +kernel
theorem dX4_restore_40 : decode cX4_restore 40 = .ok (.invokevirtual 50, 3) := by decide +kernel
theorem dX4_restore_43 : decode cX4_restore 43 = .ok (.invokestatic 54, 3) := by decide +kernel
theorem dX4_restore_46 : decode cX4_restore 46 = .ok (.ireturn, 1) := by decide +kernel
theorem dX4_otherSide_0 : decode cX4_otherSide 0 = .ok (.iconst 1, 1) := by decide +kernel
theorem dX4_otherSide_1 : decode cX4_otherSide 1 = .ok (.iload_n 0, 1) := by decide +kernel
theorem dX4_otherSide_2 : decode cX4_otherSide 2 = .ok (.isub, 1) := by decide +kernel
theorem dX4_otherSide_3 : decode cX4_otherSide 3 = .ok (.ireturn, 1) := by decide +kernel
theorem dX4_requireSide_0 : decode cX4_requireSide 0 = .ok (.iload_n 0, 1) := by decide +kernel
theorem dX4_requireSide_1 : decode cX4_requireSide 1 = .ok (.ifCond .lt 8, 3) := by decide +kernel
theorem dX4_requireSide_4 : decode cX4_requireSide 4 = .ok (.iload_n 0, 1) := by decide +kernel
theorem dX4_requireSide_5 : decode cX4_requireSide 5 = .ok (.iconst 2, 1) := by decide +kernel
theorem dX4_requireSide_6 : decode cX4_requireSide 6 = .ok (.if_icmp .lt 14, 3) := by decide +kernel
theorem dX4_requireSide_9 : decode cX4_requireSide 9 = .ok (.new 196, 3) := by decide +kernel
theorem dX4_requireSide_12 : decode cX4_requireSide 12 = .ok (.dup, 1) := by decide +kernel
theorem dX4_requireSide_13 : decode cX4_requireSide 13 = .ok (.ldc_w 293, 3) := by decide +kernel
theorem dX4_requireSide_16 : decode cX4_requireSide 16 = .ok (.invokespecial 200, 3) := by decide +kernel
theorem dX4_requireSide_19 : decode cX4_requireSide 19 = .ok (.athrow, 1) := by decide +kernel
theorem dX4_requireSide_20 : decode cX4_requireSide 20 = .ok (.return_, 1) := by decide +kernel
theorem dX4_requireSquare_0 : decode cX4_requireSquare 0 = .ok (.iload_n 0, 1) := by decide +kernel
theorem dX4_requireSquare_1 : decode cX4_requireSquare 1 = .ok (.ifCond .lt 9, 3) := by decide +kernel
theorem dX4_requireSquare_4 : decode cX4_requireSquare 4 = .ok (.iload_n 0, 1) := by decide +kernel
theorem dX4_requireSquare_5 : decode cX4_requireSquare 5 = .ok (.bipush 36, 2) := by decide +kernel
theorem dX4_requireSquare_7 : decode cX4_requireSquare 7 = .ok (.if_icmp .lt 14, 3) := by decide +kernel
theorem dX4_requireSquare_10 : decode cX4_requireSquare 10 = .ok (.new 196, 3) := by decide +kernel
theorem dX4_requireSquare_13 : decode cX4_requireSquare 13 = .ok (.dup, 1) := by decide +kernel
theorem dX4_requireSquare_14 : decode cX4_requireSquare 14 = .ok (.ldc_w 295, 3) := by decide +kernel
theorem dX4_requireSquare_17 : decode cX4_requireSquare 17 = .ok (.invokespecial 200, 3) := by decide +kernel
theorem dX4_requireSquare_20 : decode cX4_requireSquare 20 = .ok (.athrow, 1) := by decide +kernel
theorem dX4_requireSquare_21 : decode cX4_requireSquare 21 = .ok (.return_, 1) := by decide +kernel
set_option maxRecDepth 20000 in
theorem ggX4_requireFreeForLaying_X2_turns : GoodIn wsX4_requireFreeForLaying wsX2_turns := goodIn_ca (goodIn_r _ [8, 9, 38] (by decide +kernel) (by decide +kernel)) (goodIn_sub (fun _ h => List.mem_cons_of_mem _ (List.mem_append_right _ h)) (by decide +kernel))
set_option maxRecDepth 20000 in
theorem gX4_requireFreeForLaying_X2_turns : GoodIn wsX4_requireFreeForLaying (wsV RX4 257 RX2 yX2_turns wsX2_turns) := goodIn_app (goodIn_of _ (by decide +kernel)) ggX4_requireFreeForLaying_X2_turns
set_option maxRecDepth 20000 in
theorem ggX4_requireFreeForLaying_X2_whatOn : GoodIn wsX4_requireFreeForLaying wsX2_whatOn := goodIn_ca (goodIn_r _ [13, 14, 15, 16, 7, 17, 9, 18, 19, 20, 21, 22, 23, 24, 25, 26, 27, 28, 29, 38] (by decide +kernel) (by decide +kernel)) (goodIn_sub (fun _ h => List.mem_cons_of_mem _ (List.mem_append_right _ h)) (by decide +kernel))
set_option maxRecDepth 20000 in
theorem gX4_requireFreeForLaying_X2_whatOn : GoodIn wsX4_requireFreeForLaying (wsV RX4 129 RX2 yX2_whatOn wsX2_whatOn) := goodIn_app (goodIn_of _ (by decide +kernel)) ggX4_requireFreeForLaying_X2_whatOn
theorem dX4_requireFreeForLaying_0 : decode cX4_requireFreeForLaying 0 = .ok (.aload_n 0, 1) := by decide +kernel
theorem dX4_requireFreeForLaying_1 : decode cX4_requireFreeForLaying 1 = .ok (.getfield 10, 3) := by decide +kernel
theorem dX4_requireFreeForLaying_4 : decode cX4_requireFreeForLaying 4 = .ok (.invokevirtual 257, 3) := by decide +kernel
theorem dX4_requireFreeForLaying_7 : decode cX4_requireFreeForLaying 7 = .ok (.ifCond .le 14, 3) := by decide +kernel
theorem dX4_requireFreeForLaying_10 : decode cX4_requireFreeForLaying 10 = .ok (.new 84, 3) := by decide +kernel
theorem dX4_requireFreeForLaying_13 : decode cX4_requireFreeForLaying 13 = .ok (.dup, 1) := by decide +kernel
theorem dX4_requireFreeForLaying_14 : decode cX4_requireFreeForLaying 14 = .ok (.ldc_w 297, 3) := by decide +kernel
theorem dX4_requireFreeForLaying_17 : decode cX4_requireFreeForLaying 17 = .ok (.invokespecial 88, 3) := by decide +kernel
theorem dX4_requireFreeForLaying_20 : decode cX4_requireFreeForLaying 20 = .ok (.athrow, 1) := by decide +kernel
theorem dX4_requireFreeForLaying_21 : decode cX4_requireFreeForLaying 21 = .ok (.aload_n 0, 1) := by decide +kernel
theorem dX4_requireFreeForLaying_22 : decode cX4_requireFreeForLaying 22 = .ok (.getfield 10, 3) := by decide +kernel
theorem dX4_requireFreeForLaying_25 : decode cX4_requireFreeForLaying 25 = .ok (.iload_n 1, 1) := by decide +kernel
theorem dX4_requireFreeForLaying_26 : decode cX4_requireFreeForLaying 26 = .ok (.invokevirtual 129, 3) := by decide +kernel
theorem dX4_requireFreeForLaying_29 : decode cX4_requireFreeForLaying 29 = .ok (.ifCond .eq 14, 3) := by decide +kernel
theorem dX4_requireFreeForLaying_32 : decode cX4_requireFreeForLaying 32 = .ok (.new 84, 3) := by decide +kernel
theorem dX4_requireFreeForLaying_35 : decode cX4_requireFreeForLaying 35 = .ok (.dup, 1) := by decide +kernel
theorem dX4_requireFreeForLaying_36 : decode cX4_requireFreeForLaying 36 = .ok (.ldc_w 299, 3) := by decide +kernel
theorem dX4_requireFreeForLaying_39 : decode cX4_requireFreeForLaying 39 = .ok (.invokespecial 88, 3) := by decide +kernel
theorem dX4_requireFreeForLaying_42 : decode cX4_requireFreeForLaying 42 = .ok (.athrow, 1) := by decide +kernel
theorem dX4_requireFreeForLaying_43 : decode cX4_requireFreeForLaying 43 = .ok (.return_, 1) := by decide +kernel
set_option maxRecDepth 20000 in
theorem ggX4_requirePiece_X2_whatOn : GoodIn wsX4_requirePiece wsX2_whatOn := goodIn_ca (goodIn_r _ [8, 9, 10, 11, 7, 12, 13, 14, 15, 16, 17, 18, 19, 20, 21, 22, 23, 24, 25, 34] (by decide +kernel) (by decide +kernel)) (goodIn_sub (fun _ h => List.mem_cons_of_mem _ (List.mem_append_right _ h)) (by decide +kernel))
set_option maxRecDepth 20000 in
theorem gX4_requirePiece_X2_whatOn : GoodIn wsX4_requirePiece (wsV RX4 129 RX2 yX2_whatOn wsX2_whatOn) := goodIn_app (goodIn_of _ (by decide +kernel)) ggX4_requirePiece_X2_whatOn
theorem dX4_requirePiece_0 : decode cX4_requirePiece 0 = .ok (.aload_n 0, 1) := by decide +kernel
theorem dX4_requirePiece_1 : decode cX4_requirePiece 1 = .ok (.getfield 10, 3) := by decide +kernel
theorem dX4_requirePiece_4 : decode cX4_requirePiece 4 = .ok (.iload_n 1, 1) := by decide +kernel
theorem dX4_requirePiece_5 : decode cX4_requirePiece 5 = .ok (.invokevirtual 129, 3) := by decide +kernel
theorem dX4_requirePiece_8 : decode cX4_requirePiece 8 = .ok (.iconst 1, 1) := by decide +kernel
theorem dX4_requirePiece_9 : decode cX4_requirePiece 9 = .ok (.if_icmp .eq 14, 3) := by decide +kernel
theorem dX4_requirePiece_12 : decode cX4_requirePiece 12 = .ok (.new 165, 3) := by decide +kernel
theorem dX4_requirePiece_15 : decode cX4_requirePiece 15 = .ok (.dup, 1) := by decide +kernel
theorem dX4_requirePiece_16 : decode cX4_requirePiece 16 = .ok (.ldc_w 301, 3) := by decide +kernel
theorem dX4_requirePiece_19 : decode cX4_requirePiece 19 = .ok (.invokespecial 169, 3) := by decide +kernel
theorem dX4_requirePiece_22 : decode cX4_requirePiece 22 = .ok (.athrow, 1) := by decide +kernel
theorem dX4_requirePiece_23 : decode cX4_requirePiece 23 = .ok (.return_, 1) := by decide +kernel
set_option maxRecDepth 20000 in
theorem ggX4_requireTarget_X2_targetsOf : GoodIn wsX4_requireTarget wsX2_targetsOf := goodIn_ca (goodIn_r _ [8, 9, 10, 11, 12, 7, 13, 14, 15, 16, 17, 18, 19, 20, 21, 22, 23, 24, 25, 26, 27, 28, 29, 30, 31, 32, 33, 34, 35, 36, 37, 38, 39, 40, 41, 42, 43, 44, 45, 46, 47, 48, 49, 50, 51, 52, 53, 54, 55, 56, 57, 58, 59, 60, 61, 62, 63, 64, 65, 66, 76] (by decide +kernel) (by decide +kernel)) (goodIn_sub (fun _ h => List.mem_cons_of_mem _ (List.mem_append_right _ h)) (by decide +kernel))
set_option maxRecDepth 20000 in
theorem gX4_requireTarget_X2_targetsOf : GoodIn wsX4_requireTarget (wsV RX4 148 RX2 yX2_targetsOf wsX2_targetsOf) := goodIn_app (goodIn_of _ (by decide +kernel)) ggX4_requireTarget_X2_targetsOf
set_option maxRecDepth 20000 in
theorem ggX4_requireTarget_X3_has : GoodIn wsX4_requireTarget wsX3_has := goodIn_r _ [30] (by decide +kernel) (by decide +kernel)
set_option maxRecDepth 20000 in
theorem gX4_requireTarget_X3_has : GoodIn wsX4_requireTarget (va_wsS RX4 141 yX3_has wsX3_has) := goodIn_app (goodIn_of _ (by decide +kernel)) ggX4_requireTarget_X3_has
theorem dX4_requireTarget_0 : decode cX4_requireTarget 0 = .ok (.aload_n 0, 1) := by decide +kernel
theorem dX4_requireTarget_1 : decode cX4_requireTarget 1 = .ok (.getfield 10, 3) := by decide +kernel
theorem dX4_requireTarget_4 : decode cX4_requireTarget 4 = .ok (.iload_n 1, 1) := by decide +kernel
theorem dX4_requireTarget_5 : decode cX4_requireTarget 5 = .ok (.invokevirtual 148, 3) := by decide +kernel
theorem dX4_requireTarget_8 : decode cX4_requireTarget 8 = .ok (.iload_n 2, 1) := by decide +kernel
theorem dX4_requireTarget_9 : decode cX4_requireTarget 9 = .ok (.invokestatic 141, 3) := by decide +kernel
theorem dX4_requireTarget_12 : decode cX4_requireTarget 12 = .ok (.ifCond .ne 14, 3) := by decide +kernel
theorem dX4_requireTarget_15 : decode cX4_requireTarget 15 = .ok (.new 165, 3) := by decide +kernel
theorem dX4_requireTarget_18 : decode cX4_requireTarget 18 = .ok (.dup, 1) := by decide +kernel
theorem dX4_requireTarget_19 : decode cX4_requireTarget 19 = .ok (.ldc_w 303, 3) := by decide +kernel
theorem dX4_requireTarget_22 : decode cX4_requireTarget 22 = .ok (.invokespecial 169, 3) := by decide +kernel
theorem dX4_requireTarget_25 : decode cX4_requireTarget 25 = .ok (.athrow, 1) := by decide +kernel
theorem dX4_requireTarget_26 : decode cX4_requireTarget 26 = .ok (.return_, 1) := by decide +kernel
theorem dX4_requireTaken_0 : decode cX4_requireTaken 0 = .ok (.iload_n 1, 1) := by decide +kernel
theorem dX4_requireTaken_1 : decode cX4_requireTaken 1 = .ok (.ifCond .eq 19, 3) := by decide +kernel
theorem dX4_requireTaken_4 : decode cX4_requireTaken 4 = .ok (.aload_n 0, 1) := by decide +kernel
theorem dX4_requireTaken_5 : decode cX4_requireTaken 5 = .ok (.iload_n 1, 1) := by decide +kernel
theorem dX4_requireTaken_6 : decode cX4_requireTaken 6 = .ok (.putfield 40, 3) := by decide +kernel
theorem dX4_requireTaken_9 : decode cX4_requireTaken 9 = .ok (.new 305, 3) := by decide +kernel
theorem dX4_requireTaken_12 : decode cX4_requireTaken 12 = .ok (.dup, 1) := by decide +kernel
theorem dX4_requireTaken_13 : decode cX4_requireTaken 13 = .ok (.ldc_w 307, 3) := by decide +kernel
theorem dX4_requireTaken_16 : decode cX4_requireTaken 16 = .ok (.invokespecial 309, 3) := by decide +kernel
theorem dX4_requireTaken_19 : decode cX4_requireTaken 19 = .ok (.athrow, 1) := by decide +kernel
theorem dX4_requireTaken_20 : decode cX4_requireTaken 20 = .ok (.return_, 1) := by decide +kernel
set_option maxRecDepth 20000 in
theorem ggX4_bestMove_X2_mover : GoodIn wsX4_bestMove wsX2_mover := goodIn_ca (goodIn_r _ [6, 7, 8, 9, 5, 10, 11, 141] (by decide +kernel) (by decide +kernel)) (goodIn_sub (fun _ h => List.mem_cons_of_mem _ (List.mem_append_right _ h)) (by decide +kernel))
set_option maxRecDepth 20000 in
theorem gX4_bestMove_X2_mover : GoodIn wsX4_bestMove (wsV RX4 176 RX2 yX2_mover wsX2_mover) := goodIn_app (goodIn_of _ (by decide +kernel)) ggX4_bestMove_X2_mover
set_option maxRecDepth 20000 in
theorem ggX4_bestMove_X2_piecesOf : GoodIn wsX4_bestMove wsX2_piecesOf := goodIn_ca (goodIn_r _ [15, 11, 141] (by decide +kernel) (by decide +kernel)) (goodIn_sub (fun _ h => List.mem_cons_of_mem _ (List.mem_append_right _ h)) (by decide +kernel))
set_option maxRecDepth 20000 in
theorem gX4_bestMove_X2_piecesOf : GoodIn wsX4_bestMove (wsV RX4 97 RX2 yX2_piecesOf wsX2_piecesOf) := goodIn_app (goodIn_of _ (by decide +kernel)) ggX4_bestMove_X2_piecesOf
set_option maxRecDepth 20000 in
theorem ggX4_bestMove_X3_has : GoodIn wsX4_bestMove wsX3_has := goodIn_r _ [19] (by decide +kernel) (by decide +kernel)
set_option maxRecDepth 20000 in
theorem gX4_bestMove_X3_has : GoodIn wsX4_bestMove (va_wsS RX4 141 yX3_has wsX3_has) := goodIn_app (goodIn_of _ (by decide +kernel)) ggX4_bestMove_X3_has
set_option maxRecDepth 20000 in
theorem ggX4_bestMove_X2_targetsOf : GoodIn wsX4_bestMove wsX2_targetsOf := goodIn_ca (goodIn_r _ [23, 24, 25, 26, 27, 5, 28, 29, 13, 14, 15, 11, 30, 31, 32, 33, 34, 35, 36, 37, 38, 17, 18, 19, 39, 40, 41, 42, 43, 44, 45, 46, 47, 48, 49, 50, 51, 52, 53, 54, 55, 56, 57, 58, 59, 60, 61, 62, 63, 64, 65, 66, 67, 68, 69, 70, 71, 72, 73, 74, 141] (by decide +kernel) (by decide +kernel)) (goodIn_sub (fun _ h => List.mem_cons_of_mem _ (List.mem_append_right _ h)) (by decide +kernel))
set_option maxRecDepth 20000 in
theorem gX4_bestMove_X2_targetsOf : GoodIn wsX4_bestMove (wsV RX4 148 RX2 yX2_targetsOf wsX2_targetsOf) := goodIn_app (goodIn_of _ (by decide +kernel)) ggX4_bestMove_X2_targetsOf
set_option maxRecDepth 20000 in
theorem ggX4_bestMove_X4_worthOfMove : GoodIn wsX4_bestMove wsX4_worthOfMove := goodIn_ca (goodIn_r _ [79, 80, 1, 81, 82, 83, 5, 84, 11, 85, 86, 87, 88, 25, 26, 27, 28, 29, 13, 14, 15, 30, 31, 32, 33, 34, 35, 36, 37, 38, 17, 18, 19, 51, 52, 53, 54, 55, 56, 57, 58, 39, 40, 41, 89, 90, 91, 92, 24, 93, 94, 95, 96, 97, 98, 99, 100, 101, 102, 103, 104, 105, 63, 64, 65, 66, 67, 106, 78, 107, 108, 109, 110, 111, 112, 113, 114, 115, 116, 117, 118, 119, 120, 121, 2, 3, 4, 6, 7, 8, 9, 10, 122, 123, 124, 125, 126, 42, 43, 44, 45, 46, 127, 128, 129, 130, 131, 132, 71, 72, 73, 133, 134, 135, 136, 137, 138, 139, 140, 141] (by decide +kernel) (by decide +kernel)) (goodIn_sub (fun _ h => List.mem_cons_of_mem _ (List.mem_append_right _ h)) (by decide +kernel))
set_option maxRecDepth 20000 in
theorem gX4_bestMove_X4_worthOfMove : GoodIn wsX4_bestMove (wsV RX4 181 RX4 yX4_worthOfMove wsX4_worthOfMove) := goodIn_app (goodIn_of _ (by decide +kernel)) ggX4_bestMove_X4_worthOfMove
theorem dX4_bestMove_0 : decode cX4_bestMove 0 = .ok (.aload_n 0, 1) := by decide +kernel
theorem dX4_bestMove_1 : decode cX4_bestMove 1 = .ok (.getfield 10, 3) := by decide +kernel
theorem dX4_bestMove_4 : decode cX4_bestMove 4 = .ok (.aload_n 0, 1) := by decide +kernel
theorem dX4_bestMove_5 : decode cX4_bestMove 5 = .ok (.getfield 10, 3) := by decide +kernel
theorem dX4_bestMove_8 : decode cX4_bestMove 8 = .ok (.invokevirtual 176, 3) := by decide +kernel
theorem dX4_bestMove_11 : decode cX4_bestMove 11 = .ok (.invokevirtual 97, 3) := by decide +kernel
theorem dX4_bestMove_14 : decode cX4_bestMove 14 = .ok (.lstore_n 1, 1) := by decide +kernel
theorem dX4_bestMove_15 : decode cX4_bestMove 15 = .ok (.iconst (-1), 1) := by decide +kernel
theorem dX4_bestMove_16 : decode cX4_bestMove 16 = .ok (.istore_n 3, 1) := by decide +kernel
theorem dX4_bestMove_17 : decode cX4_bestMove 17 = .ok (.iconst (-1), 1) := by decide +kernel
theorem dX4_bestMove_18 : decode cX4_bestMove 18 = .ok (.istore 4, 2) := by decide +kernel
theorem dX4_bestMove_20 : decode cX4_bestMove 20 = .ok (.iconst 0, 1) := by decide +kernel
theorem dX4_bestMove_21 : decode cX4_bestMove 21 = .ok (.istore 5, 2) := by decide +kernel
theorem dX4_bestMove_23 : decode cX4_bestMove 23 = .ok (.iload 5, 2) := by decide +kernel
theorem dX4_bestMove_25 : decode cX4_bestMove 25 = .ok (.bipush 36, 2) := by decide +kernel
theorem dX4_bestMove_27 : decode cX4_bestMove 27 = .ok (.if_icmp .ge 99, 3) := by decide +kernel
theorem dX4_bestMove_30 : decode cX4_bestMove 30 = .ok (.lload_n 1, 1) := by decide +kernel
theorem dX4_bestMove_31 : decode cX4_bestMove 31 = .ok (.iload 5, 2) := by decide +kernel
theorem dX4_bestMove_33 : decode cX4_bestMove 33 = .ok (.invokestatic 141, 3) := by decide +kernel
theorem dX4_bestMove_36 : decode cX4_bestMove 36 = .ok (.ifCond .eq 15, 3) := by decide +kernel
theorem dX4_bestMove_39 : decode cX4_bestMove 39 = .ok (.aload_n 0, 1) := by decide +kernel
theorem dX4_bestMove_40 : decode cX4_bestMove 40 = .ok (.getfield 10, 3) := by decide +kernel
theorem dX4_bestMove_43 : decode cX4_bestMove 43 = .ok (.iload 5, 2) := by decide +kernel
theorem dX4_bestMove_45 : decode cX4_bestMove 45 = .ok (.invokevirtual 148, 3) := by decide +kernel
theorem dX4_bestMove_48 : decode cX4_bestMove 48 = .ok (.goto 4, 3) := by decide +kernel
theorem dX4_bestMove_51 : decode cX4_bestMove 51 = .ok (.lconst 0, 1) := by decide +kernel
theorem dX4_bestMove_52 : decode cX4_bestMove 52 = .ok (.lstore 6, 2) := by decide +kernel
theorem dX4_bestMove_54 : decode cX4_bestMove 54 = .ok (.iconst 0, 1) := by decide +kernel
theorem dX4_bestMove_55 : decode cX4_bestMove 55 = .ok (.istore 8, 2) := by decide +kernel
theorem dX4_bestMove_57 : decode cX4_bestMove 57 = .ok (.iload 8, 2) := by decide +kernel
theorem dX4_bestMove_59 : decode cX4_bestMove 59 = .ok (.bipush 36, 2) := by decide +kernel
theorem dX4_bestMove_61 : decode cX4_bestMove 61 = .ok (.if_icmp .ge 59, 3) := by decide +kernel
theorem dX4_bestMove_64 : decode cX4_bestMove 64 = .ok (.lload 6, 2) := by decide +kernel
theorem dX4_bestMove_66 : decode cX4_bestMove 66 = .ok (.lconst 0, 1) := by decide +kernel
theorem dX4_bestMove_67 : decode cX4_bestMove 67 = .ok (.lcmp, 1) := by decide +kernel
theorem dX4_bestMove_68 : decode cX4_bestMove 68 = .ok (.ifCond .eq 52, 3) := by decide +kernel
theorem dX4_bestMove_71 : decode cX4_bestMove 71 = .ok (.lload 6, 2) := by decide +kernel
theorem dX4_bestMove_73 : decode cX4_bestMove 73 = .ok (.iload 8, 2) := by decide +kernel
theorem dX4_bestMove_75 : decode cX4_bestMove 75 = .ok (.invokestatic 141, 3) := by decide +kernel
theorem dX4_bestMove_78 : decode cX4_bestMove 78 = .ok (.ifCond .eq 14, 3) := by decide +kernel
theorem dX4_bestMove_81 : decode cX4_bestMove 81 = .ok (.aload_n 0, 1) := by decide +kernel
theorem dX4_bestMove_82 : decode cX4_bestMove 82 = .ok (.iload 5, 2) := by decide +kernel
theorem dX4_bestMove_84 : decode cX4_bestMove 84 = .ok (.iload 8, 2) := by decide +kernel
theorem dX4_bestMove_86 : decode cX4_bestMove 86 = .ok (.invokevirtual 181, 3) := by decide +kernel
theorem dX4_bestMove_89 : decode cX4_bestMove 89 = .ok (.goto 4, 3) := by decide +kernel
theorem dX4_bestMove_92 : decode cX4_bestMove 92 = .ok (.iconst (-1), 1) := by decide +kernel
theorem dX4_bestMove_93 : decode cX4_bestMove 93 = .ok (.istore 9, 2) := by decide +kernel
theorem dX4_bestMove_95 : decode cX4_bestMove 95 = .ok (.iload 9, 2) := by decide +kernel
theorem dX4_bestMove_97 : decode cX4_bestMove 97 = .ok (.iload_n 3, 1) := by decide +kernel
theorem dX4_bestMove_98 : decode cX4_bestMove 98 = .ok (.if_icmp .le 16, 3) := by decide +kernel
theorem dX4_bestMove_101 : decode cX4_bestMove 101 = .ok (.iload 9, 2) := by decide +kernel
theorem dX4_bestMove_103 : decode cX4_bestMove 103 = .ok (.istore_n 3, 1) := by decide +kernel
theorem dX4_bestMove_104 : decode cX4_bestMove 104 = .ok (.iload 5, 2) := by decide +kernel
theorem dX4_bestMove_106 : decode cX4_bestMove 106 = .ok (.bipush 36, 2) := by decide +kernel
theorem dX4_bestMove_108 : decode cX4_bestMove 108 = .ok (.imul, 1) := by decide +kernel
theorem dX4_bestMove_109 : decode cX4_bestMove 109 = .ok (.iload 8, 2) := by decide +kernel
theorem dX4_bestMove_111 : decode cX4_bestMove 111 = .ok (.iadd, 1) := by decide +kernel
theorem dX4_bestMove_112 : decode cX4_bestMove 112 = .ok (.istore 4, 2) := by decide +kernel
theorem dX4_bestMove_114 : decode cX4_bestMove 114 = .ok (.iinc 8 1, 3) := by decide +kernel
theorem dX4_bestMove_117 : decode cX4_bestMove 117 = .ok (.goto (-60), 3) := by decide +kernel
theorem dX4_bestMove_120 : decode cX4_bestMove 120 = .ok (.iinc 5 1, 3) := by decide +kernel
theorem dX4_bestMove_123 : decode cX4_bestMove 123 = .ok (.goto (-100), 3) := by decide +kernel
theorem dX4_bestMove_126 : decode cX4_bestMove 126 = .ok (.iload 4, 2) := by decide +kernel
theorem dX4_bestMove_128 : decode cX4_bestMove 128 = .ok (.ireturn, 1) := by decide +kernel
set_option maxRecDepth 20000 in
theorem ggX4_worthOfMove_X2_copyFrom : GoodIn wsX4_worthOfMove wsX2_copyFrom := goodIn_ca (goodIn_r _ [7, 8, 119] (by decide +kernel) (by decide +kernel)) (goodIn_sub (fun _ h => List.mem_cons_of_mem _ (List.mem_append_right _ h)) (by decide +kernel))
set_option maxRecDepth 20000 in
theorem gX4_worthOfMove_X2_copyFrom : GoodIn wsX4_worthOfMove (wsV RX4 155 RX2 yX2_copyFrom wsX2_copyFrom) := goodIn_app (goodIn_of _ (by decide +kernel)) ggX4_worthOfMove_X2_copyFrom
set_option maxRecDepth 20000 in
theorem ggX4_worthOfMove_X2_movePiece : GoodIn wsX4_worthOfMove wsX2_movePiece := goodIn_ca (goodIn_r _ [12, 13, 14, 15, 6, 16, 17, 18, 19, 20, 8, 21, 22, 23, 24, 25, 26, 27, 28, 29, 30, 31, 32, 33, 34, 35, 36, 37, 38, 39, 40, 41, 42, 43, 44, 45, 46, 47, 48, 49, 50, 51, 52, 53, 54, 55, 56, 57, 58, 59, 60, 61, 62, 63, 64, 65, 66, 67, 68, 69, 70, 71, 72, 73, 74, 75, 76, 77, 78, 79, 80, 81, 82, 83, 119] (by decide +kernel) (by decide +kernel)) (goodIn_sub (fun _ h => List.mem_cons_of_mem _ (List.mem_append_right _ h)) (by decide +kernel))
set_option maxRecDepth 20000 in
theorem gX4_worthOfMove_X2_movePiece : GoodIn wsX4_worthOfMove (wsV RX4 158 RX2 yX2_movePiece wsX2_movePiece) := goodIn_app (goodIn_of _ (by decide +kernel)) ggX4_worthOfMove_X2_movePiece
set_option maxRecDepth 20000 in
theorem ggX4_worthOfMove_X2_mover : GoodIn wsX4_worthOfMove wsX2_mover := goodIn_ca (goodIn_r _ [87, 88, 89, 90, 6, 91, 8, 119] (by decide +kernel) (by decide +kernel)) (goodIn_sub (fun _ h => List.mem_cons_of_mem _ (List.mem_append_right _ h)) (by decide +kernel))
set_option maxRecDepth 20000 in
theorem gX4_worthOfMove_X2_mover : GoodIn wsX4_worthOfMove (wsV RX4 176 RX2 yX2_mover wsX2_mover) := goodIn_app (goodIn_of _ (by decide +kernel)) ggX4_worthOfMove_X2_mover
set_option maxRecDepth 20000 in
theorem ggX4_worthOfMove_X4_otherSide : GoodIn wsX4_worthOfMove wsX4_otherSide := goodIn_r _ [69] (by decide +kernel) (by decide +kernel)
set_option maxRecDepth 20000 in
theorem gX4_worthOfMove_X4_otherSide : GoodIn wsX4_worthOfMove (va_wsS RX4 203 yX4_otherSide wsX4_otherSide) := goodIn_app (goodIn_of _ (by decide +kernel)) ggX4_worthOfMove_X4_otherSide
set_option maxRecDepth 20000 in
theorem ggX4_worthOfMove_X2_countSealedByRooms : GoodIn wsX4_worthOfMove wsX2_countSealedByRooms := goodIn_ca (goodIn_r _ [96, 48, 97, 98, 99, 6, 100, 8, 101, 102, 103, 31, 104, 105, 106, 107, 108, 109, 110, 64, 65, 66, 17, 18, 19, 20, 74, 75, 76, 77, 78, 79, 80, 81, 82, 83, 119] (by decide +kernel) (by decide +kernel)) (goodIn_sub (fun _ h => List.mem_cons_of_mem _ (List.mem_append_right _ h)) (by decide +kernel))
set_option maxRecDepth 20000 in
theorem gX4_worthOfMove_X2_countSealedByRooms : GoodIn wsX4_worthOfMove (wsV RX4 209 RX2 yX2_countSealedByRooms wsX2_countSealedByRooms) := goodIn_app (goodIn_of _ (by decide +kernel)) ggX4_worthOfMove_X2_countSealedByRooms
theorem dX4_worthOfMove_0 : decode cX4_worthOfMove 0 = .ok (.aload_n 0, 1) := by decide +kernel
theorem dX4_worthOfMove_1 : decode cX4_worthOfMove 1 = .ok (.getfield 16, 3) := by decide +kernel
theorem dX4_worthOfMove_4 : decode cX4_worthOfMove 4 = .ok (.aload_n 0, 1) := by decide +kernel
theorem dX4_worthOfMove_5 : decode cX4_worthOfMove 5 = .ok (.getfield 10, 3) := by decide +kernel
theorem dX4_worthOfMove_8 : decode cX4_worthOfMove 8 = .ok (.invokevirtual 155, 3) := by decide +kernel
theorem dX4_worthOfMove_11 : decode cX4_worthOfMove 11 = .ok (.aload_n 0, 1) := by decide +kernel
theorem dX4_worthOfMove_12 : decode cX4_worthOfMove 12 = .ok (.getfield 16, 3) := by decide +kernel
theorem dX4_worthOfMove_15 : decode cX4_worthOfMove 15 = .ok (.iload_n 1, 1) := by decide +kernel
theorem dX4_worthOfMove_16 : decode cX4_worthOfMove 16 = .ok (.iload_n 2, 1) := by decide +kernel
theorem dX4_worthOfMove_17 : decode cX4_worthOfMove 17 = .ok (.invokevirtual 158, 3) := by decide +kernel
theorem dX4_worthOfMove_20 : decode cX4_worthOfMove 20 = .ok (.istore_n 3, 1) := by decide +kernel
theorem dX4_worthOfMove_21 : decode cX4_worthOfMove 21 = .ok (.bipush 10, 2) := by decide +kernel
theorem dX4_worthOfMove_23 : decode cX4_worthOfMove 23 = .ok (.iload_n 3, 1) := by decide +kernel
theorem dX4_worthOfMove_24 : decode cX4_worthOfMove 24 = .ok (.imul, 1) := by decide +kernel
theorem dX4_worthOfMove_25 : decode cX4_worthOfMove 25 = .ok (.aload_n 0, 1) := by decide +kernel
theorem dX4_worthOfMove_26 : decode cX4_worthOfMove 26 = .ok (.getfield 16, 3) := by decide +kernel
theorem dX4_worthOfMove_29 : decode cX4_worthOfMove 29 = .ok (.aload_n 0, 1) := by decide +kernel
theorem dX4_worthOfMove_30 : decode cX4_worthOfMove 30 = .ok (.getfield 10, 3) := by decide +kernel
theorem dX4_worthOfMove_33 : decode cX4_worthOfMove 33 = .ok (.invokevirtual 176, 3) := by decide +kernel
theorem dX4_worthOfMove_36 : decode cX4_worthOfMove 36 = .ok (.invokestatic 203, 3) := by decide +kernel
theorem dX4_worthOfMove_39 : decode cX4_worthOfMove 39 = .ok (.invokevirtual 209, 3) := by decide +kernel
theorem dX4_worthOfMove_42 : decode cX4_worthOfMove 42 = .ok (.iadd, 1) := by decide +kernel
theorem dX4_worthOfMove_43 : decode cX4_worthOfMove 43 = .ok (.ireturn, 1) := by decide +kernel
set_option maxRecDepth 20000 in
theorem ggX4_takeTurnOnTrial_X1_characterAt : GoodIn wsX4_takeTurnOnTrial wsX1_characterAt := goodIn_ca (goodIn_r _ [7, 8, 9, 201, 202] (by decide +kernel) (by decide +kernel)) (goodIn_sub (fun _ h => List.mem_cons_of_mem _ (List.mem_append_right _ h)) (by decide +kernel))
set_option maxRecDepth 20000 in
theorem gX4_takeTurnOnTrial_X1_characterAt : GoodIn wsX4_takeTurnOnTrial (wsV RX4 310 RX1 yX1_characterAt wsX1_characterAt) := goodIn_app (goodIn_of _ (by decide +kernel)) ggX4_takeTurnOnTrial_X1_characterAt
set_option maxRecDepth 20000 in
theorem ggX4_takeTurnOnTrial_X1_squareAt : GoodIn wsX4_takeTurnOnTrial wsX1_squareAt := goodIn_ca (goodIn_r _ [13, 14, 4, 5, 6, 7, 8, 9, 15, 16, 17, 18, 19, 20, 201, 202] (by decide +kernel) (by decide +kernel)) (goodIn_sub (fun _ h => List.mem_cons_of_mem _ (List.mem_append_right _ h)) (by decide +kernel))
set_option maxRecDepth 20000 in
theorem gX4_takeTurnOnTrial_X1_squareAt : GoodIn wsX4_takeTurnOnTrial (wsV RX4 314 RX1 yX1_squareAt wsX1_squareAt) := goodIn_app (goodIn_of _ (by decide +kernel)) ggX4_takeTurnOnTrial_X1_squareAt
set_option maxRecDepth 20000 in
theorem ggX4_takeTurnOnTrial_X4_buyOnTrial : GoodIn wsX4_takeTurnOnTrial wsX4_buyOnTrial := goodIn_ca (goodIn_r _ [25, 2, 26, 27, 28, 29, 30, 31, 32, 33, 34, 35, 36, 37, 38, 39, 40, 41, 42, 43, 44, 45, 46, 47, 48, 49, 50, 51, 52, 53, 54, 55, 56, 57, 58, 59, 60, 61, 62, 63, 64, 65, 66, 67, 68, 69, 70, 71, 72, 73, 74, 75, 76, 77, 78, 79, 80, 81, 82, 83, 84, 85, 86, 87, 88, 89, 90, 91, 92, 93, 94, 95, 96, 97, 98, 99, 100, 101, 102, 103, 104, 105, 106, 107, 108, 109, 110, 111, 112, 113, 114, 115, 116, 117, 118, 119, 120, 121, 122, 123, 124, 24, 125, 126, 127, 128, 129, 130, 131, 132, 133, 134, 135, 136, 137, 138, 139, 140, 141, 142, 193, 194, 195, 196, 197, 198, 199, 200, 203] (by decide +kernel) (by decide +kernel)) (goodIn_sub (fun _ h => List.mem_cons_of_mem _ (List.mem_append_right _ h)) (by decide +kernel))
set_option maxRecDepth 20000 in
theorem gX4_takeTurnOnTrial_X4_buyOnTrial : GoodIn wsX4_takeTurnOnTrial (wsV RX4 317 RX4 yX4_buyOnTrial wsX4_buyOnTrial) := goodIn_app (goodIn_of _ (by decide +kernel)) ggX4_takeTurnOnTrial_X4_buyOnTrial
set_option maxRecDepth 20000 in
theorem ggX4_takeTurnOnTrial_X2_refusalOfMove : GoodIn wsX4_takeTurnOnTrial wsX2_refusalOfMove := goodIn_ca (goodIn_r _ [146, 40, 41, 42, 29, 43, 39, 35, 36, 37, 38, 44, 45, 46, 31, 32, 33, 34, 68, 69, 70, 71, 51, 52, 53, 54, 147, 148, 149, 150, 110, 151, 152, 153, 154, 155, 156, 157, 158, 55, 56, 57, 58, 59, 60, 61, 130, 131, 132, 133, 134, 135, 136, 137, 138, 72, 73, 74, 75, 76, 77, 78, 79, 159, 160, 161, 162, 163, 164, 65, 66, 67, 165, 166, 167, 168, 63, 64, 62, 203] (by decide +kernel) (by decide +kernel)) (goodIn_sub (fun _ h => List.mem_cons_of_mem _ (List.mem_append_right _ h)) (by decide +kernel))
set_option maxRecDepth 20000 in
theorem gX4_takeTurnOnTrial_X2_refusalOfMove : GoodIn wsX4_takeTurnOnTrial (wsV RX4 107 RX2 yX2_refusalOfMove wsX2_refusalOfMove) := goodIn_app (goodIn_of _ (by decide +kernel)) ggX4_takeTurnOnTrial_X2_refusalOfMove
set_option maxRecDepth 20000 in
theorem ggX4_takeTurnOnTrial_X2_takeMove : GoodIn wsX4_takeTurnOnTrial wsX2_takeMove := goodIn_ca (goodIn_r _ [172, 31, 32, 33, 29, 34, 35, 36, 37, 38, 39, 124, 24, 125, 80, 81, 82, 83, 68, 69, 70, 71, 84, 85, 53, 86, 87, 88, 89, 90, 91, 92, 93, 173, 174, 175, 176, 151, 152, 153, 154, 155, 156, 157, 158, 55, 56, 57, 58, 51, 52, 54, 72, 73, 74, 75, 76, 77, 78, 79, 59, 60, 61, 106, 107, 108, 109, 110, 177, 178, 179, 180, 111, 112, 113, 114, 181, 182, 183, 184, 185, 163, 164, 65, 66, 67, 186, 187, 188, 189, 190, 191, 192, 115, 116, 117, 118, 119, 120, 121, 122, 123, 126, 127, 128, 129, 62, 63, 64, 130, 131, 132, 133, 134, 135, 136, 137, 138, 203] (by decide +kernel) (by decide +kernel)) (goodIn_sub (fun _ h => List.mem_cons_of_mem _ (List.mem_append_right _ h)) (by decide +kernel))
set_option maxRecDepth 20000 in
theorem gX4_takeTurnOnTrial_X2_takeMove : GoodIn wsX4_takeTurnOnTrial (wsV RX4 114 RX2 yX2_takeMove wsX2_takeMove) := goodIn_app (goodIn_of _ (by decide +kernel)) ggX4_takeTurnOnTrial_X2_takeMove
theorem dX4_takeTurnOnTrial_0 : decode cX4_takeTurnOnTrial 0 = .ok (.aload_n 0, 1) := by decide +kernel
theorem dX4_takeTurnOnTrial_1 : decode cX4_takeTurnOnTrial 1 = .ok (.getfield 32, 3) := by decide +kernel
theorem dX4_takeTurnOnTrial_4 : decode cX4_takeTurnOnTrial 4 = .ok (.iload_n 1, 1) := by decide +kernel
theorem dX4_takeTurnOnTrial_5 : decode cX4_takeTurnOnTrial 5 = .ok (.invokevirtual 310, 3) := by decide +kernel
theorem dX4_takeTurnOnTrial_8 : decode cX4_takeTurnOnTrial 8 = .ok (.istore_n 2, 1) := by decide +kernel
theorem dX4_takeTurnOnTrial_9 : decode cX4_takeTurnOnTrial 9 = .ok (.iload_n 2, 1) := by decide +kernel
theorem dX4_takeTurnOnTrial_10 : decode cX4_takeTurnOnTrial 10 = .ok (.bipush 43, 2) := by decide +kernel
theorem dX4_takeTurnOnTrial_12 : decode cX4_takeTurnOnTrial 12 = .ok (.if_icmp .eq 9, 3) := by decide +kernel
theorem dX4_takeTurnOnTrial_15 : decode cX4_takeTurnOnTrial 15 = .ok (.iload_n 2, 1) := by decide +kernel
theorem dX4_takeTurnOnTrial_16 : decode cX4_takeTurnOnTrial 16 = .ok (.bipush 42, 2) := by decide +kernel
theorem dX4_takeTurnOnTrial_18 : decode cX4_takeTurnOnTrial 18 = .ok (.if_icmp .ne 29, 3) := by decide +kernel
theorem dX4_takeTurnOnTrial_21 : decode cX4_takeTurnOnTrial 21 = .ok (.aload_n 0, 1) := by decide +kernel
theorem dX4_takeTurnOnTrial_22 : decode cX4_takeTurnOnTrial 22 = .ok (.aload_n 0, 1) := by decide +kernel
theorem dX4_takeTurnOnTrial_23 : decode cX4_takeTurnOnTrial 23 = .ok (.getfield 32, 3) := by decide +kernel
theorem dX4_takeTurnOnTrial_26 : decode cX4_takeTurnOnTrial 26 = .ok (.iload_n 1, 1) := by decide +kernel
theorem dX4_takeTurnOnTrial_27 : decode cX4_takeTurnOnTrial 27 = .ok (.iconst 1, 1) := by decide +kernel
theorem dX4_takeTurnOnTrial_28 : decode cX4_takeTurnOnTrial 28 = .ok (.iadd, 1) := by decide +kernel
theorem dX4_takeTurnOnTrial_29 : decode cX4_takeTurnOnTrial 29 = .ok (.invokevirtual 314, 3) := by decide +kernel
theorem dX4_takeTurnOnTrial_32 : decode cX4_takeTurnOnTrial 32 = .ok (.iload_n 2, 1) := by decide +kernel
theorem dX4_takeTurnOnTrial_33 : decode cX4_takeTurnOnTrial 33 = .ok (.bipush 42, 2) := by decide +kernel
theorem dX4_takeTurnOnTrial_35 : decode cX4_takeTurnOnTrial 35 = .ok (.if_icmp .ne 7, 3) := by decide +kernel
theorem dX4_takeTurnOnTrial_38 : decode cX4_takeTurnOnTrial 38 = .ok (.iconst 1, 1) := by decide +kernel
theorem dX4_takeTurnOnTrial_39 : decode cX4_takeTurnOnTrial 39 = .ok (.goto 4, 3) := by decide +kernel
theorem dX4_takeTurnOnTrial_42 : decode cX4_takeTurnOnTrial 42 = .ok (.iconst 0, 1) := by decide +kernel
theorem dX4_takeTurnOnTrial_43 : decode cX4_takeTurnOnTrial 43 = .ok (.invokevirtual 317, 3) := by decide +kernel
theorem dX4_takeTurnOnTrial_46 : decode cX4_takeTurnOnTrial 46 = .ok (.ireturn, 1) := by decide +kernel
theorem dX4_takeTurnOnTrial_47 : decode cX4_takeTurnOnTrial 47 = .ok (.aload_n 0, 1) := by decide +kernel
theorem dX4_takeTurnOnTrial_48 : decode cX4_takeTurnOnTrial 48 = .ok (.getfield 32, 3) := by decide +kernel
theorem dX4_takeTurnOnTrial_51 : decode cX4_takeTurnOnTrial 51 = .ok (.iload_n 1, 1) := by decide +kernel
theorem dX4_takeTurnOnTrial_52 : decode cX4_takeTurnOnTrial 52 = .ok (.invokevirtual 314, 3) := by decide +kernel
theorem dX4_takeTurnOnTrial_55 : decode cX4_takeTurnOnTrial 55 = .ok (.istore_n 3, 1) := by decide +kernel
theorem dX4_takeTurnOnTrial_56 : decode cX4_takeTurnOnTrial 56 = .ok (.aload_n 0, 1) := by decide +kernel
theorem dX4_takeTurnOnTrial_57 : decode cX4_takeTurnOnTrial 57 = .ok (.getfield 32, 3) := by decide +kernel
theorem dX4_takeTurnOnTrial_60 : decode cX4_takeTurnOnTrial 60 = .ok (.iload_n 1, 1) := by decide +kernel
theorem dX4_takeTurnOnTrial_61 : decode cX4_takeTurnOnTrial 61 = .ok (.iconst 3, 1) := by decide +kernel
theorem dX4_takeTurnOnTrial_62 : decode cX4_takeTurnOnTrial 62 = .ok (.iadd, 1) := by decide +kernel
theorem dX4_takeTurnOnTrial_63 : decode cX4_takeTurnOnTrial 63 = .ok (.invokevirtual 314, 3) := by decide +kernel
theorem dX4_takeTurnOnTrial_66 : decode cX4_takeTurnOnTrial 66 = .ok (.istore 4, 2) := by decide +kernel
theorem dX4_takeTurnOnTrial_68 : decode cX4_takeTurnOnTrial 68 = .ok (.aload_n 0, 1) := by decide +kernel
theorem dX4_takeTurnOnTrial_69 : decode cX4_takeTurnOnTrial 69 = .ok (.getfield 16, 3) := by decide +kernel
theorem dX4_takeTurnOnTrial_72 : decode cX4_takeTurnOnTrial 72 = .ok (.iload_n 3, 1) := by decide +kernel
theorem dX4_takeTurnOnTrial_73 : decode cX4_takeTurnOnTrial 73 = .ok (.iload 4, 2) := by decide +kernel
theorem dX4_takeTurnOnTrial_75 : decode cX4_takeTurnOnTrial 75 = .ok (.invokevirtual 107, 3) := by decide +kernel
theorem dX4_takeTurnOnTrial_78 : decode cX4_takeTurnOnTrial 78 = .ok (.istore 5, 2) := by decide +kernel
theorem dX4_takeTurnOnTrial_80 : decode cX4_takeTurnOnTrial 80 = .ok (.iload 5, 2) := by decide +kernel
theorem dX4_takeTurnOnTrial_82 : decode cX4_takeTurnOnTrial 82 = .ok (.ifCond .ne 14, 3) := by decide +kernel
theorem dX4_takeTurnOnTrial_85 : decode cX4_takeTurnOnTrial 85 = .ok (.aload_n 0, 1) := by decide +kernel
theorem dX4_takeTurnOnTrial_86 : decode cX4_takeTurnOnTrial 86 = .ok (.getfield 16, 3) := by decide +kernel
theorem dX4_takeTurnOnTrial_89 : decode cX4_takeTurnOnTrial 89 = .ok (.iload_n 3, 1) := by decide +kernel
theorem dX4_takeTurnOnTrial_90 : decode cX4_takeTurnOnTrial 90 = .ok (.iload 4, 2) := by decide +kernel
theorem dX4_takeTurnOnTrial_92 : decode cX4_takeTurnOnTrial 92 = .ok (.invokevirtual 114, 3) := by decide +kernel
theorem dX4_takeTurnOnTrial_95 : decode cX4_takeTurnOnTrial 95 = .ok (.pop, 1) := by decide +kernel
theorem dX4_takeTurnOnTrial_96 : decode cX4_takeTurnOnTrial 96 = .ok (.iload 5, 2) := by decide +kernel
theorem dX4_takeTurnOnTrial_98 : decode cX4_takeTurnOnTrial 98 = .ok (.ireturn, 1) := by decide +kernel
set_option maxRecDepth 20000 in
theorem ggX4_buyOnTrial_X2_refusalOfPurchase : GoodIn wsX4_buyOnTrial wsX2_refusalOfPurchase := goodIn_ca (goodIn_r _ [6, 7, 8, 9, 5, 10, 11, 12, 13, 14, 15, 16, 17, 18, 19, 20, 21, 22, 23, 24, 25, 26, 27, 28, 29, 30, 31, 32, 33, 34, 35, 36, 37, 38, 39, 40, 41, 42, 43, 44, 45, 46, 47, 48, 49, 50, 51, 52, 53, 54, 55, 56, 57, 58, 59, 60, 61, 62, 63, 64, 65, 66, 67, 68, 69, 70, 71, 72, 73, 74, 75, 76, 77, 128] (by decide +kernel) (by decide +kernel)) (goodIn_sub (fun _ h => List.mem_cons_of_mem _ (List.mem_append_right _ h)) (by decide +kernel))
set_option maxRecDepth 20000 in
theorem gX4_buyOnTrial_X2_refusalOfPurchase : GoodIn wsX4_buyOnTrial (wsV RX4 117 RX2 yX2_refusalOfPurchase wsX2_refusalOfPurchase) := goodIn_app (goodIn_of _ (by decide +kernel)) ggX4_buyOnTrial_X2_refusalOfPurchase
set_option maxRecDepth 20000 in
theorem ggX4_buyOnTrial_X2_takePiece : GoodIn wsX4_buyOnTrial wsX2_takePiece := goodIn_ca (goodIn_r _ [81, 7, 8, 9, 5, 10, 11, 12, 13, 14, 15, 35, 36, 29, 37, 82, 83, 84, 85, 86, 87, 88, 89, 90, 70, 71, 72, 73, 48, 49, 50, 51, 52, 53, 54, 55, 27, 28, 30, 91, 92, 93, 94, 95, 96, 97, 98, 99, 100, 101, 102, 103, 104, 105, 106, 44, 45, 46, 47, 38, 39, 40, 41, 42, 43, 107, 108, 109, 110, 111, 112, 113, 114, 115, 74, 75, 76, 77, 128] (by decide +kernel) (by decide +kernel)) (goodIn_sub (fun _ h => List.mem_cons_of_mem _ (List.mem_append_right _ h)) (by decide +kernel))
set_option maxRecDepth 20000 in
theorem gX4_buyOnTrial_X2_takePiece : GoodIn wsX4_buyOnTrial (wsV RX4 124 RX2 yX2_takePiece wsX2_takePiece) := goodIn_app (goodIn_of _ (by decide +kernel)) ggX4_buyOnTrial_X2_takePiece
set_option maxRecDepth 20000 in
theorem ggX4_buyOnTrial_X2_takeDoor : GoodIn wsX4_buyOnTrial wsX2_takeDoor := goodIn_ca (goodIn_r _ [119, 7, 8, 9, 5, 10, 11, 12, 13, 14, 15, 35, 36, 29, 37, 82, 83, 84, 85, 86, 87, 88, 89, 90, 91, 92, 93, 94, 95, 96, 97, 98, 99, 100, 101, 102, 103, 104, 105, 106, 44, 45, 46, 47, 38, 39, 40, 41, 42, 43, 107, 108, 109, 110, 111, 112, 113, 114, 115, 74, 75, 76, 77, 128] (by decide +kernel) (by decide +kernel)) (goodIn_sub (fun _ h => List.mem_cons_of_mem _ (List.mem_append_right _ h)) (by decide +kernel))
set_option maxRecDepth 20000 in
theorem gX4_buyOnTrial_X2_takeDoor : GoodIn wsX4_buyOnTrial (wsV RX4 121 RX2 yX2_takeDoor wsX2_takeDoor) := goodIn_app (goodIn_of _ (by decide +kernel)) ggX4_buyOnTrial_X2_takeDoor
theorem dX4_buyOnTrial_0 : decode cX4_buyOnTrial 0 = .ok (.aload_n 0, 1) := by decide +kernel
theorem dX4_buyOnTrial_1 : decode cX4_buyOnTrial 1 = .ok (.getfield 16, 3) := by decide +kernel
theorem dX4_buyOnTrial_4 : decode cX4_buyOnTrial 4 = .ok (.iload_n 1, 1) := by decide +kernel
theorem dX4_buyOnTrial_5 : decode cX4_buyOnTrial 5 = .ok (.iload_n 2, 1) := by decide +kernel
theorem dX4_buyOnTrial_6 : decode cX4_buyOnTrial 6 = .ok (.invokevirtual 117, 3) := by decide +kernel
theorem dX4_buyOnTrial_9 : decode cX4_buyOnTrial 9 = .ok (.istore_n 3, 1) := by decide +kernel
theorem dX4_buyOnTrial_10 : decode cX4_buyOnTrial 10 = .ok (.iload_n 3, 1) := by decide +kernel
theorem dX4_buyOnTrial_11 : decode cX4_buyOnTrial 11 = .ok (.ifCond .ne 19, 3) := by decide +kernel
theorem dX4_buyOnTrial_14 : decode cX4_buyOnTrial 14 = .ok (.iload_n 2, 1) := by decide +kernel
theorem dX4_buyOnTrial_15 : decode cX4_buyOnTrial 15 = .ok (.ifCond .eq 15, 3) := by decide +kernel
theorem dX4_buyOnTrial_18 : decode cX4_buyOnTrial 18 = .ok (.aload_n 0, 1) := by decide +kernel
theorem dX4_buyOnTrial_19 : decode cX4_buyOnTrial 19 = .ok (.getfield 16, 3) := by decide +kernel
theorem dX4_buyOnTrial_22 : decode cX4_buyOnTrial 22 = .ok (.iload_n 1, 1) := by decide +kernel
theorem dX4_buyOnTrial_23 : decode cX4_buyOnTrial 23 = .ok (.invokevirtual 124, 3) := by decide +kernel
theorem dX4_buyOnTrial_26 : decode cX4_buyOnTrial 26 = .ok (.pop, 1) := by decide +kernel
theorem dX4_buyOnTrial_27 : decode cX4_buyOnTrial 27 = .ok (.goto 16, 3) := by decide +kernel
theorem dX4_buyOnTrial_30 : decode cX4_buyOnTrial 30 = .ok (.iload_n 3, 1) := by decide +kernel
theorem dX4_buyOnTrial_31 : decode cX4_buyOnTrial 31 = .ok (.ifCond .ne 12, 3) := by decide +kernel
theorem dX4_buyOnTrial_34 : decode cX4_buyOnTrial 34 = .ok (.aload_n 0, 1) := by decide +kernel
theorem dX4_buyOnTrial_35 : decode cX4_buyOnTrial 35 = .ok (.getfield 16, 3) := by decide +kernel
theorem dX4_buyOnTrial_38 : decode cX4_buyOnTrial 38 = .ok (.iload_n 1, 1) := by decide +kernel
theorem dX4_buyOnTrial_39 : decode cX4_buyOnTrial 39 = .ok (.invokevirtual 121, 3) := by decide +kernel
theorem dX4_buyOnTrial_42 : decode cX4_buyOnTrial 42 = .ok (.pop, 1) := by decide +kernel
theorem dX4_buyOnTrial_43 : decode cX4_buyOnTrial 43 = .ok (.iload_n 3, 1) := by decide +kernel
theorem dX4_buyOnTrial_44 : decode cX4_buyOnTrial 44 = .ok (.ireturn, 1) := by decide +kernel
theorem dX4_signOfPiece_0 : decode cX4_signOfPiece 0 = .ok (.iload_n 1, 1) := by decide +kernel
theorem dX4_signOfPiece_1 : decode cX4_signOfPiece 1 = .ok (.tableswitch 45 0 2 #[27, 33, 39], 27) := by decide +kernel
theorem dX4_signOfPiece_28 : decode cX4_signOfPiece 28 = .ok (.bipush 85, 2) := by decide +kernel
theorem dX4_signOfPiece_30 : decode cX4_signOfPiece 30 = .ok (.istore_n 2, 1) := by decide +kernel
theorem dX4_signOfPiece_31 : decode cX4_signOfPiece 31 = .ok (.goto 18, 3) := by decide +kernel
theorem dX4_signOfPiece_34 : decode cX4_signOfPiece 34 = .ok (.bipush 73, 2) := by decide +kernel
theorem dX4_signOfPiece_36 : decode cX4_signOfPiece 36 = .ok (.istore_n 2, 1) := by decide +kernel
theorem dX4_signOfPiece_37 : decode cX4_signOfPiece 37 = .ok (.goto 12, 3) := by decide +kernel
theorem dX4_signOfPiece_40 : decode cX4_signOfPiece 40 = .ok (.bipush 87, 2) := by decide +kernel
theorem dX4_signOfPiece_42 : decode cX4_signOfPiece 42 = .ok (.istore_n 2, 1) := by decide +kernel
theorem dX4_signOfPiece_43 : decode cX4_signOfPiece 43 = .ok (.goto 6, 3) := by decide +kernel
theorem dX4_signOfPiece_46 : decode cX4_signOfPiece 46 = .ok (.bipush 75, 2) := by decide +kernel
theorem dX4_signOfPiece_48 : decode cX4_signOfPiece 48 = .ok (.istore_n 2, 1) := by decide +kernel
theorem dX4_signOfPiece_49 : decode cX4_signOfPiece 49 = .ok (.iload_n 0, 1) := by decide +kernel
theorem dX4_signOfPiece_50 : decode cX4_signOfPiece 50 = .ok (.ifCond .ne 7, 3) := by decide +kernel
theorem dX4_signOfPiece_53 : decode cX4_signOfPiece 53 = .ok (.iload_n 2, 1) := by decide +kernel
theorem dX4_signOfPiece_54 : decode cX4_signOfPiece 54 = .ok (.goto 11, 3) := by decide +kernel
theorem dX4_signOfPiece_57 : decode cX4_signOfPiece 57 = .ok (.iload_n 2, 1) := by decide +kernel
theorem dX4_signOfPiece_58 : decode cX4_signOfPiece 58 = .ok (.bipush 65, 2) := by decide +kernel
theorem dX4_signOfPiece_60 : decode cX4_signOfPiece 60 = .ok (.isub, 1) := by decide +kernel
theorem dX4_signOfPiece_61 : decode cX4_signOfPiece 61 = .ok (.bipush 97, 2) := by decide +kernel
theorem dX4_signOfPiece_63 : decode cX4_signOfPiece 63 = .ok (.iadd, 1) := by decide +kernel
theorem dX4_signOfPiece_64 : decode cX4_signOfPiece 64 = .ok (.i2c, 1) := by decide +kernel
theorem dX4_signOfPiece_65 : decode cX4_signOfPiece 65 = .ok (.ireturn, 1) := by decide +kernel

set_option maxRecDepth 20000 in
theorem gg_areRooms_1 : GoodIn wsL_law (.code yL_areRooms cL_areRooms 11 (some .boolean) :: wsL_areRooms_r1) := goodIn_r _ [551, 552, 553, 554, 555, 2, 556, 14, 202, 203, 204, 157, 158, 557, 558, 559, 13, 560, 209, 210, 211, 212, 213, 32, 214] (by decide +kernel) (by decide +kernel)
set_option maxRecDepth 20000 in
theorem gg_areRooms_2 : GoodIn wsL_law wsL_areRooms_r2 := goodIn_r _ [215, 216, 77, 217, 218, 219, 220, 221, 222, 223, 224, 225, 226, 561, 562, 563, 564, 110, 111, 565, 566, 567, 568, 91] (by decide +kernel) (by decide +kernel)
set_option maxRecDepth 20000 in
theorem gg_areRooms_3 : GoodIn wsL_law wsL_areRooms_r3 := goodIn_r _ [92, 93, 94, 95, 96, 97, 98, 99, 100, 112, 113, 114, 115, 569, 333, 334, 120, 121, 122, 123, 570, 252, 253, 571] (by decide +kernel) (by decide +kernel)
set_option maxRecDepth 20000 in
theorem gg_areRooms_4 : GoodIn wsL_law wsL_areRooms_r4 := goodIn_r _ [572, 49, 573, 234, 357, 574, 575, 576, 577, 362, 363, 154, 155, 156, 578, 579, 580, 581, 164, 165, 166, 582, 583, 584] (by decide +kernel) (by decide +kernel)
set_option maxRecDepth 20000 in
theorem gg_areRooms_5 : GoodIn wsL_law wsL_areRooms_r5 := goodIn_r _ [585, 586, 587, 588, 589, 590, 591, 592, 173, 303, 106, 107, 108, 109, 24, 20, 116, 117, 118, 119, 124, 125, 126, 127] (by decide +kernel) (by decide +kernel)
set_option maxRecDepth 20000 in
theorem gg_areRooms_6 : GoodIn wsL_law wsL_areRooms_r6 := goodIn_r _ [128, 129, 130, 131, 132, 133, 134, 135, 136, 137, 138, 139, 140, 141, 142, 143, 23, 144, 145, 146, 147, 148, 19, 149] (by decide +kernel) (by decide +kernel)
set_option maxRecDepth 20000 in
theorem gg_areRooms_7 : GoodIn wsL_law wsL_areRooms_r7 := goodIn_r _ [61, 198, 199, 200, 201, 205, 206, 207, 208, 227, 593, 594, 595, 596, 597, 598, 599, 600, 601, 602, 603, 604, 605, 606] (by decide +kernel) (by decide +kernel)
set_option maxRecDepth 20000 in
theorem gg_areRooms_8 : GoodIn wsL_law wsL_areRooms_r8 := goodIn_r _ [607, 608, 609, 610, 611, 612] (by decide +kernel) (by decide +kernel)
set_option maxRecDepth 20000 in
theorem ggL_law_L_areRooms : GoodIn wsL_law wsL_areRooms := goodIn_ca (goodIn_ca (goodIn_ca (goodIn_ca (goodIn_ca (goodIn_ca (goodIn_ca (goodIn_ca (goodIn_ca (goodIn_ca gg_areRooms_1 (goodIn_app gg_areRooms_2 (goodIn_app gg_areRooms_3 (goodIn_app gg_areRooms_4 (goodIn_app gg_areRooms_5 (goodIn_app gg_areRooms_6 (goodIn_app gg_areRooms_7 (gg_areRooms_8)))))))) (goodIn_sub inlX4 (by decide +kernel))) (goodIn_sub inlX2 (by decide +kernel))) (goodIn_sub inlX1 (by decide +kernel))) (goodIn_sub inlX0 (by decide +kernel))) (goodIn_sub (fun _ h => List.mem_append_left _ (List.mem_append_left _ (List.mem_append_left _ (List.mem_append_left _ (List.mem_append_right _ h))))) (by decide +kernel))) (goodIn_sub (fun _ h => List.mem_append_left _ (List.mem_append_left _ (List.mem_append_left _ (List.mem_append_left _ (List.mem_append_left _ (List.mem_append_left _ (List.mem_append_left _ (List.mem_append_right _ h)))))))) (by decide +kernel))) (goodIn_sub (fun _ h => List.mem_append_left _ (List.mem_append_left _ (List.mem_append_left _ (List.mem_append_left _ (List.mem_append_left _ (List.mem_append_right _ h)))))) (by decide +kernel))) (goodIn_sub (fun _ h => List.mem_append_left _ (List.mem_append_right _ h)) (by decide +kernel))) (goodIn_sub (fun _ h => List.mem_append_right _ h) (by decide +kernel))
set_option maxRecDepth 20000 in
theorem gL_law_L_areRooms : GoodIn wsL_law (va_wsS RL 192 yL_areRooms wsL_areRooms) := goodIn_app (goodIn_of _ (by decide +kernel)) ggL_law_L_areRooms

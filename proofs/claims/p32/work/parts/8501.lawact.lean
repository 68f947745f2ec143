theorem inlX0 : ∀ w ∈ wsX00, w ∈ wsL_law := fun _ h => List.mem_append_left _ (List.mem_append_left _ (List.mem_append_left _ (List.mem_append_left _ (List.mem_append_left _ (List.mem_append_left _ (List.mem_append_left _ (List.mem_append_left _ (List.mem_append_left _ (List.mem_append_left _ (List.mem_append_left _ (List.mem_append_right _ h)))))))))))
theorem inlX1 : ∀ w ∈ wsX10, w ∈ wsL_law := fun _ h => List.mem_append_left _ (List.mem_append_left _ (List.mem_append_left _ (List.mem_append_left _ (List.mem_append_left _ (List.mem_append_left _ (List.mem_append_left _ (List.mem_append_left _ (List.mem_append_left _ (List.mem_append_left _ (List.mem_append_right _ h))))))))))
theorem inlX2 : ∀ w ∈ wsX20, w ∈ wsL_law := fun _ h => List.mem_append_left _ (List.mem_append_left _ (List.mem_append_left _ (List.mem_append_left _ (List.mem_append_left _ (List.mem_append_left _ (List.mem_append_left _ (List.mem_append_left _ (List.mem_append_left _ (List.mem_append_left _ (List.mem_append_left _ (List.mem_append_left _ (List.mem_append_right _ h))))))))))))
theorem inlX4 : ∀ w ∈ wsX40, w ∈ wsL_law := fun _ h => List.mem_append_left _ (List.mem_append_left _ (List.mem_append_left _ (List.mem_append_left _ (List.mem_append_left _ (List.mem_append_left _ (List.mem_append_left _ (List.mem_append_left _ (List.mem_append_left _ (List.mem_append_left _ (List.mem_append_left _ (List.mem_append_left _ (List.mem_append_left _ (List.mem_append_right _ h)))))))))))))
theorem inlJ0 : ∀ w ∈ wsJ00, w ∈ wsL_law := fun _ h => List.mem_append_left _ (List.mem_append_left _ (List.mem_append_left _ (List.mem_append_left _ (List.mem_append_left _ (List.mem_append_left _ (List.mem_append_left _ (List.mem_append_left _ (List.mem_append_left _ (List.mem_append_right _ h)))))))))
set_option maxRecDepth 20000 in
theorem gg_act_1 : GoodIn wsL_law (.code yL_act cL_act 3 (some .int) :: wsL_act_r1) := goodIn_r _ [230, 51, 4, 52, 53, 54, 2, 55, 20, 14, 56, 57, 58, 19, 59, 41, 60, 61, 62, 63, 64, 65, 66, 67, 68] (by decide +kernel) (by decide +kernel)
set_option maxRecDepth 20000 in
theorem gg_act_2 : GoodIn wsL_law wsL_act_r2 := goodIn_r _ [13, 69, 32, 70, 71, 72, 73, 74, 33, 34, 35, 36, 37, 75, 76, 77, 78, 79, 80, 81, 82, 83, 84, 85] (by decide +kernel) (by decide +kernel)
set_option maxRecDepth 20000 in
theorem gg_act_3 : GoodIn wsL_law wsL_act_r3 := goodIn_r _ [86, 87, 88, 89, 90, 91, 92, 93, 94, 95, 96, 97, 98, 99, 100, 231, 232, 49, 233, 234, 235, 236, 3, 237] (by decide +kernel) (by decide +kernel)
set_option maxRecDepth 20000 in
theorem gg_act_4 : GoodIn wsL_law wsL_act_r4 := goodIn_r _ [238, 239, 240, 110, 111, 241, 242, 202, 203, 204, 157, 158, 154, 155, 156, 243, 244, 245, 246, 128, 129, 130, 131, 159] (by decide +kernel) (by decide +kernel)
set_option maxRecDepth 20000 in
theorem gg_act_5 : GoodIn wsL_law wsL_act_r5 := goodIn_r _ [160, 161, 162, 163, 164, 165, 166, 167, 117, 118, 119, 168, 121, 122, 123, 247, 248, 249, 250, 173, 113, 114, 115, 251] (by decide +kernel) (by decide +kernel)
set_option maxRecDepth 20000 in
theorem gg_act_6 : GoodIn wsL_law wsL_act_r6 := goodIn_r _ [252, 253, 254, 255, 112, 256, 257, 258, 259, 260, 261, 262, 263, 264, 265, 266, 116, 267, 268, 269, 270, 271, 272, 273] (by decide +kernel) (by decide +kernel)
set_option maxRecDepth 20000 in
theorem gg_act_7 : GoodIn wsL_law wsL_act_r7 := goodIn_r _ [274, 16, 275, 276, 277, 278, 279, 280, 281, 282, 283, 284, 285, 286, 287, 288, 289, 290, 291, 292, 293, 294, 295, 133] (by decide +kernel) (by decide +kernel)
set_option maxRecDepth 20000 in
theorem gg_act_8 : GoodIn wsL_law wsL_act_r8 := goodIn_r _ [134, 135, 136, 296, 297, 298, 299, 300, 301, 302, 178, 179, 180, 181, 303, 222, 223, 224, 225, 226, 304, 183, 184, 185] (by decide +kernel) (by decide +kernel)
set_option maxRecDepth 20000 in
theorem gg_act_9 : GoodIn wsL_law wsL_act_r9 := goodIn_r _ [186, 187, 188, 189, 305, 306, 307, 308, 309, 310, 125, 126, 127, 311, 312, 313, 314, 315, 316, 26, 317, 318, 319, 320] (by decide +kernel) (by decide +kernel)
set_option maxRecDepth 20000 in
theorem gg_act_10 : GoodIn wsL_law wsL_act_r10 := goodIn_r _ [321, 322, 323, 324, 209, 325, 326, 327, 328, 329, 330, 331, 332, 333, 334, 335, 336, 337, 338, 210, 211, 212, 213, 214] (by decide +kernel) (by decide +kernel)
set_option maxRecDepth 20000 in
theorem gg_act_11 : GoodIn wsL_law wsL_act_r11 := goodIn_r _ [339, 340, 341, 342, 343, 344, 345, 346, 347, 348, 349, 350, 351, 352, 353, 354, 355, 356, 357, 358, 359, 360, 361, 362] (by decide +kernel) (by decide +kernel)

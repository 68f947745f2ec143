theorem inLX40 : ∀ w ∈ wsX40, w ∈ lw_tbl := by decide +kernel
theorem inLX20 : ∀ w ∈ wsX20, w ∈ lw_tbl := by decide +kernel
theorem inLX00 : ∀ w ∈ wsX00, w ∈ lw_tbl := by decide +kernel
theorem inLX10 : ∀ w ∈ wsX10, w ∈ lw_tbl := by decide +kernel
theorem inLJ00 : ∀ w ∈ wsJ00, w ∈ lw_tbl := by decide +kernel
theorem wsL_law_in0 : ∀ w ∈ wsL_law0, w ∈ lw_tbl := by
  intro w h
  unfold wsL_law0 at h
  rcases List.mem_append.mp h with h | h
  rotate_left
  · exact absurd h List.not_mem_nil
  rcases List.mem_append.mp h with h | h
  rotate_left
  · exact inLJ00 w h
  rcases List.mem_append.mp h with h | h
  rotate_left
  · exact inLX10 w h
  rcases List.mem_append.mp h with h | h
  rotate_left
  · exact inLX00 w h
  rcases List.mem_append.mp h with h | h
  rotate_left
  · exact inLX20 w h
  rcases List.mem_append.mp h with h | h
  rotate_left
  · exact inLX40 w h
  rcases List.mem_append.mp h with h | h
  · exact wsL_law0_r1_in w h
  rcases List.mem_append.mp h with h | h
  · exact wsL_law0_r2_in w h
  rcases List.mem_append.mp h with h | h
  · exact wsL_law0_r3_in w h
  rcases List.mem_append.mp h with h | h
  · exact wsL_law0_r4_in w h
  rcases List.mem_append.mp h with h | h
  · exact wsL_law0_r5_in w h
  rcases List.mem_append.mp h with h | h
  · exact wsL_law0_r6_in w h
  rcases List.mem_append.mp h with h | h
  · exact wsL_law0_r7_in w h
  rcases List.mem_append.mp h with h | h
  · exact wsL_law0_r8_in w h
  rcases List.mem_append.mp h with h | h
  · exact wsL_law0_r9_in w h
  rcases List.mem_append.mp h with h | h
  · exact wsL_law0_r10_in w h
  rcases List.mem_append.mp h with h | h
  · exact wsL_law0_r11_in w h
  rcases List.mem_append.mp h with h | h
  · exact wsL_law0_r12_in w h
  rcases List.mem_append.mp h with h | h
  · exact wsL_law0_r13_in w h
  rcases List.mem_append.mp h with h | h
  · exact wsL_law0_r14_in w h
  rcases List.mem_append.mp h with h | h
  · exact wsL_law0_r15_in w h
  rcases List.mem_append.mp h with h | h
  · exact wsL_law0_r16_in w h
  rcases List.mem_append.mp h with h | h
  · exact wsL_law0_r17_in w h
  rcases List.mem_append.mp h with h | h
  · exact wsL_law0_r18_in w h
  rcases List.mem_append.mp h with h | h
  · exact wsL_law0_r19_in w h
  rcases List.mem_append.mp h with h | h
  · exact wsL_law0_r20_in w h
  rcases List.mem_append.mp h with h | h
  · exact wsL_law0_r21_in w h
  rcases List.mem_append.mp h with h | h
  · exact wsL_law0_r22_in w h
  rcases List.mem_append.mp h with h | h
  · exact wsL_law0_r23_in w h
  rcases List.mem_append.mp h with h | h
  · exact wsL_law0_r24_in w h
  rcases List.mem_append.mp h with h | h
  · exact wsL_law0_r25_in w h
  rcases List.mem_append.mp h with h | h
  · exact wsL_law0_r26_in w h
  rcases List.mem_append.mp h with h | h
  · exact wsL_law0_r27_in w h
  exact wsL_law0_r28_in w h

/-! PURE 19: doors and pieces taken by the class -/
theorem ydb_74 {b : Nat → Nat} {q : Nat} (hq : q < 36) : ydb b q 74 = b 74 := by
  unfold ydb
  rw [yput_o (by omega), yput_o (by omega), yput_o (by omega)]
theorem ybb_74 {b : Nat → Nat} {q : Nat} (hq : q < 36) : ybb b q 74 = b 74 := by
  unfold ybb
  rw [yput_o (by omega), yput_o (by omega)]
theorem y_coin3 {b : Nat → Nat} (hv : yV2 b) {s : Nat} (hs : s ≤ 1) : b (72 + s) ≤ 3 + 8 * b 74 := by
  rcases (show s = 0 ∨ s = 1 by omega) with rfl | rfl
  · exact hv.2.2.1
  · exact hv.2.2.2
theorem yV_db {b : Nat → Nat} (hv : yV2 b) {q : Nat} (hq : q < 36) (hlt : b 74 < 60) : yV (ydb b q) ∧ yV2 (ydo b q) := by
  have hs : b 74 % 2 ≤ 1 := by omega
  have hc := y_coin3 hv hs
  have h1 : yV (ydb b q) := yV_coin (yV_d0 hv.1 hq hs) hs (by omega)
  have e := ydb_74 (b := b) hq
  refine ⟨h1, yV_et h1 false (by rw [e]; exact hlt) ?_ ?_⟩
  · rw [e]
    show (if 72 = 72 + b 74 % 2 then b (72 + b 74 % 2) - 3 else yput (yput b q 0) (36 + q) (b 74 % 2 + 1) 72) ≤ _
    split
    · omega
    · rw [yput_o (by omega), yput_o (by omega)]
      have := hv.2.2.1
      omega
  · rw [e]
    show (if 73 = 72 + b 74 % 2 then b (72 + b 74 % 2) - 3 else yput (yput b q 0) (36 + q) (b 74 % 2 + 1) 73) ≤ _
    split
    · omega
    · rw [yput_o (by omega), yput_o (by omega)]
      have := hv.2.2.2
      omega
theorem yV_bb {b : Nat → Nat} (hv : yV2 b) {q : Nat} (hq : q < 36) (hlt : b 74 < 60) (hw : 20 ≤ b q) (hk : ∀ s, s ≤ 1 → b q = 24 + 4 * s → ∀ r, r < 36 → b r ≠ 4 + 4 * s) : yV (ybb b q) ∧ yV2 (ybu b q) := by
  have hs : b 74 % 2 ≤ 1 := by omega
  have hc := y_coin3 hv hs
  have h1 : yV (ybb b q) := yV_coin (yV_b0 hv.1 hq hw hk) hs (by omega)
  have e := ybb_74 (b := b) hq
  refine ⟨h1, yV_et h1 false (by rw [e]; exact hlt) ?_ ?_⟩
  · rw [e]
    show (if 72 = 72 + b 74 % 2 then b (72 + b 74 % 2) - (2 + ykk (b q)) else yput b q (b q - 20) 72) ≤ _
    split
    · omega
    · rw [yput_o (by omega)]
      have := hv.2.2.1
      omega
  · rw [e]
    show (if 73 = 72 + b 74 % 2 then b (72 + b 74 % 2) - (2 + ykk (b q)) else yput b q (b q - 20) 73) ≤ _
    split
    · omega
    · rw [yput_o (by omega)]
      have := hv.2.2.2
      omega
theorem c_takeDoor {f : Nat → Int64} {b : Nat → Nat} (h : yP f b) (hv : yV2 b) {q : Nat} (hq : q < 36) (hw : 20 ≤ b q) (hc : 3 ≤ b (72 + b 74 % 2)) (hlt : b 74 < 60) : ∃ f', fX2_takeDoor f (nI q) = some (nI (b (72 + b 74 % 2) - 3), f') ∧ yP f' (ydo b q) := by
  have hs : b 74 % 2 ≤ 1 := by omega
  obtain ⟨W, W1, W2⟩ := ySW_of hq
  have h20 : ∀ n g, fX2_takeDoor_20 (n + 1 + 1 + 1) g (nI (b 74 % 2)) W (nI 0) = fX2_takeDoor_44 zFu (yexl (yexl g W 4) W 5) (nI (b 74 % 2)) W (nI 0) := fun n g => by
    rw [fX2_takeDoor_20, if_neg (show ¬ (2 : Int32) ≤ nI 0 by decide), show (4 : Int32) + nI 0 = nI 4 from nI_add 4 0, p_ex _ (by omega), zbd_S, zbn_E, show nI 0 + 1 = nI 1 from nI_1 0, fX2_takeDoor_20, if_neg (show ¬ (2 : Int32) ≤ nI 1 by decide), show (4 : Int32) + nI 1 = nI 5 from nI_add 4 1, p_ex _ (by omega), zbd_S, zbn_E, show nI 1 + 1 = nI 2 from nI_1 1, fX2_takeDoor_20, if_pos (show (2 : Int32) ≤ nI 2 by decide)]
    rfl
  generalize hG : yexl (yexl (yexl (yexl (yexl (yexl (yexl f W 10) W 4) W 5) W 6) W 7) W 8) W 9 = G
  have hP1 : yP (yinc G W (2 + b 74 % 2)) (yput (yput b q 0) (36 + q) (b 74 % 2 + 1)) := by
    refine yP_d0 h hv.1 hq hs hw W2 (fun j hj => ?_)
    rw [← hG]
    by_cases e : j = 10 ∨ (4 ≤ j ∧ j ≤ 9)
    · rw [if_pos e]
      unfold yinc
      rw [if_neg (by omega)]
      unfold yexl
      rcases (show j = 10 ∨ j = 4 ∨ j = 5 ∨ j = 6 ∨ j = 7 ∨ j = 8 ∨ j = 9 by omega) with rfl | rfl | rfl | rfl | rfl | rfl | rfl <;> simp
    · rw [if_neg e]
      have hx : yexl (yexl (yexl (yexl (yexl (yexl (yexl f W 10) W 4) W 5) W 6) W 7) W 8) W 9 j = f j := by
        unfold yexl
        rw [if_neg (by omega), if_neg (by omega), if_neg (by omega), if_neg (by omega), if_neg (by omega), if_neg (by omega), if_neg (by omega)]
      unfold yinc
      rw [hx]
  obtain ⟨f2, p1, p2⟩ := c_pay hP1 (s := b 74 % 2) (m := 3) hs (by omega) (by rw [yput_o (by omega), yput_o (by omega)]; exact hc)
  have p2 : yP f2 (ydb b q) := by
    have e : yput (yput b q 0) (36 + q) (b 74 % 2 + 1) (72 + b 74 % 2) = b (72 + b 74 % 2) := by rw [yput_o (by omega), yput_o (by omega)]
    rw [e] at p2
    exact p2
  obtain ⟨v1, v2⟩ := yV_db hv hq hlt
  obtain ⟨f3, z1, z2⟩ := c_endTurn p2 v1 (by rw [ydb_74 hq]; exact hlt) false
  have h44 : ∀ n g, yexl (yexl (yexl (yexl g W 6) W 7) W 8) W 9 = G → fX2_takeDoor_44 (n + 1 + 1 + 1 + 1 + 1) g (nI (b 74 % 2)) W (nI 0) = some (nI (b (72 + b 74 % 2) - 3), f3) := fun n g hg => by
    rw [fX2_takeDoor_44, if_neg (show ¬ (4 : Int32) ≤ nI 0 by decide), show (6 : Int32) + nI 0 = nI 6 from nI_add 6 0, p_ex _ (by omega), zbd_S, zbn_E, show nI 0 + 1 = nI 1 from nI_1 0, fX2_takeDoor_44, if_neg (show ¬ (4 : Int32) ≤ nI 1 by decide), show (6 : Int32) + nI 1 = nI 7 from nI_add 6 1, p_ex _ (by omega), zbd_S, zbn_E, show nI 1 + 1 = nI 2 from nI_1 1,
      fX2_takeDoor_44, if_neg (show ¬ (4 : Int32) ≤ nI 2 by decide), show (6 : Int32) + nI 2 = nI 8 from nI_add 6 2, p_ex _ (by omega), zbd_S, zbn_E, show nI 2 + 1 = nI 3 from nI_1 2, fX2_takeDoor_44, if_neg (show ¬ (4 : Int32) ≤ nI 3 by decide), show (6 : Int32) + nI 3 = nI 9 from nI_add 6 3, p_ex _ (by omega), zbd_S, zbn_E, show nI 3 + 1 = nI 4 from nI_1 3, fX2_takeDoor_44, if_pos (show (4 : Int32) ≤ nI 4 by decide),
      hg, show (2 : Int32) + nI (b 74 % 2) = nI (2 + b 74 % 2) from nI_add 2 _, p_in _ (by omega), zbd_S, show (-3 : Int32) = -(nI 3) from rfl, p1, zbd_S, show (0 : Int32) = yb false from rfl, z1, zbd_S, c_coins z2 hs, zbd_S]
    have e : yet (ydb b q) false (72 + b 74 % 2) = b (72 + b 74 % 2) - 3 := by
      rw [yet_lo (by omega)]
      exact yput_s
    rw [e]
  refine ⟨f3, ?_, z2⟩
  unfold fX2_takeDoor
  rw [c_mover h, zbd_S, W1, zbd_S, show (10 : Int32) = nI 10 from rfl, p_ex _ (by omega), zbd_S]
  exact (h20 3997 _).trans (h44 3995 _ hG)
theorem c_takePiece {f : Nat → Int64} {b : Nat → Nat} (h : yP f b) (hv : yV2 b) {q : Nat} (hq : q < 36) (hw : 20 ≤ b q) (hm : ymd (b q) = b 74 % 2) (hc : 2 + ykk (b q) ≤ b (72 + b 74 % 2)) (hlt : b 74 < 60) (hk : ∀ s, s ≤ 1 → b q = 24 + 4 * s → ∀ r, r < 36 → b r ≠ 4 + 4 * s) : ∃ f', fX2_takePiece f (nI q) = some (nI (b (72 + b 74 % 2) - (2 + ykk (b q))), f') ∧ yP f' (ybu b q) := by
  have hs : b 74 % 2 ≤ 1 := by omega
  have hc28 := yV_28 hv.1 hq
  have h3 := y_md3 (b q) (by omega) (by omega)
  obtain ⟨W, W1, W2⟩ := ySW_of hq
  have hP1 : yP (yinc (yexl (yexl f W 10) W (4 + b 74 % 2)) W (b 74 % 2)) (yput b q (b q - 20)) := by
    refine yP_b0 h hv.1 hq hs hw hm W2 (fun j hj => ?_)
    unfold yinc yexl
    by_cases e1 : j = 10
    · rw [if_neg (by omega), if_neg (by omega), if_pos e1, if_pos (Or.inl e1)]
    · by_cases e2 : j = 4 + b 74 % 2
      · rw [if_neg (by omega), if_pos e2, if_neg e1, if_pos (Or.inr e2)]
      · rw [if_neg e2, if_neg e1, if_neg (show ¬ (j = 10 ∨ j = 4 + b 74 % 2) by omega)]
  obtain ⟨f2, p1, p2⟩ := c_pay hP1 (s := b 74 % 2) (m := 2 + ykk (b q)) hs (by omega) (by rw [yput_o (by omega)]; exact hc)
  have p2 : yP f2 (ybb b q) := by
    have e : yput b q (b q - 20) (72 + b 74 % 2) = b (72 + b 74 % 2) := by rw [yput_o (by omega)]
    rw [e] at p2
    exact p2
  obtain ⟨v1, v2⟩ := yV_bb hv hq hlt hw hk
  obtain ⟨f3, z1, z2⟩ := c_endTurn p2 v1 (by rw [ybb_74 hq]; exact hlt) false
  have ek : ykk (yput b q (b q - 20) q) = ykk (b q) := by
    rw [yput_s]
    exact (y_b20 (b q) (by omega) hw).2.1
  have e : yet (ybb b q) false (72 + b 74 % 2) = b (72 + b 74 % 2) - (2 + ykk (b q)) := by
    rw [yet_lo (by omega)]
    exact yput_s
  refine ⟨f3, ?_, z2⟩
  unfold fX2_takePiece fX2_priceOfPiece
  rw [c_mover h, zbd_S, W1, zbd_S, show (10 : Int32) = nI 10 from rfl, p_ex _ (by omega), zbd_S, show (4 : Int32) + nI (b 74 % 2) = nI (4 + b 74 % 2) from nI_add 4 _, p_ex _ (by omega), zbd_S, show (0 : Int32) + nI (b 74 % 2) = nI (0 + b 74 % 2) from nI_add 0 _, Nat.zero_add, p_in _ (by omega), zbd_S, c_kindOn hP1 hq, ek, zbd_S, zbd_S, yI_lt h3, show (2 : Int32) + nI (ykk (b q)) = nI (2 + ykk (b q)) from nI_add 2 _, p1, zbd_S, show (0 : Int32) = yb false from rfl, z1, zbd_S, c_coins z2 hs, zbd_S, e]

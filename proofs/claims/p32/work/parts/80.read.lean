/-! PURE 40: a turn of the text, taken on both sides -/
theorem yet_74 (b : Nat → Nat) (c : Bool) : yet b c 74 = b 74 + 1 := by
  unfold yet yput
  split
  · rfl
  · split <;> rfl
theorem ytm_74 {b : Nat → Nat} {p t : Nat} (hp : p < 36) (ht : t < 36) (hs : ysd (b p) ≤ 1) : ytm b p t 74 = b 74 + 1 := by
  unfold ytm
  rw [yet_74, ypd_74 hp ht hs]
theorem ydo_74 {b : Nat → Nat} {q : Nat} (hq : q < 36) : ydo b q 74 = b 74 + 1 := by
  unfold ydo
  rw [yet_74]
  unfold ydb yput
  rw [if_neg (by omega), if_neg (by omega), if_neg (by omega)]
theorem ybu_74 {b : Nat → Nat} {q : Nat} (hq : q < 36) : ybu b q 74 = b 74 + 1 := by
  unfold ybu
  rw [yet_74]
  unfold ybb yput
  rw [if_neg (by omega), if_neg (by omega)]
theorem c_col : ∀ x, x < 127 → fX1_isColumn (nI x) = some (yb (yCo x)) := by decide +kernel
theorem c_row : ∀ x, x < 127 → fX1_isRow (nI x) = some (yb (yRo x)) := by decide +kernel
theorem c_sqAt {ch text : Nat → Int32} {c : Nat → Nat} {L : Nat} (h : yTx ch text c L) {a : Nat} (ha : a + 2 ≤ L) (e : yCo (c a) = true) (g : yRo (c (a + 1)) = true) : fX1_squareAt ch (nI L) (nI a) = some (nI (yqv (c a) (c (a + 1)))) := by
  have e1 := yCo_n e
  have g1 := yRo_n g
  unfold fX1_squareAt
  rw [c_at h (show a < L by omega), zbd_S, nI_1, c_at h (show a + 1 < L by omega), zbd_S, c_col _ (by omega), zbd_S, e, yb_t, if_neg (show ¬ (1 : Int32) = 0 by decide), c_row _ (by omega), zbd_S, g, yb_t, if_neg (show ¬ (1 : Int32) = 0 by decide), show nI (c (a + 1)) - (49 : Int32) = nI (c (a + 1) - 49) from pk_sub (a := c (a + 1)) (b := 49) g1.1, show nI (c a) - (97 : Int32) = nI (c a - 97) from pk_sub (a := c a) (b := 97) e1.1, show nI (c (a + 1) - 49) * (6 : Int32) = nI ((c (a + 1) - 49) * 6) from pk_mul _ 6, nI_add]
  unfold yqv
  rw [Nat.mul_comm]
theorem c_buyT {ft : Nat → Int64} {b : Nat → Nat} (hP : yP ft b) (hV : yV2 b) {q : Nat} (hq : q < 36) (isP : Bool) :
    ((ypr b q isP).1 ≠ 0 → fX4_buyOnTrial ft (nI q) (yb isP) = some (nI (100 * (ypr b q isP).1 + (ypr b q isP).2), ft)) ∧
    ((ypr b q isP).1 = 0 → ∃ ft', fX4_buyOnTrial ft (nI q) (yb isP) = some (0, ft') ∧ yP ft' (if isP = true then ybu b q else ydo b q)) := by
  obtain ⟨y1, y2, y3⟩ := ypr_b hV.1 hq isP
  unfold fX4_buyOnTrial
  rw [c_purRef hP hV.1 hq isP, zbd_S]
  refine ⟨fun g => ?_, fun g => ?_⟩
  · have hz : ¬ nI (100 * (ypr b q isP).1 + (ypr b q isP).2) = 0 := fun z => by
      have := (nI_z (by omega)).mp z
      omega
    rw [if_neg hz]
    unfold fX4_buyOnTrial_30
    rw [if_neg hz]
  · rw [g, y3 g, show nI (100 * 0 + 0) = (0 : Int32) from rfl, if_pos (show (0 : Int32) = 0 from rfl)]
    cases isP with
    | true =>
      obtain ⟨k1, k2, k3, k4, k5⟩ := y_pr0t hV.1 hq g
      obtain ⟨f2, z1, z2⟩ := c_takePiece hP hV hq k2 k3 k4 (hV.2.1 k1) k5
      rw [yb_t, if_neg (show ¬ (1 : Int32) = 0 by decide), z1, zbd_S]
      exact ⟨f2, rfl, z2⟩
    | false =>
      obtain ⟨k1, k2, k3⟩ := y_pr0f g
      obtain ⟨f2, z1, z2⟩ := c_takeDoor hP hV hq k2 k3 (hV.2.1 k1)
      unfold fX4_buyOnTrial_30
      rw [yb_f, if_pos rfl, if_pos rfl, z1, zbd_S]
      exact ⟨f2, rfl, z2⟩
theorem ymr_0 {b : Nat → Nat} {p t : Nat} (g : (ymr b p t).1 = 0) : b 75 = 0 ∧ ypc b (b 74 % 2) p = true ∧ yTg b p t = true := by
  unfold ymr at g
  by_cases k1 : b 75 = 0
  · rw [if_neg (show ¬ b 75 ≠ 0 by omega)] at g
    cases k2 : ypc b (b 74 % 2) p with
    | false => rw [k2, if_pos rfl] at g; cases g
    | true =>
      cases k3 : yTg b p t with
      | false => rw [k2, k3, if_neg (by decide), if_pos rfl] at g; cases g
      | true => exact ⟨k1, rfl, rfl⟩
  · rw [if_pos (show b 75 ≠ 0 from k1)] at g; cases g

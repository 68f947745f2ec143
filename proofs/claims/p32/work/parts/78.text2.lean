/-! PURE 38: a turn of the text -/
def yTd (c : Nat → Nat) (L a : Nat) : Prop := a + 3 ≤ L ∧ (c a = 43 ∨ c a = 42) ∧ yCo (c (a + 1)) = true ∧ yRo (c (a + 2)) = true
def yTn (c : Nat → Nat) (L a : Nat) : Prop := a + 5 ≤ L ∧ yCo (c a) = true ∧ yRo (c (a + 1)) = true ∧ c (a + 2) = 45 ∧ yCo (c (a + 3)) = true ∧ yRo (c (a + 4)) = true
theorem yCo_n {x : Nat} (h : yCo x = true) : 97 ≤ x ∧ x ≤ 102 := ⟨of_decide_eq_true ((Bool.and_eq_true _ _).mp h).1, of_decide_eq_true ((Bool.and_eq_true _ _).mp h).2⟩
theorem yRo_n {x : Nat} (h : yRo x = true) : 49 ≤ x ∧ x ≤ 54 := ⟨of_decide_eq_true ((Bool.and_eq_true _ _).mp h).1, of_decide_eq_true ((Bool.and_eq_true _ _).mp h).2⟩
theorem yex_0d {x : Nat} (h : x = 43 ∨ x = 42) : yex 0 x = 3 := by rcases h with rfl | rfl <;> rfl
theorem yex_0c {x : Nat} (h : yCo x = true) : yex 0 x = 1 := by
  have := yCo_n h
  unfold yex
  rw [if_pos rfl, if_neg (by omega), if_neg (by omega), if_pos h]
theorem yex_09 {x : Nat} (h : ¬ x = 43) (g : ¬ x = 42) (e : yCo x = false) : yex 0 x = 9 := by
  unfold yex
  rw [if_pos rfl, if_neg h, if_neg g, e, if_neg ynft]
theorem yex_1 {x : Nat} (h : yRo x = true) : yex 1 x = 2 := if_pos h
theorem yex_19 {x : Nat} (h : yRo x = false) : yex 1 x = 9 := by
  show (if yRo x = true then 2 else 9) = 9
  rw [h, if_neg ynft]
theorem yex_2 {x : Nat} (h : x = 45) : yex 2 x = 3 := if_pos h
theorem yex_29 {x : Nat} (h : ¬ x = 45) : yex 2 x = 9 := if_neg h
theorem yex_3 {x : Nat} (h : yCo x = true) : yex 3 x = 4 := if_pos h
theorem yex_39 {x : Nat} (h : yCo x = false) : yex 3 x = 9 := by
  show (if yCo x = true then 4 else 9) = 9
  rw [h, if_neg ynft]
theorem yex_4 {x : Nat} (h : yRo x = true) : yex 4 x = 5 := if_pos h
theorem yex_49 {x : Nat} (h : yRo x = false) : yex 4 x = 9 := by
  show (if yRo x = true then 5 else 9) = 9
  rw [h, if_neg ynft]
theorem yex_5 {x : Nat} (h : x = 59) : yex 5 x = 0 := if_pos h
theorem yex_59 {x : Nat} (h : ¬ x = 59) : yex 5 x = 9 := if_neg h
theorem c_fe_d {ch text : Nat → Int32} {c : Nat → Nat} {L : Nat} (h : yTx ch text c L) {a : Nat} (g : yTd c L a) (n : Nat) : fX1_firstError_4 ch (nI L) (n + 3) (nI 0) (nI a) = fX1_firstError_4 ch (nI L) n (nI 5) (nI (a + 3)) := by
  obtain ⟨g1, g2, g3, g4⟩ := g
  rw [c_fe h (show a < L by omega) (by omega) (n + 2) (yex_0d g2) (by omega), c_fe h (show a + 1 < L by omega) (by omega) (n + 1) (yex_3 g3) (by omega), c_fe h (show a + 1 + 1 < L by omega) (by omega) n (yex_4 g4) (by omega)]
theorem c_fe_m {ch text : Nat → Int32} {c : Nat → Nat} {L : Nat} (h : yTx ch text c L) {a : Nat} (g : yTn c L a) (n : Nat) : fX1_firstError_4 ch (nI L) (n + 5) (nI 0) (nI a) = fX1_firstError_4 ch (nI L) n (nI 5) (nI (a + 5)) := by
  obtain ⟨g1, g2, g3, g4, g5, g6⟩ := g
  rw [c_fe h (show a < L by omega) (by omega) (n + 4) (yex_0c g2) (by omega), c_fe h (show a + 1 < L by omega) (by omega) (n + 3) (yex_1 g3) (by omega), c_fe h (show a + 1 + 1 < L by omega) (by omega) (n + 2) (yex_2 g4) (by omega), c_fe h (show a + 1 + 1 + 1 < L by omega) (by omega) (n + 1) (yex_3 g5) (by omega), c_fe h (show a + 1 + 1 + 1 + 1 < L by omega) (by omega) n (yex_4 g6) (by omega)]

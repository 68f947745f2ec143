/-! PURE 37: the text, its characters -/
def yCo (x : Nat) : Bool := decide (97 ≤ x) && decide (x ≤ 102)
def yRo (x : Nat) : Bool := decide (49 ≤ x) && decide (x ≤ 54)
/-- the square of a column's sign and a row's -/
def yqv (x y : Nat) : Nat := 6 * (y - 49) + (x - 97)
theorem yqv_36 {x y : Nat} (h : yCo x = true) (g : yRo y = true) : yqv x y < 36 := by
  have h1 := (Bool.and_eq_true _ _).mp h
  have g1 := (Bool.and_eq_true _ _).mp g
  have h2 := of_decide_eq_true h1.1
  have h3 := of_decide_eq_true h1.2
  have g2 := of_decide_eq_true g1.1
  have g3 := of_decide_eq_true g1.2
  unfold yqv
  omega
/-- what a text may go on with: 0 to 5; 9 is an error -/
def yex (st x : Nat) : Nat := if st = 0 then (if x = 43 then 3 else if x = 42 then 3 else if yCo x = true then 1 else 9) else if st = 1 then (if yRo x = true then 2 else 9) else if st = 2 then (if x = 45 then 3 else 9) else if st = 3 then (if yCo x = true then 4 else 9) else if st = 4 then (if yRo x = true then 5 else 9) else (if x = 59 then 0 else 9)
theorem c_exp : ∀ st, st < 6 → ∀ x, x < 127 → fX1_expectedAfter (nI st) (nI x) = some (yI (yex st x) 5) := by decide +kernel
theorem yex_6 : ∀ st, st < 6 → ∀ x, x < 127 → yex st x = 9 ∨ yex st x < 6 := by decide +kernel
def yTx (ch text : Nat → Int32) (c : Nat → Nat) (L : Nat) : Prop := L ≤ 60 ∧ ∀ j, j < L → c j < 127 ∧ ch j = nI (c j) ∧ text j = nI (c j)
theorem zch_127 : ∀ x, x < 127 → zch (nI x) = true := by decide +kernel
theorem c_at {ch text : Nat → Int32} {c : Nat → Nat} {L : Nat} (h : yTx ch text c L) {j : Nat} (hj : j < L) : fX1_characterAt ch (nI L) (nI j) = some (nI (c j)) := by
  have hL := h.1
  obtain ⟨h1, h2, h3⟩ := h.2 j hj
  unfold fX1_characterAt
  rw [if_neg (nI_pos (by omega)), if_neg (nI_ge hj (by omega)), if_neg (show ¬ (60 : Int32) ≤ nI j from nI_ge (b := 60) (by omega) (by omega)), zck_N (by omega) (by omega), tn_n (by omega), h2, zch_127 _ h1, zck_T]
theorem c_at0 {ch : Nat → Int32} {L j : Nat} (h : L ≤ j) (hj : j < 2000) : fX1_characterAt ch (nI L) (nI j) = some 0 := by
  unfold fX1_characterAt
  rw [if_neg (nI_pos (by omega)), if_pos (nI_le h (by omega))]
  rfl
/-- the class's run over the characters -/
theorem c_fe {ch text : Nat → Int32} {c : Nat → Nat} {L : Nat} (h : yTx ch text c L) {i st t : Nat} (hi : i < L) (hs : st < 6) (n : Nat) (e : yex st (c i) = t) (ht : t < 6) : fX1_firstError_4 ch (nI L) (n + 1) (nI st) (nI i) = fX1_firstError_4 ch (nI L) n (nI t) (nI (i + 1)) := by
  have hL := h.1
  have hn1 : ∀ q, q < 36 → ¬ nI q = -1 := by decide +kernel
  rw [fX1_firstError_4, if_neg (nI_ge hi (by omega)), c_at h hi, zbd_S, c_exp st hs _ (h.2 i hi).1, zbd_S, e, yI_lt (by omega), if_neg (hn1 t (by omega)), zbn_E, nI_1]
theorem c_fe9 {ch text : Nat → Int32} {c : Nat → Nat} {L : Nat} (h : yTx ch text c L) {i st : Nat} (hi : i < L) (hs : st < 6) (n : Nat) (e : yex st (c i) = 9) : fX1_firstError_4 ch (nI L) (n + 1) (nI st) (nI i) = some (nI i) := by
  have hL := h.1
  rw [fX1_firstError_4, if_neg (nI_ge hi (by omega)), c_at h hi, zbd_S, c_exp st hs _ (h.2 i hi).1, zbd_S, e, yI_ge (by omega), if_pos rfl]
theorem c_feE {ch : Nat → Int32} {L st : Nat} (hL : L ≤ 60) (hs : st < 5) (n : Nat) : fX1_firstError_4 ch (nI L) (n + 1) (nI st) (nI L) = some (nI L) := by
  have h5 : ∀ q, q < 5 → ¬ nI q = (5 : Int32) := by decide +kernel
  rw [fX1_firstError_4, if_pos (nI_le (Nat.le_refl _) (by omega)), if_neg (h5 st hs)]
theorem c_feG {ch : Nat → Int32} {L : Nat} (hL : L ≤ 60) (n : Nat) : fX1_firstError_4 ch (nI L) (n + 1) (nI 5) (nI L) = some (-1) := by
  rw [fX1_firstError_4, if_pos (nI_le (Nat.le_refl _) (by omega)), if_pos (show nI 5 = (5 : Int32) from rfl)]
/-- an error where the sign doesn't fit, or the text ends -/
theorem c_feX {ch text : Nat → Int32} {c : Nat → Nat} {L : Nat} (h : yTx ch text c L) {i st : Nat} (hi : i ≤ L) (hs : st < 5) (n : Nat) (e : i < L → yex st (c i) = 9) : fX1_firstError_4 ch (nI L) (n + 1) (nI st) (nI i) = some (nI i) := by
  by_cases g : i < L
  · exact c_fe9 h g (by omega) n (e g)
  · rw [show i = L by omega]
    exact c_feE h.1 hs n
/-- the model's sight -/
theorem m_sees {ch text : Nat → Int32} {c : Nat → Nat} {L : Nat} (h : yTx ch text c L) {a lo hi : Nat} (ha : a ≤ L) (h2 : hi < 2000) (h3 : lo < 2000) : fX5_sees text (nI L) (nI a) 0 (nI lo) (nI hi) = some (yb (decide (a < L) && (decide (lo ≤ c a) && decide (c a ≤ hi)))) := by
  have hL := h.1
  unfold fX5_sees
  rw [if_pos rfl]
  by_cases g : a < L
  · obtain ⟨h4, h5, h6⟩ := h.2 a g
    rw [if_neg (nI_ge g (by omega)), zck_N (by omega) (by omega), tn_n (by omega), h6, decide_eq_true g, Bool.true_and]
    by_cases k1 : lo ≤ c a
    · by_cases k2 : c a ≤ hi
      · rw [y_btw1 k1 k2 h2, zbd_S, decide_eq_true k1, decide_eq_true k2]
        rfl
      · rw [y_btw (Or.inr (nI_lt (by omega) (by omega))), zbd_S, decide_eq_false k2, Bool.and_false]
        rfl
    · rw [y_btw (Or.inl (nI_lt (by omega) (by omega))), zbd_S, decide_eq_false k1, Bool.false_and]
      rfl
  · rw [if_pos (nI_le (by omega) (by omega)), decide_eq_false g, Bool.false_and]
    rfl
theorem m_takes1 {ch text : Nat → Int32} {c : Nat → Nat} {L : Nat} (h : yTx ch text c L) {a x : Nat} (ha : a < L) (h2 : x < 2000) (e : c a = x) : fX5_takes text (nI L) (nI a) 0 (nI x) = some (1, nI (a + 1)) := by
  unfold fX5_takes
  rw [m_sees h (by omega) h2 h2, zbd_S, decide_eq_true ha, e, decide_eq_true (Nat.le_refl x), Bool.true_and, Bool.true_and, yb_t, if_neg (show ¬ (1 : Int32) = 0 by decide)]
  unfold fX5_takes_21
  rw [show zbo 1 = true from rfl, zck_T, nI_1]
theorem m_takes0 {ch text : Nat → Int32} {c : Nat → Nat} {L : Nat} (h : yTx ch text c L) {a x : Nat} (ha : a ≤ L) (h2 : x < 2000) (e : a < L → ¬ c a = x) : fX5_takes text (nI L) (nI a) 0 (nI x) = some (0, nI a) := by
  unfold fX5_takes
  have e2 : (decide (a < L) && (decide (x ≤ c a) && decide (c a ≤ x))) = false := by
    by_cases g : a < L
    · have := e g
      by_cases k : x ≤ c a
      · rw [decide_eq_false (show ¬ c a ≤ x by omega), Bool.and_false, Bool.and_false]
      · rw [decide_eq_false k, Bool.false_and, Bool.and_false]
    · rw [decide_eq_false g, Bool.false_and]
  rw [m_sees h (by omega) h2 h2, zbd_S, e2, yb_f, if_pos rfl]
  unfold fX5_takes_21
  rw [show zbo 0 = true from rfl, zck_T, Int32.add_zero]
theorem m_takesW (text : Nat → Int32) (ln at_ x : Int32) : fX5_takes text ln at_ 1 x = some (0, at_) := by
  unfold fX5_takes fX5_sees
  rw [if_neg (show ¬ (1 : Int32) = 0 by decide), zbd_S, if_pos rfl]
  unfold fX5_takes_21
  rw [show zbo 0 = true from rfl, zck_T, Int32.add_zero]
theorem m_rsqW (text : Nat → Int32) (ln at_ : Int32) : ∃ x, fX5_readSquare text ln at_ 1 = some (x, at_, 1) := by
  unfold fX5_readSquare fX5_sees
  rw [if_neg (show ¬ (1 : Int32) = 0 by decide), zbd_S, if_pos rfl]
  unfold fX5_readSquare_21
  rw [show ((1 : Int32) ||| 1) = 1 by decide, show zbo 1 = true from rfl, zck_T, if_neg (show ¬ (1 : Int32) = 0 by decide)]
  unfold fX5_readSquare_48
  rw [if_neg (show ¬ (1 : Int32) = 0 by decide)]
  unfold fX5_readSquare_66 fX5_sees
  rw [if_neg (show ¬ (1 : Int32) = 0 by decide), zbd_S, if_pos rfl]
  unfold fX5_readSquare_91
  rw [show ((1 : Int32) ||| 1) = 1 by decide, show zbo 1 = true from rfl, zck_T, if_neg (show ¬ (1 : Int32) = 0 by decide)]
  unfold fX5_readSquare_118
  rw [if_neg (show ¬ (1 : Int32) = 0 by decide)]
  unfold fX5_readSquare_136
  simp only [Int32.add_zero]
  exact ⟨_, rfl⟩
theorem m_rsq0 {ch text : Nat → Int32} {c : Nat → Nat} {L : Nat} (h : yTx ch text c L) {a : Nat} (ha : a ≤ L) (e : a < L → yCo (c a) = false) : ∃ x, fX5_readSquare text (nI L) (nI a) 0 = some (x, nI a, 1) := by
  have e2 : (decide (a < L) && (decide (97 ≤ c a) && decide (c a ≤ 102))) = false := by
    by_cases g : a < L
    · rw [show (decide (97 ≤ c a) && decide (c a ≤ 102)) = false from e g, Bool.and_false]
    · rw [decide_eq_false g, Bool.false_and]
  unfold fX5_readSquare
  rw [show fX5_sees text (nI L) (nI a) 0 97 102 = _ from m_sees (lo := 97) (hi := 102) h ha (by omega) (by omega), zbd_S, e2, yb_f, if_pos rfl]
  unfold fX5_readSquare_21
  rw [show ((0 : Int32) ||| 1) = 1 by decide, show zbo 1 = true from rfl, zck_T, if_neg (show ¬ (1 : Int32) = 0 by decide)]
  unfold fX5_readSquare_48
  rw [if_neg (show ¬ (1 : Int32) = 0 by decide)]
  unfold fX5_readSquare_66 fX5_sees
  rw [if_neg (show ¬ (1 : Int32) = 0 by decide), zbd_S, if_pos rfl]
  unfold fX5_readSquare_91
  rw [show ((1 : Int32) ||| 1) = 1 by decide, show zbo 1 = true from rfl, zck_T, if_neg (show ¬ (1 : Int32) = 0 by decide)]
  unfold fX5_readSquare_118
  rw [if_neg (show ¬ (1 : Int32) = 0 by decide)]
  unfold fX5_readSquare_136
  simp only [Int32.add_zero]
  exact ⟨_, rfl⟩
theorem m_rsq_h {ch text : Nat → Int32} {c : Nat → Nat} {L : Nat} (h : yTx ch text c L) {a : Nat} (ha : a < L) (e : yCo (c a) = true) : fX5_readSquare text (nI L) (nI a) 0 = fX5_readSquare_66 text (nI L) (nI a) 0 (nI (c a - 97)) 1 (nI a) := by
  have hL := h.1
  have e1 := of_decide_eq_true ((Bool.and_eq_true _ _).mp e).1
  unfold fX5_readSquare
  rw [show fX5_sees text (nI L) (nI a) 0 97 102 = _ from m_sees (lo := 97) (hi := 102) h (by omega) (by omega) (by omega), zbd_S, decide_eq_true ha, Bool.true_and, show (decide (97 ≤ c a) && decide (c a ≤ 102)) = true from e, yb_t, if_neg (show ¬ (1 : Int32) = 0 by decide)]
  unfold fX5_readSquare_21
  rw [show ((0 : Int32) ||| 0) = 0 by decide, show zbo 0 = true from rfl, zck_T, if_pos rfl, zck_N (by omega) (by omega), tn_n (by omega), (h.2 a ha).2.2, show nI (c a) - (97 : Int32) = nI (c a - 97) from pk_sub (a := c a) (b := 97) e1]
  unfold fX5_readSquare_48
  rw [if_pos rfl]
theorem m_rsq1 {ch text : Nat → Int32} {c : Nat → Nat} {L : Nat} (h : yTx ch text c L) {a : Nat} (ha : a < L) (e : yCo (c a) = true) (g : a + 1 < L → yRo (c (a + 1)) = false) : ∃ x, fX5_readSquare text (nI L) (nI a) 0 = some (x, nI (a + 1), 1) := by
  have e2 : (decide (a + 1 < L) && (decide (49 ≤ c (a + 1)) && decide (c (a + 1) ≤ 54))) = false := by
    by_cases k : a + 1 < L
    · rw [show (decide (49 ≤ c (a + 1)) && decide (c (a + 1) ≤ 54)) = false from g k, Bool.and_false]
    · rw [decide_eq_false k, Bool.false_and]
  rw [m_rsq_h h ha e]
  unfold fX5_readSquare_66
  rw [nI_1, show fX5_sees text (nI L) (nI (a + 1)) 0 49 54 = _ from m_sees (lo := 49) (hi := 54) h (by omega) (by omega) (by omega), zbd_S, e2, yb_f, if_pos rfl]
  unfold fX5_readSquare_91
  rw [show ((0 : Int32) ||| 1) = 1 by decide, show zbo 1 = true from rfl, zck_T, if_neg (show ¬ (1 : Int32) = 0 by decide)]
  unfold fX5_readSquare_118
  rw [if_neg (show ¬ (1 : Int32) = 0 by decide)]
  unfold fX5_readSquare_136
  rw [Int32.add_zero]
  exact ⟨_, rfl⟩
theorem m_rsq2 {ch text : Nat → Int32} {c : Nat → Nat} {L : Nat} (h : yTx ch text c L) {a : Nat} (ha : a + 2 ≤ L) (e : yCo (c a) = true) (g : yRo (c (a + 1)) = true) : fX5_readSquare text (nI L) (nI a) 0 = some (nI (yqv (c a) (c (a + 1))), nI (a + 2), 0) := by
  have hL := h.1
  have e1 := of_decide_eq_true ((Bool.and_eq_true _ _).mp g).1
  rw [m_rsq_h h (by omega) e]
  unfold fX5_readSquare_66
  rw [nI_1, show fX5_sees text (nI L) (nI (a + 1)) 0 49 54 = _ from m_sees (lo := 49) (hi := 54) h (by omega) (by omega) (by omega), zbd_S, decide_eq_true (show a + 1 < L by omega), Bool.true_and, show (decide (49 ≤ c (a + 1)) && decide (c (a + 1) ≤ 54)) = true from g, yb_t, if_neg (show ¬ (1 : Int32) = 0 by decide)]
  unfold fX5_readSquare_91
  rw [show ((0 : Int32) ||| 0) = 0 by decide, show zbo 0 = true from rfl, zck_T, if_pos rfl, zck_N (by omega) (by omega), tn_n (by omega), (h.2 (a + 1) (by omega)).2.2, show nI (c (a + 1)) - (49 : Int32) = nI (c (a + 1) - 49) from pk_sub (a := c (a + 1)) (b := 49) e1]
  unfold fX5_readSquare_118
  rw [if_pos rfl]
  unfold fX5_readSquare_136
  rw [nI_1, show nI (c (a + 1) - 49) * (6 : Int32) = nI ((c (a + 1) - 49) * 6) from pk_mul _ 6, nI_add]
  unfold yqv
  rw [Nat.mul_comm]

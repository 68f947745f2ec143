/-! PURE 37: the text, its characters -/
def yCo (x : Nat) : Bool := decide (97 ≤ x) && decide (x ≤ 102)
def yRo (x : Nat) : Bool := decide (49 ≤ x) && decide (x ≤ 54)
/-- the square of a column's sign and a row's -/
def yqv (x y : Nat) : Nat := 6 * (y - 49) + (x - 97)
theorem yqv_36 {x y : Nat} (h : yCo x = true) (g : yRo y = true) : yqv x y < 36 := by
  have h1 := (Bool.and_eq_true _ _).mp h
  have g1 := (Bool.and_eq_true _ _).mp g
  have h2 := of_decide_eq_true h1.1
  have h3 := of_decide_eq_true h1.2
  have g2 := of_decide_eq_true g1.1
  have g3 := of_decide_eq_true g1.2
  unfold yqv
  omega
/-- what a text may go on with: 0 to 5; 9 is an error -/
def yex (st x : Nat) : Nat := if st = 0 then (if x = 43 then 3 else if x = 42 then 3 else if yCo x = true then 1 else 9) else if st = 1 then (if yRo x = true then 2 else 9) else if st = 2 then (if x = 45 then 3 else 9) else if st = 3 then (if yCo x = true then 4 else 9) else if st = 4 then (if yRo x = true then 5 else 9) else (if x = 59 then 0 else 9)
theorem c_exp : ∀ st, st < 6 → ∀ x, x < 127 → fX1_expectedAfter (nI st) (nI x) = some (yI (yex st x) 5) := by decide +kernel
theorem yex_6 : ∀ st, st < 6 → ∀ x, x < 127 → yex st x = 9 ∨ yex st x < 6 := by decide +kernel
def yTx (ch text : Nat → Int32) (c : Nat → Nat) (L : Nat) : Prop := L ≤ 60 ∧ ∀ j, j < L → c j < 127 ∧ ch j = nI (c j) ∧ text j = nI (c j)
theorem zch_127 : ∀ x, x < 127 → zch (nI x) = true := by decide +kernel
theorem c_at {ch text : Nat → Int32} {c : Nat → Nat} {L : Nat} (h : yTx ch text c L) {j : Nat} (hj : j < L) : fX1_characterAt ch (nI L) (nI j) = some (nI (c j)) := by
  have hL := h.1
  obtain ⟨h1, h2, h3⟩ := h.2 j hj
  unfold fX1_characterAt
  rw [if_neg (nI_pos (by omega)), if_neg (nI_ge hj (by omega)), if_neg (show ¬ (60 : Int32) ≤ nI j from nI_ge (b := 60) (by omega) (by omega)), zck_N (by omega) (by omega), tn_n (by omega), h2, zch_127 _ h1, zck_T]
theorem c_at0 {ch : Nat → Int32} {L j : Nat} (h : L ≤ j) (hj : j < 2000) : fX1_characterAt ch (nI L) (nI j) = some 0 := by
  unfold fX1_characterAt
  rw [if_neg (nI_pos (by omega)), if_pos (nI_le h (by omega))]
  rfl
/-- the class's run over the characters -/
theorem c_fe {ch text : Nat → Int32} {c : Nat → Nat} {L : Nat} (h : yTx ch text c L) {i st t : Nat} (hi : i < L) (hs : st < 6) (n : Nat) (e : yex st (c i) = t) (ht : t < 6) : fX1_firstError_4 ch (nI L) (n + 1) (nI st) (nI i) = fX1_firstError_4 ch (nI L) n (nI t) (nI (i + 1)) := by
  have hL := h.1
  have hn1 : ∀ q, q < 36 → ¬ nI q = -1 := by decide +kernel
  rw [fX1_firstError_4, if_neg (nI_ge hi (by omega)), c_at h hi, zbd_S, c_exp st hs _ (h.2 i hi).1, zbd_S, e, yI_lt (by omega), if_neg (hn1 t (by omega)), zbn_E, nI_1]
theorem c_fe9 {ch text : Nat → Int32} {c : Nat → Nat} {L : Nat} (h : yTx ch text c L) {i st : Nat} (hi : i < L) (hs : st < 6) (n : Nat) (e : yex st (c i) = 9) : fX1_firstError_4 ch (nI L) (n + 1) (nI st) (nI i) = some (nI i) := by
  have hL := h.1
  rw [fX1_firstError_4, if_neg (nI_ge hi (by omega)), c_at h hi, zbd_S, c_exp st hs _ (h.2 i hi).1, zbd_S, e, yI_ge (by omega), if_pos rfl]
theorem c_feE {ch : Nat → Int32} {L st : Nat} (hL : L ≤ 60) (hs : st < 5) (n : Nat) : fX1_firstError_4 ch (nI L) (n + 1) (nI st) (nI L) = some (nI L) := by
  have h5 : ∀ q, q < 5 → ¬ nI q = (5 : Int32) := by decide +kernel
  rw [fX1_firstError_4, if_pos (nI_le (Nat.le_refl _) (by omega)), if_neg (h5 st hs)]
theorem c_feG {ch : Nat → Int32} {L : Nat} (hL : L ≤ 60) (n : Nat) : fX1_firstError_4 ch (nI L) (n + 1) (nI 5) (nI L) = some (-1) := by
  rw [fX1_firstError_4, if_pos (nI_le (Nat.le_refl _) (by omega)), if_pos (show nI 5 = (5 : Int32) from rfl)]
/-- an error where the sign doesn't fit, or the text ends -/
theorem c_feX {ch text : Nat → Int32} {c : Nat → Nat} {L : Nat} (h : yTx ch text c L) {i st : Nat} (hi : i ≤ L) (hs : st < 5) (n : Nat) (e : i < L → yex st (c i) = 9) : fX1_firstError_4 ch (nI L) (n + 1) (nI st) (nI i) = some (nI i) := by
  by_cases g : i < L
  · exact c_fe9 h g (by omega) n (e g)
  · rw [show i = L by omega]
    exact c_feE h.1 hs n

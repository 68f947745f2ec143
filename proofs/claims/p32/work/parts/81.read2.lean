/-! PURE 41: read -/
theorem c_isTurn1 {ch text : Nat → Int32} {c : Nat → Nat} {L : Nat} (h : yTx ch text c L) {i : Nat} (hi : i < L) (g : i = 0 ∨ c (i - 1) = 59) : fX1_isTurnAt ch (nI L) (nI i) = some 1 := by
  have hL := h.1
  unfold fX1_isTurnAt
  by_cases k : i = 0
  · rw [if_pos ((nI_z (by omega)).mpr k)]
  · rw [if_neg (fun z => k ((nI_z (by omega)).mp z)), show nI i - (1 : Int32) = nI (i - 1) from pk_sub (a := i) (b := 1) (by omega), c_at h (show i - 1 < L by omega), zbd_S, g.resolve_left k, if_pos (show nI 59 = (59 : Int32) from rfl)]
theorem c_isTurn0 {ch text : Nat → Int32} {c : Nat → Nat} {L : Nat} (h : yTx ch text c L) {i : Nat} (hi : i < L) (k : ¬ i = 0) (g : ¬ c (i - 1) = 59) : fX1_isTurnAt ch (nI L) (nI i) = some 0 := by
  have hL := h.1
  have hc := (h.2 (i - 1) (by omega)).1
  have h59 : ∀ x, x < 127 → ¬ x = 59 → ¬ nI x = (59 : Int32) := by decide +kernel
  unfold fX1_isTurnAt
  rw [if_neg (fun z => k ((nI_z (by omega)).mp z)), show nI i - (1 : Int32) = nI (i - 1) from pk_sub (a := i) (b := 1) (by omega), c_at h (show i - 1 < L by omega), zbd_S, if_neg (h59 _ hc g)]
/-- the class passes over signs within a turn -/
theorem c_rskip {ch text : Nat → Int32} {c : Nat → Nat} {L : Nat} (h : yTx ch text c L) (kE kR nx ct : Int32) (fb ft rws : Nat → Int64) : ∀ d i n, 0 < i → i + d ≤ L → (∀ j, i ≤ j → j < i + d → ¬ c (j - 1) = 59) → fX4_read_50 ch (n + d) kE kR fb ft rws nx ct (nI L) 0 (nI i) = fX4_read_50 ch n kE kR fb ft rws nx ct (nI L) 0 (nI (i + d)) := by
  have hL := h.1
  intro d
  induction d with
  | zero => intro i n h1 h2 h3; rfl
  | succ d ih =>
    intro i n h1 h2 h3
    rw [show n + (d + 1) = n + d + 1 by omega, fX4_read_50]
    unfold fX1_length
    rw [zbd_S, if_neg (nI_ge (show i < L by omega) (by omega)), if_pos rfl, c_isTurn0 h (show i < L by omega) (by omega) (h3 i (by omega) (by omega)), zbd_S, if_pos rfl]
    unfold fX4_read_82
    rw [zbn_E, nI_1]
    dsimp only
    rw [ih (i + 1) n (by omega) (by omega) (fun j j1 j2 => h3 j (by omega) (by omega)), show i + 1 + d = i + (d + 1) by omega]
/-- no sign of a turn ends it -/
theorem yTr_59 {c : Nat → Nat} {L a a' : Nat} (h : yTr c L a a') : a + 3 ≤ a' ∧ a' ≤ L ∧ ∀ j, a < j → j ≤ a' → ¬ c (j - 1) = 59 := by
  rcases h with ⟨⟨g1, g2, g3, g4⟩, rfl⟩ | ⟨⟨g1, g2, g3, g4, g5, g6⟩, rfl⟩
  · have h3 := yCo_n g3
    have h4 := yRo_n g4
    refine ⟨by omega, g1, fun j j1 j2 => ?_⟩
    rcases (show j - 1 = a ∨ j - 1 = a + 1 ∨ j - 1 = a + 2 by omega) with e | e | e <;> rw [e] <;> omega
  · have h2 := yCo_n g2
    have h3 := yRo_n g3
    have h5 := yCo_n g5
    have h6 := yRo_n g6
    refine ⟨by omega, g1, fun j j1 j2 => ?_⟩
    rcases (show j - 1 = a ∨ j - 1 = a + 1 ∨ j - 1 = a + 2 ∨ j - 1 = a + 3 ∨ j - 1 = a + 4 by omega) with e | e | e | e | e <;> rw [e] <;> omega

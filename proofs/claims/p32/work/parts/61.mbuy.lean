/-! PURE 21: a piece bought in the model; what an accepted purchase tells -/
theorem y_pr0f {b : Nat → Nat} {q : Nat} (h : (ypr b q false).1 = 0) : b 75 = 0 ∧ 20 ≤ b q ∧ 3 ≤ b (72 + b 74 % 2) := by
  unfold ypr at h
  by_cases g : b 75 = 0
  · rw [if_neg (show ¬ b 75 ≠ 0 by omega)] at h
    cases gw : ywl (b q) with
    | false => rw [gw, if_pos rfl] at h; exact absurd h (show ¬ (4 : Nat) = 0 by decide)
    | true =>
      rw [gw, if_neg (show ¬ true = false by decide), if_neg (show ¬ (false && !decide (ymd (b q) = b 74 % 2)) = true by simp)] at h
      cases gb : yar (ypc b (b 74 % 2)) q with
      | false => rw [gb, if_pos rfl] at h; exact absurd h (show ¬ (6 : Nat) = 0 by decide)
      | true =>
        rw [gb, if_neg (show ¬ true = false by decide), if_neg (show ¬ (false && decide (ykk (b q) = 3) && decide (ykq b (b 74 % 2) < 36)) = true by simp)] at h
        unfold ypp at h
        rw [if_neg ynft] at h
        by_cases gd : b (72 + b 74 % 2) < 3
        · rw [if_pos gd] at h; exact absurd h (show ¬ (8 : Nat) = 0 by decide)
        · exact ⟨g, of_decide_eq_true gw, by omega⟩
  · rw [if_pos (show b 75 ≠ 0 from g)] at h; exact absurd h (show ¬ (1 : Nat) = 0 by decide)
theorem y_pr0t {b : Nat → Nat} {q : Nat} (hv : yV b) (hq : q < 36) (h : (ypr b q true).1 = 0) : b 75 = 0 ∧ 20 ≤ b q ∧ ymd (b q) = b 74 % 2 ∧ 2 + ykk (b q) ≤ b (72 + b 74 % 2) ∧ ∀ s, s ≤ 1 → b q = 24 + 4 * s → ∀ r, r < 36 → b r ≠ 4 + 4 * s := by
  have hc28 := yV_28 hv hq
  unfold ypr at h
  by_cases g : b 75 = 0
  · rw [if_neg (show ¬ b 75 ≠ 0 by omega)] at h
    cases gw : ywl (b q) with
    | false => rw [gw, if_pos rfl] at h; exact absurd h (show ¬ (4 : Nat) = 0 by decide)
    | true =>
      rw [gw, if_neg (show ¬ true = false by decide)] at h
      by_cases gm : ymd (b q) = b 74 % 2
      · rw [decide_eq_true gm, if_neg (show ¬ (true && !true) = true by decide)] at h
        cases gb : yar (ypc b (b 74 % 2)) q with
        | false => rw [gb, if_pos rfl] at h; exact absurd h (show ¬ (6 : Nat) = 0 by decide)
        | true =>
          rw [gb, if_neg (show ¬ true = false by decide)] at h
          by_cases gk : (true && decide (ykk (b q) = 3) && decide (ykq b (b 74 % 2) < 36)) = true
          · rw [if_pos gk] at h; exact absurd h (show ¬ (7 : Nat) = 0 by decide)
          · rw [if_neg gk] at h
            unfold ypp at h
            rw [if_pos rfl] at h
            by_cases gd : b (72 + b 74 % 2) < 2 + ykk (b q)
            · rw [if_pos gd] at h; exact absurd h (show ¬ (8 : Nat) = 0 by decide)
            · refine ⟨g, of_decide_eq_true gw, gm, by omega, fun s hs e r hr => ?_⟩
              have es : s = b 74 % 2 := by
                rw [← gm, e]
                rcases (show s = 0 ∨ s = 1 by omega) with rfl | rfl <;> decide
              have ek : ykk (b q) = 3 := by
                rw [e]
                rcases (show s = 0 ∨ s = 1 by omega) with rfl | rfl <;> decide
              have hn : ¬ ykq b (b 74 % 2) < 36 := fun z => gk (by rw [decide_eq_true ek, decide_eq_true z]; rfl)
              rcases ykq_K b (b 74 % 2) with ⟨u, u1, u2, u3⟩ | ⟨u1, u2⟩
              · exfalso
                rw [yI_ge (by omega)] at u3
                have hn1 : ∀ q, q < 36 → ¬ nI q = -1 := by decide +kernel
                exact hn1 u u1 u3.symm
              · rw [es]; exact u1 r hr
      · rw [decide_eq_false gm, if_pos (show (true && !false) = true by decide)] at h; exact absurd h (show ¬ (5 : Nat) = 0 by decide)
  · rw [if_pos (show b 75 ≠ 0 from g)] at h; exact absurd h (show ¬ (1 : Nat) = 0 by decide)

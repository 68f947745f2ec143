theorem y_sqc : ∀ c, c < 29 → (c ≤ 8 ∨ 20 ≤ c) → (if 20 ≤ c then c - 20 else c) < 29 ∧ ykd (if 20 ≤ c then c - 20 else c) = ykk c := by decide +kernel

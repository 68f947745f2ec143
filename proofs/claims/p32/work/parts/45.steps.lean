/-! PURE 5: the model's steps -/
def yFk (queue far : Nat → Int32) (Q D : Nat → Nat) (M : Nat → Bool) (sz : Nat) : Prop := (∀ j, j < sz → queue j = nI (Q j)) ∧ ∀ j, j < 36 → far j = if M j = true then nI (D j) else -1
/-- how far a square is: what the model's row holds -/
def yFr (b : Nat → Nat) (s : Nat) (far : Nat → Int32) : Prop := ∀ j, j < 36 → (∃ d, d < 36 ∧ far j = nI d ∧ ∀ n, yRs (yop b s) (ypc b s) n j = true ↔ d ≤ n) ∨ (far j = -1 ∧ ∀ n, yRs (yop b s) (ypc b s) n j = false)

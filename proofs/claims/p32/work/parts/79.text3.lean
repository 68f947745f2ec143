/-! PURE 39: the turns of the text counted -/
def yTr (c : Nat → Nat) (L a a' : Nat) : Prop := (yTd c L a ∧ a' = a + 3) ∨ (yTn c L a ∧ a' = a + 5)
/-- m turns from a to the end -/
def yWh (c : Nat → Nat) (L : Nat) : Nat → Nat → Prop
  | 0, _ => False
  | m + 1, a => ∃ a', yTr c L a a' ∧ ((a' = L ∧ m = 0) ∨ (a' < L ∧ c a' = 59 ∧ yWh c L m (a' + 1)))

/-- why a purchase is refused, as the model holds it -/
def yrs (x : Nat × Nat) (reason : Int32) : Int32 := if x.1 ≠ 0 then nI x.1 else reason
def yrd (x : Nat × Nat) (detail : Int32) : Int32 := if x.1 ≠ 0 then nI x.2 else detail
theorem y_md20 : ∀ c, c < 29 → 20 ≤ c → ymd c = ysd (c - 20) ∧ ykk c = ykd (c - 20) := by decide +kernel

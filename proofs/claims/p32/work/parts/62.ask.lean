/-! PURE 22: a call's arguments; questions answered alike -/
theorem y_between (p : Int32) (m : Nat) (hm : m < 2000) : (∃ q, q ≤ m ∧ p = nI q) ∨ (p < 0 ∨ nI m < p) := by
  by_cases h0 : p < 0
  · exact Or.inr (Or.inl h0)
  · by_cases h1 : p ≤ nI m
    · obtain ⟨j, j1, j2⟩ := nI_of2 (n := m) (M := nI m) (nI_toInt (by omega)) h0 h1
      exact Or.inl ⟨j, j1, j2⟩
    · refine Or.inr (Or.inr (Int32.lt_iff_toInt_lt.mpr ?_))
      have h2 : ¬ p.toInt ≤ (nI m).toInt := fun z => h1 (Int32.le_iff_toInt_le.mpr z)
      omega

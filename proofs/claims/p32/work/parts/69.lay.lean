theorem yV_lay {b : Nat → Nat} (hv : yV2 b) {q c : Nat} (hq : q < 36) (h0 : b q = 0) (hd0 : b (36 + q) = 0) (hc : c ≤ 8 ∨ c = 20) (hk : ∀ s, s ≤ 1 → c = 4 + 4 * s → ∀ r, r < 36 → b r ≠ 4 + 4 * s) : yV2 (yput b q c) := by
  obtain ⟨⟨h1, h2, h3, h4, h5, h6, h7, h8, h9, h10⟩, u1, u2, u3⟩ := hv
  have e : ∀ i, i ≠ q → yput b q c i = b i := fun i hi => yput_o hi
  have e1 : ∀ i, yput b q c i = if i = q then c else b i := fun i => rfl
  refine ⟨⟨fun i hi => ?_, fun i hi => by rw [e _ (by omega)]; exact h2 i hi, fun i hi g => ?_, fun i hi g => ?_, by rw [e 72 (by omega)]; exact h5, by rw [e 73 (by omega)]; exact h6, by rw [e 74 (by omega)]; exact h7, by rw [e 75 (by omega)]; exact h8, by rw [e 75 (by omega), e 74 (by omega)]; exact h9, fun s i r hs hi hr g1 g2 => ?_⟩, by rw [e 75 (by omega), e 74 (by omega)]; exact u1, by rw [e 72 (by omega), e 74 (by omega)]; exact u2, by rw [e 73 (by omega), e 74 (by omega)]; exact u3⟩
  · rw [e1 i]
    split
    · omega
    · exact h1 i hi
  · rw [e _ (by omega)]
    rw [e1 i] at g
    by_cases z : i = q
    · rw [z]; exact hd0
    · rw [if_neg z] at g; exact h3 i hi g
  · rw [e (36 + i) (by omega)]
    rw [e1 i] at g ⊢
    by_cases z : i = q
    · rw [z]; exact Or.inl hd0
    · rw [if_neg z] at g ⊢; exact h4 i hi g
  · rw [e1 i] at g1
    rw [e1 r] at g2
    by_cases z : i = q
    · rw [if_pos z] at g1
      by_cases z2 : r = q
      · omega
      · rw [if_neg z2] at g2
        exact absurd g2 (hk s hs g1 r hr)
    · rw [if_neg z] at g1
      by_cases z2 : r = q
      · rw [if_pos z2] at g2
        exact absurd g1 (hk s hs g2 i hi)
      · rw [if_neg z2] at g2
        exact h10 s i r hs hi hr g1 g2

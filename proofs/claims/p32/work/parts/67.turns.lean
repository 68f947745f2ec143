/-! PURE 27: move, door and buy as calls -/
theorem ymr_b {b : Nat → Nat} (hv : yV b) {p t : Nat} (hp : p < 36) (ht : t < 36) : (ymr b p t).1 < 9 ∧ (ymr b p t).2 < 100 ∧ ((ymr b p t).1 = 0 → (ymr b p t).2 = 0) := by
  have h74 := (yV_74 hv).2.2.1
  unfold ymr
  split
  · exact ⟨by show 1 < 9; omega, by show b 74 < 100; omega, fun z => absurd z (show ¬ (1 : Nat) = 0 by decide)⟩
  · split
    · exact ⟨by show 2 < 9; omega, by show p < 100; omega, fun z => absurd z (show ¬ (2 : Nat) = 0 by decide)⟩
    · split
      · exact ⟨by show 3 < 9; omega, by show t < 100; omega, fun z => absurd z (show ¬ (3 : Nat) = 0 by decide)⟩
      · exact ⟨by show 0 < 9; omega, by show 0 < 100; omega, fun _ => rfl⟩
theorem ypr_b {b : Nat → Nat} (hv : yV b) {q : Nat} (hq : q < 36) (isP : Bool) : (ypr b q isP).1 < 9 ∧ (ypr b q isP).2 < 100 ∧ ((ypr b q isP).1 = 0 → (ypr b q isP).2 = 0) := by
  have h74 := (yV_74 hv).2.2.1
  have hkk : ∀ c, c < 29 → ykk c ≤ 9 := by decide +kernel
  have h9 := hkk (b q) (by have := yV_28 hv hq; omega)
  unfold ypr
  split
  · exact ⟨by show 1 < 9; omega, by show b 74 < 100; omega, fun z => absurd z (show ¬ (1 : Nat) = 0 by decide)⟩
  · split
    · exact ⟨by show 4 < 9; omega, by show q < 100; omega, fun z => absurd z (show ¬ (4 : Nat) = 0 by decide)⟩
    · split
      · exact ⟨by show 5 < 9; omega, by show q < 100; omega, fun z => absurd z (show ¬ (5 : Nat) = 0 by decide)⟩
      · split
        · exact ⟨by show 6 < 9; omega, by show q < 100; omega, fun z => absurd z (show ¬ (6 : Nat) = 0 by decide)⟩
        · split
          · rename_i hk
            have hk2 := of_decide_eq_true ((Bool.and_eq_true _ _).mp hk).2
            exact ⟨by show 7 < 9; omega, by show ykq b (b 74 % 2) < 100; omega, fun z => absurd z (show ¬ (7 : Nat) = 0 by decide)⟩
          · split
            · refine ⟨by show 8 < 9; omega, ?_, fun z => absurd z (show ¬ (8 : Nat) = 0 by decide)⟩
              show ypp b q isP - b (72 + b 74 % 2) < 100
              unfold ypp
              split <;> omega
            · exact ⟨by show 0 < 9; omega, by show 0 < 100; omega, fun _ => rfl⟩
/-- the reason kept by both -/
def yK (kR reason detail : Int32) : Prop := ∃ r d, r < 9 ∧ d < 100 ∧ (r = 0 → d = 0) ∧ kR = nI (100 * r + d) ∧ reason = nI r ∧ detail = nI d

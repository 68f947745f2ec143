/-! PURE 23: more questions -/
theorem c_reqPiece {f : Nat → Int64} {b : Nat → Nat} (hP : yP f b) (hv : yV b) {q : Nat} (hq : q < 36) : fX4_requirePiece f (nI q) = some (if ysd (b q) ≤ 1 then 0 else 5) := by
  have hc28 := yV_28 hv hq
  have h2 := ysd_le (b q) (by omega)
  unfold fX4_requirePiece
  rw [c_whatOn hP hq, zbd_S]
  unfold ywh ypc
  by_cases g : ysd (b q) ≤ 1
  · rw [if_pos g, if_pos (show (decide (ysd (b q) = 0) || decide (ysd (b q) = 1)) = true by rcases (show ysd (b q) = 0 ∨ ysd (b q) = 1 by omega) with e | e <;> rw [e] <;> rfl), if_pos (show nI 1 = (1 : Int32) from rfl)]
  · rw [if_neg g, if_neg (show ¬ (decide (ysd (b q) = 0) || decide (ysd (b q) = 1)) = true by rw [show ysd (b q) = 2 by omega]; decide)]
    split
    · rfl
    · split <;> rfl

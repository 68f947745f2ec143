/-! PURE 32: captures and worth -/
theorem c_reqTarget {f : Nat → Int64} {b : Nat → Nat} (hP : yP f b) (hv : yV b) {p t : Nat} (hp : p < 36) (ht : t < 36) (hs : ysd (b p) ≤ 1) : fX4_requireTarget f (nI p) (nI t) = some (if yTg b p t = true then 0 else 5) := by
  obtain ⟨w, w1, w2⟩ := c_targets hP hv hp hs
  unfold fX4_requireTarget
  rw [w1, zbd_S, yhas w2 ht, zbd_S]
  cases yTg b p t <;> rfl

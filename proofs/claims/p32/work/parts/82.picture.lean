/-! PURE 42: picture and append -/
def yPiw (c d : Nat) : Nat := if (decide (ysd c = 0) || decide (ysd c = 1)) = true then 1 else if ywl c = true then 2 else if (decide (d = 1) || decide (d = 2)) = true then 3 else 0
def yPxs (s c d : Nat) : Bool := (decide (ysd c = s) || decide (d = s + 1)) || decide (ymd c = s)
def yPis (c d : Nat) : Nat := if yPxs 0 c d = true then 0 else if yPxs 1 c d = true then 1 else 2
/-- what the class shows -/
def yPic (u3 u5 u8 : Int32) : Option (Nat × Int32) := (if u5 = (1 : Int32) then (zbd (fX4_signOfPiece u3 u8) (fun u10 => (zck (zch u10) (some (0, u10))))) else (if u5 = (2 : Int32) then (zck (zch (35 : Int32)) (some (0, (35 : Int32)))) else (if u5 = (3 : Int32) then (if u3 = 0 then (zck (zch (40 : Int32)) (some (0, (40 : Int32)))) else (zck (zch (41 : Int32)) (some (0, (41 : Int32))))) else (zck (zch (46 : Int32)) (some (0, (46 : Int32)))))))
def yPok (c d : Nat) : Bool := ((decide (c ≤ 8) || decide (20 ≤ c)) && (!decide (20 ≤ c) || decide (d = 0))) && (!decide (ysd c ≤ 1) || (decide (d = 0) || decide (d = ysd c + 1)))
theorem yPok_of {c d : Nat} (h1 : c ≤ 8 ∨ 20 ≤ c) (h2 : 20 ≤ c → d = 0) (h3 : ysd c ≤ 1 → d = 0 ∨ d = ysd c + 1) : yPok c d = true := by
  unfold yPok
  rw [Bool.and_eq_true, Bool.and_eq_true]
  refine ⟨⟨?_, ?_⟩, ?_⟩
  · rcases h1 with h | h
    · rw [decide_eq_true h]; rfl
    · rw [decide_eq_true h, Bool.or_true]
  · by_cases g : 20 ≤ c
    · rw [decide_eq_true (h2 g), Bool.or_true]
    · rw [decide_eq_false g]; rfl
  · by_cases g : ysd c ≤ 1
    · rcases h3 g with h | h
      · rw [decide_eq_true h, Bool.true_or, Bool.or_true]
      · rw [decide_eq_true h, Bool.or_true, Bool.or_true]
    · rw [decide_eq_false g]; rfl
theorem ynar_c : ∀ n, n < 127 → vp_nar .char (nI n) = nI n := by decide +kernel

/-! PURE 6: where a piece can go, as the model finds it -/
def yw4 (X : Nat → Bool) : Nat → Bool
  | 0 => false
  | w + 1 => yw4 X w || X w
theorem yw4_t {X : Nat → Bool} : ∀ {n}, yw4 X n = true ↔ ∃ w, w < n ∧ X w = true
  | 0 => ⟨fun h => (nomatch h), fun ⟨w, h, _⟩ => absurd h (Nat.not_lt_zero w)⟩
  | n + 1 => by
    show (yw4 X n || X n) = true ↔ _
    rw [Bool.or_eq_true, yw4_t (n := n)]
    constructor
    · rintro (⟨w, a, c⟩ | h)
      · exact ⟨w, by omega, c⟩
      · exact ⟨n, by omega, h⟩
    · rintro ⟨w, a, c⟩
      by_cases e : w = n
      · rw [e] at c; exact Or.inr c
      · exact Or.inl ⟨w, by omega, c⟩
def yRay (fr : Nat → Bool) (w : Nat) : Nat → Nat → Nat → Bool
  | 0, _, _ => false
  | n + 1, p, t => (decide (ynb p w < 36) && fr (ynb p w)) && (decide (t = ynb p w) || yRay fr w n (ynb p w) t)
def yst (p w : Nat) : Nat := if w = 0 then p / 6 else if w = 1 then 5 - p % 6 else if w = 2 then 5 - p / 6 else p % 6
theorem yst_1 : ∀ p, p < 36 → ∀ w, w < 4 → (ynb p w < 36 → yst (ynb p w) w + 1 = yst p w) ∧ yst p w ≤ 5 ∧ (yst p w = 0 → ynb p w = 99) := by decide +kernel
theorem yRay_ge {fr : Nat → Bool} {w : Nat} (hw : w < 4) : ∀ n m p t, p < 36 → yst p w ≤ n → yst p w ≤ m → yRay fr w n p t = yRay fr w m p t := by
  intro n
  induction n with
  | zero =>
    intro m p t hp hn hm
    cases m with
    | zero => rfl
    | succ m =>
      have := (yst_1 p hp w hw).2.2 (by omega)
      show false = ((decide (ynb p w < 36) && fr (ynb p w)) && (decide (t = ynb p w) || yRay fr w m (ynb p w) t))
      rw [this]
      rfl
  | succ n ih =>
    intro m p t hp hn hm
    cases m with
    | zero =>
      have := (yst_1 p hp w hw).2.2 (by omega)
      show ((decide (ynb p w < 36) && fr (ynb p w)) && (decide (t = ynb p w) || yRay fr w n (ynb p w) t)) = false
      rw [this]
      rfl
    | succ m =>
      show ((decide (ynb p w < 36) && fr (ynb p w)) && (decide (t = ynb p w) || yRay fr w n (ynb p w) t)) = ((decide (ynb p w < 36) && fr (ynb p w)) && (decide (t = ynb p w) || yRay fr w m (ynb p w) t))
      by_cases g : ynb p w < 36
      · have := (yst_1 p hp w hw).1 g
        rw [ih m (ynb p w) t g (by omega) (by omega)]
      · rw [decide_eq_false g]
        rfl
theorem yRay_5 {fr : Nat → Bool} {w p t : Nat} (hw : w < 4) (hp : p < 36) : yRay fr w 5 p t = ((decide (ynb p w < 36) && fr (ynb p w)) && (decide (t = ynb p w) || yRay fr w 5 (ynb p w) t)) := by
  have := (yst_1 p hp w hw).2.1
  rw [yRay_ge hw 5 6 p t hp this (by omega)]
  rfl
theorem nb_1 : vp_nar .boolean (1 : Int32) = 1 := by decide +kernel
theorem nb_0 : vp_nar .boolean (0 : Int32) = 0 := by decide +kernel
/-! walks -/
def yCk (comes queue far : Nat → Int32) (q : Nat) (Q D : Nat → Nat) (M : Nat → Bool) (sz : Nat) : Prop := (∀ j, j < sz → queue j = nI (Q j) ∧ far (Q j) = nI (D (Q j))) ∧ ∀ j, j < 36 → comes j = yb (M j && !decide (j = q))
def ylt3 (d : Nat) : Bool := decide (d < 3)
def yWk (b : Nat → Nat) (s q t : Nat) : Bool := yRs (yfr b s) (fun i => decide (i = q)) 3 t && !decide (t = q)
/-- where the piece on q can go -/
def yTg (b : Nat → Nat) (q t : Nat) : Bool :=
  if ysd (b q) ≤ 1 then (if ykd (b q) = 1 then yw4 (fun w => yRay (yfr b (ysd (b q))) w 5 q t) 4 else if ykd (b q) = 2 then yWk b (ysd (b q)) q t else yw4 (fun w => decide (ynb q w = t) && yfr b (ysd (b q)) t) 4) else false
theorem ysk : ∀ c, c < 29 → (ysd c ≤ 1 ↔ ykd c ≤ 3) ∧ (ysd c ≤ 1 → c ≠ 0 ∧ c ≤ 8) := by decide +kernel

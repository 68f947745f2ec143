/-! PURE 10: a move and its captures -/
def ymv (b : Nat → Nat) (p t : Nat) : Nat → Nat := fun j => if j = t then b p else if j = p then 0 else b j
def ycp (b : Nat → Nat) (s t w : Nat) : Bool := (decide (ynb t w < 36) && decide (ynb (ynb t w) w < 36)) && (ypc b (1 - s) (ynb t w) && ypc b s (ynb (ynb t w) w))
def yC (b : Nat → Nat) (s t n j : Nat) : Bool := yw4 (fun w => ycp b s t w && decide (j = ynb t w)) n
def ycb (b : Nat → Nat) (C : Nat → Bool) : Nat → Nat := fun j => if j < 36 then (if C j = true then b j + 20 else b j) else if j < 72 then (if C (j - 36) = true then 0 else b j) else b j
def ygo (b : Nat → Nat) (p t : Nat) : Nat → Nat := ycb (ymv b p t) (yC (ymv b p t) (ysd (b p)) t 4)
theorem yC_t {b : Nat → Nat} {s t n j : Nat} : yC b s t n j = true ↔ ∃ w, w < n ∧ ycp b s t w = true ∧ j = ynb t w := by
  unfold yC
  rw [yw4_t]
  constructor
  · rintro ⟨w, a, c⟩
    obtain ⟨c1, c2⟩ := (Bool.and_eq_true _ _).mp c
    exact ⟨w, a, c1, of_decide_eq_true c2⟩
  · rintro ⟨w, a, c, d⟩
    exact ⟨w, a, (Bool.and_eq_true _ _).mpr ⟨c, decide_eq_true d⟩⟩
theorem ycp_t {b : Nat → Nat} {s t w : Nat} : ycp b s t w = true ↔ ynb t w < 36 ∧ ynb (ynb t w) w < 36 ∧ ysd (b (ynb t w)) = 1 - s ∧ ysd (b (ynb (ynb t w) w)) = s := by
  unfold ycp ypc
  rw [Bool.and_eq_true, Bool.and_eq_true, Bool.and_eq_true, decide_eq_true_eq, decide_eq_true_eq, decide_eq_true_eq, decide_eq_true_eq]
  constructor
  · rintro ⟨⟨a, c⟩, d, e⟩; exact ⟨a, c, d, e⟩
  · rintro ⟨a, c, d, e⟩; exact ⟨⟨a, c⟩, d, e⟩
theorem yC_o {b : Nat → Nat} {s t n j : Nat} (h : yC b s t n j = true) : j < 36 ∧ ysd (b j) = 1 - s := by
  obtain ⟨w, a, c, rfl⟩ := yC_t.mp h
  obtain ⟨c1, c2, c3, c4⟩ := ycp_t.mp c
  exact ⟨c1, c3⟩
theorem ynb_d1 : ∀ t, t < 36 → ∀ w, w < 4 → ynb t w < 36 → ∀ v, v < w → ynb t w ≠ ynb t v := by decide +kernel
theorem ynb_d2 : ∀ t, t < 36 → ∀ w, w < 4 → ynb t w < 36 → ynb (ynb t w) w < 36 → ∀ v, v < 4 → ynb (ynb t w) w ≠ ynb t v := by decide +kernel
theorem yC_no1 {b : Nat → Nat} {s t w : Nat} (ht : t < 36) (hw : w < 4) (h : ynb t w < 36) : yC b s t w (ynb t w) = false := by
  cases g : yC b s t w (ynb t w) with
  | false => rfl
  | true =>
    obtain ⟨v, a, c, e⟩ := yC_t.mp g
    exact absurd e (ynb_d1 t ht w hw h v a)
theorem yC_no2 {b : Nat → Nat} {s t w : Nat} (ht : t < 36) (hw : w < 4) (h : ynb t w < 36) (h2 : ynb (ynb t w) w < 36) : yC b s t w (ynb (ynb t w) w) = false := by
  cases g : yC b s t w (ynb (ynb t w) w) with
  | false => rfl
  | true =>
    obtain ⟨v, a, c, e⟩ := yC_t.mp g
    exact absurd e (ynb_d2 t ht w hw h h2 v (by omega))
theorem yC_s {b : Nat → Nat} {s t w : Nat} (j : Nat) : yC b s t (w + 1) j = (yC b s t w j || (ycp b s t w && decide (j = ynb t w))) := rfl
theorem yC_ct {b : Nat → Nat} {s t w : Nat} (ht : t < 36) (hw : w < 4) : fb_ct (yC b s t (w + 1)) 36 = fb_ct (yC b s t w) 36 + (if ycp b s t w = true then 1 else 0) := by
  by_cases g : ycp b s t w = true
  · obtain ⟨c1, c2, c3, c4⟩ := ycp_t.mp g
    have h3 := fb_ct_upd (yC b s t w) true c1
    rw [yC_no1 ht hw c1, if_pos rfl, if_neg ynft, Nat.add_zero] at h3
    rw [if_pos g, ← h3]
    exact fb_ct_cong (p := yC b s t (w + 1)) (q := fun k => if k = ynb t w then true else yC b s t w k) (fun k hk => by
      rw [yC_s, g, Bool.true_and]
      by_cases e : k = ynb t w
      · rw [if_pos e, decide_eq_true e, Bool.or_true]
      · rw [if_neg e, decide_eq_false e, Bool.or_false])
  · have g' : ycp b s t w = false := by simpa using g
    rw [if_neg g, Nat.add_zero]
    exact fb_ct_cong (p := yC b s t (w + 1)) (q := yC b s t w) (fun k hk => by rw [yC_s, g', Bool.false_and, Bool.or_false])

/-! PURE 4: the rooms, as sets and as the model finds them -/
def yS0 (X : Nat → Bool) (j : Nat) : Bool := X j && decide (fb_ct X j = 0)
theorem yS0_lo {X : Nat → Bool} {v : Nat} (h : yLo X v) {i : Nat} (hi : i < 36) : yS0 X i = decide (i = v) := by
  unfold yS0
  rcases Nat.lt_trichotomy i v with q | q | q
  · rw [h.2.2 i q, Bool.false_and, decide_eq_false (by omega)]
  · subst q
    rw [h.2.1, decide_eq_true (fb_ct_zero.mpr h.2.2), decide_eq_true rfl]
    rfl
  · have : ¬ fb_ct X i = 0 := fun z => by
      have := fb_ct_zero.mp z v q
      rw [h.2.1] at this
      cases this
    rw [decide_eq_false this, Bool.and_false, decide_eq_false (by omega)]
def yrm (X : Nat → Bool) : Nat → Bool := yR X (yS0 X) 36
theorem yrm_lo {X : Nat → Bool} {v : Nat} (h : yLo X v) : ∀ i, i < 36 → yR X (fun j => decide (j = v)) 36 i = yrm X i :=
  yR_c (fun _ _ => rfl) (fun i hi => (yS0_lo h hi).symm) 36
theorem yrm_X {X : Nat → Bool} {i : Nat} (h : yrm X i = true) : X i = true := yR_ok h
theorem yrm_v {X : Nat → Bool} {v : Nat} (h : yLo X v) : yrm X v = true := by
  have h0 : yR X (yS0 X) 0 v = true := by
    show (yS0 X v && X v) = true
    rw [yS0_lo h h.1, decide_eq_true rfl, h.2.1]
    rfl
  exact yR_mono h0 36
def yL (P : Nat → Bool) : Nat → Nat → Bool
  | 0 => P
  | n + 1 => fun i => yL P n i && !yrm (yL P n) i
theorem yL_1 {P : Nat → Bool} {n i : Nat} (h : yL P (n + 1) i = true) : yL P n i = true := ((Bool.and_eq_true _ _).mp h).1
theorem yL_le {P : Nat → Bool} {n m i : Nat} (h : yL P m i = true) (hn : n ≤ m) : yL P n i = true := by
  induction m with
  | zero => rw [show n = 0 by omega]; exact h
  | succ m ih =>
    by_cases e : n = m + 1
    · rw [e]; exact h
    · exact ih (yL_1 h) (by omega)
theorem yL_rm {P : Nat → Bool} {n i : Nat} : (yL P n i = true ∧ yL P (n + 1) i = false) ↔ yrm (yL P n) i = true := by
  show (yL P n i = true ∧ (yL P n i && !yrm (yL P n) i) = false) ↔ _
  constructor
  · rintro ⟨a, c⟩
    rw [a] at c
    simpa using c
  · intro g
    rw [yrm_X g, g]
    exact ⟨rfl, rfl⟩
theorem yL_dec {P : Nat → Bool} {n : Nat} (h : ∃ i, i < 36 ∧ yL P n i = true) : fb_ct (yL P (n + 1)) 36 + 1 ≤ fb_ct (yL P n) 36 := by
  obtain ⟨v, hv⟩ := yLo_ex h
  have h1 := (yL_rm (P := P) (n := n) (i := v)).mpr (yrm_v hv)
  have h3 := fb_ct_upd (yL P (n + 1)) true hv.1
  rw [h1.2, if_pos rfl, if_neg (by decide)] at h3
  have h4 : fb_ct (fun k => if k = v then true else yL P (n + 1) k) 36 ≤ fb_ct (yL P n) 36 := fb_ct_sub (fun k hk g => by
    by_cases q : k = v
    · rw [q]; exact h1.1
    · rw [if_neg q] at g; exact yL_1 g)
  omega
theorem yL_n {P : Nat → Bool} {r : Nat} (h : ∀ n, n < r → ∃ i, i < 36 ∧ yL P n i = true) : r + fb_ct (yL P r) 36 ≤ 36 := by
  induction r with
  | zero =>
    have := fb_ct_le (yL P 0) 36
    omega
  | succ r ih =>
    have a := ih (fun n hn => h n (by omega))
    have b := yL_dec (h r (by omega))
    omega
/-- P has r rooms -/
def yNr (P : Nat → Bool) (r : Nat) : Prop := (∀ n, n < r → ∃ i, i < 36 ∧ yL P n i = true) ∧ ∀ i, i < 36 → yL P r i = false
theorem yNr_36 {P : Nat → Bool} {r : Nat} (h : yNr P r) : r ≤ 36 := by
  have := yL_n h.1
  omega
theorem yNr_u {P : Nat → Bool} {r t : Nat} (h : yNr P r) (g : yNr P t) : r = t := by
  rcases Nat.lt_trichotomy r t with q | q | q
  · obtain ⟨i, a, c⟩ := g.1 r q
    rw [h.2 i a] at c
    cases c
  · exact q
  · obtain ⟨i, a, c⟩ := h.1 t q
    rw [g.2 i a] at c
    cases c
/-- what the model's row tells of the rooms -/
def yIx (P : Nat → Bool) (r : Nat) (ra : Nat → Int32) : Prop :=
  (∀ j, j < 36 → yL P r j = false → P j = true → ∃ m, m < r ∧ ra j = nI m ∧ yrm (yL P m) j = true) ∧ ∀ j, j < 36 → (P j = false ∨ yL P r j = true) → ra j = -1
/-! the model's spread -/
def yLk (queue roomAt ra0 : Nat → Int32) (r : Nat) (Q : Nat → Nat) (M : Nat → Bool) (sz : Nat) : Prop := (∀ j, j < sz → queue j = nI (Q j)) ∧ ∀ j, j < 36 → roomAt j = if M j = true then nI r else ra0 j
theorem yB_1 (ok lim : Nat → Bool) {v : Nat} (hv : v < 36) : yB ok (fun i => decide (i = v)) lim (fun _ => v) (fun _ => 0) (fun i => decide (i = v)) 1 0 0 := by
  refine ⟨by omega, fun j hj => ⟨hv, decide_eq_true rfl⟩, fun i j h1 h2 => by omega, fun i hi hm => ⟨0, by omega, (of_decide_eq_true hm).symm⟩, fun i hi hs => ⟨hs, rfl⟩, fun i j _ _ => Nat.le_refl _, fun j _ _ => Nat.zero_le _, fun j _ => Nat.zero_le _, fun j hj => decide_eq_true rfl, fun i j h => by omega, fun j _ => Or.inl rfl⟩

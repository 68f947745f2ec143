/-! PURE 13: what is remembered -/
def yH (rws : Nat → Int64) (nx ct : Int32) (hist : Nat → Nat → Int32) (kept : Int32) : Prop := ∃ (x c : Nat) (B : Nat → Nat → Nat), x < 6 ∧ c ≤ 6 ∧ nx = nI x ∧ ct = nI c ∧ kept = nI c ∧ ∀ i, i < c → yV2 (B i) ∧ yN (hist i) (B i) ∧ yP (fun j => rws (15 * ((x + 6 - c + i) % 6) + j)) (B i)
theorem p_write (f g : Nat → Int64) {x : Nat} (hx6 : x < 6) : ∃ g', fX2_writeTo f g (nI (15 * x)) = some g' ∧ (∀ j, j < 15 → g' (15 * x + j) = f j) ∧ ∀ i, (i < 15 * x ∨ 15 * x + 15 ≤ i) → g' i = g i := by
  have hl : ∀ d k n g1, k + d = 15 → d < n → (∀ j, j < k → g1 (15 * x + j) = f j) → (∀ i, (i < 15 * x ∨ 15 * x + 15 ≤ i) → g1 i = g i) → ∃ g', fX2_writeTo_2 f n g1 (nI (15 * x)) (nI k) = some g' ∧ (∀ j, j < 15 → g' (15 * x + j) = f j) ∧ ∀ i, (i < 15 * x ∨ 15 * x + 15 ≤ i) → g' i = g i := by
    intro d
    induction d with
    | zero =>
      intro k n g1 hk hn h1 h2
      cases n with
      | zero => omega
      | succ n =>
        rw [fX2_writeTo_2, if_pos (show (15 : Int32) ≤ nI k from nI_le (a := 15) (by omega) (by omega))]
        exact ⟨g1, rfl, fun j hj => h1 j (by omega), h2⟩
    | succ d ih =>
      intro k n g1 hk hn h1 h2
      cases n with
      | zero => omega
      | succ n =>
        rw [fX2_writeTo_2, if_neg (show ¬ (15 : Int32) ≤ nI k from nI_ge (b := 15) (by omega) (by omega)), nI_add, zbn_E, if_neg (nI_pos (by omega)), if_neg (show ¬ (90 : Int32) ≤ nI (15 * x + k) from nI_ge (b := 90) (by omega) (by omega)), zck_N (by omega) (by omega), zck_N (by omega) (by omega), tn_n (show k < 2000 by omega), tn_n (show 15 * x + k < 2000 by omega)]
        unfold fX2_writeTo_35
        rw [zbn_E, nI_1]
        refine ih (k + 1) n _ (by omega) (by omega) (fun j hj => ?_) (fun i hi => ?_)
        · unfold vp_updL
          by_cases e : j = k
          · rw [if_pos (by omega), e]
          · rw [if_neg (by omega)]; exact h1 j (by omega)
        · unfold vp_updL
          rw [if_neg (by omega)]; exact h2 i hi
  unfold fX2_writeTo
  exact hl 15 0 zFu g (by omega) (by unfold zFu; omega) (fun j hj => absurd hj (by omega)) (fun i _ => rfl)
theorem p_read (f g : Nat → Int64) {x : Nat} (hx6 : x < 6) : ∃ f', fX2_readFrom f g (nI (15 * x)) = some f' ∧ ∀ j, j < 15 → f' j = g (15 * x + j) := by
  have hl : ∀ d k n f1, k + d = 15 → d < n → (∀ j, j < k → f1 j = g (15 * x + j)) → ∃ f', fX2_readFrom_2 g n f1 (nI (15 * x)) (nI k) = some f' ∧ ∀ j, j < 15 → f' j = g (15 * x + j) := by
    intro d
    induction d with
    | zero =>
      intro k n f1 hk hn h1
      cases n with
      | zero => omega
      | succ n =>
        rw [fX2_readFrom_2, if_pos (show (15 : Int32) ≤ nI k from nI_le (a := 15) (by omega) (by omega))]
        exact ⟨f1, rfl, fun j hj => h1 j (by omega)⟩
    | succ d ih =>
      intro k n f1 hk hn h1
      cases n with
      | zero => omega
      | succ n =>
        rw [fX2_readFrom_2, if_neg (show ¬ (15 : Int32) ≤ nI k from nI_ge (b := 15) (by omega) (by omega)), nI_add, zbn_E, if_neg (nI_pos (by omega)), if_neg (show ¬ (90 : Int32) ≤ nI (15 * x + k) from nI_ge (b := 90) (by omega) (by omega)), zck_N (by omega) (by omega), zck_N (by omega) (by omega), tn_n (show k < 2000 by omega), tn_n (show 15 * x + k < 2000 by omega)]
        unfold fX2_readFrom_35
        rw [zbn_E, nI_1]
        refine ih (k + 1) n _ (by omega) (by omega) (fun j hj => ?_)
        unfold vp_updL
        by_cases e : j = k
        · rw [if_pos e, e]
        · rw [if_neg e]; exact h1 j (by omega)
  unfold fX2_readFrom
  exact hl 15 0 zFu f (by omega) (by unfold zFu; omega) (fun j hj => absurd hj (by omega))
theorem y_n15 : ∀ x, x < 6 → nI x * (15 : Int32) = nI (15 * x) := by decide +kernel
theorem y_n6 : ∀ x, x < 6 → (nI x + 1) - (nI x + 1) / 6 * 6 = nI ((x + 1) % 6) ∧ ((nI x + 6) - 1) - ((nI x + 6) - 1) / 6 * 6 = nI ((x + 5) % 6) := by decide +kernel
theorem y_min : ∀ c, c < 7 → (if (6 : Int32) < nI c + 1 then (6 : Int32) else nI c + 1) = nI (if c < 6 then c + 1 else 6) := by decide +kernel
theorem y_forget {rws : Nat → Int64} {nx ct kept : Int32} {hist : Nat → Nat → Int32} (h : yH rws nx ct hist kept) : yH rws nx 0 hist 0 := by
  obtain ⟨x, c, B, hx, hc, rfl, rfl, rfl, hB⟩ := h
  exact ⟨x, 0, B, hx, by omega, rfl, rfl, rfl, fun i hi => absurd hi (by omega)⟩

/-! PURE 12: rows copied, reset, the first row, the history -/
theorem p_copy (f g : Nat → Int64) : ∃ f', fX2_copyFrom f g = some f' ∧ ∀ j, j < 15 → f' j = g j := by
  have hl : ∀ d x n f, x + d = 15 → d < n → (∀ j, j < x → f j = g j) → ∃ f', fX2_copyFrom_2 g n f (nI x) = some f' ∧ ∀ j, j < 15 → f' j = g j := by
    intro d
    induction d with
    | zero =>
      intro x n f hx hn hf
      cases n with
      | zero => omega
      | succ n =>
        rw [fX2_copyFrom_2, if_pos (show (15 : Int32) ≤ nI x from nI_le (a := 15) (by omega) (by omega))]
        exact ⟨f, rfl, fun j hj => hf j (by omega)⟩
    | succ d ih =>
      intro x n f hx hn hf
      cases n with
      | zero => omega
      | succ n =>
        rw [fX2_copyFrom_2, if_neg (show ¬ (15 : Int32) ≤ nI x from nI_ge (b := 15) (by omega) (by omega)), zck_N (by omega) (by omega), zck_N (by omega) (by omega), zbn_E, nI_1, tn_n (by omega)]
        refine ih (x + 1) n _ (by omega) (by omega) (fun j hj => ?_)
        unfold vp_updL
        by_cases e : j = x
        · rw [if_pos e, e]
        · rw [if_neg e]; exact hf j (by omega)
  unfold fX2_copyFrom
  exact hl 15 0 zFu f (by omega) (by unfold zFu; omega) (fun j hj => absurd hj (by omega))
theorem yP_c {f g : Nat → Int64} {b : Nat → Nat} (h : yP g b) (e : ∀ j, j < 15 → f j = g j) : yP f b := by
  obtain ⟨h1, h2, h3, h4, h5, h6, h7, h8, h9⟩ := h
  refine ⟨fun s hs => by rw [e s (by omega)]; exact h1 s hs, fun s hs => by rw [e _ (by omega)]; exact h2 s hs, fun s hs => by rw [e _ (by omega)]; exact h3 s hs, fun k hk => by rw [e _ (by omega)]; exact h4 k hk, by rw [e 10 (by omega)]; exact h5, by rw [e 11 (by omega)]; exact h6, by rw [e 12 (by omega)]; exact h7, by rw [e 13 (by omega)]; exact h8, by rw [e 14 (by omega)]; exact h9⟩
theorem c_copy {f g : Nat → Int64} {b : Nat → Nat} (h : yP g b) : ∃ f', fX2_copyFrom f g = some f' ∧ yP f' b := by
  obtain ⟨f', e1, e2⟩ := p_copy f g
  exact ⟨f', e1, yP_c h e2⟩
/-! an empty board -/
def yb0 : Nat → Nat := fun j => if j = 72 ∨ j = 73 then 3 else 0
theorem c_reset (f : Nat → Int64) : ∃ f', fX2_reset f = some f' ∧ yP f' yb0 := by
  have hl : ∀ d x n f, x + d = 15 → d < n → (∀ j, j < x → f j = 0) → ∃ f', fX2_reset_2 n f (nI x) = some f' ∧ ∀ j, j < 15 → f' j = if j = 11 ∨ j = 12 then 3 else 0 := by
    intro d
    induction d with
    | zero =>
      intro x n f hx hn hf
      cases n with
      | zero => omega
      | succ n =>
        rw [fX2_reset_2, if_pos (show (15 : Int32) ≤ nI x from nI_le (a := 15) (by omega) (by omega)), show (11 : Int32) = nI 11 from rfl, show (12 : Int32) = nI 12 from rfl, zck_N (by omega) (by omega), zck_N (by omega) (by omega), tn_n (by omega), tn_n (by omega)]
        refine ⟨_, rfl, fun j hj => ?_⟩
        unfold vp_updL
        by_cases e : j = 12
        · rw [if_pos e, if_pos (Or.inr e)]
        · rw [if_neg e]
          by_cases e2 : j = 11
          · rw [if_pos e2, if_pos (Or.inl e2)]
          · rw [if_neg e2, if_neg (by omega)]; exact hf j (by omega)
    | succ d ih =>
      intro x n f hx hn hf
      cases n with
      | zero => omega
      | succ n =>
        rw [fX2_reset_2, if_neg (show ¬ (15 : Int32) ≤ nI x from nI_ge (b := 15) (by omega) (by omega)), zck_N (by omega) (by omega), zbn_E, nI_1, tn_n (by omega)]
        refine ih (x + 1) n _ (by omega) (by omega) (fun j hj => ?_)
        unfold vp_updL
        by_cases e : j = x
        · rw [if_pos e]
        · rw [if_neg e]; exact hf j (by omega)
  obtain ⟨f', e1, e2⟩ := hl 15 0 zFu f (by omega) (by unfold zFu; omega) (fun j hj => absurd hj (by omega))
  refine ⟨f', by unfold fX2_reset; exact e1, ?_⟩
  have hz : ∀ j, j < 15 → j ≠ 11 → j ≠ 12 → f' j = 0 := fun j hj a c => by rw [e2 j hj, if_neg (by omega)]
  have h0 : ∀ q, q < 72 → yb0 q = 0 := fun q hq => by
    unfold yb0
    rw [if_neg (by omega)]
  refine ⟨fun s hs => ?_, fun s hs => ?_, fun s hs => ?_, fun k hk => ?_, ?_, ?_, ?_, ?_, ?_⟩
  · rw [hz s (by omega) (by omega) (by omega)]
    exact ySW_c ySW_0 (fun i hi => by
      unfold ypc
      rw [h0 i (by omega)]
      rcases (show s = 0 ∨ s = 1 by omega) with rfl | rfl <;> rfl)
  · rw [hz _ (by omega) (by omega) (by omega)]
    exact ySW_c ySW_0 (fun i hi => by
      rw [h0 (36 + i) (by omega)]
      rcases (show s = 0 ∨ s = 1 by omega) with rfl | rfl <;> rfl)
  · rw [hz _ (by omega) (by omega) (by omega)]
    exact ySW_c ySW_0 (fun i hi => by
      rw [h0 i (by omega)]
      rcases (show s = 0 ∨ s = 1 by omega) with rfl | rfl <;> rfl)
  · rw [hz _ (by omega) (by omega) (by omega)]
    exact ySW_c ySW_0 (fun i hi => by
      rw [h0 i (by omega)]
      rcases (show k = 0 ∨ k = 1 ∨ k = 2 ∨ k = 3 by omega) with rfl | rfl | rfl | rfl <;> rfl)
  · rw [hz _ (by omega) (by omega) (by omega)]
    exact ySW_c ySW_0 (fun i hi => by rw [h0 i (by omega)]; rfl)
  · rw [e2 11 (by omega)]; rfl
  · rw [e2 12 (by omega)]; rfl
  · rw [hz _ (by omega) (by omega) (by omega)]; rfl
  · rw [hz _ (by omega) (by omega) (by omega)]; rfl
/-! something laid on a free square -/
def yput (b : Nat → Nat) (q c : Nat) : Nat → Nat := fun j => if j = q then c else b j
theorem y_cd : ∀ s, s < 2 → ∀ k, k < 4 → ysd (1 + 4 * s + k) = s ∧ ykk (1 + 4 * s + k) = k ∧ ykd (1 + 4 * s + k) = k ∧ ymd (1 + 4 * s + k) = 2 ∧ ywl (1 + 4 * s + k) = false ∧ 1 + 4 * s + k ≤ 8 := by decide +kernel
theorem c_put {f : Nat → Int64} {b : Nat → Nat} (h : yP f b) {s k q : Nat} (hs : s ≤ 1) (hk : k ≤ 3) (hq : q < 36) (h0 : b q = 0) {T : Int64} (hT : ySW T (fun i => decide (i = q))) : ∃ f', fX2_putPiece f (nI s) (nI k) T = some f' ∧ yP f' (yput b q (1 + 4 * s + k)) := by
  refine ⟨_, p_put f hs hk T, ?_⟩
  obtain ⟨c1, c2, c3, c4, c5, c6⟩ := y_cd s (by omega) k (by omega)
  generalize 1 + 4 * s + k = c at c1 c2 c3 c4 c5 c6
  have hf : ∀ j, vp_updL (vp_updL f s (f s ||| T)) (6 + k) (vp_updL f s (f s ||| T) (6 + k) ||| T) j = if j = s then f s ||| T else if j = 6 + k then f (6 + k) ||| T else f j := fun j => by
    unfold vp_updL
    by_cases a : j = s
    · subst a
      rw [if_neg (show ¬ j = 6 + k by omega), if_pos rfl, if_pos rfl]
    · by_cases e : j = 6 + k
      · subst e
        rw [if_pos rfl, if_neg a, if_neg a, if_pos rfl]
      · rw [if_neg e, if_neg a, if_neg a, if_neg e]
  generalize vp_updL (vp_updL f s (f s ||| T)) (6 + k) (vp_updL f s (f s ||| T) (6 + k) ||| T) = f1 at hf
  have ho : ∀ j, j ≠ s → j ≠ 6 + k → f1 j = f j := fun j a e => by rw [hf, if_neg a, if_neg e]
  have hset : ∀ (X : Nat → Bool) (w : Int64), ySW w (fun i => X (b i)) → X c = true → ySW (w ||| T) (fun i => X (yput b q c i)) := fun X w hw xc => by
    refine ySW_c (ySW_or hw hT) (fun i hi => ?_)
    unfold yput
    by_cases e : i = q
    · rw [if_pos e, decide_eq_true e, xc, Bool.or_true]
    · rw [if_neg e, decide_eq_false e, Bool.or_false]
  have hkeep : ∀ (X : Nat → Bool) (w : Int64), ySW w (fun i => X (b i)) → X 0 = false → X c = false → ySW w (fun i => X (yput b q c i)) := fun X w hw x0 xc => by
    refine ySW_c hw (fun i hi => ?_)
    unfold yput
    by_cases e : i = q
    · rw [if_pos e, xc, e, h0, x0]
    · rw [if_neg e]
  have hd : ∀ j, 36 ≤ j → yput b q c j = b j := fun j hj => by
    unfold yput
    rw [if_neg (by omega)]
  refine ⟨fun s' hs' => ?_, fun s' hs' => ?_, fun s' hs' => ?_, fun k' hk' => ?_, ?_, ?_, ?_, ?_, ?_⟩
  · by_cases e : s' = s
    · rw [hf, if_pos e, e]
      exact hset (fun c => decide (ysd c = s)) (f s) (h.1 s hs) (decide_eq_true c1)
    · rw [ho s' e (by omega)]
      exact hkeep (fun c => decide (ysd c = s')) (f s') (h.1 s' hs') (decide_eq_false (show ¬ ysd 0 = s' by rcases (show s' = 0 ∨ s' = 1 by omega) with rfl | rfl <;> decide)) (decide_eq_false (by omega))
  · rw [ho (2 + s') (by omega) (by omega)]
    exact ySW_c (h.2.1 s' hs') (fun i hi => by rw [hd (36 + i) (by omega)])
  · rw [ho (4 + s') (by omega) (by omega)]
    exact hkeep (fun c => decide (ymd c = s')) (f (4 + s')) (h.2.2.1 s' hs') (decide_eq_false (show ¬ ymd 0 = s' by rcases (show s' = 0 ∨ s' = 1 by omega) with rfl | rfl <;> decide)) (decide_eq_false (by omega))
  · have z : ¬ ykk 0 = k' := by
      have : ykk 0 = 9 := by decide
      omega
    by_cases e : k' = k
    · rw [hf, if_neg (by omega), if_pos (by omega), e]
      exact hset (fun c => decide (ykk c = k)) (f (6 + k)) (h.2.2.2.1 k (by omega)) (decide_eq_true c2)
    · rw [ho (6 + k') (by omega) (by omega)]
      exact hkeep (fun c => decide (ykk c = k')) (f (6 + k')) (h.2.2.2.1 k' hk') (decide_eq_false z) (decide_eq_false (by omega))
  · rw [ho 10 (by omega) (by omega)]
    exact hkeep ywl (f 10) (y_walls h) (by decide) c5
  · rw [ho 11 (by omega) (by omega), hd 72 (by omega)]; exact h.2.2.2.2.2.1
  · rw [ho 12 (by omega) (by omega), hd 73 (by omega)]; exact h.2.2.2.2.2.2.1
  · rw [ho 13 (by omega) (by omega), hd 74 (by omega)]; exact h.2.2.2.2.2.2.2.1
  · rw [ho 14 (by omega) (by omega), hd 75 (by omega)]; exact h.2.2.2.2.2.2.2.2
def ykx (x : Nat) : Nat := if x = 0 ∨ x = 5 then 0 else if x = 1 ∨ x = 4 then 1 else if x = 2 then 3 else 2
def ySt : Nat → Nat → Nat
  | 0 => yb0
  | x + 1 => yput (yput (ySt x) x (1 + 4 * 0 + ykx x)) (30 + x) (1 + 4 * 1 + ykx x)
theorem ySt_0 : ∀ x j, (x ≤ j ∧ j < 30) ∨ (30 + x ≤ j ∧ j < 36) → x ≤ 6 → ySt x j = 0
  | 0, j, h, _ => by
    show yb0 j = 0
    unfold yb0
    rw [if_neg (by omega)]
  | x + 1, j, h, hx => by
    show yput (yput (ySt x) x (1 + 4 * 0 + ykx x)) (30 + x) (1 + 4 * 1 + ykx x) j = 0
    unfold yput
    rw [if_neg (by omega), if_neg (by omega)]
    exact ySt_0 x j (by omega) (by omega)
theorem ySt_V : yV (ySt 6) := by
  have h10 : ∀ s, s < 2 → ∀ q, q < 36 → ∀ r, r < 36 → ySt 6 q = 4 + 4 * s → ySt 6 r = 4 + 4 * s → q = r := by decide +kernel
  exact ⟨by decide +kernel, by decide +kernel, by decide +kernel, by decide +kernel, by decide +kernel, by decide +kernel, by decide +kernel, by decide +kernel, by decide +kernel, fun s q r hs hq hr => h10 s (by omega) q hq r hr⟩
theorem yb0_V : yV yb0 := by
  have h10 : ∀ s, s < 2 → ∀ q, q < 36 → ∀ r, r < 36 → yb0 q = 4 + 4 * s → yb0 r = 4 + 4 * s → q = r := by decide +kernel
  exact ⟨by decide +kernel, by decide +kernel, by decide +kernel, by decide +kernel, by decide +kernel, by decide +kernel, by decide +kernel, by decide +kernel, by decide +kernel, fun s q r hs hq hr => h10 s (by omega) q hq r hr⟩

/-! PURE 18: the board behind a purchase -/
theorem yet_lo {b : Nat → Nat} {c : Bool} {i : Nat} (hi : i < 74) : yet b c i = b i := by
  unfold yet
  split
  · rw [yput_o (by omega), yput_o (by omega)]
  · split
    · rw [yput_o (by omega), yput_o (by omega)]
    · rw [yput_o (by omega)]
def ydb (b : Nat → Nat) (q : Nat) : Nat → Nat := yput (yput (yput b q 0) (36 + q) (b 74 % 2 + 1)) (72 + b 74 % 2) (b (72 + b 74 % 2) - 3)
def ydo (b : Nat → Nat) (q : Nat) : Nat → Nat := yet (ydb b q) false
def ybb (b : Nat → Nat) (q : Nat) : Nat → Nat := yput (yput b q (b q - 20)) (72 + b 74 % 2) (b (72 + b 74 % 2) - (2 + ykk (b q)))
def ybu (b : Nat → Nat) (q : Nat) : Nat → Nat := yet (ybb b q) false
theorem yV_d0 {b : Nat → Nat} (hv : yV b) {q s : Nat} (hq : q < 36) (hs : s ≤ 1) : yV (yput (yput b q 0) (36 + q) (s + 1)) := by
  obtain ⟨h1, h2, h3, h4, h5, h6, h7, h8, h9, h10⟩ := hv
  have e1 : ∀ i, i < 36 → yput (yput b q 0) (36 + q) (s + 1) i = if i = q then 0 else b i := fun i hi => by
    rw [yput_o (by omega)]
    rfl
  have e2 : ∀ i, i < 36 → yput (yput b q 0) (36 + q) (s + 1) (36 + i) = if i = q then s + 1 else b (36 + i) := fun i hi => by
    by_cases e : i = q
    · rw [if_pos e, e, yput_s]
    · rw [if_neg e, yput_o (by omega), yput_o (by omega)]
  have e3 : ∀ i, 72 ≤ i → yput (yput b q 0) (36 + q) (s + 1) i = b i := fun i hi => by
    rw [yput_o (by omega), yput_o (by omega)]
  refine ⟨fun i hi => ?_, fun i hi => ?_, fun i hi g => ?_, fun i hi g => ?_, by rw [e3 72 (by omega)]; exact h5, by rw [e3 73 (by omega)]; exact h6, by rw [e3 74 (by omega)]; exact h7, by rw [e3 75 (by omega)]; exact h8, by rw [e3 75 (by omega), e3 74 (by omega)]; exact h9, fun s' i r hs' hi hr g1 g2 => ?_⟩
  · rw [e1 i hi]
    split
    · omega
    · exact h1 i hi
  · rw [e2 i hi]
    split
    · omega
    · exact h2 i hi
  · rw [e1 i hi] at g
    rw [e2 i hi]
    by_cases e : i = q
    · rw [if_pos e] at g; omega
    · rw [if_neg e] at g ⊢; exact h3 i hi g
  · rw [e1 i hi] at g ⊢
    rw [e2 i hi]
    by_cases e : i = q
    · rw [if_pos e] at g; exact absurd g (by decide)
    · rw [if_neg e] at g ⊢; rw [if_neg e]; exact h4 i hi g
  · rw [e1 i hi] at g1
    rw [e1 r hr] at g2
    by_cases e : i = q
    · rw [if_pos e] at g1; omega
    · by_cases e' : r = q
      · rw [if_pos e'] at g2; omega
      · rw [if_neg e] at g1
        rw [if_neg e'] at g2
        exact h10 s' i r hs' hi hr g1 g2
theorem yV_b0 {b : Nat → Nat} (hv : yV b) {q : Nat} (hq : q < 36) (hw : 20 ≤ b q) (hk : ∀ s, s ≤ 1 → b q = 24 + 4 * s → ∀ r, r < 36 → b r ≠ 4 + 4 * s) : yV (yput b q (b q - 20)) := by
  obtain ⟨h1, h2, h3, h4, h5, h6, h7, h8, h9, h10⟩ := hv
  have e1 : ∀ i, i < 36 → yput b q (b q - 20) i = if i = q then b q - 20 else b i := fun i hi => rfl
  have e3 : ∀ i, 36 ≤ i → yput b q (b q - 20) i = b i := fun i hi => yput_o (by omega)
  refine ⟨fun i hi => ?_, fun i hi => by rw [e3 _ (by omega)]; exact h2 i hi, fun i hi g => ?_, fun i hi g => ?_, by rw [e3 72 (by omega)]; exact h5, by rw [e3 73 (by omega)]; exact h6, by rw [e3 74 (by omega)]; exact h7, by rw [e3 75 (by omega)]; exact h8, by rw [e3 75 (by omega), e3 74 (by omega)]; exact h9, fun s' i r hs' hi hr g1 g2 => ?_⟩
  · rw [e1 i hi]
    split
    · have := h1 q hq
      omega
    · exact h1 i hi
  · rw [e3 _ (by omega)]
    rw [e1 i hi] at g
    by_cases e : i = q
    · rw [e]; exact h3 q hq hw
    · rw [if_neg e] at g; exact h3 i hi g
  · rw [e3 _ (by omega)]
    rw [e1 i hi] at g ⊢
    by_cases e : i = q
    · rw [e]; exact Or.inl (h3 q hq hw)
    · rw [if_neg e] at g ⊢; exact h4 i hi g
  · rw [e1 i hi] at g1
    rw [e1 r hr] at g2
    by_cases e : i = q
    · rw [if_pos e] at g1
      by_cases e' : r = q
      · omega
      · rw [if_neg e'] at g2
        exact absurd g2 (hk s' hs' (by omega) r hr)
    · rw [if_neg e] at g1
      by_cases e' : r = q
      · rw [if_pos e'] at g2
        exact absurd g1 (hk s' hs' (by omega) i hi)
      · rw [if_neg e'] at g2
        exact h10 s' i r hs' hi hr g1 g2
def yexl (g : Nat → Int64) (W : Int64) (k : Nat) : Nat → Int64 := fun j => if j = k then g j &&& (W ^^^ (-1)) else g j
def yinc (g : Nat → Int64) (W : Int64) (k : Nat) : Nat → Int64 := fun j => if j = k then g j ||| W else g j
theorem p_ex (f : Nat → Int64) {k : Nat} (hk : k < 15) (w : Int64) : fX2_exclude f (nI k) w = some (yexl f w k) := by
  rw [p_exclude f hk]
  congr 1
  funext j
  unfold vp_updL yexl
  by_cases e : j = k
  · rw [if_pos e, if_pos e, e]
  · rw [if_neg e, if_neg e]
theorem p_in (f : Nat → Int64) {k : Nat} (hk : k < 15) (w : Int64) : fX2_include f (nI k) w = some (yinc f w k) := by
  rw [p_include f hk]
  congr 1
  funext j
  unfold vp_updL yinc
  by_cases e : j = k
  · rw [if_pos e, if_pos e, e]
  · rw [if_neg e, if_neg e]
theorem yP_d0 {f f1 : Nat → Int64} {b : Nat → Nat} (h : yP f b) (hv : yV b) {q s : Nat} (hq : q < 36) (hs : s ≤ 1) (hw : 20 ≤ b q) {W : Int64} (hW : ySW W (fun i => decide (i = q)))
    (hf : ∀ j, j < 15 → f1 j = if j = 10 ∨ (4 ≤ j ∧ j ≤ 9) then f j &&& (W ^^^ (-1)) else if j = 2 + s then f j ||| W else f j) : yP f1 (yput (yput b q 0) (36 + q) (s + 1)) := by
  have hc28 := yV_28 hv hq
  have h2q := y_code4 (b q) (by omega) hw
  have hdq := hv.2.2.1 q hq hw
  have e1 : ∀ i, i < 36 → yput (yput b q 0) (36 + q) (s + 1) i = if i = q then 0 else b i := fun i hi => by
    rw [yput_o (by omega)]
    rfl
  have e2 : ∀ i, i < 36 → yput (yput b q 0) (36 + q) (s + 1) (36 + i) = if i = q then s + 1 else b (36 + i) := fun i hi => by
    by_cases e : i = q
    · rw [if_pos e, e, yput_s]
    · rw [if_neg e, yput_o (by omega), yput_o (by omega)]
  have e3 : ∀ i, 72 ≤ i → yput (yput b q 0) (36 + q) (s + 1) i = b i := fun i hi => by
    rw [yput_o (by omega), yput_o (by omega)]
  have hdrop : ∀ (X : Nat → Bool) (w : Int64), ySW w (fun i => X (b i)) → X 0 = false → ySW (w &&& (W ^^^ (-1))) (fun i => X (yput (yput b q 0) (36 + q) (s + 1) i)) := fun X w hw x0 => by
    refine ySW_c (ySW_dif hw hW) (fun i hi => ?_)
    rw [e1 i hi]
    by_cases e : i = q
    · rw [if_pos e, decide_eq_true e, x0]; simp
    · rw [if_neg e, decide_eq_false e]; simp
  refine ⟨fun s' hs' => ?_, fun s' hs' => ?_, fun s' hs' => ?_, fun k hk => ?_, ?_, ?_, ?_, ?_, ?_⟩
  · rw [hf s' (by omega), if_neg (by omega), if_neg (by omega)]
    refine ySW_c (h.1 s' hs') (fun i hi => ?_)
    unfold ypc
    rw [e1 i hi]
    by_cases e : i = q
    · rw [if_pos e, e, h2q.1]; rfl
    · rw [if_neg e]
  · rw [hf (2 + s') (by omega), if_neg (by omega)]
    by_cases e : s' = s
    · rw [if_pos (by omega), e]
      refine ySW_c (ySW_or (h.2.1 s hs) hW) (fun i hi => ?_)
      rw [e2 i hi]
      by_cases e : i = q
      · rw [if_pos e, decide_eq_true e, decide_eq_true rfl, Bool.or_true]
      · rw [if_neg e, decide_eq_false e, Bool.or_false]
    · rw [if_neg (by omega)]
      refine ySW_c (h.2.1 s' hs') (fun i hi => ?_)
      rw [e2 i hi]
      by_cases e4 : i = q
      · rw [if_pos e4, e4, hdq, decide_eq_false (show ¬ 0 = s' + 1 by omega), decide_eq_false (show ¬ s + 1 = s' + 1 by omega)]
      · rw [if_neg e4]
  · rw [hf (4 + s') (by omega), if_pos (by omega)]
    exact hdrop (fun c => decide (ymd c = s')) _ (h.2.2.1 s' hs') (decide_eq_false (show ¬ ymd 0 = s' by rcases (show s' = 0 ∨ s' = 1 by omega) with rfl | rfl <;> decide))
  · rw [hf (6 + k) (by omega), if_pos (by omega)]
    exact hdrop (fun c => decide (ykk c = k)) _ (h.2.2.2.1 k hk) (decide_eq_false (show ¬ ykk 0 = k from fun z => absurd (z.symm.trans (show ykk 0 = 9 by decide)) (by omega)))
  · rw [hf 10 (by omega), if_pos (Or.inl rfl)]
    exact hdrop ywl _ (y_walls h) (by decide)
  · rw [hf 11 (by omega), if_neg (by omega), if_neg (by omega), e3 72 (by omega)]; exact h.2.2.2.2.2.1
  · rw [hf 12 (by omega), if_neg (by omega), if_neg (by omega), e3 73 (by omega)]; exact h.2.2.2.2.2.2.1
  · rw [hf 13 (by omega), if_neg (by omega), if_neg (by omega), e3 74 (by omega)]; exact h.2.2.2.2.2.2.2.1
  · rw [hf 14 (by omega), if_neg (by omega), if_neg (by omega), e3 75 (by omega)]; exact h.2.2.2.2.2.2.2.2
theorem y_b20 : ∀ c, c < 29 → 20 ≤ c → ymd (c - 20) = 2 ∧ ykk (c - 20) = ykk c ∧ ywl (c - 20) = false ∧ ysd (c - 20) = ymd c := by decide +kernel
theorem yP_b0 {f f1 : Nat → Int64} {b : Nat → Nat} (h : yP f b) (hv : yV b) {q s : Nat} (hq : q < 36) (hs : s ≤ 1) (hw : 20 ≤ b q) (hm : ymd (b q) = s) {W : Int64} (hW : ySW W (fun i => decide (i = q)))
    (hf : ∀ j, j < 15 → f1 j = if j = 10 ∨ j = 4 + s then f j &&& (W ^^^ (-1)) else if j = s then f j ||| W else f j) : yP f1 (yput b q (b q - 20)) := by
  have hc28 := yV_28 hv hq
  have h2q := y_code4 (b q) (by omega) hw
  obtain ⟨c1, c2, c3, c4⟩ := y_b20 (b q) (by omega) hw
  have e1 : ∀ i, yput b q (b q - 20) i = if i = q then b q - 20 else b i := fun i => rfl
  have e3 : ∀ i, 36 ≤ i → yput b q (b q - 20) i = b i := fun i hi => yput_o (by omega)
  refine ⟨fun s' hs' => ?_, fun s' hs' => ?_, fun s' hs' => ?_, fun k hk => ?_, ?_, ?_, ?_, ?_, ?_⟩
  · rw [hf s' (by omega), if_neg (by omega)]
    by_cases e : s' = s
    · rw [if_pos e, e]
      refine ySW_c (ySW_or (h.1 s hs) hW) (fun i hi => ?_)
      unfold ypc
      rw [e1 i]
      by_cases e : i = q
      · rw [if_pos e, decide_eq_true e, c4, decide_eq_true hm, Bool.or_true]
      · rw [if_neg e, decide_eq_false e, Bool.or_false]
    · rw [if_neg e]
      refine ySW_c (h.1 s' hs') (fun i hi => ?_)
      unfold ypc
      rw [e1 i]
      by_cases e4 : i = q
      · rw [if_pos e4, e4, c4, hm, h2q.1, decide_eq_false (show ¬ 2 = s' by omega), decide_eq_false (fun z => e z.symm)]
      · rw [if_neg e4]
  · rw [hf (2 + s') (by omega), if_neg (by omega), if_neg (by omega)]
    exact ySW_c (h.2.1 s' hs') (fun i hi => by rw [e3 (36 + i) (by omega)])
  · by_cases e : s' = s
    · rw [hf (4 + s') (by omega), if_pos (by omega), e]
      refine ySW_c (ySW_dif (h.2.2.1 s hs) hW) (fun i hi => ?_)
      rw [e1 i]
      by_cases e : i = q
      · rw [if_pos e, decide_eq_true e, c1, decide_eq_false (show ¬ 2 = s by omega)]; simp
      · rw [if_neg e, decide_eq_false e]; simp
    · rw [hf (4 + s') (by omega), if_neg (by omega), if_neg (by omega)]
      refine ySW_c (h.2.2.1 s' hs') (fun i hi => ?_)
      rw [e1 i]
      by_cases e4 : i = q
      · rw [if_pos e4, e4, c1, hm, decide_eq_false (show ¬ 2 = s' by omega), decide_eq_false (fun z => e z.symm)]
      · rw [if_neg e4]
  · rw [hf (6 + k) (by omega), if_neg (by omega), if_neg (by omega)]
    refine ySW_c (h.2.2.2.1 k hk) (fun i hi => ?_)
    rw [e1 i]
    by_cases e4 : i = q
    · rw [if_pos e4, e4, c2]
    · rw [if_neg e4]
  · rw [hf 10 (by omega), if_pos (Or.inl rfl)]
    refine ySW_c (ySW_dif (y_walls h) hW) (fun i hi => ?_)
    rw [e1 i]
    by_cases e : i = q
    · rw [if_pos e, decide_eq_true e, c3]; simp
    · rw [if_neg e, decide_eq_false e]; simp
  · rw [hf 11 (by omega), if_neg (by omega), if_neg (by omega), e3 72 (by omega)]; exact h.2.2.2.2.2.1
  · rw [hf 12 (by omega), if_neg (by omega), if_neg (by omega), e3 73 (by omega)]; exact h.2.2.2.2.2.2.1
  · rw [hf 13 (by omega), if_neg (by omega), if_neg (by omega), e3 74 (by omega)]; exact h.2.2.2.2.2.2.2.1
  · rw [hf 14 (by omega), if_neg (by omega), if_neg (by omega), e3 75 (by omega)]; exact h.2.2.2.2.2.2.2.2

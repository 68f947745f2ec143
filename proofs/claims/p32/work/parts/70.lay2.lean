/-! PURE 30: wall and lay as calls -/
theorem yP_wall {f : Nat → Int64} {b : Nat → Nat} (h : yP f b) {q : Nat} (hq : q < 36) (h0 : b q = 0) {T : Int64} (hT : ySW T (fun i => decide (i = q))) : yP (yinc f T 10) (yput b q 20) := by
  have hf : ∀ j, j ≠ 10 → yinc f T 10 j = f j := fun j hj => if_neg hj
  have hkeep : ∀ (X : Nat → Bool) (w : Int64), ySW w (fun i => X (b i)) → X 0 = X 20 → ySW w (fun i => X (yput b q 20 i)) := fun X w hw x0 => by
    refine ySW_c hw (fun i hi => ?_)
    unfold yput
    by_cases e : i = q
    · rw [if_pos e, e, h0, x0]
    · rw [if_neg e]
  have hd : ∀ j, 36 ≤ j → yput b q 20 j = b j := fun j hj => yput_o (by omega)
  refine ⟨fun s hs => ?_, fun s hs => ?_, fun s hs => ?_, fun k hk => ?_, ?_, ?_, ?_, ?_, ?_⟩
  · rw [hf s (by omega)]
    exact hkeep (fun c => decide (ysd c = s)) _ (h.1 s hs) (by show decide (ysd 0 = s) = decide (ysd 20 = s); rw [show ysd 0 = ysd 20 by decide])
  · rw [hf _ (by omega)]
    exact ySW_c (h.2.1 s hs) (fun i hi => by rw [hd (36 + i) (by omega)])
  · rw [hf _ (by omega)]
    exact hkeep (fun c => decide (ymd c = s)) _ (h.2.2.1 s hs) (by show decide (ymd 0 = s) = decide (ymd 20 = s); rw [show ymd 0 = ymd 20 by decide])
  · rw [hf _ (by omega)]
    exact hkeep (fun c => decide (ykk c = k)) _ (h.2.2.2.1 k hk) (by show decide (ykk 0 = k) = decide (ykk 20 = k); rw [show ykk 0 = ykk 20 by decide])
  · show ySW (f 10 ||| T) _
    refine ySW_c (ySW_or (y_walls h) hT) (fun i hi => ?_)
    unfold yput
    by_cases e : i = q
    · rw [if_pos e, decide_eq_true e, Bool.or_true]; rfl
    · rw [if_neg e, decide_eq_false e, Bool.or_false]
  · rw [hf 11 (by omega), hd 72 (by omega)]; exact h.2.2.2.2.2.1
  · rw [hf 12 (by omega), hd 73 (by omega)]; exact h.2.2.2.2.2.2.1
  · rw [hf 13 (by omega), hd 74 (by omega)]; exact h.2.2.2.2.2.2.2.1
  · rw [hf 14 (by omega), hd 75 (by omega)]; exact h.2.2.2.2.2.2.2.2

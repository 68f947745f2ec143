/-! PURE 30: wall and lay as calls -/
theorem yP_wall {f : Nat → Int64} {b : Nat → Nat} (h : yP f b) {q : Nat} (hq : q < 36) (h0 : b q = 0) {T : Int64} (hT : ySW T (fun i => decide (i = q))) : yP (yinc f T 10) (yput b q 20) := by
  have hf : ∀ j, j ≠ 10 → yinc f T 10 j = f j := fun j hj => if_neg hj
  have hkeep : ∀ (X : Nat → Bool) (w : Int64), ySW w (fun i => X (b i)) → X 0 = X 20 → ySW w (fun i => X (yput b q 20 i)) := fun X w hw x0 => by
    refine ySW_c hw (fun i hi => ?_)
    unfold yput
    by_cases e : i = q
    · rw [if_pos e, e, h0, x0]
    · rw [if_neg e]
  have hd : ∀ j, 36 ≤ j → yput b q 20 j = b j := fun j hj => yput_o (by omega)
  refine ⟨fun s hs => ?_, fun s hs => ?_, fun s hs => ?_, fun k hk => ?_, ?_, ?_, ?_, ?_, ?_⟩
  · rw [hf s (by omega)]
    exact hkeep (fun c => decide (ysd c = s)) _ (h.1 s hs) (by show decide (ysd 0 = s) = decide (ysd 20 = s); rw [show ysd 0 = ysd 20 by decide])
  · rw [hf _ (by omega)]
    exact ySW_c (h.2.1 s hs) (fun i hi => by rw [hd (36 + i) (by omega)])
  · rw [hf _ (by omega)]
    exact hkeep (fun c => decide (ymd c = s)) _ (h.2.2.1 s hs) (by show decide (ymd 0 = s) = decide (ymd 20 = s); rw [show ymd 0 = ymd 20 by decide])
  · rw [hf _ (by omega)]
    exact hkeep (fun c => decide (ykk c = k)) _ (h.2.2.2.1 k hk) (by show decide (ykk 0 = k) = decide (ykk 20 = k); rw [show ykk 0 = ykk 20 by decide])
  · show ySW (f 10 ||| T) _
    refine ySW_c (ySW_or (y_walls h) hT) (fun i hi => ?_)
    unfold yput
    by_cases e : i = q
    · rw [if_pos e, decide_eq_true e, Bool.or_true]; rfl
    · rw [if_neg e, decide_eq_false e, Bool.or_false]
  · rw [hf 11 (by omega), hd 72 (by omega)]; exact h.2.2.2.2.2.1
  · rw [hf 12 (by omega), hd 73 (by omega)]; exact h.2.2.2.2.2.2.1
  · rw [hf 13 (by omega), hd 74 (by omega)]; exact h.2.2.2.2.2.2.2.1
  · rw [hf 14 (by omega), hd 75 (by omega)]; exact h.2.2.2.2.2.2.2.2
theorem q_wall {rws : Nat → Int64} {nx ct kept : Int32} {hist : Nat → Nat → Int32} {fb : Nat → Int64} {now : Nat → Int32} {b : Nat → Nat} (h : yH rws nx ct hist kept) (hP : yP fb b) (hN : yN now b) (hV : yV2 b) (thrown : Int32) (p1 : Int32) :
    ∃ (o : Nat) (t x y nx' ct' : Int32) (fb' rws' : Nat → Int64) (now' : Nat → Int32) (hist' : Nat → Nat → Int32) (b' : Nat → Nat), fX4_wall fb rws nx ct p1 = some (o, x, fb', rws', nx', ct') ∧ fX5_wall thrown now hist kept p1 = some (y, t, now', hist', ct') ∧
      ((o = 0 ∧ t = 0 ∧ x = y) ∨ (o = 1 ∧ t = 1) ∨ (o = 3 ∧ t = 2)) ∧ yH rws' nx' ct' hist' ct' ∧ yP fb' b' ∧ yN now' b' ∧ yV2 b' := by
  have hct : ct = kept := by
    obtain ⟨x, c, B, _, _, _, e1, e2, _⟩ := h
    rw [e1, e2]
  subst hct
  unfold fX4_wall fX5_wall
  rcases y_sq p1 with ⟨q, hq, rfl, e1, e2⟩ | ⟨e1, e2⟩
  · rw [e1, e2, zbd_S, zbd_S, if_pos rfl, if_neg (show ¬ (1 : Int32) = 0 by decide)]
    unfold fX5_wall_14
    rw [m_fails0, zbd_S]
    dsimp only
    rw [if_pos (show (0 : Int32) = 0 from rfl)]
    rcases y_free_lay hP hN hV.1 hq with ⟨g1, g2, g3, g4, g5⟩ | ⟨g1, g2⟩
    · obtain ⟨rws', nx', ct', hist', r1, r2, r3⟩ := y_remember h hP hN hV
      obtain ⟨T, T1, T2⟩ := ySW_of hq
      have hP' := yP_wall hP hq g4 T2
      have hV' : yV2 (yput b q 20) := yV_lay hV hq g4 g5 (Or.inr rfl) (fun s hs e => by omega)
      have hN' : yN (upd now q 20) (yput b q 20) := yN_put hN q 20
      rw [g1, g2, zbd_S, zbd_S, if_pos rfl, m_fails0, zbd_S, r1, zbd_S, T1, zbd_S]
      unfold fX2_putWall
      rw [show (10 : Int32) = nI 10 from rfl, p_in _ (by omega), zbd_S, zbd_S, p_walls, zbd_S, y3size (y_walls hP'), zbd_S]
      dsimp only
      rw [if_pos (show (0 : Int32) = 0 from rfl), r2, zbd_S, zck_N (by omega) (by omega), tn_n (by omega), m_countWalls hN' hV'.1, zbd_S]
      exact ⟨_, _, _, _, _, _, _, _, _, _, _, rfl, rfl, Or.inl ⟨rfl, rfl, rfl⟩, r3, hP', hN', hV'⟩
    · rw [g1, g2, zbd_S, zbd_S, if_neg (by decide), m_fails1, zbd_S]
      exact ⟨_, _, _, _, _, _, _, _, _, _, b, rfl, rfl, Or.inr (Or.inr ⟨rfl, rfl⟩), h, hP, hN, hV⟩
  · rw [e1, e2, zbd_S, zbd_S, if_neg (by decide), if_pos rfl]
    exact ⟨_, _, _, _, _, _, _, _, _, _, b, rfl, rfl, Or.inr (Or.inl ⟨rfl, rfl⟩), h, hP, hN, hV⟩

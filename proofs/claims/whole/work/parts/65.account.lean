/-! PURE 25: accounts -/
theorem q_account {f : Nat → Int64} {now : Nat → Int32} {b : Nat → Nat} (hP : yP f b) (hN : yN now b) (hv : yV b) (thrown ct ln p : Int32) :
    ∃ (x y : Int32) (o : Nat) (t : Int32), fX4_account f ct ln p = some (o, x) ∧ fX5_account thrown now ct ln p = some (y, t) ∧ ((o = 0 ∧ t = 0 ∧ x = y) ∨ (o = 2 ∧ t = 1)) := by
  unfold fX4_account fX5_account
  rcases y_between p 10 (by omega) with ⟨m, hm, rfl⟩ | hout
  · rw [if_neg (nI_pos (by omega)), if_pos (show nI m < (11 : Int32) from nI_lt (b := 11) (by omega) (by omega)), show fX5_isBetween (nI m) 0 10 = some 1 from y_btw1 (lo := 0) (hi := 10) (by omega) hm (by omega), zbd_S, if_neg (show ¬ (1 : Int32) = 0 by decide)]
    unfold fX5_account_17
    rw [m_fails0, zbd_S]
    dsimp only
    rw [if_pos (show (0 : Int32) = 0 from rfl)]
    have hdd : fb_ct (fun q => decide (b (36 + q) = 1) || decide (b (36 + q) = 2)) 36 = fb_ct (fun q => decide (b (36 + q) ≠ 0)) 36 := fb_ct_cong (fun q hq => by
      have := hv.2.1 q hq
      rcases (show b (36 + q) = 0 ∨ b (36 + q) = 1 ∨ b (36 + q) = 2 by omega) with e | e | e <;> rw [e] <;> rfl)
    have fin : ∀ x : Int32, ∃ (x' y : Int32) (o : Nat) (t : Int32), some ((0 : Nat), x) = some (o, x') ∧ some (x, (0 : Int32)) = some (y, t) ∧ ((o = 0 ∧ t = 0 ∧ x' = y) ∨ (o = 2 ∧ t = 1)) := fun x => ⟨x, x, 0, 0, rfl, rfl, Or.inl ⟨rfl, rfl, rfl⟩⟩
    rcases (show m = 0 ∨ m = 1 ∨ m = 2 ∨ m = 3 ∨ m = 4 ∨ m = 5 ∨ m = 6 ∨ m = 7 ∨ m = 8 ∨ m = 9 ∨ m = 10 by omega) with rfl | rfl | rfl | rfl | rfl | rfl | rfl | rfl | rfl | rfl | rfl
    · have e1 : ∀ (X Y : Option (Nat × Int32)), (if nI 0 = (0 : Int32) then X else Y) = X := fun X Y => if_pos rfl
      have e2 : ∀ (X Y : Option (Int32 × Int32)), (if nI 0 = (0 : Int32) then X else Y) = X := fun X Y => if_pos rfl
      rw [e1, e2, p_pieces f (by omega), zbd_S, y3size (hP.1 0 (by omega)), zbd_S, m_countPieces hN hv (by omega), zbd_S]
      exact fin _
    · simp only [show ¬ nI 1 = (0 : Int32) by decide, show nI 1 = (1 : Int32) from rfl, if_true, if_false]
      rw [show (1 : Int32) = nI 1 from rfl, p_pieces f (by omega), zbd_S, y3size (hP.1 1 (by omega)), zbd_S, m_countPieces hN hv (by omega), zbd_S]
      exact fin _
    · simp only [show ¬ nI 2 = (0 : Int32) by decide, show ¬ nI 2 = (1 : Int32) by decide, show nI 2 = (2 : Int32) from rfl, if_true, if_false]
      rw [p_walls, zbd_S, y3size (y_walls hP), zbd_S, m_countWalls hN hv, zbd_S]
      exact fin _
    · simp only [show ¬ nI 3 = (0 : Int32) by decide, show ¬ nI 3 = (1 : Int32) by decide, show ¬ nI 3 = (2 : Int32) by decide, show nI 3 = (3 : Int32) from rfl, if_true, if_false]
      rw [p_allDoors, zbd_S, y3size (y_allDoors hP), zbd_S, m_countDoors hN hv, zbd_S, hdd]
      exact fin _
    · simp only [show ¬ nI 4 = (0 : Int32) by decide, show ¬ nI 4 = (1 : Int32) by decide, show ¬ nI 4 = (2 : Int32) by decide, show ¬ nI 4 = (3 : Int32) by decide, show nI 4 = (4 : Int32) from rfl, if_true, if_false]
      rw [show (4 : Int32) - 4 = nI 0 by decide, c_coins hP (show 0 ≤ 1 by omega), zbd_S, show (72 : Int32) + 4 - 4 = nI (72 + 0) by decide, zck_N (by omega) (by omega), tn_n (by omega), hN (72 + 0) (by omega)]
      exact fin _
    · simp only [show ¬ nI 5 = (0 : Int32) by decide, show ¬ nI 5 = (1 : Int32) by decide, show ¬ nI 5 = (2 : Int32) by decide, show ¬ nI 5 = (3 : Int32) by decide, show ¬ nI 5 = (4 : Int32) by decide, show nI 5 = (5 : Int32) from rfl, if_true, if_false]
      rw [show (5 : Int32) - 4 = nI 1 by decide, c_coins hP (show 1 ≤ 1 by omega), zbd_S, show (72 : Int32) + 5 - 4 = nI (72 + 1) by decide, zck_N (by omega) (by omega), tn_n (by omega), hN (72 + 1) (by omega)]
      exact fin _
    · simp only [show ¬ nI 6 = (0 : Int32) by decide, show ¬ nI 6 = (1 : Int32) by decide, show ¬ nI 6 = (2 : Int32) by decide, show ¬ nI 6 = (3 : Int32) by decide, show ¬ nI 6 = (4 : Int32) by decide, show ¬ nI 6 = (5 : Int32) by decide, show nI 6 = (6 : Int32) from rfl, if_true, if_false]
      rw [c_turns hP, zbd_S, zk_74, tn_74, hN 74 (by omega)]
      exact fin _
    · simp only [show ¬ nI 7 = (0 : Int32) by decide, show ¬ nI 7 = (1 : Int32) by decide, show ¬ nI 7 = (2 : Int32) by decide, show ¬ nI 7 = (3 : Int32) by decide, show ¬ nI 7 = (4 : Int32) by decide, show ¬ nI 7 = (5 : Int32) by decide, show ¬ nI 7 = (6 : Int32) by decide, show nI 7 = (7 : Int32) from rfl, if_true, if_false]
      rw [c_mover hP, zbd_S, m_turn hN hv, zbd_S]
      exact fin _
    · simp only [show ¬ nI 8 = (0 : Int32) by decide, show ¬ nI 8 = (1 : Int32) by decide, show ¬ nI 8 = (2 : Int32) by decide, show ¬ nI 8 = (3 : Int32) by decide, show ¬ nI 8 = (4 : Int32) by decide, show ¬ nI 8 = (5 : Int32) by decide, show ¬ nI 8 = (6 : Int32) by decide, show ¬ nI 8 = (7 : Int32) by decide, show nI 8 = (8 : Int32) from rfl, if_true, if_false]
      rw [c_ending hP, zbd_S, zk_75, tn_75, hN 75 (by omega)]
      exact fin _
    · simp only [show ¬ nI 9 = (0 : Int32) by decide, show ¬ nI 9 = (1 : Int32) by decide, show ¬ nI 9 = (2 : Int32) by decide, show ¬ nI 9 = (3 : Int32) by decide, show ¬ nI 9 = (4 : Int32) by decide, show ¬ nI 9 = (5 : Int32) by decide, show ¬ nI 9 = (6 : Int32) by decide, show ¬ nI 9 = (7 : Int32) by decide, show ¬ nI 9 = (8 : Int32) by decide, show nI 9 = (9 : Int32) from rfl, if_true, if_false]
      exact fin ln
    · simp only [show ¬ nI 10 = (0 : Int32) by decide, show ¬ nI 10 = (1 : Int32) by decide, show ¬ nI 10 = (2 : Int32) by decide, show ¬ nI 10 = (3 : Int32) by decide, show ¬ nI 10 = (4 : Int32) by decide, show ¬ nI 10 = (5 : Int32) by decide, show ¬ nI 10 = (6 : Int32) by decide, show ¬ nI 10 = (7 : Int32) by decide, show ¬ nI 10 = (8 : Int32) by decide, show ¬ nI 10 = (9 : Int32) by decide, if_false]
      exact fin ct
  · rw [show fX5_isBetween p 0 10 = some 0 from y_btw hout, zbd_S, if_pos rfl]
    by_cases g : p < 0
    · rw [if_pos g]
      exact ⟨_, _, _, _, rfl, rfl, Or.inr ⟨rfl, rfl⟩⟩
    · have h35 := Int32.lt_iff_toInt_lt.mp (hout.resolve_left g)
      have e35 : (nI 10).toInt = 10 := by decide
      have e36 : (11 : Int32).toInt = 11 := by decide
      rw [if_neg g, if_neg (fun z => by have := Int32.lt_iff_toInt_lt.mp z; omega)]
      exact ⟨_, _, _, _, rfl, rfl, Or.inr ⟨rfl, rfl⟩⟩

/-! PURE 33: worth as a call -/
theorem q_worth {fb ft : Nat → Int64} {now : Nat → Int32} {b : Nat → Nat} (hP : yP fb b) (hN : yN now b) (hv : yV b) (thrown : Int32) (comes queue far ahead roomAt : Nat → Int32) (rooms p1 p2 : Int32) :
    ∃ (o : Nat) (t x y r' : Int32) (ft' : Nat → Int64) (now' c' q' f' a' ra' : Nat → Int32), fX4_worth fb ft p1 p2 = some (o, x, ft') ∧ fX5_worth thrown now comes queue far ahead roomAt rooms p1 p2 = some (y, t, now', c', q', f', a', ra', r') ∧ ((o = 0 ∧ t = 0 ∧ x = y) ∨ (o = 1 ∧ t = 1) ∨ (o = 5 ∧ t = 2)) ∧ yN now' b := by
  have hms : b 74 % 2 ≤ 1 := by omega
  unfold fX4_worth fX5_worth
  rcases y_sq p1 with ⟨p, hp, rfl, e1, e2⟩ | ⟨e1, e2⟩
  · rw [e1, e2, zbd_S, zbd_S, if_pos rfl, if_neg (show ¬ (1 : Int32) = 0 by decide)]
    rcases y_sq p2 with ⟨t, ht, rfl, g1, g2⟩ | ⟨g1, g2⟩
    · have hc28 := yV_28 hv hp
      rw [g1, g2, zbd_S, zbd_S, if_pos rfl, if_neg (show ¬ (1 : Int32) = 0 by decide), c_mover hP, zbd_S, p_pieces fb hms, zbd_S, yhas (hP.1 _ hms) hp, zbd_S]
      unfold fX5_worth_21
      rw [m_fails0, zbd_S]
      dsimp only
      rw [if_pos (show (0 : Int32) = 0 from rfl), zck_N (by omega) (by omega), tn_n (by omega), hN p (by omega), m_sideOf _ (by omega), zbd_S, m_turn hN hv, zbd_S]
      unfold fX5_worth_54 fX5_worth_59
      unfold ypc
      by_cases gm : ysd (b p) = b 74 % 2
      · obtain ⟨c', q', f', d1⟩ := m_can hN hv hp ht comes queue far
        rw [decide_eq_true gm, yb_t, if_neg (show ¬ (1 : Int32) = 0 by decide), c_reqTarget hP hv hp ht (by omega), zbd_S, if_pos ((yI_sd hms).mpr gm), d1, zbd_S]
        dsimp only
        cases gt : yTg b p t with
        | false =>
          rw [if_neg ynft, if_neg (by decide), yb_f, if_pos rfl, m_fails1, zbd_S]
          exact ⟨_, _, _, _, _, _, _, _, _, _, _, _, rfl, rfl, Or.inr (Or.inr ⟨rfl, rfl⟩), hN⟩
        | true =>
          obtain ⟨x, w, w1, w2, w3, w4⟩ := q_worthOf (ft := ft) hP hN hv hp ht gm gt queue ahead roomAt rooms
          obtain ⟨ft', z1⟩ := w3 ft
          obtain ⟨now', q2, a2, ra2, r2, y1, y2⟩ := w4 now q' ahead roomAt rooms hN
          rw [if_pos rfl, if_pos rfl, z1, zbd_S, yb_t, if_neg (show ¬ (1 : Int32) = 0 by decide), m_fails0, zbd_S]
          dsimp only
          rw [if_pos (show (0 : Int32) = 0 from rfl), y1, zbd_S]
          exact ⟨_, _, _, _, _, _, _, _, _, _, _, _, rfl, rfl, Or.inl ⟨rfl, rfl, rfl⟩, y2⟩
      · rw [decide_eq_false gm, yb_f, if_pos rfl, if_neg (fun z => gm ((yI_sd hms).mp z)), m_fails1, zbd_S]
        exact ⟨_, _, _, _, _, _, _, _, _, _, _, _, rfl, rfl, Or.inr (Or.inr ⟨rfl, rfl⟩), hN⟩
    · rw [g1, g2, zbd_S, zbd_S, if_neg (by decide), if_pos rfl]
      exact ⟨_, _, _, _, _, _, _, _, _, _, _, _, rfl, rfl, Or.inr (Or.inl ⟨rfl, rfl⟩), hN⟩
  · rw [e1, e2, zbd_S, zbd_S, if_neg (by decide), if_pos rfl]
    exact ⟨_, _, _, _, _, _, _, _, _, _, _, _, rfl, rfl, Or.inr (Or.inl ⟨rfl, rfl⟩), hN⟩

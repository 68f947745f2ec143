/-! PURE 23: more questions -/
theorem c_reqPiece {f : Nat → Int64} {b : Nat → Nat} (hP : yP f b) (hv : yV b) {q : Nat} (hq : q < 36) : fX4_requirePiece f (nI q) = some (if ysd (b q) ≤ 1 then 0 else 5) := by
  have hc28 := yV_28 hv hq
  have h2 := ysd_le (b q) (by omega)
  unfold fX4_requirePiece
  rw [c_whatOn hP hq, zbd_S]
  unfold ywh ypc
  by_cases g : ysd (b q) ≤ 1
  · rw [if_pos g, if_pos (show (decide (ysd (b q) = 0) || decide (ysd (b q) = 1)) = true by rcases (show ysd (b q) = 0 ∨ ysd (b q) = 1 by omega) with e | e <;> rw [e] <;> rfl), if_pos (show nI 1 = (1 : Int32) from rfl)]
  · rw [if_neg g, if_neg (show ¬ (decide (ysd (b q) = 0) || decide (ysd (b q) = 1)) = true by rw [show ysd (b q) = 2 by omega]; decide)]
    split
    · rfl
    · split <;> rfl
theorem m_lacks {now : Nat → Int32} {b : Nat → Nat} (hN : yN now b) (hv : yV b) {q : Nat} (hq : q < 36) : fX5_lacksPiece now (nI q) = some (if ysd (b q) ≤ 1 then 0 else 1) := by
  have hc28 := yV_28 hv hq
  unfold fX5_lacksPiece
  rw [zck_N (by omega) (by omega), tn_n (by omega), hN q (by omega), m_sideOf _ (by omega), zbd_S]
  by_cases g : ysd (b q) ≤ 1
  · rw [yI_lt g, if_pos (nI_pos' (by omega)), if_pos g]
  · rw [yI_ge g, if_neg (show ¬ (0 : Int32) ≤ -1 by decide), if_neg g]
theorem q_canMove {f : Nat → Int64} {now : Nat → Int32} {b : Nat → Nat} (hP : yP f b) (hN : yN now b) (hv : yV b) (thrown : Int32) (comes queue far : Nat → Int32) (p1 p2 : Int32) :
    ∃ (x y : Int32) (o : Nat) (t : Int32) (c' q' f' : Nat → Int32), fX4_canMove f p1 p2 = some (o, x) ∧ fX5_canMove thrown now comes queue far p1 p2 = some (y, t, c', q', f') ∧ ((o = 0 ∧ t = 0 ∧ x = y ∧ ∃ c : Bool, y = yb c) ∨ (o = 1 ∧ t = 1) ∨ (o = 5 ∧ t = 2)) := by
  unfold fX4_canMove fX5_canMove
  rcases y_sq p1 with ⟨p, hp, rfl, e1, e2⟩ | ⟨e1, e2⟩
  · rw [e1, e2, zbd_S, zbd_S, if_pos rfl, if_neg (show ¬ (1 : Int32) = 0 by decide)]
    rcases y_sq p2 with ⟨q, hq, rfl, g1, g2⟩ | ⟨g1, g2⟩
    · rw [g1, g2, zbd_S, zbd_S, if_pos rfl, if_neg (show ¬ (1 : Int32) = 0 by decide), c_reqPiece hP hv hp, zbd_S]
      unfold fX5_canMove_21
      rw [m_fails0, zbd_S]
      dsimp only
      rw [if_pos (show (0 : Int32) = 0 from rfl), m_lacks hN hv hp, zbd_S]
      by_cases g : ysd (b p) ≤ 1
      · obtain ⟨w, w1, w2⟩ := c_targets hP hv hp g
        obtain ⟨c', q', f', d1⟩ := m_can hN hv hp hq comes queue far
        rw [if_pos g, if_pos g, if_pos rfl, w1, zbd_S, yhas w2 hq, zbd_S, zbo_b, m_fails0, zbd_S]
        dsimp only
        rw [if_pos (show (0 : Int32) = 0 from rfl), d1, zbd_S]
        dsimp only
        rw [zbo_b]
        exact ⟨_, _, _, _, _, _, _, rfl, rfl, Or.inl ⟨rfl, rfl, rfl, _, rfl⟩⟩
      · rw [if_neg g, if_neg g, if_neg (by decide), m_fails1, zbd_S]
        exact ⟨_, _, _, _, _, _, _, rfl, rfl, Or.inr (Or.inr ⟨rfl, rfl⟩)⟩
    · rw [g1, g2, zbd_S, zbd_S, if_neg (by decide), if_pos rfl]
      exact ⟨_, _, _, _, _, _, _, rfl, rfl, Or.inr (Or.inl ⟨rfl, rfl⟩)⟩
  · rw [e1, e2, zbd_S, zbd_S, if_neg (by decide), if_pos rfl]
    exact ⟨_, _, _, _, _, _, _, rfl, rfl, Or.inr (Or.inl ⟨rfl, rfl⟩)⟩
theorem q_moves {f : Nat → Int64} {now : Nat → Int32} {b : Nat → Nat} (hP : yP f b) (hN : yN now b) (hv : yV b) (thrown : Int32) (comes queue far : Nat → Int32) (p1 : Int32) :
    ∃ (x y : Int32) (o : Nat) (t : Int32) (c' q' f' : Nat → Int32), fX4_moves f p1 = some (o, x) ∧ fX5_moves thrown now comes queue far p1 = some (y, t, c', q', f') ∧ ((o = 0 ∧ t = 0 ∧ x = y) ∨ (o = 1 ∧ t = 1) ∨ (o = 5 ∧ t = 2)) := by
  unfold fX4_moves fX5_moves
  rcases y_sq p1 with ⟨p, hp, rfl, e1, e2⟩ | ⟨e1, e2⟩
  · rw [e1, e2, zbd_S, zbd_S, if_pos rfl, if_neg (show ¬ (1 : Int32) = 0 by decide), c_reqPiece hP hv hp, zbd_S]
    unfold fX5_moves_14
    rw [m_fails0, zbd_S]
    dsimp only
    rw [if_pos (show (0 : Int32) = 0 from rfl), m_lacks hN hv hp, zbd_S]
    by_cases g : ysd (b p) ≤ 1
    · obtain ⟨w, w1, w2⟩ := c_targets hP hv hp g
      obtain ⟨c', q', f', d1⟩ := m_countMoves hN hv hp comes queue far
      rw [if_pos g, if_pos g, if_pos rfl, w1, zbd_S, y3size w2, zbd_S, m_fails0, zbd_S]
      dsimp only
      rw [if_pos (show (0 : Int32) = 0 from rfl), d1, zbd_S]
      exact ⟨_, _, _, _, _, _, _, rfl, rfl, Or.inl ⟨rfl, rfl, rfl⟩⟩
    · rw [if_neg g, if_neg g, if_neg (by decide), m_fails1, zbd_S]
      exact ⟨_, _, _, _, _, _, _, rfl, rfl, Or.inr (Or.inr ⟨rfl, rfl⟩)⟩
  · rw [e1, e2, zbd_S, zbd_S, if_neg (by decide), if_pos rfl]
    exact ⟨_, _, _, _, _, _, _, rfl, rfl, Or.inr (Or.inl ⟨rfl, rfl⟩)⟩
theorem q_room {f : Nat → Int64} {now : Nat → Int32} {b : Nat → Nat} (hP : yP f b) (hN : yN now b) (hv : yV b) (thrown : Int32) (queue roomAt : Nat → Int32) (rooms p1 p2 : Int32) :
    ∃ (x y : Int32) (o : Nat) (t : Int32) (q' ra' : Nat → Int32) (r' : Int32), fX4_room f p1 p2 = some (o, x) ∧ fX5_room thrown now queue roomAt rooms p1 p2 = some (y, t, q', ra', r') ∧ ((o = 0 ∧ t = 0 ∧ x = y) ∨ (o = 1 ∧ t = 1) ∨ (o = 5 ∧ t = 2)) := by
  unfold fX4_room fX5_room
  rcases y_sd p1 with ⟨s, hs, rfl, e1, e2⟩ | ⟨e1, e2⟩
  · rw [e1, e2, zbd_S, zbd_S, if_pos rfl, if_neg (show ¬ (1 : Int32) = 0 by decide)]
    rcases y_sq p2 with ⟨q, hq, rfl, g1, g2⟩ | ⟨g1, g2⟩
    · rw [g1, g2, zbd_S, zbd_S, if_pos rfl, if_neg (show ¬ (1 : Int32) = 0 by decide)]
      unfold fX5_room_21
      rw [m_fails0, zbd_S]
      dsimp only
      rw [if_pos (show (0 : Int32) = 0 from rfl), m_isOpen hN hv hs hq, zbd_S]
      unfold fX5_room_43
      cases ho : yop b s q with
      | false =>
        rw [c_roomNumberOf0 hP hs hq ho, zbd_S, if_pos rfl, yb_f, if_pos rfl, m_fails1, zbd_S]
        exact ⟨_, _, _, _, _, _, _, rfl, rfl, Or.inr (Or.inr ⟨rfl, rfl⟩)⟩
      | true =>
        obtain ⟨q', ra', r, d1, d2, d3⟩ := m_findRooms hN hv hs queue roomAt rooms
        obtain ⟨m, m1, m2, m3⟩ := d3.1 q hq (d2.2 q hq) ho
        have h36 := yNr_36 d2
        have hn1 : ∀ q, q < 36 → ¬ nI q = -1 := by decide +kernel
        rw [c_roomNumberOf hP hs hq d2 m1 m3, zbd_S, if_neg (hn1 m (by omega)), yb_t, if_neg (show ¬ (1 : Int32) = 0 by decide), m_fails0, zbd_S]
        dsimp only
        rw [if_pos (show (0 : Int32) = 0 from rfl), d1, zbd_S]
        dsimp only
        rw [zck_N hq (by omega), tn_n (by omega), m2]
        exact ⟨_, _, _, _, _, _, _, rfl, rfl, Or.inl ⟨rfl, rfl, rfl⟩⟩
    · rw [g1, g2, zbd_S, zbd_S, if_neg (by decide), if_pos rfl]
      exact ⟨_, _, _, _, _, _, _, rfl, rfl, Or.inr (Or.inl ⟨rfl, rfl⟩)⟩
  · rw [e1, e2, zbd_S, zbd_S, if_neg (by decide), if_pos rfl]
    exact ⟨_, _, _, _, _, _, _, rfl, rfl, Or.inr (Or.inl ⟨rfl, rfl⟩)⟩

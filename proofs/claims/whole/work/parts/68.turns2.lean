/-! PURE 28: door and buy as calls -/
theorem q_door {rws : Nat → Int64} {nx ct kept kR reason detail : Int32} {hist : Nat → Nat → Int32} {fb : Nat → Int64} {now : Nat → Int32} {b : Nat → Nat} (h : yH rws nx ct hist kept) (hP : yP fb b) (hN : yN now b) (hV : yV2 b) (hK : yK kR reason detail) (thrown : Int32) (comes queue far : Nat → Int32) (p1 : Int32) :
    ∃ (o : Nat) (t x y kR' nx' ct' reason' detail' : Int32) (fb' rws' : Nat → Int64) (now' c' q' f' : Nat → Int32) (hist' : Nat → Nat → Int32) (b' : Nat → Nat), fX4_door kR fb rws nx ct p1 = some (o, x, kR', fb', rws', nx', ct') ∧ fX5_door thrown now hist kept reason detail comes queue far 0 p1 = some (y, t, now', hist', ct', reason', detail', c', q', f') ∧
      ((o = 0 ∧ t = 0 ∧ x = y) ∨ (o = 1 ∧ t = 1) ∨ (o = 4 ∧ t = 2)) ∧ yH rws' nx' ct' hist' ct' ∧ yP fb' b' ∧ yN now' b' ∧ yV2 b' ∧ yK kR' reason' detail' := by
  have hct : ct = kept := by
    obtain ⟨x, c, B, _, _, _, e1, e2, _⟩ := h
    rw [e1, e2]
  subst hct
  unfold fX4_door
  rcases y_sq p1 with ⟨q, hq, rfl, e1, e2⟩ | ⟨e1, e2⟩
  · obtain ⟨rws', nx', ct', hist', r1, r2, r3⟩ := y_remember h hP hN hV
    have hch : fX5_change now hist ct 0 = some (hist', ct') := by
      unfold fX5_change
      rw [if_pos rfl, r2, zbd_S]
    obtain ⟨mA, mB⟩ := m_door hN hV hq thrown reason detail comes queue far hch
    obtain ⟨y1, y2, y3⟩ := ypr_b hV.1 hq false
    rw [e2, zbd_S, if_pos rfl, show (0 : Int32) = yb false from rfl, c_purRef hP hV.1 hq false, zbd_S]
    unfold fX4_requireTaken
    by_cases g : (ypr b q false).1 = 0
    · obtain ⟨n', c', q', f', m1, m2⟩ := mB g
      obtain ⟨k1, k2, k3⟩ := y_pr0f g
      obtain ⟨f2, z1, z2⟩ := c_takeDoor hP hV hq k2 k3 (hV.2.1 k1)
      rw [g, y3 g, show nI (100 * 0 + 0) = (0 : Int32) from rfl, if_pos (show (0 : Int32) = 0 from rfl), zbd_S]
      dsimp only
      rw [if_pos rfl, r1, zbd_S, z1, zbd_S]
      exact ⟨_, _, _, _, _, _, _, _, _, _, _, _, _, _, _, _, _, rfl, m1, Or.inl ⟨rfl, rfl, rfl⟩, r3, z2, m2, (yV_db hV hq (hV.2.1 k1)).2, hK⟩
    · have m1 := mA g
      have hz : ¬ nI (100 * (ypr b q false).1 + (ypr b q false).2) = 0 := fun z => by
        have := (nI_z (by omega)).mp z
        omega
      rw [if_neg hz, zbd_S]
      dsimp only
      rw [if_neg (by decide)]
      exact ⟨_, _, _, _, _, _, _, _, _, _, _, _, _, _, _, _, b, rfl, m1, Or.inr (Or.inr ⟨rfl, rfl⟩), h, hP, hN, hV, ⟨_, _, y1, y2, y3, rfl, rfl, rfl⟩⟩
  · unfold fX5_door
    rw [e1, e2, zbd_S, zbd_S, if_neg (by decide), if_pos rfl]
    exact ⟨_, _, _, _, _, _, _, _, _, _, _, _, _, _, _, _, b, rfl, rfl, Or.inr (Or.inl ⟨rfl, rfl⟩), h, hP, hN, hV, hK⟩
theorem q_buy {rws : Nat → Int64} {nx ct kept kR reason detail : Int32} {hist : Nat → Nat → Int32} {fb : Nat → Int64} {now : Nat → Int32} {b : Nat → Nat} (h : yH rws nx ct hist kept) (hP : yP fb b) (hN : yN now b) (hV : yV2 b) (hK : yK kR reason detail) (thrown : Int32) (comes queue far : Nat → Int32) (p1 : Int32) :
    ∃ (o : Nat) (t x y kR' nx' ct' reason' detail' : Int32) (fb' rws' : Nat → Int64) (now' c' q' f' : Nat → Int32) (hist' : Nat → Nat → Int32) (b' : Nat → Nat), fX4_buy kR fb rws nx ct p1 = some (o, x, kR', fb', rws', nx', ct') ∧ fX5_buy thrown now hist kept reason detail comes queue far 0 p1 = some (y, t, now', hist', ct', reason', detail', c', q', f') ∧
      ((o = 0 ∧ t = 0 ∧ x = y) ∨ (o = 1 ∧ t = 1) ∨ (o = 4 ∧ t = 2)) ∧ yH rws' nx' ct' hist' ct' ∧ yP fb' b' ∧ yN now' b' ∧ yV2 b' ∧ yK kR' reason' detail' := by
  have hct : ct = kept := by
    obtain ⟨x, c, B, _, _, _, e1, e2, _⟩ := h
    rw [e1, e2]
  subst hct
  unfold fX4_buy
  rcases y_sq p1 with ⟨q, hq, rfl, e1, e2⟩ | ⟨e1, e2⟩
  · obtain ⟨rws', nx', ct', hist', r1, r2, r3⟩ := y_remember h hP hN hV
    have hch : fX5_change now hist ct 0 = some (hist', ct') := by
      unfold fX5_change
      rw [if_pos rfl, r2, zbd_S]
    obtain ⟨mA, mB⟩ := m_buy hN hV hq thrown reason detail comes queue far hch
    obtain ⟨y1, y2, y3⟩ := ypr_b hV.1 hq true
    rw [e2, zbd_S, if_pos rfl, show (1 : Int32) = yb true from rfl, c_purRef hP hV.1 hq true, zbd_S]
    unfold fX4_requireTaken
    by_cases g : (ypr b q true).1 = 0
    · obtain ⟨n', c', q', f', m1, m2⟩ := mB g
      obtain ⟨k1, k2, k3, k4, k5⟩ := y_pr0t hV.1 hq g
      obtain ⟨f2, z1, z2⟩ := c_takePiece hP hV hq k2 k3 k4 (hV.2.1 k1) k5
      rw [g, y3 g, show nI (100 * 0 + 0) = (0 : Int32) from rfl, if_pos (show (0 : Int32) = 0 from rfl), zbd_S]
      dsimp only
      rw [if_pos rfl, r1, zbd_S, z1, zbd_S]
      exact ⟨_, _, _, _, _, _, _, _, _, _, _, _, _, _, _, _, _, rfl, m1, Or.inl ⟨rfl, rfl, rfl⟩, r3, z2, m2, (yV_bb hV hq (hV.2.1 k1) k2 k5).2, hK⟩
    · have m1 := mA g
      have hz : ¬ nI (100 * (ypr b q true).1 + (ypr b q true).2) = 0 := fun z => by
        have := (nI_z (by omega)).mp z
        omega
      rw [if_neg hz, zbd_S]
      dsimp only
      rw [if_neg (by decide)]
      exact ⟨_, _, _, _, _, _, _, _, _, _, _, _, _, _, _, _, b, rfl, m1, Or.inr (Or.inr ⟨rfl, rfl⟩), h, hP, hN, hV, ⟨_, _, y1, y2, y3, rfl, rfl, rfl⟩⟩
  · unfold fX5_buy
    rw [e1, e2, zbd_S, zbd_S, if_neg (by decide), if_pos rfl]
    exact ⟨_, _, _, _, _, _, _, _, _, _, _, _, _, _, _, _, b, rfl, rfl, Or.inr (Or.inl ⟨rfl, rfl⟩), h, hP, hN, hV, hK⟩

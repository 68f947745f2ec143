/-! PURE 22: a call's arguments; questions answered alike -/
theorem y_between (p : Int32) (m : Nat) (hm : m < 2000) : (∃ q, q ≤ m ∧ p = nI q) ∨ (p < 0 ∨ nI m < p) := by
  by_cases h0 : p < 0
  · exact Or.inr (Or.inl h0)
  · by_cases h1 : p ≤ nI m
    · obtain ⟨j, j1, j2⟩ := nI_of2 (n := m) (M := nI m) (nI_toInt (by omega)) h0 h1
      exact Or.inl ⟨j, j1, j2⟩
    · refine Or.inr (Or.inr (Int32.lt_iff_toInt_lt.mpr ?_))
      have h2 : ¬ p.toInt ≤ (nI m).toInt := fun z => h1 (Int32.le_iff_toInt_le.mpr z)
      omega
theorem y_btw {p lo hi : Int32} (h : p < lo ∨ hi < p) : fX5_isBetween p lo hi = some 0 := by
  unfold fX5_isBetween
  by_cases g : p < lo
  · rw [if_pos g]
  · rw [if_neg g, if_pos (h.resolve_left g)]
theorem y_btw1 {q lo hi : Nat} (h1 : lo ≤ q) (h2 : q ≤ hi) (h3 : hi < 2000) : fX5_isBetween (nI q) (nI lo) (nI hi) = some 1 := by
  unfold fX5_isBetween
  rw [if_neg (nI_nlt h1 (by omega)), if_neg (nI_nlt h2 (by omega))]
theorem y_sq (p : Int32) : (∃ q, q < 36 ∧ p = nI q ∧ fX5_isSquare p = some 1 ∧ fX4_requireSquare p = some 0) ∨ (fX5_isSquare p = some 0 ∧ fX4_requireSquare p = some 1) := by
  rcases y_between p 35 (by omega) with ⟨q, h1, rfl⟩ | h
  · refine Or.inl ⟨q, by omega, rfl, m_isSquare q (by omega), ?_⟩
    unfold fX4_requireSquare
    rw [if_neg (nI_pos (by omega)), if_pos (show nI q < (36 : Int32) from nI_lt (b := 36) (by omega) (by omega))]
  · refine Or.inr ⟨?_, ?_⟩
    · unfold fX5_isSquare
      rw [y_btw (show p < 0 ∨ (35 : Int32) < p from h), zbd_S]
      rfl
    · unfold fX4_requireSquare
      by_cases g : p < 0
      · rw [if_pos g]
      · have h35 := Int32.lt_iff_toInt_lt.mp (h.resolve_left g)
        have e35 : (nI 35).toInt = 35 := by decide
        have e36 : (36 : Int32).toInt = 36 := by decide
        rw [if_neg g, if_neg (fun z => by have := Int32.lt_iff_toInt_lt.mp z; omega)]
theorem y_sd (p : Int32) : (∃ s, s ≤ 1 ∧ p = nI s ∧ fX5_isSide p = some 1 ∧ fX4_requireSide p = some 0) ∨ (fX5_isSide p = some 0 ∧ fX4_requireSide p = some 1) := by
  rcases y_between p 1 (by omega) with ⟨s, h1, rfl⟩ | h
  · refine Or.inl ⟨s, h1, rfl, ?_, ?_⟩
    · rcases (show s = 0 ∨ s = 1 by omega) with rfl | rfl <;> rfl
    · unfold fX4_requireSide
      rw [if_neg (nI_pos (by omega)), if_pos (show nI s < (2 : Int32) from nI_lt (b := 2) (by omega) (by omega))]
  · refine Or.inr ⟨?_, ?_⟩
    · unfold fX5_isSide
      rw [y_btw (show p < 0 ∨ (1 : Int32) < p from h), zbd_S]
      rfl
    · unfold fX4_requireSide
      by_cases g : p < 0
      · rw [if_pos g]
      · have h35 := Int32.lt_iff_toInt_lt.mp (h.resolve_left g)
        have e35 : (nI 1).toInt = 1 := by decide
        have e36 : (2 : Int32).toInt = 2 := by decide
        rw [if_neg g, if_neg (fun z => by have := Int32.lt_iff_toInt_lt.mp z; omega)]
/-- sealed -/
theorem q_sealed {f : Nat → Int64} {now : Nat → Int32} {b : Nat → Nat} (hP : yP f b) (hN : yN now b) (hv : yV b) (thrown : Int32) (queue roomAt : Nat → Int32) (rooms p : Int32) :
    (∃ q' ra' r', fX4_sealed f p = some (1, 0) ∧ fX5_sealed thrown now queue roomAt rooms p = some (0, 1, q', ra', r')) ∨ ∃ x q' ra' r', fX4_sealed f p = some (0, x) ∧ fX5_sealed thrown now queue roomAt rooms p = some (x, 0, q', ra', r') := by
  unfold fX4_sealed fX5_sealed
  rcases y_sd p with ⟨s, hs, rfl, e1, e2⟩ | ⟨e1, e2⟩
  · right
    obtain ⟨r, c1, c2⟩ := c_countSealed hP hs
    obtain ⟨q', ra', r', r2, d1, d2⟩ := m_countSealed hN hv hs queue roomAt rooms
    rw [yNr_u d2 c2] at d1
    refine ⟨nI (ySm (yG b s) r), q', ra', r', ?_, ?_⟩
    · rw [e2, zbd_S, if_pos rfl, c1, zbd_S]
    · rw [e1, zbd_S, if_neg (show ¬ (1 : Int32) = 0 by decide)]
      unfold fX5_sealed_14
      rw [m_fails0, zbd_S]
      dsimp only
      rw [if_pos (show (0 : Int32) = 0 from rfl), d1, zbd_S]
  · left
    refine ⟨queue, roomAt, rooms, ?_, ?_⟩
    · rw [e2, zbd_S, if_neg (by decide)]
    · rw [e1, zbd_S, if_pos rfl]
      rfl
theorem q_rooms {f : Nat → Int64} {now : Nat → Int32} {b : Nat → Nat} (hP : yP f b) (hN : yN now b) (hv : yV b) (thrown : Int32) (queue roomAt : Nat → Int32) (rooms p : Int32) :
    (∃ q' ra' r', fX4_rooms f p = some (1, 0) ∧ fX5_rooms thrown now queue roomAt rooms p = some (0, 1, q', ra', r')) ∨ ∃ x q' ra' r', fX4_rooms f p = some (0, x) ∧ fX5_rooms thrown now queue roomAt rooms p = some (x, 0, q', ra', r') := by
  unfold fX4_rooms fX5_rooms
  rcases y_sd p with ⟨s, hs, rfl, e1, e2⟩ | ⟨e1, e2⟩
  · right
    obtain ⟨r, c1, c2⟩ := c_countRooms hP hs
    obtain ⟨q', ra', r2, d1, d2, d3⟩ := m_findRooms hN hv hs queue roomAt rooms
    rw [yNr_u d2 c2] at d1
    refine ⟨nI r, q', ra', nI r, ?_, ?_⟩
    · rw [e2, zbd_S, if_pos rfl, c1, zbd_S]
    · rw [e1, zbd_S, if_neg (show ¬ (1 : Int32) = 0 by decide)]
      unfold fX5_rooms_14
      rw [m_fails0, zbd_S]
      dsimp only
      rw [if_pos (show (0 : Int32) = 0 from rfl), d1, zbd_S]
  · left
    refine ⟨queue, roomAt, rooms, ?_, ?_⟩
    · rw [e2, zbd_S, if_neg (by decide)]
    · rw [e1, zbd_S, if_pos rfl]
      rfl
theorem q_steps {f : Nat → Int64} {now : Nat → Int32} {b : Nat → Nat} (hP : yP f b) (hN : yN now b) (hv : yV b) (thrown : Int32) (queue far : Nat → Int32) (p1 p2 : Int32) :
    ∃ (x y : Int32) (o : Nat) (t : Int32) (q' f' : Nat → Int32), fX4_steps f p1 p2 = some (o, x) ∧ fX5_steps thrown now queue far p1 p2 = some (y, t, q', f') ∧ ((o = 0 ∧ t = 0 ∧ x = y) ∨ (o = 1 ∧ t = 1) ∨ (o = 5 ∧ t = 2)) := by
  unfold fX4_steps fX5_steps
  rcases y_sd p1 with ⟨s, hs, rfl, e1, e2⟩ | ⟨e1, e2⟩
  · rw [e1, e2, zbd_S, zbd_S, if_pos rfl, if_neg (show ¬ (1 : Int32) = 0 by decide)]
    rcases y_sq p2 with ⟨q, hq, rfl, g1, g2⟩ | ⟨g1, g2⟩
    · rw [g1, g2, zbd_S, zbd_S, if_pos rfl, if_neg (show ¬ (1 : Int32) = 0 by decide)]
      obtain ⟨x, c1, c2⟩ := c_steps hP hs hq
      obtain ⟨q', far', d1, d2⟩ := m_findSteps hN hv hs queue far
      have hR : ∀ n, yRs (yop b s) (ypc b s) n q = yR (yop b s) (ypc b s) n q := fun n => yRs_R (fun i hi g => y_pc_op hv hs hi g) n q hq
      have hn1 : ∀ q, q < 36 → ¬ nI q = -1 := by decide +kernel
      rw [c1, zbd_S]
      unfold fX5_steps_21
      rw [m_fails0, zbd_S]
      dsimp only
      rw [if_pos (show (0 : Int32) = 0 from rfl), d1, zbd_S]
      dsimp only
      rw [zck_N hq (by omega), tn_n (by omega)]
      unfold fX5_steps_50
      rcases d2 q hq with ⟨d, f1, f2, f3⟩ | ⟨f2, f3⟩
      · rcases c2 with ⟨k, k1, k2, k3, k4⟩ | ⟨k1, k2⟩
        · have a1 := (f3 k).mp (by rw [hR]; exact k3)
          have a2 : ¬ d < k := fun z => by
            have := k4 d z
            rw [← hR, (f3 d).mpr (Nat.le_refl _)] at this
            cases this
          have e : k = d := by omega
          subst e
          rw [if_pos (show (0 : Int32) ≤ far' q by rw [f2]; exact nI_pos' (by omega)), k2, if_neg (hn1 k k1), m_fails0, zbd_S]
          dsimp only
          rw [if_pos (show (0 : Int32) = 0 from rfl), zck_N hq (by omega), tn_n (by omega), f2]
          exact ⟨_, _, _, _, _, _, rfl, rfl, Or.inl ⟨rfl, rfl, rfl⟩⟩
        · exfalso
          have := k2 d f1
          rw [← hR, (f3 d).mpr (Nat.le_refl _)] at this
          cases this
      · rcases c2 with ⟨k, k1, k2, k3, k4⟩ | ⟨k1, k2⟩
        · exfalso
          have := f3 k
          rw [hR, k3] at this
          cases this
        · rw [if_neg (show ¬ (0 : Int32) ≤ far' q by rw [f2]; decide), k1, if_pos rfl]
          exact ⟨_, _, _, _, _, _, rfl, rfl, Or.inr (Or.inr ⟨rfl, rfl⟩)⟩
    · rw [g1, g2, zbd_S, zbd_S, if_neg (by decide), if_pos rfl]
      exact ⟨_, _, _, _, _, _, rfl, rfl, Or.inr (Or.inl ⟨rfl, rfl⟩)⟩
  · rw [e1, e2, zbd_S, zbd_S, if_neg (by decide), if_pos rfl]
    exact ⟨_, _, _, _, _, _, rfl, rfl, Or.inr (Or.inl ⟨rfl, rfl⟩)⟩

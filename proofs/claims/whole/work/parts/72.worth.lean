/-! PURE 32: captures and worth -/
theorem c_reqTarget {f : Nat → Int64} {b : Nat → Nat} (hP : yP f b) (hv : yV b) {p t : Nat} (hp : p < 36) (ht : t < 36) (hs : ysd (b p) ≤ 1) : fX4_requireTarget f (nI p) (nI t) = some (if yTg b p t = true then 0 else 5) := by
  obtain ⟨w, w1, w2⟩ := c_targets hP hv hp hs
  unfold fX4_requireTarget
  rw [w1, zbd_S, yhas w2 ht, zbd_S]
  cases yTg b p t <;> rfl
/-- a move tried on a copy, and its board brought back -/
theorem m_tried {now : Nat → Int32} {b : Nat → Nat} (hN : yN now b) (hv : yV b) {p t : Nat} (hp : p < 36) (ht : t < 36) (hg : yTg b p t = true) (ahead : Nat → Int32) :
    ∃ a' n1, fX5_copyRow now ahead = some a' ∧ fX5_go now (nI p) (nI t) = some (nI (fb_ct (yCs b p t) 36), n1) ∧ yN n1 (ygo b p t) ∧ ∀ n2, ∃ n3, fX5_copyRow a' n2 = some n3 ∧ yN n3 b := by
  obtain ⟨hs, hf⟩ := yTg_fr hg
  obtain ⟨a', a1, a2⟩ := m_copyN hN ahead
  obtain ⟨n1, g1, g2⟩ := m_go hN hv hp ht (yTg_ne hv hp hg) hs
  exact ⟨a', n1, a1, g1, g2, fun n2 => m_copyN a2 n2⟩
theorem q_captures {fb ft : Nat → Int64} {now : Nat → Int32} {b : Nat → Nat} (hP : yP fb b) (hN : yN now b) (hv : yV b) (thrown : Int32) (comes queue far ahead : Nat → Int32) (p1 p2 : Int32) :
    ∃ (o : Nat) (t x y : Int32) (ft' : Nat → Int64) (now' c' q' f' a' : Nat → Int32), fX4_captures fb ft p1 p2 = some (o, x, ft') ∧ fX5_captures thrown now comes queue far ahead p1 p2 = some (y, t, now', c', q', f', a') ∧ ((o = 0 ∧ t = 0 ∧ x = y) ∨ (o = 1 ∧ t = 1) ∨ (o = 5 ∧ t = 2)) ∧ yN now' b := by
  unfold fX4_captures fX5_captures
  rcases y_sq p1 with ⟨p, hp, rfl, e1, e2⟩ | ⟨e1, e2⟩
  · rw [e1, e2, zbd_S, zbd_S, if_pos rfl, if_neg (show ¬ (1 : Int32) = 0 by decide)]
    rcases y_sq p2 with ⟨t, ht, rfl, g1, g2⟩ | ⟨g1, g2⟩
    · rw [g1, g2, zbd_S, zbd_S, if_pos rfl, if_neg (show ¬ (1 : Int32) = 0 by decide), c_reqPiece hP hv hp, zbd_S]
      unfold fX5_captures_21
      rw [m_fails0, zbd_S]
      dsimp only
      rw [if_pos (show (0 : Int32) = 0 from rfl), m_lacks hN hv hp, zbd_S]
      by_cases g : ysd (b p) ≤ 1
      · obtain ⟨c', q', f', d1⟩ := m_can hN hv hp ht comes queue far
        rw [if_pos g, if_pos g, if_pos rfl, c_reqTarget hP hv hp ht g, zbd_S, if_pos (show (0 : Int32) = 0 from rfl), d1, zbd_S]
        dsimp only
        unfold fX5_captures_46 fX5_captures_51
        cases gt : yTg b p t with
        | false =>
          rw [if_neg ynft, if_neg (by decide), yb_f, if_pos rfl, m_fails1, zbd_S]
          exact ⟨_, _, _, _, _, _, _, _, _, _, rfl, rfl, Or.inr (Or.inr ⟨rfl, rfl⟩), hN⟩
        | true =>
          obtain ⟨hs, hf⟩ := yTg_fr gt
          obtain ⟨a', n1, a1, a2, a3, a4⟩ := m_tried hN hv hp ht gt ahead
          obtain ⟨n3, b1, b2⟩ := a4 n1
          obtain ⟨ft1, t1, t2⟩ := c_copy (f := ft) hP
          obtain ⟨ft2, u1, u2⟩ := c_move t2 hv hp ht hs hf
          rw [if_pos rfl, if_pos rfl, t1, zbd_S, u1, zbd_S, yb_t, if_neg (show ¬ (1 : Int32) = 0 by decide), m_fails0, zbd_S]
          dsimp only
          rw [if_pos (show (0 : Int32) = 0 from rfl), a1, zbd_S, a2, zbd_S]
          dsimp only
          rw [b1, zbd_S]
          exact ⟨_, _, _, _, _, _, _, _, _, _, rfl, rfl, Or.inl ⟨rfl, rfl, rfl⟩, b2⟩
      · rw [if_neg g, if_neg g, if_neg (by decide), if_neg (show ¬ (1 : Int32) = 0 by decide)]
        exact ⟨_, _, _, _, _, _, _, _, _, _, rfl, rfl, Or.inr (Or.inr ⟨rfl, rfl⟩), hN⟩
    · rw [g1, g2, zbd_S, zbd_S, if_neg (by decide), if_pos rfl]
      exact ⟨_, _, _, _, _, _, _, _, _, _, rfl, rfl, Or.inr (Or.inl ⟨rfl, rfl⟩), hN⟩
  · rw [e1, e2, zbd_S, zbd_S, if_neg (by decide), if_pos rfl]
    exact ⟨_, _, _, _, _, _, _, _, _, _, rfl, rfl, Or.inr (Or.inl ⟨rfl, rfl⟩), hN⟩
/-- the worth of a move -/
theorem q_worthOf {fb ft : Nat → Int64} {now : Nat → Int32} {b : Nat → Nat} (hP : yP fb b) (hN : yN now b) (hv : yV b) {p t : Nat} (hp : p < 36) (ht : t < 36) (hm : ysd (b p) = b 74 % 2) (hg : yTg b p t = true) (queue ahead roomAt : Nat → Int32) (rooms : Int32) :
    ∃ (x : Int32) (w : Nat), x = nI w ∧ w < 2000 ∧ (∀ ft, ∃ ft', fX4_worthOfMove fb ft (nI p) (nI t) = some (x, ft')) ∧ ∀ (now : Nat → Int32) (queue ahead roomAt : Nat → Int32) (rooms : Int32), yN now b → ∃ now' q' a' ra' r', fX5_worthOf now queue ahead roomAt rooms (nI p) (nI t) = some (x, now', q', a', ra', r') ∧ yN now' b := by
  obtain ⟨hs, hf⟩ := yTg_fr hg
  have ho : 1 - ysd (b p) ≤ 1 := by omega
  have hVg := yV_go hv hp ht hs hf
  have h4 : fb_ct (yCs b p t) 36 ≤ 4 := yC_4 ht
  have hn10 : ∀ m, m < 5 → (10 : Int32) * nI m = nI (10 * m) := by decide +kernel
  obtain ⟨ft1, t1, t2⟩ := c_copy (f := ft) hP
  obtain ⟨ft2, u1, u2⟩ := c_move t2 hv hp ht hs hf
  obtain ⟨r, c1, c2⟩ := c_countSealed u2 ho
  have hsm : ∀ n, ySm (yG (ygo b p t) (1 - ysd (b p))) n ≤ 36 * n := by
    intro n
    induction n with
    | zero => exact Nat.le_refl _
    | succ n ih =>
      show ySm (yG (ygo b p t) (1 - ysd (b p))) n + yG (ygo b p t) (1 - ysd (b p)) n ≤ 36 * (n + 1)
      have : yG (ygo b p t) (1 - ysd (b p)) n ≤ 36 := by
        unfold yG
        split
        · exact fb_ct_le _ 36
        · omega
      omega
  have hr36 := yNr_36 c2
  have hsmr := hsm r
  refine ⟨nI (10 * fb_ct (yCs b p t) 36 + ySm (yG (ygo b p t) (1 - ysd (b p))) r), _, rfl, by omega, fun ft => ?_, fun now queue ahead roomAt rooms hN => ?_⟩
  · obtain ⟨ft1, t1, t2⟩ := c_copy (f := ft) hP
    obtain ⟨ft2, u1, u2⟩ := c_move t2 hv hp ht hs hf
    obtain ⟨r2, d1, d2⟩ := c_countSealed u2 ho
    rw [yNr_u d2 c2] at d1
    refine ⟨ft2, ?_⟩
    unfold fX4_worthOfMove
    rw [t1, zbd_S, u1, zbd_S, c_mover hP, zbd_S, ← hm, p_other hs, zbd_S]
    dsimp only
    rw [d1, zbd_S]
    show some (10 * nI (fb_ct (yCs b p t) 36) + _, ft2) = _
    rw [hn10 _ (by omega), nI_add]
  · obtain ⟨a', n1, a1, a2, a3, a4⟩ := m_tried hN hv hp ht hg ahead
    obtain ⟨n3, b1, b2⟩ := a4 n1
    obtain ⟨q', ra', r', r2, d1, d2⟩ := m_countSealed a3 hVg ho queue roomAt rooms
    rw [yNr_u d2 c2] at d1
    refine ⟨n3, q', a', ra', r', ?_, b2⟩
    have hc28 := yV_28 hv hp
    unfold fX5_worthOf
    rw [zck_N (by omega) (by omega), tn_n (by omega), hN p (by omega), m_sideOf _ (by omega), zbd_S, yI_lt hs, show (1 : Int32) - nI (ysd (b p)) = nI (1 - ysd (b p)) from pk_sub (a := 1) hs, zbn_E, a1, zbd_S, a2, zbd_S]
    dsimp only
    rw [d1, zbd_S]
    dsimp only
    rw [b1, zbd_S, hn10 _ (by omega), nI_add]

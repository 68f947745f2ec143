/-! PURE 40: a turn of the text, taken on both sides -/
theorem yet_74 (b : Nat → Nat) (c : Bool) : yet b c 74 = b 74 + 1 := by
  unfold yet yput
  split
  · rfl
  · split <;> rfl
theorem ytm_74 {b : Nat → Nat} {p t : Nat} (hp : p < 36) (ht : t < 36) (hs : ysd (b p) ≤ 1) : ytm b p t 74 = b 74 + 1 := by
  unfold ytm
  rw [yet_74, ypd_74 hp ht hs]
theorem ydo_74 {b : Nat → Nat} {q : Nat} (hq : q < 36) : ydo b q 74 = b 74 + 1 := by
  unfold ydo
  rw [yet_74]
  unfold ydb yput
  rw [if_neg (by omega), if_neg (by omega), if_neg (by omega)]
theorem ybu_74 {b : Nat → Nat} {q : Nat} (hq : q < 36) : ybu b q 74 = b 74 + 1 := by
  unfold ybu
  rw [yet_74]
  unfold ybb yput
  rw [if_neg (by omega), if_neg (by omega)]
theorem c_col : ∀ x, x < 127 → fX1_isColumn (nI x) = some (yb (yCo x)) := by decide +kernel
theorem c_row : ∀ x, x < 127 → fX1_isRow (nI x) = some (yb (yRo x)) := by decide +kernel
theorem c_sqAt {ch text : Nat → Int32} {c : Nat → Nat} {L : Nat} (h : yTx ch text c L) {a : Nat} (ha : a + 2 ≤ L) (e : yCo (c a) = true) (g : yRo (c (a + 1)) = true) : fX1_squareAt ch (nI L) (nI a) = some (nI (yqv (c a) (c (a + 1)))) := by
  have e1 := yCo_n e
  have g1 := yRo_n g
  unfold fX1_squareAt
  rw [c_at h (show a < L by omega), zbd_S, nI_1, c_at h (show a + 1 < L by omega), zbd_S, c_col _ (by omega), zbd_S, e, yb_t, if_neg (show ¬ (1 : Int32) = 0 by decide), c_row _ (by omega), zbd_S, g, yb_t, if_neg (show ¬ (1 : Int32) = 0 by decide), show nI (c (a + 1)) - (49 : Int32) = nI (c (a + 1) - 49) from pk_sub (a := c (a + 1)) (b := 49) g1.1, show nI (c a) - (97 : Int32) = nI (c a - 97) from pk_sub (a := c a) (b := 97) e1.1, show nI (c (a + 1) - 49) * (6 : Int32) = nI ((c (a + 1) - 49) * 6) from pk_mul _ 6, nI_add]
  unfold yqv
  rw [Nat.mul_comm]
theorem c_buyT {ft : Nat → Int64} {b : Nat → Nat} (hP : yP ft b) (hV : yV2 b) {q : Nat} (hq : q < 36) (isP : Bool) :
    ((ypr b q isP).1 ≠ 0 → fX4_buyOnTrial ft (nI q) (yb isP) = some (nI (100 * (ypr b q isP).1 + (ypr b q isP).2), ft)) ∧
    ((ypr b q isP).1 = 0 → ∃ ft', fX4_buyOnTrial ft (nI q) (yb isP) = some (0, ft') ∧ yP ft' (if isP = true then ybu b q else ydo b q)) := by
  obtain ⟨y1, y2, y3⟩ := ypr_b hV.1 hq isP
  unfold fX4_buyOnTrial
  rw [c_purRef hP hV.1 hq isP, zbd_S]
  refine ⟨fun g => ?_, fun g => ?_⟩
  · have hz : ¬ nI (100 * (ypr b q isP).1 + (ypr b q isP).2) = 0 := fun z => by
      have := (nI_z (by omega)).mp z
      omega
    rw [if_neg hz]
    unfold fX4_buyOnTrial_30
    rw [if_neg hz]
  · rw [g, y3 g, show nI (100 * 0 + 0) = (0 : Int32) from rfl, if_pos (show (0 : Int32) = 0 from rfl)]
    cases isP with
    | true =>
      obtain ⟨k1, k2, k3, k4, k5⟩ := y_pr0t hV.1 hq g
      obtain ⟨f2, z1, z2⟩ := c_takePiece hP hV hq k2 k3 k4 (hV.2.1 k1) k5
      rw [yb_t, if_neg (show ¬ (1 : Int32) = 0 by decide), z1, zbd_S]
      exact ⟨f2, rfl, z2⟩
    | false =>
      obtain ⟨k1, k2, k3⟩ := y_pr0f g
      obtain ⟨f2, z1, z2⟩ := c_takeDoor hP hV hq k2 k3 (hV.2.1 k1)
      unfold fX4_buyOnTrial_30
      rw [yb_f, if_pos rfl, if_pos rfl, z1, zbd_S]
      exact ⟨f2, rfl, z2⟩
theorem m_chT (now : Nat → Int32) (hist : Nat → Nat → Int32) (kept : Int32) : fX5_change now hist kept 1 = some (hist, kept) := rfl
theorem ymr_0 {b : Nat → Nat} {p t : Nat} (g : (ymr b p t).1 = 0) : b 75 = 0 ∧ ypc b (b 74 % 2) p = true ∧ yTg b p t = true := by
  unfold ymr at g
  by_cases k1 : b 75 = 0
  · rw [if_neg (show ¬ b 75 ≠ 0 by omega)] at g
    cases k2 : ypc b (b 74 % 2) p with
    | false => rw [k2, if_pos rfl] at g; cases g
    | true =>
      cases k3 : yTg b p t with
      | false => rw [k2, k3, if_neg (by decide), if_pos rfl] at g; cases g
      | true => exact ⟨k1, rfl, rfl⟩
  · rw [if_pos (show b 75 ≠ 0 from k1)] at g; cases g
/-- both sides at one turn -/
theorem t_turn {ch text : Nat → Int32} {c : Nat → Nat} {L : Nat} (h : yTx ch text c L) {a a' : Nat} (htr : yTr c L a a') {ft : Nat → Int64} {now : Nat → Int32} {b : Nat → Nat} (hP : yP ft b) (hN : yN now b) (hV : yV2 b) (thrown reason detail kept tf tt : Int32) (hist : Nat → Nat → Int32) (comes queue far : Nat → Int32) :
    ∃ (ref thrown' r' d' sg tf' tt' : Int32) (ft' : Nat → Int64) (now' c' q' f' : Nat → Int32) (b' : Nat → Nat), fX4_takeTurnOnTrial ft ch (nI L) (nI a) = some (ref, ft') ∧ fX5_readTurn text (nI L) (nI a) tf tt 0 = some (sg, nI a', tf', tt', 0) ∧
      fX5_take thrown now hist kept reason detail comes queue far 1 tf' tt' sg = some (thrown', now', hist, kept, r', d', c', q', f') ∧
      ((ref = 0 ∧ thrown' = 0 ∧ r' = reason ∧ d' = detail ∧ yP ft' b' ∧ yN now' b' ∧ yV2 b' ∧ b' 74 = b 74 + 1) ∨ (ref ≠ 0 ∧ thrown' = 2 ∧ yK ref r' d')) := by
  have hL := h.1
  rcases htr with ⟨g, rfl⟩ | ⟨g, rfl⟩
  · have rt := m_rt_d h g tf tt
    obtain ⟨g1, g2, g3, g4⟩ := g
    have hq := yqv_36 g3 g4
    have hsq := c_sqAt h (show a + 1 + 2 ≤ L by omega) g3 g4
    by_cases k : c a = 43
    · obtain ⟨mA, mB⟩ := m_door hN hV hq thrown reason detail comes queue far (m_chT now hist kept)
      obtain ⟨cA, cB⟩ := c_buyT hP hV hq false
      obtain ⟨y1, y2, y3⟩ := ypr_b hV.1 hq false
      have ec : fX4_takeTurnOnTrial ft ch (nI L) (nI a) = zbd (fX4_buyOnTrial ft (nI (yqv (c (a + 1)) (c (a + 2)))) (yb false)) (fun u1 => some (u1.1, u1.2)) := by
        unfold fX4_takeTurnOnTrial
        rw [c_at h (show a < L by omega), zbd_S, k, if_pos (show nI 43 = (43 : Int32) from rfl)]
        unfold fX4_takeTurnOnTrial_21
        rw [nI_1, hsq, zbd_S, if_neg (show ¬ nI 43 = (42 : Int32) by decide)]
        rfl
      rw [rt, ec, k]
      by_cases z : (ypr b (yqv (c (a + 1)) (c (a + 2))) false).1 = 0
      · obtain ⟨ft', d1, d2⟩ := cB z
        obtain ⟨n', c', q', f', e1, e2⟩ := mB z
        obtain ⟨k1, k2, k3⟩ := y_pr0f z
        have e3 : fX5_take thrown now hist kept reason detail comes queue far 1 (nI (yqv (c (a + 1)) (c (a + 2)))) tt (nI 43) = some (0, n', hist, kept, reason, detail, c', q', f') := by
          unfold fX5_take
          rw [if_pos (show nI 43 = (43 : Int32) from rfl), e1, zbd_S]
        exact ⟨_, _, _, _, _, _, _, _, _, _, _, _, ydo b (yqv (c (a + 1)) (c (a + 2))), by rw [d1, zbd_S], rfl, e3, Or.inl ⟨rfl, rfl, rfl, rfl, d2, e2, (yV_db hV hq (hV.2.1 k1)).2, ydo_74 hq⟩⟩
      · have d1 := cA z
        have e1 := mA z
        have e3 : fX5_take thrown now hist kept reason detail comes queue far 1 (nI (yqv (c (a + 1)) (c (a + 2)))) tt (nI 43) = some (2, now, hist, kept, nI (ypr b (yqv (c (a + 1)) (c (a + 2))) false).1, nI (ypr b (yqv (c (a + 1)) (c (a + 2))) false).2, comes, queue, far) := by
          unfold fX5_take
          rw [if_pos (show nI 43 = (43 : Int32) from rfl), e1, zbd_S]
        exact ⟨_, _, _, _, _, _, _, _, _, _, _, _, b, by rw [d1, zbd_S], rfl, e3, Or.inr ⟨fun y => by
          have := (nI_z (by omega)).mp y
          omega, rfl, ⟨_, _, y1, y2, y3, rfl, rfl, rfl⟩⟩⟩
    · have k : c a = 42 := g2.resolve_left k
      obtain ⟨mA, mB⟩ := m_buy hN hV hq thrown reason detail comes queue far (m_chT now hist kept)
      obtain ⟨cA, cB⟩ := c_buyT hP hV hq true
      obtain ⟨y1, y2, y3⟩ := ypr_b hV.1 hq true
      have ec : fX4_takeTurnOnTrial ft ch (nI L) (nI a) = zbd (fX4_buyOnTrial ft (nI (yqv (c (a + 1)) (c (a + 2)))) (yb true)) (fun u1 => some (u1.1, u1.2)) := by
        unfold fX4_takeTurnOnTrial
        rw [c_at h (show a < L by omega), zbd_S, k, if_neg (show ¬ nI 42 = (43 : Int32) by decide), if_pos (show nI 42 = (42 : Int32) from rfl)]
        unfold fX4_takeTurnOnTrial_21
        rw [nI_1, hsq, zbd_S, if_pos (show nI 42 = (42 : Int32) from rfl)]
        rfl
      rw [rt, ec, k]
      by_cases z : (ypr b (yqv (c (a + 1)) (c (a + 2))) true).1 = 0
      · obtain ⟨ft', d1, d2⟩ := cB z
        obtain ⟨n', c', q', f', e1, e2⟩ := mB z
        obtain ⟨k1, k2, k3, k4, k5⟩ := y_pr0t hV.1 hq z
        have e3 : fX5_take thrown now hist kept reason detail comes queue far 1 (nI (yqv (c (a + 1)) (c (a + 2)))) tt (nI 42) = some (0, n', hist, kept, reason, detail, c', q', f') := by
          unfold fX5_take
          rw [if_neg (show ¬ nI 42 = (43 : Int32) by decide), if_pos (show nI 42 = (42 : Int32) from rfl), e1, zbd_S]
        exact ⟨_, _, _, _, _, _, _, _, _, _, _, _, ybu b (yqv (c (a + 1)) (c (a + 2))), by rw [d1, zbd_S], rfl, e3, Or.inl ⟨rfl, rfl, rfl, rfl, d2, e2, (yV_bb hV hq (hV.2.1 k1) k2 k5).2, ybu_74 hq⟩⟩
      · have d1 := cA z
        have e1 := mA z
        have e3 : fX5_take thrown now hist kept reason detail comes queue far 1 (nI (yqv (c (a + 1)) (c (a + 2)))) tt (nI 42) = some (2, now, hist, kept, nI (ypr b (yqv (c (a + 1)) (c (a + 2))) true).1, nI (ypr b (yqv (c (a + 1)) (c (a + 2))) true).2, comes, queue, far) := by
          unfold fX5_take
          rw [if_neg (show ¬ nI 42 = (43 : Int32) by decide), if_pos (show nI 42 = (42 : Int32) from rfl), e1, zbd_S]
        exact ⟨_, _, _, _, _, _, _, _, _, _, _, _, b, by rw [d1, zbd_S], rfl, e3, Or.inr ⟨fun y => by
          have := (nI_z (by omega)).mp y
          omega, rfl, ⟨_, _, y1, y2, y3, rfl, rfl, rfl⟩⟩⟩
  · have rt := m_rt_m h g tf tt
    obtain ⟨g1, g2, g3, g4, g5, g6⟩ := g
    have hp := yqv_36 g2 g3
    have ht := yqv_36 g5 g6
    have hc := yCo_n g2
    have hsq := c_sqAt h (show a + 2 ≤ L by omega) g2 g3
    have hsq2 := c_sqAt h (show a + 3 + 2 ≤ L by omega) g5 g6
    obtain ⟨mA, mB⟩ := m_move hN hV hp ht thrown reason detail comes queue far (m_chT now hist kept)
    obtain ⟨y1, y2, y3⟩ := ymr_b hV.1 hp ht
    have n43 : ∀ x, x < 127 → 97 ≤ x → ¬ nI x = (43 : Int32) ∧ ¬ nI x = (42 : Int32) := by decide +kernel
    obtain ⟨n1, n2⟩ := n43 (c a) (by omega) hc.1
    rw [rt]
    unfold fX4_takeTurnOnTrial
    rw [c_at h (show a < L by omega), zbd_S, if_neg n1, if_neg n2, hsq, zbd_S, show nI a + (3 : Int32) = nI (a + 3) from nI_add a 3, hsq2, zbd_S, c_moveRef hP hV.1 hp ht, zbd_S]
    by_cases z : (ymr b (yqv (c a) (c (a + 1))) (yqv (c (a + 3)) (c (a + 4)))).1 = 0
    · obtain ⟨n', c', q', f', e1, e2⟩ := mB z
      obtain ⟨k1, k2, k3⟩ := ymr_0 z
      obtain ⟨f2, z1, z2⟩ := c_takeMove hP hV hp ht (of_decide_eq_true k2) k3 (hV.2.1 k1)
      have e3 : fX5_take thrown now hist kept reason detail comes queue far 1 (nI (yqv (c a) (c (a + 1)))) (nI (yqv (c (a + 3)) (c (a + 4)))) 45 = some (0, n', hist, kept, reason, detail, c', q', f') := by
        unfold fX5_take
        rw [if_neg (show ¬ (45 : Int32) = 43 by decide), if_neg (show ¬ (45 : Int32) = 42 by decide), e1, zbd_S]
      rw [z, y3 z, show nI (100 * 0 + 0) = (0 : Int32) from rfl, if_pos (show (0 : Int32) = 0 from rfl), z1, zbd_S]
      exact ⟨_, _, _, _, _, _, _, _, _, _, _, _, ytm b (yqv (c a) (c (a + 1))) (yqv (c (a + 3)) (c (a + 4))), rfl, rfl, e3, Or.inl ⟨rfl, rfl, rfl, rfl, z2, e2, yV_tm hV hp ht k3 (hV.2.1 k1), ytm_74 hp ht (yTg_fr k3).1⟩⟩
    · obtain ⟨c', q', f', e1⟩ := mA z
      have hz : ¬ nI (100 * (ymr b (yqv (c a) (c (a + 1))) (yqv (c (a + 3)) (c (a + 4)))).1 + (ymr b (yqv (c a) (c (a + 1))) (yqv (c (a + 3)) (c (a + 4)))).2) = 0 := fun y => by
        have := (nI_z (by omega)).mp y
        omega
      have e3 : fX5_take thrown now hist kept reason detail comes queue far 1 (nI (yqv (c a) (c (a + 1)))) (nI (yqv (c (a + 3)) (c (a + 4)))) 45 = some (2, now, hist, kept, nI (ymr b (yqv (c a) (c (a + 1))) (yqv (c (a + 3)) (c (a + 4)))).1, nI (ymr b (yqv (c a) (c (a + 1))) (yqv (c (a + 3)) (c (a + 4)))).2, c', q', f') := by
        unfold fX5_take
        rw [if_neg (show ¬ (45 : Int32) = 43 by decide), if_neg (show ¬ (45 : Int32) = 42 by decide), e1, zbd_S]
      rw [if_neg hz]
      exact ⟨_, _, _, _, _, _, _, _, _, _, _, _, b, rfl, rfl, e3, Or.inr ⟨hz, rfl, ⟨_, _, y1, y2, y3, rfl, rfl, rfl⟩⟩⟩

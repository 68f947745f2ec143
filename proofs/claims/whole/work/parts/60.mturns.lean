/-! PURE 20: the model's turns -/
theorem m_isSquare : ∀ q, q < 36 → fX5_isSquare (nI q) = some 1 := by decide +kernel
theorem m_fails0 (thrown n : Int32) : fX5_fails thrown n 0 = some (0, 0) := rfl
theorem m_fails1 (thrown n : Int32) : fX5_fails thrown n 1 = some (1, n) := rfl
theorem m_door {now : Nat → Int32} {b : Nat → Nat} (h : yN now b) (hv : yV2 b) {q : Nat} (hq : q < 36) (thrown : Int32) {hist H : Nat → Nat → Int32} {kept K : Int32} (reason detail : Int32) (comes queue far : Nat → Int32) {isInText : Int32} (hch : fX5_change now hist kept isInText = some (H, K)) :
    ((ypr b q false).1 ≠ 0 → fX5_door thrown now hist kept reason detail comes queue far isInText (nI q) = some (0, 2, now, hist, kept, nI (ypr b q false).1, nI (ypr b q false).2, comes, queue, far)) ∧
    ((ypr b q false).1 = 0 → ∃ n' c' q' f', fX5_door thrown now hist kept reason detail comes queue far isInText (nI q) = some (nI (b (72 + b 74 % 2) - 3), 0, n', H, K, reason, detail, c', q', f') ∧ yN n' (ydo b q)) := by
  have hs : b 74 % 2 ≤ 1 := by omega
  have h98 : ∀ r d, fX5_door_98 isInText 0 now hist kept r d comes queue far (nI q) 2 = some (0, 2, now, hist, kept, r, d, comes, queue, far) := fun r d => rfl
  unfold fX5_door
  rw [m_isSquare q hq, zbd_S, if_neg (show ¬ (1 : Int32) = 0 by decide)]
  unfold fX5_door_14
  rw [m_fails0, zbd_S]
  show (_ → zbd (fX5_isOver now) _ = _) ∧ (_ → ∃ n' c' q' f', zbd (fX5_isOver now) _ = _ ∧ _)
  rw [m_isOver h hv.1, zbd_S, zk_74, tn_74, h 74 (by omega)]
  unfold ypr
  by_cases g : b 75 = 0
  · rw [if_neg (show ¬ b 75 ≠ 0 by omega), decide_eq_false (show ¬ b 75 ≠ 0 by omega), yb_f, m_ref0, zbd_S]
    show (_ → zbd (fX5_isWall now (nI q)) _ = _) ∧ (_ → ∃ n' c' q' f', zbd (fX5_isWall now (nI q)) _ = _ ∧ _)
    rw [m_isWall h hv.1 hq, zbd_S]
    cases gw : ywl (b q) with
    | false =>
      rw [yb_f, if_pos rfl, if_pos rfl]
      exact ⟨fun _ => rfl, fun z => absurd z (show ¬ (4 : Nat) = 0 by decide)⟩
    | true =>
      rw [yb_t, if_neg (show ¬ (1 : Int32) = 0 by decide), if_neg (show ¬ true = false by decide), if_neg (show ¬ (false && !decide (ymd (b q) = b 74 % 2)) = true by simp)]
      unfold fX5_door_55
      rw [m_ref0, zbd_S]
      dsimp only
      rw [if_pos (show (0 : Int32) = 0 from rfl), m_turn h hv.1, zbd_S, m_isBeside h hv.1 hs hq, zbd_S]
      cases gb : yar (ypc b (b 74 % 2)) q with
      | false =>
        rw [yb_f, if_pos rfl, if_pos rfl]
        exact ⟨fun _ => rfl, fun z => absurd z (show ¬ (6 : Nat) = 0 by decide)⟩
      | true =>
        rw [yb_t, if_neg (show ¬ (1 : Int32) = 0 by decide), if_neg (show ¬ true = false by decide), if_neg (show ¬ (false && decide (ykk (b q) = 3) && decide (ykq b (b 74 % 2) < 36)) = true by simp)]
        unfold fX5_door_81 ypp
        rw [m_ref0, zbd_S, if_neg ynft]
        show (_ → zbd (fX5_isTooDear now reason detail (nI 3)) _ = _) ∧ (_ → ∃ n' c' q' f', zbd (fX5_isTooDear now reason detail (nI 3)) _ = _ ∧ _)
        rw [m_tooDear h hv.1 reason detail (by omega), zbd_S]
        by_cases gd : b (72 + b 74 % 2) < 3
        · rw [if_pos gd, if_pos gd, if_pos gd, decide_eq_true gd]
          exact ⟨fun _ => rfl, fun z => absurd z (by decide : ¬ (8 : Nat) = 0)⟩
        · rw [if_neg gd, if_neg gd, if_neg gd, decide_eq_false gd]
          refine ⟨fun z => absurd rfl z, fun _ => ?_⟩
          have hlt := hv.2.1 g
          have gw' : 20 ≤ b q := of_decide_eq_true gw
          obtain ⟨v1, v2⟩ := yV_db hv hq hlt
          have hN : yN (upd (upd (upd now q 0) (36 + q) (nI (b 74 % 2 + 1))) (72 + b 74 % 2) (nI (b (72 + b 74 % 2) - 3))) (ydb b q) := yN_put (yN_put (yN_put h q 0) (36 + q) _) _ _
          obtain ⟨n', c', q', f', e1, e2⟩ := m_endTurn hN v1 (by rw [ydb_74 hq]; exact hlt) false comes queue far
          rw [ydb_74 hq] at e1
          refine ⟨n', c', q', f', ?_, e2⟩
          show fX5_door_103 isInText 0 now hist kept reason detail comes queue far (nI q) 0 2 = _
          unfold fX5_door_103
          rw [m_fails0, zbd_S]
          show zbd (fX5_change now hist kept isInText) _ = _
          rw [hch, zbd_S, m_turn h hv.1, zbd_S, zck_N (by omega) (by omega), show (36 : Int32) + nI q = nI (36 + q) from nI_add 36 q, zck_N (by omega) (by omega), show (72 : Int32) + nI (b 74 % 2) = nI (72 + b 74 % 2) from nI_add 72 _, zbn_E, zck_N (by omega) (by omega), zck_N (by omega) (by omega), tn_n (show q < 2000 by omega), tn_n (show 36 + q < 2000 by omega), tn_n (show 72 + b 74 % 2 < 2000 by omega), nI_1]
          have e5 : upd (upd now q 0) (36 + q) (nI (b 74 % 2 + 1)) (72 + b 74 % 2) - 3 = nI (b (72 + b 74 % 2) - 3) := by
            have : upd (upd now q 0) (36 + q) (nI (b 74 % 2 + 1)) (72 + b 74 % 2) = nI (b (72 + b 74 % 2)) := by
              unfold upd
              rw [if_neg (by omega), if_neg (by omega)]
              exact h _ (by omega)
            rw [this]
            exact pk_sub (b := 3) (by omega)
          rw [e5, show (0 : Int32) = yb false from rfl]
          have e1' : fX5_endTurn (upd (upd (upd now q (yb false)) (36 + q) (nI (b 74 % 2 + 1))) (72 + b 74 % 2) (nI (b (72 + b 74 % 2) - 3))) comes queue far (nI (b 74 % 2)) (yb false) = some (n', c', q', f') := e1
          rw [e1', zbd_S]
          rw [zck_N (by omega) (by omega)]
          have e6 : n' (72 + b 74 % 2) = nI (b (72 + b 74 % 2) - 3) := by
            rw [e2 _ (by omega)]
            rw [yet_lo (by omega)]
            unfold ydb
            rw [yput_s]
          show some (n' (72 + b 74 % 2), _, n', H, K, reason, detail, c', q', f') = _
          rw [e6]
  · rw [if_pos (show b 75 ≠ 0 from g), decide_eq_true (show b 75 ≠ 0 from g), yb_t, m_ref1, zbd_S]
    exact ⟨fun _ => rfl, fun z => absurd z (by decide : ¬ (1 : Nat) = 0)⟩
theorem m_move {now : Nat → Int32} {b : Nat → Nat} (h : yN now b) (hv : yV2 b) {p t : Nat} (hp : p < 36) (ht : t < 36) (thrown : Int32) {hist H : Nat → Nat → Int32} {kept K : Int32} (reason detail : Int32) (comes queue far : Nat → Int32) {isInText : Int32} (hch : fX5_change now hist kept isInText = some (H, K)) :
    ((ymr b p t).1 ≠ 0 → ∃ c' q' f', fX5_move thrown now hist kept reason detail comes queue far isInText (nI p) (nI t) = some (0, 2, now, hist, kept, nI (ymr b p t).1, nI (ymr b p t).2, c', q', f')) ∧
    ((ymr b p t).1 = 0 → ∃ n' c' q' f', fX5_move thrown now hist kept reason detail comes queue far isInText (nI p) (nI t) = some (nI (fb_ct (yCs b p t) 36), 0, n', H, K, reason, detail, c', q', f') ∧ yN n' (ytm b p t)) := by
  obtain ⟨c', q', f', e⟩ := m_moveRef h hv.1 hp ht reason detail comes queue far
  unfold fX5_move
  rw [m_isSquare p hp, zbd_S, if_neg (show ¬ (1 : Int32) = 0 by decide), m_isSquare t ht, zbd_S, if_neg (show ¬ (1 : Int32) = 0 by decide)]
  unfold fX5_move_21
  rw [m_fails0, zbd_S]
  show (_ → ∃ c' q' f', zbd (fX5_isMoveRefused now reason detail comes queue far (nI p) (nI t)) _ = _) ∧ (_ → ∃ n' c' q' f', zbd (fX5_isMoveRefused now reason detail comes queue far (nI p) (nI t)) _ = _ ∧ _)
  rw [e, zbd_S]
  by_cases g : (ymr b p t).1 = 0
  · refine ⟨fun z => absurd g z, fun _ => ?_⟩
    rw [if_neg (fun z => z g), if_neg (fun z => z g), decide_eq_false (fun z => z g)]
    have hall : b 75 = 0 ∧ ypc b (b 74 % 2) p = true ∧ yTg b p t = true := by
      unfold ymr at g
      by_cases g1 : b 75 = 0
      · rw [if_neg (show ¬ b 75 ≠ 0 by omega)] at g
        cases g2 : ypc b (b 74 % 2) p with
        | false => rw [g2, if_pos rfl] at g; cases g
        | true =>
          cases g3 : yTg b p t with
          | false => rw [g2, g3, if_neg (by decide), if_pos rfl] at g; cases g
          | true => exact ⟨g1, rfl, rfl⟩
      · rw [if_pos (show b 75 ≠ 0 from g1)] at g; cases g
    have hsd : ysd (b p) = b 74 % 2 := of_decide_eq_true hall.2.1
    obtain ⟨n', c2, q2, f2, d1, d2⟩ := m_doMove h hv hp ht hsd hall.2.2 (hv.2.1 hall.1) c' q' f'
    refine ⟨n', c2, q2, f2, ?_, d2⟩
    show zbd (fX5_change now hist kept isInText) _ = _
    rw [hch, zbd_S]
    show zbd (fX5_doMove now c' q' f' (nI p) (nI t)) _ = _
    rw [d1, zbd_S]
  · refine ⟨fun _ => ?_, fun z => absurd z g⟩
    rw [if_pos g, if_pos g, decide_eq_true g]
    exact ⟨c', q', f', rfl⟩

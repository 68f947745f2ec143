/-! PURE 21: a piece bought in the model; what an accepted purchase tells -/
theorem y_pr0f {b : Nat → Nat} {q : Nat} (h : (ypr b q false).1 = 0) : b 75 = 0 ∧ 20 ≤ b q ∧ 3 ≤ b (72 + b 74 % 2) := by
  unfold ypr at h
  by_cases g : b 75 = 0
  · rw [if_neg (show ¬ b 75 ≠ 0 by omega)] at h
    cases gw : ywl (b q) with
    | false => rw [gw, if_pos rfl] at h; exact absurd h (show ¬ (4 : Nat) = 0 by decide)
    | true =>
      rw [gw, if_neg (show ¬ true = false by decide), if_neg (show ¬ (false && !decide (ymd (b q) = b 74 % 2)) = true by simp)] at h
      cases gb : yar (ypc b (b 74 % 2)) q with
      | false => rw [gb, if_pos rfl] at h; exact absurd h (show ¬ (6 : Nat) = 0 by decide)
      | true =>
        rw [gb, if_neg (show ¬ true = false by decide), if_neg (show ¬ (false && decide (ykk (b q) = 3) && decide (ykq b (b 74 % 2) < 36)) = true by simp)] at h
        unfold ypp at h
        rw [if_neg ynft] at h
        by_cases gd : b (72 + b 74 % 2) < 3
        · rw [if_pos gd] at h; exact absurd h (show ¬ (8 : Nat) = 0 by decide)
        · exact ⟨g, of_decide_eq_true gw, by omega⟩
  · rw [if_pos (show b 75 ≠ 0 from g)] at h; exact absurd h (show ¬ (1 : Nat) = 0 by decide)
theorem y_pr0t {b : Nat → Nat} {q : Nat} (hv : yV b) (hq : q < 36) (h : (ypr b q true).1 = 0) : b 75 = 0 ∧ 20 ≤ b q ∧ ymd (b q) = b 74 % 2 ∧ 2 + ykk (b q) ≤ b (72 + b 74 % 2) ∧ ∀ s, s ≤ 1 → b q = 24 + 4 * s → ∀ r, r < 36 → b r ≠ 4 + 4 * s := by
  have hc28 := yV_28 hv hq
  unfold ypr at h
  by_cases g : b 75 = 0
  · rw [if_neg (show ¬ b 75 ≠ 0 by omega)] at h
    cases gw : ywl (b q) with
    | false => rw [gw, if_pos rfl] at h; exact absurd h (show ¬ (4 : Nat) = 0 by decide)
    | true =>
      rw [gw, if_neg (show ¬ true = false by decide)] at h
      by_cases gm : ymd (b q) = b 74 % 2
      · rw [decide_eq_true gm, if_neg (show ¬ (true && !true) = true by decide)] at h
        cases gb : yar (ypc b (b 74 % 2)) q with
        | false => rw [gb, if_pos rfl] at h; exact absurd h (show ¬ (6 : Nat) = 0 by decide)
        | true =>
          rw [gb, if_neg (show ¬ true = false by decide)] at h
          by_cases gk : (true && decide (ykk (b q) = 3) && decide (ykq b (b 74 % 2) < 36)) = true
          · rw [if_pos gk] at h; exact absurd h (show ¬ (7 : Nat) = 0 by decide)
          · rw [if_neg gk] at h
            unfold ypp at h
            rw [if_pos rfl] at h
            by_cases gd : b (72 + b 74 % 2) < 2 + ykk (b q)
            · rw [if_pos gd] at h; exact absurd h (show ¬ (8 : Nat) = 0 by decide)
            · refine ⟨g, of_decide_eq_true gw, gm, by omega, fun s hs e r hr => ?_⟩
              have es : s = b 74 % 2 := by
                rw [← gm, e]
                rcases (show s = 0 ∨ s = 1 by omega) with rfl | rfl <;> decide
              have ek : ykk (b q) = 3 := by
                rw [e]
                rcases (show s = 0 ∨ s = 1 by omega) with rfl | rfl <;> decide
              have hn : ¬ ykq b (b 74 % 2) < 36 := fun z => gk (by rw [decide_eq_true ek, decide_eq_true z]; rfl)
              rcases ykq_K b (b 74 % 2) with ⟨u, u1, u2, u3⟩ | ⟨u1, u2⟩
              · exfalso
                rw [yI_ge (by omega)] at u3
                have hn1 : ∀ q, q < 36 → ¬ nI q = -1 := by decide +kernel
                exact hn1 u u1 u3.symm
              · rw [es]; exact u1 r hr
      · rw [decide_eq_false gm, if_pos (show (true && !false) = true by decide)] at h; exact absurd h (show ¬ (5 : Nat) = 0 by decide)
  · rw [if_pos (show b 75 ≠ 0 from g)] at h; exact absurd h (show ¬ (1 : Nat) = 0 by decide)
theorem m_buy {now : Nat → Int32} {b : Nat → Nat} (h : yN now b) (hv : yV2 b) {q : Nat} (hq : q < 36) (thrown : Int32) {hist H : Nat → Nat → Int32} {kept K : Int32} (reason detail : Int32) (comes queue far : Nat → Int32) {isInText : Int32} (hch : fX5_change now hist kept isInText = some (H, K)) :
    ((ypr b q true).1 ≠ 0 → fX5_buy thrown now hist kept reason detail comes queue far isInText (nI q) = some (0, 2, now, hist, kept, nI (ypr b q true).1, nI (ypr b q true).2, comes, queue, far)) ∧
    ((ypr b q true).1 = 0 → ∃ n' c' q' f', fX5_buy thrown now hist kept reason detail comes queue far isInText (nI q) = some (nI (b (72 + b 74 % 2) - (2 + ykk (b q))), 0, n', H, K, reason, detail, c', q', f') ∧ yN n' (ybu b q)) := by
  have hs : b 74 % 2 ≤ 1 := by omega
  have hc28 := yV_28 hv.1 hq
  unfold fX5_buy
  rw [m_isSquare q hq, zbd_S, if_neg (show ¬ (1 : Int32) = 0 by decide)]
  unfold fX5_buy_14
  rw [m_fails0, zbd_S]
  dsimp only
  rw [if_pos (show (0 : Int32) = 0 from rfl), m_buyRef h hv.1 hq reason detail, zbd_S]
  unfold yrs yrd
  by_cases g : (ypr b q true).1 = 0
  · refine ⟨fun z => absurd g z, fun _ => ?_⟩
    obtain ⟨p1, p2, p3, p4, p5⟩ := y_pr0t hv.1 hq g
    have hlt := hv.2.1 p1
    obtain ⟨v1, v2⟩ := yV_bb hv hq hlt p2 p5
    obtain ⟨md1, md2⟩ := y_md20 (b q) (by omega) p2
    have gk3 : ykd (b q - 20) ≤ 3 := by rw [← md2]; exact y_md3 (b q) (by omega) (by omega)
    rw [if_neg (fun z => z g), if_neg (fun z => z g), decide_eq_false (fun z => z g), yb_f]
    dsimp only
    rw [m_fails0, zbd_S]
    dsimp only
    have hN : yN (upd (upd now q (nI (b q - 20))) (72 + b 74 % 2) (nI (b (72 + b 74 % 2) - (2 + ykk (b q))))) (ybb b q) := yN_put (yN_put h q _) _ _
    obtain ⟨n', c', q', f', e1, e2⟩ := m_endTurn hN v1 (by rw [ybb_74 hq]; exact hlt) false comes queue far
    rw [ybb_74 hq] at e1
    refine ⟨n', c', q', f', ?_, e2⟩
    rw [if_pos (show (0 : Int32) = 0 from rfl), hch, zbd_S, m_turn h hv.1, zbd_S, zck_N (by omega) (by omega), zck_N (by omega) (by omega), show (72 : Int32) + nI (b 74 % 2) = nI (72 + b 74 % 2) from nI_add 72 _, zbn_E, zck_N (by omega) (by omega), zck_N (by omega) (by omega), tn_n (show q < 2000 by omega), tn_n (show 72 + b 74 % 2 < 2000 by omega), h q (by omega), show nI (b q) - 20 = nI (b q - 20) from pk_sub (b := 20) p2,
      show upd now q (nI (b q - 20)) q = nI (b q - 20) from if_pos rfl, m_kindOf _ (by omega), zbd_S, yI_lt gk3, zck_N (by omega) (by omega), show (2 : Int32) + nI (ykd (b q - 20)) = nI (2 + ykd (b q - 20)) from nI_add 2 _]
    have e5 : upd now q (nI (b q - 20)) (72 + b 74 % 2) - nI (2 + ykd (b q - 20)) = nI (b (72 + b 74 % 2) - (2 + ykk (b q))) := by
      have : upd now q (nI (b q - 20)) (72 + b 74 % 2) = nI (b (72 + b 74 % 2)) := by
        unfold upd
        rw [if_neg (by omega)]
        exact h _ (by omega)
      rw [this, md2]
      exact pk_sub (by omega)
    rw [e5]
    have e1' : fX5_endTurn (upd (upd now q (nI (b q - 20))) (72 + b 74 % 2) (nI (b (72 + b 74 % 2) - (2 + ykk (b q))))) comes queue far (nI (b 74 % 2)) 0 = some (n', c', q', f') := e1
    rw [e1', zbd_S]
    rw [zck_N (by omega) (by omega)]
    have e6 : n' (72 + b 74 % 2) = nI (b (72 + b 74 % 2) - (2 + ykk (b q))) := by
      rw [e2 _ (by omega), yet_lo (by omega)]
      unfold ybb
      rw [yput_s]
    show some (n' (72 + b 74 % 2), _, n', H, K, reason, detail, c', q', f') = _
    rw [e6]
  · refine ⟨fun _ => ?_, fun z => absurd z g⟩
    rw [if_pos g, if_pos g, decide_eq_true g, yb_t]
    dsimp only
    rw [m_fails1, zbd_S]
    rfl

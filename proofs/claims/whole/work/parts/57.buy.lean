/-! PURE 17: doors and pieces bought -/
theorem m_isBeside {now : Nat → Int32} {b : Nat → Nat} (h : yN now b) (hv : yV b) {s q : Nat} (hs : s ≤ 1) (hq : q < 36) : fX5_isBeside now (nI q) (nI s) = some (yb (yar (ypc b s) q)) := by
  have e4 : yw4 (fun w => decide (ynb q w < 36) && ypc b s (ynb q w)) 4 = yar (ypc b s) q := by
    have : yw4 (fun w => decide (ynb q w < 36) && ypc b s (ynb q w)) 4 = true ↔ yar (ypc b s) q = true := by
      rw [yw4_t, yar_t]
      constructor
      · rintro ⟨w, a, c⟩
        obtain ⟨c1, c2⟩ := (Bool.and_eq_true _ _).mp c
        exact ⟨w, a, of_decide_eq_true c1, c2⟩
      · rintro ⟨w, a, c1, c2⟩
        exact ⟨w, a, (Bool.and_eq_true _ _).mpr ⟨decide_eq_true c1, c2⟩⟩
    revert this
    cases yw4 (fun w => decide (ynb q w < 36) && ypc b s (ynb q w)) 4 <;> cases yar (ypc b s) q <;> simp
  have hl : ∀ d w n, w + d = 4 → d < n → fX5_isBeside_5 now n (nI q) (nI s) (yb (yw4 (fun w => decide (ynb q w < 36) && ypc b s (ynb q w)) w)) (nI w) = some (yb (yar (ypc b s) q)) := by
    intro d
    induction d with
    | zero =>
      intro w n hw hn
      cases n with
      | zero => omega
      | succ n =>
        rw [fX5_isBeside_5, if_pos (show (4 : Int32) ≤ nI w from nI_le (a := 4) (by omega) (by omega)), zbo_b, show w = 4 by omega, e4]
    | succ d ih =>
      intro w n hw hn
      cases n with
      | zero => omega
      | succ n =>
        rw [fX5_isBeside_5, if_neg (show ¬ (4 : Int32) ≤ nI w from nI_ge (b := 4) (by omega) (by omega)), m_next q hq w (by omega), zbd_S]
        unfold fX5_isBeside_43 fX5_isBeside_44
        have hstep : ∀ c : Bool, (decide (ynb q w < 36) && ypc b s (ynb q w)) = c → fX5_isBeside_5 now n (nI q) (nI s) (yb (yw4 (fun w => decide (ynb q w < 36) && ypc b s (ynb q w)) w) ||| yb c) (nI (w + 1)) = some (yb (yar (ypc b s) q)) := fun c hc => by
          rw [yb_or, ← hc]
          exact ih (w + 1) n (by omega) (by omega)
        by_cases g : ynb q w < 36
        · have hc28 := yV_28 hv g
          rw [yI_lt (show ynb q w ≤ 35 by omega), if_neg (nI_pos (by omega)), zck_N (by omega) (by omega), tn_n (by omega), h _ (by omega), m_sideOf _ (by omega), zbd_S]
          by_cases g2 : ysd (b (ynb q w)) = s
          · rw [if_pos ((yI_sd hs).mpr g2), zbn_E, zbn_E, nI_1]
            exact hstep true (by unfold ypc; rw [decide_eq_true g, decide_eq_true g2]; rfl)
          · rw [if_neg (fun z => g2 ((yI_sd hs).mp z)), zbn_E, zbn_E, nI_1]
            exact hstep false (by unfold ypc; rw [decide_eq_false g2, Bool.and_false])
        · rw [yI_ge (show ¬ ynb q w ≤ 35 by omega), if_pos (by decide), zbn_E, zbn_E, nI_1]
          exact hstep false (by rw [decide_eq_false g, Bool.false_and])
  unfold fX5_isBeside
  exact hl 4 0 zFu (by omega) (by unfold zFu; omega)
theorem m_tooDear {now : Nat → Int32} {b : Nat → Nat} (h : yN now b) (hv : yV b) (reason detail : Int32) {m : Nat} (hm : m < 8) :
    fX5_isTooDear now reason detail (nI m) = some (yb (decide (b (72 + b 74 % 2) < m)), (if b (72 + b 74 % 2) < m then 8 else reason), (if b (72 + b 74 % 2) < m then nI (m - b (72 + b 74 % 2)) else detail)) := by
  have h74 := yV_74 hv
  have hb : b (72 + b 74 % 2) ≤ 1000 := by
    rcases (show b 74 % 2 = 0 ∨ b 74 % 2 = 1 by omega) with e | e <;> rw [e]
    · exact h74.1
    · exact h74.2.1
  unfold fX5_isTooDear
  rw [m_turn h hv, zbd_S, show (72 : Int32) + nI (b 74 % 2) = nI (72 + b 74 % 2) from nI_add 72 _, zck_N (by omega) (by omega), tn_n (by omega), h _ (by omega), zbn_E]
  unfold fX5_isTooDear_24
  by_cases g : b (72 + b 74 % 2) < m
  · rw [if_neg (nI_ge (by omega) (by omega)), show (1 : Int32) = yb true from rfl, m_refuse, zbd_S, pk_sub (by omega), decide_eq_true g, if_pos g, if_pos g]
    rfl
  · rw [if_pos (nI_le (by omega) (by omega)), show (0 : Int32) = yb false from rfl, m_refuse, zbd_S, decide_eq_false g, if_neg g, if_neg g]
    rfl
/-- why a purchase is refused, as the model holds it -/
def yrs (x : Nat × Nat) (reason : Int32) : Int32 := if x.1 ≠ 0 then nI x.1 else reason
def yrd (x : Nat × Nat) (detail : Int32) : Int32 := if x.1 ≠ 0 then nI x.2 else detail
theorem y_md20 : ∀ c, c < 29 → 20 ≤ c → ymd c = ysd (c - 20) ∧ ykk c = ykd (c - 20) := by decide +kernel
theorem m_ref0 (reason detail r d : Int32) : fX5_refuse reason detail 0 r d = some (0, reason, detail) := rfl
theorem m_ref1 (reason detail r d : Int32) : fX5_refuse reason detail 1 r d = some (1, r, d) := rfl
theorem m_buyRef {now : Nat → Int32} {b : Nat → Nat} (h : yN now b) (hv : yV b) {q : Nat} (hq : q < 36) (reason detail : Int32) :
    fX5_isBuyRefused now reason detail (nI q) = some (yb (decide ((ypr b q true).1 ≠ 0)), yrs (ypr b q true) reason, yrd (ypr b q true) detail) := by
  have hs : b 74 % 2 ≤ 1 := by omega
  have hc28 := yV_28 hv hq
  unfold fX5_isBuyRefused ypr
  rw [m_turn h hv, zbd_S, m_isOver h hv, zbd_S, zk_74, tn_74, h 74 (by omega)]
  by_cases g : b 75 = 0
  · rw [if_neg (show ¬ b 75 ≠ 0 by omega), decide_eq_false (show ¬ b 75 ≠ 0 by omega), yb_f, m_ref0, zbd_S]
    show (if (yb false) = 0 then zbd (fX5_isWall now (nI q)) _ else _) = _
    rw [yb_f, if_pos rfl, m_isWall h hv hq, zbd_S]
    unfold fX5_isBuyRefused_38
    cases gw : ywl (b q) with
    | false =>
      rw [yb_f, if_pos rfl, if_pos rfl]
      rfl
    | true =>
      have gw' : 20 ≤ b q := of_decide_eq_true gw
      obtain ⟨md1, md2⟩ := y_md20 (b q) (by omega) gw'
      rw [yb_t, if_neg (show ¬ (1 : Int32) = 0 by decide), if_neg (show ¬ true = false by decide)]
      show zbd (fX5_refuse reason detail 0 4 (nI q)) _ = _
      rw [m_ref0, zbd_S]
      show (if (yb false) = 0 then zck (zin (nI q) 76) _ else _) = _
      rw [yb_f, if_pos rfl, zck_N (by omega) (by omega), tn_n (by omega), h q (by omega), show nI (b q) - 20 = nI (b q - 20) from pk_sub (b := 20) gw', zbn_E, m_kq h hv hs, zbd_S, m_sideOf _ (by omega), zbd_S]
      unfold fX5_isBuyRefused_79
      rw [md1, md2]
      by_cases gm : ysd (b q - 20) = b 74 % 2
      · have gk3 : ykd (b q - 20) ≤ 3 := (ysk _ (by omega)).1.mp (by omega)
        rw [if_pos ((yI_sd hs).mpr gm), decide_eq_true gm, if_neg (show ¬ (true && !true) = true by decide)]
        show zbd (fX5_refuse reason detail 0 5 (nI q)) _ = _
        rw [m_ref0, zbd_S]
        show (if (yb false) = 0 then zbd (fX5_isBeside now (nI q) (nI (b 74 % 2))) _ else _) = _
        rw [yb_f, if_pos rfl, m_isBeside h hv hs hq, zbd_S]
        unfold fX5_isBuyRefused_102
        cases gb : yar (ypc b (b 74 % 2)) q with
        | false => rw [yb_f, if_pos rfl, if_pos rfl]; rfl
        | true =>
          rw [yb_t, if_neg (show ¬ (1 : Int32) = 0 by decide), if_neg (show ¬ true = false by decide)]
          show zbd (fX5_refuse reason detail 0 6 (nI q)) _ = _
          rw [m_ref0, zbd_S]
          show (if (yb false) = 0 then zbd (fX5_kindOf (nI (b q - 20))) _ else _) = _
          rw [yb_f, if_pos rfl, m_kindOf _ (by omega), zbd_S, yI_lt gk3]
          have h130 : ∀ x4, fX5_isBuyRefused_130 now reason detail (nI (b q - 20)) x4 (yb false) = some (yb (decide ((if b (72 + b 74 % 2) < ypp b q true then (8, ypp b q true - b (72 + b 74 % 2)) else (0, 0) : Nat × Nat).1 ≠ 0)), yrs (if b (72 + b 74 % 2) < ypp b q true then (8, ypp b q true - b (72 + b 74 % 2)) else (0, 0)) reason, yrd (if b (72 + b 74 % 2) < ypp b q true then (8, ypp b q true - b (72 + b 74 % 2)) else (0, 0)) detail) := fun x4 => by
            unfold fX5_isBuyRefused_130
            rw [show yb false = (0 : Int32) from rfl, m_ref0, zbd_S]
            show (if (yb false) = 0 then zbd (fX5_kindOf (nI (b q - 20))) _ else _) = _
            rw [yb_f, if_pos rfl, m_kindOf _ (by omega), zbd_S, yI_lt gk3, show (2 : Int32) + nI (ykd (b q - 20)) = nI (2 + ykd (b q - 20)) from nI_add 2 _]
            show zbd (fX5_isTooDear now reason detail (nI (2 + ykd (b q - 20)))) _ = _
            rw [m_tooDear h hv reason detail (by omega), zbd_S]
            unfold ypp
            rw [if_pos rfl, md2]
            by_cases gd : b (72 + b 74 % 2) < 2 + ykd (b q - 20)
            · rw [if_pos gd, if_pos gd, if_pos gd, decide_eq_true gd]; rfl
            · rw [if_neg gd, if_neg gd, if_neg gd, decide_eq_false gd]; rfl
          by_cases gk : ykd (b q - 20) = 3
          · rw [if_pos (by rw [gk]; rfl), decide_eq_true gk]
            by_cases gq : ykq b (b 74 % 2) < 36
            · rw [yI_lt (show ykq b (b 74 % 2) ≤ 35 by omega), if_neg (nI_pos (by omega)), if_pos (show (true && true && decide (ykq b (b 74 % 2) < 36)) = true by simp [gq])]
              rfl
            · rw [yI_ge (show ¬ ykq b (b 74 % 2) ≤ 35 by omega), if_pos (by decide), if_neg (show ¬ (true && true && decide (ykq b (b 74 % 2) < 36)) = true by simp [gq])]
              exact h130 _
          · have hz3 : ¬ nI (ykd (b q - 20)) = (3 : Int32) := fun z => gk ((nI_eq (b := 3) (by omega) (by omega)).mp z)
            rw [if_neg hz3, if_neg (show ¬ (true && decide (ykd (b q - 20) = 3) && decide (ykq b (b 74 % 2) < 36)) = true by simp [gk])]
            exact h130 _
      · rw [if_neg (fun z => gm ((yI_sd hs).mp z)), decide_eq_false gm, if_pos (show (true && !false) = true by decide)]
        rfl
  · rw [if_pos (show b 75 ≠ 0 from g), decide_eq_true (show b 75 ≠ 0 from g), yb_t, m_ref1, zbd_S]
    rfl

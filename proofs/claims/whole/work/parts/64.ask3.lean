/-! PURE 24: sealedAgain, square, account -/
theorem q_sealedAgain {f : Nat → Int64} {now : Nat → Int32} {b : Nat → Nat} (hP : yP f b) (hN : yN now b) (hv : yV b) (thrown : Int32) (queue far : Nat → Int32) (p : Int32) :
    ∃ (x y : Int32) (o : Nat) (t : Int32) (q' f' : Nat → Int32), fX4_sealedAgain f p = some (o, x) ∧ fX5_sealedAgain thrown now queue far p = some (y, t, q', f') ∧ ((o = 0 ∧ t = 0 ∧ x = y) ∨ (o = 1 ∧ t = 1)) := by
  unfold fX4_sealedAgain fX5_sealedAgain
  rcases y_sd p with ⟨s, hs, rfl, e1, e2⟩ | ⟨e1, e2⟩
  · obtain ⟨q', far', d1, d2⟩ := m_findSteps hN hv hs queue far
    rw [e1, e2, zbd_S, zbd_S, if_pos rfl, if_neg (show ¬ (1 : Int32) = 0 by decide), c_byReach hP hs, zbd_S]
    unfold fX5_sealedAgain_14
    rw [m_fails0, zbd_S]
    dsimp only
    rw [if_pos (show (0 : Int32) = 0 from rfl), d1, zbd_S]
    dsimp only
    have hl : fX5_sealedAgain_31 now zFu 0 q' far' (nI s) 0 0 = some (nI (fb_ct (fun i => yop b s i && !yR (yop b s) (ypc b s) 36 i) 36), 0, q', far') := by
      refine lp_ct0 (fun n a x => fX5_sealedAgain_31 now n 0 q' far' (nI s) a (nI x)) (fun a => some (a, 0, q', far')) (fun i => yop b s i && !yR (yop b s) (ypc b s) 36 i) 36 (by omega) (fun n a x h1 h2 => ?_) (fun n a x hx => ?_)
      · show fX5_sealedAgain_31 now (n + 1) 0 q' far' (nI s) a (nI x) = some (a, 0, q', far')
        rw [fX5_sealedAgain_31, if_pos (show (36 : Int32) ≤ nI x from nI_le (a := 36) (by omega) (by omega))]
      · show fX5_sealedAgain_31 now (n + 1) 0 q' far' (nI s) a (nI x) = fX5_sealedAgain_31 now n 0 q' far' (nI s) (a + yb (yop b s x && !yR (yop b s) (ypc b s) 36 x)) (nI (x + 1))
        rw [fX5_sealedAgain_31, if_neg (show ¬ (36 : Int32) ≤ nI x from nI_ge (b := 36) (by omega) (by omega)), m_isOpen hN hv hs hx, zbd_S]
        unfold fX5_sealedAgain_60 fX5_sealedAgain_61
        have hR : ∀ n, yRs (yop b s) (ypc b s) n x = yR (yop b s) (ypc b s) n x := fun n => yRs_R (fun i hi g => y_pc_op hv hs hi g) n x hx
        cases ho : yop b s x with
        | false => rw [yb_f, if_pos rfl, zbn_E, zbn_E, ← nI_1 x]; rfl
        | true =>
          rw [yb_t, if_neg (show ¬ (1 : Int32) = 0 by decide), zck_N hx (by omega), tn_n (by omega)]
          rcases d2 x hx with ⟨d, f1, f2, f3⟩ | ⟨f2, f3⟩
          · have : yR (yop b s) (ypc b s) 36 x = true := by rw [← hR, f3 36]; omega
            rw [f2, if_pos (nI_pos' (by omega)), this, zbn_E, zbn_E, ← nI_1 x]; rfl
          · have : yR (yop b s) (ypc b s) 36 x = false := by rw [← hR]; exact f3 36
            rw [f2, if_neg (show ¬ (0 : Int32) ≤ -1 by decide), this, zbn_E, zbn_E, ← nI_1 x]; rfl
    rw [hl]
    exact ⟨_, _, _, _, _, _, rfl, rfl, Or.inl ⟨rfl, rfl, rfl⟩⟩
  · rw [e1, e2, zbd_S, zbd_S, if_neg (by decide), if_pos rfl]
    exact ⟨_, _, _, _, _, _, rfl, rfl, Or.inr ⟨rfl, rfl⟩⟩
theorem y_sqc : ∀ c, c < 29 → (c ≤ 8 ∨ 20 ≤ c) → (if 20 ≤ c then c - 20 else c) < 29 ∧ ykd (if 20 ≤ c then c - 20 else c) = ykk c := by decide +kernel
theorem q_square {f : Nat → Int64} {now : Nat → Int32} {b : Nat → Nat} (hP : yP f b) (hN : yN now b) (hv : yV b) (thrown : Int32) (p1 p2 : Int32) :
    ∃ (x y : Int32) (o : Nat) (t : Int32), fX4_square f p1 p2 = some (o, x) ∧ fX5_square thrown now p1 p2 = some (y, t) ∧ ((o = 0 ∧ t = 0 ∧ x = y) ∨ (o = 1 ∧ t = 1) ∨ (o = 2 ∧ t = 2)) := by
  unfold fX4_square fX5_square
  rcases y_sq p1 with ⟨q, hq, rfl, e1, e2⟩ | ⟨e1, e2⟩
  · rw [e1, e2, zbd_S, zbd_S, if_pos rfl, if_neg (show ¬ (1 : Int32) = 0 by decide)]
    unfold fX5_square_14
    rw [m_fails0, zbd_S]
    dsimp only
    rw [if_pos (show (0 : Int32) = 0 from rfl)]
    have hc := hv.1 q hq
    have hd2 := hv.2.1 q hq
    have hc28 := yV_28 hv hq
    have hdw := hv.2.2.1 q hq
    have hdp := hv.2.2.2.1 q hq
    rcases y_between p2 3 (by omega) with ⟨m, hm, rfl⟩ | hout
    · rw [if_neg (nI_pos (by omega)), if_pos (show nI m < (4 : Int32) from nI_lt (b := 4) (by omega) (by omega)), show fX5_isBetween (nI m) 0 3 = some 1 from y_btw1 (lo := 0) (hi := 3) (by omega) hm (by omega), zbd_S, if_neg (show ¬ (1 : Int32) = 0 by decide)]
      unfold fX5_square_36
      rw [m_fails0, zbd_S]
      dsimp only
      rw [if_pos (show (0 : Int32) = 0 from rfl), show (36 : Int32) + nI q = nI (36 + q) from nI_add 36 q, zck_N (by omega) (by omega), zbn_E, m_isWall hN hv hq, zbd_S, tn_n (show 36 + q < 2000 by omega), hN (36 + q) (by omega), tn_n (show q < 2000 by omega), hN q (by omega)]
      -- the code without its wall
      generalize hcd : (if 20 ≤ b q then b q - 20 else b q) = cd
      have hcd29 : cd < 29 := by rw [← hcd]; split <;> omega
      have e80 : (if yb (ywl (b q)) = 0 then zck (zin (nI q) 76) (fX5_square_80 now 0 (nI q) (nI m) (nI (b (36 + q))) (nI (b q))) else zck (zin (nI q) 76) (fX5_square_80 now 0 (nI q) (nI m) (nI (b (36 + q))) (nI (b q) - 20))) = fX5_square_80 now 0 (nI q) (nI m) (nI (b (36 + q))) (nI cd) := by
        rw [zck_N (by omega) (by omega), zck_N (by omega) (by omega)]
        unfold ywl
        by_cases g : 20 ≤ b q
        · rw [if_pos g] at hcd
          rw [decide_eq_true g, if_neg (by decide), show nI (b q) - 20 = nI (b q - 20) from pk_sub (b := 20) g, hcd]
        · rw [if_neg g] at hcd
          rw [decide_eq_false g, if_pos (by decide), hcd]
      rw [e80]
      unfold fX5_square_80
      have hdd : (decide (b (36 + q) = 1) || decide (b (36 + q) = 2)) = decide (b (36 + q) ≠ 0) := by
        rcases (show b (36 + q) = 0 ∨ b (36 + q) = 1 ∨ b (36 + q) = 2 by omega) with e | e | e <;> rw [e] <;> rfl
      have hcz : cd = 0 ↔ (b q = 0 ∨ b q = 20) := by rw [← hcd]; split <;> omega
      rcases (show m = 0 ∨ m = 1 ∨ m = 2 ∨ m = 3 by omega) with rfl | rfl | rfl | rfl
      · rw [if_pos (show nI 0 = (0 : Int32) from rfl), if_pos (show nI 0 = (0 : Int32) from rfl), c_whatOn hP hq, zbd_S, m_isWall hN hv hq, zbd_S]
        have key : (if yb (ywl (b q)) = 0 then (if nI cd = 0 then (if nI (b (36 + q)) ≤ 0 then some ((0 : Int32), (0 : Int32)) else some (3, 0)) else some (1, 0)) else some (2, 0)) = some (nI (ywh b q), 0) := by
          unfold ywh ypc ywl
          by_cases g : 20 ≤ b q
          · have := (y_code4 (b q) (by omega) g).1
            rw [decide_eq_true g, if_neg (by decide), this]
            rfl
          · have g8 : b q ≤ 8 := by omega
            have g3 := y_code3 (b q) (by omega)
            have hcq : cd = b q := by rw [← hcd, if_neg g]
            have h2 := ysd_le (b q) (by omega)
            rw [decide_eq_false g, if_pos (by decide), hcq]
            by_cases z : b q = 0
            · rw [z, if_pos nI_0, show ysd 0 = 2 by decide, hdd]
              by_cases y : b (36 + q) = 0
              · rw [y, if_pos (by decide)]; rfl
              · rw [if_neg (nI_nle (by omega) (by omega)), decide_eq_true (show b (36 + q) ≠ 0 from y)]; rfl
            · have hn : ysd (b q) ≠ 2 := fun e => z (g3.mpr e)
              rw [if_neg (fun e => z ((nI_z (by omega)).mp e)), if_pos (show (decide (ysd (b q) = 0) || decide (ysd (b q) = 1)) = true by rcases (show ysd (b q) = 0 ∨ ysd (b q) = 1 by omega) with e | e <;> rw [e] <;> rfl)]
              rfl
        exact ⟨_, _, _, _, rfl, key, Or.inl ⟨rfl, rfl, rfl⟩⟩
      · rw [if_neg (show ¬ nI 1 = (0 : Int32) by decide), if_neg (show ¬ nI 1 = (0 : Int32) by decide), if_pos (show nI 1 = (1 : Int32) from rfl), if_pos (show nI 1 = (1 : Int32) from rfl), c_sideOn hP hq, zbd_S]
        have e154 : fX5_square_154 now 0 (nI cd) = some (yI (ysd cd) 1, 0) := by
          unfold fX5_square_154
          rw [m_sideOf _ hcd29, zbd_S]
        have key : (if nI cd = 0 then (if nI (b (36 + q)) ≤ 0 then (fX5_square_154 now 0 (nI cd)) else some (nI (b (36 + q)) - 1, 0)) else fX5_square_154 now 0 (nI cd)) = some (yI (yso b q) 1, 0) := by
          rw [e154]
          unfold yso yXs ypc
          by_cases g : 20 ≤ b q
          · have h2 := (y_code4 (b q) (by omega) g).1
            have hd0 := hdw g
            have hm := (y_md20 (b q) (by omega) g).1
            have hcq : cd = b q - 20 := by rw [← hcd, if_pos g]
            have hle := ysd_le cd hcd29
            rw [← hcq] at hm
            rw [h2, hd0, hm]
            rcases (show ysd cd = 0 ∨ ysd cd = 1 ∨ ysd cd = 2 by omega) with e | e | e
            · rw [e]; split <;> rfl
            · rw [e]; split <;> rfl
            · rw [e]; split <;> rfl
          · have g8 : b q ≤ 8 := by omega
            have g3 := y_code3 (b q) (by omega)
            have hcq : cd = b q := by rw [← hcd, if_neg g]
            have h2 := ysd_le (b q) (by omega)
            have hmd : ymd (b q) = 2 := by
              unfold ymd
              rw [if_neg g]
            rw [hcq, hmd]
            by_cases z : b q = 0
            · rw [z, if_pos nI_0, show ysd 0 = 2 by decide]
              rcases (show b (36 + q) = 0 ∨ b (36 + q) = 1 ∨ b (36 + q) = 2 by omega) with e | e | e <;> rw [e] <;> rfl
            · have hn : ysd (b q) ≠ 2 := fun e => z (g3.mpr e)
              have hd := hdp (by omega)
              rw [if_neg (fun e => z ((nI_z (by omega)).mp e))]
              rcases (show ysd (b q) = 0 ∨ ysd (b q) = 1 by omega) with e | e
              · rw [e]; rfl
              · rw [e] at hd ⊢
                rcases hd with y | y <;> rw [y] <;> rfl
        exact ⟨_, _, _, _, rfl, key, Or.inl ⟨rfl, rfl, rfl⟩⟩
      · rw [if_neg (show ¬ nI 2 = (0 : Int32) by decide), if_neg (show ¬ nI 2 = (0 : Int32) by decide), if_neg (show ¬ nI 2 = (1 : Int32) by decide), if_neg (show ¬ nI 2 = (1 : Int32) by decide), if_pos (show nI 2 = (2 : Int32) from rfl), if_pos (show nI 2 = (2 : Int32) from rfl), c_kindOn hP hq, zbd_S, m_kindOf _ hcd29, zbd_S, ← (y_sqc (b q) (by omega) (by omega)).2, hcd]
        exact ⟨_, _, _, _, rfl, rfl, Or.inl ⟨rfl, rfl, rfl⟩⟩
      · rw [if_neg (show ¬ nI 3 = (0 : Int32) by decide), if_neg (show ¬ nI 3 = (0 : Int32) by decide), if_neg (show ¬ nI 3 = (1 : Int32) by decide), if_neg (show ¬ nI 3 = (1 : Int32) by decide), if_neg (show ¬ nI 3 = (2 : Int32) by decide), if_neg (show ¬ nI 3 = (2 : Int32) by decide), p_allDoors, zbd_S, yhas (y_allDoors hP) hq, zbd_S, hdd]
        by_cases g : b (36 + q) = 0
        · rw [decide_eq_false (show ¬ b (36 + q) ≠ 0 by omega), yb_f, if_pos rfl, g, if_pos (show nI 0 ≤ (0 : Int32) by decide)]
          exact ⟨_, _, _, _, rfl, rfl, Or.inl ⟨rfl, rfl, rfl⟩⟩
        · rw [decide_eq_true g, yb_t, if_neg (show ¬ (1 : Int32) = 0 by decide), if_neg (nI_nle (by omega) (by omega))]
          exact ⟨_, _, _, _, rfl, rfl, Or.inl ⟨rfl, rfl, rfl⟩⟩
    · rw [show fX5_isBetween p2 0 3 = some 0 from y_btw hout, zbd_S, if_pos rfl]
      have hx : (if p2 < 0 then (some ((2 : Nat), (0 : Int32))) else (if p2 < 4 then (if p2 = 0 then (zbd (fX2_whatOn f (nI q)) (fun u4 => (some (0, u4)))) else (if p2 = 1 then (zbd (fX2_sideOn f (nI q)) (fun u7 => (some (0, u7)))) else (if p2 = 2 then (zbd (fX2_kindOn f (nI q)) (fun u10 => (some (0, u10)))) else (zbd (fX2_allDoors f) (fun u12 => (zbd (fX3_has u12 (nI q)) (fun u14 => (if u14 = 0 then (some (0, 0)) else (some (0, 1)))))))))) else (some (2, 0)))) = some (2, 0) := by
        by_cases g : p2 < 0
        · rw [if_pos g]
        · have h35 := Int32.lt_iff_toInt_lt.mp (hout.resolve_left g)
          have e35 : (nI 3).toInt = 3 := by decide
          have e36 : (4 : Int32).toInt = 4 := by decide
          rw [if_neg g, if_neg (fun z => by have := Int32.lt_iff_toInt_lt.mp z; omega)]
      rw [hx]
      exact ⟨_, _, _, _, rfl, rfl, Or.inr (Or.inr ⟨rfl, rfl⟩)⟩
  · rw [e1, e2, zbd_S, zbd_S, if_neg (by decide), if_pos rfl]
    exact ⟨_, _, _, _, rfl, rfl, Or.inr (Or.inl ⟨rfl, rfl⟩)⟩

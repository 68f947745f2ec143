/-! areMoves holds of every board, and leaves it as it was -/
theorem eL_worth {fb : Nat → Int64} {b : Nat → Nat} (hP : yP fb b) (hv : yV b) {p t : Nat} (hp : p < 36) (ht : t < 36) (ft : Nat → Int64) : ∃ ft', fL_worth fb ft (nI p) (nI t) = some (if ycd b p t = true then nI (ywo b p t) else -1000, ft') := by
  obtain ⟨ft', e⟩ := e_worth hP hv hp ht ft
  refine ⟨ft', ?_⟩
  unfold fL_worth
  rw [e]
  cases ycd b p t with
  | true =>
    rw [if_pos rfl, if_pos rfl, zbd_S]
    try dsimp only
    rw [if_pos rfl]
  | false =>
    rw [if_neg (by decide), if_neg (by decide), zbd_S]
    try dsimp only
    rw [if_neg (by decide), if_neg (by decide), if_pos rfl]
theorem eL_captures {fb ft : Nat → Int64} {b : Nat → Nat} (hP : yP fb b) (hv : yV b) {p t : Nat} (hp : p < 36) (ht : t < 36) (hg : yTg b p t = true) : ∃ ft', fL_captures fb ft (nI p) (nI t) = some (nI (fb_ct (yCs b p t) 36), ft') := by
  obtain ⟨ft', e⟩ := e_captures (ft := ft) hP hv hp ht hg
  refine ⟨ft', ?_⟩
  unfold fL_captures
  rw [e, zbd_S]
  try dsimp only
  rw [if_pos rfl]
theorem eL_best {fb : Nat → Int64} {b : Nat → Nat} (hP : yP fb b) (hv : yV b) (ft : Nat → Int64) : ∃ ft', fL_best fb ft = some (if b 75 = 0 ∧ ¬ (ybe b 1296).1 = -1 then (ybe b 1296).1 else -1000, ft') := by
  obtain ⟨ft', e⟩ := e_best hP hv ft
  refine ⟨ft', ?_⟩
  unfold fL_best
  rw [e]
  by_cases g : b 75 = 0 ∧ ¬ (ybe b 1296).1 = -1
  · rw [if_pos g, if_pos g, zbd_S]
    try dsimp only
    rw [if_pos rfl]
  · rw [if_neg g, if_neg g, zbd_S]
    try dsimp only
    rw [if_neg (by decide), if_pos rfl]
theorem eL_countMoves {fb : Nat → Int64} {b : Nat → Nat} (hP : yP fb b) (hv : yV b) (ct ln : Int32) : fL_countMoves fb ct ln = some (nI (yCm b 36)) := by
  have hl : ∀ d q n, q + d = 36 → d < n → fL_countMoves_4 fb ct ln n (nI (yCm b q)) (nI q) = some (nI (yCm b 36)) := by
    intro d
    induction d with
    | zero =>
      intro q n hq hn
      obtain ⟨n', rfl⟩ : ∃ n', n = n' + 1 := ⟨n - 1, by omega⟩
      rw [fL_countMoves_4, if_pos (show (36 : Int32) ≤ nI q from nI_le (a := 36) (by omega) (by omega)), show q = 36 by omega]
    | succ d ih =>
      intro q n hq hn
      obtain ⟨n', rfl⟩ : ∃ n', n = n' + 1 := ⟨n - 1, by omega⟩
      have hq36 : q < 36 := by omega
      have hih := ih (q + 1) n' (by omega) (by omega)
      have hih : fL_countMoves_4 fb ct ln n' (nI (yCm b q + (if ypc b (b 74 % 2) q = true then fb_ct (yTg b q) 36 else 0))) (nI (q + 1)) = some (nI (yCm b 36)) := hih
      have hv2 := hv
      obtain ⟨v1, v2, v3, v4, -⟩ := hv2
      have hc28 := yV_28 hv hq36
      have hc : b q < 29 := by omega
      have hd : b (36 + q) < 3 := by have := v2 q hq36; omega
      have hok := yPok_of (by have := v1 q hq36; omega) (v3 q hq36) (v4 q hq36)
      obtain ⟨s0, s1, -, -⟩ := e_square hP hq36
      obtain ⟨w1, w2, w3, w4⟩ := eS_w _ hc _ hd hok
      have s0 : fX4_square fb (nI q) 0 = some (0, nI (yPiw (b q) (b (36 + q)))) := s0
      have s1 : fX4_square fb (nI q) 1 = some (0, yI (yPis (b q) (b (36 + q))) 1) := s1
      have a7 : fX4_account fb ct ln 7 = some (0, nI (b 74 % 2)) := e_account hP ct ln (show 7 < 9 by omega)
      have h44 : ypc b (b 74 % 2) q = false → fL_countMoves_44 (fun z0 z1 => fL_countMoves_4 fb ct ln n' z0 z1) fb ct ln (nI q) (nI (yCm b q)) = some (nI (yCm b 36)) := fun g => by
        unfold fL_countMoves_44 fL_countMoves_45
        rw [zbn_E, zbn_E, nI_1, show nI (yCm b q) + 0 = nI (yCm b q) from Int32.add_zero _]
        rw [g, if_neg (by decide), Nat.add_zero] at hih
        exact hih
      rw [fL_countMoves_4, if_neg (show ¬ (36 : Int32) ≤ nI q from nI_ge (b := 36) (by omega) (by omega)), s0, zbd_S]
      try dsimp only
      rw [if_pos rfl]
      by_cases w : yPiw (b q) (b (36 + q)) = 1
      · obtain ⟨k1, k2, k3, k4, k5⟩ := eS_1 _ hc _ hd hok w
        rw [w, if_pos (show nI 1 = (1 : Int32) from rfl), s1, zbd_S]
        try dsimp only
        rw [if_pos rfl, a7, zbd_S]
        try dsimp only
        rw [if_pos rfl, k1, yI_lt k2]
        by_cases g : ysd (b q) = b 74 % 2
        · rw [g, if_pos rfl, eL_moves hP hv hq36, if_pos k2, zbd_S]
          unfold fL_countMoves_45
          rw [zbn_E, zbn_E, nI_1, nI_add]
          rw [show ypc b (b 74 % 2) q = true from decide_eq_true g, if_pos rfl] at hih
          exact hih
        · rw [if_neg (fun z => g ((nI_eq (by omega) (by omega)).mp z))]
          exact h44 (decide_eq_false g)
      · rw [if_neg (show ¬ nI (yPiw (b q) (b (36 + q))) = (1 : Int32) from fun z => w ((nI_eq (b := 1) (by omega) (by omega)).mp z))]
        refine h44 (decide_eq_false ?_)
        have := (w4 w).1
        omega
  unfold fL_countMoves
  exact hl 36 0 37 (by omega) (by omega)
set_option maxRecDepth 4000 in
theorem eL_areMoves {rws : Nat → Int64} {nx ct : Int32} {c : Nat} {B : Nat → Nat → Nat} {fb : Nat → Int64} {b : Nat → Nat} (h : yHc rws nx ct c B) (hP : yP fb b) (hV : yV2 b) (kR ln : Int32) (ft : Nat → Int64) :
    ∃ kR' fb' ft' rws' nx' ct' c' B', fL_areMoves kR fb ft rws nx ct ln = some (1, kR', fb', ft', rws', nx', ct') ∧ yP fb' b ∧ yHc rws' nx' ct' c' B' := by
  have hv := hV.1
  obtain ⟨ft1, eb⟩ := eL_best hP hv ft
  have a8 : fX4_account fb ct ln 8 = some (0, nI (b 75)) := e_account hP ct ln (show 8 < 9 by omega)
  have a7 : fX4_account fb ct ln 7 = some (0, nI (b 74 % 2)) := e_account hP ct ln (show 7 < 9 by omega)
  have h75 := (yV_74 hv).2.2.2
  have hcm := yCm_le b 36
  unfold fL_areMoves
  rw [eb, zbd_S]
  try dsimp only
  -- without a best move
  have none46 : ∀ ft, ∃ kR' fb' ft' rws' nx' ct' c' B', fL_areMoves_46 ln kR fb ft rws nx ct (-1000) 1 = some (1, kR', fb', ft', rws', nx', ct') ∧ yP fb' b ∧ yHc rws' nx' ct' c' B' := fun ft => by
    unfold fL_areMoves_46 fL_areMoves_70 fL_areMoves_71
    rw [if_neg (show ¬ (1 : Int32) = 0 by decide), if_pos (show (-1000 : Int32) < 0 by decide), fL_areMoves_75, if_neg (show ¬ (1 : Int32) = 0 by decide), if_pos (show (-1000 : Int32) < 0 by decide)]
    unfold fL_areMoves_137
    rw [if_neg (show ¬ (1 : Int32) = 0 by decide), if_pos (show (-1000 : Int32) < 0 by decide), zbo_1]
    exact ⟨_, _, _, _, _, _, c, B, rfl, hP, h⟩
  by_cases h0 : b 75 = 0
  · rcases ybe_s b 1296 (by omega) with ⟨g1, g2⟩ | ⟨j, j1, j2, j3, j4, j5⟩
    · rw [show (if b 75 = 0 ∧ ¬ (ybe b 1296).1 = -1 then (ybe b 1296).1 else (-1000 : Int32)) = -1000 from by rw [g1]; exact if_neg (fun z => z.2 rfl), if_pos rfl]
      unfold fL_areMoves_17 fL_areMoves_33 fL_areMoves_38
      have hc0 : yCm b 36 = 0 := (yCm_0 b 36).mpr (fun p hp t ht => by
        have := g2 (36 * p + t) (by omega)
        rw [show (36 * p + t) / 36 = p by omega, show (36 * p + t) % 36 = t by omega] at this
        exact this)
      rw [a8, zbd_S]
      try dsimp only
      rw [if_pos rfl, h0, if_neg (show ¬ (0 : Int32) < nI 0 by decide), eL_countMoves hP hv, zbd_S, hc0, if_pos (show nI 0 = (0 : Int32) from rfl), if_pos rfl]
      exact none46 ft1
    · have hjn : ¬ nI j = -1 := fun z => by
        have a := congrArg Int32.toInt z
        rw [nI_toInt (by omega)] at a
        have c : ((-1 : Int32)).toInt = -1 := by decide
        omega
      have hjn2 : ¬ nI j = -1000 := fun z => by
        have a := congrArg Int32.toInt z
        rw [nI_toInt (by omega)] at a
        have c : ((-1000 : Int32)).toInt = -1000 := by decide
        omega
      have hp : j / 36 < 36 := by omega
      have ht : j % 36 < 36 := Nat.mod_lt _ (by omega)
      have hjd : nI j / (36 : Int32) = nI (j / 36) := pk_div (d := 36) (by omega) (by omega) (by omega)
      have hjm : nI j - nI j / (36 : Int32) * (36 : Int32) = nI (j % 36) := pk_rem (d := 36) (by omega) (by omega) (by omega)
      have hc0 : ¬ yCm b 36 = 0 := fun z => by
        have := (yCm_0 b 36).mp z (j / 36) hp (j % 36) ht
        rw [j2] at this
        cases this
      have hwb := ywo_b b (j / 36) (j % 36)
      obtain ⟨hsd, htg⟩ := (Bool.and_eq_true _ _).mp j2
      have hsd := of_decide_eq_true hsd
      have hs1 : ysd (b (j / 36)) ≤ 1 := by omega
      rw [show (if b 75 = 0 ∧ ¬ (ybe b 1296).1 = -1 then (ybe b 1296).1 else (-1000 : Int32)) = nI j from by rw [j3]; exact if_pos ⟨h0, hjn⟩, if_neg hjn2]
      unfold fL_areMoves_17 fL_areMoves_33 fL_areMoves_38
      rw [a8, zbd_S]
      try dsimp only
      rw [if_pos rfl, h0, if_neg (show ¬ (0 : Int32) < nI 0 by decide), eL_countMoves hP hv, zbd_S, if_neg (fun z => hc0 ((nI_z (by omega)).mp z)), if_pos rfl]
      unfold fL_areMoves_46
      obtain ⟨ft2, ew⟩ := eL_worth hP hv hp ht ft1
      rw [j2, if_pos rfl] at ew
      rw [if_neg (show ¬ (1 : Int32) = 0 by decide), if_neg (nI_pos (by omega)), hjd, show nI j - nI (j / 36) * (36 : Int32) = nI (j % 36) by rw [← hjd]; exact hjm, ew, zbd_S]
      try dsimp only
      unfold fL_areMoves_71
      -- no move is better
      have l75 : ∀ d k n ft, k + d = 1296 → d < n → ∃ ft', fL_areMoves_75 ln n kR fb ft rws nx ct (nI j) 1 (nI (ywo b (j / 36) (j % 36))) (nI k) = fL_areMoves_137 ln kR fb ft' rws nx ct (nI j) 1 (nI (ywo b (j / 36) (j % 36))) := by
        intro d
        induction d with
        | zero =>
          intro k n ft hk hn
          obtain ⟨n', rfl⟩ : ∃ n', n = n' + 1 := ⟨n - 1, by omega⟩
          rw [fL_areMoves_75, if_neg (show ¬ (1 : Int32) = 0 by decide), if_neg (nI_pos (by omega)), if_pos (show (1296 : Int32) ≤ nI k from nI_le (a := 1296) (by omega) (by omega))]
          exact ⟨ft, rfl⟩
        | succ d ih =>
          intro k n ft hk hn
          obtain ⟨n', rfl⟩ : ∃ n', n = n' + 1 := ⟨n - 1, by omega⟩
          have hkd : nI k / (36 : Int32) = nI (k / 36) := pk_div (d := 36) (by omega) (by omega) (by omega)
          have hkm : nI k - nI k / (36 : Int32) * (36 : Int32) = nI (k % 36) := pk_rem (d := 36) (by omega) (by omega) (by omega)
          obtain ⟨ft3, ek⟩ := eL_worth hP hv (show k / 36 < 36 by omega) (show k % 36 < 36 from Nat.mod_lt _ (by omega)) ft
          have hwk := ywo_b b (k / 36) (k % 36)
          obtain ⟨ft4, hih⟩ := ih (k + 1) n' ft3 (by omega) (by omega)
          have hneg : ∀ n, n < 2000 → ¬ nI n < -1000 ∧ ¬ nI n ≤ -1000 := fun n hn => by
            have c : ((-1000 : Int32)).toInt = -1000 := by decide
            have a := nI_toInt (n := n) (by omega)
            exact ⟨fun z => by have := Int32.lt_iff_toInt_lt.mp z; omega, fun z => by have := Int32.le_iff_toInt_le.mp z; omega⟩
          have n1 : ¬ nI (ywo b (j / 36) (j % 36)) < (if ycd b (k / 36) (k % 36) = true then nI (ywo b (k / 36) (k % 36)) else -1000) := by
            split
            · rename_i g
              exact nI_nlt (j4 k (by omega) g) (by omega)
            · exact (hneg _ hwb).1
          refine ⟨ft4, ?_⟩
          rw [fL_areMoves_75, if_neg (show ¬ (1 : Int32) = 0 by decide), if_neg (nI_pos (by omega)), if_neg (show ¬ (1296 : Int32) ≤ nI k from nI_ge (b := 1296) (by omega) (by omega)), hkd, show nI k - nI (k / 36) * (36 : Int32) = nI (k % 36) by rw [← hkd]; exact hkm, ek, zbd_S]
          try dsimp only
          rw [if_neg n1]
          unfold fL_areMoves_125 fL_areMoves_130
          rw [zbn_E, nI_1]
          by_cases hjk : j ≤ k
          · rw [if_pos (nI_le hjk (by omega))]
            exact hih
          · have n2 : ¬ nI (ywo b (j / 36) (j % 36)) ≤ (if ycd b (k / 36) (k % 36) = true then nI (ywo b (k / 36) (k % 36)) else -1000) := by
              split
              · rename_i g
                exact nI_ge (j5 k (by omega) g) (by omega)
              · exact (hneg _ hwb).2
            rw [if_neg (nI_ge (by omega) (by omega)), if_neg n2]
            exact hih
      obtain ⟨ft3, e75⟩ := l75 1296 0 1297 ft2 (by omega) (by omega)
      have e75 : fL_areMoves_75 ln 1297 kR fb ft2 rws nx ct (nI j) 1 (nI (ywo b (j / 36) (j % 36))) 0 = _ := e75
      rw [e75]
      -- it is made and taken back
      obtain ⟨ft4, ec⟩ := eL_captures (ft := ft3) hP hv hp ht htg
      obtain ⟨kR', fb2, rws2, nx2, ct2, c2, B2, em, m1, m2, m3, m4, m5⟩ := eL_moveV h hP hV kR hp ht h0 j2
      have hC4 : fb_ct (yCs b (j / 36) (j % 36)) 36 ≤ 4 := yC_4 ht
      have hpc := ytm_pc hv hp ht htg
      have hco := ytm_coin (b := b) (p := j / 36) (t := j % 36) hs1
      have hsm : ySm (yG (ytm b (j / 36) (j % 36)) (1 - ysd (b (j / 36)))) 36 = ySm (yG (ygo b (j / 36) (j % 36)) (1 - ysd (b (j / 36)))) 36 := ySm_c (fun m => yG_c (fun i hi => ytm_lo hs1 hi) _ m) 36
      have hn10 : ∀ m, m < 5 → (10 : Int32) * nI m = nI (10 * m) := by decide +kernel
      have e1s : (1 : Int32) - nI (b 74 % 2) = nI (1 - b 74 % 2) := pk_sub (a := 1) (by omega)
      have e4s : (4 : Int32) + nI (b 74 % 2) = nI (4 + b 74 % 2) := nI_add 4 _
      have q1 : ∀ (f : Nat → Int64) (d : Nat → Nat) (ct : Int32), yP f d → fX4_account f ct ln (nI (1 - b 74 % 2)) = some (0, nI (fb_ct (ypc d (1 - b 74 % 2)) 36)) := fun f d ct hd => by
        rw [e_account hd ct ln (show 1 - b 74 % 2 < 9 by omega)]
        rcases (show b 74 % 2 = 0 ∨ b 74 % 2 = 1 by omega) with e | e <;> rw [e] <;> rfl
      have q4 : ∀ (f : Nat → Int64) (d : Nat → Nat) (ct : Int32), yP f d → fX4_account f ct ln (nI (4 + b 74 % 2)) = some (0, nI (d (72 + b 74 % 2))) := fun f d ct hd => by
        rw [e_account hd ct ln (show 4 + b 74 % 2 < 9 by omega)]
        rcases (show b 74 % 2 = 0 ∨ b 74 % 2 = 1 by omega) with e | e <;> rw [e] <;> rfl
      unfold fL_areMoves_137
      rw [if_neg (show ¬ (1 : Int32) = 0 by decide), if_neg (nI_pos (by omega)), a7, zbd_S]
      try dsimp only
      rw [if_pos rfl, hjd, show nI j - nI (j / 36) * (36 : Int32) = nI (j % 36) by rw [← hjd]; exact hjm, ec, zbd_S]
      try dsimp only
      rw [e1s, q1 fb b ct hP, zbd_S]
      try dsimp only
      rw [if_pos rfl, e4s, q4 fb b ct hP, zbd_S]
      try dsimp only
      rw [if_pos rfl, em, zbd_S]
      try dsimp only
      rw [hsd] at hpc hco hsm
      rw [if_pos rfl, q1 fb2 _ ct2 m1, zbd_S]
      try dsimp only
      rw [if_pos rfl, pk_sub (by omega), if_pos (by rw [← hpc, Nat.add_sub_cancel]), q4 fb2 _ ct2 m1, zbd_S]
      try dsimp only
      rw [if_pos rfl, y_n2 _ (by omega), nI_add, if_pos (by rw [hco]), e_sealed m1 (show 1 - b 74 % 2 ≤ 1 by omega), zbd_S]
      try dsimp only
      have ewo : 10 * nI (fb_ct (yCs b (j / 36) (j % 36)) 36) + nI (ySm (yG (ytm b (j / 36) (j % 36)) (1 - b 74 % 2)) 36) = nI (ywo b (j / 36) (j % 36)) := by
        rw [hn10 _ (by omega), nI_add, hsm]
        unfold ywo
        rw [hsd]
      rw [if_pos rfl, if_pos ewo]
      unfold fL_areMoves_261
      rcases eL_undo m3 fb2 with ⟨k0, -⟩ | ⟨k0, nx3, f3, e3, e4, e5, e6⟩
      · omega
      · rw [m5] at e4
        have hc26 : c2 ≤ 6 := by
          obtain ⟨x9, _, h6, _⟩ := m3
          exact h6
        rw [if_neg (show ¬ (1 : Int32) = 0 by decide), e3, zbd_S]
        try dsimp only
        rw [if_neg (nI_pos (by omega))]
        unfold fL_areMoves_278
        rw [zbo_1]
        exact ⟨_, _, _, _, _, _, c2 - 1, B2, rfl, e4, e6⟩
  · rw [show (if b 75 = 0 ∧ ¬ (ybe b 1296).1 = -1 then (ybe b 1296).1 else (-1000 : Int32)) = -1000 from if_neg (fun z => h0 z.1), if_pos rfl]
    unfold fL_areMoves_17 fL_areMoves_33 fL_areMoves_38
    rw [a8, zbd_S]
    try dsimp only
    rw [if_pos rfl, if_pos (show (0 : Int32) < nI (b 75) from nI_lt (a := 0) (by omega) (by omega)), if_pos rfl]
    exact none46 ft1

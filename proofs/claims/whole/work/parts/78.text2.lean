/-! PURE 38: a turn of the text -/
def yTd (c : Nat → Nat) (L a : Nat) : Prop := a + 3 ≤ L ∧ (c a = 43 ∨ c a = 42) ∧ yCo (c (a + 1)) = true ∧ yRo (c (a + 2)) = true
def yTn (c : Nat → Nat) (L a : Nat) : Prop := a + 5 ≤ L ∧ yCo (c a) = true ∧ yRo (c (a + 1)) = true ∧ c (a + 2) = 45 ∧ yCo (c (a + 3)) = true ∧ yRo (c (a + 4)) = true
theorem yCo_n {x : Nat} (h : yCo x = true) : 97 ≤ x ∧ x ≤ 102 := ⟨of_decide_eq_true ((Bool.and_eq_true _ _).mp h).1, of_decide_eq_true ((Bool.and_eq_true _ _).mp h).2⟩
theorem yRo_n {x : Nat} (h : yRo x = true) : 49 ≤ x ∧ x ≤ 54 := ⟨of_decide_eq_true ((Bool.and_eq_true _ _).mp h).1, of_decide_eq_true ((Bool.and_eq_true _ _).mp h).2⟩
theorem yex_0d {x : Nat} (h : x = 43 ∨ x = 42) : yex 0 x = 3 := by rcases h with rfl | rfl <;> rfl
theorem yex_0c {x : Nat} (h : yCo x = true) : yex 0 x = 1 := by
  have := yCo_n h
  unfold yex
  rw [if_pos rfl, if_neg (by omega), if_neg (by omega), if_pos h]
theorem yex_09 {x : Nat} (h : ¬ x = 43) (g : ¬ x = 42) (e : yCo x = false) : yex 0 x = 9 := by
  unfold yex
  rw [if_pos rfl, if_neg h, if_neg g, e, if_neg ynft]
theorem yex_1 {x : Nat} (h : yRo x = true) : yex 1 x = 2 := if_pos h
theorem yex_19 {x : Nat} (h : yRo x = false) : yex 1 x = 9 := by
  show (if yRo x = true then 2 else 9) = 9
  rw [h, if_neg ynft]
theorem yex_2 {x : Nat} (h : x = 45) : yex 2 x = 3 := if_pos h
theorem yex_29 {x : Nat} (h : ¬ x = 45) : yex 2 x = 9 := if_neg h
theorem yex_3 {x : Nat} (h : yCo x = true) : yex 3 x = 4 := if_pos h
theorem yex_39 {x : Nat} (h : yCo x = false) : yex 3 x = 9 := by
  show (if yCo x = true then 4 else 9) = 9
  rw [h, if_neg ynft]
theorem yex_4 {x : Nat} (h : yRo x = true) : yex 4 x = 5 := if_pos h
theorem yex_49 {x : Nat} (h : yRo x = false) : yex 4 x = 9 := by
  show (if yRo x = true then 5 else 9) = 9
  rw [h, if_neg ynft]
theorem yex_5 {x : Nat} (h : x = 59) : yex 5 x = 0 := if_pos h
theorem yex_59 {x : Nat} (h : ¬ x = 59) : yex 5 x = 9 := if_neg h
theorem c_fe_d {ch text : Nat → Int32} {c : Nat → Nat} {L : Nat} (h : yTx ch text c L) {a : Nat} (g : yTd c L a) (n : Nat) : fX1_firstError_4 ch (nI L) (n + 3) (nI 0) (nI a) = fX1_firstError_4 ch (nI L) n (nI 5) (nI (a + 3)) := by
  obtain ⟨g1, g2, g3, g4⟩ := g
  rw [c_fe h (show a < L by omega) (by omega) (n + 2) (yex_0d g2) (by omega), c_fe h (show a + 1 < L by omega) (by omega) (n + 1) (yex_3 g3) (by omega), c_fe h (show a + 1 + 1 < L by omega) (by omega) n (yex_4 g4) (by omega)]
theorem c_fe_m {ch text : Nat → Int32} {c : Nat → Nat} {L : Nat} (h : yTx ch text c L) {a : Nat} (g : yTn c L a) (n : Nat) : fX1_firstError_4 ch (nI L) (n + 5) (nI 0) (nI a) = fX1_firstError_4 ch (nI L) n (nI 5) (nI (a + 5)) := by
  obtain ⟨g1, g2, g3, g4, g5, g6⟩ := g
  rw [c_fe h (show a < L by omega) (by omega) (n + 4) (yex_0c g2) (by omega), c_fe h (show a + 1 < L by omega) (by omega) (n + 3) (yex_1 g3) (by omega), c_fe h (show a + 1 + 1 < L by omega) (by omega) (n + 2) (yex_2 g4) (by omega), c_fe h (show a + 1 + 1 + 1 < L by omega) (by omega) (n + 1) (yex_3 g5) (by omega), c_fe h (show a + 1 + 1 + 1 + 1 < L by omega) (by omega) n (yex_4 g6) (by omega)]
theorem m_rtW (text : Nat → Int32) (ln at_ tf tt : Int32) : ∃ sg x y, fX5_readTurn text ln at_ tf tt 1 = some (sg, at_, x, y, 1) := by
  obtain ⟨x, e⟩ := m_rsqW text ln at_
  unfold fX5_readTurn
  rw [m_takesW, zbd_S]
  dsimp only
  rw [if_pos rfl, m_takesW, zbd_S]
  dsimp only
  rw [if_pos rfl]
  unfold fX5_readTurn_30
  rw [e, zbd_S, if_pos rfl]
  dsimp only
  rw [m_takesW, zbd_S]
  dsimp only
  rw [if_pos rfl]
  unfold fX5_readTurn_64
  rw [show ((1 : Int32) ||| 1) = 1 by decide, show zbo 1 = true from rfl, zck_T, e, zbd_S]
  exact ⟨_, _, _, rfl⟩
theorem m_rt30d (text : Nat → Int32) (ln at_ tf tt w : Int32) {s0 : Nat} (hs : s0 = 43 ∨ s0 = 42) {x a' w' : Int32} (e : fX5_readSquare text ln at_ w = some (x, a', w')) : fX5_readTurn_30 text ln at_ tf tt w (nI s0) = some (nI s0, a', x, tt, w') := by
  unfold fX5_readTurn_30
  rw [e, zbd_S, if_neg (show ¬ nI s0 = (45 : Int32) by rcases hs with rfl | rfl <;> decide), zch_127 s0 (by omega), zck_T]
/-- the sign of a door or a piece -/
theorem m_rt_s {ch text : Nat → Int32} {c : Nat → Nat} {L : Nat} (h : yTx ch text c L) {a : Nat} (ha : a < L) (g : c a = 43 ∨ c a = 42) (tf tt : Int32) : fX5_readTurn text (nI L) (nI a) tf tt 0 = fX5_readTurn_30 text (nI L) (nI (a + 1)) tf tt 0 (nI (c a)) := by
  unfold fX5_readTurn
  by_cases k : c a = 43
  · rw [show fX5_takes text (nI L) (nI a) 0 43 = _ from m_takes1 (x := 43) h ha (by omega) k, zbd_S]
    dsimp only
    rw [if_neg (show ¬ (1 : Int32) = 0 by decide), k]
    rfl
  · have k2 : c a = 42 := g.resolve_left k
    rw [show fX5_takes text (nI L) (nI a) 0 43 = _ from m_takes0 (x := 43) h (by omega) (by omega) (fun _ => k), zbd_S]
    dsimp only
    rw [if_pos rfl, show fX5_takes text (nI L) (nI a) 0 42 = _ from m_takes1 (x := 42) h ha (by omega) k2, zbd_S]
    dsimp only
    rw [if_neg (show ¬ (1 : Int32) = 0 by decide), k2]
    rfl
/-- no such sign: a move -/
theorem m_rt_n {ch text : Nat → Int32} {c : Nat → Nat} {L : Nat} (h : yTx ch text c L) {a : Nat} (ha : a ≤ L) (g : a < L → ¬ c a = 43) (g2 : a < L → ¬ c a = 42) (tf tt : Int32) : fX5_readTurn text (nI L) (nI a) tf tt 0 = fX5_readTurn_30 text (nI L) (nI a) tf tt 0 45 := by
  unfold fX5_readTurn
  rw [show fX5_takes text (nI L) (nI a) 0 43 = _ from m_takes0 (x := 43) h ha (by omega) g, zbd_S]
  dsimp only
  rw [if_pos rfl, show fX5_takes text (nI L) (nI a) 0 42 = _ from m_takes0 (x := 42) h ha (by omega) g2, zbd_S]
  dsimp only
  rw [if_pos rfl]
theorem m_rt_d {ch text : Nat → Int32} {c : Nat → Nat} {L : Nat} (h : yTx ch text c L) {a : Nat} (g : yTd c L a) (tf tt : Int32) : fX5_readTurn text (nI L) (nI a) tf tt 0 = some (nI (c a), nI (a + 3), nI (yqv (c (a + 1)) (c (a + 2))), tt, 0) := by
  obtain ⟨g1, g2, g3, g4⟩ := g
  rw [m_rt_s h (by omega) g2]
  exact m_rt30d _ _ _ _ _ _ g2 (m_rsq2 h (show a + 1 + 2 ≤ L by omega) g3 g4)
theorem m_rt_m {ch text : Nat → Int32} {c : Nat → Nat} {L : Nat} (h : yTx ch text c L) {a : Nat} (g : yTn c L a) (tf tt : Int32) : fX5_readTurn text (nI L) (nI a) tf tt 0 = some (45, nI (a + 5), nI (yqv (c a) (c (a + 1))), nI (yqv (c (a + 3)) (c (a + 4))), 0) := by
  obtain ⟨g1, g2, g3, g4, g5, g6⟩ := g
  have hc := yCo_n g2
  rw [m_rt_n h (by omega) (fun _ => by omega) (fun _ => by omega)]
  unfold fX5_readTurn_30
  rw [m_rsq2 h (show a + 2 ≤ L by omega) g2 g3, zbd_S, if_pos rfl]
  dsimp only
  rw [show fX5_takes text (nI L) (nI (a + 2)) 0 45 = _ from m_takes1 (x := 45) h (show a + 2 < L by omega) (by omega) g4, zbd_S]
  dsimp only
  rw [if_neg (show ¬ (1 : Int32) = 0 by decide)]
  unfold fX5_readTurn_64
  rw [show ((0 : Int32) ||| 0) = 0 by decide, show zbo 0 = true from rfl, zck_T, m_rsq2 h (show a + 2 + 1 + 2 ≤ L by omega) g5 g6, zbd_S]
  rfl
theorem m_rt_b {ch text : Nat → Int32} {c : Nat → Nat} {L : Nat} (h : yTx ch text c L) {a : Nat} (ha : a ≤ L) (g : ¬ yTd c L a) (g2 : ¬ yTn c L a) (tf tt : Int32) : ∃ e sg x y, fX5_readTurn text (nI L) (nI a) tf tt 0 = some (sg, nI e, x, y, 1) ∧ e ≤ L ∧ ∀ n, fX1_firstError_4 ch (nI L) (n + 6) (nI 0) (nI a) = some (nI e) := by
  have hL := h.1
  by_cases k : a < L ∧ (c a = 43 ∨ c a = 42)
  · obtain ⟨k1, k2⟩ := k
    have f0 : ∀ n, fX1_firstError_4 ch (nI L) (n + 1) (nI 0) (nI a) = fX1_firstError_4 ch (nI L) n (nI 3) (nI (a + 1)) := fun n => c_fe h k1 (by omega) n (yex_0d k2) (by omega)
    by_cases w1 : a + 1 < L ∧ yCo (c (a + 1)) = true
    · obtain ⟨w1, w2⟩ := w1
      have f1 : ∀ n, fX1_firstError_4 ch (nI L) (n + 1) (nI 3) (nI (a + 1)) = fX1_firstError_4 ch (nI L) n (nI 4) (nI (a + 1 + 1)) := fun n => c_fe h w1 (by omega) n (yex_3 w2) (by omega)
      have w3 : a + 1 + 1 < L → yRo (c (a + 1 + 1)) = false := fun z => by
        cases e : yRo (c (a + 1 + 1)) with
        | false => rfl
        | true => exact absurd ⟨z, k2, w2, e⟩ g
      obtain ⟨x, e⟩ := m_rsq1 h w1 w2 w3
      refine ⟨a + 1 + 1, _, _, _, (m_rt_s h k1 k2 tf tt).trans (m_rt30d _ _ _ _ _ _ k2 e), by omega, fun n => ?_⟩
      · rw [f0 (n + 5), f1 (n + 4)]
        exact c_feX h (by omega) (by omega) (n + 3) (fun z => yex_49 (w3 z))
    · have w3 : a + 1 < L → yCo (c (a + 1)) = false := fun z => by
        cases e : yCo (c (a + 1)) with
        | false => rfl
        | true => exact absurd ⟨z, e⟩ w1
      obtain ⟨x, e⟩ := m_rsq0 h (show a + 1 ≤ L by omega) w3
      refine ⟨a + 1, _, _, _, (m_rt_s h k1 k2 tf tt).trans (m_rt30d _ _ _ _ _ _ k2 e), by omega, fun n => ?_⟩
      · rw [f0 (n + 5)]
        exact c_feX h (by omega) (by omega) (n + 4) (fun z => yex_39 (w3 z))
  · have n43 : a < L → ¬ c a = 43 := fun z e => k ⟨z, Or.inl e⟩
    have n42 : a < L → ¬ c a = 42 := fun z e => k ⟨z, Or.inr e⟩
    have wr : ∀ (at_ x : Int32), (∃ s0 s1 w : Int32, (s1 ||| s0) = 1 ∧ fX5_readTurn text (nI L) (nI a) tf tt 0 = fX5_readTurn_64 text (nI L) at_ x tt w 45 s0 s1) → ∃ y z, fX5_readTurn text (nI L) (nI a) tf tt 0 = some (45, at_, y, z, 1) := by
      rintro at_ x ⟨s0, s1, w, e1, e2⟩
      obtain ⟨y, e⟩ := m_rsqW text (nI L) at_
      rw [e2]
      unfold fX5_readTurn_64
      rw [e1, show zbo 1 = true from rfl, zck_T, e, zbd_S]
      exact ⟨_, _, rfl⟩
    have hd := m_rt_n h ha n43 n42 tf tt
    by_cases w1 : a < L ∧ yCo (c a) = true
    · obtain ⟨w1, w2⟩ := w1
      have f0 : ∀ n, fX1_firstError_4 ch (nI L) (n + 1) (nI 0) (nI a) = fX1_firstError_4 ch (nI L) n (nI 1) (nI (a + 1)) := fun n => c_fe h w1 (by omega) n (yex_0c w2) (by omega)
      by_cases w3 : a + 1 < L ∧ yRo (c (a + 1)) = true
      · obtain ⟨w3, w4⟩ := w3
        have f1 : ∀ n, fX1_firstError_4 ch (nI L) (n + 1) (nI 1) (nI (a + 1)) = fX1_firstError_4 ch (nI L) n (nI 2) (nI (a + 2)) := fun n => c_fe h w3 (by omega) n (yex_1 w4) (by omega)
        have r2 := m_rsq2 h (show a + 2 ≤ L by omega) w2 w4
        by_cases w5 : a + 2 < L ∧ c (a + 2) = 45
        · obtain ⟨w5, w6⟩ := w5
          have f2 : ∀ n, fX1_firstError_4 ch (nI L) (n + 1) (nI 2) (nI (a + 2)) = fX1_firstError_4 ch (nI L) n (nI 3) (nI (a + 3)) := fun n => c_fe h w5 (by omega) n (yex_2 w6) (by omega)
          have hd2 : fX5_readTurn text (nI L) (nI a) tf tt 0 = zbd (fX5_readSquare text (nI L) (nI (a + 3)) 0) (fun u1 => some (45, u1.2.1, nI (yqv (c a) (c (a + 1))), u1.1, u1.2.2)) := by
            rw [hd]
            unfold fX5_readTurn_30
            rw [r2, zbd_S, if_pos rfl]
            dsimp only
            rw [show fX5_takes text (nI L) (nI (a + 2)) 0 45 = _ from m_takes1 (x := 45) h w5 (by omega) w6, zbd_S]
            dsimp only
            rw [if_neg (show ¬ (1 : Int32) = 0 by decide)]
            unfold fX5_readTurn_64
            rw [show ((0 : Int32) ||| 0) = 0 by decide, show zbo 0 = true from rfl, zck_T]
            rfl
          by_cases w7 : a + 3 < L ∧ yCo (c (a + 3)) = true
          · obtain ⟨w7, w8⟩ := w7
            have f3 : ∀ n, fX1_firstError_4 ch (nI L) (n + 1) (nI 3) (nI (a + 3)) = fX1_firstError_4 ch (nI L) n (nI 4) (nI (a + 3 + 1)) := fun n => c_fe h w7 (by omega) n (yex_3 w8) (by omega)
            have w9 : a + 3 + 1 < L → yRo (c (a + 3 + 1)) = false := fun z => by
              cases e : yRo (c (a + 3 + 1)) with
              | false => rfl
              | true => exact absurd ⟨z, w2, w4, w6, w8, e⟩ g2
            obtain ⟨x, e⟩ := m_rsq1 h w7 w8 w9
            refine ⟨a + 3 + 1, _, _, _, by rw [hd2, e, zbd_S], by omega, fun n => ?_⟩
            rw [f0 (n + 5), f1 (n + 4), f2 (n + 3), f3 (n + 2)]
            exact c_feX h (by omega) (by omega) (n + 1) (fun z => yex_49 (w9 z))
          · have w9 : a + 3 < L → yCo (c (a + 3)) = false := fun z => by
              cases e : yCo (c (a + 3)) with
              | false => rfl
              | true => exact absurd ⟨z, e⟩ w7
            obtain ⟨x, e⟩ := m_rsq0 h (show a + 3 ≤ L by omega) w9
            refine ⟨a + 3, _, _, _, by rw [hd2, e, zbd_S], by omega, fun n => ?_⟩
            rw [f0 (n + 5), f1 (n + 4), f2 (n + 3)]
            exact c_feX h (by omega) (by omega) (n + 2) (fun z => yex_39 (w9 z))
        · have w6 : a + 2 < L → ¬ c (a + 2) = 45 := fun z e => w5 ⟨z, e⟩
          obtain ⟨y, z, e⟩ := wr (nI (a + 2)) (nI (yqv (c a) (c (a + 1)))) ⟨1, 0, 0, by decide, by
            rw [hd]
            unfold fX5_readTurn_30
            rw [r2, zbd_S, if_pos rfl]
            dsimp only
            rw [show fX5_takes text (nI L) (nI (a + 2)) 0 45 = _ from m_takes0 (x := 45) h (show a + 2 ≤ L by omega) (by omega) w6, zbd_S]
            dsimp only
            rw [if_pos rfl]⟩
          refine ⟨a + 2, _, _, _, e, by omega, fun n => ?_⟩
          rw [f0 (n + 5), f1 (n + 4)]
          exact c_feX h (by omega) (by omega) (n + 3) (fun z => yex_29 (w6 z))
      · have w4 : a + 1 < L → yRo (c (a + 1)) = false := fun z => by
          cases e : yRo (c (a + 1)) with
          | false => rfl
          | true => exact absurd ⟨z, e⟩ w3
        obtain ⟨x, r1⟩ := m_rsq1 h w1 w2 w4
        obtain ⟨y, z, e⟩ := wr (nI (a + 1)) x ⟨1, 1, 1, by decide, by
          rw [hd]
          unfold fX5_readTurn_30
          rw [r1, zbd_S, if_pos rfl]
          dsimp only
          rw [m_takesW, zbd_S]
          dsimp only
          rw [if_pos rfl]⟩
        refine ⟨a + 1, _, _, _, e, by omega, fun n => ?_⟩
        rw [f0 (n + 5)]
        exact c_feX h (by omega) (by omega) (n + 4) (fun z => yex_19 (w4 z))
    · have w2 : a < L → yCo (c a) = false := fun z => by
        cases e : yCo (c a) with
        | false => rfl
        | true => exact absurd ⟨z, e⟩ w1
      obtain ⟨x, r1⟩ := m_rsq0 h ha w2
      obtain ⟨y, z, e⟩ := wr (nI a) x ⟨1, 1, 1, by decide, by
        rw [hd]
        unfold fX5_readTurn_30
        rw [r1, zbd_S, if_pos rfl]
        dsimp only
        rw [m_takesW, zbd_S]
        dsimp only
        rw [if_pos rfl]⟩
      refine ⟨a, _, _, _, e, ha, fun n => ?_⟩
      exact c_feX h ha (by omega) (n + 5) (fun z => yex_09 (n43 z) (n42 z) (w2 z))

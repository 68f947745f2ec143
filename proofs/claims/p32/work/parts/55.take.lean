/-! PURE 15: a move taken as a turn -/
theorem yRay_fr {fr : Nat → Bool} {w t : Nat} : ∀ n p, yRay fr w n p t = true → fr t = true
  | n + 1, p, h => by
    obtain ⟨h1, h2⟩ := (Bool.and_eq_true _ _).mp (show ((decide (ynb p w < 36) && fr (ynb p w)) && (decide (t = ynb p w) || yRay fr w n (ynb p w) t)) = true from h)
    rcases (Bool.or_eq_true _ _).mp h2 with g | g
    · rw [of_decide_eq_true g]
      exact ((Bool.and_eq_true _ _).mp h1).2
    · exact yRay_fr n _ g
theorem yTg_fr {b : Nat → Nat} {q t : Nat} (h : yTg b q t = true) : ysd (b q) ≤ 1 ∧ yfr b (ysd (b q)) t = true := by
  unfold yTg at h
  split at h
  · rename_i hs
    refine ⟨hs, ?_⟩
    split at h
    · obtain ⟨w, hw, r⟩ := yw4_t.mp h
      exact yRay_fr 5 q r
    · split at h
      · unfold yWk at h
        rw [yRs_W 2 t] at h
        obtain ⟨h1, h2⟩ := (Bool.and_eq_true _ _).mp h
        rcases (Bool.or_eq_true _ _).mp h1 with g | g
        · rw [g] at h2; cases h2
        · exact yW_fr 2 t g
      · rw [yw4_and] at h
        exact ((Bool.and_eq_true _ _).mp h).2
  · cases h
theorem yTg_ne {b : Nat → Nat} (hv : yV b) {q t : Nat} (hq : q < 36) (h : yTg b q t = true) : q ≠ t := fun e => by
  obtain ⟨h1, h2⟩ := yTg_fr h
  have hc28 := yV_28 hv hq
  have := (yfr_0 h2).1
  rw [← e] at this
  exact ((ysk (b q) (by omega)).2 h1).1 this
theorem yC_le {b : Nat → Nat} {s t : Nat} (ht : t < 36) : ∀ n, n ≤ 4 → fb_ct (yC b s t n) 36 ≤ n
  | 0, _ => Nat.le_of_eq (fb_ct_zero.mpr (fun _ _ => rfl))
  | n + 1, hn => by
    have h1 := yC_ct (b := b) (s := s) ht (show n < 4 by omega)
    have h2 := yC_le (b := b) (s := s) ht n (by omega)
    rw [h1]
    split <;> omega
theorem yC_4 {b : Nat → Nat} {s t : Nat} (ht : t < 36) : fb_ct (yC b s t 4) 36 ≤ 4 := yC_le ht 4 (by omega)
theorem c_earn {f : Nat → Int64} {b : Nat → Nat} (h : yP f b) {s m : Nat} (hs : s ≤ 1) (hm : m < 2000) : ∃ f', fX2_earn f (nI s) (nI m) = some f' ∧ yP f' (yput b (72 + s) (b (72 + s) + m)) := by
  rcases (show s = 0 ∨ s = 1 by omega) with rfl | rfl
  · refine ⟨vp_updL f 11 (f 11 + (nI m).toInt64), rfl, ?_⟩
    rw [h.2.2.2.2.2.1, nI_l (by omega), lN_add]
    exact yP_put h (j := 72) (by omega) (by omega)
  · refine ⟨vp_updL f 12 (f 12 + (nI m).toInt64), rfl, ?_⟩
    rw [h.2.2.2.2.2.2.1, nI_l (by omega), lN_add]
    exact yP_put h (j := 73) (by omega) (by omega)
theorem y_neg : ∀ m, m < 8 → (-(nI m)).toInt64 = -(lN m) := by decide +kernel
theorem c_pay {f : Nat → Int64} {b : Nat → Nat} (h : yP f b) {s m : Nat} (hs : s ≤ 1) (hm : m < 8) (hb : m ≤ b (72 + s)) : ∃ f', fX2_earn f (nI s) (-(nI m)) = some f' ∧ yP f' (yput b (72 + s) (b (72 + s) - m)) := by
  rcases (show s = 0 ∨ s = 1 by omega) with rfl | rfl
  · refine ⟨vp_updL f 11 (f 11 + (-(nI m)).toInt64), rfl, ?_⟩
    rw [h.2.2.2.2.2.1, y_neg m hm, ← Int64.sub_eq_add_neg, lN_sub hb]
    exact yP_put h (j := 72) (by omega) (by omega)
  · refine ⟨vp_updL f 12 (f 12 + (-(nI m)).toInt64), rfl, ?_⟩
    rw [h.2.2.2.2.2.2.1, y_neg m hm, ← Int64.sub_eq_add_neg, lN_sub hb]
    exact yP_put h (j := 73) (by omega) (by omega)
theorem yV_coin {b : Nat → Nat} (hv : yV b) {s v : Nat} (hs : s ≤ 1) (hb : v ≤ 1000) : yV (yput b (72 + s) v) := by
  obtain ⟨h1, h2, h3, h4, h5, h6, h7, h8, h9, h10⟩ := hv
  have e : ∀ i, i ≠ 72 + s → yput b (72 + s) v i = b i := fun i hi => yput_o hi
  refine ⟨fun q hq => by rw [e q (by omega)]; exact h1 q hq, fun q hq => by rw [e _ (by omega)]; exact h2 q hq, fun q hq g => by rw [e q (by omega)] at g; rw [e _ (by omega)]; exact h3 q hq g, fun q hq g => by rw [e q (by omega)] at g ⊢; rw [e _ (by omega)]; exact h4 q hq g, ?_, ?_, by rw [e 74 (by omega)]; exact h7, by rw [e 75 (by omega)]; exact h8, by rw [e 75 (by omega), e 74 (by omega)]; exact h9, fun s' q r hs' hq hr g1 g2 => ?_⟩
  · unfold yput; split
    · exact hb
    · exact h5
  · unfold yput; split
    · exact hb
    · exact h6
  · rw [e q (by omega)] at g1
    rw [e r (by omega)] at g2
    exact h10 s' q r hs' hq hr g1 g2
/-- the captured squares of a move, whether the keeper is among them, the board when its coins are paid, and when the turn has ended -/
def yCs (b : Nat → Nat) (p t : Nat) : Nat → Bool := yC (ymv b p t) (ysd (b p)) t 4
def yKc (b : Nat → Nat) (p t : Nat) : Bool := decide (fb_ct (fun q => yCs b p t q && decide (ymv b p t q = 4 + 4 * (1 - ysd (b p)))) 36 ≠ 0)
def ypd (b : Nat → Nat) (p t : Nat) : Nat → Nat := yput (ygo b p t) (72 + ysd (b p)) (b (72 + ysd (b p)) + 2 * fb_ct (yCs b p t) 36)
def ytm (b : Nat → Nat) (p t : Nat) : Nat → Nat := yet (ypd b p t) (yKc b p t)
theorem ygo_hi {b : Nat → Nat} {p t j : Nat} (hp : p < 36) (ht : t < 36) (hj : 72 ≤ j) : ygo b p t j = b j := by
  unfold ygo ycb ymv
  rw [if_neg (by omega), if_neg (by omega), if_neg (by omega), if_neg (by omega)]
theorem ypd_74 {b : Nat → Nat} {p t : Nat} (hp : p < 36) (ht : t < 36) (hs : ysd (b p) ≤ 1) : ypd b p t 74 = b 74 := by
  unfold ypd
  rw [yput_o (by omega), ygo_hi hp ht (by omega)]
theorem yV_pd {b : Nat → Nat} (hv : yV2 b) {p t : Nat} (hp : p < 36) (ht : t < 36) (h : yTg b p t = true) : yV (ypd b p t) ∧ ypd b p t 72 ≤ 11 + 8 * b 74 ∧ ypd b p t 73 ≤ 11 + 8 * b 74 := by
  obtain ⟨hs, hf⟩ := yTg_fr h
  have h4 : fb_ct (yCs b p t) 36 ≤ 4 := yC_4 ht
  obtain ⟨u1, u2, u3⟩ := hv.2
  have h74 := hv.1.2.2.2.2.2.2.1
  have hb : b (72 + ysd (b p)) ≤ 3 + 8 * b 74 := by
    rcases (show ysd (b p) = 0 ∨ ysd (b p) = 1 by omega) with e | e <;> rw [e]
    · exact u2
    · exact u3
  refine ⟨yV_coin (yV_go hv.1 hp ht hs hf) hs (by omega), ?_, ?_⟩
  · unfold ypd yput
    split
    · omega
    · rw [ygo_hi hp ht (by omega)]; omega
  · unfold ypd yput
    split
    · omega
    · rw [ygo_hi hp ht (by omega)]; omega
theorem yV_tm {b : Nat → Nat} (hv : yV2 b) {p t : Nat} (hp : p < 36) (ht : t < 36) (h : yTg b p t = true) (hlt : b 74 < 60) : yV2 (ytm b p t) := by
  obtain ⟨h1, h2, h3⟩ := yV_pd hv hp ht h
  have e := ypd_74 (t := t) hp ht (yTg_fr h).1
  exact yV_et h1 _ (by rw [e]; exact hlt) (by rw [e]; exact h2) (by rw [e]; exact h3)
/-- the keeper ahead of the move and behind it -/
theorem y_kept {b : Nat → Nat} (hv : yV b) {p t : Nat} (hp : p < 36) (ht : t < 36) (h : yTg b p t = true) {r0 r1 : Int32} (h0 : yKp b (1 - ysd (b p)) r0) (h1 : yKp (ypd b p t) (1 - ysd (b p)) r1) : yKc b p t = (decide (r0 ≠ -1) && decide (r1 = -1)) := by
  obtain ⟨hs, hf⟩ := yTg_fr h
  have f0 := (yfr_0 hf).1
  have ho : 1 - ysd (b p) ≤ 1 := by omega
  have hne : b p ≠ 4 + 4 * (1 - ysd (b p)) := fun e => by
    have hc28 := yV_28 hv hp
    rcases (show ysd (b p) = 0 ∨ ysd (b p) = 1 by omega) with z | z
    · rw [z] at e; rw [e] at z; revert z; decide
    · rw [z] at e; rw [e] at z; revert z; decide
  -- the other side's keeper stands where it stood
  have hm : ∀ q, q < 36 → (ymv b p t q = 4 + 4 * (1 - ysd (b p)) ↔ b q = 4 + 4 * (1 - ysd (b p))) := fun q hq => by
    unfold ymv
    by_cases e : q = t
    · rw [if_pos e, e, f0]
      exact ⟨fun z => absurd z hne, fun z => by omega⟩
    · rw [if_neg e]
      by_cases e2 : q = p
      · rw [if_pos e2, e2]
        exact ⟨fun z => by omega, fun z => absurd z hne⟩
      · rw [if_neg e2]
  have hg : ∀ q, q < 36 → (ypd b p t q = 4 + 4 * (1 - ysd (b p)) ↔ b q = 4 + 4 * (1 - ysd (b p)) ∧ yCs b p t q = false) := fun q hq => by
    unfold ypd
    rw [yput_o (by omega)]
    unfold ygo ycb
    rw [if_pos hq]
    show (if yCs b p t q = true then _ else _) = _ ↔ _
    by_cases e : yCs b p t q = true
    · rw [if_pos e]
      constructor
      · intro z; omega
      · rintro ⟨z1, z2⟩; rw [e] at z2; cases z2
    · rw [if_neg e, hm q hq]
      exact ⟨fun z => ⟨z, by simpa using e⟩, fun z => z.1⟩
  have hkc : yKc b p t = true ↔ ∃ q, q < 36 ∧ yCs b p t q = true ∧ b q = 4 + 4 * (1 - ysd (b p)) := by
    unfold yKc
    rw [decide_eq_true_eq]
    constructor
    · intro z
      obtain ⟨q, q1, q2⟩ := fb_ct_pos.mp (Nat.pos_of_ne_zero z)
      obtain ⟨q3, q4⟩ := (Bool.and_eq_true _ _).mp q2
      exact ⟨q, q1, q3, (hm q q1).mp (of_decide_eq_true q4)⟩
    · rintro ⟨q, q1, q2, q3⟩
      exact Nat.ne_of_gt (fb_ct_pos.mpr ⟨q, q1, (Bool.and_eq_true _ _).mpr ⟨q2, decide_eq_true ((hm q q1).mpr q3)⟩⟩)
  have hn1 : ∀ q, q < 36 → nI q ≠ -1 := by decide +kernel
  rcases h0 with ⟨q, a1, a2, a3⟩ | ⟨a1, a2⟩
  · rw [a3, decide_eq_true (hn1 q a1), Bool.true_and]
    cases e : yCs b p t q with
    | true =>
      rw [hkc.mpr ⟨q, a1, e, a2⟩]
      rcases h1 with ⟨u, c1, c2, c3⟩ | ⟨c1, c2⟩
      · obtain ⟨d1, d2⟩ := (hg u c1).mp c2
        have := hv.2.2.2.2.2.2.2.2.2 _ q u ho a1 c1 a2 d1
        rw [← this, e] at d2
        cases d2
      · rw [c2]; rfl
    | false =>
      have hk : yKc b p t = false := by
        cases g : yKc b p t with
        | false => rfl
        | true =>
          obtain ⟨u, c1, c2, c3⟩ := hkc.mp g
          have := hv.2.2.2.2.2.2.2.2.2 _ q u ho a1 c1 a2 c3
          rw [← this, e] at c2
          cases c2
      rw [hk]
      rcases h1 with ⟨u, c1, c2, c3⟩ | ⟨c1, c2⟩
      · rw [c3, decide_eq_false (hn1 u c1)]
      · exact absurd ((hg q a1).mpr ⟨a2, e⟩) (c1 q a1)
  · have hk : yKc b p t = false := by
      cases g : yKc b p t with
      | false => rfl
      | true =>
        obtain ⟨u, c1, c2, c3⟩ := hkc.mp g
        exact absurd c3 (a1 u c1)
    rw [hk, a2, decide_eq_false (by simp)]
    rfl
theorem y_n2 : ∀ m, m < 37 → (2 : Int32) * nI m = nI (2 * m) := by decide +kernel
theorem c_takeMove {f : Nat → Int64} {b : Nat → Nat} (h : yP f b) (hv : yV2 b) {p t : Nat} (hp : p < 36) (ht : t < 36) (hm : ysd (b p) = b 74 % 2) (hg : yTg b p t = true) (hlt : b 74 < 60) : ∃ f', fX2_takeMove f (nI p) (nI t) = some (nI (fb_ct (yCs b p t) 36), f') ∧ yP f' (ytm b p t) := by
  obtain ⟨hs, hf⟩ := yTg_fr hg
  obtain ⟨r0, k1, k2⟩ := c_keeperOf h hv.1 (show 1 - ysd (b p) ≤ 1 by omega)
  obtain ⟨f1, m1, m2⟩ := c_move h hv.1 hp ht hs hf
  have h36 := fb_ct_le (yCs b p t) 36
  obtain ⟨f2, e1, e2⟩ := c_earn m2 (s := ysd (b p)) (m := 2 * fb_ct (yCs b p t) 36) hs (by omega)
  rw [ygo_hi hp ht (by omega)] at e2
  have e2 : yP f2 (ypd b p t) := e2
  obtain ⟨v1, v2, v3⟩ := yV_pd hv hp ht hg
  obtain ⟨r1, l1, l2⟩ := c_keeperOf e2 v1 (show 1 - ysd (b p) ≤ 1 by omega)
  have hk := y_kept hv.1 hp ht hg k2 l2
  have e74 := ypd_74 (t := t) hp ht hs
  obtain ⟨f3, z1, z2⟩ := c_endTurn e2 v1 (by rw [e74]; exact hlt) (yKc b p t)
  have h66 : fX2_takeMove_66 f2 (nI (fb_ct (yCs b p t) 36)) (yb (yKc b p t)) = some (nI (fb_ct (yCs b p t) 36), f3) := by
    unfold fX2_takeMove_66
    rw [z1, zbd_S]
  have h26 : ∀ c : Bool, (c = decide (r0 ≠ -1)) → fX2_takeMove_26 f (nI p) (nI t) (nI (ysd (b p))) (nI (1 - ysd (b p))) (yb c) = some (nI (fb_ct (yCs b p t) 36), f3) := fun c hc => by
    unfold fX2_takeMove_26 fX2_takeMove_65
    rw [show fX2_movePiece f (nI p) (nI t) = some (nI (fb_ct (yCs b p t) 36), f1) from m1, zbd_S]
    show zbd (fX2_earn f1 (nI (ysd (b p))) (2 * nI (fb_ct (yCs b p t) 36))) _ = _
    rw [y_n2 _ (by omega), e1, zbd_S]
    rw [← hc] at hk
    cases c with
    | false =>
      rw [Bool.false_and] at hk
      rw [hk] at h66
      rw [yb_f, if_pos rfl]
      exact h66
    | true =>
      rw [Bool.true_and] at hk
      rw [yb_t, if_neg (by decide), l1, zbd_S]
      by_cases g : r1 = -1
      · rw [decide_eq_true g] at hk
        rw [hk] at h66
        rw [if_pos g]
        exact h66
      · rw [decide_eq_false g] at hk
        rw [hk] at h66
        rw [if_neg g]
        exact h66
  refine ⟨f3, ?_, z2⟩
  unfold fX2_takeMove
  rw [c_mover h, ← hm, zbd_S, p_other hs, zbd_S, k1, zbd_S]
  by_cases g : r0 = -1
  · rw [if_pos g]
    exact h26 false (by rw [g]; decide)
  · rw [if_neg g]
    exact h26 true (by rw [decide_eq_true g])

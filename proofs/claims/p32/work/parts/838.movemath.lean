/-! moves: the best one, what a move leaves -/
theorem ySm_b {g : Nat → Nat} (h : ∀ m, g m ≤ 36) : ∀ n, ySm g n ≤ 36 * n
  | 0 => Nat.le_refl _
  | n + 1 => by
    show ySm g n + g n ≤ 36 * (n + 1)
    have := ySm_b h n
    have := h n
    omega
theorem yG_b (b : Nat → Nat) (s m : Nat) : yG b s m ≤ 36 := by
  unfold yG
  split
  · exact fb_ct_le _ 36
  · omega
theorem ywo_b (b : Nat → Nat) (p t : Nat) : ywo b p t < 2000 := by
  have h1 := fb_ct_le (yCs b p t) 36
  have h2 := ySm_b (yG_b (ygo b p t) (1 - ysd (b p))) 36
  unfold ywo
  omega
/-- the best of the first k moves -/
theorem ybe_s (b : Nat → Nat) : ∀ k, k ≤ 1296 → (ybe b k = (-1, -1) ∧ ∀ i, i < k → ycd b (i / 36) (i % 36) = false) ∨
    ∃ j, j < k ∧ ycd b (j / 36) (j % 36) = true ∧ ybe b k = (nI j, nI (ywo b (j / 36) (j % 36))) ∧ (∀ i, i < k → ycd b (i / 36) (i % 36) = true → ywo b (i / 36) (i % 36) ≤ ywo b (j / 36) (j % 36)) ∧ ∀ i, i < j → ycd b (i / 36) (i % 36) = true → ywo b (i / 36) (i % 36) < ywo b (j / 36) (j % 36) := by
  intro k
  induction k with
  | zero => intro _; exact Or.inl ⟨rfl, fun i hi => absurd hi (by omega)⟩
  | succ k ih =>
    intro hk
    have hw := ywo_b b (k / 36) (k % 36)
    cases g : ycd b (k / 36) (k % 36) with
    | false =>
      rw [ybe_0 g]
      rcases ih (by omega) with ⟨h1, h2⟩ | ⟨j, j1, j2, j3, j4, j5⟩
      · refine Or.inl ⟨h1, fun i hi => ?_⟩
        by_cases e : i = k
        · rw [e]; exact g
        · exact h2 i (by omega)
      · refine Or.inr ⟨j, by omega, j2, j3, fun i hi hc => ?_, j5⟩
        by_cases e : i = k
        · rw [e, g] at hc; cases hc
        · exact j4 i (by omega) hc
    | true =>
      rcases ih (by omega) with ⟨h1, h2⟩ | ⟨j, j1, j2, j3, j4, j5⟩
      · have hgt : ¬ nI (ywo b (k / 36) (k % 36)) ≤ (ybe b k).2 := fun z => by
          rw [h1] at z
          have a := Int32.le_iff_toInt_le.mp z
          rw [nI_toInt (by omega)] at a
          have c : ((-1 : Int32)).toInt = -1 := by decide
          try dsimp only at a
          omega
        rw [ybe_gt g hgt]
        refine Or.inr ⟨k, by omega, g, rfl, fun i hi hc => ?_, fun i hi hc => ?_⟩
        · by_cases e : i = k
          · rw [e]; exact Nat.le_refl _
          · rw [h2 i (by omega)] at hc; cases hc
        · rw [h2 i hi] at hc; cases hc
      · have hwj := ywo_b b (j / 36) (j % 36)
        by_cases hle : ywo b (k / 36) (k % 36) ≤ ywo b (j / 36) (j % 36)
        · rw [ybe_le g (by rw [j3]; exact nI_le hle (by omega)), j3]
          refine Or.inr ⟨j, by omega, j2, rfl, fun i hi hc => ?_, j5⟩
          by_cases e : i = k
          · rw [e]; exact hle
          · exact j4 i (by omega) hc
        · rw [ybe_gt g (by rw [j3]; exact nI_ge (by omega) (by omega))]
          refine Or.inr ⟨k, by omega, g, rfl, fun i hi hc => ?_, fun i hi hc => ?_⟩
          · by_cases e : i = k
            · rw [e]; exact Nat.le_refl _
            · have := j4 i (by omega) hc
              omega
          · have := j4 i hi hc
            omega
/-- moves counted -/
def yCm (b : Nat → Nat) : Nat → Nat
  | 0 => 0
  | q + 1 => yCm b q + (if ypc b (b 74 % 2) q = true then fb_ct (yTg b q) 36 else 0)
theorem yCm_le (b : Nat → Nat) : ∀ q, yCm b q ≤ 36 * q
  | 0 => Nat.le_refl _
  | q + 1 => by
    show yCm b q + _ ≤ 36 * (q + 1)
    have h1 := yCm_le b q
    have h2 := fb_ct_le (yTg b q) 36
    split <;> omega
theorem yCm_0 (b : Nat → Nat) : ∀ q, yCm b q = 0 ↔ ∀ p, p < q → ∀ t, t < 36 → ycd b p t = false
  | 0 => ⟨fun _ p hp => absurd hp (by omega), fun _ => rfl⟩
  | q + 1 => by
    show yCm b q + _ = 0 ↔ _
    constructor
    · intro h p hp t ht
      by_cases e : p = q
      · subst e
        unfold ycd
        cases g : ypc b (b 74 % 2) p with
        | false =>
          rw [show decide (ysd (b p) = b 74 % 2) = false from g]
          rfl
        | true =>
          rw [g, if_pos rfl] at h
          rw [fb_ct_zero.mp (show fb_ct (yTg b p) 36 = 0 by omega) t ht, Bool.and_false]
      · exact (yCm_0 b q).mp (by omega) p (by omega) t ht
    · intro h
      have h1 := (yCm_0 b q).mpr (fun p hp => h p (by omega))
      have h2 : (if ypc b (b 74 % 2) q = true then fb_ct (yTg b q) 36 else 0) = 0 := by
        split
        · rename_i g
          refine fb_ct_zero.mpr (fun t ht => ?_)
          have := h q (by omega) t ht
          unfold ycd at this
          rw [show decide (ysd (b q) = b 74 % 2) = true from g, Bool.true_and] at this
          exact this
        · rfl
      omega
/-- what a board shows of its rooms depends on its squares and doors alone -/
theorem yrm_c {X Y : Nat → Bool} (h : ∀ i, i < 36 → X i = Y i) : ∀ i, i < 36 → yrm X i = yrm Y i :=
  yR_c h (fun i hi => by
    unfold yS0
    rw [h i hi, fb_ct_cong (fun k hk => h k (by omega))]) 36
theorem yL_c {P Q : Nat → Bool} (h : ∀ i, i < 36 → P i = Q i) : ∀ m i, i < 36 → yL P m i = yL Q m i
  | 0, i, hi => h i hi
  | m + 1, i, hi => by
    show (yL P m i && !yrm (yL P m) i) = (yL Q m i && !yrm (yL Q m) i)
    rw [yL_c h m i hi, yrm_c (yL_c h m) i hi]
theorem yG_c {b d : Nat → Nat} (h : ∀ i, i < 72 → b i = d i) (s m : Nat) : yG b s m = yG d s m := by
  have ho : ∀ i, i < 36 → yop b s i = yop d s i := fun i hi => by
    unfold yop
    rw [h i (by omega), h (36 + i) (by omega)]
  have hr := yrm_c (yL_c ho m)
  unfold yG
  rw [fb_ct_cong (p := fun i => yrm (yL (yop b s) m) i && ypc b s i) (q := fun i => yrm (yL (yop d s) m) i && ypc d s i) (fun k hk => by
    try dsimp only
    unfold ypc
    rw [hr k hk, h k (by omega)]), fb_ct_cong hr]
theorem ySm_c {g k : Nat → Nat} (h : ∀ m, g m = k m) : ∀ n, ySm g n = ySm k n
  | 0 => rfl
  | n + 1 => by
    show ySm g n + g n = ySm k n + k n
    rw [ySm_c h n, h n]
theorem ytm_lo {b : Nat → Nat} {p t i : Nat} (hs : ysd (b p) ≤ 1) (hi : i < 72) : ytm b p t i = ygo b p t i := by
  unfold ytm ypd
  rw [yet_lo (by omega), yput_o (by omega)]
theorem ytm_coin {b : Nat → Nat} {p t : Nat} (hs : ysd (b p) ≤ 1) : ytm b p t (72 + ysd (b p)) = b (72 + ysd (b p)) + 2 * fb_ct (yCs b p t) 36 := by
  unfold ytm ypd
  rw [yet_lo (by omega), yput_s]
/-- the other side loses what is captured -/
theorem ytm_pc {b : Nat → Nat} (hv : yV b) {p t : Nat} (hp : p < 36) (ht : t < 36) (hg : yTg b p t = true) : fb_ct (ypc (ytm b p t) (1 - ysd (b p))) 36 + fb_ct (yCs b p t) 36 = fb_ct (ypc b (1 - ysd (b p))) 36 := by
  obtain ⟨hs, hf⟩ := yTg_fr hg
  obtain ⟨h0, hd0⟩ := yfr_0 hf
  have hne := yTg_ne hv hp hg
  have key : ∀ q, q < 36 → ypc b (1 - ysd (b p)) q = (ypc (ytm b p t) (1 - ysd (b p)) q || yCs b p t q) ∧ ¬ (ypc (ytm b p t) (1 - ysd (b p)) q = true ∧ yCs b p t q = true) := by
    intro q hq
    have eb : ytm b p t q = if yCs b p t q = true then ymv b p t q + 20 else ymv b p t q := by
      rw [ytm_lo hs (by omega)]
      unfold ygo ycb
      rw [if_pos hq]
      rfl
    have hc28 := yV_28 hv hq
    have hcd := hv.1 q hq
    unfold ypc
    cases g : yCs b p t q with
    | true =>
      have g2 := yC_o (show yC (ymv b p t) (ysd (b p)) t 4 q = true from g)
      have hqt : ¬ q = t := fun e => by
        have g3 := g2.2
        rw [e] at g3
        unfold ymv at g3
        rw [if_pos rfl] at g3
        omega
      have hqp : ¬ q = p := fun e => by
        have g3 := g2.2
        rw [e] at g3
        unfold ymv at g3
        rw [if_neg (by omega), if_pos rfl, show ysd 0 = 2 by decide] at g3
        omega
      have em : ymv b p t q = b q := by
        unfold ymv
        rw [if_neg hqt, if_neg hqp]
      rw [em] at g2
      have hc9 : b q < 9 := by
        rcases hcd with h | h
        · omega
        · have := (y_code4 (b q) (by omega) h.1).1
          omega
      rw [eb, g, if_pos rfl, em, (ysd_20 (b q) hc9).1, g2.2]
      rw [decide_eq_true rfl, decide_eq_false (show ¬ 2 = 1 - ysd (b p) by omega)]
      exact ⟨rfl, fun z => nomatch z.1⟩
    | false =>
      rw [eb, g, if_neg (by decide), Bool.or_false]
      refine ⟨?_, fun z => nomatch z.2⟩
      unfold ymv
      by_cases e1 : q = t
      · rw [if_pos e1, e1, h0, show ysd 0 = 2 by decide, decide_eq_false (show ¬ 2 = 1 - ysd (b p) by omega), decide_eq_false (show ¬ ysd (b p) = 1 - ysd (b p) by omega)]
      · rw [if_neg e1]
        by_cases e2 : q = p
        · rw [if_pos e2, e2, show ysd 0 = 2 by decide, decide_eq_false (show ¬ ysd (b p) = 1 - ysd (b p) by omega), decide_eq_false (show ¬ 2 = 1 - ysd (b p) by omega)]
        · rw [if_neg e2]
  rw [← fb_ct_or (fun k hk => (key k hk).2)]
  exact fb_ct_cong (fun k hk => (key k hk).1.symm)

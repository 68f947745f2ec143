/-! PURE 10: a move and its captures -/
def ymv (b : Nat → Nat) (p t : Nat) : Nat → Nat := fun j => if j = t then b p else if j = p then 0 else b j
def ycp (b : Nat → Nat) (s t w : Nat) : Bool := (decide (ynb t w < 36) && decide (ynb (ynb t w) w < 36)) && (ypc b (1 - s) (ynb t w) && ypc b s (ynb (ynb t w) w))
def yC (b : Nat → Nat) (s t n j : Nat) : Bool := yw4 (fun w => ycp b s t w && decide (j = ynb t w)) n
def ycb (b : Nat → Nat) (C : Nat → Bool) : Nat → Nat := fun j => if j < 36 then (if C j = true then b j + 20 else b j) else if j < 72 then (if C (j - 36) = true then 0 else b j) else b j
def ygo (b : Nat → Nat) (p t : Nat) : Nat → Nat := ycb (ymv b p t) (yC (ymv b p t) (ysd (b p)) t 4)
theorem yC_t {b : Nat → Nat} {s t n j : Nat} : yC b s t n j = true ↔ ∃ w, w < n ∧ ycp b s t w = true ∧ j = ynb t w := by
  unfold yC
  rw [yw4_t]
  constructor
  · rintro ⟨w, a, c⟩
    obtain ⟨c1, c2⟩ := (Bool.and_eq_true _ _).mp c
    exact ⟨w, a, c1, of_decide_eq_true c2⟩
  · rintro ⟨w, a, c, d⟩
    exact ⟨w, a, (Bool.and_eq_true _ _).mpr ⟨c, decide_eq_true d⟩⟩
theorem ycp_t {b : Nat → Nat} {s t w : Nat} : ycp b s t w = true ↔ ynb t w < 36 ∧ ynb (ynb t w) w < 36 ∧ ysd (b (ynb t w)) = 1 - s ∧ ysd (b (ynb (ynb t w) w)) = s := by
  unfold ycp ypc
  rw [Bool.and_eq_true, Bool.and_eq_true, Bool.and_eq_true, decide_eq_true_eq, decide_eq_true_eq, decide_eq_true_eq, decide_eq_true_eq]
  constructor
  · rintro ⟨⟨a, c⟩, d, e⟩; exact ⟨a, c, d, e⟩
  · rintro ⟨a, c, d, e⟩; exact ⟨⟨a, c⟩, d, e⟩
theorem yC_o {b : Nat → Nat} {s t n j : Nat} (h : yC b s t n j = true) : j < 36 ∧ ysd (b j) = 1 - s := by
  obtain ⟨w, a, c, rfl⟩ := yC_t.mp h
  obtain ⟨c1, c2, c3, c4⟩ := ycp_t.mp c
  exact ⟨c1, c3⟩
theorem ynb_d1 : ∀ t, t < 36 → ∀ w, w < 4 → ynb t w < 36 → ∀ v, v < w → ynb t w ≠ ynb t v := by decide +kernel
theorem ynb_d2 : ∀ t, t < 36 → ∀ w, w < 4 → ynb t w < 36 → ynb (ynb t w) w < 36 → ∀ v, v < 4 → ynb (ynb t w) w ≠ ynb t v := by decide +kernel
theorem yC_no1 {b : Nat → Nat} {s t w : Nat} (ht : t < 36) (hw : w < 4) (h : ynb t w < 36) : yC b s t w (ynb t w) = false := by
  cases g : yC b s t w (ynb t w) with
  | false => rfl
  | true =>
    obtain ⟨v, a, c, e⟩ := yC_t.mp g
    exact absurd e (ynb_d1 t ht w hw h v a)
theorem yC_no2 {b : Nat → Nat} {s t w : Nat} (ht : t < 36) (hw : w < 4) (h : ynb t w < 36) (h2 : ynb (ynb t w) w < 36) : yC b s t w (ynb (ynb t w) w) = false := by
  cases g : yC b s t w (ynb (ynb t w) w) with
  | false => rfl
  | true =>
    obtain ⟨v, a, c, e⟩ := yC_t.mp g
    exact absurd e (ynb_d2 t ht w hw h h2 v (by omega))
theorem yC_s {b : Nat → Nat} {s t w : Nat} (j : Nat) : yC b s t (w + 1) j = (yC b s t w j || (ycp b s t w && decide (j = ynb t w))) := rfl
theorem yC_ct {b : Nat → Nat} {s t w : Nat} (ht : t < 36) (hw : w < 4) : fb_ct (yC b s t (w + 1)) 36 = fb_ct (yC b s t w) 36 + (if ycp b s t w = true then 1 else 0) := by
  by_cases g : ycp b s t w = true
  · obtain ⟨c1, c2, c3, c4⟩ := ycp_t.mp g
    have h3 := fb_ct_upd (yC b s t w) true c1
    rw [yC_no1 ht hw c1, if_pos rfl, if_neg ynft, Nat.add_zero] at h3
    rw [if_pos g, ← h3]
    exact fb_ct_cong (p := yC b s t (w + 1)) (q := fun k => if k = ynb t w then true else yC b s t w k) (fun k hk => by
      rw [yC_s, g, Bool.true_and]
      by_cases e : k = ynb t w
      · rw [if_pos e, decide_eq_true e, Bool.or_true]
      · rw [if_neg e, decide_eq_false e, Bool.or_false])
  · have g' : ycp b s t w = false := by simpa using g
    rw [if_neg g, Nat.add_zero]
    exact fb_ct_cong (p := yC b s t (w + 1)) (q := yC b s t w) (fun k hk => by rw [yC_s, g', Bool.false_and, Bool.or_false])
/-- what may stand on the board ahead of the captures -/
theorem m_go {now : Nat → Int32} {b : Nat → Nat} (h : yN now b) (hv : yV b) {p t : Nat} (hp : p < 36) (ht : t < 36) (hpt : p ≠ t) (hs : ysd (b p) ≤ 1) :
    ∃ now', fX5_go now (nI p) (nI t) = some (nI (fb_ct (yC (ymv b p t) (ysd (b p)) t 4) 36), now') ∧ yN now' (ygo b p t) := by
  have hc28 := yV_28 hv hp
  have h28 : ∀ q, q < 36 → ymv b p t q ≤ 28 := fun q hq => by
    have := yV_28 hv hq
    unfold ymv
    split
    · exact hc28
    · split
      · omega
      · exact this
  generalize hsd : ysd (b p) = s at hs
  generalize hb1 : ymv b p t = b1 at h28
  have hl : ∀ d w n now, w + d = 4 → d < n → yN now (ycb b1 (yC b1 s t w)) → ∃ now', fX5_go_35 n now (nI t) (nI s) (nI (fb_ct (yC b1 s t w) 36)) (nI w) = some (nI (fb_ct (yC b1 s t 4) 36), now') ∧ yN now' (ycb b1 (yC b1 s t 4)) := by
    intro d
    induction d with
    | zero =>
      intro w n now hw hn hN
      cases n with
      | zero => omega
      | succ n =>
        have e : w = 4 := by omega
        subst e
        rw [fX5_go_35, if_pos (show (4 : Int32) ≤ nI 4 by decide)]
        exact ⟨_, rfl, hN⟩
    | succ d ih =>
      intro w n now hw hn hN
      cases n with
      | zero => omega
      | succ n =>
        have hct := yC_ct (b := b1) (s := s) ht (show w < 4 by omega)
        have skip : ycp b1 s t w = false → ∃ now', fX5_go_35 n now (nI t) (nI s) (nI (fb_ct (yC b1 s t w) 36)) (nI (w + 1)) = some (nI (fb_ct (yC b1 s t 4) 36), now') ∧ yN now' (ycb b1 (yC b1 s t 4)) := fun g => by
          have e : yC b1 s t (w + 1) = yC b1 s t w := funext (fun j => by rw [yC_s, g, Bool.false_and, Bool.or_false])
          have := ih (w + 1) n now (by omega) (by omega) (by rw [e]; exact hN)
          rw [e] at this
          exact this
        have nocap : ∀ {x : Prop}, (ycp b1 s t w = true → x) → ¬ x → ycp b1 s t w = false := fun a c => by
          cases g : ycp b1 s t w with
          | false => rfl
          | true => exact absurd (a g) c
        rw [fX5_go_35, if_neg (show ¬ (4 : Int32) ≤ nI w from nI_ge (b := 4) (by omega) (by omega)), m_next t ht w (by omega), zbd_S]
        by_cases h1 : ynb t w < 36
        · rw [yI_lt (show ynb t w ≤ 35 by omega), if_pos (nI_pos' (by omega)), m_next _ h1 w (by omega), zbd_S]
          unfold fX5_go_65 fX5_go_128
          by_cases h2 : ynb (ynb t w) w < 36
          · have n1 := yC_no1 (b := b1) (s := s) ht (show w < 4 by omega) h1
            have n2 := yC_no2 (b := b1) (s := s) ht (show w < 4 by omega) h1 h2
            have e1 : now (ynb t w) = nI (b1 (ynb t w)) := by
              rw [hN _ (by omega)]
              unfold ycb
              rw [if_pos h1, n1, if_neg ynft]
            have e2 : now (ynb (ynb t w) w) = nI (b1 (ynb (ynb t w) w)) := by
              rw [hN _ (by omega)]
              unfold ycb
              rw [if_pos h2, n2, if_neg ynft]
            have k1 := h28 _ h1
            have k2 := h28 _ h2
            rw [yI_lt (show ynb (ynb t w) w ≤ 35 by omega), if_neg (nI_pos (by omega)), zck_N (by omega) (by omega), tn_n (show ynb t w < 2000 by omega), e1, m_sideOf _ (by omega), zbd_S, show (1 : Int32) - nI s = nI (1 - s) from pk_sub (a := 1) hs]
            by_cases g1 : ysd (b1 (ynb t w)) = 1 - s
            · rw [if_pos ((yI_sd (by omega)).mpr g1), zck_N (by omega) (by omega), tn_n (show ynb (ynb t w) w < 2000 by omega), e2, m_sideOf _ (by omega), zbd_S]
              by_cases g2 : ysd (b1 (ynb (ynb t w) w)) = s
              · have gc := ycp_t.mpr ⟨h1, h2, g1, g2⟩
                rw [if_pos ((yI_sd hs).mpr g2), zck_N (by omega) (by omega), zck_N (by omega) (by omega), show (36 : Int32) + nI (ynb t w) = nI (36 + ynb t w) from nI_add 36 _, zck_N (by omega) (by omega), zbn_E, zbn_E, nI_1, nI_1, tn_n (show 36 + ynb t w < 2000 by omega), show nI (b1 (ynb t w)) + 20 = nI (b1 (ynb t w) + 20) from nI_add _ 20]
                rw [gc, if_pos rfl] at hct
                rw [← hct]
                refine ih (w + 1) n _ (by omega) (by omega) (fun j hj => ?_)
                unfold upd ycb
                by_cases q1 : j = 36 + ynb t w
                · rw [if_pos q1, if_neg (show ¬ j < 36 by omega), if_pos (show j < 72 by omega), show j - 36 = ynb t w by omega, yC_s, gc, decide_eq_true rfl]
                  simp
                  rfl
                · rw [if_neg q1]
                  by_cases q2 : j = ynb t w
                  · rw [if_pos q2, q2, if_pos h1, yC_s, gc, decide_eq_true rfl]
                    simp
                  · rw [if_neg q2, hN j hj]
                    unfold ycb
                    rw [yC_s, gc, decide_eq_false q2, Bool.and_false, Bool.or_false]
                    by_cases q3 : j < 36
                    · rw [if_pos q3, if_pos q3]
                    · rw [if_neg q3, if_neg q3, yC_s, decide_eq_false (show ¬ j - 36 = ynb t w by omega), Bool.and_false, Bool.or_false]
              · rw [if_neg (fun z => g2 ((yI_sd hs).mp z)), zbn_E, nI_1]
                exact skip (nocap (fun g => (ycp_t.mp g).2.2.2) g2)
            · rw [if_neg (fun z => g1 ((yI_sd (by omega)).mp z)), zbn_E, nI_1]
              exact skip (nocap (fun g => (ycp_t.mp g).2.2.1) g1)
          · rw [yI_ge (show ¬ ynb (ynb t w) w ≤ 35 by omega), if_pos (by decide), zbn_E, nI_1]
            exact skip (nocap (fun g => (ycp_t.mp g).2.1) h2)
        · rw [yI_ge (show ¬ ynb t w ≤ 35 by omega), if_neg (by decide)]
          unfold fX5_go_65 fX5_go_128
          rw [if_pos (by decide), zbn_E, nI_1]
          exact skip (nocap (fun g => (ycp_t.mp g).1) h1)
  have e0 : ∀ j, yC b1 s t 0 j = false := fun _ => rfl
  have hN1 : yN (upd (upd now t (nI (b p))) p 0) (ycb b1 (yC b1 s t 0)) := fun j hj => by
    have ey : ycb b1 (yC b1 s t 0) j = b1 j := by
      unfold ycb
      rw [e0, e0, if_neg ynft, if_neg ynft]
      split
      · rfl
      · split <;> rfl
    rw [ey, ← hb1]
    unfold upd ymv
    by_cases q : j = p
    · rw [if_pos q, if_neg (show ¬ j = t by omega), if_pos q]; rfl
    · rw [if_neg q]
      by_cases q2 : j = t
      · rw [if_pos q2, if_pos q2]
      · rw [if_neg q2, if_neg q2, if_neg q]; exact h j hj
  have ec : fb_ct (yC b1 s t 0) 36 = 0 := fb_ct_zero.mpr (fun k _ => e0 k)
  obtain ⟨now', r1, r2⟩ := hl 4 0 zFu _ (by omega) (by unfold zFu; omega) hN1
  refine ⟨now', ?_, ?_⟩
  · unfold fX5_go
    rw [zck_N (by omega) (by omega), tn_n (show p < 2000 by omega), h p (by omega), m_sideOf _ (by omega), zbd_S, hsd, yI_lt hs, zck_N (by omega) (by omega), zck_N (by omega) (by omega), zck_N (by omega) (by omega), tn_n (show t < 2000 by omega)]
    rw [ec] at r1
    exact r1
  · unfold ygo
    rw [hb1, hsd]
    exact r2

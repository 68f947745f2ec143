/-! PURE 34: the best move -/
def ywo (b : Nat → Nat) (p t : Nat) : Nat := 10 * fb_ct (yCs b p t) 36 + ySm (yG (ygo b p t) (1 - ysd (b p))) 36
theorem yG_0 {b : Nat → Nat} {s r m : Nat} (h : yNr (yop b s) r) (hm : r ≤ m) : yG b s m = 0 := by
  have h0 : ∀ i, i < 36 → yL (yop b s) m i = false := fun i hi => by
    cases e : yL (yop b s) m i with
    | false => rfl
    | true =>
      have := yL_le e hm
      rw [h.2 i hi] at this
      cases this
  have h1 : ∀ i, i < 36 → yrm (yL (yop b s) m) i = false := fun i hi => by
    cases e : yrm (yL (yop b s) m) i with
    | false => rfl
    | true =>
      have := yrm_X e
      rw [h0 i hi] at this
      cases this
  unfold yG
  rw [fb_ct_zero.mpr h1]
  split <;> rfl
theorem ySm_36 {b : Nat → Nat} {s r : Nat} (h : yNr (yop b s) r) : ∀ d, ySm (yG b s) (r + d) = ySm (yG b s) r
  | 0 => rfl
  | d + 1 => by
    show ySm (yG b s) (r + d) + yG b s (r + d) = _
    rw [ySm_36 h d, yG_0 h (by omega), Nat.add_zero]
theorem q_worthV {fb : Nat → Int64} {b : Nat → Nat} (hP : yP fb b) (hv : yV b) {p t : Nat} (hp : p < 36) (ht : t < 36) (hm : ysd (b p) = b 74 % 2) (hg : yTg b p t = true) (ft : Nat → Int64) : ∃ ft', fX4_worthOfMove fb ft (nI p) (nI t) = some (nI (ywo b p t), ft') := by
  obtain ⟨hs, hf⟩ := yTg_fr hg
  have h4 : fb_ct (yCs b p t) 36 ≤ 4 := yC_4 ht
  have hn10 : ∀ m, m < 5 → (10 : Int32) * nI m = nI (10 * m) := by decide +kernel
  obtain ⟨ft1, t1, t2⟩ := c_copy (f := ft) hP
  obtain ⟨ft2, u1, u2⟩ := c_move t2 hv hp ht hs hf
  obtain ⟨r, d1, d2⟩ := c_countSealed u2 (show 1 - ysd (b p) ≤ 1 by omega)
  have h36 := yNr_36 d2
  have e := ySm_36 d2 (36 - r)
  rw [show r + (36 - r) = 36 by omega] at e
  refine ⟨ft2, ?_⟩
  unfold fX4_worthOfMove
  rw [t1, zbd_S, u1, zbd_S, c_mover hP, zbd_S, ← hm, p_other hs, zbd_S]
  dsimp only
  rw [d1, zbd_S]
  show some (10 * nI (fb_ct (yCs b p t) 36) + _, ft2) = _
  rw [hn10 _ (by omega), nI_add, ← e]
  rfl
/-- a move of the side whose turn it is -/
def ycd (b : Nat → Nat) (p t : Nat) : Bool := decide (ysd (b p) = b 74 % 2) && yTg b p t
/-- the best of the first k moves, and its worth -/
def ybe (b : Nat → Nat) : Nat → Int32 × Int32
  | 0 => (-1, -1)
  | k + 1 => if ycd b (k / 36) (k % 36) = true then (if nI (ywo b (k / 36) (k % 36)) ≤ (ybe b k).2 then ybe b k else (nI k, nI (ywo b (k / 36) (k % 36)))) else ybe b k
theorem ybe_m (b : Nat → Nat) : ∀ k, (-1 : Int32) ≤ (ybe b k).2
  | 0 => (by decide : (-1 : Int32) ≤ (-1 : Int32))
  | k + 1 => by
    have h := ybe_m b k
    unfold ybe
    split
    · split
      · exact h
      · rename_i g
        have a := Int32.le_iff_toInt_le.mp h
        refine Int32.le_iff_toInt_le.mpr ?_
        have c : ¬ (nI (ywo b (k / 36) (k % 36))).toInt ≤ (ybe b k).2.toInt := fun z => g (Int32.le_iff_toInt_le.mpr z)
        show (-1 : Int32).toInt ≤ (nI (ywo b (k / 36) (k % 36))).toInt
        omega
    · exact h
theorem m_best_l {now0 : Nat → Int32} {b : Nat → Nat} (hN0 : yN now0 b) {fb : Nat → Int64} (hP : yP fb b) (hv : yV b) (h0 : b 75 = 0) (thrown : Int32) : ∀ d k n now comes queue far ahead roomAt rooms, k + d = 1296 → d < n → yN now b →
    ∃ now' c' q' f' a' ra' r', fX5_best_6 n thrown now comes queue far ahead roomAt rooms (ybe b k).1 (ybe b k).2 (nI k) = fX5_best_89 thrown now' c' q' f' a' ra' r' (ybe b 1296).1 ∧ yN now' b := by
  have hms : b 74 % 2 ≤ 1 := by omega
  intro d
  induction d with
  | zero =>
    intro k n now comes queue far ahead roomAt rooms hk hn hN
    cases n with
    | zero => omega
    | succ n =>
      rw [fX5_best_6, if_pos (show (1296 : Int32) ≤ nI k from nI_le (a := 1296) (by omega) (by omega)), show k = 1296 by omega]
      exact ⟨_, _, _, _, _, _, _, rfl, hN⟩
  | succ d ih =>
    intro k n now comes queue far ahead roomAt rooms hk hn hN
    cases n with
    | zero => omega
    | succ n =>
      have hp : k / 36 < 36 := by omega
      have ht : k % 36 < 36 := by omega
      have hc28 := yV_28 hv hp
      have skip : ∀ now comes queue far ahead roomAt rooms, yN now b → ybe b (k + 1) = ybe b k → ∃ now' c' q' f' a' ra' r', fX5_best_6 n thrown now comes queue far ahead roomAt rooms (ybe b k).1 (ybe b k).2 (nI (k + 1)) = fX5_best_89 thrown now' c' q' f' a' ra' r' (ybe b 1296).1 ∧ yN now' b := fun now comes queue far ahead roomAt rooms hN e => by
        rw [← e]
        exact ih (k + 1) n now comes queue far ahead roomAt rooms (by omega) (by omega) hN
      rw [fX5_best_6, if_neg (show ¬ (1296 : Int32) ≤ nI k from nI_ge (b := 1296) (by omega) (by omega)), m_isOver hN hv, zbd_S, decide_eq_false (show ¬ b 75 ≠ 0 by omega), yb_f, if_pos rfl, show (36 : Int32) = nI 36 from rfl, pk_rem (by omega) (by omega) (by omega), pk_div (by omega) (by omega) (by omega), zbn_E, zbn_E, zck_N (by omega) (by omega), tn_n (by omega), hN _ (by omega), m_sideOf _ (by omega), zbd_S, m_turn hN hv, zbd_S]
      unfold fX5_best_83
      by_cases gm : ysd (b (k / 36)) = b 74 % 2
      · obtain ⟨c', q', f', d1⟩ := m_can hN hv hp ht comes queue far
        rw [if_pos ((yI_sd hms).mpr gm), d1, zbd_S]
        dsimp only
        cases gt : yTg b (k / 36) (k % 36) with
        | false =>
          rw [yb_f, if_pos rfl, zbn_E, nI_1]
          refine skip _ _ _ _ _ _ _ hN ?_
          show (if ycd b (k / 36) (k % 36) = true then _ else _) = _
          unfold ycd
          rw [gt, Bool.and_false, if_neg ynft]
        | true =>
          obtain ⟨x, w, w1, w2, w3, w4⟩ := q_worthOf (ft := fb) hP hN hv hp ht gm gt queue ahead roomAt rooms
          obtain ⟨ft1, z1⟩ := w3 fb
          obtain ⟨ft2, z2⟩ := q_worthV hP hv hp ht gm gt fb
          have ex : x = nI (ywo b (k / 36) (k % 36)) := by
            have := Option.some.inj (z1.symm.trans z2)
            exact (Prod.mk.inj this).1
          have ec : ycd b (k / 36) (k % 36) = true := by
            unfold ycd
            rw [decide_eq_true gm, gt]
            rfl
          obtain ⟨now', q2, a2, ra2, r2, y1, y2⟩ := w4 now q' ahead roomAt rooms hN
          rw [yb_t, if_neg (show ¬ (1 : Int32) = 0 by decide), y1, zbd_S]
          dsimp only
          rw [ex]
          by_cases gw : nI (ywo b (k / 36) (k % 36)) ≤ (ybe b k).2
          · rw [if_pos gw, zbn_E, nI_1]
            refine skip _ _ _ _ _ _ _ y2 ?_
            show (if ycd b (k / 36) (k % 36) = true then (if nI (ywo b (k / 36) (k % 36)) ≤ (ybe b k).2 then ybe b k else _) else _) = _
            rw [if_pos ec, if_pos gw]
          · obtain ⟨now3, q3, a3, ra3, r3, y3, y4⟩ := w4 now' q2 a2 ra2 r2 y2
            rw [if_neg gw, y3, zbd_S]
            dsimp only
            rw [ex, zbn_E, nI_1]
            have e : ybe b (k + 1) = (nI k, nI (ywo b (k / 36) (k % 36))) := by
              show (if ycd b (k / 36) (k % 36) = true then (if nI (ywo b (k / 36) (k % 36)) ≤ (ybe b k).2 then ybe b k else (nI k, nI (ywo b (k / 36) (k % 36)))) else _) = _
              rw [if_pos ec, if_neg gw]
            have := ih (k + 1) n now3 c' q3 f' a3 ra3 r3 (by omega) (by omega) y4
            rw [e] at this
            exact this
      · rw [if_neg (fun z => gm ((yI_sd hms).mp z)), zbn_E, nI_1]
        refine skip _ _ _ _ _ _ _ hN ?_
        show (if ycd b (k / 36) (k % 36) = true then _ else _) = _
        unfold ycd
        rw [decide_eq_false gm, Bool.false_and, if_neg ynft]

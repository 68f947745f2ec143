/-! PURE 16: refusals -/
theorem y_n100 : ∀ r, r < 9 → nI r * (100 : Int32) = nI (100 * r) := by decide +kernel
theorem p_ref {r d : Nat} (hr : r < 9) : fX2_refusal (nI r) (nI d) = some (nI (100 * r + d)) := by
  unfold fX2_refusal
  rw [y_n100 r hr, nI_add]
def ymr (b : Nat → Nat) (p t : Nat) : Nat × Nat := if b 75 ≠ 0 then (1, b 74) else if ypc b (b 74 % 2) p = false then (2, p) else if yTg b p t = false then (3, t) else (0, 0)
theorem c_moveRef {f : Nat → Int64} {b : Nat → Nat} (h : yP f b) (hv : yV b) {p t : Nat} (hp : p < 36) (ht : t < 36) : fX2_refusalOfMove f (nI p) (nI t) = some (nI (100 * (ymr b p t).1 + (ymr b p t).2)) := by
  have hs : b 74 % 2 ≤ 1 := by omega
  unfold fX2_refusalOfMove ymr
  rw [c_isOver h hv, zbd_S]
  by_cases g : b 75 = 0
  · rw [decide_eq_false (by omega), yb_f, if_pos rfl, if_neg (by omega), c_mover h, zbd_S, p_pieces f hs, zbd_S, yhas (h.1 _ hs) hp, zbd_S]
    cases g2 : ypc b (b 74 % 2) p with
    | false =>
      rw [yb_f, if_pos rfl, if_pos rfl, show (2 : Int32) = nI 2 from rfl, p_ref (by omega), zbd_S]
    | true =>
      have hsd : ysd (b p) = b 74 % 2 := of_decide_eq_true g2
      obtain ⟨w, w1, w2⟩ := c_targets h hv hp (by omega)
      rw [yb_t, if_neg (by decide), if_neg (by decide), w1, zbd_S, yhas w2 ht, zbd_S]
      cases g3 : yTg b p t with
      | false => rw [yb_f, if_pos rfl, if_pos rfl, show (3 : Int32) = nI 3 from rfl, p_ref (by omega), zbd_S]
      | true => rw [yb_t, if_neg (by decide), if_neg (by decide)]; rfl
  · rw [decide_eq_true g, yb_t, if_neg (by decide), if_pos g, c_turns h, zbd_S, show (1 : Int32) = nI 1 from rfl, p_ref (by omega), zbd_S]
/-- the keeper's square, 99 if there is none -/
def yfs (P : Nat → Bool) : Nat → Nat
  | 0 => 99
  | n + 1 => if P n = true then n else yfs P n
theorem yfs_t {P : Nat → Bool} : ∀ n, n ≤ 36 → (yfs P n < n ∧ P (yfs P n) = true) ∨ (yfs P n = 99 ∧ ∀ i, i < n → P i = false)
  | 0, _ => Or.inr ⟨rfl, fun i hi => absurd hi (by omega)⟩
  | n + 1, hn => by
    unfold yfs
    by_cases g : P n = true
    · rw [if_pos g]; exact Or.inl ⟨by omega, g⟩
    · rw [if_neg g]
      rcases yfs_t (P := P) n (by omega) with ⟨a, c⟩ | ⟨a, c⟩
      · exact Or.inl ⟨by omega, c⟩
      · refine Or.inr ⟨a, fun i hi => ?_⟩
        by_cases e : i = n
        · rw [e]; simpa using g
        · exact c i (by omega)
def ykq (b : Nat → Nat) (s : Nat) : Nat := yfs (fun q => decide (b q = 4 + 4 * s)) 36
theorem ykq_K (b : Nat → Nat) (s : Nat) : yKp b s (yI (ykq b s) 35) := by
  rcases yfs_t (P := fun q => decide (b q = 4 + 4 * s)) 36 (by omega) with ⟨a, c⟩ | ⟨a, c⟩
  · have a' : ykq b s < 36 := a
    exact Or.inl ⟨ykq b s, a', of_decide_eq_true c, yI_lt (by omega)⟩
  · have a' : ykq b s = 99 := a
    exact Or.inr ⟨fun q hq => of_decide_eq_false (c q hq), yI_ge (by omega)⟩
theorem c_kq {f : Nat → Int64} {b : Nat → Nat} (h : yP f b) (hv : yV b) {s : Nat} (hs : s ≤ 1) : fX2_keeperOf f (nI s) = some (yI (ykq b s) 35) := by
  obtain ⟨r, r1, r2⟩ := c_keeperOf h hv hs
  rw [r1, yKp_u hv hs r2 (ykq_K b s)]
def ypp (b : Nat → Nat) (q : Nat) (isP : Bool) : Nat := if isP = true then 2 + ykk (b q) else 3
def ypr (b : Nat → Nat) (q : Nat) (isP : Bool) : Nat × Nat :=
  if b 75 ≠ 0 then (1, b 74) else if ywl (b q) = false then (4, q) else if (isP && !decide (ymd (b q) = b 74 % 2)) = true then (5, q) else if yar (ypc b (b 74 % 2)) q = false then (6, q)
  else if (isP && decide (ykk (b q) = 3) && decide (ykq b (b 74 % 2) < 36)) = true then (7, ykq b (b 74 % 2)) else if b (72 + b 74 % 2) < ypp b q isP then (8, ypp b q isP - b (72 + b 74 % 2)) else (0, 0)
theorem y_md3 : ∀ c, c < 29 → ymd c ≤ 1 → ykk c ≤ 3 := by decide +kernel
theorem c_131 {f : Nat → Int64} {b : Nat → Nat} (h : yP f b) (hv : yV b) {s m : Nat} (hs : s ≤ 1) (hm : m < 8) : fX2_refusalOfPurchase_131 f (nI s) (nI m) = some (nI (if b (72 + s) < m then 100 * 8 + (m - b (72 + s)) else 0)) := by
  have h74 := yV_74 hv
  have hb : b (72 + s) ≤ 1000 := by
    rcases (show s = 0 ∨ s = 1 by omega) with rfl | rfl
    · exact h74.1
    · exact h74.2.1
  have ht : (nI m - nI (b (72 + s))).toInt = (m : Int) - b (72 + s) := pk_sub_toInt (by omega) (by omega)
  have h0 : (0 : Int32).toInt = 0 := by decide
  unfold fX2_refusalOfPurchase_131
  rw [c_coins h hs, zbd_S, zbn_E]
  by_cases g : b (72 + s) < m
  · rw [if_neg (fun z => by have := Int32.le_iff_toInt_le.mp z; omega), if_pos g, pk_sub (by omega), show (8 : Int32) = nI 8 from rfl, p_ref (by omega), zbd_S]
  · rw [if_pos (Int32.le_iff_toInt_le.mpr (by omega)), if_neg g]; rfl
theorem y_beside {b : Nat → Nat} {s q : Nat} (hq : q < 36) : (∀ i, i < 36 → (yar (fun j => decide (j = q)) i && ypc b s i) = false) ↔ yar (ypc b s) q = false := by
  constructor
  · intro z
    cases g : yar (ypc b s) q with
    | false => rfl
    | true =>
      obtain ⟨w, w1, w2, w3⟩ := yar_t.mp g
      have := z _ w2
      rw [y_nearw hq w1 rfl w2, w3] at this
      cases this
  · intro z i hi
    cases g : (yar (fun j => decide (j = q)) i && ypc b s i) with
    | false => rfl
    | true =>
      obtain ⟨g1, g2⟩ := (Bool.and_eq_true _ _).mp g
      rw [y_near q hq i hi] at g1
      obtain ⟨w, w1, w2⟩ := yw4_t.mp g1
      have e := of_decide_eq_true w2
      have : yar (ypc b s) q = true := yar_t.mpr ⟨w, w1, by rw [e]; exact hi, by rw [e]; exact g2⟩
      rw [z] at this
      cases this
theorem c_purRef {f : Nat → Int64} {b : Nat → Nat} (h : yP f b) (hv : yV b) {q : Nat} (hq : q < 36) (isP : Bool) : fX2_refusalOfPurchase f (nI q) (yb isP) = some (nI (100 * (ypr b q isP).1 + (ypr b q isP).2)) := by
  have hs : b 74 % 2 ≤ 1 := by omega
  have hc28 := yV_28 hv hq
  obtain ⟨T, T1, T2⟩ := ySW_of hq
  obtain ⟨v, v1, v2⟩ := y3around T2
  have hA := ySW_and v2 (h.1 (b 74 % 2) hs)
  unfold fX2_refusalOfPurchase ypr
  rw [c_mover h, zbd_S, c_isOver h hv, zbd_S]
  by_cases g : b 75 = 0
  · rw [decide_eq_false (show ¬ b 75 ≠ 0 by omega), yb_f, if_pos rfl, if_neg (show ¬ b 75 ≠ 0 by omega), p_walls, zbd_S, yhas (y_walls h) hq, zbd_S]
    cases gw : ywl (b q) with
    | false => rw [yb_f, if_pos rfl, if_pos rfl, show (4 : Int32) = nI 4 from rfl, p_ref (by omega), zbd_S]
    | true =>
      rw [yb_t, if_neg (show ¬ (1 : Int32) = 0 by decide), if_neg (show ¬ true = false by decide)]
      -- behind the memory
      have h60 : (isP = true → ymd (b q) = b 74 % 2) → fX2_refusalOfPurchase_60 f (nI q) (yb isP) (nI (b 74 % 2)) = some (nI (100 * (if yar (ypc b (b 74 % 2)) q = false then (6, q)
  else if (isP && decide (ykk (b q) = 3) && decide (ykq b (b 74 % 2) < 36)) = true then (7, ykq b (b 74 % 2)) else if b (72 + b 74 % 2) < ypp b q isP then (8, ypp b q isP - b (72 + b 74 % 2)) else (0, 0) : Nat × Nat).1 + (if yar (ypc b (b 74 % 2)) q = false then (6, q)
  else if (isP && decide (ykk (b q) = 3) && decide (ykq b (b 74 % 2) < 36)) = true then (7, ykq b (b 74 % 2)) else if b (72 + b 74 % 2) < ypp b q isP then (8, ypp b q isP - b (72 + b 74 % 2)) else (0, 0) : Nat × Nat).2)) := by
        intro hmem
        have h118 : fX2_refusalOfPurchase_118 f (nI q) (yb isP) (nI (b 74 % 2)) = some (nI (100 * (if b (72 + b 74 % 2) < ypp b q isP then (8, ypp b q isP - b (72 + b 74 % 2)) else (0, 0) : Nat × Nat).1 + (if b (72 + b 74 % 2) < ypp b q isP then (8, ypp b q isP - b (72 + b 74 % 2)) else (0, 0) : Nat × Nat).2)) := by
          have fin : ∀ m, m < 8 → fX2_refusalOfPurchase_131 f (nI (b 74 % 2)) (nI m) = some (nI (100 * (if b (72 + b 74 % 2) < m then (8, m - b (72 + b 74 % 2)) else (0, 0) : Nat × Nat).1 + (if b (72 + b 74 % 2) < m then (8, m - b (72 + b 74 % 2)) else (0, 0) : Nat × Nat).2)) := fun m hm => by
            rw [c_131 h hv hs hm]
            split <;> rfl
          unfold fX2_refusalOfPurchase_118 ypp
          cases isP with
          | false => rw [yb_f, if_pos rfl, if_neg ynft]; exact fin 3 (by omega)
          | true =>
            have h3 := y_md3 (b q) (by omega) (by rw [hmem rfl]; omega)
            rw [yb_t, if_neg (by decide), if_pos rfl]
            unfold fX2_priceOfPiece
            rw [c_kindOn h hq, zbd_S, zbd_S, yI_lt h3, show (2 : Int32) + nI (ykk (b q)) = nI (2 + ykk (b q)) from nI_add 2 _]
            exact fin _ (by omega)
        unfold fX2_refusalOfPurchase_60
        rw [T1, zbd_S, v1, zbd_S, p_pieces f hs, zbd_S]
        cases gb : yar (ypc b (b 74 % 2)) q with
        | false => rw [if_pos ((zlc _ _).mpr ((ySW_z hA).mpr ((y_beside hq).mpr gb))), if_pos rfl, show (6 : Int32) = nI 6 from rfl, p_ref (by omega), zbd_S]
        | true =>
          rw [if_neg (fun z => by have := (y_beside hq).mp ((ySW_z hA).mp ((zlc _ _).mp z)); rw [gb] at this; cases this), if_neg (show ¬ true = false by decide)]
          cases isP with
          | false => rw [yb_f, if_pos rfl, if_neg (show ¬ (false && decide (ykk (b q) = 3) && decide (ykq b (b 74 % 2) < 36)) = true by simp)]; rw [yb_f] at h118; exact h118
          | true =>
            have h3 := y_md3 (b q) (by omega) (by rw [hmem rfl]; omega)
            rw [yb_t] at h118
            rw [yb_t, if_neg (by decide), c_kindOn h hq, zbd_S, yI_lt h3]
            by_cases gk : ykk (b q) = 3
            · rw [if_pos (by rw [gk]; rfl), c_kq h hv hs, zbd_S, decide_eq_true gk]
              by_cases gq : ykq b (b 74 % 2) < 36
              · have hn1 : ∀ q, q < 36 → ¬ nI q = -1 := by decide +kernel
                rw [yI_lt (show ykq b (b 74 % 2) ≤ 35 by omega), if_neg (hn1 _ gq), zbd_S, show (7 : Int32) = nI 7 from rfl, p_ref (by omega), zbd_S, if_pos (by simp [gq])]
              · rw [yI_ge (show ¬ ykq b (b 74 % 2) ≤ 35 by omega), if_pos rfl, if_neg (by simp [gq])]
                exact h118
            · have hz3 : ¬ nI (ykk (b q)) = (3 : Int32) := fun z => gk ((nI_eq (b := 3) (by omega) (by omega)).mp z)
              rw [if_neg hz3, if_neg (by simp [gk])]
              exact h118
      cases isP with
      | false =>
        rw [yb_f, if_pos rfl, if_neg (show ¬ (false && !decide (ymd (b q) = b 74 % 2)) = true by simp)]
        rw [yb_f] at h60
        exact h60 (fun z => by cases z)
      | true =>
        rw [yb_t] at h60
        rw [yb_t, if_neg (by decide), p_mems f hs, zbd_S, yhas (h.2.2.1 _ hs) hq, zbd_S]
        by_cases gm : ymd (b q) = b 74 % 2
        · rw [decide_eq_true gm, yb_t, if_neg (by decide), if_neg (show ¬ (true && !true) = true by decide)]
          exact h60 (fun _ => gm)
        · rw [decide_eq_false gm, yb_f, if_pos rfl, if_pos (show (true && !false) = true by decide), show (5 : Int32) = nI 5 from rfl, p_ref (by omega), zbd_S]
  · rw [decide_eq_true (show b 75 ≠ 0 from g), yb_t, if_neg (by decide), if_pos (show b 75 ≠ 0 from g), c_turns h, zbd_S, show (1 : Int32) = nI 1 from rfl, p_ref (by omega), zbd_S]

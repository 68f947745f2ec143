/-! PURE 11: the class's move and captures -/
theorem p_include (f : Nat → Int64) {k : Nat} (hk : k < 15) (w : Int64) : fX2_include f (nI k) w = some (vp_updL f k (f k ||| w)) := by
  unfold fX2_include
  rw [if_neg (nI_pos (by omega)), if_neg (show ¬ (15 : Int32) ≤ nI k from nI_ge (b := 15) (by omega) (by omega)), zck_N (by omega) (by omega), zck_N (by omega) (by omega), tn_n (by omega)]
theorem p_exclude (f : Nat → Int64) {k : Nat} (hk : k < 15) (w : Int64) : fX2_exclude f (nI k) w = some (vp_updL f k (f k &&& (w ^^^ (-1)))) := by
  unfold fX2_exclude
  rw [if_neg (nI_pos (by omega)), if_neg (show ¬ (15 : Int32) ≤ nI k from nI_ge (b := 15) (by omega) (by omega)), zck_N (by omega) (by omega), zck_N (by omega) (by omega), tn_n (by omega)]
theorem p_put (f : Nat → Int64) {s k : Nat} (hs : s ≤ 1) (hk : k ≤ 3) (w : Int64) : fX2_putPiece f (nI s) (nI k) w = some (vp_updL (vp_updL f s (f s ||| w)) (6 + k) (vp_updL f s (f s ||| w) (6 + k) ||| w)) := by
  unfold fX2_putPiece
  rw [show (0 : Int32) + nI s = nI (0 + s) from nI_add 0 s, Nat.zero_add, p_include f (by omega), zbd_S, show (6 : Int32) + nI k = nI (6 + k) from nI_add 6 k, p_include _ (by omega), zbd_S]
theorem yfr_0 {b : Nat → Nat} {s t : Nat} (h : yfr b s t = true) : b t = 0 ∧ b (36 + t) ≠ 2 - s := by
  unfold yfr yop at h
  obtain ⟨h1, h2⟩ := (Bool.and_eq_true _ _).mp h
  obtain ⟨h3, h4⟩ := (Bool.and_eq_true _ _).mp h1
  refine ⟨of_decide_eq_true h2, fun e => ?_⟩
  rw [decide_eq_true e] at h4
  cases h4
theorem yV_mv {b : Nat → Nat} (hv : yV b) {p t : Nat} (hp : p < 36) (ht : t < 36) (hs : ysd (b p) ≤ 1) (hf : yfr b (ysd (b p)) t = true) : yV (ymv b p t) := by
  obtain ⟨h1, h2, h3, h4, h5, h6, h7, h8, h9, h10⟩ := hv
  obtain ⟨f1, f2⟩ := yfr_0 hf
  have hc := h1 p hp
  have hk := (y_code (c := b p) (by omega) (by omega)).2.1 hs
  have hw : ¬ 20 ≤ b p := of_decide_eq_false hk.2.2.1
  have hd : ∀ q, ymv b p t (36 + q) = b (36 + q) := fun q => by
    unfold ymv
    rw [if_neg (by omega), if_neg (by omega)]
  have hx : ∀ j, 72 ≤ j → ymv b p t j = b j := fun j hj => by
    unfold ymv
    rw [if_neg (by omega), if_neg (by omega)]
  refine ⟨fun q hq => ?_, fun q hq => by rw [hd]; exact h2 q hq, fun q hq g => ?_, fun q hq g => ?_, ?_, ?_, ?_, ?_, ?_, fun s q r hs' hq hr e1 e2 => ?_⟩
  · unfold ymv
    split
    · exact hc
    · split
      · omega
      · exact h1 q hq
  · rw [hd]
    unfold ymv at g
    split at g
    · omega
    · split at g
      · omega
      · exact h3 q hq g
  · rw [hd]
    unfold ymv at g ⊢
    by_cases e : q = t
    · rw [if_pos e, e]
      have := h2 t ht
      omega
    · rw [if_neg e] at g ⊢
      by_cases e2 : q = p
      · rw [if_pos e2] at g
        exact absurd g (by decide)
      · rw [if_neg e2] at g ⊢
        exact h4 q hq g
  · rw [hx 72 (by omega)]; exact h5
  · rw [hx 73 (by omega)]; exact h6
  · rw [hx 74 (by omega)]; exact h7
  · rw [hx 75 (by omega)]; exact h8
  · rw [hx 75 (by omega), hx 74 (by omega)]; exact h9
  · unfold ymv at e1 e2
    by_cases q1 : q = t
    · rw [if_pos q1] at e1
      by_cases r1 : r = t
      · omega
      · rw [if_neg r1] at e2
        by_cases r2 : r = p
        · rw [if_pos r2] at e2; omega
        · rw [if_neg r2] at e2
          exact absurd (h10 s p r hs' hp hr e1 e2).symm r2
    · rw [if_neg q1] at e1
      by_cases q2 : q = p
      · rw [if_pos q2] at e1; omega
      · rw [if_neg q2] at e1
        by_cases r1 : r = t
        · rw [if_pos r1] at e2
          exact absurd (h10 s p q hs' hp hq e2 e1).symm q2
        · rw [if_neg r1] at e2
          by_cases r2 : r = p
          · rw [if_pos r2] at e2; omega
          · rw [if_neg r2] at e2
            exact h10 s q r hs' hq hr e1 e2
theorem ysd_20 : ∀ c, c < 9 → ysd (c + 20) = 2 ∧ ymd (c + 20) = ysd c ∧ ykk (c + 20) = ykk c ∧ ywl (c + 20) = true := by decide +kernel
theorem yV_cb {b : Nat → Nat} (hv : yV b) {C : Nat → Bool} (hC : ∀ j, C j = true → j < 36 ∧ ysd (b j) ≤ 1) : yV (ycb b C) := by
  obtain ⟨h1, h2, h3, h4, h5, h6, h7, h8, h9, h10⟩ := hv
  have hx : ∀ j, 72 ≤ j → ycb b C j = b j := fun j hj => by
    unfold ycb
    rw [if_neg (by omega), if_neg (by omega)]
  have hq : ∀ q, q < 36 → ycb b C q = if C q = true then b q + 20 else b q := fun q hq => by
    unfold ycb
    rw [if_pos hq]
  have hd : ∀ q, q < 36 → ycb b C (36 + q) = if C q = true then 0 else b (36 + q) := fun q hq => by
    unfold ycb
    rw [if_neg (by omega), if_pos (by omega), show 36 + q - 36 = q by omega]
  have hb : ∀ q, C q = true → b q ≤ 8 := fun q hq => by
    have a := hC q hq
    have c := h1 q a.1
    exact ((ysk (b q) (by omega)).2 a.2).2
  refine ⟨fun q g => ?_, fun q g => ?_, fun q g e => ?_, fun q g e => ?_, ?_, ?_, ?_, ?_, ?_, fun s q r hs' g1 g2 e1 e2 => ?_⟩
  · rw [hq q g]
    split
    · have := hb q (by assumption)
      omega
    · exact h1 q g
  · rw [hd q g]
    split
    · omega
    · exact h2 q g
  · rw [hd q g]
    rw [hq q g] at e
    split
    · rfl
    · rw [if_neg (by assumption)] at e
      exact h3 q g e
  · rw [hq q g] at e ⊢
    rw [hd q g]
    by_cases c : C q = true
    · rw [if_pos c]; exact Or.inl rfl
    · rw [if_neg c] at e ⊢
      rw [if_neg c]
      exact h4 q g e
  · rw [hx 72 (by omega)]; exact h5
  · rw [hx 73 (by omega)]; exact h6
  · rw [hx 74 (by omega)]; exact h7
  · rw [hx 75 (by omega)]; exact h8
  · rw [hx 75 (by omega), hx 74 (by omega)]; exact h9
  · rw [hq q g1] at e1
    rw [hq r g2] at e2
    by_cases c1 : C q = true
    · rw [if_pos c1] at e1; omega
    · by_cases c2 : C r = true
      · rw [if_pos c2] at e2; omega
      · rw [if_neg c1] at e1
        rw [if_neg c2] at e2
        exact h10 s q r hs' g1 g2 e1 e2
theorem yV_go {b : Nat → Nat} (hv : yV b) {p t : Nat} (hp : p < 36) (ht : t < 36) (hs : ysd (b p) ≤ 1) (hf : yfr b (ysd (b p)) t = true) : yV (ygo b p t) :=
  yV_cb (yV_mv hv hp ht hs hf) (fun j hj => by
    obtain ⟨a, c⟩ := yC_o hj
    exact ⟨a, by omega⟩)
theorem yP_mv {f : Nat → Int64} {b : Nat → Nat} (h : yP f b) (hv : yV b) {p t s k : Nat} (hp : p < 36) (ht : t < 36) (hs : s ≤ 1) (hsd : ysd (b p) = s) (hkd : ykd (b p) = k) (hk : k ≤ 3) (hf : yfr b s t = true) {F T : Int64} (hF : ySW F (fun i => decide (i = p))) (hT : ySW T (fun i => decide (i = t))) {f1 : Nat → Int64}
    (hf1 : ∀ j, f1 j = if j = s then (f s &&& (F ^^^ (-1))) ||| T else if j = 6 + k then (f (6 + k) &&& (F ^^^ (-1))) ||| T else f j) : yP f1 (ymv b p t) := by
  obtain ⟨fr1, fr2⟩ := yfr_0 hf
  have hc := hv.1 p hp
  have hk2 := (y_code (c := b p) (by omega) (by omega)).2.1 (by omega)
  have hpt : p ≠ t := fun e => by rw [e, fr1] at hsd; exact absurd hsd (by rcases (show s = 0 ∨ s = 1 by omega) with rfl | rfl <;> decide)
  have hd : ∀ q, ymv b p t (36 + q) = b (36 + q) := fun q => by
    unfold ymv
    rw [if_neg (by omega), if_neg (by omega)]
  have hx : ∀ j, 72 ≤ j → ymv b p t j = b j := fun j hj => by
    unfold ymv
    rw [if_neg (by omega), if_neg (by omega)]
  have ho : ∀ j, j ≠ s → j ≠ 6 + k → f1 j = f j := fun j a c => by rw [hf1, if_neg a, if_neg c]
  -- any property of the codes
  have hset : ∀ (X : Nat → Bool) (w : Int64), ySW w (fun i => X (b i)) → X 0 = false → X (b p) = true → ySW ((w &&& (F ^^^ (-1))) ||| T) (fun i => X (ymv b p t i)) := fun X w hw x0 xp => by
    refine ySW_c (ySW_or (ySW_dif hw hF) hT) (fun i hi => ?_)
    unfold ymv
    by_cases e : i = t
    · rw [if_pos e, decide_eq_true e, xp, Bool.or_true]
    · rw [if_neg e, decide_eq_false e, Bool.or_false]
      by_cases e2 : i = p
      · rw [if_pos e2, decide_eq_true e2, x0]; simp
      · rw [if_neg e2, decide_eq_false e2]; simp
  have hkeep : ∀ (X : Nat → Bool) (w : Int64), ySW w (fun i => X (b i)) → X 0 = false → X (b p) = false → ySW w (fun i => X (ymv b p t i)) := fun X w hw x0 xp => by
    refine ySW_c hw (fun i hi => ?_)
    unfold ymv
    by_cases e : i = t
    · rw [if_pos e, xp, e, fr1, x0]
    · rw [if_neg e]
      by_cases e2 : i = p
      · rw [if_pos e2, e2, xp, x0]
      · rw [if_neg e2]
  refine ⟨fun s' hs' => ?_, fun s' hs' => ?_, fun s' hs' => ?_, fun k' hk' => ?_, ?_, ?_, ?_, ?_, ?_⟩
  · by_cases e : s' = s
    · rw [hf1, if_pos e, e]
      exact hset (fun c => decide (ysd c = s)) (f s) (h.1 s hs) (decide_eq_false (show ¬ ysd 0 = s by rcases (show s = 0 ∨ s = 1 by omega) with rfl | rfl <;> decide)) (decide_eq_true hsd)
    · rw [ho s' e (by omega)]
      exact hkeep (fun c => decide (ysd c = s')) (f s') (h.1 s' hs') (decide_eq_false (show ¬ ysd 0 = s' by rcases (show s' = 0 ∨ s' = 1 by omega) with rfl | rfl <;> decide)) (decide_eq_false (by omega))
  · rw [ho (2 + s') (by omega) (by omega)]
    exact ySW_c (h.2.1 s' hs') (fun i hi => by rw [hd])
  · rw [ho (4 + s') (by omega) (by omega)]
    exact hkeep (fun c => decide (ymd c = s')) (f (4 + s')) (h.2.2.1 s' hs') (decide_eq_false (show ¬ ymd 0 = s' by rcases (show s' = 0 ∨ s' = 1 by omega) with rfl | rfl <;> decide)) (decide_eq_false (by omega))
  · have z : ¬ ykk 0 = k' := by
      have : ykk 0 = 9 := by decide
      omega
    by_cases e : k' = k
    · rw [hf1, if_neg (by omega), if_pos (by omega), e]
      exact hset (fun c => decide (ykk c = k)) (f (6 + k)) (h.2.2.2.1 k (by omega)) (decide_eq_false (by rw [← e]; exact z)) (decide_eq_true (by rw [hk2.2.1]; exact hkd))
    · rw [ho (6 + k') (by omega) (by omega)]
      exact hkeep (fun c => decide (ykk c = k')) (f (6 + k')) (h.2.2.2.1 k' hk') (decide_eq_false z) (decide_eq_false (by rw [hk2.2.1]; omega))
  · rw [ho 10 (by omega) (by omega)]
    exact hkeep ywl (f 10) (y_walls h) (by decide) hk2.2.2.1
  · rw [ho 11 (by omega) (by omega), hx 72 (by omega)]; exact h.2.2.2.2.2.1
  · rw [ho 12 (by omega) (by omega), hx 73 (by omega)]; exact h.2.2.2.2.2.2.1
  · rw [ho 13 (by omega) (by omega), hx 74 (by omega)]; exact h.2.2.2.2.2.2.2.1
  · rw [ho 14 (by omega) (by omega), hx 75 (by omega)]; exact h.2.2.2.2.2.2.2.2
theorem yP_cb {f : Nat → Int64} {b : Nat → Nat} (h : yP f b) (hv : yV b) {o : Nat} (ho : o ≤ 1) {C : Nat → Bool} (hC : ∀ j, C j = true → j < 36 ∧ ysd (b j) = o) {W : Int64} (hW : ySW W C) {f2 : Nat → Int64}
    (hf2 : ∀ j, f2 j = if j = o then f o &&& (W ^^^ (-1)) else if j = 2 + o then f (2 + o) &&& (W ^^^ (-1)) else if j = 4 + o then f (4 + o) ||| W else if j = 10 then f 10 ||| W else f j) : yP f2 (ycb b C) := by
  have hx : ∀ j, 72 ≤ j → ycb b C j = b j := fun j hj => by
    unfold ycb
    rw [if_neg (by omega), if_neg (by omega)]
  have hq : ∀ q, q < 36 → ycb b C q = if C q = true then b q + 20 else b q := fun q hq => by
    unfold ycb
    rw [if_pos hq]
  have hd : ∀ q, q < 36 → ycb b C (36 + q) = if C q = true then 0 else b (36 + q) := fun q hq => by
    unfold ycb
    rw [if_neg (by omega), if_pos (by omega), show 36 + q - 36 = q by omega]
  have hb : ∀ q, C q = true → b q < 9 := fun q hq => by
    have a := hC q hq
    have c := hv.1 q a.1
    have := ((ysk (b q) (by omega)).2 (by omega)).2
    omega
  have hcode : ∀ q, C q = true → ysd (b q + 20) = 2 ∧ ymd (b q + 20) = o ∧ ykk (b q + 20) = ykk (b q) ∧ ywl (b q + 20) = true ∧ ymd (b q) = 2 := fun q hq => by
    obtain ⟨a, c, d, e⟩ := ysd_20 (b q) (hb q hq)
    have a2 := hC q hq
    have := (y_code (c := b q) (by have := hb q hq; omega) (by have := hb q hq; omega)).2.1 (by omega)
    exact ⟨a, by omega, d, e, this.1⟩
  refine ⟨fun s hs => ?_, fun s hs => ?_, fun s hs => ?_, fun k hk => ?_, ?_, ?_, ?_, ?_, ?_⟩
  · by_cases e : s = o
    · rw [hf2, if_pos e, e]
      refine ySW_c (ySW_dif (h.1 o ho) hW) (fun i hi => ?_)
      unfold ypc
      rw [hq i hi]
      cases c : C i with
      | true => rw [if_pos rfl, (hcode i c).1, decide_eq_false (show ¬ 2 = o by omega)]; simp
      | false => rw [if_neg ynft]; simp
    · rw [hf2, if_neg e, if_neg (by omega), if_neg (by omega), if_neg (by omega)]
      refine ySW_c (h.1 s hs) (fun i hi => ?_)
      unfold ypc
      rw [hq i hi]
      cases c : C i with
      | true => rw [if_pos rfl, (hcode i c).1, (hC i c).2, decide_eq_false (show ¬ 2 = s by omega), decide_eq_false (fun z => e z.symm)]
      | false => rw [if_neg ynft]
  · by_cases e : s = o
    · rw [hf2, if_neg (by omega), if_pos (by omega), e]
      refine ySW_c (ySW_dif (h.2.1 o ho) hW) (fun i hi => ?_)
      rw [hd i hi]
      cases c : C i with
      | true => rw [if_pos rfl, decide_eq_false (show ¬ 0 = o + 1 by omega)]; simp
      | false => rw [if_neg ynft]; simp
    · rw [hf2, if_neg (by omega), if_neg (by omega), if_neg (by omega), if_neg (by omega)]
      refine ySW_c (h.2.1 s hs) (fun i hi => ?_)
      rw [hd i hi]
      cases c : C i with
      | true =>
        have := hv.2.2.2.1 i hi (by rw [(hC i c).2]; exact ho)
        rw [(hC i c).2] at this
        rw [if_pos rfl, decide_eq_false (show ¬ 0 = s + 1 by omega), decide_eq_false (show ¬ b (36 + i) = s + 1 by omega)]
      | false => rw [if_neg ynft]
  · by_cases e : s = o
    · rw [hf2, if_neg (by omega), if_neg (by omega), if_pos (by omega), e]
      refine ySW_c (ySW_or (h.2.2.1 o ho) hW) (fun i hi => ?_)
      rw [hq i hi]
      cases c : C i with
      | true => rw [if_pos rfl, (hcode i c).2.1, decide_eq_true rfl]; simp
      | false => rw [if_neg ynft]; simp
    · rw [hf2, if_neg (by omega), if_neg (by omega), if_neg (by omega), if_neg (by omega)]
      refine ySW_c (h.2.2.1 s hs) (fun i hi => ?_)
      rw [hq i hi]
      cases c : C i with
      | true => rw [if_pos rfl, (hcode i c).2.1, (hcode i c).2.2.2.2, decide_eq_false (show ¬ 2 = s by omega), decide_eq_false (fun z => e z.symm)]
      | false => rw [if_neg ynft]
  · rw [hf2, if_neg (by omega), if_neg (by omega), if_neg (by omega), if_neg (by omega)]
    refine ySW_c (h.2.2.2.1 k hk) (fun i hi => ?_)
    rw [hq i hi]
    cases c : C i with
    | true => rw [if_pos rfl, (hcode i c).2.2.1]
    | false => rw [if_neg ynft]
  · rw [hf2, if_neg (by omega), if_neg (by omega), if_neg (by omega), if_pos rfl]
    refine ySW_c (ySW_or (y_walls h) hW) (fun i hi => ?_)
    rw [hq i hi]
    cases c : C i with
    | true => rw [if_pos rfl, (hcode i c).2.2.2.1]; simp
    | false => rw [if_neg ynft]; simp
  · rw [hf2, if_neg (by omega), if_neg (by omega), if_neg (by omega), if_neg (by omega), hx 72 (by omega)]; exact h.2.2.2.2.2.1
  · rw [hf2, if_neg (by omega), if_neg (by omega), if_neg (by omega), if_neg (by omega), hx 73 (by omega)]; exact h.2.2.2.2.2.2.1
  · rw [hf2, if_neg (by omega), if_neg (by omega), if_neg (by omega), if_neg (by omega), hx 74 (by omega)]; exact h.2.2.2.2.2.2.2.1
  · rw [hf2, if_neg (by omega), if_neg (by omega), if_neg (by omega), if_neg (by omega), hx 75 (by omega)]; exact h.2.2.2.2.2.2.2.2
/-- the captures from a square -/
theorem c_captured {f : Nat → Int64} {b : Nat → Nat} (h : yP f b) {s t : Nat} (hs : s ≤ 1) (ht : t < 36) {T : Int64} (hT : ySW T (fun i => decide (i = t))) : ∃ W, fX2_capturedFrom f (nI s) T = some W ∧ ySW W (yC b s t 4) := by
  have hl : ∀ e d n x4, d + e = 4 → e < n → ySW x4 (fun j => yw4 (fun d => ycp b s t (ywy d) && decide (j = ynb t (ywy d))) d) → ∃ W, fX2_capturedFrom_6 f n (nI s) T x4 (nI d) = some W ∧ ySW W (yC b s t 4) := by
    intro e
    induction e with
    | zero =>
      intro d n x4 hd hn h4
      cases n with
      | zero => omega
      | succ n =>
        rw [fX2_capturedFrom_6, if_pos (show (4 : Int32) ≤ nI d from nI_le (a := 4) (by omega) (by omega))]
        rw [show d = 4 by omega] at h4
        exact ⟨x4, rfl, ySW_c h4 (fun i hi => yw4_perm (fun w => ycp b s t w && decide (i = ynb t w)))⟩
    | succ e ih =>
      intro d n x4 hd hn h4
      cases n with
      | zero => omega
      | succ n =>
        obtain ⟨v, v1, v2⟩ := y3stepped hT (show d < 4 by omega)
        have hn1 : ySW (v &&& f (1 - s)) (ynx (ypc b (1 - s)) t (ywy d)) := ynx_of (by omega) ht (h.1 (1 - s) (by omega)) v2
        rw [fX2_capturedFrom_6, if_neg (show ¬ (4 : Int32) ≤ nI d from nI_ge (b := 4) (by omega) (by omega)), v1, zbd_S, p_other hs, zbd_S, p_pieces f (show 1 - s ≤ 1 by omega), zbd_S, zbn_E]
        obtain ⟨u, u1, u2⟩ := y3stepped hn1 (show d < 4 by omega)
        have hn2 := ySW_and u2 (h.1 s hs)
        rw [u1, zbd_S, p_pieces f hs, zbd_S]
        unfold fX2_capturedFrom_54
        -- whether the second step meets a piece
        have key : ((u &&& f s) = 0) ↔ ycp b s t (ywy d) = false := by
          rw [ySW_z hn2]
          constructor
          · intro z
            cases g : ycp b s t (ywy d) with
            | false => rfl
            | true =>
              obtain ⟨c1, c2, c3, c4⟩ := ycp_t.mp g
              have := z _ c2
              have y := y_dir d (by omega) (ynb t (ywy d)) c1 _ c2
              rw [decide_eq_true rfl, decide_eq_true c2] at y
              obtain ⟨y1, y2⟩ := (Bool.and_eq_true _ _).mp y
              unfold yhn ynx ypc at this
              rw [y1, of_decide_eq_true y2, decide_eq_true rfl, decide_eq_true c1, decide_eq_true c3, decide_eq_true c4] at this
              cases this
          · intro g i hi
            cases z : (yhn (ynx (ypc b (1 - s)) t (ywy d)) i (ydw d) && ypc b s i) with
            | false => rfl
            | true =>
              exfalso
              obtain ⟨z1, z2⟩ := (Bool.and_eq_true _ _).mp z
              obtain ⟨z3, z4⟩ := yhn_t.mp z1
              unfold ynx at z4
              obtain ⟨z5, z6⟩ := (Bool.and_eq_true _ _).mp z4
              obtain ⟨z7, z8⟩ := (Bool.and_eq_true _ _).mp z5
              have e1 := of_decide_eq_true z7
              have e2 := of_decide_eq_true z8
              have y := y_dir d (by omega) (ynb t (ywy d)) e2 i hi
              rw [decide_eq_true z3, e1, decide_eq_true rfl] at y
              obtain ⟨y1, y2⟩ := (Bool.and_eq_true _ _).mp y.symm
              have e3 := of_decide_eq_true y1
              have : ycp b s t (ywy d) = true := ycp_t.mpr ⟨e2, of_decide_eq_true y2, by rw [← e1]; exact of_decide_eq_true z6, by rw [← e3]; exact of_decide_eq_true z2⟩
              rw [g] at this
              cases this
        by_cases g : (u &&& f s) = 0
        · have g' := key.mp g
          rw [if_pos ((zlc _ _).mpr g), zbn_E, nI_1]
          refine ih (d + 1) n _ (by omega) (by omega) (ySW_c h4 (fun i hi => ?_))
          show _ = (yw4 (fun d => ycp b s t (ywy d) && decide (i = ynb t (ywy d))) d || (ycp b s t (ywy d) && decide (i = ynb t (ywy d))))
          rw [g', Bool.false_and, Bool.or_false]
        · have g' : ycp b s t (ywy d) = true := by
            cases z : ycp b s t (ywy d) with
            | true => rfl
            | false => exact absurd (key.mpr z) g
          rw [if_neg (fun z => g ((zlc _ _).mp z)), zbn_E, zbn_E, nI_1]
          refine ih (d + 1) n _ (by omega) (by omega) (ySW_c (ySW_or h4 hn1) (fun i hi => ?_))
          show (yw4 (fun d => ycp b s t (ywy d) && decide (i = ynb t (ywy d))) d || ynx (ypc b (1 - s)) t (ywy d) i) = (yw4 (fun d => ycp b s t (ywy d) && decide (i = ynb t (ywy d))) d || (ycp b s t (ywy d) && decide (i = ynb t (ywy d))))
          congr 1
          rw [g', Bool.true_and]
          obtain ⟨c1, c2, c3, c4⟩ := ycp_t.mp g'
          unfold ynx ypc
          rw [decide_eq_true c1, Bool.and_true]
          by_cases q : i = ynb t (ywy d)
          · rw [q, c3, decide_eq_true rfl]; simp
          · rw [decide_eq_false q, Bool.false_and]
  unfold fX2_capturedFrom
  exact hl 4 0 zFu 0 (by omega) (by unfold zFu; omega) ySW_0
theorem c_move {f : Nat → Int64} {b : Nat → Nat} (h : yP f b) (hv : yV b) {p t : Nat} (hp : p < 36) (ht : t < 36) (hs : ysd (b p) ≤ 1) (hf : yfr b (ysd (b p)) t = true) : ∃ f', fX2_movePiece f (nI p) (nI t) = some (nI (fb_ct (yC (ymv b p t) (ysd (b p)) t 4) 36), f') ∧ yP f' (ygo b p t) := by
  obtain ⟨p1, p2, p3⟩ := c_piece h hv hp hs rfl
  obtain ⟨F, F1, F2⟩ := ySW_of hp
  obtain ⟨T, T1, T2⟩ := ySW_of ht
  generalize hsd : ysd (b p) = s at hs p1 hf
  generalize hkd : ykd (b p) = k at p2 p3
  unfold fX2_movePiece
  rw [p1, zbd_S, p2, zbd_S, if_neg (show ¬ nI s = -1 by rcases (show s = 0 ∨ s = 1 by omega) with e | e <;> rw [e] <;> decide), if_neg (show ¬ nI k = -1 by rcases (show k = 0 ∨ k = 1 ∨ k = 2 ∨ k = 3 by omega) with e | e | e | e <;> rw [e] <;> decide), F1, zbd_S, show (0 : Int32) + nI s = nI (0 + s) from nI_add 0 s, Nat.zero_add, p_exclude _ (by omega), zbd_S, zbd_S, show (6 : Int32) + nI k = nI (6 + k) from nI_add 6 k, p_exclude _ (by omega), zbd_S, T1, zbd_S, p_put _ hs p3, zbd_S, zbd_S]
  generalize hf1 : vp_updL (vp_updL (vp_updL (vp_updL f s (f s &&& (F ^^^ (-1)))) (6 + k) (vp_updL f s (f s &&& (F ^^^ (-1))) (6 + k) &&& (F ^^^ (-1)))) s (vp_updL (vp_updL f s (f s &&& (F ^^^ (-1)))) (6 + k) (vp_updL f s (f s &&& (F ^^^ (-1))) (6 + k) &&& (F ^^^ (-1))) s ||| T)) (6 + k) (vp_updL (vp_updL (vp_updL f s (f s &&& (F ^^^ (-1)))) (6 + k) (vp_updL f s (f s &&& (F ^^^ (-1))) (6 + k) &&& (F ^^^ (-1)))) s (vp_updL (vp_updL f s (f s &&& (F ^^^ (-1)))) (6 + k) (vp_updL f s (f s &&& (F ^^^ (-1))) (6 + k) &&& (F ^^^ (-1))) s ||| T) (6 + k) ||| T) = f1
  have e1 : ∀ j, f1 j = if j = s then (f s &&& (F ^^^ (-1))) ||| T else if j = 6 + k then (f (6 + k) &&& (F ^^^ (-1))) ||| T else f j := fun j => by
    rw [← hf1]
    unfold vp_updL
    by_cases a : j = s
    · subst a
      rw [if_neg (show ¬ j = 6 + k by omega), if_pos rfl, if_pos rfl, if_neg (show ¬ j = 6 + k by omega), if_pos rfl]
    · by_cases c : j = 6 + k
      · subst c
        rw [if_pos rfl, if_neg a, if_neg a, if_neg a, if_pos rfl, if_pos rfl]
      · rw [if_neg c, if_neg a, if_neg c, if_neg a, if_neg a, if_neg c]
  have hP1 := yP_mv h hv hp ht hs hsd hkd p3 hf F2 T2 e1
  have hV1 : yV (ymv b p t) := yV_mv hv hp ht (by rw [hsd]; exact hs) (by rw [hsd]; exact hf)
  obtain ⟨W, W1, W2⟩ := c_captured hP1 hs ht T2
  rw [W1, zbd_S, p_other hs, zbd_S]
  unfold fX2_turnToWalls
  have ho : 1 - s ≤ 1 := by omega
  generalize hoo : 1 - s = o at ho
  rw [show (0 : Int32) + nI o = nI (0 + o) from nI_add 0 o, Nat.zero_add, p_exclude _ (by omega), zbd_S, show (2 : Int32) + nI o = nI (2 + o) from nI_add 2 o, p_exclude _ (by omega), zbd_S, show (4 : Int32) + nI o = nI (4 + o) from nI_add 4 o, p_include _ (by omega), zbd_S, show (10 : Int32) = nI 10 from rfl, p_include _ (by omega), zbd_S, zbd_S, y3size W2, zbd_S]
  refine ⟨_, rfl, ?_⟩
  unfold ygo
  rw [hsd]
  refine yP_cb hP1 hV1 ho (fun j hj => ?_) W2 (fun j => ?_)
  · obtain ⟨a, c⟩ := yC_o hj
    exact ⟨a, by omega⟩
  · unfold vp_updL
    by_cases a : j = o
    · subst a
      rw [if_neg (show ¬ j = 10 by omega), if_neg (show ¬ j = 4 + j by omega), if_neg (show ¬ j = 2 + j by omega), if_pos rfl, if_pos rfl]
    · by_cases c : j = 2 + o
      · subst c
        rw [if_neg (show ¬ 2 + o = 10 by omega), if_neg (show ¬ 2 + o = 4 + o by omega), if_pos rfl, if_neg a, if_neg a, if_pos rfl]
      · by_cases d : j = 4 + o
        · subst d
          rw [if_neg (show ¬ 4 + o = 10 by omega), if_pos rfl, if_neg c, if_neg a, if_neg a, if_neg c, if_pos rfl]
        · by_cases e : j = 10
          · subst e
            rw [if_pos rfl, if_neg d, if_neg c, if_neg a, if_neg a, if_neg c, if_neg d, if_pos rfl]
          · rw [if_neg e, if_neg d, if_neg c, if_neg a, if_neg a, if_neg c, if_neg d, if_neg e]

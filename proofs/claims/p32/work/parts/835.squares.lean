/-! areSquares holds of every board -/
theorem eL_moves {f : Nat → Int64} {b : Nat → Nat} (hP : yP f b) (hv : yV b) {p : Nat} (hp : p < 36) : fL_moves f (nI p) = if ysd (b p) ≤ 1 then some (nI (fb_ct (yTg b p) 36)) else some (-1000) := by
  unfold fL_moves
  rw [e_moves hP hv hp]
  by_cases g : ysd (b p) ≤ 1
  · rw [if_pos g, if_pos g, zbd_S]
    dsimp only
    rw [if_pos rfl]
  · rw [if_neg g, if_neg g, zbd_S]
    dsimp only
    rw [if_neg (by decide), if_neg (by decide), if_pos rfl]
theorem e_n1000 : ∀ q, q < 100 → ¬ nI q = -1000 := by decide +kernel
/-- what a square shows, by its two codes -/
def yDd (d : Nat) : Bool := decide (d = 1) || decide (d = 2)
theorem eS_0 : ∀ c, c < 29 → ∀ d, d < 3 → yPok c d = true → yPiw c d = 0 → yPis c d = 2 ∧ ykk c = 9 ∧ yPiv c d = 46 := by decide +kernel
theorem eS_2' : ∀ c, c < 29 → ∀ d, d < 3 → yPok c d = true → yPiw c d = 2 → yDd d = false ∧ yPiv c d = 35 ∧ decide (yPis c d ≤ 1) = decide (ykk c ≤ 3) := by decide +kernel
theorem eS_2 (c : Nat) (hc : c < 29) (d : Nat) (hd : d < 3) (h : yPok c d = true) (w : yPiw c d = 2) : yDd d = false ∧ yPiv c d = 35 ∧ (yPis c d ≤ 1 ↔ ykk c ≤ 3) :=
  ⟨(eS_2' c hc d hd h w).1, (eS_2' c hc d hd h w).2.1, decide_eq_decide.mp (eS_2' c hc d hd h w).2.2⟩
theorem eS_1c : ∀ c, c < 29 → ∀ d, d < 3 → yPok c d = true → yPiw c d = 1 → yPis c d = ysd c := by decide +kernel
theorem eS_1d : ∀ c, c < 29 → ∀ d, d < 3 → yPiw c d = 1 → ysd c ≤ 1 ∧ ywl c = false := by decide +kernel
theorem eS_1a (c : Nat) (hc : c < 29) (d : Nat) (hd : d < 3) (h : yPok c d = true) (w : yPiw c d = 1) : yPis c d = ysd c ∧ ysd c ≤ 1 ∧ ywl c = false := ⟨eS_1c c hc d hd h w, eS_1d c hc d hd w⟩
theorem eS_1b : ∀ c, c < 29 → ysd c ≤ 1 → decide (ykk c = 3) = decide (c = 4 + 4 * ysd c) ∧ ykk c ≤ 3 := by decide +kernel
theorem eS_1 (c : Nat) (hc : c < 29) (d : Nat) (hd : d < 3) (h : yPok c d = true) (w : yPiw c d = 1) : yPis c d = ysd c ∧ ysd c ≤ 1 ∧ ywl c = false ∧ (ykk c = 3 ↔ c = 4 + 4 * ysd c) ∧ ykk c ≤ 3 :=
  have g := eS_1a c hc d hd h w
  have g2 := eS_1b c hc g.2.1
  ⟨g.1, g.2.1, g.2.2, decide_eq_decide.mp g2.1, g2.2⟩
theorem eS_wa : ∀ c, c < 29 → ∀ d, d < 3 → yPok c d = true → yPiw c d ≤ 3 ∧ decide (yPiw c d = 2) = ywl c ∧ decide (yPiw c d = 1) = decide (ysd c ≤ 1) := by decide +kernel
theorem eS_wb : ∀ c, c < 29 → ∀ d, d < 3 → ¬ yPiw c d = 1 → ysd c = 2 ∧ ¬ c = 4 ∧ ¬ c = 8 := by decide +kernel
theorem eS_w (c : Nat) (hc : c < 29) (d : Nat) (hd : d < 3) (h : yPok c d = true) : yPiw c d ≤ 3 ∧ (yPiw c d = 2 ↔ ywl c = true) ∧ (yPiw c d = 1 ↔ ysd c ≤ 1) ∧ (¬ yPiw c d = 1 → ysd c = 2 ∧ ¬ c = 4 ∧ ¬ c = 8) :=
  have g := eS_wa c hc d hd h
  ⟨g.1, ⟨fun u => by rw [← g.2.1]; exact decide_eq_true u, fun u => of_decide_eq_true (by rw [g.2.1]; exact u)⟩, decide_eq_decide.mp g.2.2, eS_wb c hc d hd⟩
theorem e_cnt {f : Nat → Int32} {p : Nat → Bool} {i q : Nat} (h : f i = nI (fb_ct p q)) : (if p q = true then f i + 1 else f i) = nI (fb_ct p (q + 1)) := by
  rw [fb_ct_succ, h]
  cases p q with
  | true => rw [if_pos rfl, if_pos rfl, nI_1]
  | false => rw [if_neg (by decide), if_neg (by decide)]; rfl
theorem e_one {p : Nat → Bool} (h : ∀ i j, i < 36 → j < 36 → p i = true → p j = true → i = j) : fb_ct p 36 ≤ 1 := by
  apply Nat.not_lt.mp
  intro hlt
  obtain ⟨i, i1, i2, i3⟩ := fb_ct_kth (p := p) (k := 0) (n := 36) (by omega)
  obtain ⟨j, j1, j2, j3⟩ := fb_ct_kth (p := p) (k := 1) (n := 36) (by omega)
  have e := h i j i1 j1 i2 j2
  subst e
  omega
def ySqI (b : Nat → Nat) (q : Nat) (c1 c2 c3 : Nat → Int32) (x4 : Int32) : Prop :=
  c1 2 = nI (fb_ct (fun i => ywl (b i)) q) ∧ (∀ s, s ≤ 1 → c2 s = nI (fb_ct (ypc b s) q)) ∧ (∀ s, s ≤ 1 → c3 s = nI (fb_ct (fun i => decide (b i = 4 + 4 * s)) q)) ∧ x4 = nI (fb_ct (fun i => yDd (b (36 + i))) q)
set_option maxRecDepth 4000 in
theorem eL_areSquares {fb : Nat → Int64} {b : Nat → Nat} (hP : yP fb b) (hv : yV b) (ct ln : Int32) : ∃ c1 c2 c3, fL_areSquares fb ct ln = some (1, c1, c2, c3) := by
  have hend : ∀ c1 c2 c3 x4, ySqI b 36 c1 c2 c3 x4 → fL_areSquares_262 fb ct ln c1 c2 c3 x4 1 = some (1, c1, c2, c3) := by
    intro c1 c2 c3 x4 ⟨h1, h2, h3, h4⟩
    have hk : ∀ s, s ≤ 1 → fb_ct (fun i => decide (b i = 4 + 4 * s)) 36 ≤ 1 := fun s hs => e_one (fun i j hi hj g1 g2 => hv.2.2.2.2.2.2.2.2.2 s i j hs hi hj (of_decide_eq_true g1) (of_decide_eq_true g2))
    have hk0 := hk 0 (by omega)
    have hk1 := hk 1 (by omega)
    have a0 := e_account hP ct ln (show 0 < 9 by omega)
    have a1 := e_account hP ct ln (show 1 < 9 by omega)
    have a2 := e_account hP ct ln (show 2 < 9 by omega)
    have a3 := e_account hP ct ln (show 3 < 9 by omega)
    have z0 : c2 (0 : Int32).toNatClampNeg = nI (yac b 0) := h2 0 (by omega)
    have z1 : c2 (1 : Int32).toNatClampNeg = nI (yac b 1) := h2 1 (by omega)
    have z2 : c1 (2 : Int32).toNatClampNeg = nI (yac b 2) := h1
    have z3 : x4 = nI (yac b 3) := h4
    have z4 : c3 (0 : Int32).toNatClampNeg = nI (fb_ct (fun i => decide (b i = 4 + 4 * 0)) 36) := h3 0 (by omega)
    have z5 : c3 (1 : Int32).toNatClampNeg = nI (fb_ct (fun i => decide (b i = 4 + 4 * 1)) 36) := h3 1 (by omega)
    unfold fL_areSquares_262
    rw [if_neg (show ¬ (1 : Int32) = 0 by decide), show zin (0 : Int32) 2 = true from rfl, zck_T, show fX4_account fb ct ln 0 = _ from a0, zbd_S]
    dsimp only
    rw [if_pos rfl, if_pos z0, show zin (1 : Int32) 2 = true from rfl, zck_T, show fX4_account fb ct ln 1 = _ from a1, zbd_S]
    dsimp only
    rw [if_pos rfl, if_pos z1, show zin (2 : Int32) 4 = true from rfl, zck_T, show fX4_account fb ct ln 2 = _ from a2, zbd_S]
    dsimp only
    rw [if_pos rfl, if_pos z2, show fX4_account fb ct ln 3 = _ from a3, zbd_S]
    dsimp only
    rw [if_pos rfl, if_pos z3, zck_T, z4, if_neg (show ¬ (1 : Int32) < nI (fb_ct (fun i => decide (b i = 4 + 4 * 0)) 36) from nI_nlt (a := 1) hk0 (by omega)), zck_T, z5, if_neg (show ¬ (1 : Int32) < nI (fb_ct (fun i => decide (b i = 4 + 4 * 1)) 36) from nI_nlt (a := 1) hk1 (by omega))]
  have hl : ∀ d q n c1 c2 c3 x4, q + d = 36 → d < n → ySqI b q c1 c2 c3 x4 → ∃ c1' c2' c3', fL_areSquares_21 fb ct ln n c1 c2 c3 x4 1 (nI q) = some (1, c1', c2', c3') := by
    intro d
    induction d with
    | zero =>
      intro q n c1 c2 c3 x4 hq hn hI
      obtain ⟨n', rfl⟩ : ∃ n', n = n' + 1 := ⟨n - 1, by omega⟩
      rw [show q = 36 by omega] at hI
      rw [fL_areSquares_21, if_neg (show ¬ (1 : Int32) = 0 by decide), if_pos (show (36 : Int32) ≤ nI q from nI_le (a := 36) (by omega) (by omega)), hend c1 c2 c3 x4 hI]
      exact ⟨_, _, _, rfl⟩
    | succ d ih =>
      intro q n c1 c2 c3 x4 hq hn hI
      obtain ⟨n', rfl⟩ : ∃ n', n = n' + 1 := ⟨n - 1, by omega⟩
      obtain ⟨i1, i2, i3, i4⟩ := hI
      have hq36 : q < 36 := by omega
      have hv2 := hv
      obtain ⟨v1, v2, v3, v4, -⟩ := hv2
      have hc28 := yV_28 hv hq36
      have hc : b q < 29 := by omega
      have hd : b (36 + q) < 3 := by have := v2 q hq36; omega
      have hok := yPok_of (by have := v1 q hq36; omega) (v3 q hq36) (v4 q hq36)
      obtain ⟨s0, s1, s2, s3⟩ := e_square hP hq36
      have hpic := e_picture hP hv hq36
      have hmv := eL_moves hP hv hq36
      obtain ⟨w1, w2, w3, w4⟩ := eS_w _ hc _ hd hok
      have s0 : fX4_square fb (nI q) 0 = some (0, nI (yPiw (b q) (b (36 + q)))) := s0
      have s1 : fX4_square fb (nI q) 1 = some (0, yI (yPis (b q) (b (36 + q))) 1) := s1
      have s3 : fX4_square fb (nI q) 3 = some (0, yb (yDd (b (36 + q)))) := s3
      have hzin : zin (nI (yPiw (b q) (b (36 + q)))) 4 = true := zin_N (by omega) (by omega)
      have hclamp : (nI (yPiw (b q) (b (36 + q)))).toNatClampNeg = yPiw (b q) (b (36 + q)) := tn_n (by omega)
      have hx4 : x4 + yb (yDd (b (36 + q))) = nI (fb_ct (fun i => yDd (b (36 + i))) (q + 1)) := by
        rw [fb_ct_succ, i4]
        cases yDd (b (36 + q)) with
        | true => rw [yb_t, if_pos rfl, nI_1]
        | false => rw [yb_f, if_neg (by decide)]; exact (Int32.add_zero _)
      have hc1 : (upd c1 (yPiw (b q) (b (36 + q))) (c1 (yPiw (b q) (b (36 + q))) + 1)) 2 = nI (fb_ct (fun i => ywl (b i)) (q + 1)) := by
        rw [← e_cnt (f := c1) i1]
        unfold upd
        by_cases z : yPiw (b q) (b (36 + q)) = 2
        · rw [z, if_pos rfl, if_pos (w2.mp z)]
        · rw [if_neg (fun y => z y.symm), if_neg (fun y => z (w2.mpr y))]
      -- the tail of a round
      have tail : ∀ c1' c2' c3' x4', ySqI b (q + 1) c1' c2' c3' x4' → ∃ c1'' c2'' c3'', fL_areSquares_215 (fun z0 z1 z2 z3 z4 z5 => fL_areSquares_21 fb ct ln n' z0 z1 z2 z3 z4 z5) fb ct ln c1' c2' c3' x4' 1 (nI q) (nI (yPiw (b q) (b (36 + q)))) = some (1, c1'', c2'', c3'') := by
        intro c1' c2' c3' x4' hI'
        obtain ⟨e1, e2, e3, hih⟩ := ih (q + 1) n' c1' c2' c3' x4' (by omega) (by omega) hI'
        refine ⟨e1, e2, e3, ?_⟩
        unfold fL_areSquares_215
        rw [hmv]
        by_cases g : ysd (b q) ≤ 1
        · have hle := fb_ct_le (yTg b q) 36
          rw [if_pos g, zbd_S, if_neg (e_n1000 _ (by omega))]
          unfold fL_areSquares_234
          rw [w3.mpr g, if_pos (show nI 1 = (1 : Int32) from rfl)]
          unfold fL_areSquares_245
          rw [if_pos rfl]
          unfold fL_areSquares_253
          rw [zbn_E, zbn_E, nI_1]
          exact hih
        · have g1 : ¬ nI (yPiw (b q) (b (36 + q))) = (1 : Int32) := fun z => g (w3.mp ((nI_eq (b := 1) (by omega) (by omega)).mp z))
          rw [if_neg g, zbd_S, if_pos rfl]
          unfold fL_areSquares_234
          rw [if_neg g1]
          unfold fL_areSquares_245
          rw [if_pos rfl]
          unfold fL_areSquares_253
          rw [zbn_E, zbn_E, nI_1]
          exact hih
      -- a square without a piece
      have noP : ¬ yPiw (b q) (b (36 + q)) = 1 → ∃ c1'' c2'' c3'', fL_areSquares_215 (fun z0 z1 z2 z3 z4 z5 => fL_areSquares_21 fb ct ln n' z0 z1 z2 z3 z4 z5) fb ct ln (upd c1 (yPiw (b q) (b (36 + q))) (c1 (yPiw (b q) (b (36 + q))) + 1)) c2 c3 (nI (fb_ct (fun i => yDd (b (36 + i))) (q + 1))) 1 (nI q) (nI (yPiw (b q) (b (36 + q)))) = some (1, c1'', c2'', c3'') := fun z => by
        obtain ⟨k1, k2, k3⟩ := w4 z
        refine tail _ _ _ _ ⟨hc1, fun s hs => ?_, fun s hs => ?_, rfl⟩
        · rw [← e_cnt (f := c2) (i2 s hs)]
          unfold ypc
          rw [k1, decide_eq_false (show ¬ 2 = s by omega), if_neg (by decide)]
        · have h9 := e_cnt (f := c3) (i3 s hs)
          rw [← h9, decide_eq_false (show ¬ b q = 4 + 4 * s by omega), if_neg (by decide)]
      rw [fL_areSquares_21, if_neg (show ¬ (1 : Int32) = 0 by decide), if_neg (show ¬ (36 : Int32) ≤ nI q from nI_ge (b := 36) (by omega) (by omega)), s0, zbd_S]
      dsimp only
      rw [if_pos rfl, s1, zbd_S]
      dsimp only
      rw [if_pos rfl, hzin, zck_T, zck_T, s3, zbd_S]
      dsimp only
      rw [if_pos rfl, zbn_E, hclamp, hx4]
      unfold fL_areSquares_104
      rcases (show yPiw (b q) (b (36 + q)) = 0 ∨ yPiw (b q) (b (36 + q)) = 1 ∨ yPiw (b q) (b (36 + q)) = 2 ∨ yPiw (b q) (b (36 + q)) = 3 by omega) with w | w | w | w
      · obtain ⟨k1, k2, k3⟩ := eS_0 _ hc _ hd hok w
        have h9 := noP (by omega)
        rw [w] at h9 ⊢
        rw [if_pos (show nI 0 = (0 : Int32) from rfl), k1, yI_ge (show ¬ 2 ≤ 1 by omega), if_pos rfl, s2, zbd_S]
        dsimp only
        rw [if_pos rfl, k2, yI_ge (show ¬ 9 ≤ 3 by omega), if_pos rfl, hpic, zbd_S]
        dsimp only
        rw [if_pos rfl, k3, if_pos rfl]
        unfold fL_areSquares_109
        rw [if_neg (show ¬ nI 0 = (2 : Int32) by decide)]
        unfold fL_areSquares_170 fL_areSquares_175
        rw [zbn_E, if_neg (show ¬ nI 0 = (1 : Int32) by decide)]
        exact h9
      · obtain ⟨k1, k2, k3, k4, k5⟩ := eS_1 _ hc _ hd hok w
        have hz2 : zin (nI (ysd (b q))) 2 = true := zin_N (by omega) (by omega)
        have hcl2 : (nI (ysd (b q))).toNatClampNeg = ysd (b q) := tn_n (by omega)
        have hc2 : ∀ s, s ≤ 1 → (upd c2 (ysd (b q)) (c2 (ysd (b q)) + 1)) s = nI (fb_ct (ypc b s) (q + 1)) := fun s hs => by
          rw [← e_cnt (f := c2) (i2 s hs)]
          unfold upd ypc
          by_cases z : ysd (b q) = s
          · rw [decide_eq_true z, if_pos rfl, z, if_pos rfl]
          · rw [decide_eq_false z, if_neg (fun y => z y.symm), if_neg (by decide)]
        have hc3 : ∀ s, s ≤ 1 → (upd c3 (ysd (b q)) (c3 (ysd (b q)) + (if ykk (b q) = 3 then 1 else 0))) s = nI (fb_ct (fun i => decide (b i = 4 + 4 * s)) (q + 1)) := fun s hs => by
          have h9 := e_cnt (f := c3) (i3 s hs)
          rw [← h9]
          unfold upd
          by_cases z : s = ysd (b q)
          · subst z
            rw [if_pos rfl]
            by_cases y : ykk (b q) = 3
            · rw [if_pos y, decide_eq_true (k4.mp y), if_pos rfl]
            · rw [if_neg y, decide_eq_false (fun u => y (k4.mpr u)), if_neg (by decide)]
              exact Int32.add_zero _
          · rw [if_neg z]
            have : ¬ b q = 4 + 4 * s := fun u => z (by
              have h4 : ∀ s, s < 2 → ysd (4 + 4 * s) = s := by decide
              rw [u]
              exact (h4 s (by omega)).symm)
            rw [decide_eq_false this, if_neg (by decide)]
        have h9 := tail _ _ _ _ (show ySqI b (q + 1) (upd c1 (yPiw (b q) (b (36 + q))) (c1 (yPiw (b q) (b (36 + q))) + 1)) (upd c2 (ysd (b q)) (c2 (ysd (b q)) + 1)) (upd c3 (ysd (b q)) (c3 (ysd (b q)) + (if ykk (b q) = 3 then 1 else 0))) (nI (fb_ct (fun i => yDd (b (36 + i))) (q + 1))) from ⟨hc1, hc2, hc3, rfl⟩)
        rw [w] at h9 ⊢
        rw [if_neg (show ¬ nI 1 = (0 : Int32) by decide), k1, yI_lt k2]
        unfold fL_areSquares_109
        rw [if_neg (show ¬ nI 1 = (2 : Int32) by decide)]
        unfold fL_areSquares_170 fL_areSquares_175
        rw [zbn_E, if_pos (show nI 1 = (1 : Int32) from rfl), hz2, zck_T, zck_T, zck_T, s2, zbd_S]
        dsimp only
        rw [if_pos rfl, hcl2, yI_lt k5]
        unfold fL_areSquares_213
        by_cases y : ykk (b q) = 3
        · rw [if_pos y] at h9
          rw [y, if_pos (show nI 3 = (3 : Int32) from rfl), hz2, zck_T, hcl2]
          exact h9
        · rw [if_neg y] at h9
          rw [if_neg (show ¬ nI (ykk (b q)) = (3 : Int32) from fun z => y ((nI_eq (b := 3) (by omega) (by omega)).mp z)), hz2, zck_T, hcl2]
          exact h9
      · obtain ⟨k1, k2, k3⟩ := eS_2 _ hc _ hd hok w
        have h9 := noP (by omega)
        rw [w] at h9 ⊢
        rw [if_neg (show ¬ nI 2 = (0 : Int32) by decide)]
        unfold fL_areSquares_109
        rw [if_pos (show nI 2 = (2 : Int32) from rfl), s3, zbd_S]
        dsimp only
        rw [if_pos rfl, k1, yb_f, if_pos rfl, hpic, zbd_S]
        dsimp only
        rw [if_pos rfl, k2, if_pos rfl]
        by_cases y : ykk (b q) ≤ 3
        · have y2 := k3.mpr y
          rw [yI_lt y2, if_neg (e_n1 (yPis (b q) (b (36 + q))) (by omega))]
          unfold fL_areSquares_151 fL_areSquares_167
          rw [s2, zbd_S]
          dsimp only
          rw [if_pos rfl, yI_lt y, if_neg (e_n1 (ykk (b q)) (by omega)), if_pos rfl]
          unfold fL_areSquares_170 fL_areSquares_175
          rw [zbn_E, if_neg (show ¬ nI 2 = (1 : Int32) by decide)]
          exact h9
        · rw [yI_ge (fun z => y (k3.mp z)), if_pos rfl]
          unfold fL_areSquares_151 fL_areSquares_167
          rw [s2, zbd_S]
          dsimp only
          rw [if_pos rfl, yI_ge y, if_pos rfl, if_pos rfl]
          unfold fL_areSquares_170 fL_areSquares_175
          rw [zbn_E, if_neg (show ¬ nI 2 = (1 : Int32) by decide)]
          exact h9
      · have h9 := noP (by omega)
        rw [w] at h9 ⊢
        rw [if_neg (show ¬ nI 3 = (0 : Int32) by decide)]
        unfold fL_areSquares_109
        rw [if_neg (show ¬ nI 3 = (2 : Int32) by decide)]
        unfold fL_areSquares_170 fL_areSquares_175
        rw [zbn_E, if_neg (show ¬ nI 3 = (1 : Int32) by decide)]
        exact h9
  unfold fL_areSquares
  exact hl 36 0 37 _ _ _ _ (by omega) (by omega) ⟨rfl, fun s hs => rfl, fun s hs => rfl, rfl⟩

/-! PURE 14: whether a side can move, the end of a turn -/
theorem yW_none {fr S : Nat → Bool} (h : ∀ i, i < 36 → yW fr S 0 i = false) : ∀ n i, i < 36 → yW fr S n i = false
  | 0, i, hi => h i hi
  | n + 1, i, hi => by
    show (yW fr S n i || (yar (yW fr S n) i && fr i)) = false
    rw [yW_none h n i hi]
    cases g : yar (yW fr S n) i with
    | false => rfl
    | true =>
      obtain ⟨w, a, c, d⟩ := yar_t.mp g
      rw [yW_none h n _ c] at d
      cases d
theorem y_nearw {q t w : Nat} (hq : q < 36) (hw : w < 4) (ht : ynb q w = t) (h36 : t < 36) : yar (fun j => decide (j = q)) t = true := by
  rw [y_near q hq t h36]
  exact yw4_t.mpr ⟨w, hw, decide_eq_true ht⟩
theorem y_can {b : Nat → Nat} (hv : yV b) {q : Nat} (hq : q < 36) (hs : ysd (b q) ≤ 1) : (∃ t, t < 36 ∧ yTg b q t = true) ↔ ∃ t, t < 36 ∧ (yar (fun j => decide (j = q)) t && yfr b (ysd (b q)) t) = true := by
  have hqf : yfr b (ysd (b q)) q = false := by
    have hc28 := yV_28 hv hq
    unfold yfr
    rw [decide_eq_false ((ysk (b q) (by omega)).2 hs).1, Bool.and_false]
  constructor
  · rintro ⟨t, ht, g⟩
    unfold yTg at g
    rw [if_pos hs] at g
    split at g
    · obtain ⟨w, hw, r⟩ := yw4_t.mp g
      rw [yRay_5 hw hq] at r
      obtain ⟨r1, r2⟩ := (Bool.and_eq_true _ _).mp r
      obtain ⟨r3, r4⟩ := (Bool.and_eq_true _ _).mp r1
      have r5 := of_decide_eq_true r3
      exact ⟨ynb q w, r5, (Bool.and_eq_true _ _).mpr ⟨y_nearw hq hw rfl r5, r4⟩⟩
    · split at g
      · rcases Classical.em (∃ t, t < 36 ∧ (yar (fun j => decide (j = q)) t && yfr b (ysd (b q)) t) = true) with z | z
        · exact z
        · exfalso
          have hn : ∀ i, i < 36 → yW (yfr b (ysd (b q))) (fun j => decide (j = q)) 0 i = false := fun i hi => by
            cases e : yW (yfr b (ysd (b q))) (fun j => decide (j = q)) 0 i with
            | false => rfl
            | true => exact absurd ⟨i, hi, e⟩ z
          unfold yWk at g
          rw [yRs_W 2 t, yW_none hn 2 t ht, Bool.or_false] at g
          revert g
          cases decide (t = q) <;> decide
      · rw [yw4_and] at g
        exact ⟨t, ht, by rw [y_near q hq t ht]; exact g⟩
  · rintro ⟨t, ht, g⟩
    obtain ⟨g1, g2⟩ := (Bool.and_eq_true _ _).mp g
    refine ⟨t, ht, ?_⟩
    unfold yTg
    rw [if_pos hs]
    have g3 := g1
    rw [y_near q hq t ht] at g3
    obtain ⟨w, hw, e⟩ := yw4_t.mp g3
    have e := of_decide_eq_true e
    split
    · refine yw4_t.mpr ⟨w, hw, ?_⟩
      rw [yRay_5 hw hq, e, decide_eq_true ht, g2, decide_eq_true rfl]
      rfl
    · split
      · unfold yWk
        have e0 : yW (yfr b (ysd (b q))) (fun j => decide (j = q)) 0 t = true := g
        rw [yRs_W 2 t, yW_0 2 t e0, Bool.or_true, decide_eq_false (show ¬ t = q from fun z => by rw [z, hqf] at g2; cases g2)]
        rfl
      · rw [yw4_and, g3, g2]
        rfl
def yHm (b : Nat → Nat) (s : Nat) : Bool := decide (fb_ct (fun t => yar (ypc b s) t && yfr b s t) 36 ≠ 0)
theorem c_hasMove {f : Nat → Int64} {b : Nat → Nat} (h : yP f b) (hv : yV b) {s : Nat} (hs : s ≤ 1) : fX2_hasMove f (nI s) = some (yb (yHm b s)) := by
  obtain ⟨v, v1, v2⟩ := y3around (h.1 s hs)
  obtain ⟨w, w1, w2⟩ := c_open h hs
  have hA : ySW ((v &&& w) &&& ((f 0 ||| f 1) ^^^ (-1))) (fun t => yar (ypc b s) t && yfr b s t) := by
    rw [Int64.and_assoc]
    exact ySW_and v2 (y_free h hv w2)
  unfold fX2_hasMove yHm
  rw [p_pieces f hs, zbd_S, v1, zbd_S, w1, zbd_S, p_all, zbd_S]
  by_cases g : fb_ct (fun t => yar (ypc b s) t && yfr b s t) 36 = 0
  · rw [if_pos ((zlc _ _).mpr ((ySW_z hA).mpr (fb_ct_zero.mp g))), decide_eq_false (by omega)]
    rfl
  · rw [if_neg (fun z => g (fb_ct_zero.mpr ((ySW_z hA).mp ((zlc _ _).mp z)))), decide_eq_true g]
    rfl
theorem yb_or (a c : Bool) : yb a ||| yb c = yb (a || c) := by cases a <;> cases c <;> decide
theorem y_hm {b : Nat → Nat} (hv : yV b) {s : Nat} (hs : s ≤ 1) : decide (fb_ct (fun q => ypc b s q && decide (fb_ct (yTg b q) 36 ≠ 0)) 36 ≠ 0) = yHm b s := by
  unfold yHm
  apply decide_eq_decide.mpr
  have e : (∃ q, q < 36 ∧ (ypc b s q && decide (fb_ct (yTg b q) 36 ≠ 0)) = true) ↔ ∃ t, t < 36 ∧ (yar (ypc b s) t && yfr b s t) = true := by
    constructor
    · rintro ⟨q, hq, g⟩
      obtain ⟨g1, g2⟩ := (Bool.and_eq_true _ _).mp g
      have g3 : ysd (b q) = s := of_decide_eq_true g1
      have g4 := of_decide_eq_true g2
      obtain ⟨t, t1, t2⟩ := fb_ct_pos.mp (Nat.pos_of_ne_zero g4)
      obtain ⟨u, u1, u2⟩ := (y_can hv hq (by omega)).mp ⟨t, t1, t2⟩
      obtain ⟨u3, u4⟩ := (Bool.and_eq_true _ _).mp u2
      rw [g3] at u4
      exact ⟨u, u1, (Bool.and_eq_true _ _).mpr ⟨yar_m (fun j _ hj => by rw [of_decide_eq_true hj]; exact g1) u3, u4⟩⟩
    · rintro ⟨t, ht, g⟩
      obtain ⟨g1, g2⟩ := (Bool.and_eq_true _ _).mp g
      obtain ⟨w, w1, w2, w3⟩ := yar_t.mp g1
      have g3 : ysd (b (ynb t w)) = s := of_decide_eq_true w3
      refine ⟨ynb t w, w2, (Bool.and_eq_true _ _).mpr ⟨w3, decide_eq_true ?_⟩⟩
      have hn : yar (fun j => decide (j = ynb t w)) t = true := yar_t.mpr ⟨w, w1, w2, decide_eq_true rfl⟩
      obtain ⟨u, u1, u2⟩ := (y_can hv w2 (by omega)).mpr ⟨t, ht, (Bool.and_eq_true _ _).mpr ⟨hn, by rw [g3]; exact g2⟩⟩
      exact Nat.ne_of_gt (fb_ct_pos.mpr ⟨u, u1, u2⟩)
  constructor
  · intro z
    exact Nat.ne_of_gt (fb_ct_pos.mpr (e.mp (fb_ct_pos.mp (Nat.pos_of_ne_zero z))))
  · intro z
    exact Nat.ne_of_gt (fb_ct_pos.mpr (e.mpr (fb_ct_pos.mp (Nat.pos_of_ne_zero z))))
/-! the numbers of a board -/
theorem yN_put {now : Nat → Int32} {b : Nat → Nat} (h : yN now b) (j v : Nat) : yN (upd now j (nI v)) (yput b j v) := fun i hi => by
  unfold upd yput
  by_cases e : i = j
  · rw [if_pos e, if_pos e]
  · rw [if_neg e, if_neg e]; exact h i hi
theorem yP_put {f : Nat → Int64} {b : Nat → Nat} (h : yP f b) {j v : Nat} (h1 : 72 ≤ j) (h2 : j ≤ 75) : yP (vp_updL f (j - 61) (lN v)) (yput b j v) := by
  obtain ⟨g1, g2, g3, g4, g5, g6, g7, g8, g9⟩ := h
  have ho : ∀ i, i < 11 → vp_updL f (j - 61) (lN v) i = f i := fun i hi => by
    unfold vp_updL
    rw [if_neg (by omega)]
  have hd : ∀ i, i < 72 → yput b j v i = b i := fun i hi => by
    unfold yput
    rw [if_neg (by omega)]
  have hh : ∀ i, 72 ≤ i → i ≤ 75 → f (i - 61) = lN (b i) → vp_updL f (j - 61) (lN v) (i - 61) = lN (yput b j v i) := fun i a c e => by
    unfold vp_updL yput
    by_cases q : i = j
    · rw [if_pos (by omega), if_pos q]
    · rw [if_neg (by omega), if_neg q]; exact e
  refine ⟨fun s hs => by rw [ho s (by omega)]; exact ySW_c (g1 s hs) (fun i hi => by unfold ypc; rw [hd i (by omega)]), fun s hs => by rw [ho _ (by omega)]; exact ySW_c (g2 s hs) (fun i hi => by rw [hd (36 + i) (by omega)]), fun s hs => by rw [ho _ (by omega)]; exact ySW_c (g3 s hs) (fun i hi => by rw [hd i (by omega)]),
    fun k hk => by rw [ho _ (by omega)]; exact ySW_c (g4 k hk) (fun i hi => by rw [hd i (by omega)]), by rw [ho 10 (by omega)]; exact ySW_c g5 (fun i hi => by rw [hd i (by omega)]), hh 72 (by omega) (by omega) g6, hh 73 (by omega) (by omega) g7, hh 74 (by omega) (by omega) g8, hh 75 (by omega) (by omega) g9⟩
theorem yHm_put {b : Nat → Nat} {j v : Nat} (h1 : 72 ≤ j) (s : Nat) : yHm (yput b j v) s = yHm b s := by
  have hd : ∀ i, i < 72 → yput b j v i = b i := fun i hi => by
    unfold yput
    rw [if_neg (by omega)]
  unfold yHm
  rw [fb_ct_cong (q := fun t => yar (ypc b s) t && yfr b s t) (fun t ht => ?_)]
  rw [yar_c (Q := ypc b s) (fun i hi => by unfold ypc; rw [hd i (by omega)])]
  unfold yfr yop
  rw [hd t (by omega), hd (36 + t) (by omega)]
/-- the end of a turn; c: a keeper was captured in it -/
def yet (b : Nat → Nat) (c : Bool) : Nat → Nat :=
  if (c || !yHm b (1 - b 74 % 2)) = true then yput (yput b 74 (b 74 + 1)) 75 (b 74 % 2 + 1) else if b 74 + 1 = 60 then yput (yput b 74 (b 74 + 1)) 75 3 else yput b 74 (b 74 + 1)
theorem yV_t1 {b b' : Nat → Nat} (hv : yV b) (hlt : b 74 < 60) (e : ∀ i, i < 74 → b' i = b i) (e74 : b' 74 = b 74 + 1) (e75 : b' 75 ≤ 3) : yV b' := by
  obtain ⟨h1, h2, h3, h4, h5, h6, h7, h8, h9, h10⟩ := hv
  refine ⟨fun q hq => by rw [e q (by omega)]; exact h1 q hq, fun q hq => by rw [e _ (by omega)]; exact h2 q hq, fun q hq g => by rw [e q (by omega)] at g; rw [e _ (by omega)]; exact h3 q hq g, fun q hq g => by rw [e q (by omega)] at g ⊢; rw [e _ (by omega)]; exact h4 q hq g, by rw [e 72 (by omega)]; omega, by rw [e 73 (by omega)]; omega, by omega, e75, fun z => by omega, fun s q r hs hq hr g1 g2 => ?_⟩
  rw [e q (by omega)] at g1
  rw [e r (by omega)] at g2
  exact h10 s q r hs hq hr g1 g2
theorem yput_o {b : Nat → Nat} {j v i : Nat} (h : i ≠ j) : yput b j v i = b i := if_neg h
theorem yput_s {b : Nat → Nat} {j v : Nat} : yput b j v j = v := if_pos rfl
theorem yV_et {b : Nat → Nat} (hv : yV b) (c : Bool) (hlt : b 74 < 60) (h72 : b 72 ≤ 11 + 8 * b 74) (h73 : b 73 ≤ 11 + 8 * b 74) : yV2 (yet b c) := by
  have h8 := hv.2.2.2.2.2.2.2.1
  unfold yet
  split
  · refine ⟨yV_t1 hv hlt (fun i hi => by rw [yput_o (by omega), yput_o (by omega)]) (by rw [yput_o (by omega), yput_s]) (by rw [yput_s]; omega), fun z => ?_, ?_, ?_⟩
    · rw [yput_s] at z
      omega
    · rw [yput_o (by omega), yput_o (by omega), yput_o (j := 75) (by omega), yput_s]; omega
    · rw [yput_o (by omega), yput_o (by omega), yput_o (j := 75) (by omega), yput_s]; omega
  · split
    · refine ⟨yV_t1 hv hlt (fun i hi => by rw [yput_o (by omega), yput_o (by omega)]) (by rw [yput_o (by omega), yput_s]) (by rw [yput_s]; omega), fun z => ?_, ?_, ?_⟩
      · rw [yput_s] at z
        omega
      · rw [yput_o (by omega), yput_o (by omega), yput_o (j := 75) (by omega), yput_s]; omega
      · rw [yput_o (by omega), yput_o (by omega), yput_o (j := 75) (by omega), yput_s]; omega
    · refine ⟨yV_t1 hv hlt (fun i hi => by rw [yput_o (by omega)]) yput_s (by rw [yput_o (by omega)]; exact h8), fun z => ?_, ?_, ?_⟩
      · rw [yput_s]
        omega
      · rw [yput_o (by omega), yput_s]; omega
      · rw [yput_o (by omega), yput_s]; omega
theorem c_endTurn {f : Nat → Int64} {b : Nat → Nat} (h : yP f b) (hv : yV b) (hlt : b 74 < 60) (c : Bool) : ∃ f', fX2_endTurn f (yb c) = some f' ∧ yP f' (yet b c) := by
  have h13 : f 13 + 1 = lN (b 74 + 1) := by rw [h.2.2.2.2.2.2.2.1, lN_1]
  have hP1 : yP (vp_updL f 13 (lN (b 74 + 1))) (yput b 74 (b 74 + 1)) := yP_put h (j := 74) (by omega) (by omega)
  have hPe : ∀ v, yP (vp_updL (vp_updL f 13 (lN (b 74 + 1))) 14 (lN v)) (yput (yput b 74 (b 74 + 1)) 75 v) := fun v => yP_put hP1 (j := 75) (by omega) (by omega)
  have hms : b 74 % 2 ≤ 1 := by omega
  have e31 : ∀ g, fX2_endTurn_31 g (nI (b 74 % 2)) = some (vp_updL g 14 (lN (b 74 % 2 + 1))) := fun g => by
    unfold fX2_endTurn_31
    rw [show (14 : Int32) = nI 14 from rfl, zck_N (by omega) (by omega), tn_n (by omega), nI_1, nI_l (by omega)]
  unfold fX2_endTurn yet
  rw [c_mover h, zbd_S, show (13 : Int32) = nI 13 from rfl, zck_N (by omega) (by omega), zck_N (by omega) (by omega), tn_n (by omega), h13]
  have hhm : fX2_hasMove (vp_updL f 13 (lN (b 74 + 1))) (nI (1 - b 74 % 2)) = some (yb (yHm b (1 - b 74 % 2))) := by
    obtain ⟨v, v1, v2⟩ := y3around (hP1.1 (1 - b 74 % 2) (by omega))
    obtain ⟨w, w1, w2⟩ := c_open hP1 (show 1 - b 74 % 2 ≤ 1 by omega)
    have hd : ∀ i, i < 72 → yput b 74 (b 74 + 1) i = b i := fun i hi => by
      unfold yput
      rw [if_neg (by omega)]
    have w3 : ySW w (yop b (1 - b 74 % 2)) := ySW_c w2 (fun i hi => by unfold yop; rw [hd i (by omega), hd (36 + i) (by omega)])
    have v3 : ySW v (yar (ypc b (1 - b 74 % 2))) := ySW_c v2 (fun i hi => yar_c (fun j hj => by unfold ypc; rw [hd j (by omega)]) i)
    have e0 : vp_updL f 13 (lN (b 74 + 1)) 0 = f 0 := rfl
    have e1 : vp_updL f 13 (lN (b 74 + 1)) 1 = f 1 := rfl
    have hA : ySW ((v &&& w) &&& ((f 0 ||| f 1) ^^^ (-1))) (fun t => yar (ypc b (1 - b 74 % 2)) t && yfr b (1 - b 74 % 2) t) := by
      rw [Int64.and_assoc]
      exact ySW_and v3 (y_free h hv w3)
    unfold fX2_hasMove yHm
    rw [p_pieces _ (show 1 - b 74 % 2 ≤ 1 by omega), zbd_S, v1, zbd_S, w1, zbd_S, p_all, zbd_S, e0, e1]
    by_cases g : fb_ct (fun t => yar (ypc b (1 - b 74 % 2)) t && yfr b (1 - b 74 % 2) t) 36 = 0
    · rw [if_pos ((zlc _ _).mpr ((ySW_z hA).mpr (fb_ct_zero.mp g))), decide_eq_false (by omega)]
      rfl
    · rw [if_neg (fun z => g (fb_ct_zero.mpr ((ySW_z hA).mp ((zlc _ _).mp z)))), decide_eq_true g]
      rfl
  cases c with
  | true =>
    rw [yb_t, if_neg (by decide), e31, if_pos (by rfl)]
    exact ⟨_, rfl, hPe _⟩
  | false =>
    rw [yb_f, if_pos rfl, p_other hms, zbd_S, hhm, zbd_S]
    cases yHm b (1 - b 74 % 2) with
    | false =>
      rw [yb_f, if_pos rfl, e31, if_pos (by rfl)]
      exact ⟨_, rfl, hPe _⟩
    | true =>
      have e74 : yput b 74 (b 74 + 1) 74 = b 74 + 1 := if_pos rfl
      rw [yb_t, if_neg (by decide), c_turns hP1, zbd_S, e74, if_neg (show ¬ (false || !true) = true by decide)]
      by_cases g : b 74 + 1 = 60
      · rw [if_neg (show ¬ nI (b 74 + 1) < (60 : Int32) from nI_nlt (b := 60) (by omega) (by omega)), if_pos g, show (14 : Int32) = nI 14 from rfl, zck_N (by omega) (by omega), tn_n (by omega)]
        exact ⟨_, rfl, hPe 3⟩
      · rw [if_pos (show nI (b 74 + 1) < (60 : Int32) from nI_lt (b := 60) (by omega) (by omega)), if_neg g]
        exact ⟨_, rfl, hP1⟩

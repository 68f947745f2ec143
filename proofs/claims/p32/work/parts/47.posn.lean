/-! PURE 7: the Position's small methods -/
theorem yhas {w : Int64} {P : Nat → Bool} (h : ySW w P) {k : Nat} (hk : k < 36) : fX3_has w (nI k) = some (yb (P k)) := ySW_has h hk
theorem p_pieces (f : Nat → Int64) {s : Nat} (hs : s ≤ 1) : fX2_piecesOf f (nI s) = some (f s) := by
  rcases (show s = 0 ∨ s = 1 by omega) with rfl | rfl <;> rfl
theorem p_doors (f : Nat → Int64) {s : Nat} (hs : s ≤ 1) : fX2_doorsOf f (nI s) = some (f (2 + s)) := by
  rcases (show s = 0 ∨ s = 1 by omega) with rfl | rfl <;> rfl
theorem p_mems (f : Nat → Int64) {s : Nat} (hs : s ≤ 1) : fX2_memoriesOf f (nI s) = some (f (4 + s)) := by
  rcases (show s = 0 ∨ s = 1 by omega) with rfl | rfl <;> rfl
theorem p_coins (f : Nat → Int64) {s : Nat} (hs : s ≤ 1) : fX2_coinsOf f (nI s) = some ((f (11 + s)).toInt32) := by
  rcases (show s = 0 ∨ s = 1 by omega) with rfl | rfl <;> rfl
theorem p_all (f : Nat → Int64) : fX2_allPieces f = some (f 0 ||| f 1) := rfl
theorem p_allDoors (f : Nat → Int64) : fX2_allDoors f = some (f 2 ||| f 3) := rfl
theorem p_walls (f : Nat → Int64) : fX2_walls f = some (f 10) := rfl
theorem p_turns (f : Nat → Int64) : fX2_turns f = some ((f 13).toInt32) := rfl
theorem p_ending (f : Nat → Int64) : fX2_ending f = some ((f 14).toInt32) := rfl
theorem p_other {s : Nat} (hs : s ≤ 1) : fX4_otherSide (nI s) = some (nI (1 - s)) := by
  rcases (show s = 0 ∨ s = 1 by omega) with rfl | rfl <;> rfl
theorem c_turns {f : Nat → Int64} {b : Nat → Nat} (h : yP f b) : fX2_turns f = some (nI (b 74)) := by
  rw [p_turns, h.2.2.2.2.2.2.2.1, lN_i]
theorem c_ending {f : Nat → Int64} {b : Nat → Nat} (h : yP f b) : fX2_ending f = some (nI (b 75)) := by
  rw [p_ending, h.2.2.2.2.2.2.2.2, lN_i]
theorem c_coins {f : Nat → Int64} {b : Nat → Nat} (h : yP f b) {s : Nat} (hs : s ≤ 1) : fX2_coinsOf f (nI s) = some (nI (b (72 + s))) := by
  rw [p_coins f hs]
  rcases (show s = 0 ∨ s = 1 by omega) with rfl | rfl
  · rw [h.2.2.2.2.2.1, lN_i]
  · rw [h.2.2.2.2.2.2.1, lN_i]
theorem c_mover {f : Nat → Int64} {b : Nat → Nat} (h : yP f b) : fX2_mover f = some (nI (b 74 % 2)) := by
  unfold fX2_mover
  rw [c_turns h, zbd_S, show (1 : Int32) = nI 1 from rfl, y_nand, Nat.and_one_is_mod]
theorem c_isOver {f : Nat → Int64} {b : Nat → Nat} (h : yP f b) (hv : yV b) : fX2_isOver f = some (yb (decide (b 75 ≠ 0))) := by
  have := (yV_74 hv).2.2.2
  show (if lg_cmp (f 14) (0 : Int64) = 0 then some (0 : Int32) else some 1) = _
  rw [h.2.2.2.2.2.2.2.2]
  by_cases g : b 75 = 0
  · rw [if_pos ((zlc _ _).mpr (by rw [g]; rfl)), decide_eq_false (by omega)]; rfl
  · have hz : ¬ lN (b 75) = (0 : Int64) := fun z => g ((lN_eq (b := 0) (by omega) (by omega)).mp z)
    rw [if_neg (fun z => hz ((zlc _ _).mp z)), decide_eq_true g]; rfl
theorem y_all {f : Nat → Int64} {b : Nat → Nat} (h : yP f b) : ySW (f 0 ||| f 1) (fun q => ypc b 0 q || ypc b 1 q) := ySW_or (h.1 0 (by omega)) (h.1 1 (by omega))
theorem y_allDoors {f : Nat → Int64} {b : Nat → Nat} (h : yP f b) : ySW (f 2 ||| f 3) (fun q => decide (b (36 + q) = 1) || decide (b (36 + q) = 2)) := ySW_or (h.2.1 0 (by omega)) (h.2.1 1 (by omega))
theorem y_walls {f : Nat → Int64} {b : Nat → Nat} (h : yP f b) : ySW (f 10) (fun q => ywl (b q)) := h.2.2.2.2.1
theorem c_open {f : Nat → Int64} {b : Nat → Nat} (h : yP f b) {s : Nat} (hs : s ≤ 1) : ∃ w, fX2_openTo f (nI s) = some w ∧ ySW w (yop b s) := by
  rcases (show s = 0 ∨ s = 1 by omega) with rfl | rfl
  · exact ⟨_, rfl, ySW_c (ySW_dif (ySW_dif ySW_al (y_walls h)) (h.2.1 1 (by omega))) (fun i _ => rfl)⟩
  · exact ⟨_, rfl, ySW_c (ySW_dif (ySW_dif ySW_al (y_walls h)) (h.2.1 0 (by omega))) (fun i _ => rfl)⟩
/-- what is on a square -/
def ywh (b : Nat → Nat) (q : Nat) : Nat := if (ypc b 0 q || ypc b 1 q) = true then 1 else if ywl (b q) = true then 2 else if (decide (b (36 + q) = 1) || decide (b (36 + q) = 2)) = true then 3 else 0
theorem c_whatOn {f : Nat → Int64} {b : Nat → Nat} (h : yP f b) {q : Nat} (hq : q < 36) : fX2_whatOn f (nI q) = some (nI (ywh b q)) := by
  unfold fX2_whatOn ywh
  rw [p_all, zbd_S, yhas (y_all h) hq, zbd_S]
  cases ypc b 0 q || ypc b 1 q with
  | true => rw [yb_t, if_neg (by decide), if_pos rfl]; rfl
  | false =>
    rw [yb_f, if_pos rfl, if_neg ynft, p_walls, zbd_S, yhas (y_walls h) hq, zbd_S]
    cases ywl (b q) with
    | true => rw [yb_t, if_neg (by decide), if_pos rfl]; rfl
    | false =>
      rw [yb_f, if_pos rfl, if_neg ynft, p_allDoors, zbd_S, yhas (y_allDoors h) hq, zbd_S]
      cases decide (b (36 + q) = 1) || decide (b (36 + q) = 2) with
      | true => rw [yb_t, if_neg (by decide), if_pos rfl]; rfl
      | false => rw [yb_f, if_pos rfl, if_neg ynft]; rfl
/-- the side of what is on a square -/
def yXs (b : Nat → Nat) (s q : Nat) : Bool := (ypc b s q || decide (b (36 + q) = s + 1)) || decide (ymd (b q) = s)
def yso (b : Nat → Nat) (q : Nat) : Nat := if yXs b 0 q = true then 0 else if yXs b 1 q = true then 1 else 2
theorem y_xs {f : Nat → Int64} {b : Nat → Nat} (h : yP f b) {s : Nat} (hs : s ≤ 1) : ySW ((f s ||| f (2 + s)) ||| f (4 + s)) (yXs b s) := ySW_or (ySW_or (h.1 s hs) (h.2.1 s hs)) (h.2.2.1 s hs)
theorem c_sideOn {f : Nat → Int64} {b : Nat → Nat} (h : yP f b) {q : Nat} (hq : q < 36) : fX2_sideOn f (nI q) = some (yI (yso b q) 1) := by
  have hl : ∀ d s n, s + d = 2 → d < n → (∀ t, t < s → yXs b t q = false) → fX2_sideOn_2 f n (nI q) (nI s) = some (yI (yso b q) 1) := by
    intro d
    induction d with
    | zero =>
      intro s n hs hn ht
      cases n with
      | zero => omega
      | succ n =>
        rw [fX2_sideOn_2, if_pos (show (2 : Int32) ≤ nI s from nI_le (a := 2) (by omega) (by omega))]
        unfold yso
        rw [ht 0 (by omega), ht 1 (by omega)]
        rfl
    | succ d ih =>
      intro s n hs hn ht
      cases n with
      | zero => omega
      | succ n =>
        rw [fX2_sideOn_2, if_neg (show ¬ (2 : Int32) ≤ nI s from nI_ge (b := 2) (by omega) (by omega)), p_pieces f (by omega), zbd_S, p_doors f (by omega), zbd_S, p_mems f (by omega), zbd_S, yhas (y_xs h (by omega)) hq, zbd_S]
        cases g : yXs b s q with
        | true =>
          rw [yb_t, if_neg (by decide)]
          unfold yso
          rcases (show s = 0 ∨ s = 1 by omega) with rfl | rfl
          · rw [g, if_pos rfl]; rfl
          · rw [g, ht 0 (by omega), if_neg ynft, if_pos rfl]; rfl
        | false =>
          rw [yb_f, if_pos rfl, zbn_E, nI_1]
          refine ih (s + 1) n (by omega) (by omega) (fun t h2 => ?_)
          by_cases e : t = s
          · rw [e]; exact g
          · exact ht t (by omega)
  unfold fX2_sideOn
  exact hl 2 0 zFu (by omega) (by unfold zFu; omega) (fun t ht => absurd ht (by omega))
theorem p_at (f : Nat → Int64) {k : Nat} (hk : k < 15) : fX2_at f (nI k) = some (f k) := by
  unfold fX2_at
  rw [if_neg (nI_pos (by omega)), if_neg (show ¬ (15 : Int32) ≤ nI k from nI_ge (b := 15) (by omega) (by omega)), zck_N (by omega) (by omega), tn_n (by omega)]
theorem c_kindOn {f : Nat → Int64} {b : Nat → Nat} (h : yP f b) {q : Nat} (hq : q < 36) : fX2_kindOn f (nI q) = some (yI (ykk (b q)) 3) := by
  have hl : ∀ d s n, s + d = 4 → d < n → (∀ t, t < s → ykk (b q) ≠ t) → fX2_kindOn_2 f n (nI q) (nI s) = some (yI (ykk (b q)) 3) := by
    intro d
    induction d with
    | zero =>
      intro s n hs hn ht
      cases n with
      | zero => omega
      | succ n =>
        rw [fX2_kindOn_2, if_pos (show (4 : Int32) ≤ nI s from nI_le (a := 4) (by omega) (by omega))]
        have : ¬ ykk (b q) ≤ 3 := fun z => ht (ykk (b q)) (by omega) rfl
        rw [yI_ge this]
    | succ d ih =>
      intro s n hs hn ht
      cases n with
      | zero => omega
      | succ n =>
        rw [fX2_kindOn_2, if_neg (show ¬ (4 : Int32) ≤ nI s from nI_ge (b := 4) (by omega) (by omega)), show (6 : Int32) + nI s = nI (6 + s) from nI_add 6 s, p_at f (by omega), zbd_S, yhas (h.2.2.2.1 s (by omega)) hq, zbd_S]
        by_cases g : ykk (b q) = s
        · rw [decide_eq_true g, yb_t, if_neg (by decide), g, yI_lt (by omega)]
        · rw [decide_eq_false g, yb_f, if_pos rfl, zbn_E, nI_1]
          refine ih (s + 1) n (by omega) (by omega) (fun t h2 => ?_)
          by_cases e : t = s
          · rw [e]; exact g
          · exact ht t (by omega)
  unfold fX2_kindOn
  exact hl 4 0 zFu (by omega) (by unfold zFu; omega) (fun t ht => absurd ht (by omega))
theorem y_code1 : ∀ s, s < 2 → ∀ c, c < 29 → ((ysd c = s ∧ ykk c = 3) ↔ (c = 4 + 4 * s ∨ (c = 24 + 4 * s ∧ ysd c = s))) := by decide +kernel
theorem y_code2 : ∀ c, c < 29 → (ysd c ≤ 1 → ymd c = 2 ∧ ykk c = ykd c ∧ ywl c = false ∧ ykd c ≤ 3) := by decide +kernel
theorem y_code3 : ∀ c, c < 9 → (c = 0 ↔ ysd c = 2) := by decide +kernel
theorem y_code4 : ∀ c, c < 29 → 20 ≤ c → ysd c = 2 ∧ ykd c = 9 := by decide +kernel
theorem y_code {c : Nat} (h : c < 29) (hc : c ≤ 8 ∨ 20 ≤ c) : (∀ s, s < 2 → ((ysd c = s ∧ ykk c = 3) ↔ c = 4 + 4 * s)) ∧ (ysd c ≤ 1 → ymd c = 2 ∧ ykk c = ykd c ∧ ywl c = false ∧ ykd c ≤ 3) ∧ (ywl c = false → (c = 0 ↔ ysd c = 2)) := by
  refine ⟨fun s hs => ?_, y_code2 c h, fun hw => ?_⟩
  · rw [y_code1 s hs c h]
    constructor
    · rintro (z | ⟨z1, z2⟩)
      · exact z
      · have := (y_code4 c h (by omega)).1
        omega
    · exact fun z => Or.inl z
  · have : ¬ 20 ≤ c := of_decide_eq_false hw
    exact y_code3 c (by omega)
theorem c_keeperOf {f : Nat → Int64} {b : Nat → Nat} (h : yP f b) (hv : yV b) {s : Nat} (hs : s ≤ 1) : ∃ r, fX2_keeperOf f (nI s) = some r ∧ yKp b s r := by
  have hw : ySW (f s &&& f 9) (fun q => decide (ysd (b q) = s) && decide (ykk (b q) = 3)) := ySW_and (h.1 s hs) (h.2.2.2.1 3 (by omega))
  have e : fX2_keeperOf f (nI s) = fX3_lowest (f s &&& f 9) := by
    unfold fX2_keeperOf
    rw [p_pieces f hs, zbd_S]
    show zbd (fX3_lowest (f s &&& f 9)) (fun u4 => some u4) = _
    cases fX3_lowest (f s &&& f 9) <;> rfl
  have hc : ∀ q, q < 36 → ((decide (ysd (b q) = s) && decide (ykk (b q) = 3)) = true ↔ b q = 4 + 4 * s) := fun q hq => by
    have := hv.1 q hq
    rw [Bool.and_eq_true, decide_eq_true_eq, decide_eq_true_eq]
    exact (y_code (c := b q) (by omega) (by omega)).1 s (by omega)
  rw [e]
  by_cases g : ∃ i, i < 36 ∧ (fun q => decide (ysd (b q) = s) && decide (ykk (b q) = 3)) i = true
  · obtain ⟨v, hlo⟩ := yLo_ex g
    exact ⟨_, y3lowest hw hlo, Or.inl ⟨v, hlo.1, (hc v hlo.1).mp hlo.2.1, rfl⟩⟩
  · refine ⟨_, y3lowest0 hw (fun i hi => ?_), Or.inr ⟨fun q hq z => g ⟨q, hq, (hc q hq).mpr z⟩, rfl⟩⟩
    cases q : (decide (ysd (b i) = s) && decide (ykk (b i) = 3)) with
    | false => rfl
    | true => exact absurd ⟨i, hi, q⟩ g
/-- a piece on q -/
theorem c_piece {f : Nat → Int64} {b : Nat → Nat} (h : yP f b) (hv : yV b) {q s : Nat} (hq : q < 36) (hs : s ≤ 1) (hp : ysd (b q) = s) : fX2_sideOn f (nI q) = some (nI s) ∧ fX2_kindOn f (nI q) = some (nI (ykd (b q))) ∧ ykd (b q) ≤ 3 := by
  have hc := hv.1 q hq
  obtain ⟨c1, c2, c3, c4⟩ := (y_code (c := b q) (by omega) (by omega)).2.1 (by omega)
  have hd := hv.2.2.2.1 q hq (by omega)
  refine ⟨?_, ?_, c4⟩
  · rw [c_sideOn h hq]
    have e : yso b q = s := by
      unfold yso yXs ypc
      rw [hp, c1]
      rcases (show s = 0 ∨ s = 1 by omega) with rfl | rfl
      · rfl
      · rw [hp] at hd
        rw [decide_eq_false (show ¬ b (36 + q) = 0 + 1 by omega)]
        rfl
    rw [e, yI_lt hs]
  · rw [c_kindOn h hq, c2, yI_lt c4]
theorem y_free {f : Nat → Int64} {b : Nat → Nat} (h : yP f b) (hv : yV b) {s : Nat} {w : Int64} (hw : ySW w (yop b s)) : ySW (w &&& ((f 0 ||| f 1) ^^^ (-1))) (yfr b s) := by
  refine ySW_c (ySW_dif hw (y_all h)) (fun i hi => ?_)
  unfold yfr
  have hc := hv.1 i hi
  have e := (y_code (c := b i) (by omega) (by omega)).2.2
  have e2 := ysd_le (b i) (by omega)
  cases g : ywl (b i) with
  | true =>
    have : yop b s i = false := by
      unfold yop
      rw [g]
      rfl
    rw [this]
    rfl
  | false =>
    have e := e g
    unfold ypc
    by_cases z : b i = 0
    · rw [decide_eq_true z, decide_eq_false (show ¬ ysd (b i) = 0 by rw [e.mp z]; decide), decide_eq_false (show ¬ ysd (b i) = 1 by rw [e.mp z]; decide)]
      rfl
    · have hn : ysd (b i) ≠ 2 := fun y => z (e.mpr y)
      rw [decide_eq_false z]
      rcases (show ysd (b i) = 0 ∨ ysd (b i) = 1 by omega) with y | y
      · rw [y, Bool.and_false]; simp
      · rw [y, Bool.and_false]; simp

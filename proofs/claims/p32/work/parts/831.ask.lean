/-! THE CLASS ALONE, 2: turns, moves, rooms, squares, accounts -/
theorem e_move {rws : Nat → Int64} {nx ct kR : Int32} {c : Nat} {B : Nat → Nat → Nat} {fb : Nat → Int64} {b : Nat → Nat} (h : yHc rws nx ct c B) (hP : yP fb b) (hV : yV2 b) {p t : Nat} (hp : p < 36) (ht : t < 36) :
    ∃ o x kR' fb' rws' nx' ct', fX4_move kR fb rws nx ct (nI p) (nI t) = some (o, x, kR', fb', rws', nx', ct') ∧ eO b c B o x fb' rws' nx' ct' ∧ (o = 0 ∨ o = 4) ∧
      (b 75 = 0 → ycd b p t = true → o = 0 ∧ x = nI (fb_ct (yCs b p t) 36) ∧ yP fb' (ytm b p t) ∧ yV2 (ytm b p t)) := by
  obtain ⟨y1, y2, y3⟩ := ymr_b hV.1 hp ht
  unfold fX4_move
  rw [e_sq p hp, zbd_S, if_pos rfl, e_sq t ht, zbd_S, if_pos rfl, c_moveRef hP hV.1 hp ht, zbd_S]
  unfold fX4_requireTaken
  by_cases g : (ymr b p t).1 = 0
  · obtain ⟨rws', nx', ct', c', B', r1, r2, r3, r4⟩ := e_remember h hP hV
    obtain ⟨k1, k2, k3⟩ := ymr_0 g
    obtain ⟨f2, z1, z2⟩ := c_takeMove hP hV hp ht (of_decide_eq_true k2) k3 (hV.2.1 k1)
    have hV' := yV_tm hV hp ht k3 (hV.2.1 k1)
    have hle := fb_ct_le (yCs b p t) 36
    rw [g, y3 g, show nI (100 * 0 + 0) = (0 : Int32) from rfl, if_pos rfl, zbd_S]
    dsimp only
    rw [if_pos rfl, r1, zbd_S, z1, zbd_S]
    exact ⟨_, _, _, _, _, _, _, rfl, Or.inl ⟨rfl, ⟨_, by omega, rfl⟩, _, c', B', hV', z2, r2, r3, r4⟩, Or.inl rfl, fun _ _ => ⟨rfl, rfl, z2, hV'⟩⟩
  · have hz : ¬ nI (100 * (ymr b p t).1 + (ymr b p t).2) = 0 := fun z => by
      have := (nI_z (by omega)).mp z
      omega
    rw [if_neg hz, zbd_S]
    dsimp only
    rw [if_neg (by decide)]
    refine ⟨_, _, _, _, _, _, _, rfl, Or.inr ⟨by omega, hP, h⟩, Or.inr rfl, fun h0 hcd => ?_⟩
    exfalso
    apply g
    unfold ycd at hcd
    obtain ⟨a1, a2⟩ := (Bool.and_eq_true _ _).mp hcd
    unfold ymr
    rw [if_neg (show ¬ b 75 ≠ 0 by omega), show ypc b (b 74 % 2) p = true from a1, a2]
    rfl
theorem e_door {rws : Nat → Int64} {nx ct kR : Int32} {c : Nat} {B : Nat → Nat → Nat} {fb : Nat → Int64} {b : Nat → Nat} (h : yHc rws nx ct c B) (hP : yP fb b) (hV : yV2 b) {q : Nat} (hq : q < 36) :
    ∃ o x kR' fb' rws' nx' ct', fX4_door kR fb rws nx ct (nI q) = some (o, x, kR', fb', rws', nx', ct') ∧ eO b c B o x fb' rws' nx' ct' ∧ (o = 0 ∨ o = 4) := by
  obtain ⟨y1, y2, y3⟩ := ypr_b hV.1 hq false
  unfold fX4_door
  rw [e_sq q hq, zbd_S, if_pos rfl, show (0 : Int32) = yb false from rfl, c_purRef hP hV.1 hq false, zbd_S]
  unfold fX4_requireTaken
  by_cases g : (ypr b q false).1 = 0
  · obtain ⟨rws', nx', ct', c', B', r1, r2, r3, r4⟩ := e_remember h hP hV
    obtain ⟨k1, k2, k3⟩ := y_pr0f g
    obtain ⟨f2, z1, z2⟩ := c_takeDoor hP hV hq k2 k3 (hV.2.1 k1)
    have h1k := yV_74 hV.1
    have hb3 : b (72 + b 74 % 2) ≤ 1000 := by
      rcases (show b 74 % 2 = 0 ∨ b 74 % 2 = 1 by omega) with e | e <;> rw [e]
      · exact h1k.1
      · exact h1k.2.1
    rw [g, y3 g, show nI (100 * 0 + 0) = (0 : Int32) from rfl, if_pos (show (0 : Int32) = 0 from rfl), zbd_S]
    dsimp only
    rw [if_pos rfl, r1, zbd_S, z1, zbd_S]
    exact ⟨_, _, _, _, _, _, _, rfl, Or.inl ⟨rfl, ⟨_, by omega, rfl⟩, _, c', B', (yV_db hV hq (hV.2.1 k1)).2, z2, r2, r3, r4⟩, Or.inl rfl⟩
  · have hz : ¬ nI (100 * (ypr b q false).1 + (ypr b q false).2) = 0 := fun z => by
      have := (nI_z (by omega)).mp z
      omega
    rw [if_neg hz, zbd_S]
    dsimp only
    rw [if_neg (by decide)]
    exact ⟨_, _, _, _, _, _, _, rfl, Or.inr ⟨by omega, hP, h⟩, Or.inr rfl⟩
theorem e_buy {rws : Nat → Int64} {nx ct kR : Int32} {c : Nat} {B : Nat → Nat → Nat} {fb : Nat → Int64} {b : Nat → Nat} (h : yHc rws nx ct c B) (hP : yP fb b) (hV : yV2 b) {q : Nat} (hq : q < 36) :
    ∃ o x kR' fb' rws' nx' ct', fX4_buy kR fb rws nx ct (nI q) = some (o, x, kR', fb', rws', nx', ct') ∧ eO b c B o x fb' rws' nx' ct' ∧ (o = 0 ∨ o = 4) := by
  obtain ⟨y1, y2, y3⟩ := ypr_b hV.1 hq true
  unfold fX4_buy
  rw [e_sq q hq, zbd_S, if_pos rfl, show (1 : Int32) = yb true from rfl, c_purRef hP hV.1 hq true, zbd_S]
  unfold fX4_requireTaken
  by_cases g : (ypr b q true).1 = 0
  · obtain ⟨rws', nx', ct', c', B', r1, r2, r3, r4⟩ := e_remember h hP hV
    obtain ⟨k1, k2, k3, k4, k5⟩ := y_pr0t hV.1 hq g
    obtain ⟨f2, z1, z2⟩ := c_takePiece hP hV hq k2 k3 k4 (hV.2.1 k1) k5
    have h1k := yV_74 hV.1
    have hb3 : b (72 + b 74 % 2) ≤ 1000 := by
      rcases (show b 74 % 2 = 0 ∨ b 74 % 2 = 1 by omega) with e | e <;> rw [e]
      · exact h1k.1
      · exact h1k.2.1
    rw [g, y3 g, show nI (100 * 0 + 0) = (0 : Int32) from rfl, if_pos (show (0 : Int32) = 0 from rfl), zbd_S]
    dsimp only
    rw [if_pos rfl, r1, zbd_S, z1, zbd_S]
    exact ⟨_, _, _, _, _, _, _, rfl, Or.inl ⟨rfl, ⟨_, by omega, rfl⟩, _, c', B', (yV_bb hV hq (hV.2.1 k1) k2 k5).2, z2, r2, r3, r4⟩, Or.inl rfl⟩
  · have hz : ¬ nI (100 * (ypr b q true).1 + (ypr b q true).2) = 0 := fun z => by
      have := (nI_z (by omega)).mp z
      omega
    rw [if_neg hz, zbd_S]
    dsimp only
    rw [if_neg (by decide)]
    exact ⟨_, _, _, _, _, _, _, rfl, Or.inr ⟨by omega, hP, h⟩, Or.inr rfl⟩
theorem e_canMove {f : Nat → Int64} {b : Nat → Nat} (hP : yP f b) (hv : yV b) {p t : Nat} (hp : p < 36) (ht : t < 36) (hs : ysd (b p) ≤ 1) : fX4_canMove f (nI p) (nI t) = some (0, yb (yTg b p t)) := by
  obtain ⟨w, w1, w2⟩ := c_targets hP hv hp hs
  unfold fX4_canMove
  rw [e_sq p hp, zbd_S, if_pos rfl, e_sq t ht, zbd_S, if_pos rfl, c_reqPiece hP hv hp, zbd_S, if_pos hs, if_pos rfl, w1, zbd_S, yhas w2 ht, zbd_S, zbo_b]
theorem e_moves {f : Nat → Int64} {b : Nat → Nat} (hP : yP f b) (hv : yV b) {p : Nat} (hp : p < 36) : fX4_moves f (nI p) = if ysd (b p) ≤ 1 then some (0, nI (fb_ct (yTg b p) 36)) else some (5, 0) := by
  unfold fX4_moves
  rw [e_sq p hp, zbd_S, if_pos rfl, c_reqPiece hP hv hp, zbd_S]
  by_cases g : ysd (b p) ≤ 1
  · obtain ⟨w, w1, w2⟩ := c_targets hP hv hp g
    rw [if_pos g, if_pos g, if_pos rfl, w1, zbd_S, y3size w2, zbd_S]
  · rw [if_neg g, if_neg g, if_neg (by decide)]
theorem e_captures {fb ft : Nat → Int64} {b : Nat → Nat} (hP : yP fb b) (hv : yV b) {p t : Nat} (hp : p < 36) (ht : t < 36) (hg : yTg b p t = true) : ∃ ft', fX4_captures fb ft (nI p) (nI t) = some (0, nI (fb_ct (yCs b p t) 36), ft') := by
  obtain ⟨hs, hf⟩ := yTg_fr hg
  obtain ⟨ft1, t1, t2⟩ := c_copy (f := ft) hP
  obtain ⟨ft2, u1, u2⟩ := c_move t2 hv hp ht hs hf
  unfold fX4_captures
  rw [e_sq p hp, zbd_S, if_pos rfl, e_sq t ht, zbd_S, if_pos rfl, c_reqPiece hP hv hp, zbd_S, if_pos hs, if_pos rfl, c_reqTarget hP hv hp ht hs, zbd_S, hg, if_pos rfl, if_pos rfl, t1, zbd_S, u1, zbd_S]
  exact ⟨_, rfl⟩
theorem e_worth {fb : Nat → Int64} {b : Nat → Nat} (hP : yP fb b) (hv : yV b) {p t : Nat} (hp : p < 36) (ht : t < 36) (ft : Nat → Int64) : ∃ ft', fX4_worth fb ft (nI p) (nI t) = if ycd b p t = true then some (0, nI (ywo b p t), ft') else some (5, 0, ft') := by
  have hms : b 74 % 2 ≤ 1 := by omega
  unfold fX4_worth
  rw [e_sq p hp, zbd_S, if_pos rfl, e_sq t ht, zbd_S, if_pos rfl, c_mover hP, zbd_S, p_pieces fb hms, zbd_S, yhas (hP.1 _ hms) hp, zbd_S]
  unfold ycd ypc
  by_cases gm : ysd (b p) = b 74 % 2
  · rw [decide_eq_true gm, yb_t, if_neg (show ¬ (1 : Int32) = 0 by decide), c_reqTarget hP hv hp ht (by omega), zbd_S]
    cases gt : yTg b p t with
    | false =>
      rw [if_neg ynft, if_neg (by decide)]
      exact ⟨ft, rfl⟩
    | true =>
      obtain ⟨ft', z1⟩ := q_worthV hP hv hp ht gm gt ft
      rw [if_pos rfl, if_pos rfl, z1, zbd_S]
      exact ⟨ft', rfl⟩
  · rw [decide_eq_false gm, yb_f, if_pos rfl]
    exact ⟨ft, rfl⟩
theorem e_best {fb : Nat → Int64} {b : Nat → Nat} (hP : yP fb b) (hv : yV b) (ft : Nat → Int64) : ∃ ft', fX4_best fb ft = if b 75 = 0 ∧ ¬ (ybe b 1296).1 = -1 then some (0, (ybe b 1296).1, ft') else some (5, 0, ft') := by
  have hms : b 74 % 2 ≤ 1 := by omega
  by_cases h0 : b 75 = 0
  · obtain ⟨ft', c1⟩ := c_best_l hP hv (hP.1 _ hms) 36 0 zFu ft rfl (by unfold zFu; omega)
    have eb : fX4_bestMove fb ft = some ((ybe b 1296).1, ft') := by
      unfold fX4_bestMove
      rw [c_mover hP, zbd_S, p_pieces fb hms, zbd_S]
      exact c1
    refine ⟨ft', ?_⟩
    unfold fX4_best
    rw [c_isOver hP hv, zbd_S, decide_eq_false (show ¬ b 75 ≠ 0 by omega), yb_f, if_pos rfl, eb, zbd_S]
    dsimp only
    by_cases g : (ybe b 1296).1 = -1
    · rw [if_pos g, if_neg (fun z => z.2 g)]
    · rw [if_neg g, if_pos ⟨h0, g⟩]
  · refine ⟨ft, ?_⟩
    unfold fX4_best
    rw [c_isOver hP hv, zbd_S, decide_eq_true h0, yb_t, if_neg (show ¬ (1 : Int32) = 0 by decide), if_neg (fun z => h0 z.1)]
theorem e_rooms {f : Nat → Int64} {b : Nat → Nat} (hP : yP f b) {s : Nat} (hs : s ≤ 1) : ∃ r, fX4_rooms f (nI s) = some (0, nI r) ∧ yNr (yop b s) r := by
  obtain ⟨r, c1, c2⟩ := c_countRooms hP hs
  refine ⟨r, ?_, c2⟩
  unfold fX4_rooms
  rw [e_sd s (by omega), zbd_S, if_pos rfl, c1, zbd_S]
theorem e_sealed {f : Nat → Int64} {b : Nat → Nat} (hP : yP f b) {s : Nat} (hs : s ≤ 1) : fX4_sealed f (nI s) = some (0, nI (ySm (yG b s) 36)) := by
  obtain ⟨r, c1, c2⟩ := c_countSealed hP hs
  have h36 := yNr_36 c2
  have e := ySm_36 c2 (36 - r)
  rw [show r + (36 - r) = 36 by omega] at e
  unfold fX4_sealed
  rw [e_sd s (by omega), zbd_S, if_pos rfl, c1, zbd_S, e]
theorem e_sealedAgain {f : Nat → Int64} {b : Nat → Nat} (hP : yP f b) {s : Nat} (hs : s ≤ 1) : fX4_sealedAgain f (nI s) = some (0, nI (fb_ct (fun i => yop b s i && !yR (yop b s) (ypc b s) 36 i) 36)) := by
  unfold fX4_sealedAgain
  rw [e_sd s (by omega), zbd_S, if_pos rfl, c_byReach hP hs, zbd_S]
theorem e_room0 {f : Nat → Int64} {b : Nat → Nat} (hP : yP f b) {s q : Nat} (hs : s ≤ 1) (hq : q < 36) (ho : yop b s q = false) : fX4_room f (nI s) (nI q) = some (5, 0) := by
  unfold fX4_room
  rw [e_sd s (by omega), zbd_S, if_pos rfl, e_sq q hq, zbd_S, if_pos rfl, c_roomNumberOf0 hP hs hq ho, zbd_S, if_pos rfl]
theorem e_room {f : Nat → Int64} {b : Nat → Nat} (hP : yP f b) {s q r m : Nat} (hs : s ≤ 1) (hq : q < 36) (hr : yNr (yop b s) r) (hm : m < r) (hrm : yrm (yL (yop b s) m) q = true) : fX4_room f (nI s) (nI q) = some (0, nI m) := by
  have h36 := yNr_36 hr
  unfold fX4_room
  rw [e_sd s (by omega), zbd_S, if_pos rfl, e_sq q hq, zbd_S, if_pos rfl, c_roomNumberOf hP hs hq hr hm hrm, zbd_S, if_neg (e_n1 m (by omega))]
theorem e_steps {f : Nat → Int64} {b : Nat → Nat} (hP : yP f b) {s q : Nat} (hs : s ≤ 1) (hq : q < 36) : (∃ k, k < 36 ∧ fX4_steps f (nI s) (nI q) = some (0, nI k) ∧ yR (yop b s) (ypc b s) k q = true ∧ ∀ j, j < k → yR (yop b s) (ypc b s) j q = false) ∨ (fX4_steps f (nI s) (nI q) = some (5, 0) ∧ ∀ j, j < 36 → yR (yop b s) (ypc b s) j q = false) := by
  obtain ⟨x, c1, c2⟩ := c_steps hP hs hq
  unfold fX4_steps
  rw [e_sd s (by omega), zbd_S, if_pos rfl, e_sq q hq, zbd_S, if_pos rfl, c1, zbd_S]
  rcases c2 with ⟨k, k1, k2, k3, k4⟩ | ⟨k1, k2⟩
  · rw [k2, if_neg (e_n1 k (by omega))]
    exact Or.inl ⟨k, k1, rfl, k3, k4⟩
  · rw [k1, if_pos rfl]
    exact Or.inr ⟨rfl, k2⟩
theorem e_rmx {P : Nat → Bool} {r m : Nat} (hr : yNr P r) (hm : m < r) : ∃ v, yLo (yrm (yL P m)) v := by
  obtain ⟨v, hv⟩ := yLo_ex (hr.1 m hm)
  exact yLo_ex ⟨v, hv.1, yrm_v hv⟩
theorem e_roomOf {f : Nat → Int64} {b : Nat → Nat} (hP : yP f b) {s r m : Nat} (hs : s ≤ 1) (hr : yNr (yop b s) r) (hm : m < r) :
    fX4_roomOf f (nI s) (nI m) 0 = some (0, nI (fb_ct (yrm (yL (yop b s) m)) 36)) ∧ fX4_roomOf f (nI s) (nI m) 1 = some (0, nI (fb_ct (fun i => yrm (yL (yop b s) m) i && ypc b s i) 36)) ∧
    (∀ v, yLo (yrm (yL (yop b s) m)) v → fX4_roomOf f (nI s) (nI m) 4 = some (0, nI v)) ∧ fX4_roomOf f (nI s) (nI m) 5 = some (0, yb (decide (fb_ct (fun i => yrm (yL (yop b s) m) i && ypc b s i) 36 = 0))) := by
  have h36 := yNr_36 hr
  obtain ⟨w, w1, w2⟩ := c_roomNumbered hP hs hr (show m < 2 ^ 31 by omega)
  rcases w2 with ⟨hmr, w2⟩ | ⟨hmr, w2⟩
  · have hw0 : ¬ lg_cmp w 0 = 0 := fun z => by
      obtain ⟨v, hv⟩ := e_rmx hr hm
      have := (ySW_z w2).mp ((zlc _ _).mp z) v hv.1
      rw [hv.2.1] at this
      cases this
    have hw := ySW_and w2 (hP.1 s hs)
    refine ⟨?_, ?_, fun v hv => ?_, ?_⟩ <;> unfold fX4_roomOf <;> rw [e_sd s (by omega), zbd_S, if_pos rfl, w1, zbd_S, if_neg hw0]
    · rw [if_neg (by decide), if_pos (by decide), if_pos rfl, y3size w2, zbd_S]
    · rw [if_neg (by decide), if_pos (by decide), if_neg (by decide), if_pos rfl, p_pieces f hs, zbd_S, y3size hw, zbd_S]
    · rw [if_neg (by decide), if_pos (by decide), if_neg (by decide), if_neg (by decide), if_neg (by decide), if_neg (by decide), if_pos rfl, y3lowest w2 hv, zbd_S]
    · rw [if_neg (by decide), if_pos (by decide), if_neg (by decide), if_neg (by decide), if_neg (by decide), if_neg (by decide), if_neg (by decide), p_pieces f hs, zbd_S]
      by_cases z : w &&& f s = 0
      · rw [if_pos ((zlc _ _).mpr z), decide_eq_true (fb_ct_zero.mpr ((ySW_z hw).mp z)), yb_t]
      · rw [if_neg (fun y => z ((zlc _ _).mp y)), decide_eq_false (fun y => z ((ySW_z hw).mpr (fb_ct_zero.mp y))), yb_f]
  · omega
theorem e_share {f : Nat → Int64} {b : Nat → Nat} (hP : yP f b) {s : Nat} (hs : s ≤ 1) : (fb_ct (yop b s) 36 = 0 ∧ fX4_sealedShare f (nI s) = some (6, 0)) ∨ (0 < fb_ct (yop b s) 36 ∧ fX4_sealedShare f (nI s) = some (0, FP.ddiv (FP.i2d (nI (ySm (yG b s) 36))) (FP.i2d (nI (fb_ct (yop b s) 36))))) := by
  obtain ⟨w, w1, w2⟩ := c_open hP hs
  have hle := fb_ct_le (yop b s) 36
  unfold fX4_sealedShare
  rw [e_sd s (by omega), zbd_S, if_pos rfl, w1, zbd_S, y3size w2, zbd_S]
  by_cases z : fb_ct (yop b s) 36 = 0
  · rw [if_pos ((nI_z (by omega)).mpr z)]
    exact Or.inl ⟨z, rfl⟩
  · obtain ⟨r, c1, c2⟩ := c_countSealed hP hs
    have h36 := yNr_36 c2
    have e := ySm_36 c2 (36 - r)
    rw [show r + (36 - r) = 36 by omega] at e
    have hz := y_zdn (nI (ySm (yG b s) r)) (show 0 < fb_ct (yop b s) 36 by omega) (by omega)
    rw [if_neg (fun y => z ((nI_z (by omega)).mp y)), c1, zbd_S, hz, zck_T, e]
    exact Or.inr ⟨by omega, rfl⟩
/-- what a square shows -/
theorem e_square {f : Nat → Int64} {b : Nat → Nat} (hP : yP f b) {q : Nat} (hq : q < 36) :
    fX4_square f (nI q) 0 = some (0, nI (ywh b q)) ∧ fX4_square f (nI q) 1 = some (0, yI (yso b q) 1) ∧ fX4_square f (nI q) 2 = some (0, yI (ykk (b q)) 3) ∧ fX4_square f (nI q) 3 = some (0, yb (decide (b (36 + q) = 1) || decide (b (36 + q) = 2))) := by
  refine ⟨?_, ?_, ?_, ?_⟩ <;> unfold fX4_square <;> rw [e_sq q hq, zbd_S, if_pos rfl]
  · rw [if_neg (by decide), if_pos (by decide), if_pos rfl, c_whatOn hP hq, zbd_S]
  · rw [if_neg (by decide), if_pos (by decide), if_neg (by decide), if_pos rfl, c_sideOn hP hq, zbd_S]
  · rw [if_neg (by decide), if_pos (by decide), if_neg (by decide), if_neg (by decide), if_pos rfl, c_kindOn hP hq, zbd_S]
  · rw [if_neg (by decide), if_pos (by decide), if_neg (by decide), if_neg (by decide), if_neg (by decide), p_allDoors, zbd_S, yhas (y_allDoors hP) hq, zbd_S]
    cases (decide (b (36 + q) = 1) || decide (b (36 + q) = 2)) with
    | false => rfl
    | true => rfl
/-- the accounts -/
def yac (b : Nat → Nat) (k : Nat) : Nat := if k = 0 then fb_ct (ypc b 0) 36 else if k = 1 then fb_ct (ypc b 1) 36 else if k = 2 then fb_ct (fun q => ywl (b q)) 36 else if k = 3 then fb_ct (fun q => decide (b (36 + q) = 1) || decide (b (36 + q) = 2)) 36 else if k = 4 then b 72 else if k = 5 then b 73 else if k = 6 then b 74 else if k = 7 then b 74 % 2 else b 75
theorem e_account {f : Nat → Int64} {b : Nat → Nat} (hP : yP f b) (ct ln : Int32) {k : Nat} (hk : k < 9) : fX4_account f ct ln (nI k) = some (0, nI (yac b k)) := by
  unfold fX4_account
  rw [if_neg (nI_pos (by omega)), if_pos (show nI k < (11 : Int32) from nI_lt (b := 11) (by omega) (by omega))]
  rcases (show k = 0 ∨ k = 1 ∨ k = 2 ∨ k = 3 ∨ k = 4 ∨ k = 5 ∨ k = 6 ∨ k = 7 ∨ k = 8 by omega) with rfl | rfl | rfl | rfl | rfl | rfl | rfl | rfl | rfl
  · have e1 : ∀ (X Y : Option (Nat × Int32)), (if nI 0 = (0 : Int32) then X else Y) = X := fun X Y => if_pos rfl
    rw [e1, p_pieces f (by omega), zbd_S, y3size (hP.1 0 (by omega)), zbd_S]
    rfl
  · simp only [show ¬ nI 1 = (0 : Int32) by decide, show nI 1 = (1 : Int32) from rfl, if_true, if_false]
    rw [show (1 : Int32) = nI 1 from rfl, p_pieces f (by omega), zbd_S, y3size (hP.1 1 (by omega)), zbd_S]
    rfl
  · simp only [show ¬ nI 2 = (0 : Int32) by decide, show ¬ nI 2 = (1 : Int32) by decide, show nI 2 = (2 : Int32) from rfl, if_true, if_false]
    rw [p_walls, zbd_S, y3size (y_walls hP), zbd_S]
    rfl
  · simp only [show ¬ nI 3 = (0 : Int32) by decide, show ¬ nI 3 = (1 : Int32) by decide, show ¬ nI 3 = (2 : Int32) by decide, show nI 3 = (3 : Int32) from rfl, if_true, if_false]
    rw [p_allDoors, zbd_S, y3size (y_allDoors hP), zbd_S]
    rfl
  · simp only [show ¬ nI 4 = (0 : Int32) by decide, show ¬ nI 4 = (1 : Int32) by decide, show ¬ nI 4 = (2 : Int32) by decide, show ¬ nI 4 = (3 : Int32) by decide, show nI 4 = (4 : Int32) from rfl, if_true, if_false]
    rw [show (4 : Int32) - 4 = nI 0 by decide, c_coins hP (show 0 ≤ 1 by omega), zbd_S]
    rfl
  · simp only [show ¬ nI 5 = (0 : Int32) by decide, show ¬ nI 5 = (1 : Int32) by decide, show ¬ nI 5 = (2 : Int32) by decide, show ¬ nI 5 = (3 : Int32) by decide, show ¬ nI 5 = (4 : Int32) by decide, show nI 5 = (5 : Int32) from rfl, if_true, if_false]
    rw [show (5 : Int32) - 4 = nI 1 by decide, c_coins hP (show 1 ≤ 1 by omega), zbd_S]
    rfl
  · simp only [show ¬ nI 6 = (0 : Int32) by decide, show ¬ nI 6 = (1 : Int32) by decide, show ¬ nI 6 = (2 : Int32) by decide, show ¬ nI 6 = (3 : Int32) by decide, show ¬ nI 6 = (4 : Int32) by decide, show ¬ nI 6 = (5 : Int32) by decide, show nI 6 = (6 : Int32) from rfl, if_true, if_false]
    rw [c_turns hP, zbd_S]
    rfl
  · simp only [show ¬ nI 7 = (0 : Int32) by decide, show ¬ nI 7 = (1 : Int32) by decide, show ¬ nI 7 = (2 : Int32) by decide, show ¬ nI 7 = (3 : Int32) by decide, show ¬ nI 7 = (4 : Int32) by decide, show ¬ nI 7 = (5 : Int32) by decide, show ¬ nI 7 = (6 : Int32) by decide, show nI 7 = (7 : Int32) from rfl, if_true, if_false]
    rw [c_mover hP, zbd_S]
    rfl
  · simp only [show ¬ nI 8 = (0 : Int32) by decide, show ¬ nI 8 = (1 : Int32) by decide, show ¬ nI 8 = (2 : Int32) by decide, show ¬ nI 8 = (3 : Int32) by decide, show ¬ nI 8 = (4 : Int32) by decide, show ¬ nI 8 = (5 : Int32) by decide, show ¬ nI 8 = (6 : Int32) by decide, show ¬ nI 8 = (7 : Int32) by decide, show nI 8 = (8 : Int32) from rfl, if_true, if_false]
    rw [c_ending hP, zbd_S]
    rfl
def yPiv (c d : Nat) : Int32 := ((yPic (yI (yPis c d) 1) (nI (yPiw c d)) (yI (ykk c) 3)).getD (0, 0)).2
theorem yPi_c : ∀ c, c < 29 → ∀ d, d < 3 → yPok c d = true → yPic (yI (yPis c d) 1) (nI (yPiw c d)) (yI (ykk c) 3) = some (0, yPiv c d) := by decide +kernel
theorem e_picture {f : Nat → Int64} {b : Nat → Nat} (hP : yP f b) (hv : yV b) {q : Nat} (hq : q < 36) : fX4_picture f (nI q) = some (0, yPiv (b q) (b (36 + q))) := by
  have hv2 := hv
  obtain ⟨v1, v2, v3, v4, -⟩ := hv2
  have hc28 := yV_28 hv hq
  have hok := yPok_of (by have := v1 q hq; omega) (v3 q hq) (v4 q hq)
  have hd := v2 q hq
  have k2 := yPi_c (b q) (by omega) (b (36 + q)) (by omega) hok
  unfold fX4_picture
  rw [e_sq q hq, zbd_S, if_pos rfl, c_sideOn hP hq, zbd_S, c_whatOn hP hq, zbd_S, c_kindOn hP hq]
  exact k2

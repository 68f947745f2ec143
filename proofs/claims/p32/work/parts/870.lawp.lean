/-! the law's method answers true -/
theorem e_l304 {xs : Nat → Int32} {L : Nat} {b : Nat → Nat} (hV : yV2 b) {fs : Nat → Int64} (hS : yP fs b) {rws : Nat → Int64} {nx ct : Int32} {c : Nat} {B : Nat → Nat → Nat} (h : yHc rws nx ct c B) (kE kR : Int32) (fb ft : Nat → Int64) (ch : Nat → Int32) :
    ∃ t, fL_law_304 xs L 1 kE kR fb ft fs rws nx ct ch 0 (ydg b) (nI (yps b)) 1 = some ((1 : Int32), t) := by
  unfold fL_law_304
  obtain ⟨fb1, e1, e2⟩ := eL_restore1 (fb := fb) hS ct
  rw [if_neg (show ¬ (1 : Int32) = 0 by decide), e1, zbd_S]
  try dsimp only
  rw [if_pos rfl, eL_digest e2 hV.1, zbd_S, if_pos ((zlc _ _).mpr rfl)]
  rcases eL_undo (e_forget h) fb1 with ⟨-, e⟩ | ⟨h0, -⟩
  · rw [e, zbd_S]
    try dsimp only
    rw [if_pos rfl]
    exact ⟨_, rfl⟩
  · omega
theorem e_l239 {xs : Nat → Int32} {L : Nat} {b : Nat → Nat} (hV : yV2 b) {fs : Nat → Int64} (hS : yP fs b) {rws : Nat → Int64} {nx ct : Int32} {c : Nat} {B : Nat → Nat → Nat} {fb : Nat → Int64} (h : yHc rws nx ct c B) (hP : yP fb b) (kE kR : Int32) (ft : Nat → Int64) (ch : Nat → Int32) :
    ∃ t, fL_law_239 xs L 1 kE kR fb ft fs rws nx ct ch 0 (ydg b) (nI (yps b)) 1 = some ((1 : Int32), t) := by
  unfold fL_law_239
  obtain ⟨fb1, rws1, nx1, ct1, c1, B1, e1, p1, h1, -, -⟩ := e_clear h hP hV
  rw [if_neg (show ¬ (1 : Int32) = 0 by decide), e1, zbd_S]
  try dsimp only
  rw [if_pos rfl, show fX4_account fb1 ct1 0 2 = some (0, nI (yac yb0 2)) from e_account p1 ct1 0 (show 2 < 9 by omega), zbd_S]
  try dsimp only
  obtain ⟨s1, s2, s3, es⟩ := eL_areSquares p1 yb0_U.1 ct1 0
  rw [if_pos rfl, show yac yb0 2 = 0 by decide +kernel, if_pos (show nI 0 = (0 : Int32) from rfl), es, zbd_S]
  try dsimp only
  obtain ⟨fb2, rws2, nx2, ct2, c2, B2, e2, p2, h2, -, -⟩ := e_start h1 p1 yb0_U
  rw [if_neg (show ¬ (1 : Int32) = 0 by decide), e2, zbd_S]
  try dsimp only
  obtain ⟨s4, s5, s6, es2⟩ := eL_areSquares p2 ySt_U.1 ct2 0
  rw [if_pos (show nI 12 = (12 : Int32) from rfl), es2, zbd_S]
  try dsimp only
  obtain ⟨kR', fb3, ft3, rws3, nx3, ct3, c3, B3, e3, p3, h3⟩ := eL_areMoves h2 p2 ySt_U kR 0 ft
  rw [if_neg (show ¬ (1 : Int32) = 0 by decide), show fL_areRooms fb2 ct2 0 0 = some 1 from eL_areRooms p2 ySt_U.1 ct2 0 (s := 0) (by omega), zbd_S, if_neg (show ¬ (1 : Int32) = 0 by decide), e3, zbd_S]
  try dsimp only
  rw [if_neg (show ¬ (1 : Int32) = 0 by decide)]
  exact e_l304 hV hS h3 kE kR' fb3 ft3 ch
theorem e_l213 {xs : Nat → Int32} {L : Nat} {b : Nat → Nat} (hV : yV2 b) {fs : Nat → Int64} (hS : yP fs b) {rws : Nat → Int64} {nx ct : Int32} {c : Nat} {B : Nat → Nat → Nat} {fb : Nat → Int64} (h : yHc rws nx ct c B) (hP : yP fb b) (kE kR : Int32) (ft : Nat → Int64) (ch : Nat → Int32) :
    ∃ t, fL_law_213 xs L 1 kE kR fb ft fs rws nx ct ch 0 1 (ydg b) (nI (yps b)) = some ((1 : Int32), t) := by
  unfold fL_law_213
  obtain ⟨kR', fb3, ft3, rws3, nx3, ct3, c3, B3, e3, p3, h3⟩ := eL_areMoves h hP hV kR 0 ft
  rw [if_neg (show ¬ (1 : Int32) = 0 by decide), e3, zbd_S]
  try dsimp only
  rw [if_neg (show ¬ (1 : Int32) = 0 by decide), eL_digest p3 hV.1, zbd_S, if_pos ((zlc _ _).mpr rfl)]
  exact e_l239 hV hS h3 p3 kE kR' ft3 ch
/-- the texts, one after another: none changes the board for good -/
theorem e_l132 {xs : Nat → Int32} {L : Nat} {b : Nat → Nat} (hV : yV2 b) {fs : Nat → Int64} (hS : yP fs b) : ∀ (d k n : Nat) (kE kR : Int32) (fb ft rws : Nat → Int64) (nx ct : Int32) (ch : Nat → Int32) (c : Nat) (B : Nat → Nat → Nat), k + d = 13 → d < n → yP fb b → yHc rws nx ct c B →
    ∃ t, fL_law_132 xs L n 1 kE kR fb ft fs rws nx ct ch 0 1 (ydg b) (nI (yps b)) (nI k) = some ((1 : Int32), t) := by
  intro d
  induction d with
  | zero =>
    intro k n kE kR fb ft rws nx ct ch c B hk hn hP h
    obtain ⟨n', rfl⟩ : ∃ n', n = n' + 1 := ⟨n - 1, by omega⟩
    rw [fL_law_132, if_neg (show ¬ (1 : Int32) = 0 by decide), if_pos (show (13 : Int32) ≤ nI k from nI_le (a := 13) (by omega) (by omega))]
    exact e_l213 hV hS h hP kE kR ft ch
  | succ d ih =>
    intro k n kE kR fb ft rws nx ct ch c B hk hn hP h
    obtain ⟨n', rfl⟩ : ∃ n', n = n' + 1 := ⟨n - 1, by omega⟩
    have hk13 : k < 13 := by omega
    obtain ⟨r, kE', kR', fb', ft', rws', nx', ct', ch', er, b', c', B', q1, q2, q3, q4, q5⟩ := eL_read_ h hP hV ft ch kE kR hk13
    rw [fL_law_132, if_neg (show ¬ (1 : Int32) = 0 by decide), if_neg (show ¬ (13 : Int32) ≤ nI k from nI_ge (b := 13) (by omega) (by omega)), eL_digest hP hV.1, zbd_S, zck_N (by omega) (by omega), tn_n (by omega), er, zbd_S]
    try dsimp only
    by_cases g : r = -100000000
    · have e := q4 g
      subst e
      rw [if_pos g, eL_digest q2 hV.1, zbd_S, if_pos ((zlc _ _).mpr rfl)]
      unfold fL_law_206
      rw [zbn_E, nI_1]
      exact ih (k + 1) n' kE' kR' fb' ft' rws' nx' ct' ch' c' B' (by omega) (by omega) q2 q3
    · obtain ⟨w1, w2, w3⟩ := q5 g
      have hc6 : c' ≤ 6 := by
        obtain ⟨_, _, hc, _⟩ := q3
        exact hc
      rcases eL_undo q3 fb' with ⟨z, -⟩ | ⟨-, nx2, fb2, e, p2, v2, h2⟩
      · omega
      · rw [w3] at p2 v2
        rw [if_neg g, e, zbd_S]
        try dsimp only
        rw [if_neg (nI_pos (by omega)), eL_digest p2 hV.1, zbd_S, if_pos ((zlc _ _).mpr rfl)]
        unfold fL_law_206
        rw [zbn_E, nI_1]
        exact ih (k + 1) n' kE' kR' fb2 ft' rws' nx2 (nI (c' - 1)) ch' (c' - 1) B' (by omega) (by omega) p2 h2
theorem e_l111 {xs : Nat → Int32} {L : Nat} {b : Nat → Nat} (hV : yV2 b) {rws : Nat → Int64} {nx ct : Int32} {c : Nat} {B : Nat → Nat → Nat} {fb : Nat → Int64} (h : yHc rws nx ct c B) (hP : yP fb b) (sv kE kR : Int32) (ft fs : Nat → Int64) (ch : Nat → Int32) :
    ∃ t, fL_law_111 xs L sv kE kR fb ft fs rws nx ct ch 0 1 = some ((1 : Int32), t) := by
  unfold fL_law_111
  obtain ⟨fs', es, ps⟩ := e_save (fs := fs) hP sv
  obtain ⟨kE', er⟩ := eL_read0 (rws := rws) (nx := nx) (ct := ct) (fb := fb) ft ch kE kR
  rw [eL_digest hP hV.1, zbd_S, es, zbd_S]
  try dsimp only
  rw [er, zbd_S]
  try dsimp only
  exact e_l132 hV ps 13 0 37 kE' kR fb ft rws nx ct ch c B (by omega) (by omega) hP h
/-- the calls of the script, one after another -/
theorem e_l40 {xs : Nat → Int32} {L : Nat} : ∀ (d a k n : Nat) (sv kE kR : Int32) (fb ft fs rws : Nat → Int64) (nx ct : Int32) (ch : Nat → Int32) (b : Nat → Nat) (c : Nat) (B : Nat → Nat → Nat), k + d = a → a ≤ 36 → d < n → eSv sv fs → yV2 b → yP fb b → yHc rws nx ct c B →
    ∃ t, fL_law_40 xs L n sv kE kR fb ft fs rws nx ct ch 0 (nI a) (nI k) = some ((1 : Int32), t) := by
  intro d
  induction d with
  | zero =>
    intro a k n sv kE kR fb ft fs rws nx ct ch b c B hk ha hn hS hV hP h
    obtain ⟨n', rfl⟩ : ∃ n', n = n' + 1 := ⟨n - 1, by omega⟩
    obtain ⟨s1, s2, s3, es⟩ := eL_areSquares hP hV.1 ct 0
    rw [fL_law_40, if_pos (nI_le (by omega) (by omega)), es, zbd_S]
    try dsimp only
    rw [if_neg (show ¬ (1 : Int32) = 0 by decide), show fL_areRooms fb ct 0 0 = some 1 from eL_areRooms hP hV.1 ct 0 (s := 0) (by omega), zbd_S, if_neg (show ¬ (1 : Int32) = 0 by decide), show fL_areRooms fb ct 0 1 = some 1 from eL_areRooms hP hV.1 ct 0 (s := 1) (by omega), zbd_S, if_neg (show ¬ (1 : Int32) = 0 by decide)]
    exact e_l111 hV h hP sv kE kR ft fs ch
  | succ d ih =>
    intro a k n sv kE kR fb ft fs rws nx ct ch b c B hk ha hn hS hV hP h
    obtain ⟨n', rfl⟩ : ∃ n', n = n' + 1 := ⟨n - 1, by omega⟩
    obtain ⟨r, sv', kE', kR', fb', ft', fs', rws', nx', ct', ch', er, ⟨b', c', B', q1, q2, q3, q4⟩, q5⟩ := eL_act h hP hV hS kE kR ft ch (fL_cell xs L (nI k))
    rw [fL_law_40, if_neg (nI_ge (by omega) (by omega)), eL_digest hP hV.1, zbd_S, zck_N (by omega) (by omega), er, zbd_S]
    try dsimp only
    by_cases g : r = -100000000
    · have e := q4 g
      subst e
      rw [if_pos g, eL_digest q2 hV.1, zbd_S, if_pos ((zlc _ _).mpr rfl)]
      unfold fL_law_77
      rw [zbn_E, nI_1]
      exact ih a (k + 1) n' sv' kE' kR' fb' ft' fs' rws' nx' ct' ch' b' c' B' (by omega) ha (by omega) q5 q1 q2 q3
    · rw [if_neg g]
      unfold fL_law_77
      rw [zbn_E, nI_1]
      exact ih a (k + 1) n' sv' kE' kR' fb' ft' fs' rws' nx' ct' ch' b' c' B' (by omega) ha (by omega) q5 q1 q2 q3
theorem e_l23 {xs : Nat → Int32} {L : Nat} (hL : L < 261) {b : Nat → Nat} (hV : yV2 b) {rws : Nat → Int64} {nx ct : Int32} {c : Nat} {B : Nat → Nat → Nat} {fb : Nat → Int64} (h : yHc rws nx ct c B) (hP : yP fb b) {sv : Int32} {fs : Nat → Int64} (hS : eSv sv fs) (kE kR : Int32) (ft : Nat → Int64) (ch : Nat → Int32) :
    ∃ t, fL_law_23 xs L sv kE kR fb ft fs rws nx ct ch 0 = some ((1 : Int32), t) := by
  unfold fL_law_23
  by_cases g : 36 ≤ L
  · rw [if_pos (show (36 : Int32) ≤ Int32.ofNat L from nI_le (a := 36) (by omega) (by omega))]
    unfold fL_law_37
    exact e_l40 36 36 0 37 sv kE kR fb ft fs rws nx ct ch b c B (by omega) (by omega) (by omega) hS hV hP h
  · rw [if_neg (show ¬ (36 : Int32) ≤ Int32.ofNat L from nI_ge (b := 36) (by omega) (by omega))]
    unfold fL_law_37
    exact e_l40 L L 0 37 sv kE kR fb ft fs rws nx ct ch b c B (by omega) (by omega) (by omega) hS hV hP h
/-- every script's answer is true -/
theorem e_law {xs : Nat → Int32} {L : Nat} (hL : L < 261) {fb : Nat → Int64} (hP : yP fb yb0) (kE kR : Int32) (ft fs : Nat → Int64) (rws : Nat → Int64) (ch : Nat → Int32) :
    ∃ t, fL_law_8 xs L 0 kE kR fb ft fs rws 0 0 ch 0 = some ((1 : Int32), t) := by
  have h : yHc rws 0 0 0 (fun _ => yb0) := ⟨0, by omega, by omega, rfl, rfl, fun i hi => absurd hi (by omega)⟩
  unfold fL_law_8
  rw [show zin (1 : Int32) 37 = true from rfl, zck_T]
  by_cases g : fL_cell xs L (1 : Int32) &&& (1 : Int32) = 0
  · obtain ⟨fb2, rws2, nx2, ct2, c2, B2, e2, p2, h2, -, -⟩ := e_start h hP yb0_U
    rw [if_pos g, e2, zbd_S]
    try dsimp only
    exact e_l23 hL ySt_U h2 p2 (Or.inl rfl) kE kR ft ch
  · rw [if_neg g]
    exact e_l23 hL yb0_U h hP (Or.inl rfl) kE kR ft ch

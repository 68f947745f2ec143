/-! PURE 41: read -/
theorem c_isTurn1 {ch text : Nat → Int32} {c : Nat → Nat} {L : Nat} (h : yTx ch text c L) {i : Nat} (hi : i < L) (g : i = 0 ∨ c (i - 1) = 59) : fX1_isTurnAt ch (nI L) (nI i) = some 1 := by
  have hL := h.1
  unfold fX1_isTurnAt
  by_cases k : i = 0
  · rw [if_pos ((nI_z (by omega)).mpr k)]
  · rw [if_neg (fun z => k ((nI_z (by omega)).mp z)), show nI i - (1 : Int32) = nI (i - 1) from pk_sub (a := i) (b := 1) (by omega), c_at h (show i - 1 < L by omega), zbd_S, g.resolve_left k, if_pos (show nI 59 = (59 : Int32) from rfl)]
theorem c_isTurn0 {ch text : Nat → Int32} {c : Nat → Nat} {L : Nat} (h : yTx ch text c L) {i : Nat} (hi : i < L) (k : ¬ i = 0) (g : ¬ c (i - 1) = 59) : fX1_isTurnAt ch (nI L) (nI i) = some 0 := by
  have hL := h.1
  have hc := (h.2 (i - 1) (by omega)).1
  have h59 : ∀ x, x < 127 → ¬ x = 59 → ¬ nI x = (59 : Int32) := by decide +kernel
  unfold fX1_isTurnAt
  rw [if_neg (fun z => k ((nI_z (by omega)).mp z)), show nI i - (1 : Int32) = nI (i - 1) from pk_sub (a := i) (b := 1) (by omega), c_at h (show i - 1 < L by omega), zbd_S, if_neg (h59 _ hc g)]
/-- the class passes over signs within a turn -/
theorem c_rskip {ch text : Nat → Int32} {c : Nat → Nat} {L : Nat} (h : yTx ch text c L) (kE kR nx ct : Int32) (fb ft rws : Nat → Int64) : ∀ d i n, 0 < i → i + d ≤ L → (∀ j, i ≤ j → j < i + d → ¬ c (j - 1) = 59) → fX4_read_50 ch (n + d) kE kR fb ft rws nx ct (nI L) 0 (nI i) = fX4_read_50 ch n kE kR fb ft rws nx ct (nI L) 0 (nI (i + d)) := by
  have hL := h.1
  intro d
  induction d with
  | zero => intro i n h1 h2 h3; rfl
  | succ d ih =>
    intro i n h1 h2 h3
    rw [show n + (d + 1) = n + d + 1 by omega, fX4_read_50]
    unfold fX1_length
    rw [zbd_S, if_neg (nI_ge (show i < L by omega) (by omega)), if_pos rfl, c_isTurn0 h (show i < L by omega) (by omega) (h3 i (by omega) (by omega)), zbd_S, if_pos rfl]
    unfold fX4_read_82
    rw [zbn_E, nI_1]
    dsimp only
    rw [ih (i + 1) n (by omega) (by omega) (fun j j1 j2 => h3 j (by omega) (by omega)), show i + 1 + d = i + (d + 1) by omega]
/-- no sign of a turn ends it -/
theorem yTr_59 {c : Nat → Nat} {L a a' : Nat} (h : yTr c L a a') : a + 3 ≤ a' ∧ a' ≤ L ∧ ∀ j, a < j → j ≤ a' → ¬ c (j - 1) = 59 := by
  rcases h with ⟨⟨g1, g2, g3, g4⟩, rfl⟩ | ⟨⟨g1, g2, g3, g4, g5, g6⟩, rfl⟩
  · have h3 := yCo_n g3
    have h4 := yRo_n g4
    refine ⟨by omega, g1, fun j j1 j2 => ?_⟩
    rcases (show j - 1 = a ∨ j - 1 = a + 1 ∨ j - 1 = a + 2 by omega) with e | e | e <;> rw [e] <;> omega
  · have h2 := yCo_n g2
    have h3 := yRo_n g3
    have h5 := yCo_n g5
    have h6 := yRo_n g6
    refine ⟨by omega, g1, fun j j1 j2 => ?_⟩
    rcases (show j - 1 = a ∨ j - 1 = a + 1 ∨ j - 1 = a + 2 ∨ j - 1 = a + 3 ∨ j - 1 = a + 4 by omega) with e | e | e | e | e <;> rw [e] <;> omega
theorem t_read_l {ch text : Nat → Int32} {c : Nat → Nat} {L : Nat} (h : yTx ch text c L) (kE kR nx ct kept eP reason detail : Int32) (fb rws : Nat → Int64) (hist : Nat → Nat → Int32) (before : Nat → Int32) (M : Nat) (hM : M < 1000) : ∀ m a k n n2 (ft : Nat → Int64) (now comes queue far : Nat → Int32) (b : Nat → Nat) (tf tt : Int32), yWh c L m a → (a = 0 ∨ c (a - 1) = 59) → k + m = M → L - a < n → m < n2 → yP ft b → yN now b → yV2 b →
    (∃ (ft' : Nat → Int64) (now' c' q' f' : Nat → Int32) (b' : Nat → Nat) (at_ tf' tt' : Int32), yP ft' b' ∧ yN now' b' ∧ yV2 b' ∧ b' 74 = b 74 + m ∧ fX4_read_50 ch n kE kR fb ft rws nx ct (nI L) 0 (nI a) = fX4_read_88 ch kE kR fb ft' rws nx ct (nI L) 0 ∧ fX5_read_71 text n2 0 now hist kept reason detail comes queue far 1 (nI L) (nI a) eP tf tt 0 before (nI M) 1 (nI k) = fX5_read_117 text 0 now' hist kept reason detail c' q' f' 1 (nI L) at_ eP tf' tt' 0 before (nI M) 1) ∨
    (∃ (ref r' d' : Int32) (ft' : Nat → Int64) (now' c' q' f' : Nat → Int32) (at_ tf' tt' : Int32), ¬ ref = 0 ∧ yK ref r' d' ∧ fX4_read_50 ch n kE kR fb ft rws nx ct (nI L) 0 (nI a) = fX4_read_88 ch kE kR fb ft' rws nx ct (nI L) ref ∧ fX5_read_71 text n2 0 now hist kept reason detail comes queue far 1 (nI L) (nI a) eP tf tt 0 before (nI M) 1 (nI k) = fX5_read_117 text 2 now' hist kept r' d' c' q' f' 1 (nI L) at_ eP tf' tt' 0 before (nI M) 0) := by
  have hL := h.1
  intro m
  induction m with
  | zero => intro a k n n2 ft now comes queue far b tf tt hw; exact hw.elim
  | succ m ih =>
    intro a k n n2 ft now comes queue far b tf tt hw ha hk hn hn2 hP hN hV
    obtain ⟨a', htr, hrest⟩ := hw
    obtain ⟨t1, t2, t3⟩ := yTr_59 htr
    obtain ⟨ref, thrown', r', d', sg, tf', tt', ft', now', c', q', f', b', e1, e2, e3, e4⟩ := t_turn h htr hP hN hV 0 reason detail kept tf tt hist comes queue far
    obtain ⟨n', rfl⟩ : ∃ n', n = n' + 1 := ⟨n - 1, by omega⟩
    obtain ⟨n2', rfl⟩ : ∃ n2', n2 = n2' + 1 := ⟨n2 - 1, by omega⟩
    rw [fX4_read_50, fX5_read_71]
    unfold fX1_length
    rw [zbd_S, if_neg (nI_ge (show a < L by omega) (by omega)), if_pos rfl, c_isTurn1 h (show a < L by omega) ha, zbd_S, if_neg (show ¬ (1 : Int32) = 0 by decide), e1, zbd_S, if_neg (nI_ge (show k < M by omega) (by omega)), if_neg (show ¬ (1 : Int32) = 0 by decide), e2, zbd_S]
    dsimp only
    rw [e3, zbd_S]
    dsimp only
    unfold fX4_read_82 fX5_read_110
    rw [zbn_E, zbn_E, zbn_E, nI_1, nI_1, nI_1]
    dsimp only
    rcases e4 with ⟨rfl, rfl, rfl, rfl, f1, f2, f3, f4⟩ | ⟨z1, rfl, z2⟩
    · rw [if_pos rfl]
      rcases hrest with ⟨g1, g2⟩ | ⟨g1, g2, g3⟩
      · refine Or.inl ⟨ft', now', c', q', f', b', nI (a' + 1), tf', tt', f1, f2, f3, by omega, ?_, ?_⟩
        · have := c_rskip h kE kR nx ct fb ft' rws (L - (a + 1)) (a + 1) (n' - (L - (a + 1))) (by omega) (by omega) (fun j j1 j2 => t3 j (by omega) (by omega))
          rw [show n' - (L - (a + 1)) + (L - (a + 1)) = n' by omega, show a + 1 + (L - (a + 1)) = L by omega] at this
          rw [this]
          obtain ⟨w, hw⟩ : ∃ w, n' - (L - (a + 1)) = w + 1 := ⟨n' - (L - (a + 1)) - 1, by omega⟩
          rw [hw, fX4_read_50]
          unfold fX1_length
          rw [zbd_S, if_pos (nI_le (Nat.le_refl _) (by omega))]
        · obtain ⟨w, hw⟩ : ∃ w, n2' = w + 1 := ⟨n2' - 1, by omega⟩
          rw [hw, fX5_read_71, if_pos (nI_le (by omega) (by omega))]
      · have := c_rskip h kE kR nx ct fb ft' rws (a' - a) (a + 1) (n' - (a' - a)) (by omega) (by omega) (fun j j1 j2 => t3 j (by omega) (by omega))
        rw [show n' - (a' - a) + (a' - a) = n' by omega, show a + 1 + (a' - a) = a' + 1 by omega] at this
        rw [this]
        rcases ih (a' + 1) (k + 1) (n' - (a' - a)) n2' ft' now' c' q' f' b' tf' tt' g3 (Or.inr g2) (by omega) (by omega) (by omega) f1 f2 f3 with ⟨ft2, now2, c2, q2, f2, b2, at2, tf2, tt2, w1, w2, w3, w4, w5, w6⟩ | ⟨ref2, r2, d2, ft2, now2, c2, q2, f2, at2, tf2, tt2, w1, w2, w3, w4⟩
        · exact Or.inl ⟨ft2, now2, c2, q2, f2, b2, at2, tf2, tt2, w1, w2, w3, by omega, w5, w6⟩
        · exact Or.inr ⟨ref2, r2, d2, ft2, now2, c2, q2, f2, at2, tf2, tt2, w1, w2, w3, w4⟩
    · rw [if_neg (show ¬ (2 : Int32) = 0 by decide)]
      obtain ⟨w, rfl⟩ : ∃ w, n' = w + 1 := ⟨n' - 1, by omega⟩
      obtain ⟨w2, rfl⟩ : ∃ w2, n2' = w2 + 1 := ⟨n2' - 1, by omega⟩
      refine Or.inr ⟨ref, r', d', ft', now', c', q', f', nI (a' + 1), tf', tt', z1, z2, ?_, ?_⟩
      · rw [fX4_read_50]
        unfold fX1_length
        rw [zbd_S, if_neg (nI_ge (show a + 1 < L by omega) (by omega)), if_neg z1]
      · rw [fX5_read_71, if_pos rfl]
        split <;> rfl
/-- read -/
theorem q_read {ch text : Nat → Int32} {c : Nat → Nat} {L : Nat} (h : yTx ch text c L) {rws : Nat → Int64} {nx ct kept kR reason detail : Int32} {hist : Nat → Nat → Int32} {fb : Nat → Int64} {now : Nat → Int32} {b : Nat → Nat} (hH : yH rws nx ct hist kept) (hP : yP fb b) (hN : yN now b) (hV : yV2 b) (hK : yK kR reason detail) (ft : Nat → Int64) (thrown kE tf tt at_ wr : Int32) (comes queue far before : Nat → Int32) (hE : kE = -1 ∨ ∃ j, j < 100 ∧ kE = nI j) :
    ∃ (o : Nat) (t x y kE' kR' nx' ct' ln' reason' detail' at' tf' tt' wr' it' : Int32) (fb' ft' rws' : Nat → Int64) (now' c' q' f' before' : Nat → Int32) (hist' : Nat → Nat → Int32) (b' : Nat → Nat), fX4_read kE kR fb ft rws nx ct ch (nI L) = some (o, x, kE', kR', fb', ft', rws', nx', ct', ln') ∧
      fX5_read thrown now hist kept reason detail comes queue far 0 text (nI L) at_ kE tf tt wr before = some (y, t, now', hist', ct', reason', detail', c', q', f', it', ln', at', kE', tf', tt', wr', before') ∧
      ((o = 0 ∧ t = 0 ∧ x = y) ∨ (o = 2 ∧ t = 1) ∨ (o = 4 ∧ t = 2)) ∧ ln' = 0 ∧ it' = 0 ∧ (kE' = -1 ∨ ∃ j, j < 100 ∧ kE' = nI j) ∧ yH rws' nx' ct' hist' ct' ∧ yP fb' b' ∧ yN now' b' ∧ yV2 b' ∧ yK kR' reason' detail' := by
  have hL := h.1
  have hct : ct = kept := by
    obtain ⟨x, c, B, _, _, _, e1, e2, _⟩ := hH
    rw [e1, e2]
  subst hct
  have hn1 : ∀ q, q < 100 → ¬ nI q = -1 := by decide +kernel
  rcases m_ct h 61 0 tf tt 1 zFu zFu (by omega) (by omega) (by unfold zFu; omega) (by unfold zFu; omega) with ⟨e, x, tf', tt', q1, q2, q3⟩ | ⟨m, tf', tt', q1, q2, q3, q4⟩
  · have e1 : fX1_firstError ch (nI L) = some (nI e) := q3
    have e2 : fX5_countTurns text (nI L) at_ tf tt wr = some (x, nI e, tf', tt', 1) := q2
    unfold fX4_read fX5_read
    rw [e1, zbd_S, if_neg (hn1 e (by omega)), e2, zbd_S]
    dsimp only
    rw [if_neg (show ¬ (1 : Int32) = 0 by decide)]
    unfold fX5_read_24 fX1_empty
    rw [m_fails1, zbd_S, zbd_S]
    dsimp only
    rw [if_neg (show ¬ (1 : Int32) = 0 by decide)]
    exact ⟨_, _, _, _, _, _, _, _, _, _, _, _, _, _, _, _, _, _, _, _, _, _, _, _, _, b, rfl, rfl, Or.inr (Or.inl ⟨rfl, rfl⟩), rfl, rfl, Or.inr ⟨e, by omega, rfl⟩, hH, hP, hN, hV, hK⟩
  · have e1 : fX1_firstError ch (nI L) = some (-1) := q4
    have e2 : fX5_countTurns text (nI L) at_ tf tt wr = some (nI (1 + m), nI L, tf', tt', 0) := q3
    obtain ⟨ft1, c1, c2⟩ := c_copy (f := ft) hP
    obtain ⟨bf, b1, b2⟩ := m_copyN hN before
    have e3 : fX4_read kE kR fb ft rws nx ct ch (nI L) = fX4_read_50 ch zFu kE kR fb ft1 rws nx ct (nI L) 0 0 := by
      unfold fX4_read
      rw [e1, zbd_S, if_pos rfl, c1, zbd_S]
    have e4 : fX5_read thrown now hist ct reason detail comes queue far 0 text (nI L) at_ kE tf tt wr before = fX5_read_71 text zFu 0 now hist ct reason detail comes queue far 1 (nI L) 0 kE tf' tt' 0 bf (nI (1 + m)) 1 0 := by
      unfold fX5_read
      rw [e2, zbd_S]
      dsimp only
      rw [if_pos rfl]
      unfold fX5_read_24
      rw [m_fails0, zbd_S]
      dsimp only
      rw [if_pos rfl, b1, zbd_S]
    rw [e3, e4]
    rcases t_read_l h kE kR nx ct ct kE reason detail fb rws hist bf (1 + m) (by omega) (m + 1) 0 0 zFu zFu ft1 now comes queue far b tf' tt' q2 (Or.inl rfl) (by omega) (by unfold zFu; omega) (by unfold zFu; omega) c2 hN hV with ⟨ft2, now2, c2', q2', f2, bb, at2, tf2, tt2, w1, w2, w3, w4, w5, w6⟩ | ⟨ref2, r2, d2, ft2, now2, c2', q2', f2, at2, tf2, tt2, w1, w2, w3, w4⟩
    · rw [show fX4_read_50 ch zFu kE kR fb ft1 rws nx ct (nI L) 0 0 = _ from w5, show fX5_read_71 text zFu 0 now hist ct reason detail comes queue far 1 (nI L) 0 kE tf' tt' 0 bf (nI (1 + m)) 1 0 = _ from w6]
      obtain ⟨rws', nx', ct', hist', r1, r2, r3⟩ := y_remember hH hP b2 hV
      obtain ⟨fb1, g1, g2⟩ := c_copy (f := fb) w1
      unfold fX4_read_88 fX1_empty fX4_requireTaken fX5_read_117
      rw [zbd_S, if_pos rfl, zbd_S]
      dsimp only
      rw [if_pos rfl, c_turns w1, zbd_S, c_turns hP, zbd_S, zbn_E, r1, zbd_S, g1, zbd_S, if_neg (show ¬ (1 : Int32) = 0 by decide)]
      unfold fX5_read_138
      rw [m_fails0, zbd_S]
      dsimp only
      rw [if_pos rfl, y_vbefore, r2, zbd_S, w4, show nI (b 74 + (m + 1)) - nI (b 74) = nI (1 + m) by rw [pk_sub (by omega), show b 74 + (m + 1) - b 74 = 1 + m by omega]]
      exact ⟨_, _, _, _, _, _, _, _, _, _, _, _, _, _, _, _, _, _, _, _, _, _, _, _, _, bb, rfl, rfl, Or.inl ⟨rfl, rfl, rfl⟩, rfl, rfl, hE, r3, g2, w2, w3, hK⟩
    · rw [show fX4_read_50 ch zFu kE kR fb ft1 rws nx ct (nI L) 0 0 = _ from w3, show fX5_read_71 text zFu 0 now hist ct reason detail comes queue far 1 (nI L) 0 kE tf' tt' 0 bf (nI (1 + m)) 1 0 = _ from w4]
      obtain ⟨n3, g1, g2⟩ := m_copyN b2 now2
      unfold fX4_read_88 fX1_empty fX4_requireTaken fX5_read_117
      rw [zbd_S, if_neg w1, zbd_S]
      dsimp only
      rw [if_neg (show ¬ (4 : Nat) = 0 by decide), if_pos rfl]
      unfold fX5_read_138
      rw [m_fails1, zbd_S]
      dsimp only
      rw [if_neg (show ¬ (1 : Int32) = 0 by decide), g1, zbd_S]
      exact ⟨_, _, _, _, _, _, _, _, _, _, _, _, _, _, _, _, _, _, _, _, _, _, _, _, _, b, rfl, rfl, Or.inr (Or.inr ⟨rfl, rfl⟩), rfl, rfl, hE, hH, hP, g2, hV, w2⟩

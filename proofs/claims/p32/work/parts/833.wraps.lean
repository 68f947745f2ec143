/-! THE LAW'S SMALL METHODS ON A BOARD -/
theorem eRf : ∀ n, n < 5000 → ¬ nI n = -100000000 := by
  intro n hn h
  have h1 := congrArg Int32.toInt h
  rw [nI_toInt (by omega)] at h1
  have h2 : ((-100000000 : Int32)).toInt = -100000000 := by decide
  omega
/-- what a call leaves: refused, the board as it was; else the board ahead of it can be brought back -/
def eQ (b : Nat → Nat) (r : Int32) (fb' rws' : Nat → Int64) (nx' ct' : Int32) : Prop :=
  ∃ (b' : Nat → Nat) (c' : Nat) (B' : Nat → Nat → Nat), yV2 b' ∧ yP fb' b' ∧ yHc rws' nx' ct' c' B' ∧ (r = -100000000 → b' = b) ∧ (¬ r = -100000000 → 0 ≤ r ∧ 0 < c' ∧ B' (c' - 1) = b)
theorem eQ_0 {b : Nat → Nat} {c : Nat} {B : Nat → Nat → Nat} {x : Int32} {fb' rws' : Nat → Int64} {nx' ct' : Int32} (h : eO b c B 0 x fb' rws' nx' ct') : eQ b x fb' rws' nx' ct' := by
  rcases h with ⟨-, ⟨n, hn, rfl⟩, b', c', B', h1, h2, h3, h4, h5⟩ | ⟨h1, -⟩
  · exact ⟨b', c', B', h1, h2, h3, fun z => absurd z (eRf n hn), fun _ => ⟨nI_pos' (by omega), h4, h5⟩⟩
  · omega
theorem eQ_r {b : Nat → Nat} {c : Nat} {B : Nat → Nat → Nat} {o : Nat} {x : Int32} {fb' rws' : Nat → Int64} {nx' ct' : Int32} (hV : yV2 b) (h : eO b c B o x fb' rws' nx' ct') (ho : o ≠ 0) : eQ b (-100000000) fb' rws' nx' ct' := by
  rcases h with ⟨h0, -⟩ | ⟨h1, h2, h3⟩
  · exact absurd h0 ho
  · exact ⟨b, c, B, hV, h2, h3, fun _ => rfl, fun z => absurd rfl z⟩
theorem eL_lay {rws : Nat → Int64} {nx ct : Int32} {c : Nat} {B : Nat → Nat → Nat} {fb : Nat → Int64} {b : Nat → Nat} (h : yHc rws nx ct c B) (hP : yP fb b) (hV : yV2 b) {s k q : Nat} (hs : s ≤ 1) (hk : k ≤ 3) (hq : q < 36) :
    ∃ r fb' rws' nx' ct', fL_lay fb rws nx ct (nI s) (nI k) (nI q) = some (r, fb', rws', nx', ct') ∧ eQ b r fb' rws' nx' ct' := by
  obtain ⟨o, x, fb', rws', nx', ct', e, g, ho⟩ := e_lay h hP hV hs hk hq
  unfold fL_lay
  rw [e, zbd_S]
  dsimp only
  rcases ho with rfl | rfl
  · rw [if_pos rfl]
    exact ⟨_, _, _, _, _, rfl, eQ_0 g⟩
  · rw [if_neg (by decide), if_neg (by decide), if_neg (by decide), if_pos rfl]
    exact ⟨_, _, _, _, _, rfl, eQ_r hV g (by decide)⟩
theorem eL_wall {rws : Nat → Int64} {nx ct : Int32} {c : Nat} {B : Nat → Nat → Nat} {fb : Nat → Int64} {b : Nat → Nat} (h : yHc rws nx ct c B) (hP : yP fb b) (hV : yV2 b) {q : Nat} (hq : q < 36) :
    ∃ r fb' rws' nx' ct', fL_wall fb rws nx ct (nI q) = some (r, fb', rws', nx', ct') ∧ eQ b r fb' rws' nx' ct' := by
  obtain ⟨o, x, fb', rws', nx', ct', e, g, ho⟩ := e_wall h hP hV hq
  unfold fL_wall
  rw [e, zbd_S]
  dsimp only
  rcases ho with rfl | rfl
  · rw [if_pos rfl]
    exact ⟨_, _, _, _, _, rfl, eQ_0 g⟩
  · rw [if_neg (by decide), if_neg (by decide), if_pos rfl]
    exact ⟨_, _, _, _, _, rfl, eQ_r hV g (by decide)⟩
theorem eL_move {rws : Nat → Int64} {nx ct : Int32} {c : Nat} {B : Nat → Nat → Nat} {fb : Nat → Int64} {b : Nat → Nat} (h : yHc rws nx ct c B) (hP : yP fb b) (hV : yV2 b) (kR : Int32) {p t : Nat} (hp : p < 36) (ht : t < 36) :
    ∃ r kR' fb' rws' nx' ct', fL_move kR fb rws nx ct (nI p) (nI t) = some (r, kR', fb', rws', nx', ct') ∧ eQ b r fb' rws' nx' ct' := by
  obtain ⟨o, x, kR', fb', rws', nx', ct', e, g, ho, -⟩ := e_move (kR := kR) h hP hV hp ht
  unfold fL_move
  rw [e, zbd_S]
  dsimp only
  rcases ho with rfl | rfl
  · rw [if_pos rfl]
    exact ⟨_, _, _, _, _, _, rfl, eQ_0 g⟩
  · rw [if_neg (by decide), if_neg (by decide), if_pos rfl]
    exact ⟨_, _, _, _, _, _, rfl, eQ_r hV g (by decide)⟩
/-- a move that can be made -/
theorem eL_moveV {rws : Nat → Int64} {nx ct : Int32} {c : Nat} {B : Nat → Nat → Nat} {fb : Nat → Int64} {b : Nat → Nat} (h : yHc rws nx ct c B) (hP : yP fb b) (hV : yV2 b) (kR : Int32) {p t : Nat} (hp : p < 36) (ht : t < 36) (h0 : b 75 = 0) (hc : ycd b p t = true) :
    ∃ kR' fb' rws' nx' ct' c' B', fL_move kR fb rws nx ct (nI p) (nI t) = some (nI (fb_ct (yCs b p t) 36), kR', fb', rws', nx', ct') ∧ yP fb' (ytm b p t) ∧ yV2 (ytm b p t) ∧ yHc rws' nx' ct' c' B' ∧ 0 < c' ∧ B' (c' - 1) = b := by
  obtain ⟨o, x, kR', fb', rws', nx', ct', e, g, ho, hx⟩ := e_move (kR := kR) h hP hV hp ht
  obtain ⟨rfl, rfl, x3, x4⟩ := hx h0 hc
  unfold fL_move
  rw [e, zbd_S]
  dsimp only
  rw [if_pos rfl]
  rcases g with ⟨-, -, b', c', B', g1, g2, g3, g4, g5⟩ | ⟨g1, -⟩
  · exact ⟨_, _, _, _, _, c', B', rfl, x3, x4, g3, g4, g5⟩
  · omega
theorem eL_door {rws : Nat → Int64} {nx ct : Int32} {c : Nat} {B : Nat → Nat → Nat} {fb : Nat → Int64} {b : Nat → Nat} (h : yHc rws nx ct c B) (hP : yP fb b) (hV : yV2 b) (kR : Int32) {q : Nat} (hq : q < 36) :
    ∃ r kR' fb' rws' nx' ct', fL_door kR fb rws nx ct (nI q) = some (r, kR', fb', rws', nx', ct') ∧ eQ b r fb' rws' nx' ct' := by
  obtain ⟨o, x, kR', fb', rws', nx', ct', e, g, ho⟩ := e_door (kR := kR) h hP hV hq
  unfold fL_door
  rw [e, zbd_S]
  dsimp only
  rcases ho with rfl | rfl
  · rw [if_pos rfl]
    exact ⟨_, _, _, _, _, _, rfl, eQ_0 g⟩
  · rw [if_neg (by decide), if_neg (by decide), if_pos rfl]
    exact ⟨_, _, _, _, _, _, rfl, eQ_r hV g (by decide)⟩
theorem eL_buy {rws : Nat → Int64} {nx ct : Int32} {c : Nat} {B : Nat → Nat → Nat} {fb : Nat → Int64} {b : Nat → Nat} (h : yHc rws nx ct c B) (hP : yP fb b) (hV : yV2 b) (kR : Int32) {q : Nat} (hq : q < 36) :
    ∃ r kR' fb' rws' nx' ct', fL_buy kR fb rws nx ct (nI q) = some (r, kR', fb', rws', nx', ct') ∧ eQ b r fb' rws' nx' ct' := by
  obtain ⟨o, x, kR', fb', rws', nx', ct', e, g, ho⟩ := e_buy (kR := kR) h hP hV hq
  unfold fL_buy
  rw [e, zbd_S]
  dsimp only
  rcases ho with rfl | rfl
  · rw [if_pos rfl]
    exact ⟨_, _, _, _, _, _, rfl, eQ_0 g⟩
  · rw [if_neg (by decide), if_neg (by decide), if_pos rfl]
    exact ⟨_, _, _, _, _, _, rfl, eQ_r hV g (by decide)⟩
theorem eL_undo {rws : Nat → Int64} {nx ct : Int32} {c : Nat} {B : Nat → Nat → Nat} (h : yHc rws nx ct c B) (fb : Nat → Int64) :
    (c = 0 ∧ fL_undo fb rws nx ct = some (-100000000, fb, nx, ct)) ∨ (0 < c ∧ ∃ nx' f', fL_undo fb rws nx ct = some (nI (c - 1), f', nx', nI (c - 1)) ∧ yP f' (B (c - 1)) ∧ yV2 (B (c - 1)) ∧ yHc rws nx' (nI (c - 1)) (c - 1) B) := by
  unfold fL_undo
  rcases e_undo h fb with ⟨h0, e⟩ | ⟨h0, nx', f', e, e2, e3, e4⟩
  · rw [e, zbd_S]
    dsimp only
    rw [if_neg (by decide), if_pos rfl]
    exact Or.inl ⟨h0, rfl⟩
  · rw [e, zbd_S]
    dsimp only
    rw [if_pos rfl]
    exact Or.inr ⟨h0, nx', f', rfl, e2, e3, e4⟩
/-- what is saved -/
def eSv (sv : Int32) (fs : Nat → Int64) : Prop := sv = 0 ∨ (sv = 1 ∧ ∃ bs, yV2 bs ∧ yP fs bs)
theorem eL_restore1 {fb fs : Nat → Int64} {bs : Nat → Nat} (hP : yP fs bs) (ct : Int32) : ∃ fb', fL_restore 1 fb fs ct = some (nI (yps bs), fb', 0) ∧ yP fb' bs := by
  obtain ⟨fb', e1, e2⟩ := e_restore (fb := fb) hP ct
  refine ⟨fb', ?_, e2⟩
  unfold fL_restore
  rw [e1, zbd_S]
  dsimp only
  rw [if_pos rfl]
theorem eL_restore0 (fb fs : Nat → Int64) (ct : Int32) : fL_restore 0 fb fs ct = some (-100000000, fb, ct) := rfl
theorem eL_read0 {rws : Nat → Int64} {nx ct : Int32} {fb : Nat → Int64} (ft : Nat → Int64) (ch : Nat → Int32) (kE kR : Int32) :
    ∃ kE', fL_read kE kR fb ft rws nx ct ch 0 = some (-100000000, kE', kR, fb, ft, rws, nx, ct, 0) := by
  have h : yTx ch ch (fun _ => 0) 0 := ⟨by omega, fun j hj => absurd hj (by omega)⟩
  have e1 : fX1_firstError ch 0 = some (yfe (fun _ => 0) 0 0 0 0) := e_fe h 0 0 0 zFu (by omega) (by omega) (by unfold zFu; omega)
  have e2 : yfe (fun _ => 0) 0 0 0 0 = nI 0 := by decide
  refine ⟨nI 0, ?_⟩
  unfold fL_read fX4_read
  rw [e1, e2, zbd_S, if_neg (show ¬ nI 0 = -1 by decide)]
  unfold fX1_empty
  rw [zbd_S, zbd_S]
  rfl
theorem yTx_c {ch : Nat → Int32} {c c' : Nat → Nat} {L : Nat} (h : yTx ch ch c L) (e : ∀ i, i < L → c i = c' i) : yTx ch ch c' L := ⟨h.1, fun j hj => by rw [← e j hj]; exact h.2 j hj⟩
theorem eL_read_ {rws : Nat → Int64} {nx ct : Int32} {c : Nat} {B : Nat → Nat → Nat} {fb : Nat → Int64} {b : Nat → Nat} (h : yHc rws nx ct c B) (hP : yP fb b) (hV : yV2 b) (ft : Nat → Int64) (ch : Nat → Int32) (kE kR : Int32) {j : Nat} (hj : j < 13) :
    ∃ r kE' kR' fb' ft' rws' nx' ct' ch', fL_read_ (zTb j) kE kR fb ft rws nx ct ch 0 = some (r, kE', kR', fb', ft', rws', nx', ct', ch', 0) ∧ eQ b r fb' rws' nx' ct' := by
  obtain ⟨t1, t2, t3⟩ := e_tx1 j hj
  have hl : ∀ d k n ch, k + d = (zTb j).length → d < n → yTx ch ch (yTc j) k → ∃ r kE' kR' fb' ft' rws' nx' ct' ch', fL_read__2 (zTb j) n kE kR fb ft rws nx ct ch (nI k) (nI k) = some (r, kE', kR', fb', ft', rws', nx', ct', ch', 0) ∧ eQ b r fb' rws' nx' ct' := by
    intro d
    induction d with
    | zero =>
      intro k n ch hk hn hT
      obtain ⟨n', rfl⟩ : ∃ n', n = n' + 1 := ⟨n - 1, by omega⟩
      have ek : k = (zTb j).length := by omega
      subst ek
      have he : (yfe (yTc j) (zTb j).length (zTb j).length 0 0 = -1 → yWh (yTc j) (zTb j).length (yTm j) 0) ∧ (yfe (yTc j) (zTb j).length (zTb j).length 0 0 = -1 ∨ ∃ e, e < 100 ∧ yfe (yTc j) (zTb j).length (zTb j).length 0 0 = nI e) := by
        rcases e_tx2 j hj with ⟨g1, g2⟩ | ⟨g1, g2⟩
        · exact ⟨fun _ => yWb_h (e_tx3 j hj g2), Or.inl g1⟩
        · have h9 : (zTb j).length - 1 + (if j = 6 then 1 else 0) < 100 := by split <;> omega
          exact ⟨fun z => absurd (g1.symm.trans z) (e_n1 _ h9), Or.inr ⟨_, h9, g1⟩⟩
      obtain ⟨o, x, kE', kR', fb', ft', rws', nx', ct', e, g, ho⟩ := e_read hT he.1 (by have := e_tx4 j; omega) he.2 h hP hV ft kE (kR := kR)
      rw [fL_read__2, t2, if_pos (nI_le (Nat.le_refl _) (by omega))]
      unfold fL_read
      rw [e, zbd_S]
      dsimp only
      rcases ho with rfl | rfl | rfl
      · rw [if_pos rfl, zbd_S]
        exact ⟨_, _, _, _, _, _, _, _, _, rfl, eQ_0 g⟩
      · rw [if_neg (by decide), if_pos rfl, zbd_S]
        exact ⟨_, _, _, _, _, _, _, _, _, rfl, eQ_r hV g (by decide)⟩
      · rw [if_neg (by decide), if_neg (by decide), if_pos rfl, zbd_S]
        exact ⟨_, _, _, _, _, _, _, _, _, rfl, eQ_r hV g (by decide)⟩
    | succ d ih =>
      intro k n ch hk hn hT
      obtain ⟨n', rfl⟩ : ∃ n', n = n' + 1 := ⟨n - 1, by omega⟩
      obtain ⟨u1, u2, u3⟩ := t1 k (by omega)
      obtain ⟨ch', a1, a2⟩ := e_append hT u2 u3 (by omega)
      have a3 : yTx ch' ch' (yTc j) (k + 1) := yTx_c a2 (fun i _ => by
        by_cases e : i = k
        · rw [if_pos e, e]
        · rw [if_neg e])
      rw [fL_read__2, t2, if_neg (nI_ge (show k < (zTb j).length by omega) (by omega)), zck_N (by omega) (by omega), u1]
      unfold fL_append
      rw [a1, zbd_S]
      dsimp only
      rw [if_pos rfl, zbd_S, zbn_E, nI_1]
      exact ih (k + 1) n' ch' (by omega) (by omega) a3
  unfold fL_read_
  exact hl (zTb j).length 0 30 ch (by omega) (by omega) ⟨by omega, fun i hi => absurd hi (by omega)⟩
/-- a move by a number -/
theorem eL_play {rws : Nat → Int64} {nx ct : Int32} {c : Nat} {B : Nat → Nat → Nat} {fb : Nat → Int64} {b : Nat → Nat} (h : yHc rws nx ct c B) (hP : yP fb b) (hV : yV2 b) (kR ln : Int32) {m : Nat} (hm : m < 65536) :
    ∃ r kR' fb' rws' nx' ct', fL_play kR fb rws nx ct ln (nI m) = some (r, kR', fb', rws', nx', ct') ∧ eQ b r fb' rws' nx' ct' := by
  have in51 : ∀ (k7 : Int32 → (Nat → Int64) → (Nat → Int64) → Int32 → Int32 → Int32 → Int32 → Int32 → Option (Int32 × Int32 × (Nat → Int64) × (Nat → Int64) × Int32 × Int32)) (x1 x3 : Int32) (p : Nat), p < 36 → ysd (b p) ≤ 1 →
      (∀ x2, ∃ r kR' fb' rws' nx' ct', k7 kR fb rws nx ct x1 x2 (x3 + 1) = some (r, kR', fb', rws', nx', ct') ∧ eQ b r fb' rws' nx' ct') →
      ∀ d t n x2, t + d = 36 → d < n → ∃ r kR' fb' rws' nx' ct', fL_play_51 k7 ln n kR fb rws nx ct x1 x2 x3 (nI p) (nI t) = some (r, kR', fb', rws', nx', ct') ∧ eQ b r fb' rws' nx' ct' := by
    intro k7 x1 x3 p hp hs hk d
    induction d with
    | zero =>
      intro t n x2 ht hn
      obtain ⟨n', rfl⟩ : ∃ n', n = n' + 1 := ⟨n - 1, by omega⟩
      rw [fL_play_51, if_pos (show (36 : Int32) ≤ nI t from nI_le (a := 36) (by omega) (by omega))]
      unfold fL_play_91
      rw [zbn_E]
      exact hk x2
    | succ d ih =>
      intro t n x2 ht hn
      obtain ⟨n', rfl⟩ : ∃ n', n = n' + 1 := ⟨n - 1, by omega⟩
      rw [fL_play_51, if_neg (show ¬ (36 : Int32) ≤ nI t from nI_ge (b := 36) (by omega) (by omega)), e_canMove hP hV.1 hp (show t < 36 by omega) hs, zbd_S]
      dsimp only
      rw [if_pos rfl]
      unfold fL_play_85
      cases yTg b p t with
      | false =>
        rw [yb_f, if_pos rfl, zbn_E, nI_1]
        exact ih (t + 1) n' x2 (by omega) (by omega)
      | true =>
        rw [yb_t, if_neg (show ¬ (1 : Int32) = 0 by decide), zbn_E]
        by_cases g : 0 ≤ x2 + (-1)
        · rw [if_pos g, zbn_E, nI_1]
          exact ih (t + 1) n' _ (by omega) (by omega)
        · obtain ⟨r, kR', fb', rws', nx', ct', e, e2⟩ := eL_move h hP hV kR hp (show t < 36 by omega)
          rw [if_neg g, e, zbd_S]
          exact ⟨_, _, _, _, _, _, rfl, e2⟩
  have in7 : ∀ d k n x2, k + d = 72 → d < n → ∃ r kR' fb' rws' nx' ct', fL_play_7 ln n kR fb rws nx ct (nI m) x2 (nI k) = some (r, kR', fb', rws', nx', ct') ∧ eQ b r fb' rws' nx' ct' := by
    intro d
    induction d with
    | zero =>
      intro k n x2 hk hn
      obtain ⟨n', rfl⟩ : ∃ n', n = n' + 1 := ⟨n - 1, by omega⟩
      obtain ⟨r, kR', fb', rws', nx', ct', e, e2⟩ := eL_move h hP hV kR (show 0 < 36 by omega) (show 0 < 36 by omega)
      rw [fL_play_7, if_pos (show (72 : Int32) ≤ nI k from nI_le (a := 72) (by omega) (by omega)), show fL_move kR fb rws nx ct 0 0 = _ from e, zbd_S]
      exact ⟨_, _, _, _, _, _, rfl, e2⟩
    | succ d ih =>
      intro k n x2 hk hn
      obtain ⟨n', rfl⟩ : ∃ n', n = n' + 1 := ⟨n - 1, by omega⟩
      have hq : (k + m) % 36 < 36 := Nat.mod_lt _ (by omega)
      obtain ⟨s1, s2, -, -⟩ := e_square hP hq
      have hnext : ∀ x2, ∃ r kR' fb' rws' nx' ct', fL_play_7 ln n' kR fb rws nx ct (nI m) x2 (nI k + 1) = some (r, kR', fb', rws', nx', ct') ∧ eQ b r fb' rws' nx' ct' := fun x2 => by
        rw [nI_1]
        exact ih (k + 1) n' x2 (by omega) (by omega)
      rw [fL_play_7, if_neg (show ¬ (72 : Int32) ≤ nI k from nI_ge (b := 72) (by omega) (by omega)), nI_add, show (36 : Int32) = nI 36 from rfl, pk_rem (by omega) (by omega) (by omega), zbn_E, s1, zbd_S]
      dsimp only
      rw [if_pos rfl]
      unfold fL_play_91
      by_cases g : nI (ywh b ((k + m) % 36)) = 1
      · rw [if_pos g, s2, zbd_S]
        dsimp only
        rw [if_pos rfl, show (7 : Int32) = nI 7 from rfl, e_account hP ct ln (show 7 < 9 by omega), zbd_S]
        dsimp only
        rw [if_pos rfl]
        have hs : ysd (b ((k + m) % 36)) ≤ 1 := by
          unfold ywh at g
          by_cases z : (ypc b 0 ((k + m) % 36) || ypc b 1 ((k + m) % 36)) = true
          · unfold ypc at z
            rw [Bool.or_eq_true, decide_eq_true_eq, decide_eq_true_eq] at z
            omega
          · rw [if_neg z] at g
            exfalso
            split at g
            · exact absurd g (by decide)
            · split at g <;> exact absurd g (by decide)
        split
        · exact in51 _ (nI m) (nI k) _ hq hs hnext 36 0 37 x2 (by omega) (by omega)
        · rw [zbn_E]
          exact hnext x2
      · rw [if_neg g, zbn_E]
        exact hnext x2
  unfold fL_play
  rw [zbn_E]
  exact in7 72 0 73 _ (by omega) (by omega)

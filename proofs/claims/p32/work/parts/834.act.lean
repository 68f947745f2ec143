/-! one call of the law's script -/
theorem eA_1 {m : Nat} (hm : m < 65536) : nI m &&& (1 : Int32) = nI (m % 2) := pk_andN (n := m) (by omega) 1 (by decide)
theorem eA_s1 {m : Nat} (hm : m < 65536) : nI m >>> ((1 : Int32) &&& 31) = nI (m / 2) := pk_shrN (n := m) (by omega) _ 1 (by decide)
theorem eA_s3 {m : Nat} (hm : m < 65536) : nI m >>> ((3 : Int32) &&& 31) = nI (m / 8) := pk_shrN (n := m) (by omega) _ 3 (by decide)
theorem eA_14 {m : Nat} (hm : m < 65536) : (nI m >>> ((1 : Int32) &&& 31)) - (nI m >>> ((1 : Int32) &&& 31)) / (4 : Int32) * (4 : Int32) = nI (m / 2 % 4) := by
  rw [eA_s1 hm, show (4 : Int32) = nI 4 from rfl, pk_rem (by omega) (by omega) (by omega)]
theorem eA_136 {m : Nat} (hm : m < 65536) : (nI m >>> ((1 : Int32) &&& 31)) - (nI m >>> ((1 : Int32) &&& 31)) / (36 : Int32) * (36 : Int32) = nI (m / 2 % 36) := by
  rw [eA_s1 hm, show (36 : Int32) = nI 36 from rfl, pk_rem (by omega) (by omega) (by omega)]
theorem eA_336 {m : Nat} (hm : m < 65536) : (nI m >>> ((3 : Int32) &&& 31)) - (nI m >>> ((3 : Int32) &&& 31)) / (36 : Int32) * (36 : Int32) = nI (m / 8 % 36) := by
  rw [eA_s3 hm, show (36 : Int32) = nI 36 from rfl, pk_rem (by omega) (by omega) (by omega)]
theorem eA_113 {m : Nat} (hm : m < 65536) : (nI m >>> ((1 : Int32) &&& 31)) - (nI m >>> ((1 : Int32) &&& 31)) / (13 : Int32) * (13 : Int32) = nI (m / 2 % 13) := by
  rw [eA_s1 hm, show (13 : Int32) = nI 13 from rfl, pk_rem (by omega) (by omega) (by omega)]
/-- the answers and the state behind a call -/
def eZ (b : Nat → Nat) (r sv' : Int32) (fb' fs' rws' : Nat → Int64) (nx' ct' : Int32) : Prop :=
  (∃ (b' : Nat → Nat) (c' : Nat) (B' : Nat → Nat → Nat), yV2 b' ∧ yP fb' b' ∧ yHc rws' nx' ct' c' B' ∧ (r = -100000000 → b' = b)) ∧ eSv sv' fs'
theorem eZ_Q {b : Nat → Nat} {r sv : Int32} {fb' fs rws' : Nat → Int64} {nx' ct' : Int32} (h : eQ b r fb' rws' nx' ct') (hS : eSv sv fs) : eZ b r sv fb' fs rws' nx' ct' := by
  obtain ⟨b', c', B', h1, h2, h3, h4, -⟩ := h
  exact ⟨⟨b', c', B', h1, h2, h3, h4⟩, hS⟩
set_option maxRecDepth 4000 in
theorem eL_act {rws : Nat → Int64} {nx ct : Int32} {c : Nat} {B : Nat → Nat → Nat} {fb fs : Nat → Int64} {b : Nat → Nat} (h : yHc rws nx ct c B) (hP : yP fb b) (hV : yV2 b) {sv : Int32} (hS : eSv sv fs) (kE kR : Int32) (ft : Nat → Int64) (ch : Nat → Int32) (x : Int32) :
    ∃ r sv' kE' kR' fb' ft' fs' rws' nx' ct' ch', fL_act sv kE kR fb ft fs rws nx ct ch 0 x = some (r, sv', kE', kR', fb', ft', fs', rws', nx', ct', ch', 0) ∧ eZ b r sv' fb' fs' rws' nx' ct' := by
  unfold fL_act
  obtain ⟨m, hm, em⟩ := pk_andE (x >>> ((4 : Int32) &&& 31)) (m := (65535 : Int32)) 16 (by decide)
  have hm : m < 65536 := hm
  rw [em, zbn_E, zbn_E, eA_1 hm, eA_14 hm, eA_136 hm, eA_336 hm, eA_113 hm]
  obtain ⟨a2, ea2⟩ : ∃ z : Int32, z = x &&& (15 : Int32) := ⟨_, rfl⟩
  rw [← ea2]
  have lay : ∃ r sv' kE' kR' fb' ft' fs' rws' nx' ct' ch', zbd (fL_lay fb rws nx ct (nI (m % 2)) (nI (m / 2 % 4)) (nI (m / 8 % 36))) (fun u4 => (some (u4.1, sv, kE, kR, u4.2.1, ft, fs, u4.2.2.1, u4.2.2.2.1, u4.2.2.2.2, ch, (0 : Int32)))) = some (r, sv', kE', kR', fb', ft', fs', rws', nx', ct', ch', 0) ∧ eZ b r sv' fb' fs' rws' nx' ct' := by
    obtain ⟨r, fb', rws', nx', ct', e, g⟩ := eL_lay h hP hV (show m % 2 ≤ 1 by omega) (show m / 2 % 4 ≤ 3 by omega) (show m / 8 % 36 < 36 by omega)
    rw [e, zbd_S]
    exact ⟨_, _, _, _, _, _, _, _, _, _, _, rfl, eZ_Q g hS⟩
  have door : ∀ q, q < 36 → ∃ r sv' kE' kR' fb' ft' fs' rws' nx' ct' ch', zbd (fL_door kR fb rws nx ct (nI q)) (fun u18 => (some (u18.1, sv, kE, u18.2.1, u18.2.2.1, ft, fs, u18.2.2.2.1, u18.2.2.2.2.1, u18.2.2.2.2.2, ch, (0 : Int32)))) = some (r, sv', kE', kR', fb', ft', fs', rws', nx', ct', ch', 0) ∧ eZ b r sv' fb' fs' rws' nx' ct' := by
    intro q hq
    obtain ⟨r, kR', fb', rws', nx', ct', e, g⟩ := eL_door h hP hV kR hq
    rw [e, zbd_S]
    exact ⟨_, _, _, _, _, _, _, _, _, _, _, rfl, eZ_Q g hS⟩
  by_cases c0 : a2 = 0
  · rw [if_pos c0]
    by_cases g : nI m &&& (7 : Int32) = 0
    · obtain ⟨fb', rws', nx', ct', c', B', e, e1, e2, e3, e4⟩ := e_start h hP hV
      rw [if_pos g, e, zbd_S]
      exact ⟨_, _, _, _, _, _, _, _, _, _, _, rfl, ⟨ySt 6, c', B', ySt_U, e1, e2, fun z => absurd z (eRf 12 (by omega))⟩, hS⟩
    · rw [if_neg g]
      exact lay
  rw [if_neg c0]
  by_cases c1 : a2 = 1
  · rw [if_pos c1]; exact lay
  rw [if_neg c1]
  by_cases c2 : a2 = 2
  · rw [if_pos c2]; exact lay
  rw [if_neg c2]
  by_cases c3 : a2 = 3
  · rw [if_pos c3]
    obtain ⟨r, fb', rws', nx', ct', e, g⟩ := eL_wall h hP hV (show m / 2 % 36 < 36 by omega)
    rw [e, zbd_S]
    exact ⟨_, _, _, _, _, _, _, _, _, _, _, rfl, eZ_Q g hS⟩
  rw [if_neg c3]
  by_cases c4 : a2 = 4
  · rw [if_pos c4]
    by_cases g : nI m &&& (7 : Int32) = 0
    · rw [if_pos g]
      rcases hS with rfl | ⟨rfl, bs, k1, k2⟩
      · rw [eL_restore0, zbd_S]
        exact ⟨_, _, _, _, _, _, _, _, _, _, _, rfl, ⟨b, c, B, hV, hP, h, fun _ => rfl⟩, Or.inl rfl⟩
      · obtain ⟨fb', e, e2⟩ := eL_restore1 (fb := fb) k2 ct
        have h1 := fb_ct_le (ypc bs 0) 36
        have h2 := fb_ct_le (ypc bs 1) 36
        rw [e, zbd_S]
        exact ⟨_, _, _, _, _, _, _, _, _, _, _, rfl, ⟨bs, 0, B, k1, e2, e_forget h, fun z => absurd z (eRf _ (by unfold yps; omega))⟩, Or.inr ⟨rfl, bs, k1, k2⟩⟩
    · rw [if_neg g]
      exact door _ (by omega)
  rw [if_neg c4]
  by_cases c5 : a2 = 5
  · rw [if_pos c5]
    by_cases g : nI m &&& (7 : Int32) = 0
    · obtain ⟨fs', e, e2⟩ := e_save (fs := fs) hP sv
      rw [if_pos g, e, zbd_S]
      exact ⟨_, _, _, _, _, _, _, _, _, _, _, rfl, ⟨b, c, B, hV, hP, h, fun _ => rfl⟩, Or.inr ⟨rfl, b, hV, e2⟩⟩
    · obtain ⟨r, kR', fb', rws', nx', ct', e, g2⟩ := eL_buy h hP hV kR (show m / 8 % 36 < 36 by omega)
      rw [if_neg g, e, zbd_S]
      exact ⟨_, _, _, _, _, _, _, _, _, _, _, rfl, eZ_Q g2 hS⟩
  rw [if_neg c5]
  by_cases c6 : a2 = 6
  · rw [if_pos c6]
    by_cases g : nI (m % 2) = 0
    · rw [if_pos g]
      rcases eL_undo h fb with ⟨k0, e⟩ | ⟨k0, nx', f', e, e2, e3, e4⟩
      · rw [e, zbd_S]
        exact ⟨_, _, _, _, _, _, _, _, _, _, _, rfl, ⟨b, c, B, hV, hP, h, fun _ => rfl⟩, hS⟩
      · have hc6 : c ≤ 6 := by
          obtain ⟨x9, _, h6, _⟩ := h
          exact h6
        rw [e, zbd_S]
        exact ⟨_, _, _, _, _, _, _, _, _, _, _, rfl, ⟨_, _, B, e3, e2, e4, fun z => absurd z (eRf _ (by omega))⟩, hS⟩
    · rw [if_neg g]
      exact door _ (by omega)
  rw [if_neg c6]
  by_cases c7 : a2 = 7
  · have hj : m / 2 % 13 < 13 := Nat.mod_lt _ (by omega)
    obtain ⟨r, kE', kR', fb', ft', rws', nx', ct', ch', e, g⟩ := eL_read_ h hP hV ft ch kE kR hj
    rw [if_pos c7, zck_N hj (by omega), tn_n (by omega), e, zbd_S]
    exact ⟨_, _, _, _, _, _, _, _, _, _, _, rfl, eZ_Q g hS⟩
  rw [if_neg c7]
  obtain ⟨r, kR', fb', rws', nx', ct', e, g⟩ := eL_play h hP hV kR 0 hm
  rw [e, zbd_S]
  exact ⟨_, _, _, _, _, _, _, _, _, _, _, rfl, eZ_Q g hS⟩
/-- the digest is a function of the board -/
def ydg1 (b : Nat → Nat) : Nat → Int64
  | 0 => 7
  | k + 1 => 31 * ydg1 b k + (nI (yac b k)).toInt64
def ysv (b : Nat → Nat) (q k : Nat) : Int32 := if k = 0 then nI (ywh b q) else if k = 1 then yI (yso b q) 1 else if k = 2 then yI (ykk (b q)) 3 else yb (decide (b (36 + q) = 1) || decide (b (36 + q) = 2))
def ydg2 (b : Nat → Nat) (q : Nat) (h : Int64) : Nat → Int64
  | 0 => h
  | k + 1 => 31 * ydg2 b q h k + (ysv b q k).toInt64
def ydg3 (b : Nat → Nat) : Nat → Int64
  | 0 => ydg1 b 9
  | q + 1 => 31 * ydg2 b q (ydg3 b q) 4 + (yPiv (b q) (b (36 + q))).toInt64
def ydg (b : Nat → Nat) : Int64 := 31 * (31 * ydg3 b 36 + (nI (ySm (yG b 0) 36)).toInt64) + (nI (ySm (yG b 1) 36)).toInt64
theorem eL_digest {fb : Nat → Int64} {b : Nat → Nat} (hP : yP fb b) (hv : yV b) (ct ln : Int32) : fL_digest fb ct ln = some (ydg b) := by
  have hsq : ∀ q k, q < 36 → k < 4 → fX4_square fb (nI q) (nI k) = some (0, ysv b q k) := by
    intro q k hq hk
    obtain ⟨s0, s1, s2, s3⟩ := e_square hP hq
    rcases (show k = 0 ∨ k = 1 ∨ k = 2 ∨ k = 3 by omega) with rfl | rfl | rfl | rfl
    · exact s0
    · exact s1
    · exact s2
    · exact s3
  have l42 : ∀ (k33 : Int64 → Int32 → Option Int64) (q : Nat), q < 36 → ∀ d k n, k + d = 4 → d < n → ∀ h0, fL_digest_42 k33 fb ct ln n (ydg2 b q h0 k) (nI q) (nI k) = k33 (31 * ydg2 b q h0 4 + (yPiv (b q) (b (36 + q))).toInt64) (nI (q + 1)) := by
    intro k33 q hq d
    induction d with
    | zero =>
      intro k n hk hn h0
      obtain ⟨n', rfl⟩ : ∃ n', n = n' + 1 := ⟨n - 1, by omega⟩
      rw [fL_digest_42, if_pos (show (4 : Int32) ≤ nI k from nI_le (a := 4) (by omega) (by omega)), e_picture hP hv hq, zbd_S]
      dsimp only
      rw [if_pos rfl, zbn_E, zbn_E, nI_1, show k = 4 by omega]
    | succ d ih =>
      intro k n hk hn h0
      obtain ⟨n', rfl⟩ : ∃ n', n = n' + 1 := ⟨n - 1, by omega⟩
      rw [fL_digest_42, if_neg (show ¬ (4 : Int32) ≤ nI k from nI_ge (b := 4) (by omega) (by omega)), hsq q k hq (by omega), zbd_S]
      dsimp only
      rw [if_pos rfl, zbn_E, zbn_E, nI_1]
      exact ih (k + 1) n' (by omega) (by omega) h0
  have l33 : ∀ d q n, q + d = 36 → d < n → fL_digest_33 fb ct ln n (ydg3 b q) (nI q) = some (ydg b) := by
    intro d
    induction d with
    | zero =>
      intro q n hq hn
      obtain ⟨n', rfl⟩ : ∃ n', n = n' + 1 := ⟨n - 1, by omega⟩
      rw [fL_digest_33, if_pos (show (36 : Int32) ≤ nI q from nI_le (a := 36) (by omega) (by omega)), show (0 : Int32) = nI 0 from rfl, e_sealed hP (show 0 ≤ 1 by omega), zbd_S]
      dsimp only
      rw [if_pos rfl, show (1 : Int32) = nI 1 from rfl, e_sealed hP (show 1 ≤ 1 by omega), zbd_S]
      dsimp only
      rw [if_pos rfl, show q = 36 by omega]
      rfl
    | succ d ih =>
      intro q n hq hn
      obtain ⟨n', rfl⟩ : ∃ n', n = n' + 1 := ⟨n - 1, by omega⟩
      rw [fL_digest_33, if_neg (show ¬ (36 : Int32) ≤ nI q from nI_ge (b := 36) (by omega) (by omega))]
      have := l42 (fun z0 z1 => fL_digest_33 fb ct ln n' z0 z1) q (by omega) 4 0 5 (by omega) (by omega) (ydg3 b q)
      rw [show ydg2 b q (ydg3 b q) 0 = ydg3 b q from rfl, show nI 0 = (0 : Int32) from rfl] at this
      rw [this]
      exact ih (q + 1) n' (by omega) (by omega)
  have l6 : ∀ d k n, k + d = 9 → d < n → fL_digest_6 fb ct ln n (ydg1 b k) (nI k) = some (ydg b) := by
    intro d
    induction d with
    | zero =>
      intro k n hk hn
      obtain ⟨n', rfl⟩ : ∃ n', n = n' + 1 := ⟨n - 1, by omega⟩
      rw [fL_digest_6, if_pos (show (9 : Int32) ≤ nI k from nI_le (a := 9) (by omega) (by omega)), show k = 9 by omega]
      exact l33 36 0 37 (by omega) (by omega)
    | succ d ih =>
      intro k n hk hn
      obtain ⟨n', rfl⟩ : ∃ n', n = n' + 1 := ⟨n - 1, by omega⟩
      rw [fL_digest_6, if_neg (show ¬ (9 : Int32) ≤ nI k from nI_ge (b := 9) (by omega) (by omega)), e_account hP ct ln (show k < 9 by omega), zbd_S]
      dsimp only
      rw [if_pos rfl, zbn_E, zbn_E, nI_1]
      exact ih (k + 1) n' (by omega) (by omega)
  unfold fL_digest
  exact l6 9 0 10 (by omega) (by omega)

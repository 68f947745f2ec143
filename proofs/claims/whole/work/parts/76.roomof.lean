/-! PURE 36: roomOf and sealedShare -/
theorem y_nn (p : Int32) : p < 0 ∨ ∃ m, m < 2 ^ 31 ∧ p = nI m := by
  by_cases h0 : p < 0
  · exact Or.inl h0
  · have h1 := p.toInt_lt
    obtain ⟨j, j1, j2⟩ := nI_of2 (n := 2147483647) (M := nI 2147483647) (nI_toInt (by omega)) h0 (Int32.le_iff_toInt_le.mpr (by
      rw [nI_toInt (by omega)]
      omega))
    exact Or.inr ⟨j, by omega, j2⟩
theorem y_r1 : ∀ r, r < 37 → (nI r - 1).toInt = (r : Int) - 1 := by decide +kernel
theorem q_roomOf {f : Nat → Int64} {now : Nat → Int32} {b : Nat → Nat} (hP : yP f b) (hN : yN now b) (hv : yV b) (thrown : Int32) (queue roomAt : Nat → Int32) (rooms p0 p1 p2 : Int32) :
    ∃ (x y : Int32) (o : Nat) (t : Int32) (q' ra' : Nat → Int32) (r' : Int32), fX4_roomOf f p0 p1 p2 = some (o, x) ∧ fX5_roomOf thrown now queue roomAt rooms p0 p1 p2 = some (y, t, q', ra', r') ∧ ((o = 0 ∧ t = 0 ∧ x = y) ∨ (o = 1 ∧ t = 1) ∨ (o = 2 ∧ t = 2)) := by
  unfold fX4_roomOf fX5_roomOf
  rcases y_sd p0 with ⟨s, hs, rfl, e1, e2⟩ | ⟨e1, e2⟩
  · obtain ⟨q', ra', r, d1, d2, d3⟩ := m_findRooms hN hv hs queue roomAt rooms
    have h36 := yNr_36 d2
    rw [e1, e2, zbd_S, zbd_S, if_pos rfl, if_neg (show ¬ (1 : Int32) = 0 by decide), d1, zbd_S]
    dsimp only
    have bad : fX5_isBetween p1 0 (nI r - 1) = some 0 → fX2_roomNumbered f (nI s) p1 = some 0 → ∃ (x y : Int32) (o : Nat) (t : Int32) (q1 ra1 : Nat → Int32) (r1 : Int32), (zbd (fX2_roomNumbered f (nI s) p1) (fun u3 => (if (lg_cmp u3 (0 : Int64)) = 0 then (some (1, (0 : Int32))) else (if p2 < 0 then (some (2, (0 : Int32))) else (if p2 < (6 : Int32) then (if p2 = (0 : Int32) then (zbd (fX3_size u3) (fun u6 => (some (0, u6)))) else (if p2 = (1 : Int32) then (zbd (fX2_piecesOf f (nI s)) (fun u9 => (zbd (fX3_size (u3 &&& u9)) (fun u11 => (some (0, u11)))))) else (if p2 = (2 : Int32) then (zbd (fX4_otherSide (nI s)) (fun u14 => (zbd (fX2_piecesOf f u14) (fun u16 => (zbd (fX3_size (u3 &&& u16)) (fun u18 => (some (0, u18)))))))) else (if p2 = (3 : Int32) then (zbd (fX2_allDoors f) (fun u21 => (zbd (fX3_size (u3 &&& u21)) (fun u23 => (some (0, u23)))))) else (if p2 = (4 : Int32) then (zbd (fX3_lowest u3) (fun u26 => (some (0, u26)))) else (zbd (fX2_piecesOf f (nI s)) (fun u28 => (if (lg_cmp (u3 &&& u28) (0 : Int64)) = 0 then (some (0, (1 : Int32))) else (some (0, (0 : Int32))))))))))) else (some (2, (0 : Int32)))))))) = some (o, x) ∧ (zbd (fX5_isBetween p1 (0 : Int32) (nI r - (1 : Int32))) (fun u5 => (fX5_roomOf_29 now thrown q' ra' (nI r) (nI s) p1 p2 u5))) = some (y, t, q1, ra1, r1) ∧ ((o = 0 ∧ t = 0 ∧ x = y) ∨ (o = 1 ∧ t = 1) ∨ (o = 2 ∧ t = 2)) := fun g1 g2 => by
      rw [g1, g2, zbd_S, zbd_S, if_pos ((zlc _ _).mpr rfl)]
      exact ⟨_, _, _, _, _, _, _, rfl, rfl, Or.inr (Or.inl ⟨rfl, rfl⟩)⟩
    rcases y_nn p1 with hn | ⟨m, hm, rfl⟩
    · exact bad (y_btw (Or.inl hn)) (c_roomNumbered0 hP hs hn)
    · obtain ⟨w, w1, w2⟩ := c_roomNumbered hP hs d2 hm
      rcases w2 with ⟨hmr, w2⟩ | ⟨hmr, w2⟩
      · clear bad
        have hw0 : ¬ w = 0 := fun z => by
          obtain ⟨v, hv⟩ := yLo_ex (d2.1 m hmr)
          have := (ySW_z w2).mp z v hv.1
          rw [yrm_v hv] at this
          cases this
        rw [w1, zbd_S, if_neg (fun z => hw0 ((zlc _ _).mp z)), show nI r - (1 : Int32) = nI (r - 1) from pk_sub (a := r) (b := 1) (by omega), show fX5_isBetween (nI m) 0 (nI (r - 1)) = some 1 from y_btw1 (lo := 0) (by omega) (by omega) (by omega), zbd_S]
        unfold fX5_roomOf_29 fX5_roomOf_41
        rw [if_neg (show ¬ (1 : Int32) = 0 by decide), m_fails0, zbd_S]
        dsimp only
        rw [if_pos (show (0 : Int32) = 0 from rfl)]
        rcases y_between p2 5 (by omega) with ⟨q, h1, rfl⟩ | h
        · rw [show fX5_isBetween (nI q) 0 5 = some 1 from y_btw1 (lo := 0) (hi := 5) (by omega) h1 (by omega), zbd_S, if_neg (show ¬ (1 : Int32) = 0 by decide), if_neg (nI_pos (by omega)), if_pos (show nI q < (6 : Int32) from nI_lt (b := 6) (by omega) (by omega))]
          unfold fX5_roomOf_63 fX5_roomOf_128
          rw [m_fails0, zbd_S]
          dsimp only
          rw [if_pos (show (0 : Int32) = 0 from rfl)]
          rcases (show q = 0 ∨ q = 1 ∨ q = 2 ∨ q = 3 ∨ q = 4 ∨ q = 5 by omega) with rfl | rfl | rfl | rfl | rfl | rfl
          · rw [show nI 0 = (0 : Int32) from rfl, if_pos rfl, if_pos rfl, y3size w2, zbd_S, m_squaresIn d3 d2 hmr, zbd_S]
            exact ⟨_, _, _, _, _, _, _, rfl, rfl, Or.inl ⟨rfl, rfl, rfl⟩⟩
          · rw [show nI 1 = (1 : Int32) from rfl]
            simp only [show ¬ (1 : Int32) = 0 by decide, if_false, if_true]
            rw [p_pieces f hs, zbd_S, y3size (ySW_and w2 (hP.1 s hs)), zbd_S, m_countIn hN hv d3 d2 hmr hs, zbd_S]
            exact ⟨_, _, _, _, _, _, _, rfl, rfl, Or.inl ⟨rfl, rfl, rfl⟩⟩
          · rw [show nI 2 = (2 : Int32) from rfl]
            simp only [show ¬ (2 : Int32) = 0 by decide, show ¬ (2 : Int32) = 1 by decide, if_false, if_true]
            rw [p_other hs, zbd_S, p_pieces f (show 1 - s ≤ 1 by omega), zbd_S, y3size (ySW_and w2 (hP.1 (1 - s) (by omega))), zbd_S, show (1 : Int32) - nI s = nI (1 - s) from pk_sub (a := 1) hs, m_countIn hN hv d3 d2 hmr (show 1 - s ≤ 1 by omega), zbd_S]
            exact ⟨_, _, _, _, _, _, _, rfl, rfl, Or.inl ⟨rfl, rfl, rfl⟩⟩
          · rw [show nI 3 = (3 : Int32) from rfl]
            simp only [show ¬ (3 : Int32) = 0 by decide, show ¬ (3 : Int32) = 1 by decide, show ¬ (3 : Int32) = 2 by decide, if_false, if_true]
            rw [p_allDoors, zbd_S, y3size (ySW_and w2 (y_allDoors hP)), zbd_S, m_doorsIn hN hv d3 d2 hmr, zbd_S]
            exact ⟨_, _, _, _, _, _, _, rfl, rfl, Or.inl ⟨rfl, rfl, rfl⟩⟩
          · obtain ⟨v, hlv⟩ := yLo_ex (P := yrm (yL (yop b s) m)) (by
              obtain ⟨v, hv⟩ := yLo_ex (d2.1 m hmr)
              exact ⟨v, hv.1, yrm_v hv⟩)
            rw [show nI 4 = (4 : Int32) from rfl]
            simp only [show ¬ (4 : Int32) = 0 by decide, show ¬ (4 : Int32) = 1 by decide, show ¬ (4 : Int32) = 2 by decide, show ¬ (4 : Int32) = 3 by decide, if_false, if_true]
            rw [y3lowest w2 hlv, zbd_S, m_lowestIn d3 d2 hmr hlv, zbd_S]
            exact ⟨_, _, _, _, _, _, _, rfl, rfl, Or.inl ⟨rfl, rfl, rfl⟩⟩
          · rw [show nI 5 = (5 : Int32) from rfl]
            simp only [show ¬ (5 : Int32) = 0 by decide, show ¬ (5 : Int32) = 1 by decide, show ¬ (5 : Int32) = 2 by decide, show ¬ (5 : Int32) = 3 by decide, show ¬ (5 : Int32) = 4 by decide, if_false, if_true]
            rw [p_pieces f hs, zbd_S, m_countIn hN hv d3 d2 hmr hs, zbd_S]
            have hw := ySW_and w2 (hP.1 s hs)
            have hle := fb_ct_le (fun i => yrm (yL (yop b s) m) i && ypc b s i) 36
            by_cases z : w &&& f s = 0
            · rw [if_pos ((zlc _ _).mpr z), if_pos ((nI_z (by omega)).mpr (fb_ct_zero.mpr ((ySW_z hw).mp z)))]
              exact ⟨_, _, _, _, _, _, _, rfl, rfl, Or.inl ⟨rfl, rfl, rfl⟩⟩
            · rw [if_neg (fun y => z ((zlc _ _).mp y)), if_neg (fun y => z ((ySW_z hw).mpr (fb_ct_zero.mp ((nI_z (by omega)).mp y))))]
              exact ⟨_, _, _, _, _, _, _, rfl, rfl, Or.inl ⟨rfl, rfl, rfl⟩⟩
        · rw [show fX5_isBetween p2 0 5 = some 0 from y_btw h, zbd_S, if_pos rfl]
          unfold fX5_roomOf_63
          rw [m_fails1, zbd_S]
          dsimp only
          rw [if_neg (show ¬ (1 : Int32) = 0 by decide)]
          by_cases g : p2 < 0
          · rw [if_pos g]
            exact ⟨_, _, _, _, _, _, _, rfl, rfl, Or.inr (Or.inr ⟨rfl, rfl⟩)⟩
          · have h35 := Int32.lt_iff_toInt_lt.mp (h.resolve_left g)
            have e35 : (nI 5).toInt = 5 := by decide
            have e36 : (6 : Int32).toInt = 6 := by decide
            rw [if_neg g, if_neg (fun z => by have := Int32.lt_iff_toInt_lt.mp z; omega)]
            exact ⟨_, _, _, _, _, _, _, rfl, rfl, Or.inr (Or.inr ⟨rfl, rfl⟩)⟩
      · subst w2
        refine bad (y_btw (Or.inr (Int32.lt_iff_toInt_lt.mpr ?_))) w1
        rw [y_r1 r (by omega), nI_toInt hm]
        omega
  · rw [e1, e2, zbd_S, zbd_S, if_neg (by decide), if_pos rfl]
    exact ⟨_, _, _, _, _, _, _, rfl, rfl, Or.inr (Or.inl ⟨rfl, rfl⟩)⟩
def zdcmp (x y : UInt64) : Int32 := Op.cmpValue (FP.dcmp x y) .l
/-- a quotient of two counts is a number -/
theorem y_zdn {c : Nat} (a : Int32) (hc : 0 < c) (hc2 : c < 2 ^ 31) : zdn (FP.ddiv (FP.i2d a) (FP.i2d (nI c))) = true := by
  have h1 := FP.Core.i2d_mag a
  have h2 := FP.Core.i2d_big (v := nI c) (by rw [nI_toInt hc2]; omega)
  have h3 : (FP.ddiv (FP.i2d a) (FP.i2d (nI c))).toNat % 2 ^ 63 < (1056 + (1074 - 52 - 1) - 1023 + 3) * 2 ^ 52 := FP.Core.ddiv_mag h1 h2.1 h2.2 (by omega) (by omega)
  unfold zdn
  refine decide_eq_true (UInt64.le_iff_toNat_le.mpr ?_)
  rw [UInt64.toNat_and]
  show (FP.ddiv (FP.i2d a) (FP.i2d (nI c))).toNat &&& (2 ^ 63 - 1) ≤ 9218868437227405312
  rw [Nat.and_two_pow_sub_one_eq_mod]
  omega
theorem y_zdc {c : Nat} (a : Int32) (hc : 0 < c) (hc2 : c < 2 ^ 31) : zdcmp (FP.ddiv (FP.i2d a) (FP.i2d (nI c))) (FP.ddiv (FP.i2d a) (FP.i2d (nI c))) = 0 := by
  have h1 := FP.Core.i2d_mag a
  have h2 := FP.Core.i2d_big (v := nI c) (by rw [nI_toInt hc2]; omega)
  have h3 : (FP.Core.ddiv (FP.Core.i2d a) (FP.Core.i2d (nI c))).toNat % 2 ^ 63 < (1056 + (1074 - 52 - 1) - 1023 + 3) * 2 ^ 52 := FP.Core.ddiv_mag h1 h2.1 h2.2 (by omega) (by omega)
  have h4 : FP.Core.DFin (FP.Core.ddiv (FP.Core.i2d a) (FP.Core.i2d (nI c))) := (FP.Core.fin_bits _).mpr (by omega)
  have h5 : FP.dcmp (FP.ddiv (FP.i2d a) (FP.i2d (nI c))) (FP.ddiv (FP.i2d a) (FP.i2d (nI c))) = some .eq := FP.Core.dcmp_self h4.ne_nan
  unfold zdcmp
  rw [h5]
  rfl
theorem q_sealedShare {f : Nat → Int64} {now : Nat → Int32} {b : Nat → Nat} (hP : yP f b) (hN : yN now b) (hv : yV b) (thrown : Int32) (queue roomAt : Nat → Int32) (rooms p0 : Int32) :
    ∃ (x y : UInt64) (o : Nat) (t : Int32) (q' ra' : Nat → Int32) (r' : Int32), fX4_sealedShare f p0 = some (o, x) ∧ fX5_sealedShare thrown now queue roomAt rooms p0 = some (y, t, q', ra', r') ∧ ((o = 0 ∧ t = 0 ∧ x = y ∧ zdcmp x x = 0) ∨ (o = 1 ∧ t = 1) ∨ (o = 6 ∧ t = 2)) := by
  unfold fX4_sealedShare fX5_sealedShare
  rcases y_sd p0 with ⟨s, hs, rfl, e1, e2⟩ | ⟨e1, e2⟩
  · obtain ⟨w, w1, w2⟩ := c_open hP hs
    have hle := fb_ct_le (yop b s) 36
    rw [e1, e2, zbd_S, zbd_S, if_pos rfl, if_neg (show ¬ (1 : Int32) = 0 by decide), w1, zbd_S, y3size w2, zbd_S]
    unfold fX5_sealedShare_14
    rw [m_fails0, zbd_S]
    dsimp only
    rw [if_pos (show (0 : Int32) = 0 from rfl), m_countOpen hN hv hs, zbd_S]
    unfold fX5_sealedShare_35 fX5_sealedShare_41
    by_cases z : fb_ct (yop b s) 36 = 0
    · rw [if_pos ((nI_z (by omega)).mpr z), if_pos ((nI_z (by omega)).mpr z), m_fails1, zbd_S]
      exact ⟨_, _, _, _, _, _, _, rfl, rfl, Or.inr (Or.inr ⟨rfl, rfl⟩)⟩
    · obtain ⟨r, c1, c2⟩ := c_countSealed hP hs
      obtain ⟨q', ra', r', r2, d1, d2⟩ := m_countSealed hN hv hs queue roomAt rooms
      rw [yNr_u d2 c2] at d1
      have hz := y_zdn (nI (ySm (yG b s) r)) (show 0 < fb_ct (yop b s) 36 by omega) (by omega)
      rw [if_neg (fun y => z ((nI_z (by omega)).mp y)), if_neg (fun y => z ((nI_z (by omega)).mp y)), m_fails0, zbd_S, c1, zbd_S]
      dsimp only
      rw [if_pos (show (0 : Int32) = 0 from rfl), d1, zbd_S]
      dsimp only
      rw [hz, zck_T, m_countOpen hN hv hs, zbd_S, hz, zck_T]
      exact ⟨_, _, _, _, _, _, _, rfl, rfl, Or.inl ⟨rfl, rfl, rfl, y_zdc (nI (ySm (yG b s) r)) (show 0 < fb_ct (yop b s) 36 by omega) (by omega)⟩⟩
  · rw [e1, e2, zbd_S, zbd_S, if_neg (by decide), if_pos rfl]
    exact ⟨_, _, _, _, _, _, _, rfl, rfl, Or.inr (Or.inl ⟨rfl, rfl⟩)⟩
theorem q_errorPosition (kE thrown : Int32) (h : kE = -1 ∨ ∃ j, j < 100 ∧ kE = nI j) :
    ∃ (x y : Int32) (o : Nat) (t : Int32), fX4_errorPosition kE = some (o, x) ∧ fX5_errorPosition thrown kE = some (y, t) ∧ ((o = 0 ∧ t = 0 ∧ x = y) ∨ (o = 5 ∧ t = 1)) := by
  have hn1 : ∀ q, q < 100 → ¬ nI q = -1 := by decide +kernel
  unfold fX4_errorPosition fX5_errorPosition fX5_errorPosition_14
  rcases h with rfl | ⟨j, hj, rfl⟩
  · exact ⟨_, _, _, _, rfl, rfl, Or.inr ⟨rfl, rfl⟩⟩
  · rw [if_neg (hn1 j hj), if_pos (nI_pos' (by omega)), m_fails0, zbd_S]
    exact ⟨_, _, _, _, rfl, rfl, Or.inl ⟨rfl, rfl, rfl⟩⟩
theorem q_reason {kR reason detail : Int32} (h : yK kR reason detail) (thrown p0 : Int32) :
    ∃ (x y : Int32) (o : Nat) (t : Int32), fX4_reason kR p0 = some (o, x) ∧ fX5_reason thrown reason detail p0 = some (y, t) ∧ ((o = 0 ∧ t = 0 ∧ x = y) ∨ (o = 5 ∧ t = 1)) := by
  obtain ⟨r, d, h1, h2, h3, rfl, rfl, rfl⟩ := h
  unfold fX4_reason fX5_reason fX5_reason_14
  by_cases g : r = 0
  · rw [if_pos ((nI_z (by omega)).mpr (show 100 * r + d = 0 by have := h3 g; omega)), if_pos ((nI_z (by omega)).mpr g), m_fails1, zbd_S]
    exact ⟨_, _, _, _, rfl, rfl, Or.inr ⟨rfl, rfl⟩⟩
  · rw [if_neg (fun z => g (by have := (nI_z (by omega)).mp z; omega)), if_neg (fun z => g ((nI_z (by omega)).mp z)), m_fails0, zbd_S, show (100 : Int32) = nI 100 from rfl, pk_rem (by omega) (by omega) (by omega), pk_div (by omega) (by omega) (by omega), show (100 * r + d) / 100 = r by omega, show (100 * r + d) % 100 = d by omega]
    dsimp only
    rw [if_pos (show (0 : Int32) = 0 from rfl)]
    split
    · exact ⟨_, _, _, _, rfl, rfl, Or.inl ⟨rfl, rfl, rfl⟩⟩
    · exact ⟨_, _, _, _, rfl, rfl, Or.inl ⟨rfl, rfl, rfl⟩⟩

/-! PURE 31: lay as a call -/
theorem q_lay {rws : Nat → Int64} {nx ct kept : Int32} {hist : Nat → Nat → Int32} {fb : Nat → Int64} {now : Nat → Int32} {b : Nat → Nat} (h : yH rws nx ct hist kept) (hP : yP fb b) (hN : yN now b) (hV : yV2 b) (thrown : Int32) (p1 p2 p3 : Int32) :
    ∃ (o : Nat) (t x y nx' ct' : Int32) (fb' rws' : Nat → Int64) (now' : Nat → Int32) (hist' : Nat → Nat → Int32) (b' : Nat → Nat), fX4_lay fb rws nx ct p1 p2 p3 = some (o, x, fb', rws', nx', ct') ∧ fX5_lay thrown now hist kept p1 p2 p3 = some (y, t, now', hist', ct') ∧
      ((o = 0 ∧ t = 0 ∧ x = y) ∨ (o = 1 ∧ t = 1) ∨ (o = 2 ∧ t = 2) ∨ (o = 3 ∧ t = 3)) ∧ yH rws' nx' ct' hist' ct' ∧ yP fb' b' ∧ yN now' b' ∧ yV2 b' := by
  have hct : ct = kept := by
    obtain ⟨x, c, B, _, _, _, e1, e2, _⟩ := h
    rw [e1, e2]
  subst hct
  unfold fX4_lay fX5_lay
  rcases y_sd p1 with ⟨s, hs, rfl, e1, e2⟩ | ⟨e1, e2⟩
  · rw [e1, e2, zbd_S, zbd_S, if_pos rfl, if_neg (show ¬ (1 : Int32) = 0 by decide)]
    rcases y_sq p3 with ⟨q, hq, rfl, g1, g2⟩ | ⟨g1, g2⟩
    · rw [g1, g2, zbd_S, zbd_S, if_pos rfl, if_neg (show ¬ (1 : Int32) = 0 by decide)]
      unfold fX5_lay_21
      rw [m_fails0, zbd_S]
      dsimp only
      rw [if_pos (show (0 : Int32) = 0 from rfl)]
      rcases y_between p2 3 (by omega) with ⟨k, hk, rfl⟩ | hout
      · rw [if_neg (nI_pos (by omega)), if_pos (show nI k < (4 : Int32) from nI_lt (b := 4) (by omega) (by omega)), show fX5_isBetween (nI k) 0 3 = some 1 from y_btw1 (lo := 0) (hi := 3) (by omega) hk (by omega), zbd_S, if_neg (show ¬ (1 : Int32) = 0 by decide)]
        unfold fX5_lay_43
        rw [m_fails0, zbd_S]
        dsimp only
        rw [if_pos (show (0 : Int32) = 0 from rfl)]
        rcases y_free_lay hP hN hV.1 hq with ⟨f1, f2, f3, f4, f5⟩ | ⟨f1, f2⟩
        · rw [f1, f2, zbd_S, zbd_S, if_pos rfl, if_pos (show (0 : Int32) = 0 from rfl)]
          unfold fX5_lay_76 fX5_lay_72
          -- what an accepted lay does
          have hin : (∀ s', s' ≤ 1 → 1 + 4 * s + k = 4 + 4 * s' → ∀ r, r < 36 → b r ≠ 4 + 4 * s') → ∃ (x nx' ct' : Int32) (fb' rws' : Nat → Int64) (now' : Nat → Int32) (hist' : Nat → Nat → Int32) (b' : Nat → Nat), fX4_lay_59 fb rws nx ct (nI s) (nI k) (nI q) = some (0, x, fb', rws', nx', ct') ∧ fX5_lay_77 0 now hist ct (nI s) (nI k) (nI q) 0 3 = some (x, 0, now', hist', ct') ∧ yH rws' nx' ct' hist' ct' ∧ yP fb' b' ∧ yN now' b' ∧ yV2 b' := by
            intro hkk
            obtain ⟨rws', nx', ct', hist', r1, r2, r3⟩ := y_remember h hP hN hV
            obtain ⟨T, T1, T2⟩ := ySW_of hq
            obtain ⟨fb', z1, z2⟩ := c_put hP hs (show k ≤ 3 by omega) hq f4 T2
            have hc8 := (y_cd s (by omega) k (by omega)).2.2.2.2.2
            have hV' := yV_lay hV hq f4 f5 (Or.inl hc8) hkk
            have hN' : yN (upd now q (nI (1 + 4 * s + k))) (yput b q (1 + 4 * s + k)) := yN_put hN q _
            refine ⟨nI (fb_ct (ypc (yput b q (1 + 4 * s + k)) s) 36), nx', ct', fb', rws', _, hist', _, ?_, ?_, r3, z2, hN', hV'⟩
            · unfold fX4_lay_59
              rw [r1, zbd_S, T1, zbd_S, z1, zbd_S, p_pieces _ hs, zbd_S, y3size (z2.1 s hs), zbd_S]
            · unfold fX5_lay_77
              rw [m_fails0, zbd_S]
              dsimp only
              rw [if_pos (show (0 : Int32) = 0 from rfl), r2, zbd_S, m_codeOf s (by omega) k (by omega), zbd_S, zck_N (by omega) (by omega), tn_n (by omega), m_countPieces hN' hV'.1 hs, zbd_S]
          by_cases gk : k = 3
          · rw [gk, if_pos (show nI 3 = (3 : Int32) from rfl), if_pos (show nI 3 = (3 : Int32) from rfl), c_kq hP hV.1 hs, m_kq hN hV.1 hs, zbd_S, zbd_S]
            have hn1 : ∀ q, q < 36 → ¬ nI q = -1 := by decide +kernel
            by_cases gq : ykq b s < 36
            · rw [yI_lt (show ykq b s ≤ 35 by omega), if_neg (hn1 _ gq), if_neg (nI_pos (by omega))]
              exact ⟨_, _, _, _, _, _, _, _, _, _, b, rfl, rfl, Or.inr (Or.inr (Or.inr ⟨rfl, rfl⟩)), h, hP, hN, hV⟩
            · rw [yI_ge (show ¬ ykq b s ≤ 35 by omega), if_pos rfl, if_pos (by decide)]
              rw [gk] at hin
              obtain ⟨x, nx', ct', fb', rws', now', hist', b', z1, z2, z3, z4, z5, z6⟩ := hin (fun s' hs' e r hr => by
                have es : s' = s := by omega
                rcases ykq_K b s with ⟨u, u1, u2, u3⟩ | ⟨u1, u2⟩
                · exfalso
                  rw [yI_ge (by omega)] at u3
                  exact hn1 u u1 u3.symm
                · rw [es]; exact u1 r hr)
              rw [z1, z2]
              exact ⟨_, _, _, _, _, _, _, _, _, _, b', rfl, rfl, Or.inl ⟨rfl, rfl, rfl⟩, z3, z4, z5, z6⟩
          · have hz3 : ¬ nI k = (3 : Int32) := fun z => gk ((nI_eq (b := 3) (by omega) (by omega)).mp z)
            rw [if_neg hz3, if_neg hz3]
            obtain ⟨x, nx', ct', fb', rws', now', hist', b', z1, z2, z3, z4, z5, z6⟩ := hin (fun s' hs' e r hr => by omega)
            rw [z1, z2]
            exact ⟨_, _, _, _, _, _, _, _, _, _, b', rfl, rfl, Or.inl ⟨rfl, rfl, rfl⟩, z3, z4, z5, z6⟩
        · rw [f1, f2, zbd_S, zbd_S, if_neg (by decide), if_neg (show ¬ (1 : Int32) = 0 by decide)]
          exact ⟨_, _, _, _, _, _, _, _, _, _, b, rfl, rfl, Or.inr (Or.inr (Or.inr ⟨rfl, rfl⟩)), h, hP, hN, hV⟩
      · rw [show fX5_isBetween p2 0 3 = some 0 from y_btw hout, zbd_S, if_pos rfl]
        by_cases g : p2 < 0
        · rw [if_pos g]
          exact ⟨_, _, _, _, _, _, _, _, _, _, b, rfl, rfl, Or.inr (Or.inr (Or.inl ⟨rfl, rfl⟩)), h, hP, hN, hV⟩
        · have h35 := Int32.lt_iff_toInt_lt.mp (hout.resolve_left g)
          have e35 : (nI 3).toInt = 3 := by decide
          have e36 : (4 : Int32).toInt = 4 := by decide
          rw [if_neg g, if_neg (fun z => by have := Int32.lt_iff_toInt_lt.mp z; omega)]
          exact ⟨_, _, _, _, _, _, _, _, _, _, b, rfl, rfl, Or.inr (Or.inr (Or.inl ⟨rfl, rfl⟩)), h, hP, hN, hV⟩
    · rw [g1, g2, zbd_S, zbd_S, if_neg (by decide), if_pos rfl]
      exact ⟨_, _, _, _, _, _, _, _, _, _, b, rfl, rfl, Or.inr (Or.inl ⟨rfl, rfl⟩), h, hP, hN, hV⟩
  · rw [e1, e2, zbd_S, zbd_S, if_neg (by decide), if_pos rfl]
    exact ⟨_, _, _, _, _, _, _, _, _, _, b, rfl, rfl, Or.inr (Or.inl ⟨rfl, rfl⟩), h, hP, hN, hV⟩

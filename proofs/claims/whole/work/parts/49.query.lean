/-! PURE 9: rooms and reach, told by both -/
theorem yIx_eq {P : Nat → Bool} {r m x : Nat} {ra : Nat → Int32} (h : yIx P r ra) (hr : yNr P r) (hm : m < r) (hx : x < 36) : ra x = nI m ↔ yrm (yL P m) x = true := by
  have h36 := yNr_36 hr
  have hex : P x = true → ∃ m, m < r ∧ ra x = nI m ∧ yrm (yL P m) x = true := h.1 x hx (hr.2 x hx)
  constructor
  · intro e
    cases g : P x with
    | false =>
      have := h.2 x hx (Or.inl g)
      rw [e] at this
      exfalso
      have h2 := congrArg Int32.toInt this
      rw [nI_toInt (by omega)] at h2
      have : (-1 : Int32).toInt = -1 := by decide
      omega
    | true =>
      obtain ⟨m', a, c, d⟩ := hex g
      have : m = m' := (nI_eq (by omega) (by omega)).mp (e.symm.trans c)
      rw [this]; exact d
  · intro g
    have hl := yL_rm.mpr g
    obtain ⟨m', a, c, d⟩ := hex (yL_le hl.1 (Nat.zero_le _))
    have hl' := yL_rm.mpr d
    have : m = m' := by
      rcases Nat.lt_trichotomy m m' with q | q | q
      · have := yL_le hl'.1 (show m + 1 ≤ m' by omega)
        rw [hl.2] at this
        cases this
      · exact q
      · have := yL_le hl.1 (show m' + 1 ≤ m by omega)
        rw [hl'.2] at this
        cases this
    rw [this]; exact c
theorem m_squaresIn {P : Nat → Bool} {r m : Nat} {ra : Nat → Int32} (h : yIx P r ra) (hr : yNr P r) (hm : m < r) : fX5_squaresIn ra (nI m) = some (nI (fb_ct (yrm (yL P m)) 36)) := by
  unfold fX5_squaresIn
  refine lp_ct0 (fun n a x => fX5_squaresIn_4 ra n (nI m) a (nI x)) (fun a => some a) (yrm (yL P m)) 36 (by omega) (fun n a x h1 h2 => ?_) (fun n a x hx => ?_)
  · show fX5_squaresIn_4 ra (n + 1) (nI m) a (nI x) = some a
    rw [fX5_squaresIn_4, if_pos (show (36 : Int32) ≤ nI x from nI_le (a := 36) (by omega) (by omega))]
  · show fX5_squaresIn_4 ra (n + 1) (nI m) a (nI x) = fX5_squaresIn_4 ra n (nI m) (a + yb (yrm (yL P m) x)) (nI (x + 1))
    rw [fX5_squaresIn_4, if_neg (show ¬ (36 : Int32) ≤ nI x from nI_ge (b := 36) (by omega) (by omega)), zck_N (by omega) (by omega), tn_n (by omega)]
    unfold fX5_squaresIn_26
    have e := yIx_eq h hr hm hx
    cases g : yrm (yL P m) x
    · rw [if_neg (fun z => by have := e.mp z; rw [g] at this; cases this), zbn_E, zbn_E, ← nI_1 x, yb_f]
    · rw [if_pos (e.mpr g), zbn_E, zbn_E, ← nI_1 x, yb_t]
theorem m_countIn {now : Nat → Int32} {b : Nat → Nat} (hN : yN now b) (hv : yV b) {P : Nat → Bool} {r m t : Nat} {ra : Nat → Int32} (h : yIx P r ra) (hr : yNr P r) (hm : m < r) (ht : t ≤ 1) : fX5_countIn now ra (nI m) (nI t) = some (nI (fb_ct (fun i => yrm (yL P m) i && ypc b t i) 36)) := by
  unfold fX5_countIn
  refine lp_ct0 (fun n a x => fX5_countIn_5 now ra n (nI m) (nI t) a (nI x)) (fun a => some a) (fun i => yrm (yL P m) i && ypc b t i) 36 (by omega) (fun n a x h1 h2 => ?_) (fun n a x hx => ?_)
  · show fX5_countIn_5 now ra (n + 1) (nI m) (nI t) a (nI x) = some a
    rw [fX5_countIn_5, if_pos (show (36 : Int32) ≤ nI x from nI_le (a := 36) (by omega) (by omega))]
  · show fX5_countIn_5 now ra (n + 1) (nI m) (nI t) a (nI x) = fX5_countIn_5 now ra n (nI m) (nI t) (a + yb (yrm (yL P m) x && ypc b t x)) (nI (x + 1))
    have := yV_28 hv hx
    rw [fX5_countIn_5, if_neg (show ¬ (36 : Int32) ≤ nI x from nI_ge (b := 36) (by omega) (by omega)), zck_N (by omega) (by omega), tn_n (show x < 2000 by omega)]
    unfold fX5_countIn_42 fX5_countIn_43
    have e := yIx_eq h hr hm hx
    cases g : yrm (yL P m) x
    · rw [if_neg (fun z => by have := e.mp z; rw [g] at this; cases this), zbn_E, zbn_E, ← nI_1 x, Bool.false_and, yb_f]
    · rw [if_pos (e.mpr g), zck_N (by omega) (by omega), hN x (by omega), m_sideOf _ (by omega), zbd_S, Bool.true_and]
      unfold ypc
      by_cases g2 : ysd (b x) = t
      · rw [if_pos ((yI_sd ht).mpr g2), decide_eq_true g2, zbn_E, zbn_E, ← nI_1 x, yb_t]
      · rw [if_neg (fun z => g2 ((yI_sd ht).mp z)), decide_eq_false g2, zbn_E, zbn_E, ← nI_1 x, yb_f]
theorem m_doorsIn {now : Nat → Int32} {b : Nat → Nat} (hN : yN now b) (hv : yV b) {P : Nat → Bool} {r m : Nat} {ra : Nat → Int32} (h : yIx P r ra) (hr : yNr P r) (hm : m < r) : fX5_doorsIn now ra (nI m) = some (nI (fb_ct (fun i => yrm (yL P m) i && (decide (b (36 + i) = 1) || decide (b (36 + i) = 2))) 36)) := by
  unfold fX5_doorsIn
  refine lp_ct0 (fun n a x => fX5_doorsIn_4 now ra n (nI m) a (nI x)) (fun a => some a) (fun i => yrm (yL P m) i && (decide (b (36 + i) = 1) || decide (b (36 + i) = 2))) 36 (by omega) (fun n a x h1 h2 => ?_) (fun n a x hx => ?_)
  · show fX5_doorsIn_4 now ra (n + 1) (nI m) a (nI x) = some a
    rw [fX5_doorsIn_4, if_pos (show (36 : Int32) ≤ nI x from nI_le (a := 36) (by omega) (by omega))]
  · show fX5_doorsIn_4 now ra (n + 1) (nI m) a (nI x) = fX5_doorsIn_4 now ra n (nI m) (a + yb (yrm (yL P m) x && (decide (b (36 + x) = 1) || decide (b (36 + x) = 2)))) (nI (x + 1))
    have hd := hv.2.1 x hx
    rw [fX5_doorsIn_4, if_neg (show ¬ (36 : Int32) ≤ nI x from nI_ge (b := 36) (by omega) (by omega)), zck_N (by omega) (by omega), tn_n (show x < 2000 by omega)]
    unfold fX5_doorsIn_37 fX5_doorsIn_38
    have e := yIx_eq h hr hm hx
    cases g : yrm (yL P m) x
    · rw [if_neg (fun z => by have := e.mp z; rw [g] at this; cases this), zbn_E, zbn_E, ← nI_1 x, Bool.false_and, yb_f]
    · rw [if_pos (e.mpr g), show (36 : Int32) + nI x = nI (36 + x) from nI_add 36 x, zck_N (by omega) (by omega), tn_n (by omega), hN (36 + x) (by omega), Bool.true_and]
      by_cases g2 : b (36 + x) = 0
      · rw [g2, if_pos (by decide), zbn_E, zbn_E, ← nI_1 x]; rfl
      · rw [if_neg (nI_nle (by omega) (by omega)), zbn_E, zbn_E, ← nI_1 x]
        rcases (show b (36 + x) = 1 ∨ b (36 + x) = 2 by omega) with e | e <;> rw [e] <;> rfl
theorem m_lowestIn {P : Nat → Bool} {r m v : Nat} {ra : Nat → Int32} (h : yIx P r ra) (hr : yNr P r) (hm : m < r) (hlo : yLo (yrm (yL P m)) v) : fX5_lowestIn ra (nI m) = some (nI v) := by
  have hl : ∀ d x n, x + d = v → d < n → fX5_lowestIn_2 ra n (nI m) (nI x) = some (nI v) := by
    intro d
    induction d with
    | zero =>
      intro x n hx hn
      cases n with
      | zero => omega
      | succ n =>
        have e : x = v := by omega
        subst e
        have := hlo.1
        rw [fX5_lowestIn_2, zck_N hlo.1 (by omega), tn_n (by omega), if_pos ((yIx_eq h hr hm hlo.1).mpr hlo.2.1)]
    | succ d ih =>
      intro x n hx hn
      cases n with
      | zero => omega
      | succ n =>
        have := hlo.1
        have g := hlo.2.2 x (by omega)
        rw [fX5_lowestIn_2, zck_N (by omega) (by omega), tn_n (by omega), if_neg (fun z => by have := (yIx_eq h hr hm (show x < 36 by omega)).mp z; rw [g] at this; cases this), zbn_E, nI_1]
        exact ih (x + 1) n (by omega) (by omega)
  have := hlo.1
  unfold fX5_lowestIn
  exact hl v 0 zFu (by omega) (by unfold zFu; omega)
/-- the squares of the m-th room, if no piece of s is in it -/
def yG (b : Nat → Nat) (s m : Nat) : Nat := if fb_ct (fun i => yrm (yL (yop b s) m) i && ypc b s i) 36 = 0 then fb_ct (yrm (yL (yop b s) m)) 36 else 0
def ySm (g : Nat → Nat) : Nat → Nat
  | 0 => 0
  | n + 1 => ySm g n + g n
theorem m_countSealed {now : Nat → Int32} {b : Nat → Nat} (hN : yN now b) (hv : yV b) {s : Nat} (hs : s ≤ 1) (queue roomAt : Nat → Int32) (rooms : Int32) : ∃ q' ra' r' r, fX5_countSealed now queue roomAt rooms (nI s) = some (nI (ySm (yG b s) r), q', ra', r') ∧ yNr (yop b s) r := by
  obtain ⟨q', ra', r, e1, hr, hI⟩ := m_findRooms hN hv hs queue roomAt rooms
  have h36 := yNr_36 hr
  have hl : ∀ d m n, m + d = r → d < n → fX5_countSealed_9 now n q' ra' (nI r) (nI s) (nI (ySm (yG b s) m)) (nI m) = some (nI (ySm (yG b s) r), q', ra', nI r) := by
    intro d
    induction d with
    | zero =>
      intro m n hm hn
      cases n with
      | zero => omega
      | succ n =>
        rw [fX5_countSealed_9, if_pos (nI_le (by omega) (by omega)), show m = r by omega]
    | succ d ih =>
      intro m n hm hn
      cases n with
      | zero => omega
      | succ n =>
        have hsz := fb_ct_le (fun i => yrm (yL (yop b s) m) i && ypc b s i) 36
        rw [fX5_countSealed_9, if_neg (nI_ge (by omega) (by omega)), m_countIn hN hv hI hr (by omega) hs, zbd_S]
        unfold fX5_countSealed_36
        by_cases g : fb_ct (fun i => yrm (yL (yop b s) m) i && ypc b s i) 36 = 0
        · rw [if_pos ((nI_z (by omega)).mpr g), m_squaresIn hI hr (by omega), zbd_S, zbn_E, zbn_E, nI_1, nI_add]
          have e : ySm (yG b s) m + fb_ct (yrm (yL (yop b s) m)) 36 = ySm (yG b s) (m + 1) := by
            show _ = ySm (yG b s) m + yG b s m
            unfold yG
            rw [if_pos g]
          rw [e]
          exact ih (m + 1) n (by omega) (by omega)
        · rw [if_neg (fun z => g ((nI_z (by omega)).mp z)), zbn_E, zbn_E, nI_1, show (0 : Int32) = nI 0 from rfl, nI_add]
          have e : ySm (yG b s) m + 0 = ySm (yG b s) (m + 1) := by
            show _ = ySm (yG b s) m + yG b s m
            unfold yG
            rw [if_neg g]
          rw [e]
          exact ih (m + 1) n (by omega) (by omega)
  refine ⟨q', ra', nI r, r, ?_, hr⟩
  unfold fX5_countSealed
  rw [e1, zbd_S]
  exact hl r 0 zFu (by omega) (by unfold zFu; omega)
/-! the class -/
theorem c_rm {P : Nat → Bool} {w : Int64} {n : Nat} (h : ySW w (yL P n)) (hne : ∃ i, i < 36 ∧ yL P n i = true) : ∃ u, fX3_lowestRoom w = some u ∧ ySW u (yrm (yL P n)) ∧ ySW (w &&& (u ^^^ (-1))) (yL P (n + 1)) := by
  obtain ⟨v, hv⟩ := yLo_ex hne
  obtain ⟨u, h1, h2⟩ := y3room h hv
  have h3 := ySW_c h2 (yrm_lo hv)
  exact ⟨u, h1, h3, ySW_dif h h3⟩
theorem y_nz {P : Nat → Bool} {w : Int64} (h : ySW w P) (hz : ¬ w = 0) : ∃ i, i < 36 ∧ P i = true := by
  rcases Classical.em (∃ i, i < 36 ∧ P i = true) with g | g
  · exact g
  · refine absurd ((ySW_z h).mpr (fun i hi => ?_)) hz
    cases e : P i with
    | false => rfl
    | true => exact absurd ⟨i, hi, e⟩ g
theorem y_zz {P : Nat → Bool} {n : Nat} {w : Int64} (h : ySW w (yL P n)) (hN : ∀ m, m < n → ∃ i, i < 36 ∧ yL P m i = true) (hn : 36 ≤ n) : w = 0 := by
  have := yL_n hN
  exact (ySW_z h).mpr (fb_ct_zero.mp (by omega))
theorem c_countRooms {f : Nat → Int64} {b : Nat → Nat} (h : yP f b) {s : Nat} (hs : s ≤ 1) : ∃ r, fX2_countRooms f (nI s) = some (nI r) ∧ yNr (yop b s) r := by
  have hl : ∀ d r n w, r + d = 36 → d < n → ySW w (yL (yop b s) r) → (∀ m, m < r → ∃ i, i < 36 ∧ yL (yop b s) m i = true) → ∃ r', fX2_countRooms_9 f n w (nI r) = some (nI r') ∧ yNr (yop b s) r' := by
    intro d
    induction d with
    | zero =>
      intro r n w hr hn hw hN
      cases n with
      | zero => omega
      | succ n =>
        have hz := y_zz hw hN (by omega)
        rw [fX2_countRooms_9, if_pos ((zlc _ _).mpr hz)]
        exact ⟨r, rfl, hN, (ySW_z hw).mp hz⟩
    | succ d ih =>
      intro r n w hr hn hw hN
      cases n with
      | zero => omega
      | succ n =>
        rw [fX2_countRooms_9]
        by_cases hz : w = 0
        · rw [if_pos ((zlc _ _).mpr hz)]
          exact ⟨r, rfl, hN, (ySW_z hw).mp hz⟩
        · have hne := y_nz hw hz
          obtain ⟨u, u1, u2, u3⟩ := c_rm hw hne
          rw [if_neg (fun z => hz ((zlc _ _).mp z)), if_neg (show ¬ (36 : Int32) ≤ nI r from nI_ge (b := 36) (by omega) (by omega)), u1, zbd_S, zbn_E, zbn_E, nI_1]
          refine ih (r + 1) n _ (by omega) (by omega) u3 (fun m hm => ?_)
          by_cases e : m = r
          · rw [e]; exact hne
          · exact hN m (by omega)
  obtain ⟨w, w1, w2⟩ := c_open h hs
  unfold fX2_countRooms
  rw [w1, zbd_S]
  exact hl 36 0 zFu w (by omega) (by unfold zFu; omega) w2 (fun m hm => absurd hm (by omega))
theorem c_countSealed {f : Nat → Int64} {b : Nat → Nat} (h : yP f b) {s : Nat} (hs : s ≤ 1) : ∃ r, fX2_countSealedByRooms f (nI s) = some (nI (ySm (yG b s) r)) ∧ yNr (yop b s) r := by
  have hl : ∀ d r n w, r + d = 36 → d < n → ySW w (yL (yop b s) r) → (∀ m, m < r → ∃ i, i < 36 ∧ yL (yop b s) m i = true) → ∃ r', fX2_countSealedByRooms_12 f n (nI s) w (nI (ySm (yG b s) r)) (nI r) = some (nI (ySm (yG b s) r')) ∧ yNr (yop b s) r' := by
    intro d
    induction d with
    | zero =>
      intro r n w hr hn hw hN
      cases n with
      | zero => omega
      | succ n =>
        have hz := y_zz hw hN (by omega)
        rw [fX2_countSealedByRooms_12, if_pos (show (36 : Int32) ≤ nI r from nI_le (a := 36) (by omega) (by omega))]
        exact ⟨r, rfl, hN, (ySW_z hw).mp hz⟩
    | succ d ih =>
      intro r n w hr hn hw hN
      cases n with
      | zero => omega
      | succ n =>
        rw [fX2_countSealedByRooms_12, if_neg (show ¬ (36 : Int32) ≤ nI r from nI_ge (b := 36) (by omega) (by omega))]
        by_cases hz : w = 0
        · rw [if_pos ((zlc _ _).mpr hz)]
          exact ⟨r, rfl, hN, (ySW_z hw).mp hz⟩
        · have hne := y_nz hw hz
          obtain ⟨u, u1, u2, u3⟩ := c_rm hw hne
          have hN' : ∀ m, m < r + 1 → ∃ i, i < 36 ∧ yL (yop b s) m i = true := fun m hm => by
            by_cases e : m = r
            · rw [e]; exact hne
            · exact hN m (by omega)
          have hp : ySW (u &&& f s) (fun i => yrm (yL (yop b s) r) i && ypc b s i) := ySW_and u2 (h.1 s hs)
          rw [if_neg (fun z => hz ((zlc _ _).mp z)), u1, zbd_S, p_pieces f hs, zbd_S]
          unfold fX2_countSealedByRooms_54
          by_cases g : fb_ct (fun i => yrm (yL (yop b s) r) i && ypc b s i) 36 = 0
          · rw [if_pos ((zlc _ _).mpr ((ySW_z hp).mpr (fb_ct_zero.mp g))), y3size u2, zbd_S, zbn_E, zbn_E, zbn_E, nI_1, nI_add]
            have e : ySm (yG b s) r + fb_ct (yrm (yL (yop b s) r)) 36 = ySm (yG b s) (r + 1) := by
              show _ = ySm (yG b s) r + yG b s r
              unfold yG
              rw [if_pos g]
            rw [e]
            exact ih (r + 1) n _ (by omega) (by omega) u3 hN'
          · rw [if_neg (fun z => g (fb_ct_zero.mpr ((ySW_z hp).mp ((zlc _ _).mp z)))), zbn_E, zbn_E, nI_1]
            have e : ySm (yG b s) r = ySm (yG b s) (r + 1) := by
              show _ = ySm (yG b s) r + yG b s r
              unfold yG
              rw [if_neg g, Nat.add_zero]
            rw [e]
            exact ih (r + 1) n _ (by omega) (by omega) u3 hN'
  obtain ⟨w, w1, w2⟩ := c_open h hs
  unfold fX2_countSealedByRooms
  rw [w1, zbd_S]
  exact hl 36 0 zFu w (by omega) (by unfold zFu; omega) w2 (fun m hm => absurd hm (by omega))
theorem c_roomNumberOf {f : Nat → Int64} {b : Nat → Nat} (h : yP f b) {s q r m : Nat} (hs : s ≤ 1) (hq : q < 36) (hr : yNr (yop b s) r) (hm : m < r) (hrm : yrm (yL (yop b s) m) q = true) : fX2_roomNumberOf f (nI s) (nI q) = some (nI m) := by
  have h36 := yNr_36 hr
  have hlm := yL_rm.mpr hrm
  have hl : ∀ d k n w, k + d = m → d < n → ySW w (yL (yop b s) k) → fX2_roomNumberOf_9 f n (nI q) w (nI k) = some (nI m) := by
    intro d
    induction d with
    | zero =>
      intro k n w hk hn hw
      cases n with
      | zero => omega
      | succ n =>
        have e : k = m := by omega
        subst e
        obtain ⟨u, u1, u2, u3⟩ := c_rm hw (hr.1 k hm)
        rw [fX2_roomNumberOf_9, if_neg (show ¬ (36 : Int32) ≤ nI k from nI_ge (b := 36) (by omega) (by omega)), yhas hw hq, zbd_S, hlm.1, yb_t, if_neg (by decide), u1, zbd_S, zbn_E, yhas u3 hq, zbd_S, hlm.2, yb_f, if_pos rfl]
    | succ d ih =>
      intro k n w hk hn hw
      cases n with
      | zero => omega
      | succ n =>
        obtain ⟨u, u1, u2, u3⟩ := c_rm hw (hr.1 k (by omega))
        rw [fX2_roomNumberOf_9, if_neg (show ¬ (36 : Int32) ≤ nI k from nI_ge (b := 36) (by omega) (by omega)), yhas hw hq, zbd_S, yL_le hlm.1 (show k ≤ m by omega), yb_t, if_neg (by decide), u1, zbd_S, zbn_E, yhas u3 hq, zbd_S, yL_le hlm.1 (show k + 1 ≤ m by omega), yb_t, if_neg (by decide), zbn_E, nI_1]
        exact ih (k + 1) n _ (by omega) (by omega) u3
  obtain ⟨w, w1, w2⟩ := c_open h hs
  unfold fX2_roomNumberOf
  rw [w1, zbd_S]
  exact hl m 0 zFu w (by omega) (by unfold zFu; omega) w2
theorem c_roomNumberOf0 {f : Nat → Int64} {b : Nat → Nat} (h : yP f b) {s q : Nat} (hs : s ≤ 1) (hq : q < 36) (ho : yop b s q = false) : fX2_roomNumberOf f (nI s) (nI q) = some (-1) := by
  obtain ⟨w, w1, w2⟩ := c_open h hs
  have hg : ∀ n, fX2_roomNumberOf_9 f (n + 1) (nI q) w (nI 0) = some (-1) := fun n => by
    rw [fX2_roomNumberOf_9, if_neg (show ¬ (36 : Int32) ≤ nI 0 by decide), yhas w2 hq, zbd_S, ho, yb_f, if_pos rfl]
  unfold fX2_roomNumberOf
  rw [w1, zbd_S]
  exact hg 3999
theorem c_roomNumbered {f : Nat → Int64} {b : Nat → Nat} (h : yP f b) {s r m : Nat} (hs : s ≤ 1) (hr : yNr (yop b s) r) (hm : m < 2 ^ 31) : ∃ w, fX2_roomNumbered f (nI s) (nI m) = some w ∧ ((m < r ∧ ySW w (yrm (yL (yop b s) m))) ∨ (r ≤ m ∧ w = 0)) := by
  have h36 := yNr_36 hr
  have hl : ∀ d k n w, k + d = r → d < n → k ≤ m → ySW w (yL (yop b s) k) → ∃ w', fX2_roomNumbered_9 f n (nI m) w (nI k) = some w' ∧ ((m < r ∧ ySW w' (yrm (yL (yop b s) m))) ∨ (r ≤ m ∧ w' = 0)) := by
    intro d
    induction d with
    | zero =>
      intro k n w hk hn hkm hw
      cases n with
      | zero => omega
      | succ n =>
        have e : k = r := by omega
        subst e
        have hz : w = 0 := (ySW_z hw).mpr hr.2
        have h38 : fX2_roomNumbered_38 f (nI m) w = some 0 := by
          unfold fX2_roomNumbered_38
          rw [if_pos (nI_pos' hm), y3room0 hz, zbd_S]
        rw [fX2_roomNumbered_9]
        by_cases e : nI m ≤ nI k
        · rw [if_pos e, h38]; exact ⟨0, rfl, Or.inr ⟨hkm, rfl⟩⟩
        · rw [if_neg e, if_pos ((zlc _ _).mpr hz), h38]; exact ⟨0, rfl, Or.inr ⟨hkm, rfl⟩⟩
    | succ d ih =>
      intro k n w hk hn hkm hw
      cases n with
      | zero => omega
      | succ n =>
        have hne := hr.1 k (by omega)
        obtain ⟨u, u1, u2, u3⟩ := c_rm hw hne
        have hz : ¬ w = 0 := fun z => by
          obtain ⟨i, i1, i2⟩ := hne
          have := (ySW_z hw).mp z i i1
          rw [i2] at this
          cases this
        rw [fX2_roomNumbered_9]
        by_cases e : m = k
        · subst e
          rw [if_pos (nI_le (Nat.le_refl _) hm)]
          unfold fX2_roomNumbered_38
          rw [if_pos (nI_pos' hm), u1, zbd_S]
          exact ⟨u, rfl, Or.inl ⟨by omega, u2⟩⟩
        · rw [if_neg (nI_ge (by omega) (by omega)), if_neg (fun z => hz ((zlc _ _).mp z)), u1, zbd_S, zbn_E, zbn_E, nI_1]
          exact ih (k + 1) n _ (by omega) (by omega) (by omega) u3
  obtain ⟨w, w1, w2⟩ := c_open h hs
  unfold fX2_roomNumbered
  rw [w1, zbd_S]
  exact hl r 0 zFu w (by omega) (by unfold zFu; omega) (by omega) w2
theorem c_roomNumbered0 {f : Nat → Int64} {b : Nat → Nat} (h : yP f b) {s : Nat} (hs : s ≤ 1) {x : Int32} (hx : x < 0) : fX2_roomNumbered f (nI s) x = some 0 := by
  obtain ⟨w, w1, w2⟩ := c_open h hs
  have h1 := Int32.lt_iff_toInt_lt.mp hx
  have h0 : (0 : Int32).toInt = 0 := by decide
  have hg : ∀ n, fX2_roomNumbered_9 f (n + 1) x w 0 = some 0 := fun n => by
    rw [fX2_roomNumbered_9, if_pos (Int32.le_iff_toInt_le.mpr (by omega))]
    unfold fX2_roomNumbered_38
    rw [if_neg (fun z => by have := Int32.le_iff_toInt_le.mp z; omega)]
  unfold fX2_roomNumbered
  rw [w1, zbd_S]
  exact hg 3999
theorem y_pc_op {b : Nat → Nat} (hv : yV b) {s i : Nat} (hs : s ≤ 1) (hi : i < 36) (hp : ypc b s i = true) : yop b s i = true := by
  have hp' : ysd (b i) = s := of_decide_eq_true hp
  have hc := hv.1 i hi
  have h2 := (y_code (c := b i) (by omega) (by omega)).2.1 (by omega)
  have hd := hv.2.2.2.1 i hi (by omega)
  unfold yop
  rw [h2.2.2.1, decide_eq_false (show ¬ b (36 + i) = 2 - s by omega)]
  rfl
theorem c_byReach {f : Nat → Int64} {b : Nat → Nat} (h : yP f b) {s : Nat} (hs : s ≤ 1) : fX2_countSealedByReach f (nI s) = some (nI (fb_ct (fun i => yop b s i && !yR (yop b s) (ypc b s) 36 i) 36)) := by
  obtain ⟨w, w1, w2⟩ := c_open h hs
  obtain ⟨v, v1, v2⟩ := y3reached (h.1 s hs) w2
  unfold fX2_countSealedByReach
  rw [w1, zbd_S, p_pieces f hs, zbd_S, v1, zbd_S, y3size (ySW_dif w2 v2), zbd_S]
theorem c_steps {f : Nat → Int64} {b : Nat → Nat} (h : yP f b) {s q : Nat} (hs : s ≤ 1) (hq : q < 36) : ∃ x, fX2_countStepsTo f (nI s) (nI q) = some x ∧ ((∃ k, k < 36 ∧ x = nI k ∧ yR (yop b s) (ypc b s) k q = true ∧ ∀ j, j < k → yR (yop b s) (ypc b s) j q = false) ∨ (x = -1 ∧ ∀ j, j < 36 → yR (yop b s) (ypc b s) j q = false)) := by
  obtain ⟨w, w1, w2⟩ := c_open h hs
  have hl : ∀ d k n v, k + d = 36 → d < n → ySW v (yR (yop b s) (ypc b s) k) → (∀ j, j < k → yR (yop b s) (ypc b s) j q = false) → ∃ x, fX2_countStepsTo_18 f n (nI q) w v (nI k) = some x ∧ ((∃ k, k < 36 ∧ x = nI k ∧ yR (yop b s) (ypc b s) k q = true ∧ ∀ j, j < k → yR (yop b s) (ypc b s) j q = false) ∨ (x = -1 ∧ ∀ j, j < 36 → yR (yop b s) (ypc b s) j q = false)) := by
    intro d
    induction d with
    | zero =>
      intro k n v hk hn hv hj
      cases n with
      | zero => omega
      | succ n =>
        rw [fX2_countStepsTo_18, if_pos (show (36 : Int32) ≤ nI k from nI_le (a := 36) (by omega) (by omega))]
        exact ⟨-1, rfl, Or.inr ⟨rfl, fun j h => hj j (by omega)⟩⟩
    | succ d ih =>
      intro k n v hk hn hv hj
      cases n with
      | zero => omega
      | succ n =>
        rw [fX2_countStepsTo_18, if_neg (show ¬ (36 : Int32) ≤ nI k from nI_ge (b := 36) (by omega) (by omega)), yhas hv hq, zbd_S]
        cases g : yR (yop b s) (ypc b s) k q with
        | true => rw [yb_t, if_neg (by decide)]; exact ⟨_, rfl, Or.inl ⟨k, by omega, rfl, g, hj⟩⟩
        | false =>
          obtain ⟨u, u1, u2⟩ := y3around hv
          rw [yb_f, if_pos rfl, u1, zbd_S, zbn_E, zbn_E, nI_1]
          refine ih (k + 1) n _ (by omega) (by omega) (ySW_c (ySW_or hv (ySW_and u2 w2)) (fun i hi => ?_)) (fun j h2 => ?_)
          · show (yR (yop b s) (ypc b s) k i || (yar (yR (yop b s) (ypc b s) k) i && yop b s i)) = ((yR (yop b s) (ypc b s) k i || yar (yR (yop b s) (ypc b s) k) i) && yop b s i)
            cases e : yR (yop b s) (ypc b s) k i with
            | true => rw [yR_ok e]; rfl
            | false => rfl
          · by_cases e : j = k
            · rw [e]; exact g
            · exact hj j (by omega)
  unfold fX2_countStepsTo
  rw [w1, zbd_S, p_pieces f hs, zbd_S, zbn_E]
  exact hl 36 0 zFu _ (by omega) (by unfold zFu; omega) (ySW_and (h.1 s hs) w2) (fun j hj => absurd hj (by omega))

/-! PURE 9: rooms and reach, told by both -/
theorem yIx_eq {P : Nat → Bool} {r m x : Nat} {ra : Nat → Int32} (h : yIx P r ra) (hr : yNr P r) (hm : m < r) (hx : x < 36) : ra x = nI m ↔ yrm (yL P m) x = true := by
  have h36 := yNr_36 hr
  have hex : P x = true → ∃ m, m < r ∧ ra x = nI m ∧ yrm (yL P m) x = true := h.1 x hx (hr.2 x hx)
  constructor
  · intro e
    cases g : P x with
    | false =>
      have := h.2 x hx (Or.inl g)
      rw [e] at this
      exfalso
      have h2 := congrArg Int32.toInt this
      rw [nI_toInt (by omega)] at h2
      have : (-1 : Int32).toInt = -1 := by decide
      omega
    | true =>
      obtain ⟨m', a, c, d⟩ := hex g
      have : m = m' := (nI_eq (by omega) (by omega)).mp (e.symm.trans c)
      rw [this]; exact d
  · intro g
    have hl := yL_rm.mpr g
    obtain ⟨m', a, c, d⟩ := hex (yL_le hl.1 (Nat.zero_le _))
    have hl' := yL_rm.mpr d
    have : m = m' := by
      rcases Nat.lt_trichotomy m m' with q | q | q
      · have := yL_le hl'.1 (show m + 1 ≤ m' by omega)
        rw [hl.2] at this
        cases this
      · exact q
      · have := yL_le hl.1 (show m' + 1 ≤ m by omega)
        rw [hl'.2] at this
        cases this
    rw [this]; exact c
/-- the squares of the m-th room, if no piece of s is in it -/
def yG (b : Nat → Nat) (s m : Nat) : Nat := if fb_ct (fun i => yrm (yL (yop b s) m) i && ypc b s i) 36 = 0 then fb_ct (yrm (yL (yop b s) m)) 36 else 0
def ySm (g : Nat → Nat) : Nat → Nat
  | 0 => 0
  | n + 1 => ySm g n + g n
/-! the class -/
theorem c_rm {P : Nat → Bool} {w : Int64} {n : Nat} (h : ySW w (yL P n)) (hne : ∃ i, i < 36 ∧ yL P n i = true) : ∃ u, fX3_lowestRoom w = some u ∧ ySW u (yrm (yL P n)) ∧ ySW (w &&& (u ^^^ (-1))) (yL P (n + 1)) := by
  obtain ⟨v, hv⟩ := yLo_ex hne
  obtain ⟨u, h1, h2⟩ := y3room h hv
  have h3 := ySW_c h2 (yrm_lo hv)
  exact ⟨u, h1, h3, ySW_dif h h3⟩
theorem y_nz {P : Nat → Bool} {w : Int64} (h : ySW w P) (hz : ¬ w = 0) : ∃ i, i < 36 ∧ P i = true := by
  rcases Classical.em (∃ i, i < 36 ∧ P i = true) with g | g
  · exact g
  · refine absurd ((ySW_z h).mpr (fun i hi => ?_)) hz
    cases e : P i with
    | false => rfl
    | true => exact absurd ⟨i, hi, e⟩ g
theorem y_zz {P : Nat → Bool} {n : Nat} {w : Int64} (h : ySW w (yL P n)) (hN : ∀ m, m < n → ∃ i, i < 36 ∧ yL P m i = true) (hn : 36 ≤ n) : w = 0 := by
  have := yL_n hN
  exact (ySW_z h).mpr (fb_ct_zero.mp (by omega))
theorem c_countRooms {f : Nat → Int64} {b : Nat → Nat} (h : yP f b) {s : Nat} (hs : s ≤ 1) : ∃ r, fX2_countRooms f (nI s) = some (nI r) ∧ yNr (yop b s) r := by
  have hl : ∀ d r n w, r + d = 36 → d < n → ySW w (yL (yop b s) r) → (∀ m, m < r → ∃ i, i < 36 ∧ yL (yop b s) m i = true) → ∃ r', fX2_countRooms_9 f n w (nI r) = some (nI r') ∧ yNr (yop b s) r' := by
    intro d
    induction d with
    | zero =>
      intro r n w hr hn hw hN
      cases n with
      | zero => omega
      | succ n =>
        have hz := y_zz hw hN (by omega)
        rw [fX2_countRooms_9, if_pos ((zlc _ _).mpr hz)]
        exact ⟨r, rfl, hN, (ySW_z hw).mp hz⟩
    | succ d ih =>
      intro r n w hr hn hw hN
      cases n with
      | zero => omega
      | succ n =>
        rw [fX2_countRooms_9]
        by_cases hz : w = 0
        · rw [if_pos ((zlc _ _).mpr hz)]
          exact ⟨r, rfl, hN, (ySW_z hw).mp hz⟩
        · have hne := y_nz hw hz
          obtain ⟨u, u1, u2, u3⟩ := c_rm hw hne
          rw [if_neg (fun z => hz ((zlc _ _).mp z)), if_neg (show ¬ (36 : Int32) ≤ nI r from nI_ge (b := 36) (by omega) (by omega)), u1, zbd_S, zbn_E, zbn_E, nI_1]
          refine ih (r + 1) n _ (by omega) (by omega) u3 (fun m hm => ?_)
          by_cases e : m = r
          · rw [e]; exact hne
          · exact hN m (by omega)
  obtain ⟨w, w1, w2⟩ := c_open h hs
  unfold fX2_countRooms
  rw [w1, zbd_S]
  exact hl 36 0 zFu w (by omega) (by unfold zFu; omega) w2 (fun m hm => absurd hm (by omega))
theorem c_countSealed {f : Nat → Int64} {b : Nat → Nat} (h : yP f b) {s : Nat} (hs : s ≤ 1) : ∃ r, fX2_countSealedByRooms f (nI s) = some (nI (ySm (yG b s) r)) ∧ yNr (yop b s) r := by
  have hl : ∀ d r n w, r + d = 36 → d < n → ySW w (yL (yop b s) r) → (∀ m, m < r → ∃ i, i < 36 ∧ yL (yop b s) m i = true) → ∃ r', fX2_countSealedByRooms_12 f n (nI s) w (nI (ySm (yG b s) r)) (nI r) = some (nI (ySm (yG b s) r')) ∧ yNr (yop b s) r' := by
    intro d
    induction d with
    | zero =>
      intro r n w hr hn hw hN
      cases n with
      | zero => omega
      | succ n =>
        have hz := y_zz hw hN (by omega)
        rw [fX2_countSealedByRooms_12, if_pos (show (36 : Int32) ≤ nI r from nI_le (a := 36) (by omega) (by omega))]
        exact ⟨r, rfl, hN, (ySW_z hw).mp hz⟩
    | succ d ih =>
      intro r n w hr hn hw hN
      cases n with
      | zero => omega
      | succ n =>
        rw [fX2_countSealedByRooms_12, if_neg (show ¬ (36 : Int32) ≤ nI r from nI_ge (b := 36) (by omega) (by omega))]
        by_cases hz : w = 0
        · rw [if_pos ((zlc _ _).mpr hz)]
          exact ⟨r, rfl, hN, (ySW_z hw).mp hz⟩
        · have hne := y_nz hw hz
          obtain ⟨u, u1, u2, u3⟩ := c_rm hw hne
          have hN' : ∀ m, m < r + 1 → ∃ i, i < 36 ∧ yL (yop b s) m i = true := fun m hm => by
            by_cases e : m = r
            · rw [e]; exact hne
            · exact hN m (by omega)
          have hp : ySW (u &&& f s) (fun i => yrm (yL (yop b s) r) i && ypc b s i) := ySW_and u2 (h.1 s hs)
          rw [if_neg (fun z => hz ((zlc _ _).mp z)), u1, zbd_S, p_pieces f hs, zbd_S]
          unfold fX2_countSealedByRooms_54
          by_cases g : fb_ct (fun i => yrm (yL (yop b s) r) i && ypc b s i) 36 = 0
          · rw [if_pos ((zlc _ _).mpr ((ySW_z hp).mpr (fb_ct_zero.mp g))), y3size u2, zbd_S, zbn_E, zbn_E, zbn_E, nI_1, nI_add]
            have e : ySm (yG b s) r + fb_ct (yrm (yL (yop b s) r)) 36 = ySm (yG b s) (r + 1) := by
              show _ = ySm (yG b s) r + yG b s r
              unfold yG
              rw [if_pos g]
            rw [e]
            exact ih (r + 1) n _ (by omega) (by omega) u3 hN'
          · rw [if_neg (fun z => g (fb_ct_zero.mpr ((ySW_z hp).mp ((zlc _ _).mp z)))), zbn_E, zbn_E, nI_1]
            have e : ySm (yG b s) r = ySm (yG b s) (r + 1) := by
              show _ = ySm (yG b s) r + yG b s r
              unfold yG
              rw [if_neg g, Nat.add_zero]
            rw [e]
            exact ih (r + 1) n _ (by omega) (by omega) u3 hN'
  obtain ⟨w, w1, w2⟩ := c_open h hs
  unfold fX2_countSealedByRooms
  rw [w1, zbd_S]
  exact hl 36 0 zFu w (by omega) (by unfold zFu; omega) w2 (fun m hm => absurd hm (by omega))
theorem c_roomNumberOf {f : Nat → Int64} {b : Nat → Nat} (h : yP f b) {s q r m : Nat} (hs : s ≤ 1) (hq : q < 36) (hr : yNr (yop b s) r) (hm : m < r) (hrm : yrm (yL (yop b s) m) q = true) : fX2_roomNumberOf f (nI s) (nI q) = some (nI m) := by
  have h36 := yNr_36 hr
  have hlm := yL_rm.mpr hrm
  have hl : ∀ d k n w, k + d = m → d < n → ySW w (yL (yop b s) k) → fX2_roomNumberOf_9 f n (nI q) w (nI k) = some (nI m) := by
    intro d
    induction d with
    | zero =>
      intro k n w hk hn hw
      cases n with
      | zero => omega
      | succ n =>
        have e : k = m := by omega
        subst e
        obtain ⟨u, u1, u2, u3⟩ := c_rm hw (hr.1 k hm)
        rw [fX2_roomNumberOf_9, if_neg (show ¬ (36 : Int32) ≤ nI k from nI_ge (b := 36) (by omega) (by omega)), yhas hw hq, zbd_S, hlm.1, yb_t, if_neg (by decide), u1, zbd_S, zbn_E, yhas u3 hq, zbd_S, hlm.2, yb_f, if_pos rfl]
    | succ d ih =>
      intro k n w hk hn hw
      cases n with
      | zero => omega
      | succ n =>
        obtain ⟨u, u1, u2, u3⟩ := c_rm hw (hr.1 k (by omega))
        rw [fX2_roomNumberOf_9, if_neg (show ¬ (36 : Int32) ≤ nI k from nI_ge (b := 36) (by omega) (by omega)), yhas hw hq, zbd_S, yL_le hlm.1 (show k ≤ m by omega), yb_t, if_neg (by decide), u1, zbd_S, zbn_E, yhas u3 hq, zbd_S, yL_le hlm.1 (show k + 1 ≤ m by omega), yb_t, if_neg (by decide), zbn_E, nI_1]
        exact ih (k + 1) n _ (by omega) (by omega) u3
  obtain ⟨w, w1, w2⟩ := c_open h hs
  unfold fX2_roomNumberOf
  rw [w1, zbd_S]
  exact hl m 0 zFu w (by omega) (by unfold zFu; omega) w2
theorem c_roomNumberOf0 {f : Nat → Int64} {b : Nat → Nat} (h : yP f b) {s q : Nat} (hs : s ≤ 1) (hq : q < 36) (ho : yop b s q = false) : fX2_roomNumberOf f (nI s) (nI q) = some (-1) := by
  obtain ⟨w, w1, w2⟩ := c_open h hs
  have hg : ∀ n, fX2_roomNumberOf_9 f (n + 1) (nI q) w (nI 0) = some (-1) := fun n => by
    rw [fX2_roomNumberOf_9, if_neg (show ¬ (36 : Int32) ≤ nI 0 by decide), yhas w2 hq, zbd_S, ho, yb_f, if_pos rfl]
  unfold fX2_roomNumberOf
  rw [w1, zbd_S]
  exact hg 3999
theorem c_roomNumbered {f : Nat → Int64} {b : Nat → Nat} (h : yP f b) {s r m : Nat} (hs : s ≤ 1) (hr : yNr (yop b s) r) (hm : m < 2 ^ 31) : ∃ w, fX2_roomNumbered f (nI s) (nI m) = some w ∧ ((m < r ∧ ySW w (yrm (yL (yop b s) m))) ∨ (r ≤ m ∧ w = 0)) := by
  have h36 := yNr_36 hr
  have hl : ∀ d k n w, k + d = r → d < n → k ≤ m → ySW w (yL (yop b s) k) → ∃ w', fX2_roomNumbered_9 f n (nI m) w (nI k) = some w' ∧ ((m < r ∧ ySW w' (yrm (yL (yop b s) m))) ∨ (r ≤ m ∧ w' = 0)) := by
    intro d
    induction d with
    | zero =>
      intro k n w hk hn hkm hw
      cases n with
      | zero => omega
      | succ n =>
        have e : k = r := by omega
        subst e
        have hz : w = 0 := (ySW_z hw).mpr hr.2
        have h38 : fX2_roomNumbered_38 f (nI m) w = some 0 := by
          unfold fX2_roomNumbered_38
          rw [if_pos (nI_pos' hm), y3room0 hz, zbd_S]
        rw [fX2_roomNumbered_9]
        by_cases e : nI m ≤ nI k
        · rw [if_pos e, h38]; exact ⟨0, rfl, Or.inr ⟨hkm, rfl⟩⟩
        · rw [if_neg e, if_pos ((zlc _ _).mpr hz), h38]; exact ⟨0, rfl, Or.inr ⟨hkm, rfl⟩⟩
    | succ d ih =>
      intro k n w hk hn hkm hw
      cases n with
      | zero => omega
      | succ n =>
        have hne := hr.1 k (by omega)
        obtain ⟨u, u1, u2, u3⟩ := c_rm hw hne
        have hz : ¬ w = 0 := fun z => by
          obtain ⟨i, i1, i2⟩ := hne
          have := (ySW_z hw).mp z i i1
          rw [i2] at this
          cases this
        rw [fX2_roomNumbered_9]
        by_cases e : m = k
        · subst e
          rw [if_pos (nI_le (Nat.le_refl _) hm)]
          unfold fX2_roomNumbered_38
          rw [if_pos (nI_pos' hm), u1, zbd_S]
          exact ⟨u, rfl, Or.inl ⟨by omega, u2⟩⟩
        · rw [if_neg (nI_ge (by omega) (by omega)), if_neg (fun z => hz ((zlc _ _).mp z)), u1, zbd_S, zbn_E, zbn_E, nI_1]
          exact ih (k + 1) n _ (by omega) (by omega) (by omega) u3
  obtain ⟨w, w1, w2⟩ := c_open h hs
  unfold fX2_roomNumbered
  rw [w1, zbd_S]
  exact hl r 0 zFu w (by omega) (by unfold zFu; omega) (by omega) w2
theorem c_roomNumbered0 {f : Nat → Int64} {b : Nat → Nat} (h : yP f b) {s : Nat} (hs : s ≤ 1) {x : Int32} (hx : x < 0) : fX2_roomNumbered f (nI s) x = some 0 := by
  obtain ⟨w, w1, w2⟩ := c_open h hs
  have h1 := Int32.lt_iff_toInt_lt.mp hx
  have h0 : (0 : Int32).toInt = 0 := by decide
  have hg : ∀ n, fX2_roomNumbered_9 f (n + 1) x w 0 = some 0 := fun n => by
    rw [fX2_roomNumbered_9, if_pos (Int32.le_iff_toInt_le.mpr (by omega))]
    unfold fX2_roomNumbered_38
    rw [if_neg (fun z => by have := Int32.le_iff_toInt_le.mp z; omega)]
  unfold fX2_roomNumbered
  rw [w1, zbd_S]
  exact hg 3999
theorem y_pc_op {b : Nat → Nat} (hv : yV b) {s i : Nat} (hs : s ≤ 1) (hi : i < 36) (hp : ypc b s i = true) : yop b s i = true := by
  have hp' : ysd (b i) = s := of_decide_eq_true hp
  have hc := hv.1 i hi
  have h2 := (y_code (c := b i) (by omega) (by omega)).2.1 (by omega)
  have hd := hv.2.2.2.1 i hi (by omega)
  unfold yop
  rw [h2.2.2.1, decide_eq_false (show ¬ b (36 + i) = 2 - s by omega)]
  rfl
theorem c_byReach {f : Nat → Int64} {b : Nat → Nat} (h : yP f b) {s : Nat} (hs : s ≤ 1) : fX2_countSealedByReach f (nI s) = some (nI (fb_ct (fun i => yop b s i && !yR (yop b s) (ypc b s) 36 i) 36)) := by
  obtain ⟨w, w1, w2⟩ := c_open h hs
  obtain ⟨v, v1, v2⟩ := y3reached (h.1 s hs) w2
  unfold fX2_countSealedByReach
  rw [w1, zbd_S, p_pieces f hs, zbd_S, v1, zbd_S, y3size (ySW_dif w2 v2), zbd_S]
theorem c_steps {f : Nat → Int64} {b : Nat → Nat} (h : yP f b) {s q : Nat} (hs : s ≤ 1) (hq : q < 36) : ∃ x, fX2_countStepsTo f (nI s) (nI q) = some x ∧ ((∃ k, k < 36 ∧ x = nI k ∧ yR (yop b s) (ypc b s) k q = true ∧ ∀ j, j < k → yR (yop b s) (ypc b s) j q = false) ∨ (x = -1 ∧ ∀ j, j < 36 → yR (yop b s) (ypc b s) j q = false)) := by
  obtain ⟨w, w1, w2⟩ := c_open h hs
  have hl : ∀ d k n v, k + d = 36 → d < n → ySW v (yR (yop b s) (ypc b s) k) → (∀ j, j < k → yR (yop b s) (ypc b s) j q = false) → ∃ x, fX2_countStepsTo_18 f n (nI q) w v (nI k) = some x ∧ ((∃ k, k < 36 ∧ x = nI k ∧ yR (yop b s) (ypc b s) k q = true ∧ ∀ j, j < k → yR (yop b s) (ypc b s) j q = false) ∨ (x = -1 ∧ ∀ j, j < 36 → yR (yop b s) (ypc b s) j q = false)) := by
    intro d
    induction d with
    | zero =>
      intro k n v hk hn hv hj
      cases n with
      | zero => omega
      | succ n =>
        rw [fX2_countStepsTo_18, if_pos (show (36 : Int32) ≤ nI k from nI_le (a := 36) (by omega) (by omega))]
        exact ⟨-1, rfl, Or.inr ⟨rfl, fun j h => hj j (by omega)⟩⟩
    | succ d ih =>
      intro k n v hk hn hv hj
      cases n with
      | zero => omega
      | succ n =>
        rw [fX2_countStepsTo_18, if_neg (show ¬ (36 : Int32) ≤ nI k from nI_ge (b := 36) (by omega) (by omega)), yhas hv hq, zbd_S]
        cases g : yR (yop b s) (ypc b s) k q with
        | true => rw [yb_t, if_neg (by decide)]; exact ⟨_, rfl, Or.inl ⟨k, by omega, rfl, g, hj⟩⟩
        | false =>
          obtain ⟨u, u1, u2⟩ := y3around hv
          rw [yb_f, if_pos rfl, u1, zbd_S, zbn_E, zbn_E, nI_1]
          refine ih (k + 1) n _ (by omega) (by omega) (ySW_c (ySW_or hv (ySW_and u2 w2)) (fun i hi => ?_)) (fun j h2 => ?_)
          · show (yR (yop b s) (ypc b s) k i || (yar (yR (yop b s) (ypc b s) k) i && yop b s i)) = ((yR (yop b s) (ypc b s) k i || yar (yR (yop b s) (ypc b s) k) i) && yop b s i)
            cases e : yR (yop b s) (ypc b s) k i with
            | true => rw [yR_ok e]; rfl
            | false => rfl
          · by_cases e : j = k
            · rw [e]; exact g
            · exact hj j (by omega)
  unfold fX2_countStepsTo
  rw [w1, zbd_S, p_pieces f hs, zbd_S, zbn_E]
  exact hl 36 0 zFu _ (by omega) (by unfold zFu; omega) (ySW_and (h.1 s hs) w2) (fun j hj => absurd hj (by omega))

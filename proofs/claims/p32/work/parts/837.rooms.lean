/-! areRooms holds of every board, for both sides -/
theorem eL_room0 {f : Nat → Int64} {b : Nat → Nat} (hP : yP f b) {s q : Nat} (hs : s ≤ 1) (hq : q < 36) (ho : yop b s q = false) : fL_room f (nI s) (nI q) = some (-1000) := by
  unfold fL_room
  rw [e_room0 hP hs hq ho, zbd_S]
  try dsimp only
  rw [if_neg (by decide), if_neg (by decide), if_pos rfl]
theorem eL_room {f : Nat → Int64} {b : Nat → Nat} (hP : yP f b) {s q r m : Nat} (hs : s ≤ 1) (hq : q < 36) (hr : yNr (yop b s) r) (hm : m < r) (hrm : yrm (yL (yop b s) m) q = true) : fL_room f (nI s) (nI q) = some (nI m) := by
  unfold fL_room
  rw [e_room hP hs hq hr hm hrm, zbd_S]
  try dsimp only
  rw [if_pos rfl]
theorem eL_steps {f : Nat → Int64} {b : Nat → Nat} (hP : yP f b) {s q : Nat} (hs : s ≤ 1) (hq : q < 36) : (∃ k, k < 36 ∧ fL_steps f (nI s) (nI q) = some (nI k) ∧ yR (yop b s) (ypc b s) k q = true ∧ ∀ j, j < k → yR (yop b s) (ypc b s) j q = false) ∨ (fL_steps f (nI s) (nI q) = some (-1000) ∧ ∀ j, j < 36 → yR (yop b s) (ypc b s) j q = false) := by
  unfold fL_steps
  rcases e_steps hP hs hq with ⟨k, k1, k2, k3, k4⟩ | ⟨k1, k2⟩
  · rw [k2, zbd_S]
    try dsimp only
    rw [if_pos rfl]
    exact Or.inl ⟨k, k1, rfl, k3, k4⟩
  · rw [k1, zbd_S]
    try dsimp only
    rw [if_neg (by decide), if_neg (by decide), if_pos rfl]
    exact Or.inr ⟨rfl, k2⟩
theorem eL_share {f : Nat → Int64} {b : Nat → Nat} (hP : yP f b) (hv : yV b) {s : Nat} (hs : s ≤ 1) : (fL_sealedShare f (nI s) = some 13830554455654793216) ∨ (∃ x, fL_sealedShare f (nI s) = some x ∧ ¬ 0 < zdcg x 4607182418800017408) := by
  unfold fL_sealedShare
  rcases e_share hP hs with ⟨k1, k2⟩ | ⟨k1, k2⟩
  · rw [k2, zbd_S]
    try dsimp only
    rw [if_neg (by decide), if_neg (by decide), if_pos rfl]
    exact Or.inl rfl
  · rw [k2, zbd_S]
    try dsimp only
    rw [if_pos rfl]
    obtain ⟨r, c1, c2⟩ := e_rooms hP hs
    have h36 := yNr_36 c2
    have e := ySm_36 c2 (36 - r)
    rw [show r + (36 - r) = 36 by omega] at e
    have h1 := fb_ct_le (yop b s) 36
    have h2 : fb_ct (fun i => yop b s i && !yR (yop b s) (ypc b s) 36 i) 36 ≤ fb_ct (yop b s) 36 := fb_ct_sub (fun k hk g => ((Bool.and_eq_true _ _).mp g).1)
    rw [e, r_sealed hv hs c2]
    exact Or.inr ⟨_, rfl, r_share _ (by omega) _ (by omega) h2 k1⟩
def yRz (P : Nat → Bool) : Nat → Nat
  | 0 => 0
  | m + 1 => yRz P m + fb_ct (yrm (yL P m)) 36
theorem yRz_m (P : Nat → Bool) : ∀ m, yRz P m = yRm P (fun _ => true) m
  | 0 => rfl
  | m + 1 => by
    show yRz P m + _ = yRm P (fun _ => true) m + _
    rw [yRz_m P m, fb_ct_cong (p := fun i => yrm (yL P m) i && true) (q := yrm (yL P m)) (fun k _ => Bool.and_true _)]
theorem r_lo9 {P : Nat → Bool} {m v : Nat} (hv : yLo (yL P m) v) : yLo (yrm (yL P m)) v := ⟨hv.1, yrm_v hv, fun j hj => by
  cases g : yrm (yL P m) j with
  | false => rfl
  | true =>
    have := yrm_X g
    rw [hv.2.2 j hj] at this
    cases this⟩
set_option maxRecDepth 4000 in
theorem eL_areRooms {fb : Nat → Int64} {b : Nat → Nat} (hP : yP fb b) (hv : yV b) (ct ln : Int32) {s : Nat} (hs : s ≤ 1) : fL_areRooms fb ct ln (nI s) = some 1 := by
  obtain ⟨r, er, hr⟩ := e_rooms hP hs
  have h36 := yNr_36 hr
  have hSP : ∀ i, i < 36 → ypc b s i = true → yop b s i = true := fun i hi g => y_pc_op hv hs hi g
  -- the end
  have e382 : fL_areRooms_382 fb ct ln (nI s) 0 (nI (ySm (yG b s) r)) (nI (yRm (yop b s) (ypc b s) r)) 1 = some 1 := by
    have a1 : fX4_account fb ct ln (nI s) = some (0, nI (yRm (yop b s) (ypc b s) r)) := by
      rw [e_account hP ct ln (show s < 9 by omega), r_end hr]
      have e : fb_ct (fun i => yop b s i && ypc b s i) 36 = fb_ct (ypc b s) 36 := fb_ct_cong (fun k hk => by
        cases g : ypc b s k with
        | false => rw [Bool.and_false]
        | true => rw [hSP k hk g]; rfl)
      rw [e]
      rcases (show s = 0 ∨ s = 1 by omega) with rfl | rfl <;> rfl
    have a2 : fX4_sealed fb (nI s) = some (0, nI (ySm (yG b s) r)) := by
      have e := ySm_36 hr (36 - r)
      rw [show r + (36 - r) = 36 by omega] at e
      rw [e_sealed hP hs, e]
    have a3 : fX4_sealedAgain fb (nI s) = some (0, nI (ySm (yG b s) r)) := by rw [e_sealedAgain hP hs, r_sealed hv hs hr]
    unfold fL_areRooms_382
    rw [if_pos rfl, a1, zbd_S]
    try dsimp only
    rw [if_pos rfl, if_pos rfl, a2, zbd_S]
    try dsimp only
    rw [if_pos rfl, if_pos rfl, a3, zbd_S]
    try dsimp only
    rw [if_pos rfl, if_pos rfl]
    unfold fL_areRooms_421
    rw [show (1 : Int32) &&& 1 = 1 by decide, zbn_E, if_neg (show ¬ (1 : Int32) = 0 by decide)]
    rcases eL_share hP hv hs with e | ⟨x, e, g⟩
    · rw [e, zbd_S, if_pos (show zdcl 13830554455654793216 13830554455654793216 = 0 by decide +kernel)]
    · rw [e, zbd_S]
      split
      · rfl
      · rw [zbd_S, if_neg g]
  -- the squares
  have l179 : ∀ d q n, q + d = 36 → d < n → fL_areRooms_179 fb ct ln n (nI s) (nI (fb_ct (yop b s) 36 - fb_ct (yop b s) q)) (nI (ySm (yG b s) r)) (nI (yRm (yop b s) (ypc b s) r)) 1 (nI q) = some 1 := by
    intro d
    induction d with
    | zero =>
      intro q n hq hn
      obtain ⟨n', rfl⟩ : ∃ n', n = n' + 1 := ⟨n - 1, by omega⟩
      rw [fL_areRooms_179, if_neg (show ¬ (1 : Int32) = 0 by decide), if_pos (show (36 : Int32) ≤ nI q from nI_le (a := 36) (by omega) (by omega)), show q = 36 by omega, Nat.sub_self]
      exact e382
    | succ d ih =>
      intro q n hq hn
      obtain ⟨n', rfl⟩ : ∃ n', n = n' + 1 := ⟨n - 1, by omega⟩
      have hq36 : q < 36 := by omega
      have hih := ih (q + 1) n' (by omega) (by omega)
      rw [fL_areRooms_179, if_neg (show ¬ (1 : Int32) = 0 by decide), if_neg (show ¬ (36 : Int32) ≤ nI q from nI_ge (b := 36) (by omega) (by omega))]
      cases ho : yop b s q with
      | false =>
        have hst : fL_steps fb (nI s) (nI q) = some (-1000) := by
          rcases eL_steps hP hs hq36 with ⟨k, _, _, k3, _⟩ | ⟨k1, _⟩
          · have := yR_ok k3
            rw [ho] at this
            cases this
          · exact k1
        have h360 : fL_areRooms_360 (fun z0 z1 z2 z3 z4 z5 => fL_areRooms_179 fb ct ln n' z0 z1 z2 z3 z4 z5) fb ct ln (nI s) (nI (fb_ct (yop b s) 36 - fb_ct (yop b s) q)) (nI (ySm (yG b s) r)) (nI (yRm (yop b s) (ypc b s) r)) 1 (nI q) (-1000) = some 1 := by
          unfold fL_areRooms_360
          rw [if_pos rfl]
          unfold fL_areRooms_374
          rw [zbn_E, zbn_E, nI_1, show nI (fb_ct (yop b s) 36 - fb_ct (yop b s) q) - 0 = nI (fb_ct (yop b s) 36 - fb_ct (yop b s) q) from Int32.sub_zero _]
          rw [show fb_ct (yop b s) (q + 1) = fb_ct (yop b s) q by rw [fb_ct_succ, ho, if_neg (by decide), Nat.add_zero]] at hih
          exact hih
        rw [eL_room0 hP hs hq36 ho, zbd_S, hst, zbd_S, if_pos rfl, if_pos rfl]
        unfold fL_areRooms_271
        rw [if_neg (show ¬ (1 : Int32) = 0 by decide)]
        split
        · exact h360
        · rw [if_pos rfl]
          exact h360
      | true =>
        obtain ⟨m, m1, m2⟩ := r_part hr hq36 ho
        have hm1000 : ¬ nI m = -1000 := e_n1000 m (by omega)
        have hmono := fb_ct_mono (yop b s) (show q + 1 ≤ 36 by omega)
        have hsucc := fb_ct_succ (yop b s) q
        rw [ho, if_pos rfl] at hsucc
        have h360 : fL_areRooms_360 (fun z0 z1 z2 z3 z4 z5 => fL_areRooms_179 fb ct ln n' z0 z1 z2 z3 z4 z5) fb ct ln (nI s) (nI (fb_ct (yop b s) 36 - fb_ct (yop b s) q)) (nI (ySm (yG b s) r)) (nI (yRm (yop b s) (ypc b s) r)) 1 (nI q) (nI m) = some 1 := by
          unfold fL_areRooms_360
          rw [if_neg hm1000]
          unfold fL_areRooms_374
          rw [zbn_E, zbn_E, nI_1, show nI (fb_ct (yop b s) 36 - fb_ct (yop b s) q) - (1 : Int32) = nI (fb_ct (yop b s) 36 - fb_ct (yop b s) q - 1) from pk_sub (b := 1) (by omega)]
          rw [hsucc, Nat.sub_add_eq] at hih
          exact hih
        obtain ⟨-, -, -, ro5⟩ := e_roomOf hP hs hr m1
        -- behind the first test
        have h271 : ∀ x9, fL_steps fb (nI s) (nI q) = some x9 → fL_areRooms_271 (fun z0 z1 z2 z3 z4 z5 => fL_areRooms_179 fb ct ln n' z0 z1 z2 z3 z4 z5) fb ct ln (nI s) (nI (fb_ct (yop b s) 36 - fb_ct (yop b s) q)) (nI (ySm (yG b s) r)) (nI (yRm (yop b s) (ypc b s) r)) (nI q) (nI m) x9 1 = some 1 := by
          intro x9 hx9
          unfold fL_areRooms_271
          rw [if_neg (show ¬ (1 : Int32) = 0 by decide), show (6 : Int32) = nI 6 from rfl, pk_rem (by omega) (by omega) (by omega)]
          by_cases g : q % 6 < 5
          · rw [if_neg (show ¬ (5 : Int32) ≤ nI (q % 6) from nI_ge (b := 5) g (by omega)), if_neg hm1000, nI_1]
            have en : ynb q 1 = q + 1 := by
              unfold ynb
              rw [if_neg (by decide), if_pos rfl, if_pos g]
            have hn36 : ynb q 1 < 36 := by omega
            have enb : ynb (q + 1) 3 = q := by
              have := ynb_op q hq36 1 (by omega) hn36
              rw [en] at this
              exact this
            cases ho2 : yop b s (q + 1) with
            | false =>
              rw [eL_room0 hP hs (show q + 1 < 36 by omega) ho2, zbd_S, if_pos rfl]
              exact h360
            | true =>
              have m3 : yrm (yL (yop b s) m) (q + 1) = true := by
                have := r_cl hr m m1 q 1 hq36 (by omega) hn36 m2 (by rw [en]; exact ho2)
                rw [en] at this
                exact this
              have e2 := eL_room hP hs (show q + 1 < 36 by omega) hr m1 m3
              have near : ∀ u, fL_steps fb (nI s) (nI (q + 1)) = some u → ¬ (1 : Int32) < u - x9 ∧ ¬ (1 : Int32) < x9 - u := by
                intro u hu
                rcases eL_steps hP hs hq36 with ⟨k, k1, k2, k3, k4⟩ | ⟨k1, k2⟩
                · rw [k2] at hx9
                  obtain rfl := Option.some.inj hx9
                  rcases eL_steps hP hs (show q + 1 < 36 by omega) with ⟨j, j1, j2, j3, j4⟩ | ⟨j1, j2⟩
                  · rw [j2] at hu
                    obtain rfl := Option.some.inj hu
                    have a1 : j ≤ k + 1 := by
                      apply Nat.not_lt.mp
                      intro hlt
                      have h9 := r_next (w := 1) hq36 (by omega) hn36 k3 (by rw [en]; exact ho2)
                      rw [en, j4 (k + 1) hlt] at h9
                      cases h9
                    have a2 : k ≤ j + 1 := by
                      apply Nat.not_lt.mp
                      intro hlt
                      have h9 := r_next (w := 3) (show q + 1 < 36 by omega) (by omega) (by rw [enb]; exact hq36) j3 (by rw [enb]; exact ho)
                      rw [enb, k4 (j + 1) hlt] at h9
                      cases h9
                    have c1 := pk_sub_toInt (a := j) (b := k) (by omega) (by omega)
                    have c2 := pk_sub_toInt (a := k) (b := j) (by omega) (by omega)
                    have c3 : (1 : Int32).toInt = 1 := rfl
                    exact ⟨fun z => by have := Int32.lt_iff_toInt_lt.mp z; omega, fun z => by have := Int32.lt_iff_toInt_lt.mp z; omega⟩
                  · exfalso
                    by_cases k35 : k + 1 < 36
                    · have h9 := r_next (w := 1) hq36 (by omega) hn36 k3 (by rw [en]; exact ho2)
                      rw [en, j2 (k + 1) k35] at h9
                      cases h9
                    · have h9 : yR (yop b s) (ypc b s) 36 (q + 1) = true := by
                        have a := yR_mono k3 (36 - k)
                        rw [show k + (36 - k) = 36 by omega] at a
                        have c := yR_cl (w := 1) hq36 a (by omega) hn36 (by rw [en]; exact ho2)
                        rw [en] at c
                        exact c
                      have h8 := r_35 (show q + 1 < 36 by omega) h9
                      rw [j2 35 (by omega)] at h8
                      cases h8
                · rw [k1] at hx9
                  obtain rfl := Option.some.inj hx9
                  rcases eL_steps hP hs (show q + 1 < 36 by omega) with ⟨j, j1, j2, j3, j4⟩ | ⟨j1, j2⟩
                  · exfalso
                    have h9 : yR (yop b s) (ypc b s) 36 q = true := by
                      have a := yR_mono j3 (36 - j)
                      rw [show j + (36 - j) = 36 by omega] at a
                      have c := yR_cl (w := 3) (show q + 1 < 36 by omega) a (by omega) (by rw [enb]; exact hq36) (by rw [enb]; exact ho)
                      rw [enb] at c
                      exact c
                    have h8 := r_35 hq36 h9
                    rw [k2 35 (by omega)] at h8
                    cases h8
                  · rw [j1] at hu
                    obtain rfl := Option.some.inj hu
                    exact ⟨by decide, by decide⟩
              obtain ⟨u, hu⟩ : ∃ u, fL_steps fb (nI s) (nI (q + 1)) = some u := by
                rcases eL_steps hP hs (show q + 1 < 36 by omega) with ⟨j, _, j2, _⟩ | ⟨j1, _⟩
                · exact ⟨_, j2⟩
                · exact ⟨_, j1⟩
              obtain ⟨n1, n2⟩ := near u hu
              rw [e2, zbd_S, if_neg hm1000, hu, zbd_S, zbd_S, if_pos rfl, if_neg n1, if_neg n2]
              unfold fL_areRooms_358
              exact h360
          · rw [if_pos (show (5 : Int32) ≤ nI (q % 6) from nI_le (a := 5) (by omega) (by omega))]
            exact h360
        rw [eL_room hP hs hq36 hr m1 m2, zbd_S]
        by_cases z : fb_ct (fun i => yrm (yL (yop b s) m) i && ypc b s i) 36 = 0
        · have hz := fb_ct_zero.mp z
          have hno := r_no hr m1 (S := ypc b s) (fun i hi g2 => by
            have := hz i hi
            try dsimp only at this
            rw [g2, Bool.true_and] at this
            exact this) q hq36 m2
          have hst : fL_steps fb (nI s) (nI q) = some (-1000) := by
            rcases eL_steps hP hs hq36 with ⟨k, _, _, k3, _⟩ | ⟨k1, _⟩
            · rw [hno k] at k3
              cases k3
            · exact k1
          have h9 := h271 _ hst
          rw [hst, zbd_S, if_neg hm1000, if_pos rfl]
          unfold fL_areRooms_246 fL_areRooms_263
          rw [ro5, zbd_S, decide_eq_true z, yb_t]
          try dsimp only
          rw [if_pos rfl, if_pos rfl, if_pos rfl]
          exact h9
        · obtain ⟨j, j1, j2⟩ := fb_ct_pos.mp (show 0 < fb_ct (fun i => yrm (yL (yop b s) m) i && ypc b s i) 36 by omega)
          obtain ⟨j3, j4⟩ := (Bool.and_eq_true _ _).mp j2
          have hT := r_35 hq36 (r_yes hr m1 hSP j1 j3 j4 q hq36 m2)
          obtain ⟨k, k1, hst⟩ : ∃ k, k < 36 ∧ fL_steps fb (nI s) (nI q) = some (nI k) := by
            rcases eL_steps hP hs hq36 with ⟨k, k1, k2, _, _⟩ | ⟨_, k2⟩
            · exact ⟨k, k1, k2⟩
            · rw [k2 35 (by omega)] at hT
              cases hT
          have h9 := h271 _ hst
          rw [hst, zbd_S, if_neg hm1000, if_neg (e_n1000 k (by omega))]
          unfold fL_areRooms_246 fL_areRooms_263
          rw [ro5, zbd_S, decide_eq_false z, yb_f]
          try dsimp only
          rw [if_pos rfl, if_neg (show ¬ (0 : Int32) = 1 by decide), if_pos rfl]
          exact h9
  -- the rooms
  have l16 : ∀ d m n x5, m + d = r → d < n → (∀ i, i < 36 → yL (yop b s) m i = true → x5 < nI i) → fL_areRooms_16 fb ct ln n (nI s) (nI (yRz (yop b s) m)) (nI (ySm (yG b s) m)) (nI (yRm (yop b s) (ypc b s) m)) x5 1 (nI m) = some 1 := by
    intro d
    induction d with
    | zero =>
      intro m n x5 hm hn h5
      obtain ⟨n', rfl⟩ : ∃ n', n = n' + 1 := ⟨n - 1, by omega⟩
      have em : m = r := by omega
      subst em
      rw [fL_areRooms_16, if_neg (show ¬ (1 : Int32) = 0 by decide), er, zbd_S]
      try dsimp only
      rw [if_pos rfl, if_pos (nI_le (Nat.le_refl _) (by omega))]
      unfold fL_areRooms_176
      have e : yRz (yop b s) m = fb_ct (yop b s) 36 - fb_ct (yop b s) 0 := by
        rw [yRz_m, r_end hr, fb_ct_cong (p := fun i => yop b s i && true) (q := yop b s) (fun k _ => Bool.and_true _)]
        rfl
      rw [e]
      exact l179 36 0 37 (by omega) (by omega)
    | succ d ih =>
      intro m n x5 hm hn h5
      obtain ⟨n', rfl⟩ : ∃ n', n = n' + 1 := ⟨n - 1, by omega⟩
      have hmr : m < r := by omega
      obtain ⟨v, hv0⟩ := r_lo hr hmr
      have hvR := r_lo9 hv0
      obtain ⟨o0, o1, o4, o5⟩ := e_roomOf hP hs hr hmr
      have o4 := o4 v hvR
      have hvr := eL_room hP hs hv0.1 hr hmr hvR.2.1
      have hle := fb_ct_le (fun i => yrm (yL (yop b s) m) i && ypc b s i) 36
      have hih := ih (m + 1) n' (nI v) (by omega) (by omega) (fun i hi g => by
        have g2 := yL_1 g
        have hne : ¬ i = v := fun e => by
          subst e
          have g3 : (yL (yop b s) m i && !yrm (yL (yop b s) m) i) = true := g
          rw [hvR.2.1, Bool.not_true, Bool.and_false] at g3
          cases g3
        have hge : ¬ i < v := fun hlt => by
          rw [hv0.2.2 i hlt] at g2
          cases g2
        exact nI_lt (by omega) (by omega))
      -- behind the counts of a room
      have h80 : fL_areRooms_80 (fun z0 z1 z2 z3 z4 z5 z6 => fL_areRooms_16 fb ct ln n' z0 z1 z2 z3 z4 z5 z6) fb ct ln (nI s) (nI (yRz (yop b s) (m + 1))) (nI (yRm (yop b s) (ypc b s) (m + 1))) x5 (nI m) (nI (yG b s m)) (nI (ySm (yG b s) m)) = some 1 := by
        have hx5 : ¬ nI v ≤ x5 := fun z => by
          have a := Int32.lt_iff_toInt_lt.mp (h5 v hv0.1 hv0.2.1)
          have c := Int32.le_iff_toInt_le.mp z
          omega
        have h167 : fL_areRooms_136 (fun z0 z1 z2 z3 z4 z5 z6 => fL_areRooms_16 fb ct ln n' z0 z1 z2 z3 z4 z5 z6) fb ct ln (nI s) (nI (yRz (yop b s) (m + 1))) (nI (ySm (yG b s) (m + 1))) (nI (yRm (yop b s) (ypc b s) (m + 1))) (nI m) 1 = some 1 := by
          unfold fL_areRooms_136
          rw [o4, zbd_S]
          try dsimp only
          rw [if_pos rfl, hvr, zbd_S, if_pos rfl]
          unfold fL_areRooms_167
          rw [show (1 : Int32) &&& 1 = 1 by decide, zbn_E, zbn_E, nI_1]
          exact hih
        unfold fL_areRooms_80
        rw [nI_add, zbn_E, o4, zbd_S]
        try dsimp only
        rw [if_pos rfl, if_neg hx5, o5, zbd_S]
        try dsimp only
        rw [if_pos rfl]
        unfold fL_areRooms_112
        rw [o1, zbd_S]
        try dsimp only
        unfold fL_areRooms_128
        by_cases z : fb_ct (fun i => yrm (yL (yop b s) m) i && ypc b s i) 36 = 0
        · rw [decide_eq_true z, yb_t, if_pos rfl, if_pos rfl, z, if_pos (show nI 0 = (0 : Int32) from rfl), if_pos rfl]
          exact h167
        · rw [decide_eq_false z, yb_f, if_neg (show ¬ (0 : Int32) = 1 by decide), zbd_S]
          try dsimp only
          rw [if_pos rfl, if_neg (fun y => z ((nI_z (by omega)).mp y)), if_pos rfl]
          exact h167
      rw [fL_areRooms_16, if_neg (show ¬ (1 : Int32) = 0 by decide), er, zbd_S]
      try dsimp only
      rw [if_pos rfl, if_neg (nI_ge hmr (by omega)), o0, zbd_S]
      try dsimp only
      rw [if_pos rfl, nI_add, zbn_E, o1, zbd_S]
      try dsimp only
      rw [if_pos rfl, nI_add, zbn_E, o5, zbd_S]
      try dsimp only
      rw [if_pos rfl]
      by_cases z : fb_ct (fun i => yrm (yL (yop b s) m) i && ypc b s i) 36 = 0
      · have eg : yG b s m = fb_ct (yrm (yL (yop b s) m)) 36 := by unfold yG; rw [if_pos z]
        rw [eg] at h80
        rw [decide_eq_true z, yb_t, if_pos rfl, zbd_S]
        try dsimp only
        rw [if_pos rfl]
        exact h80
      · have eg : yG b s m = 0 := by unfold yG; rw [if_neg z]
        rw [eg] at h80
        rw [decide_eq_false z, yb_f, if_neg (show ¬ (0 : Int32) = 1 by decide)]
        exact h80
  unfold fL_areRooms
  exact l16 r 0 37 (-1) (by omega) (by omega) (fun i hi _ => Int32.lt_iff_toInt_lt.mpr (by
    rw [nI_toInt (by omega)]
    have : ((-1 : Int32)).toInt = -1 := by decide
    omega))

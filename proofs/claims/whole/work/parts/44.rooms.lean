/-! PURE 4: the rooms, as sets and as the model finds them -/
def yS0 (X : Nat → Bool) (j : Nat) : Bool := X j && decide (fb_ct X j = 0)
theorem yS0_lo {X : Nat → Bool} {v : Nat} (h : yLo X v) {i : Nat} (hi : i < 36) : yS0 X i = decide (i = v) := by
  unfold yS0
  rcases Nat.lt_trichotomy i v with q | q | q
  · rw [h.2.2 i q, Bool.false_and, decide_eq_false (by omega)]
  · subst q
    rw [h.2.1, decide_eq_true (fb_ct_zero.mpr h.2.2), decide_eq_true rfl]
    rfl
  · have : ¬ fb_ct X i = 0 := fun z => by
      have := fb_ct_zero.mp z v q
      rw [h.2.1] at this
      cases this
    rw [decide_eq_false this, Bool.and_false, decide_eq_false (by omega)]
def yrm (X : Nat → Bool) : Nat → Bool := yR X (yS0 X) 36
theorem yrm_lo {X : Nat → Bool} {v : Nat} (h : yLo X v) : ∀ i, i < 36 → yR X (fun j => decide (j = v)) 36 i = yrm X i :=
  yR_c (fun _ _ => rfl) (fun i hi => (yS0_lo h hi).symm) 36
theorem yrm_X {X : Nat → Bool} {i : Nat} (h : yrm X i = true) : X i = true := yR_ok h
theorem yrm_v {X : Nat → Bool} {v : Nat} (h : yLo X v) : yrm X v = true := by
  have h0 : yR X (yS0 X) 0 v = true := by
    show (yS0 X v && X v) = true
    rw [yS0_lo h h.1, decide_eq_true rfl, h.2.1]
    rfl
  exact yR_mono h0 36
def yL (P : Nat → Bool) : Nat → Nat → Bool
  | 0 => P
  | n + 1 => fun i => yL P n i && !yrm (yL P n) i
theorem yL_1 {P : Nat → Bool} {n i : Nat} (h : yL P (n + 1) i = true) : yL P n i = true := ((Bool.and_eq_true _ _).mp h).1
theorem yL_le {P : Nat → Bool} {n m i : Nat} (h : yL P m i = true) (hn : n ≤ m) : yL P n i = true := by
  induction m with
  | zero => rw [show n = 0 by omega]; exact h
  | succ m ih =>
    by_cases e : n = m + 1
    · rw [e]; exact h
    · exact ih (yL_1 h) (by omega)
theorem yL_rm {P : Nat → Bool} {n i : Nat} : (yL P n i = true ∧ yL P (n + 1) i = false) ↔ yrm (yL P n) i = true := by
  show (yL P n i = true ∧ (yL P n i && !yrm (yL P n) i) = false) ↔ _
  constructor
  · rintro ⟨a, c⟩
    rw [a] at c
    simpa using c
  · intro g
    rw [yrm_X g, g]
    exact ⟨rfl, rfl⟩
theorem yL_dec {P : Nat → Bool} {n : Nat} (h : ∃ i, i < 36 ∧ yL P n i = true) : fb_ct (yL P (n + 1)) 36 + 1 ≤ fb_ct (yL P n) 36 := by
  obtain ⟨v, hv⟩ := yLo_ex h
  have h1 := (yL_rm (P := P) (n := n) (i := v)).mpr (yrm_v hv)
  have h3 := fb_ct_upd (yL P (n + 1)) true hv.1
  rw [h1.2, if_pos rfl, if_neg (by decide)] at h3
  have h4 : fb_ct (fun k => if k = v then true else yL P (n + 1) k) 36 ≤ fb_ct (yL P n) 36 := fb_ct_sub (fun k hk g => by
    by_cases q : k = v
    · rw [q]; exact h1.1
    · rw [if_neg q] at g; exact yL_1 g)
  omega
theorem yL_n {P : Nat → Bool} {r : Nat} (h : ∀ n, n < r → ∃ i, i < 36 ∧ yL P n i = true) : r + fb_ct (yL P r) 36 ≤ 36 := by
  induction r with
  | zero =>
    have := fb_ct_le (yL P 0) 36
    omega
  | succ r ih =>
    have a := ih (fun n hn => h n (by omega))
    have b := yL_dec (h r (by omega))
    omega
/-- P has r rooms -/
def yNr (P : Nat → Bool) (r : Nat) : Prop := (∀ n, n < r → ∃ i, i < 36 ∧ yL P n i = true) ∧ ∀ i, i < 36 → yL P r i = false
theorem yNr_36 {P : Nat → Bool} {r : Nat} (h : yNr P r) : r ≤ 36 := by
  have := yL_n h.1
  omega
theorem yNr_u {P : Nat → Bool} {r t : Nat} (h : yNr P r) (g : yNr P t) : r = t := by
  rcases Nat.lt_trichotomy r t with q | q | q
  · obtain ⟨i, a, c⟩ := g.1 r q
    rw [h.2 i a] at c
    cases c
  · exact q
  · obtain ⟨i, a, c⟩ := h.1 t q
    rw [g.2 i a] at c
    cases c
/-- what the model's row tells of the rooms -/
def yIx (P : Nat → Bool) (r : Nat) (ra : Nat → Int32) : Prop :=
  (∀ j, j < 36 → yL P r j = false → P j = true → ∃ m, m < r ∧ ra j = nI m ∧ yrm (yL P m) j = true) ∧ ∀ j, j < 36 → (P j = false ∨ yL P r j = true) → ra j = -1
/-! the model's spread -/
def yLk (queue roomAt ra0 : Nat → Int32) (r : Nat) (Q : Nat → Nat) (M : Nat → Bool) (sz : Nat) : Prop := (∀ j, j < sz → queue j = nI (Q j)) ∧ ∀ j, j < 36 → roomAt j = if M j = true then nI r else ra0 j
theorem yB_1 (ok lim : Nat → Bool) {v : Nat} (hv : v < 36) : yB ok (fun i => decide (i = v)) lim (fun _ => v) (fun _ => 0) (fun i => decide (i = v)) 1 0 0 := by
  refine ⟨by omega, fun j hj => ⟨hv, decide_eq_true rfl⟩, fun i j h1 h2 => by omega, fun i hi hm => ⟨0, by omega, (of_decide_eq_true hm).symm⟩, fun i hi hs => ⟨hs, rfl⟩, fun i j _ _ => Nat.le_refl _, fun j _ _ => Nat.zero_le _, fun j _ => Nat.zero_le _, fun j hj => decide_eq_true rfl, fun i j h => by omega, fun j _ => Or.inl rfl⟩
theorem m_spread_w {now : Nat → Int32} {b : Nat → Nat} (h : yN now b) (hv : yV b) {s r : Nat} (hs : s ≤ 1) (hr : r ≤ 36) {ok S M0 : Nat → Bool} {ra0 : Nat → Int32} (hok : ∀ j, j < 36 → ok j = (yop b s j && !M0 j)) (h0 : ∀ j, j < 36 → M0 j = true → 0 ≤ ra0 j) (h1 : ∀ j, j < 36 → M0 j = false → ra0 j = -1)
    (G : Option ((Nat → Int32) × (Nat → Int32)) → Prop) (K : (Nat → Int32) → (Nat → Int32) → Int32 → Int32 → Int32 → Option ((Nat → Int32) × (Nat → Int32))) {k : Nat} :
    ∀ d w n queue roomAt sz Q D M, w + d = 4 → d < n → k < sz → yB ok S (fun _ => true) Q D M sz k w → yLk queue roomAt ra0 r Q M sz →
      (∀ queue roomAt sz Q D M, yB ok S (fun _ => true) Q D M sz (k + 1) 0 → yLk queue roomAt ra0 r Q M sz → G (K queue roomAt (nI s) (nI sz) (nI (k + 1)))) → G (fX5_spread_31 K now (nI r) n queue roomAt (nI s) (nI sz) (nI k) (nI w)) := by
  intro d
  induction d with
  | zero =>
    intro w n queue roomAt sz Q D M hw hn hk hB hL hK
    cases n with
    | zero => omega
    | succ n =>
      rw [fX5_spread_31, if_pos (show (4 : Int32) ≤ nI w from nI_le (a := 4) (by omega) (by omega)), zbn_E, nI_1]
      exact hK _ _ _ _ _ _ (yB_next hB hk (Or.inl (by omega))) hL
  | succ d ih =>
    intro w n queue roomAt sz Q D M hw hn hk hB hL hK
    cases n with
    | zero => omega
    | succ n =>
      have hsz := yB_sz hB
      have hq := (hB.2.1 k hk).1
      rw [fX5_spread_31, if_neg (show ¬ (4 : Int32) ≤ nI w from nI_ge (b := 4) (by omega) (by omega)), zck_N (by omega) (by omega), tn_n (by omega), hL.1 k hk, m_next _ hq w (by omega), zbd_S]
      unfold fX5_spread_98
      by_cases ht : ynb (Q k) w ≤ 35
      · rw [yI_lt ht, if_neg (nI_pos (by omega)), m_isOpen h hv hs (by omega), zbd_S]
        cases ho : yop b s (ynb (Q k) w) with
        | false =>
          rw [yb_f, if_pos rfl, zbn_E, nI_1]
          refine ih (w + 1) n queue roomAt sz Q D M (by omega) (by omega) hk (yB_skip hB hk (fun a c => ?_)) hL hK
          rw [hok _ a, ho] at c
          cases c
        | true =>
          rw [yb_t, if_neg (by decide), zck_N (by omega) (by omega), tn_n (by omega), hL.2 _ (by omega)]
          cases hm : M (ynb (Q k) w) with
          | true =>
            rw [if_pos rfl, if_pos (nI_pos' (by omega)), zbn_E, nI_1]
            exact ih (w + 1) n queue roomAt sz Q D M (by omega) (by omega) hk (yB_skip hB hk (fun _ _ => hm)) hL hK
          | false =>
            rw [if_neg ynft]
            cases hm0 : M0 (ynb (Q k) w) with
            | true =>
              rw [if_pos (h0 _ (by omega) hm0), zbn_E, nI_1]
              refine ih (w + 1) n queue roomAt sz Q D M (by omega) (by omega) hk (yB_skip hB hk (fun a c => ?_)) hL hK
              rw [hok _ a, hm0, Bool.not_true, Bool.and_false] at c
              cases c
            | false =>
              have hokt : ok (ynb (Q k) w) = true := by rw [hok _ (by omega), ho, hm0]; rfl
              obtain ⟨z1, z2⟩ := yB_add hB hk (by omega) rfl (by omega) hokt hm rfl
              rw [h1 _ (by omega) hm0, if_neg (by decide), zck_N (by omega) (by omega), zck_N (by omega) (by omega), zbn_E, zbn_E, nI_1, nI_1, tn_n (by omega)]
              refine ih (w + 1) n _ _ (sz + 1) _ _ _ (by omega) (by omega) (by omega) z2 ⟨fun j hj => ?_, fun j hj => ?_⟩ hK
              · show upd queue sz (nI (ynb (Q k) w)) j = nI (if j = sz then ynb (Q k) w else Q j)
                unfold upd
                by_cases e : j = sz
                · rw [if_pos e, if_pos e]
                · rw [if_neg e, if_neg e]; exact hL.1 j (by omega)
              · show upd roomAt (ynb (Q k) w) (nI r) j = if (if j = ynb (Q k) w then true else M j) = true then nI r else ra0 j
                unfold upd
                by_cases e : j = ynb (Q k) w
                · rw [if_pos e, if_pos e, if_pos rfl]
                · rw [if_neg e, if_neg e]; exact hL.2 j hj
      · rw [yI_ge ht, if_pos (by decide), zbn_E, nI_1]
        exact ih (w + 1) n queue roomAt sz Q D M (by omega) (by omega) hk (yB_skip hB hk (fun a _ => by omega)) hL hK
theorem m_spread_k {now : Nat → Int32} {b : Nat → Nat} (h : yN now b) (hv : yV b) {s r : Nat} (hs : s ≤ 1) (hr : r ≤ 36) {ok S M0 : Nat → Bool} {ra0 : Nat → Int32} (hok : ∀ j, j < 36 → ok j = (yop b s j && !M0 j)) (h0 : ∀ j, j < 36 → M0 j = true → 0 ≤ ra0 j) (h1 : ∀ j, j < 36 → M0 j = false → ra0 j = -1) :
    ∀ d k n queue roomAt sz Q D M, k + d = 36 → d < n → yB ok S (fun _ => true) Q D M sz k 0 → yLk queue roomAt ra0 r Q M sz →
      ∃ queue' roomAt' sz' Q' D' M', fX5_spread_22 now (nI r) n queue roomAt (nI s) (nI sz) (nI k) = some (queue', roomAt') ∧ yB ok S (fun _ => true) Q' D' M' sz' sz' 0 ∧ yLk queue' roomAt' ra0 r Q' M' sz' := by
  intro d
  induction d with
  | zero =>
    intro k n queue roomAt sz Q D M hk hn hB hL
    cases n with
    | zero => omega
    | succ n =>
      have hsz := yB_sz hB
      have := hB.1
      have e : k = sz := by omega
      subst e
      rw [fX5_spread_22, if_pos (nI_le (Nat.le_refl _) (by omega))]
      exact ⟨_, _, _, _, _, _, rfl, hB, hL⟩
  | succ d ih =>
    intro k n queue roomAt sz Q D M hk hn hB hL
    cases n with
    | zero => omega
    | succ n =>
      have hsz := yB_sz hB
      rw [fX5_spread_22]
      by_cases e : k = sz
      · subst e
        rw [if_pos (nI_le (Nat.le_refl _) (by omega))]
        exact ⟨_, _, _, _, _, _, rfl, hB, hL⟩
      · have := hB.1
        rw [if_neg (nI_ge (by omega) (by omega))]
        exact m_spread_w h hv hs hr hok h0 h1 (fun o => ∃ queue' roomAt' sz' Q' D' M', o = some (queue', roomAt') ∧ yB ok S (fun _ => true) Q' D' M' sz' sz' 0 ∧ yLk queue' roomAt' ra0 r Q' M' sz') _ 4 0 zFu queue roomAt sz Q D M (by omega) (by unfold zFu; omega) (by omega) hB hL
          (fun queue roomAt sz Q D M hB hL => ih (k + 1) n queue roomAt sz Q D M (by omega) (by omega) hB hL)
theorem m_spread {now : Nat → Int32} {b : Nat → Nat} (h : yN now b) (hv : yV b) {s r v : Nat} (hs : s ≤ 1) (hr : r ≤ 36) (hv36 : v < 36) {ok M0 : Nat → Bool} {queue roomAt : Nat → Int32} (hok : ∀ j, j < 36 → ok j = (yop b s j && !M0 j)) (h0 : ∀ j, j < 36 → M0 j = true → 0 ≤ roomAt j) (h1 : ∀ j, j < 36 → M0 j = false → roomAt j = -1) (hov : ok v = true) :
    ∃ queue' roomAt', fX5_spread now queue roomAt (nI r) (nI s) (nI v) = some (queue', roomAt') ∧ ∀ j, j < 36 → roomAt' j = if yR ok (fun i => decide (i = v)) 36 j = true then nI r else roomAt j := by
  unfold fX5_spread
  rw [zck_N hv36 (by omega), show (0 : Int32) = nI 0 from rfl, zck_N (by omega) (by omega), tn_n (by omega), tn_n (by omega)]
  obtain ⟨queue', roomAt', sz', Q', D', M', e1, e2, e3⟩ := m_spread_k (S := fun i => decide (i = v)) (ra0 := roomAt) h hv hs hr hok h0 h1 36 0 zFu (upd queue 0 (nI v)) (upd roomAt v (nI r)) 1 (fun _ => v) (fun _ => 0) (fun i => decide (i = v)) (by omega) (by unfold zFu; omega) (yB_1 _ _ hv36)
    ⟨fun j hj => by
      unfold upd
      rw [if_pos (by omega)], fun j hj => by
      show (if j = v then nI r else roomAt j) = if decide (j = v) = true then nI r else roomAt j
      by_cases e : j = v
      · rw [if_pos e, decide_eq_true e, if_pos rfl]
      · rw [if_neg e, decide_eq_false e, if_neg (by decide)]⟩
  refine ⟨queue', roomAt', e1, fun j hj => ?_⟩
  rw [e3.2 j hj]
  have hr36 := yB_end e2 36 (fun _ _ => rfl) j hj
  rw [yRs_R (fun i hi g => by rw [of_decide_eq_true g]; exact hov) 36 j hj] at hr36
  cases hM : M' j with
  | true =>
    have := hr36.mpr ⟨hM, by have := yB_35 e2 hj hM; omega⟩
    rw [this, if_pos rfl]
  | false =>
    have : ¬ yR ok (fun i => decide (i = v)) 36 j = true := fun z => by
      have := (hr36.mp z).1
      rw [hM] at this
      cases this
    rw [if_neg (by decide), if_neg this]
/-! the model's findRooms -/
theorem m_rooms_l {now : Nat → Int32} {b : Nat → Nat} (h : yN now b) (hv : yV b) {s : Nat} (hs : s ≤ 1) : ∀ d x n queue roomAt r, x + d = 36 → d < n → yIx (yop b s) r roomAt → (∀ n, n < r → ∃ i, i < 36 ∧ yL (yop b s) n i = true) → (∀ j, j < x → yL (yop b s) r j = false) →
    ∃ queue' roomAt' r', fX5_findRooms_28 now n queue roomAt (nI r) (nI s) (nI x) = some (queue', roomAt', nI r') ∧ yNr (yop b s) r' ∧ yIx (yop b s) r' roomAt' := by
  intro d
  induction d with
  | zero =>
    intro x n queue roomAt r hx hn hI hN hj
    cases n with
    | zero => omega
    | succ n =>
      rw [fX5_findRooms_28, if_pos (show (36 : Int32) ≤ nI x from nI_le (a := 36) (by omega) (by omega))]
      exact ⟨_, _, _, rfl, ⟨hN, fun i hi => hj i (by omega)⟩, hI⟩
  | succ d ih =>
    intro x n queue roomAt r hx hn hI hN hj
    cases n with
    | zero => omega
    | succ n =>
      have hr := yL_n hN
      rw [fX5_findRooms_28, if_neg (show ¬ (36 : Int32) ≤ nI x from nI_ge (b := 36) (by omega) (by omega)), m_isOpen h hv hs (by omega), zbd_S]
      unfold fX5_findRooms_68
      cases ho : yop b s x with
      | false =>
        rw [yb_f, if_pos rfl, zbn_E, nI_1]
        refine ih (x + 1) n queue roomAt r (by omega) (by omega) hI hN (fun j hj2 => ?_)
        by_cases e : j = x
        · rw [e]
          cases g : yL (yop b s) r x with
          | false => rfl
          | true => rw [← ho]; exact (yL_le g (Nat.zero_le _)).symm ▸ rfl
        · exact hj j (by omega)
      | true =>
        rw [yb_t, if_neg (by decide), zck_N (by omega) (by omega), tn_n (by omega)]
        cases hl : yL (yop b s) r x with
        | false =>
          obtain ⟨m, m1, m2, m3⟩ := hI.1 x (by omega) hl ho
          rw [m2, if_pos (nI_pos' (by omega)), zbn_E, nI_1]
          refine ih (x + 1) n queue roomAt r (by omega) (by omega) hI hN (fun j hj2 => ?_)
          by_cases e : j = x
          · rw [e]; exact hl
          · exact hj j (by omega)
        | true =>
          rw [hI.2 x (by omega) (Or.inr hl), if_neg (by decide)]
          have hlo : yLo (yL (yop b s) r) x := ⟨by omega, hl, hj⟩
          obtain ⟨queue', roomAt', e1, e2⟩ := m_spread (r := r) (ok := yL (yop b s) r) (M0 := fun j => yop b s j && !yL (yop b s) r j || !yop b s j && false) (queue := queue) (roomAt := roomAt) h hv hs (by omega) (show x < 36 by omega)
            (fun j hj => by
              cases g : yL (yop b s) r j with
              | true => rw [show yop b s j = true from yL_le g (Nat.zero_le _)]; rfl
              | false => cases yop b s j <;> rfl)
            (fun j hj g => by
              cases g2 : yop b s j with
              | false => rw [g2] at g; cases g
              | true =>
                cases g3 : yL (yop b s) r j with
                | true => rw [g2, g3] at g; cases g
                | false =>
                  obtain ⟨m, m1, m2, m3⟩ := hI.1 j hj g3 g2
                  rw [m2]
                  exact nI_pos' (by omega))
            (fun j hj g => by
              cases g2 : yop b s j with
              | false => exact hI.2 j hj (Or.inl g2)
              | true =>
                cases g3 : yL (yop b s) r j with
                | true => exact hI.2 j hj (Or.inr g3)
                | false => rw [g2, g3] at g; cases g) hl
          rw [e1, zbd_S, zbn_E, nI_1, nI_1]
          have e3 : ∀ j, j < 36 → roomAt' j = if yrm (yL (yop b s) r) j = true then nI r else roomAt j := fun j hj => by rw [e2 j hj, yrm_lo hlo j hj]
          refine ih (x + 1) n queue' roomAt' (r + 1) (by omega) (by omega) ⟨fun j hj g1 g2 => ?_, fun j hj g => ?_⟩ (fun m hm => ?_) (fun j hj2 => ?_)
          · cases g3 : yrm (yL (yop b s) r) j with
            | true => exact ⟨r, by omega, by rw [e3 j hj, g3, if_pos rfl], g3⟩
            | false =>
              have g4 : yL (yop b s) r j = false := by
                cases g5 : yL (yop b s) r j with
                | false => rfl
                | true =>
                  have : (yL (yop b s) r j && !yrm (yL (yop b s) r) j) = false := g1
                  rw [g5, g3] at this
                  cases this
              obtain ⟨m, m1, m2, m3⟩ := hI.1 j hj g4 g2
              exact ⟨m, by omega, by rw [e3 j hj, g3, if_neg (by decide)]; exact m2, m3⟩
          · have g3 : yrm (yL (yop b s) r) j = false := by
              cases g4 : yrm (yL (yop b s) r) j with
              | false => rfl
              | true =>
                have a := yL_rm.mpr g4
                rcases g with g | g
                · have := yL_le a.1 (Nat.zero_le _)
                  rw [show yL (yop b s) 0 j = yop b s j from rfl, g] at this
                  cases this
                · rw [a.2] at g; cases g
            rw [e3 j hj, g3, if_neg (by decide)]
            rcases g with g | g
            · exact hI.2 j hj (Or.inl g)
            · exact hI.2 j hj (Or.inr (yL_1 g))
          · by_cases e : m = r
            · rw [e]; exact ⟨x, by omega, hl⟩
            · exact hN m (by omega)
          · by_cases e : j = x
            · rw [e]; exact (yL_rm.mpr (yrm_v hlo)).2
            · cases g : yL (yop b s) (r + 1) j with
              | false => rfl
              | true =>
                have := yL_1 g
                rw [hj j (by omega)] at this
                cases this
theorem m_findRooms {now : Nat → Int32} {b : Nat → Nat} (h : yN now b) (hv : yV b) {s : Nat} (hs : s ≤ 1) (queue roomAt : Nat → Int32) (rooms : Int32) : ∃ queue' roomAt' r, fX5_findRooms now queue roomAt rooms (nI s) = some (queue', roomAt', nI r) ∧ yNr (yop b s) r ∧ yIx (yop b s) r roomAt' := by
  have hl : ∀ d x n ra, x + d = 36 → d < n → (∀ j, j < x → ra j = -1) → ∃ queue' roomAt' r, fX5_findRooms_7 now n queue ra (nI 0) (nI s) (nI x) = some (queue', roomAt', nI r) ∧ yNr (yop b s) r ∧ yIx (yop b s) r roomAt' := by
    intro d
    induction d with
    | zero =>
      intro x n ra hx hn hj
      cases n with
      | zero => omega
      | succ n =>
        rw [fX5_findRooms_7, if_pos (show (36 : Int32) ≤ nI x from nI_le (a := 36) (by omega) (by omega))]
        exact m_rooms_l h hv hs 36 0 zFu queue ra 0 (by omega) (by unfold zFu; omega) ⟨fun j hj g1 g2 => (by rw [show yL (yop b s) 0 j = yop b s j from rfl, g2] at g1; cases g1), fun j hj2 _ => hj j (by omega)⟩ (fun n hn => absurd hn (by omega)) (fun j hj => absurd hj (by omega))
    | succ d ih =>
      intro x n ra hx hn hj
      cases n with
      | zero => omega
      | succ n =>
        rw [fX5_findRooms_7, if_neg (show ¬ (36 : Int32) ≤ nI x from nI_ge (b := 36) (by omega) (by omega)), zck_N (by omega) (by omega), zbn_E, nI_1, tn_n (by omega)]
        refine ih (x + 1) n _ (by omega) (by omega) (fun j hj2 => ?_)
        unfold upd
        by_cases e : j = x
        · rw [if_pos e]
        · rw [if_neg e]; exact hj j (by omega)
  unfold fX5_findRooms
  exact hl 36 0 zFu roomAt (by omega) (by unfold zFu; omega) (fun j hj => absurd hj (by omega))

/-! PURE 6: where a piece can go, as the model finds it -/
def yw4 (X : Nat → Bool) : Nat → Bool
  | 0 => false
  | w + 1 => yw4 X w || X w
theorem yw4_t {X : Nat → Bool} : ∀ {n}, yw4 X n = true ↔ ∃ w, w < n ∧ X w = true
  | 0 => ⟨fun h => (nomatch h), fun ⟨w, h, _⟩ => absurd h (Nat.not_lt_zero w)⟩
  | n + 1 => by
    show (yw4 X n || X n) = true ↔ _
    rw [Bool.or_eq_true, yw4_t (n := n)]
    constructor
    · rintro (⟨w, a, c⟩ | h)
      · exact ⟨w, by omega, c⟩
      · exact ⟨n, by omega, h⟩
    · rintro ⟨w, a, c⟩
      by_cases e : w = n
      · rw [e] at c; exact Or.inr c
      · exact Or.inl ⟨w, by omega, c⟩
def yRay (fr : Nat → Bool) (w : Nat) : Nat → Nat → Nat → Bool
  | 0, _, _ => false
  | n + 1, p, t => (decide (ynb p w < 36) && fr (ynb p w)) && (decide (t = ynb p w) || yRay fr w n (ynb p w) t)
def yst (p w : Nat) : Nat := if w = 0 then p / 6 else if w = 1 then 5 - p % 6 else if w = 2 then 5 - p / 6 else p % 6
theorem yst_1 : ∀ p, p < 36 → ∀ w, w < 4 → (ynb p w < 36 → yst (ynb p w) w + 1 = yst p w) ∧ yst p w ≤ 5 ∧ (yst p w = 0 → ynb p w = 99) := by decide +kernel
theorem yRay_ge {fr : Nat → Bool} {w : Nat} (hw : w < 4) : ∀ n m p t, p < 36 → yst p w ≤ n → yst p w ≤ m → yRay fr w n p t = yRay fr w m p t := by
  intro n
  induction n with
  | zero =>
    intro m p t hp hn hm
    cases m with
    | zero => rfl
    | succ m =>
      have := (yst_1 p hp w hw).2.2 (by omega)
      show false = ((decide (ynb p w < 36) && fr (ynb p w)) && (decide (t = ynb p w) || yRay fr w m (ynb p w) t))
      rw [this]
      rfl
  | succ n ih =>
    intro m p t hp hn hm
    cases m with
    | zero =>
      have := (yst_1 p hp w hw).2.2 (by omega)
      show ((decide (ynb p w < 36) && fr (ynb p w)) && (decide (t = ynb p w) || yRay fr w n (ynb p w) t)) = false
      rw [this]
      rfl
    | succ m =>
      show ((decide (ynb p w < 36) && fr (ynb p w)) && (decide (t = ynb p w) || yRay fr w n (ynb p w) t)) = ((decide (ynb p w < 36) && fr (ynb p w)) && (decide (t = ynb p w) || yRay fr w m (ynb p w) t))
      by_cases g : ynb p w < 36
      · have := (yst_1 p hp w hw).1 g
        rw [ih m (ynb p w) t g (by omega) (by omega)]
      · rw [decide_eq_false g]
        rfl
theorem yRay_5 {fr : Nat → Bool} {w p t : Nat} (hw : w < 4) (hp : p < 36) : yRay fr w 5 p t = ((decide (ynb p w < 36) && fr (ynb p w)) && (decide (t = ynb p w) || yRay fr w 5 (ynb p w) t)) := by
  have := (yst_1 p hp w hw).2.1
  rw [yRay_ge hw 5 6 p t hp this (by omega)]
  rfl
theorem nb_1 : vp_nar .boolean (1 : Int32) = 1 := by decide +kernel
theorem nb_0 : vp_nar .boolean (0 : Int32) = 0 := by decide +kernel
theorem m_near {now : Nat → Int32} {b : Nat → Nat} (h : yN now b) (hv : yV b) {s q : Nat} (hs : s ≤ 1) (hq : q < 36) {comes : Nat → Int32} (h0 : ∀ j, j < 36 → comes j = 0) :
    ∃ c', fX5_findNear now comes (nI q) (nI s) = some c' ∧ ∀ t, t < 36 → c' t = yb (yw4 (fun w => decide (ynb q w = t) && yfr b s t) 4) := by
  have hl : ∀ d w n comes, w + d = 4 → d < n → (∀ t, t < 36 → comes t = yb (yw4 (fun w => decide (ynb q w = t) && yfr b s t) w)) → ∃ c', fX5_findNear_2 now n comes (nI q) (nI s) (nI w) = some c' ∧ ∀ t, t < 36 → c' t = yb (yw4 (fun w => decide (ynb q w = t) && yfr b s t) 4) := by
    intro d
    induction d with
    | zero =>
      intro w n comes hw hn hc
      cases n with
      | zero => omega
      | succ n =>
        rw [fX5_findNear_2, if_pos (show (4 : Int32) ≤ nI w from nI_le (a := 4) (by omega) (by omega))]
        rw [show w = 4 by omega] at hc
        exact ⟨_, rfl, hc⟩
    | succ d ih =>
      intro w n comes hw hn hc
      cases n with
      | zero => omega
      | succ n =>
        rw [fX5_findNear_2, if_neg (show ¬ (4 : Int32) ≤ nI w from nI_ge (b := 4) (by omega) (by omega)), m_next q hq w (by omega), zbd_S, m_mayStand_nb h hv hs, zbd_S]
        unfold fX5_findNear_32
        by_cases g : (decide (ynb q w < 36) && yfr b s (ynb q w)) = true
        · obtain ⟨g1, g2⟩ := (Bool.and_eq_true _ _).mp g
          have g3 := of_decide_eq_true g1
          rw [g, yb_t, if_neg (by decide), yI_lt (by omega), zck_N (by omega) (by omega), zbn_E, nI_1, tn_n (by omega), nb_1]
          refine ih (w + 1) n _ (by omega) (by omega) (fun t ht => ?_)
          show upd comes (ynb q w) 1 t = yb (yw4 (fun w => decide (ynb q w = t) && yfr b s t) w || (decide (ynb q w = t) && yfr b s t))
          unfold upd
          by_cases e : t = ynb q w
          · rw [if_pos e, e, g2, decide_eq_true rfl, Bool.and_true, Bool.or_true]; rfl
          · rw [if_neg e, decide_eq_false (fun z => e z.symm), Bool.false_and, Bool.or_false]; exact hc t ht
        · have g' : (decide (ynb q w < 36) && yfr b s (ynb q w)) = false := by simpa using g
          rw [g', yb_f, if_pos rfl, zbn_E, nI_1]
          refine ih (w + 1) n _ (by omega) (by omega) (fun t ht => ?_)
          show comes t = yb (yw4 (fun w => decide (ynb q w = t) && yfr b s t) w || (decide (ynb q w = t) && yfr b s t))
          have : (decide (ynb q w = t) && yfr b s t) = false := by
            by_cases e : ynb q w = t
            · rw [e, decide_eq_true ht, Bool.true_and] at g'
              rw [g', Bool.and_false]
            · rw [decide_eq_false e, Bool.false_and]
          rw [this, Bool.or_false]
          exact hc t ht
  unfold fX5_findNear
  exact hl 4 0 zFu comes (by omega) (by unfold zFu; omega) (fun t ht => h0 t ht)
theorem m_ray {now : Nat → Int32} {b : Nat → Nat} (h : yN now b) (hv : yV b) {s q w : Nat} (hs : s ≤ 1) (hw : w < 4) (G : Option (Nat → Int32) → Prop) (K : (Nat → Int32) → Int32 → Int32 → Int32 → Option (Nat → Int32)) :
    ∀ d p n comes, p < 36 → yst p w ≤ d → d < n → (∀ c', (∀ t, t < 36 → c' t = if yRay (yfr b s) w 5 p t = true then 1 else comes t) → G (K c' (nI q) (nI s) (nI (w + 1)))) → G (fX5_findStraight_14 K now n comes (nI q) (nI s) (nI w) (yI (ynb p w) 35)) := by
  intro d
  induction d with
  | zero =>
    intro p n comes hp hd hn hK
    cases n with
    | zero => omega
    | succ n =>
      have e := (yst_1 p hp w hw).2.2 (by omega)
      rw [fX5_findStraight_14, m_mayStand_nb h hv hs, zbd_S, e, show (decide (99 < 36) && yfr b s 99) = false from rfl, yb_f, if_pos rfl, zbn_E, nI_1]
      refine hK comes (fun t ht => ?_)
      rw [yRay_5 hw hp, e]
      rfl
  | succ d ih =>
    intro p n comes hp hd hn hK
    cases n with
    | zero => omega
    | succ n =>
      rw [fX5_findStraight_14, m_mayStand_nb h hv hs, zbd_S]
      by_cases g : (decide (ynb p w < 36) && yfr b s (ynb p w)) = true
      · obtain ⟨g1, g2⟩ := (Bool.and_eq_true _ _).mp g
        have g3 := of_decide_eq_true g1
        rw [g, yb_t, if_neg (by decide), yI_lt (by omega), zck_N (by omega) (by omega), m_next _ g3 w hw, zbd_S, tn_n (by omega), nb_1]
        have h1 := (yst_1 p hp w hw).1 g3
        refine ih (ynb p w) n _ g3 (by omega) (by omega) (fun c' hc => hK c' (fun t ht => ?_))
        rw [hc t ht, yRay_5 (p := p) hw hp, g, Bool.true_and]
        unfold upd
        by_cases e : t = ynb p w
        · rw [if_pos e, decide_eq_true e, Bool.true_or, if_pos rfl]
          split <;> rfl
        · rw [if_neg e, decide_eq_false e, Bool.false_or]
      · have g' : (decide (ynb p w < 36) && yfr b s (ynb p w)) = false := by simpa using g
        rw [g', yb_f, if_pos rfl, zbn_E, nI_1]
        refine hK comes (fun t ht => ?_)
        rw [yRay_5 hw hp, g']
        rfl
theorem m_straight {now : Nat → Int32} {b : Nat → Nat} (h : yN now b) (hv : yV b) {s q : Nat} (hs : s ≤ 1) (hq : q < 36) {comes : Nat → Int32} (h0 : ∀ j, j < 36 → comes j = 0) :
    ∃ c', fX5_findStraight now comes (nI q) (nI s) = some c' ∧ ∀ t, t < 36 → c' t = yb (yw4 (fun w => yRay (yfr b s) w 5 q t) 4) := by
  have hl : ∀ d w n comes, w + d = 4 → d < n → (∀ t, t < 36 → comes t = yb (yw4 (fun w => yRay (yfr b s) w 5 q t) w)) → ∃ c', fX5_findStraight_2 now n comes (nI q) (nI s) (nI w) = some c' ∧ ∀ t, t < 36 → c' t = yb (yw4 (fun w => yRay (yfr b s) w 5 q t) 4) := by
    intro d
    induction d with
    | zero =>
      intro w n comes hw hn hc
      cases n with
      | zero => omega
      | succ n =>
        rw [fX5_findStraight_2, if_pos (show (4 : Int32) ≤ nI w from nI_le (a := 4) (by omega) (by omega))]
        rw [show w = 4 by omega] at hc
        exact ⟨_, rfl, hc⟩
    | succ d ih =>
      intro w n comes hw hn hc
      cases n with
      | zero => omega
      | succ n =>
        rw [fX5_findStraight_2, if_neg (show ¬ (4 : Int32) ≤ nI w from nI_ge (b := 4) (by omega) (by omega)), m_next q hq w (by omega), zbd_S]
        have := (yst_1 q hq w (by omega)).2.1
        refine m_ray h hv hs (by omega) (fun o => ∃ c', o = some c' ∧ ∀ t, t < 36 → c' t = yb (yw4 (fun w => yRay (yfr b s) w 5 q t) 4)) _ 5 q zFu comes hq this (by unfold zFu; omega) (fun c' hc' => ih (w + 1) n c' (by omega) (by omega) (fun t ht => ?_))
        rw [hc' t ht, hc t ht]
        show _ = yb (yw4 (fun w => yRay (yfr b s) w 5 q t) w || yRay (yfr b s) w 5 q t)
        cases yRay (yfr b s) w 5 q t
        · rw [if_neg (by decide), Bool.or_false]
        · rw [if_pos rfl, Bool.or_true]; rfl
  unfold fX5_findStraight
  exact hl 4 0 zFu comes (by omega) (by unfold zFu; omega) (fun t ht => h0 t ht)
/-! walks -/
def yCk (comes queue far : Nat → Int32) (q : Nat) (Q D : Nat → Nat) (M : Nat → Bool) (sz : Nat) : Prop := (∀ j, j < sz → queue j = nI (Q j) ∧ far (Q j) = nI (D (Q j))) ∧ ∀ j, j < 36 → comes j = yb (M j && !decide (j = q))
def ylt3 (d : Nat) : Bool := decide (d < 3)
theorem m_walks_w {now : Nat → Int32} {b : Nat → Nat} (h : yN now b) (hv : yV b) {s q : Nat} (hs : s ≤ 1) (hqf : yfr b s q = false) {S : Nat → Bool}
    (G : Option ((Nat → Int32) × (Nat → Int32) × (Nat → Int32)) → Prop) (K : (Nat → Int32) → (Nat → Int32) → (Nat → Int32) → Int32 → Int32 → Int32 → Option ((Nat → Int32) × (Nat → Int32) × (Nat → Int32))) {k : Nat} :
    ∀ d w n comes queue far sz Q D M, w + d = 4 → d < n → k < sz → yB (yfr b s) S ylt3 Q D M sz k w → yCk comes queue far q Q D M sz →
      (∀ comes queue far sz Q D M, yB (yfr b s) S ylt3 Q D M sz (k + 1) 0 → yCk comes queue far q Q D M sz → G (K comes queue far (nI s) (nI sz) (nI (k + 1)))) → G (fX5_findWalks_28 K now n comes queue far (nI s) (nI sz) (nI k) (nI w)) := by
  intro d
  induction d with
  | zero =>
    intro w n comes queue far sz Q D M hw hn hk hB hL hK
    cases n with
    | zero => omega
    | succ n =>
      rw [fX5_findWalks_28, if_pos (show (4 : Int32) ≤ nI w from nI_le (a := 4) (by omega) (by omega))]
      unfold fX5_findWalks_130
      rw [zbn_E, nI_1]
      exact hK _ _ _ _ _ _ _ (yB_next hB hk (Or.inl (by omega))) hL
  | succ d ih =>
    intro w n comes queue far sz Q D M hw hn hk hB hL hK
    cases n with
    | zero => omega
    | succ n =>
      have hsz := yB_sz hB
      obtain ⟨hq, hMk⟩ := hB.2.1 k hk
      have hDk := yB_35 hB hq hMk
      obtain ⟨l1, l2⟩ := hL.1 k hk
      rw [fX5_findWalks_28, if_neg (show ¬ (4 : Int32) ≤ nI w from nI_ge (b := 4) (by omega) (by omega)), zck_N (by omega) (by omega), tn_n (show k < 2000 by omega), l1, zck_N (by omega) (by omega), tn_n (show Q k < 2000 by omega), l2]
      by_cases hlim : D (Q k) < 3
      · rw [if_neg (show ¬ (3 : Int32) ≤ nI (D (Q k)) from nI_ge (b := 3) (by omega) (by omega)), zck_N (by omega) (by omega), m_next _ hq w (by omega), zbd_S, m_mayStand_nb h hv hs, zbd_S]
        unfold fX5_findWalks_124
        by_cases g : (decide (ynb (Q k) w < 36) && yfr b s (ynb (Q k) w)) = true
        · obtain ⟨g1, g2⟩ := (Bool.and_eq_true _ _).mp g
          have g3 := of_decide_eq_true g1
          have hne : ynb (Q k) w ≠ q := fun e => by rw [e, hqf] at g2; cases g2
          rw [g, yb_t, if_neg (by decide), yI_lt (by omega), zck_N (by omega) (by omega), tn_n (show ynb (Q k) w < 2000 by omega), hL.2 _ g3, decide_eq_false hne, Bool.not_false, Bool.and_true]
          cases hm : M (ynb (Q k) w) with
          | true =>
            rw [yb_t, if_neg (by decide), zbn_E, nI_1]
            exact ih (w + 1) n comes queue far sz Q D M (by omega) (by omega) hk (yB_skip hB hk (fun _ _ => hm)) hL hK
          | false =>
            obtain ⟨z1, z2⟩ := yB_add hB hk (by omega) rfl (by omega) g2 hm (decide_eq_true hlim)
            rw [yb_f, if_pos rfl, zck_N (by omega) (by omega), zck_N (by omega) (by omega), zck_N (by omega) (by omega), zck_N (by omega) (by omega), zck_N (by omega) (by omega), zbn_E, zbn_E, nI_1, nI_1, nI_1, tn_n (show sz < 2000 by omega), nb_1]
            refine ih (w + 1) n _ _ _ (sz + 1) _ _ _ (by omega) (by omega) (by omega) z2 ⟨fun j hj => ?_, fun j hj => ?_⟩ hK
            · show upd queue sz (nI (ynb (Q k) w)) j = nI (if j = sz then ynb (Q k) w else Q j) ∧ upd far (ynb (Q k) w) (nI (D (Q k) + 1)) (if j = sz then ynb (Q k) w else Q j) = nI (if (if j = sz then ynb (Q k) w else Q j) = ynb (Q k) w then D (Q k) + 1 else D (if j = sz then ynb (Q k) w else Q j))
              unfold upd
              by_cases e : j = sz
              · rw [if_pos e, if_pos e, if_pos rfl, if_pos rfl]; exact ⟨rfl, rfl⟩
              · have hne2 : Q j ≠ ynb (Q k) w := fun e2 => by
                  have := (hB.2.1 j (by omega)).2
                  rw [e2, hm] at this
                  cases this
                rw [if_neg e, if_neg e, if_neg hne2, if_neg hne2]
                exact hL.1 j (by omega)
            · show upd comes (ynb (Q k) w) 1 j = yb ((if j = ynb (Q k) w then true else M j) && !decide (j = q))
              unfold upd
              by_cases e : j = ynb (Q k) w
              · rw [if_pos e, if_pos e, decide_eq_false (by rw [e]; exact hne)]; rfl
              · rw [if_neg e, if_neg e]; exact hL.2 j hj
        · have g' : (decide (ynb (Q k) w < 36) && yfr b s (ynb (Q k) w)) = false := by simpa using g
          rw [g', yb_f, if_pos rfl, zbn_E, nI_1]
          refine ih (w + 1) n comes queue far sz Q D M (by omega) (by omega) hk (yB_skip hB hk (fun a c => ?_)) hL hK
          rw [decide_eq_true a, c] at g'
          cases g'
      · rw [if_pos (show (3 : Int32) ≤ nI (D (Q k)) from nI_le (a := 3) (by omega) (by omega))]
        unfold fX5_findWalks_130
        rw [zbn_E, nI_1]
        exact hK _ _ _ _ _ _ _ (yB_next hB hk (Or.inr (decide_eq_false hlim))) hL
theorem m_walks_k {now : Nat → Int32} {b : Nat → Nat} (h : yN now b) (hv : yV b) {s q : Nat} (hs : s ≤ 1) (hqf : yfr b s q = false) {S : Nat → Bool} :
    ∀ d k n comes queue far sz Q D M, k + d = 36 → d < n → yB (yfr b s) S ylt3 Q D M sz k 0 → yCk comes queue far q Q D M sz →
      ∃ comes' queue' far' sz' Q' D' M', fX5_findWalks_19 now n comes queue far (nI s) (nI sz) (nI k) = some (comes', queue', far') ∧ yB (yfr b s) S ylt3 Q' D' M' sz' sz' 0 ∧ yCk comes' queue' far' q Q' D' M' sz' := by
  intro d
  induction d with
  | zero =>
    intro k n comes queue far sz Q D M hk hn hB hL
    cases n with
    | zero => omega
    | succ n =>
      have hsz := yB_sz hB
      have := hB.1
      have e : k = sz := by omega
      subst e
      rw [fX5_findWalks_19, if_pos (nI_le (Nat.le_refl _) (by omega))]
      exact ⟨_, _, _, _, _, _, _, rfl, hB, hL⟩
  | succ d ih =>
    intro k n comes queue far sz Q D M hk hn hB hL
    cases n with
    | zero => omega
    | succ n =>
      have hsz := yB_sz hB
      rw [fX5_findWalks_19]
      by_cases e : k = sz
      · subst e
        rw [if_pos (nI_le (Nat.le_refl _) (by omega))]
        exact ⟨_, _, _, _, _, _, _, rfl, hB, hL⟩
      · have := hB.1
        rw [if_neg (nI_ge (by omega) (by omega))]
        exact m_walks_w h hv hs hqf (fun o => ∃ comes' queue' far' sz' Q' D' M', o = some (comes', queue', far') ∧ yB (yfr b s) S ylt3 Q' D' M' sz' sz' 0 ∧ yCk comes' queue' far' q Q' D' M' sz') _ 4 0 zFu comes queue far sz Q D M (by omega) (by unfold zFu; omega) (by omega) hB hL
          (fun comes queue far sz Q D M hB hL => ih (k + 1) n comes queue far sz Q D M (by omega) (by omega) hB hL)
def yWk (b : Nat → Nat) (s q t : Nat) : Bool := yRs (yfr b s) (fun i => decide (i = q)) 3 t && !decide (t = q)
theorem m_walks {now : Nat → Int32} {b : Nat → Nat} (h : yN now b) (hv : yV b) {s q : Nat} (hs : s ≤ 1) (hq : q < 36) (hqf : yfr b s q = false) {comes queue far : Nat → Int32} (h0 : ∀ j, j < 36 → comes j = 0) :
    ∃ c' q' f', fX5_findWalks now comes queue far (nI q) (nI s) = some (c', q', f') ∧ ∀ t, t < 36 → c' t = yb (yWk b s q t) := by
  unfold fX5_findWalks
  rw [show (0 : Int32) = nI 0 from rfl, zck_N (by omega) (by omega), zck_N (by omega) (by omega), tn_n (by omega), tn_n (by omega)]
  obtain ⟨c', q', f', sz', Q', D', M', e1, e2, e3⟩ := m_walks_k (S := fun i => decide (i = q)) h hv hs hqf 36 0 zFu comes (upd queue 0 (nI q)) (upd far q (nI 0)) 1 (fun _ => q) (fun _ => 0) (fun i => decide (i = q)) (by omega) (by unfold zFu; omega) (yB_1 _ _ hq)
    ⟨fun j hj => by
      unfold upd
      rw [if_pos (by omega), if_pos rfl]
      exact ⟨rfl, rfl⟩, fun j hj => by
      rw [h0 j hj]
      show 0 = yb (decide (j = q) && !decide (j = q))
      cases decide (j = q) <;> rfl⟩
  refine ⟨c', q', f', e1, fun t ht => ?_⟩
  rw [e3.2 t ht]
  unfold yWk
  have h3 := yB_end e2 3 (fun d hd => decide_eq_true hd) t ht
  have e : M' t = yRs (yfr b s) (fun i => decide (i = q)) 3 t := by
    cases hM : M' t with
    | true =>
      obtain ⟨j, j1, j2⟩ := e2.2.2.2.1 t ht hM
      have hd := e2.2.2.2.2.2.2.2.2.2.2 j j1
      rw [j2] at hd
      refine (h3.mpr ⟨hM, ?_⟩).symm
      rcases hd with hd | hd
      · omega
      · have := of_decide_eq_true hd
        omega
    | false =>
      cases g : yRs (yfr b s) (fun i => decide (i = q)) 3 t with
      | false => rfl
      | true =>
        have := (h3.mp g).1
        rw [hM] at this
        cases this
  rw [e]
/-- where the piece on q can go -/
def yTg (b : Nat → Nat) (q t : Nat) : Bool :=
  if ysd (b q) ≤ 1 then (if ykd (b q) = 1 then yw4 (fun w => yRay (yfr b (ysd (b q))) w 5 q t) 4 else if ykd (b q) = 2 then yWk b (ysd (b q)) q t else yw4 (fun w => decide (ynb q w = t) && yfr b (ysd (b q)) t) 4) else false
theorem ysk : ∀ c, c < 29 → (ysd c ≤ 1 ↔ ykd c ≤ 3) ∧ (ysd c ≤ 1 → c ≠ 0 ∧ c ≤ 8) := by decide +kernel
theorem m_findMoves {now : Nat → Int32} {b : Nat → Nat} (h : yN now b) (hv : yV b) {q : Nat} (hq : q < 36) (comes queue far : Nat → Int32) :
    ∃ c' q' f', fX5_findMoves now comes queue far (nI q) = some (c', q', f') ∧ ∀ t, t < 36 → c' t = yb (yTg b q t) := by
  have hl : ∀ d x n comes, x + d = 36 → d < n → (∀ j, j < x → comes j = 0) → ∃ c' q' f', fX5_findMoves_2 now n comes queue far (nI q) (nI x) = some (c', q', f') ∧ ∀ t, t < 36 → c' t = yb (yTg b q t) := by
    intro d
    induction d with
    | zero =>
      intro x n comes hx hn hc
      cases n with
      | zero => omega
      | succ n =>
        have hc28 := yV_28 hv hq
        have hk := ysk (b q) (by omega)
        have hc' : ∀ j, j < 36 → comes j = 0 := fun j hj => hc j (by omega)
        rw [fX5_findMoves_2, if_pos (show (36 : Int32) ≤ nI x from nI_le (a := 36) (by omega) (by omega)), zck_N (by omega) (by omega), tn_n (show q < 2000 by omega), h q (by omega), m_sideOf _ (by omega), zbd_S, zck_N (by omega) (by omega), m_kindOf _ (by omega), zbd_S]
        by_cases g : ysd (b q) ≤ 1
        · have g3 := hk.1.mp g
          rw [yI_lt g, yI_lt g3]
          have hqf : yfr b (ysd (b q)) q = false := by
            unfold yfr
            rw [decide_eq_false (hk.2 g).1, Bool.and_false]
          rcases (show ykd (b q) = 0 ∨ ykd (b q) = 1 ∨ ykd (b q) = 2 ∨ ykd (b q) = 3 by omega) with e | e | e | e
          · rw [e, if_pos (show nI 0 = (0 : Int32) from rfl)]
            obtain ⟨c', e1, e2⟩ := m_near h hv g hq hc'
            rw [e1, zbd_S]
            refine ⟨_, _, _, rfl, fun t ht => ?_⟩
            rw [e2 t ht]
            unfold yTg
            rw [if_pos g, e, if_neg (by decide), if_neg (by decide)]
          · rw [e, if_neg (by decide), if_pos (show nI 1 = (1 : Int32) from rfl)]
            obtain ⟨c', e1, e2⟩ := m_straight h hv g hq hc'
            rw [e1, zbd_S]
            refine ⟨_, _, _, rfl, fun t ht => ?_⟩
            rw [e2 t ht]
            unfold yTg
            rw [if_pos g, e, if_pos rfl]
          · rw [e, if_neg (by decide), if_neg (by decide), if_pos (show nI 2 = (2 : Int32) from rfl)]
            obtain ⟨c', q', f', e1, e2⟩ := m_walks (queue := queue) (far := far) h hv g hq hqf hc'
            rw [e1, zbd_S]
            refine ⟨c', q', f', rfl, fun t ht => ?_⟩
            rw [e2 t ht]
            unfold yTg
            rw [if_pos g, e, if_neg (by decide), if_pos rfl]
          · rw [e, if_neg (by decide), if_neg (by decide), if_neg (by decide), if_pos (show nI 3 = (3 : Int32) from rfl)]
            obtain ⟨c', e1, e2⟩ := m_near h hv g hq hc'
            rw [e1, zbd_S]
            refine ⟨_, _, _, rfl, fun t ht => ?_⟩
            rw [e2 t ht]
            unfold yTg
            rw [if_pos g, e, if_neg (by decide), if_neg (by decide)]
        · have g3 : ¬ ykd (b q) ≤ 3 := fun z => g (hk.1.mpr z)
          rw [yI_ge g3, if_neg (by decide), if_neg (by decide), if_neg (by decide), if_neg (by decide)]
          refine ⟨_, _, _, rfl, fun t ht => ?_⟩
          unfold yTg
          rw [if_neg g, hc' t ht]
          rfl
    | succ d ih =>
      intro x n comes hx hn hc
      cases n with
      | zero => omega
      | succ n =>
        rw [fX5_findMoves_2, if_neg (show ¬ (36 : Int32) ≤ nI x from nI_ge (b := 36) (by omega) (by omega)), zck_N (by omega) (by omega), zbn_E, nI_1, tn_n (by omega), nb_0]
        refine ih (x + 1) n _ (by omega) (by omega) (fun j hj => ?_)
        unfold upd
        by_cases e : j = x
        · rw [if_pos e]
        · rw [if_neg e]; exact hc j (by omega)
  unfold fX5_findMoves
  exact hl 36 0 zFu comes (by omega) (by unfold zFu; omega) (fun j hj => absurd hj (by omega))
theorem m_can {now : Nat → Int32} {b : Nat → Nat} (h : yN now b) (hv : yV b) {q t : Nat} (hq : q < 36) (ht : t < 36) (comes queue far : Nat → Int32) :
    ∃ c' q' f', fX5_can now comes queue far (nI q) (nI t) = some (yb (yTg b q t), c', q', f') := by
  obtain ⟨c', q', f', e1, e2⟩ := m_findMoves h hv hq comes queue far
  unfold fX5_can
  rw [e1, zbd_S, zck_N ht (by omega), tn_n (by omega)]
  show ∃ c'' q'' f'', zck (zbo (c' t)) (some (c' t, c', q', f')) = some (yb (yTg b q t), c'', q'', f'')
  rw [e2 t ht, zbo_b]
  exact ⟨_, _, _, rfl⟩
theorem m_countMoves {now : Nat → Int32} {b : Nat → Nat} (h : yN now b) (hv : yV b) {q : Nat} (hq : q < 36) (comes queue far : Nat → Int32) :
    ∃ c' q' f', fX5_countMoves now comes queue far (nI q) = some (nI (fb_ct (yTg b q) 36), c', q', f') := by
  obtain ⟨c', q', f', e1, e2⟩ := m_findMoves h hv hq comes queue far
  unfold fX5_countMoves
  rw [e1, zbd_S]
  refine ⟨c', q', f', ?_⟩
  refine lp_ct0 (fun n a x => fX5_countMoves_9 now n c' q' f' a (nI x)) (fun a => some (a, c', q', f')) (yTg b q) 36 (by omega) (fun n a x h1 h2 => ?_) (fun n a x hx => ?_)
  · show fX5_countMoves_9 now (n + 1) c' q' f' a (nI x) = some (a, c', q', f')
    rw [fX5_countMoves_9, if_pos (show (36 : Int32) ≤ nI x from nI_le (a := 36) (by omega) (by omega))]
  · show fX5_countMoves_9 now (n + 1) c' q' f' a (nI x) = fX5_countMoves_9 now n c' q' f' (a + yb (yTg b q x)) (nI (x + 1))
    rw [fX5_countMoves_9, if_neg (show ¬ (36 : Int32) ≤ nI x from nI_ge (b := 36) (by omega) (by omega)), zck_N (by omega) (by omega), tn_n (by omega), e2 x hx]
    unfold fX5_countMoves_30
    cases yTg b q x
    · rw [yb_f, if_pos rfl, zbn_E, zbn_E, ← nI_1 x]
    · rw [yb_t, if_neg (by decide), zbn_E, zbn_E, ← nI_1 x]

/-! PURE 5: the model's steps -/
def yFk (queue far : Nat → Int32) (Q D : Nat → Nat) (M : Nat → Bool) (sz : Nat) : Prop := (∀ j, j < sz → queue j = nI (Q j)) ∧ ∀ j, j < 36 → far j = if M j = true then nI (D j) else -1
theorem m_steps_w {now : Nat → Int32} {b : Nat → Nat} (h : yN now b) (hv : yV b) {s : Nat} (hs : s ≤ 1) {S : Nat → Bool}
    (G : Option ((Nat → Int32) × (Nat → Int32)) → Prop) (K : (Nat → Int32) → (Nat → Int32) → Int32 → Int32 → Int32 → Option ((Nat → Int32) × (Nat → Int32))) {k : Nat} :
    ∀ d w n queue far sz Q D M, w + d = 4 → d < n → k < sz → yB (yop b s) S (fun _ => true) Q D M sz k w → yFk queue far Q D M sz →
      (∀ queue far sz Q D M, yB (yop b s) S (fun _ => true) Q D M sz (k + 1) 0 → yFk queue far Q D M sz → G (K queue far (nI s) (nI sz) (nI (k + 1)))) → G (fX5_findSteps_63 K now n queue far (nI s) (nI sz) (nI k) (nI w)) := by
  intro d
  induction d with
  | zero =>
    intro w n queue far sz Q D M hw hn hk hB hL hK
    cases n with
    | zero => omega
    | succ n =>
      rw [fX5_findSteps_63, if_pos (show (4 : Int32) ≤ nI w from nI_le (a := 4) (by omega) (by omega)), zbn_E, nI_1]
      exact hK _ _ _ _ _ _ (yB_next hB hk (Or.inl (by omega))) hL
  | succ d ih =>
    intro w n queue far sz Q D M hw hn hk hB hL hK
    cases n with
    | zero => omega
    | succ n =>
      have hsz := yB_sz hB
      obtain ⟨hq, hMk⟩ := hB.2.1 k hk
      have hDk := yB_35 hB hq hMk
      rw [fX5_findSteps_63, if_neg (show ¬ (4 : Int32) ≤ nI w from nI_ge (b := 4) (by omega) (by omega)), zck_N (by omega) (by omega), tn_n (show k < 2000 by omega), hL.1 k hk, m_next _ hq w (by omega), zbd_S]
      unfold fX5_findSteps_138
      by_cases ht : ynb (Q k) w ≤ 35
      · rw [yI_lt ht, if_neg (nI_pos (by omega)), m_isOpen h hv hs (by omega), zbd_S]
        cases ho : yop b s (ynb (Q k) w) with
        | false =>
          rw [yb_f, if_pos rfl, zbn_E, nI_1]
          refine ih (w + 1) n queue far sz Q D M (by omega) (by omega) hk (yB_skip hB hk (fun a c => ?_)) hL hK
          rw [ho] at c
          cases c
        | true =>
          rw [yb_t, if_neg (by decide), zck_N (by omega) (by omega), tn_n (show ynb (Q k) w < 2000 by omega), hL.2 _ (show ynb (Q k) w < 36 by omega)]
          cases hm : M (ynb (Q k) w) with
          | true =>
            have := yB_35 hB (show ynb (Q k) w < 36 by omega) hm
            rw [if_pos rfl, if_pos (nI_pos' (by omega)), zbn_E, nI_1]
            exact ih (w + 1) n queue far sz Q D M (by omega) (by omega) hk (yB_skip hB hk (fun _ _ => hm)) hL hK
          | false =>
            obtain ⟨z1, z2⟩ := yB_add hB hk (by omega) rfl (by omega) ho hm rfl
            rw [if_neg ynft, if_neg (by decide), zck_N (by omega) (by omega), zck_N (by omega) (by omega), zck_N (by omega) (by omega), zck_N (by omega) (by omega), zbn_E, zbn_E, nI_1, nI_1, tn_n (show sz < 2000 by omega), tn_n (show Q k < 2000 by omega), hL.2 _ hq, hMk, if_pos rfl, nI_1]
            refine ih (w + 1) n _ _ (sz + 1) _ _ _ (by omega) (by omega) (by omega) z2 ⟨fun j hj => ?_, fun j hj => ?_⟩ hK
            · show upd queue sz (nI (ynb (Q k) w)) j = nI (if j = sz then ynb (Q k) w else Q j)
              unfold upd
              by_cases e : j = sz
              · rw [if_pos e, if_pos e]
              · rw [if_neg e, if_neg e]; exact hL.1 j (by omega)
            · show upd far (ynb (Q k) w) (nI (D (Q k) + 1)) j = if (if j = ynb (Q k) w then true else M j) = true then nI (if j = ynb (Q k) w then D (Q k) + 1 else D j) else -1
              unfold upd
              by_cases e : j = ynb (Q k) w
              · rw [if_pos e, if_pos e, if_pos rfl, if_pos e]
              · rw [if_neg e, if_neg e, if_neg e]; exact hL.2 j hj
      · rw [yI_ge ht, if_pos (by decide), zbn_E, nI_1]
        exact ih (w + 1) n queue far sz Q D M (by omega) (by omega) hk (yB_skip hB hk (fun a _ => by omega)) hL hK
theorem m_steps_k {now : Nat → Int32} {b : Nat → Nat} (h : yN now b) (hv : yV b) {s : Nat} (hs : s ≤ 1) {S : Nat → Bool} :
    ∀ d k n queue far sz Q D M, k + d = 36 → d < n → yB (yop b s) S (fun _ => true) Q D M sz k 0 → yFk queue far Q D M sz →
      ∃ queue' far' sz' Q' D' M', fX5_findSteps_55 now n queue far (nI s) (nI sz) (nI k) = some (queue', far') ∧ yB (yop b s) S (fun _ => true) Q' D' M' sz' sz' 0 ∧ yFk queue' far' Q' D' M' sz' := by
  intro d
  induction d with
  | zero =>
    intro k n queue far sz Q D M hk hn hB hL
    cases n with
    | zero => omega
    | succ n =>
      have hsz := yB_sz hB
      have := hB.1
      have e : k = sz := by omega
      subst e
      rw [fX5_findSteps_55, if_pos (nI_le (Nat.le_refl _) (by omega))]
      exact ⟨_, _, _, _, _, _, rfl, hB, hL⟩
  | succ d ih =>
    intro k n queue far sz Q D M hk hn hB hL
    cases n with
    | zero => omega
    | succ n =>
      have hsz := yB_sz hB
      rw [fX5_findSteps_55]
      by_cases e : k = sz
      · subst e
        rw [if_pos (nI_le (Nat.le_refl _) (by omega))]
        exact ⟨_, _, _, _, _, _, rfl, hB, hL⟩
      · have := hB.1
        rw [if_neg (nI_ge (by omega) (by omega))]
        exact m_steps_w h hv hs (fun o => ∃ queue' far' sz' Q' D' M', o = some (queue', far') ∧ yB (yop b s) S (fun _ => true) Q' D' M' sz' sz' 0 ∧ yFk queue' far' Q' D' M' sz') _ 4 0 zFu queue far sz Q D M (by omega) (by unfold zFu; omega) (by omega) hB hL
          (fun queue far sz Q D M hB hL => ih (k + 1) n queue far sz Q D M (by omega) (by omega) hB hL)
/-- how far a square is: what the model's row holds -/
def yFr (b : Nat → Nat) (s : Nat) (far : Nat → Int32) : Prop := ∀ j, j < 36 → (∃ d, d < 36 ∧ far j = nI d ∧ ∀ n, yRs (yop b s) (ypc b s) n j = true ↔ d ≤ n) ∨ (far j = -1 ∧ ∀ n, yRs (yop b s) (ypc b s) n j = false)
theorem m_findSteps {now : Nat → Int32} {b : Nat → Nat} (h : yN now b) (hv : yV b) {s : Nat} (hs : s ≤ 1) (queue far : Nat → Int32) : ∃ queue' far', fX5_findSteps now queue far (nI s) = some (queue', far') ∧ yFr b s far' := by
  have hl : ∀ (d x n : Nat) (queue far : Nat → Int32) (sz : Nat) (Q : Nat → Nat), x + d = 36 → d < n → sz ≤ x → (∀ j, j < sz → queue j = nI (Q j) ∧ Q j < x ∧ ypc b s (Q j) = true) → (∀ i j, i < j → j < sz → Q i ≠ Q j) → (∀ i, i < x → ypc b s i = true → ∃ j, j < sz ∧ Q j = i) → (∀ j, j < x → far j = if ypc b s j = true then nI 0 else -1) →
      ∃ queue' far', fX5_findSteps_4 now n queue far (nI s) (nI sz) (nI x) = some (queue', far') ∧ yFr b s far' := by
    intro d
    induction d with
    | zero =>
      intro x n queue far sz Q hx hn hsx h1 h2 h3 h4
      cases n with
      | zero => omega
      | succ n =>
        have e : x = 36 := by omega
        subst e
        have hB : yB (yop b s) (ypc b s) (fun _ => true) Q (fun _ => 0) (ypc b s) sz 0 0 :=
          ⟨by omega, fun j hj => ⟨(h1 j hj).2.1, (h1 j hj).2.2⟩, h2, h3, fun i hi g => ⟨g, rfl⟩, fun _ _ _ _ => Nat.le_refl _, fun _ _ _ => Nat.zero_le _, fun _ _ => Nat.zero_le _, fun j hj => (h1 j hj).2.2, fun i j g => by omega, fun _ _ => Or.inl rfl⟩
        obtain ⟨queue', far', sz', Q', D', M', e1, e2, e3⟩ := m_steps_k h hv hs 36 0 zFu queue far sz Q (fun _ => 0) (ypc b s) (by omega) (by unfold zFu; omega) hB ⟨fun j hj => (h1 j hj).1, h4⟩
        rw [fX5_findSteps_4, if_pos (show (36 : Int32) ≤ nI 36 from nI_le (a := 36) (by omega) (by omega))]
        refine ⟨queue', far', e1, fun j hj => ?_⟩
        cases hM : M' j with
        | true =>
          refine Or.inl ⟨D' j, yB_35 e2 hj hM, by rw [e3.2 j hj, hM, if_pos rfl], fun n => ?_⟩
          rw [yB_end e2 n (fun _ _ => rfl) j hj]
          exact ⟨fun z => z.2, fun z => ⟨hM, z⟩⟩
        | false =>
          refine Or.inr ⟨by rw [e3.2 j hj, hM, if_neg (by decide)], fun n => ?_⟩
          cases g : yRs (yop b s) (ypc b s) n j with
          | false => rfl
          | true =>
            have := ((yB_end e2 n (fun _ _ => rfl) j hj).mp g).1
            rw [hM] at this
            cases this
    | succ d ih =>
      intro x n queue far sz Q hx hn hsx h1 h2 h3 h4
      cases n with
      | zero => omega
      | succ n =>
        have := yV_28 hv (show x < 36 by omega)
        rw [fX5_findSteps_4, if_neg (show ¬ (36 : Int32) ≤ nI x from nI_ge (b := 36) (by omega) (by omega)), zck_N (by omega) (by omega), zck_N (by omega) (by omega), tn_n (show x < 2000 by omega), h x (by omega), m_sideOf _ (by omega), zbd_S]
        unfold fX5_findSteps_47
        by_cases g : ysd (b x) = s
        · have gp : ypc b s x = true := decide_eq_true g
          rw [if_pos ((yI_sd hs).mpr g), zck_N (by omega) (by omega), zck_N (by omega) (by omega), zbn_E, zbn_E, nI_1, nI_1, tn_n (show sz < 2000 by omega)]
          refine ih (x + 1) n _ _ (sz + 1) (fun j => if j = sz then x else Q j) (by omega) (by omega) (by omega) (fun j hj => ?_) (fun i j hij hj => ?_) (fun i hi hp => ?_) (fun j hj => ?_)
          · show upd queue sz (nI x) j = nI (if j = sz then x else Q j) ∧ (if j = sz then x else Q j) < x + 1 ∧ ypc b s (if j = sz then x else Q j) = true
            unfold upd
            by_cases e : j = sz
            · rw [if_pos e, if_pos e]; exact ⟨rfl, by omega, gp⟩
            · rw [if_neg e, if_neg e]
              obtain ⟨a, c, d⟩ := h1 j (by omega)
              exact ⟨a, by omega, d⟩
          · show (if i = sz then x else Q i) ≠ (if j = sz then x else Q j)
            rw [if_neg (show ¬ i = sz by omega)]
            by_cases e : j = sz
            · rw [if_pos e]
              have := (h1 i (by omega)).2.1
              omega
            · rw [if_neg e]; exact h2 i j hij (by omega)
          · by_cases e : i = x
            · exact ⟨sz, by omega, by show (if sz = sz then x else Q sz) = i; rw [if_pos rfl, e]⟩
            · obtain ⟨j, a, c⟩ := h3 i (by omega) hp
              exact ⟨j, by omega, by show (if j = sz then x else Q j) = i; rw [if_neg (by omega), c]⟩
          · unfold upd
            by_cases e : j = x
            · rw [if_pos e, e, gp, if_pos rfl]; rfl
            · rw [if_neg e, if_neg e]; exact h4 j (by omega)
        · have gp : ypc b s x = false := decide_eq_false g
          rw [if_neg (fun z => g ((yI_sd hs).mp z)), zbn_E, nI_1]
          refine ih (x + 1) n _ _ sz Q (by omega) (by omega) (by omega) (fun j hj => ?_) h2 (fun i hi hp => ?_) (fun j hj => ?_)
          · obtain ⟨a, c, d⟩ := h1 j hj
            exact ⟨a, by omega, d⟩
          · by_cases e : i = x
            · rw [e, gp] at hp; cases hp
            · exact h3 i (by omega) hp
          · unfold upd
            by_cases e : j = x
            · rw [if_pos e, e, gp, if_neg (by decide)]
            · rw [if_neg e]; exact h4 j (by omega)
  unfold fX5_findSteps
  exact hl 36 0 zFu queue far 0 (fun _ => 0) (by omega) (by unfold zFu; omega) (by omega) (fun j hj => absurd hj (by omega)) (fun i j a c => absurd c (by omega)) (fun i hi => absurd hi (by omega)) (fun j hj => absurd hj (by omega))

/-! PURE 35: the best move, as the class finds it -/
theorem ybe_0 {b : Nat → Nat} {k : Nat} (h : ycd b (k / 36) (k % 36) = false) : ybe b (k + 1) = ybe b k := by
  show (if ycd b (k / 36) (k % 36) = true then _ else _) = _
  rw [h, if_neg ynft]
theorem ybe_le {b : Nat → Nat} {k : Nat} (h : ycd b (k / 36) (k % 36) = true) (g : nI (ywo b (k / 36) (k % 36)) ≤ (ybe b k).2) : ybe b (k + 1) = ybe b k := by
  show (if ycd b (k / 36) (k % 36) = true then (if nI (ywo b (k / 36) (k % 36)) ≤ (ybe b k).2 then ybe b k else _) else _) = _
  rw [if_pos h, if_pos g]
theorem ybe_gt {b : Nat → Nat} {k : Nat} (h : ycd b (k / 36) (k % 36) = true) (g : ¬ nI (ywo b (k / 36) (k % 36)) ≤ (ybe b k).2) : ybe b (k + 1) = (nI k, nI (ywo b (k / 36) (k % 36))) := by
  show (if ycd b (k / 36) (k % 36) = true then (if nI (ywo b (k / 36) (k % 36)) ≤ (ybe b k).2 then ybe b k else (nI k, nI (ywo b (k / 36) (k % 36)))) else _) = _
  rw [if_pos h, if_neg g]
theorem ybe_sk {b : Nat → Nat} {k : Nat} : ∀ d, (∀ i, k ≤ i → i < k + d → ycd b (i / 36) (i % 36) = false) → ybe b (k + d) = ybe b k
  | 0, _ => rfl
  | d + 1, h => by
    show ybe b (k + d + 1) = _
    rw [ybe_0 (h (k + d) (by omega) (by omega))]
    exact ybe_sk d (fun i h1 h2 => h i h1 (by omega))
theorem c_best_in {fb : Nat → Int64} {b : Nat → Nat} (hP : yP fb b) (hv : yV b) {p : Nat} (hp : p < 36) {x1 x6 : Int64} {T : Nat → Bool} (h6 : ySW x6 T) (hT : ∀ t, t < 36 → T t = ycd b p t) (k23 : (Nat → Int64) → Int64 → Int32 → Int32 → Int32 → Option (Int32 × (Nat → Int64))) (Q : Option (Int32 × (Nat → Int64)) → Prop)
    (hK : ∀ ft, Q (k23 ft x1 (ybe b (36 * p + 36)).2 (ybe b (36 * p + 36)).1 (nI (p + 1)))) : ∀ d t n ft, t + d = 36 → d < n → Q (fX4_bestMove_57 k23 fb n ft x1 (ybe b (36 * p + t)).2 (ybe b (36 * p + t)).1 (nI p) x6 (nI t)) := by
  intro d
  induction d with
  | zero =>
    intro t n ft ht hn
    cases n with
    | zero => omega
    | succ n =>
      rw [fX4_bestMove_57, if_pos (show (36 : Int32) ≤ nI t from nI_le (a := 36) (by omega) (by omega))]
      unfold fX4_bestMove_120
      rw [zbn_E, nI_1, show t = 36 by omega]
      exact hK ft
  | succ d ih =>
    intro t n ft ht hn
    cases n with
    | zero => omega
    | succ n =>
      have t36 : t < 36 := by omega
      have e1 : (36 * p + t) / 36 = p := by omega
      have e2 : (36 * p + t) % 36 = t := by omega
      have st : ∀ ft, ybe b (36 * p + t + 1) = ybe b (36 * p + t) → Q (fX4_bestMove_57 k23 fb n ft x1 (ybe b (36 * p + t)).2 (ybe b (36 * p + t)).1 (nI p) x6 (nI (t + 1))) := fun ft e => by
        rw [← e]
        exact ih (t + 1) n ft (by omega) (by omega)
      rw [fX4_bestMove_57, if_neg (show ¬ (36 : Int32) ≤ nI t from nI_ge (b := 36) (by omega) (by omega))]
      by_cases z : x6 = 0
      · have z0 := (ySW_z h6).mp z
        rw [if_pos ((zlc _ _).mpr z)]
        unfold fX4_bestMove_120
        rw [zbn_E, nI_1]
        have e : ybe b (36 * p + t + (d + 1)) = ybe b (36 * p + t) := ybe_sk (d + 1) (fun i h1 h2 => by
          rw [show i / 36 = p by omega, ← hT (i % 36) (by omega)]
          exact z0 _ (by omega))
        rw [show 36 * p + t + (d + 1) = 36 * p + 36 by omega] at e
        rw [← e]
        exact hK ft
      · rw [if_neg (fun y => z ((zlc _ _).mp y)), yhas h6 t36, zbd_S, hT t t36]
        cases hc : ycd b p t with
        | false =>
          rw [yb_f, if_pos rfl]
          unfold fX4_bestMove_93
          rw [if_pos (ybe_m b _)]
          unfold fX4_bestMove_114
          rw [zbn_E, nI_1]
          exact st ft (ybe_0 (by rw [e1, e2]; exact hc))
        | true =>
          obtain ⟨g1, g2⟩ := (Bool.and_eq_true _ _).mp hc
          obtain ⟨ft', z1⟩ := q_worthV hP hv hp t36 (of_decide_eq_true g1) g2 ft
          rw [yb_t, if_neg (show ¬ (1 : Int32) = 0 by decide), z1, zbd_S]
          dsimp only
          unfold fX4_bestMove_93
          by_cases gw : nI (ywo b p t) ≤ (ybe b (36 * p + t)).2
          · rw [if_pos gw]
            unfold fX4_bestMove_114
            rw [zbn_E, nI_1]
            exact st ft' (ybe_le (by rw [e1, e2]; exact hc) (by rw [e1, e2]; exact gw))
          · rw [if_neg gw]
            unfold fX4_bestMove_114
            rw [zbn_E, zbn_E, nI_1, show nI p * (36 : Int32) = nI (p * 36) from pk_mul p 36, nI_add, show p * 36 + t = 36 * p + t by omega]
            have e := ybe_gt (b := b) (k := 36 * p + t) (by rw [e1, e2]; exact hc) (by rw [e1, e2]; exact gw)
            rw [e1, e2] at e
            have := ih (t + 1) n ft' (by omega) (by omega)
            rw [show 36 * p + (t + 1) = 36 * p + t + 1 by omega, e] at this
            exact this
theorem c_best_l {fb : Nat → Int64} {b : Nat → Nat} (hP : yP fb b) (hv : yV b) {x1 : Int64} (h1 : ySW x1 (ypc b (b 74 % 2))) : ∀ d p n ft, p + d = 36 → d < n → ∃ ft', fX4_bestMove_23 fb n ft x1 (ybe b (36 * p)).2 (ybe b (36 * p)).1 (nI p) = some ((ybe b 1296).1, ft') := by
  have hms : b 74 % 2 ≤ 1 := by omega
  intro d
  induction d with
  | zero =>
    intro p n ft hp hn
    cases n with
    | zero => omega
    | succ n =>
      rw [fX4_bestMove_23, if_pos (show (36 : Int32) ≤ nI p from nI_le (a := 36) (by omega) (by omega)), show p = 36 by omega]
      exact ⟨_, rfl⟩
  | succ d ih =>
    intro p n ft hp hn
    cases n with
    | zero => omega
    | succ n =>
      have p36 : p < 36 := by omega
      rw [fX4_bestMove_23, if_neg (show ¬ (36 : Int32) ≤ nI p from nI_ge (b := 36) (by omega) (by omega)), yhas h1 p36, zbd_S]
      have hK : ∀ ft, ∃ ft', fX4_bestMove_23 fb n ft x1 (ybe b (36 * p + 36)).2 (ybe b (36 * p + 36)).1 (nI (p + 1)) = some ((ybe b 1296).1, ft') := fun ft => by
        rw [show 36 * p + 36 = 36 * (p + 1) by omega]
        exact ih (p + 1) n ft (by omega) (by omega)
      have en : ∀ (s0 : Int64) (T : Nat → Bool), ySW s0 T → (∀ t, t < 36 → T t = ycd b p t) → ∃ ft', fX4_bestMove_52 (fun b0 b1 b2 b3 b4 => fX4_bestMove_23 fb n b0 b1 b2 b3 b4) fb ft x1 (ybe b (36 * p)).2 (ybe b (36 * p)).1 (nI p) s0 = some ((ybe b 1296).1, ft') := fun s0 T hs hT => by
        unfold fX4_bestMove_52
        exact c_best_in hP hv p36 hs hT _ (fun o => ∃ ft', o = some ((ybe b 1296).1, ft')) hK 36 0 zFu ft (by omega) (by unfold zFu; omega)
      cases hc : ypc b (b 74 % 2) p with
      | false =>
        rw [yb_f, if_pos rfl]
        refine en 0 _ ySW_0 (fun t ht => ?_)
        unfold ycd
        rw [show decide (ysd (b p) = b 74 % 2) = false from hc]
        rfl
      | true =>
        have hd : ysd (b p) = b 74 % 2 := of_decide_eq_true hc
        obtain ⟨w, w1, w2⟩ := c_targets hP hv p36 (show ysd (b p) ≤ 1 by omega)
        rw [yb_t, if_neg (show ¬ (1 : Int32) = 0 by decide), w1, zbd_S]
        refine en w _ w2 (fun t ht => ?_)
        unfold ycd
        rw [show decide (ysd (b p) = b 74 % 2) = true from hc]
        rfl
theorem ybe_in (b : Nat → Nat) : ∀ k, k ≤ 1296 → (ybe b k).1 = -1 ∨ ∃ j, j < k ∧ (ybe b k).1 = nI j
  | 0, _ => Or.inl rfl
  | k + 1, hk => by
    unfold ybe
    split
    · split
      · rcases ybe_in b k (by omega) with h | ⟨j, h1, h2⟩
        · exact Or.inl h
        · exact Or.inr ⟨j, by omega, h2⟩
      · exact Or.inr ⟨k, by omega, rfl⟩
    · rcases ybe_in b k (by omega) with h | ⟨j, h1, h2⟩
      · exact Or.inl h
      · exact Or.inr ⟨j, by omega, h2⟩

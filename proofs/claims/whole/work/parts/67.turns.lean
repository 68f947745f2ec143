/-! PURE 27: move, door and buy as calls -/
theorem ymr_b {b : Nat → Nat} (hv : yV b) {p t : Nat} (hp : p < 36) (ht : t < 36) : (ymr b p t).1 < 9 ∧ (ymr b p t).2 < 100 ∧ ((ymr b p t).1 = 0 → (ymr b p t).2 = 0) := by
  have h74 := (yV_74 hv).2.2.1
  unfold ymr
  split
  · exact ⟨by show 1 < 9; omega, by show b 74 < 100; omega, fun z => absurd z (show ¬ (1 : Nat) = 0 by decide)⟩
  · split
    · exact ⟨by show 2 < 9; omega, by show p < 100; omega, fun z => absurd z (show ¬ (2 : Nat) = 0 by decide)⟩
    · split
      · exact ⟨by show 3 < 9; omega, by show t < 100; omega, fun z => absurd z (show ¬ (3 : Nat) = 0 by decide)⟩
      · exact ⟨by show 0 < 9; omega, by show 0 < 100; omega, fun _ => rfl⟩
theorem ypr_b {b : Nat → Nat} (hv : yV b) {q : Nat} (hq : q < 36) (isP : Bool) : (ypr b q isP).1 < 9 ∧ (ypr b q isP).2 < 100 ∧ ((ypr b q isP).1 = 0 → (ypr b q isP).2 = 0) := by
  have h74 := (yV_74 hv).2.2.1
  have hkk : ∀ c, c < 29 → ykk c ≤ 9 := by decide +kernel
  have h9 := hkk (b q) (by have := yV_28 hv hq; omega)
  unfold ypr
  split
  · exact ⟨by show 1 < 9; omega, by show b 74 < 100; omega, fun z => absurd z (show ¬ (1 : Nat) = 0 by decide)⟩
  · split
    · exact ⟨by show 4 < 9; omega, by show q < 100; omega, fun z => absurd z (show ¬ (4 : Nat) = 0 by decide)⟩
    · split
      · exact ⟨by show 5 < 9; omega, by show q < 100; omega, fun z => absurd z (show ¬ (5 : Nat) = 0 by decide)⟩
      · split
        · exact ⟨by show 6 < 9; omega, by show q < 100; omega, fun z => absurd z (show ¬ (6 : Nat) = 0 by decide)⟩
        · split
          · rename_i hk
            have hk2 := of_decide_eq_true ((Bool.and_eq_true _ _).mp hk).2
            exact ⟨by show 7 < 9; omega, by show ykq b (b 74 % 2) < 100; omega, fun z => absurd z (show ¬ (7 : Nat) = 0 by decide)⟩
          · split
            · refine ⟨by show 8 < 9; omega, ?_, fun z => absurd z (show ¬ (8 : Nat) = 0 by decide)⟩
              show ypp b q isP - b (72 + b 74 % 2) < 100
              unfold ypp
              split <;> omega
            · exact ⟨by show 0 < 9; omega, by show 0 < 100; omega, fun _ => rfl⟩
/-- the reason kept by both -/
def yK (kR reason detail : Int32) : Prop := ∃ r d, r < 9 ∧ d < 100 ∧ (r = 0 → d = 0) ∧ kR = nI (100 * r + d) ∧ reason = nI r ∧ detail = nI d
theorem q_move {rws : Nat → Int64} {nx ct kept kR reason detail : Int32} {hist : Nat → Nat → Int32} {fb : Nat → Int64} {now : Nat → Int32} {b : Nat → Nat} (h : yH rws nx ct hist kept) (hP : yP fb b) (hN : yN now b) (hV : yV2 b) (hK : yK kR reason detail) (thrown : Int32) (comes queue far : Nat → Int32) (p1 p2 : Int32) :
    ∃ (o : Nat) (t x y kR' nx' ct' reason' detail' : Int32) (fb' rws' : Nat → Int64) (now' c' q' f' : Nat → Int32) (hist' : Nat → Nat → Int32) (b' : Nat → Nat), fX4_move kR fb rws nx ct p1 p2 = some (o, x, kR', fb', rws', nx', ct') ∧ fX5_move thrown now hist kept reason detail comes queue far 0 p1 p2 = some (y, t, now', hist', ct', reason', detail', c', q', f') ∧
      ((o = 0 ∧ t = 0 ∧ x = y) ∨ (o = 1 ∧ t = 1) ∨ (o = 4 ∧ t = 2)) ∧ yH rws' nx' ct' hist' ct' ∧ yP fb' b' ∧ yN now' b' ∧ yV2 b' ∧ yK kR' reason' detail' := by
  have hct : ct = kept := by
    obtain ⟨x, c, B, _, _, _, e1, e2, _⟩ := h
    rw [e1, e2]
  subst hct
  unfold fX4_move
  rcases y_sq p1 with ⟨p, hp, rfl, e1, e2⟩ | ⟨e1, e2⟩
  · rcases y_sq p2 with ⟨t, ht, rfl, g1, g2⟩ | ⟨g1, g2⟩
    · obtain ⟨rws', nx', ct', hist', r1, r2, r3⟩ := y_remember h hP hN hV
      have hch : fX5_change now hist ct 0 = some (hist', ct') := by
        unfold fX5_change
        rw [if_pos rfl, r2, zbd_S]
      obtain ⟨mA, mB⟩ := m_move hN hV hp ht thrown reason detail comes queue far hch
      obtain ⟨y1, y2, y3⟩ := ymr_b hV.1 hp ht
      rw [e2, zbd_S, if_pos rfl, g2, zbd_S, if_pos rfl, c_moveRef hP hV.1 hp ht, zbd_S]
      unfold fX4_requireTaken
      by_cases g : (ymr b p t).1 = 0
      · obtain ⟨n', c', q', f', m1, m2⟩ := mB g
        have hall : b 75 = 0 ∧ ypc b (b 74 % 2) p = true ∧ yTg b p t = true := by
          have g := g
          unfold ymr at g
          by_cases k1 : b 75 = 0
          · rw [if_neg (show ¬ b 75 ≠ 0 by omega)] at g
            cases k2 : ypc b (b 74 % 2) p with
            | false => rw [k2, if_pos rfl] at g; cases g
            | true =>
              cases k3 : yTg b p t with
              | false => rw [k2, k3, if_neg (by decide), if_pos rfl] at g; cases g
              | true => exact ⟨k1, rfl, rfl⟩
          · rw [if_pos (show b 75 ≠ 0 from k1)] at g; cases g
        obtain ⟨f2, z1, z2⟩ := c_takeMove hP hV hp ht (of_decide_eq_true hall.2.1) hall.2.2 (hV.2.1 hall.1)
        rw [g, y3 g, show nI (100 * 0 + 0) = (0 : Int32) from rfl, if_pos rfl, zbd_S]
        dsimp only
        rw [if_pos rfl, r1, zbd_S, z1, zbd_S, m1]
        exact ⟨_, _, _, _, _, _, _, _, _, _, _, _, _, _, _, _, _, rfl, rfl, Or.inl ⟨rfl, rfl, rfl⟩, r3, z2, m2, yV_tm hV hp ht hall.2.2 (hV.2.1 hall.1), hK⟩
      · obtain ⟨c', q', f', m1⟩ := mA g
        have hz : ¬ nI (100 * (ymr b p t).1 + (ymr b p t).2) = 0 := fun z => by
          have := (nI_z (by omega)).mp z
          omega
        rw [if_neg hz, zbd_S]
        dsimp only
        rw [if_neg (by decide), m1]
        exact ⟨_, _, _, _, _, _, _, _, _, _, _, _, _, _, _, _, b, rfl, rfl, Or.inr (Or.inr ⟨rfl, rfl⟩), h, hP, hN, hV, ⟨_, _, y1, y2, y3, rfl, rfl, rfl⟩⟩
    · unfold fX5_move
      rw [e1, e2, zbd_S, zbd_S, if_pos rfl, if_neg (show ¬ (1 : Int32) = 0 by decide), g1, g2, zbd_S, zbd_S, if_neg (by decide), if_pos rfl]
      exact ⟨_, _, _, _, _, _, _, _, _, _, _, _, _, _, _, _, b, rfl, rfl, Or.inr (Or.inl ⟨rfl, rfl⟩), h, hP, hN, hV, hK⟩
  · unfold fX5_move
    rw [e1, e2, zbd_S, zbd_S, if_neg (by decide), if_pos rfl]
    exact ⟨_, _, _, _, _, _, _, _, _, _, _, _, _, _, _, _, b, rfl, rfl, Or.inr (Or.inl ⟨rfl, rfl⟩), h, hP, hN, hV, hK⟩

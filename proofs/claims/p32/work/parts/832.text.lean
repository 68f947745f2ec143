/-! THE CLASS ALONE, 3: texts -/
def yfe (c : Nat → Nat) (L : Nat) : Nat → Nat → Nat → Int32
  | 0, st, _ => if st = 5 then -1 else nI L
  | d + 1, st, i => if yex st (c i) = 9 then nI i else yfe c L d (yex st (c i)) (i + 1)
theorem e_fe {ch : Nat → Int32} {c : Nat → Nat} {L : Nat} (h : yTx ch ch c L) : ∀ d i st n, i + d = L → st < 6 → d < n → fX1_firstError_4 ch (nI L) n (nI st) (nI i) = some (yfe c L d st i) := by
  have hL := h.1
  intro d
  induction d with
  | zero =>
    intro i st n hi hs hn
    obtain ⟨n', rfl⟩ : ∃ n', n = n' + 1 := ⟨n - 1, by omega⟩
    have e : i = L := by omega
    subst e
    show _ = some (if st = 5 then -1 else nI i)
    by_cases g : st = 5
    · subst g
      rw [c_feG hL n', if_pos rfl]
    · rw [c_feE hL (by omega) n', if_neg g]
  | succ d ih =>
    intro i st n hi hs hn
    obtain ⟨n', rfl⟩ : ∃ n', n = n' + 1 := ⟨n - 1, by omega⟩
    show _ = some (if yex st (c i) = 9 then nI i else yfe c L d (yex st (c i)) (i + 1))
    have hc := (h.2 i (by omega)).1
    by_cases g : yex st (c i) = 9
    · rw [c_fe9 h (by omega) hs n' g, if_pos g]
    · have g6 : yex st (c i) < 6 := (yex_6 st hs _ hc).resolve_left g
      rw [c_fe h (by omega) hs n' rfl g6, if_neg g]
      exact ih (i + 1) _ n' (by omega) g6 (by omega)
theorem e_turn {ch : Nat → Int32} {c : Nat → Nat} {L : Nat} (h : yTx ch ch c L) {a a' : Nat} (htr : yTr c L a a') {ft : Nat → Int64} {b : Nat → Nat} (hP : yP ft b) (hV : yV2 b) :
    ∃ (ref : Int32) (ft' : Nat → Int64) (b' : Nat → Nat), fX4_takeTurnOnTrial ft ch (nI L) (nI a) = some (ref, ft') ∧ ((ref = 0 ∧ yP ft' b' ∧ yV2 b' ∧ b' 74 = b 74 + 1) ∨ ref ≠ 0) := by
  have hL := h.1
  rcases htr with ⟨g, rfl⟩ | ⟨g, rfl⟩
  · obtain ⟨g1, g2, g3, g4⟩ := g
    have hq := yqv_36 g3 g4
    have hsq := c_sqAt h (show a + 1 + 2 ≤ L by omega) g3 g4
    by_cases k : c a = 43
    · obtain ⟨cA, cB⟩ := c_buyT hP hV hq false
      have hpb := ypr_b hV.1 hq false
      have ec : fX4_takeTurnOnTrial ft ch (nI L) (nI a) = zbd (fX4_buyOnTrial ft (nI (yqv (c (a + 1)) (c (a + 2)))) (yb false)) (fun u1 => some (u1.1, u1.2)) := by
        unfold fX4_takeTurnOnTrial
        rw [c_at h (show a < L by omega), zbd_S, k, if_pos (show nI 43 = (43 : Int32) from rfl)]
        unfold fX4_takeTurnOnTrial_21
        rw [nI_1, hsq, zbd_S, if_neg (show ¬ nI 43 = (42 : Int32) by decide)]
        rfl
      rw [ec]
      by_cases z : (ypr b (yqv (c (a + 1)) (c (a + 2))) false).1 = 0
      · obtain ⟨ft', d1, d2⟩ := cB z
        obtain ⟨k1, k2, k3⟩ := y_pr0f z
        exact ⟨_, _, ydo b (yqv (c (a + 1)) (c (a + 2))), by rw [d1, zbd_S], Or.inl ⟨rfl, d2, (yV_db hV hq (hV.2.1 k1)).2, ydo_74 hq⟩⟩
      · have d1 := cA z
        exact ⟨_, _, b, by rw [d1, zbd_S], Or.inr (fun y => by
          have := (nI_z (by omega)).mp y
          omega)⟩
    · have k : c a = 42 := g2.resolve_left k
      obtain ⟨cA, cB⟩ := c_buyT hP hV hq true
      have hpb := ypr_b hV.1 hq true
      have ec : fX4_takeTurnOnTrial ft ch (nI L) (nI a) = zbd (fX4_buyOnTrial ft (nI (yqv (c (a + 1)) (c (a + 2)))) (yb true)) (fun u1 => some (u1.1, u1.2)) := by
        unfold fX4_takeTurnOnTrial
        rw [c_at h (show a < L by omega), zbd_S, k, if_neg (show ¬ nI 42 = (43 : Int32) by decide), if_pos (show nI 42 = (42 : Int32) from rfl)]
        unfold fX4_takeTurnOnTrial_21
        rw [nI_1, hsq, zbd_S, if_pos (show nI 42 = (42 : Int32) from rfl)]
        rfl
      rw [ec]
      by_cases z : (ypr b (yqv (c (a + 1)) (c (a + 2))) true).1 = 0
      · obtain ⟨ft', d1, d2⟩ := cB z
        obtain ⟨k1, k2, k3, k4, k5⟩ := y_pr0t hV.1 hq z
        exact ⟨_, _, ybu b (yqv (c (a + 1)) (c (a + 2))), by rw [d1, zbd_S], Or.inl ⟨rfl, d2, (yV_bb hV hq (hV.2.1 k1) k2 k5).2, ybu_74 hq⟩⟩
      · have d1 := cA z
        exact ⟨_, _, b, by rw [d1, zbd_S], Or.inr (fun y => by
          have := (nI_z (by omega)).mp y
          omega)⟩
  · obtain ⟨g1, g2, g3, g4, g5, g6⟩ := g
    have hp := yqv_36 g2 g3
    have ht := yqv_36 g5 g6
    have hc := yCo_n g2
    have hsq := c_sqAt h (show a + 2 ≤ L by omega) g2 g3
    have hsq2 := c_sqAt h (show a + 3 + 2 ≤ L by omega) g5 g6
    obtain ⟨y1, y2, y3⟩ := ymr_b hV.1 hp ht
    have n43 : ∀ x, x < 127 → 97 ≤ x → ¬ nI x = (43 : Int32) ∧ ¬ nI x = (42 : Int32) := by decide +kernel
    obtain ⟨n1, n2⟩ := n43 (c a) (by omega) hc.1
    unfold fX4_takeTurnOnTrial
    rw [c_at h (show a < L by omega), zbd_S, if_neg n1, if_neg n2, hsq, zbd_S, show nI a + (3 : Int32) = nI (a + 3) from nI_add a 3, hsq2, zbd_S, c_moveRef hP hV.1 hp ht, zbd_S]
    by_cases z : (ymr b (yqv (c a) (c (a + 1))) (yqv (c (a + 3)) (c (a + 4)))).1 = 0
    · obtain ⟨k1, k2, k3⟩ := ymr_0 z
      obtain ⟨f2, z1, z2⟩ := c_takeMove hP hV hp ht (of_decide_eq_true k2) k3 (hV.2.1 k1)
      rw [z, y3 z, show nI (100 * 0 + 0) = (0 : Int32) from rfl, if_pos (show (0 : Int32) = 0 from rfl), z1, zbd_S]
      exact ⟨_, _, ytm b (yqv (c a) (c (a + 1))) (yqv (c (a + 3)) (c (a + 4))), rfl, Or.inl ⟨rfl, z2, yV_tm hV hp ht k3 (hV.2.1 k1), ytm_74 hp ht (yTg_fr k3).1⟩⟩
    · have hz : ¬ nI (100 * (ymr b (yqv (c a) (c (a + 1))) (yqv (c (a + 3)) (c (a + 4)))).1 + (ymr b (yqv (c a) (c (a + 1))) (yqv (c (a + 3)) (c (a + 4)))).2) = 0 := fun y => by
        have := (nI_z (by omega)).mp y
        omega
      rw [if_neg hz]
      exact ⟨_, _, b, rfl, Or.inr hz⟩
theorem e_read_l {ch : Nat → Int32} {c : Nat → Nat} {L : Nat} (h : yTx ch ch c L) (kE kR nx ct : Int32) (fb rws : Nat → Int64) : ∀ m a n (ft : Nat → Int64) (b : Nat → Nat), yWh c L m a → (a = 0 ∨ c (a - 1) = 59) → L - a < n → yP ft b → yV2 b →
    (∃ (ft' : Nat → Int64) (b' : Nat → Nat), yP ft' b' ∧ yV2 b' ∧ b' 74 = b 74 + m ∧ fX4_read_50 ch n kE kR fb ft rws nx ct (nI L) 0 (nI a) = fX4_read_88 ch kE kR fb ft' rws nx ct (nI L) 0) ∨
    (∃ (ref : Int32) (ft' : Nat → Int64), ¬ ref = 0 ∧ fX4_read_50 ch n kE kR fb ft rws nx ct (nI L) 0 (nI a) = fX4_read_88 ch kE kR fb ft' rws nx ct (nI L) ref) := by
  have hL := h.1
  intro m
  induction m with
  | zero => intro a n ft b hw; exact hw.elim
  | succ m ih =>
    intro a n ft b hw ha hn hP hV
    obtain ⟨a', htr, hrest⟩ := hw
    obtain ⟨t1, t2, t3⟩ := yTr_59 htr
    obtain ⟨ref, ft', b', e1, e4⟩ := e_turn h htr hP hV
    obtain ⟨n', rfl⟩ : ∃ n', n = n' + 1 := ⟨n - 1, by omega⟩
    rw [fX4_read_50]
    unfold fX1_length
    rw [zbd_S, if_neg (nI_ge (show a < L by omega) (by omega)), if_pos rfl, c_isTurn1 h (show a < L by omega) ha, zbd_S, if_neg (show ¬ (1 : Int32) = 0 by decide), e1, zbd_S]
    dsimp only
    unfold fX4_read_82
    rw [zbn_E, nI_1]
    dsimp only
    rcases e4 with ⟨rfl, f1, f3, f4⟩ | z1
    · rcases hrest with ⟨g1, g2⟩ | ⟨g1, g2, g3⟩
      · refine Or.inl ⟨ft', b', f1, f3, by omega, ?_⟩
        have := c_rskip h kE kR nx ct fb ft' rws (L - (a + 1)) (a + 1) (n' - (L - (a + 1))) (by omega) (by omega) (fun j j1 j2 => t3 j (by omega) (by omega))
        rw [show n' - (L - (a + 1)) + (L - (a + 1)) = n' by omega, show a + 1 + (L - (a + 1)) = L by omega] at this
        rw [this]
        obtain ⟨w, hw⟩ : ∃ w, n' - (L - (a + 1)) = w + 1 := ⟨n' - (L - (a + 1)) - 1, by omega⟩
        rw [hw, fX4_read_50]
        unfold fX1_length
        rw [zbd_S, if_pos (nI_le (Nat.le_refl _) (by omega))]
      · have := c_rskip h kE kR nx ct fb ft' rws (a' - a) (a + 1) (n' - (a' - a)) (by omega) (by omega) (fun j j1 j2 => t3 j (by omega) (by omega))
        rw [show n' - (a' - a) + (a' - a) = n' by omega, show a + 1 + (a' - a) = a' + 1 by omega] at this
        rw [this]
        rcases ih (a' + 1) (n' - (a' - a)) ft' b' g3 (Or.inr g2) (by omega) f1 f3 with ⟨ft2, b2, w1, w3, w4, w5⟩ | ⟨ref2, ft2, w1, w3⟩
        · exact Or.inl ⟨ft2, b2, w1, w3, by omega, w5⟩
        · exact Or.inr ⟨ref2, ft2, w1, w3⟩
    · obtain ⟨w, rfl⟩ : ∃ w, n' = w + 1 := ⟨n' - 1, by omega⟩
      refine Or.inr ⟨ref, ft', z1, ?_⟩
      rw [fX4_read_50]
      unfold fX1_length
      rw [zbd_S]
      by_cases k : a + 1 < L
      · rw [if_neg (nI_ge (show a + 1 < L by omega) (by omega)), if_neg z1]
      · omega
/-- read, of a text that is one or is not -/
theorem e_read {ch : Nat → Int32} {c : Nat → Nat} {L m : Nat} (h : yTx ch ch c L) (hw : yfe c L L 0 0 = -1 → yWh c L m 0) (hm : m < 100) (he : yfe c L L 0 0 = -1 ∨ ∃ e, e < 100 ∧ yfe c L L 0 0 = nI e) {rws : Nat → Int64} {nx ct kR : Int32} {cc : Nat} {B : Nat → Nat → Nat} {fb : Nat → Int64} {b : Nat → Nat} (hH : yHc rws nx ct cc B) (hP : yP fb b) (hV : yV2 b) (ft : Nat → Int64) (kE : Int32) :
    ∃ o x kE' kR' fb' ft' rws' nx' ct', fX4_read kE kR fb ft rws nx ct ch (nI L) = some (o, x, kE', kR', fb', ft', rws', nx', ct', 0) ∧ eO b cc B o x fb' rws' nx' ct' ∧ (o = 0 ∨ o = 2 ∨ o = 4) := by
  have hL := h.1
  have e1 : fX1_firstError ch (nI L) = some (yfe c L L 0 0) := e_fe h L 0 0 zFu (by omega) (by omega) (by unfold zFu; omega)
  rcases he with he | ⟨e, he, ee⟩
  · obtain ⟨ft1, c1, c2⟩ := c_copy (f := ft) hP
    have e3 : fX4_read kE kR fb ft rws nx ct ch (nI L) = fX4_read_50 ch zFu kE kR fb ft1 rws nx ct (nI L) 0 (nI 0) := by
      unfold fX4_read
      rw [e1, zbd_S, if_pos he, c1, zbd_S]
      rfl
    rw [e3]
    rcases e_read_l h kE kR nx ct fb rws m 0 zFu ft1 b (hw he) (Or.inl rfl) (by unfold zFu; omega) c2 hV with ⟨ft2, bb, w1, w3, w4, w5⟩ | ⟨ref2, ft2, w1, w3⟩
    · obtain ⟨rws', nx', ct', c', B', r1, r2, r3, r4⟩ := e_remember hH hP hV
      obtain ⟨fb1, g1, g2⟩ := c_copy (f := fb) w1
      rw [w5]
      unfold fX4_read_88 fX1_empty fX4_requireTaken
      rw [zbd_S, if_pos rfl, zbd_S]
      dsimp only
      rw [if_pos rfl, c_turns w1, zbd_S, c_turns hP, zbd_S, zbn_E, r1, zbd_S, g1, zbd_S, w4, show nI (b 74 + m) - nI (b 74) = nI m by rw [pk_sub (by omega), show b 74 + m - b 74 = m by omega]]
      exact ⟨_, _, _, _, _, _, _, _, _, rfl, Or.inl ⟨rfl, ⟨m, by omega, rfl⟩, bb, c', B', w3, g2, r2, r3, r4⟩, Or.inl rfl⟩
    · rw [w3]
      unfold fX4_read_88 fX1_empty fX4_requireTaken
      rw [zbd_S, if_neg w1, zbd_S]
      dsimp only
      rw [if_neg (show ¬ (4 : Nat) = 0 by decide)]
      exact ⟨_, _, _, _, _, _, _, _, _, rfl, Or.inr ⟨by omega, hP, hH⟩, Or.inr (Or.inr rfl)⟩
  · unfold fX4_read
    rw [e1, zbd_S, if_neg (by rw [ee]; exact e_n1 e he)]
    unfold fX1_empty
    rw [zbd_S]
    exact ⟨_, _, _, _, _, _, _, _, _, rfl, Or.inr ⟨by omega, hP, hH⟩, Or.inr (Or.inl rfl)⟩
theorem e_append {ch : Nat → Int32} {c : Nat → Nat} {L n : Nat} (h : yTx ch ch c L) (h1 : 32 ≤ n) (h2 : n ≤ 126) (hL : L < 60) :
    ∃ ch', fX4_append ch (nI L) (nI n) = some (0, nI (L + 1), ch', nI (L + 1)) ∧ yTx ch' ch' (fun j => if j = L then n else c j) (L + 1) := by
  have hu : yTx (upd ch L (nI n)) (upd ch L (nI n)) (fun j => if j = L then n else c j) (L + 1) := by
    refine ⟨by omega, fun j hj => ?_⟩
    unfold upd
    by_cases e : j = L
    · dsimp only
      rw [if_pos e, if_pos e]
      exact ⟨by omega, rfl, rfl⟩
    · dsimp only
      rw [if_neg e, if_neg e]
      exact h.2 j (by omega)
  refine ⟨upd ch L (nI n), ?_, hu⟩
  unfold fX4_append
  rw [if_neg (show ¬ nI n < (32 : Int32) from nI_nlt (b := 32) (by omega) (by omega)), if_pos (show nI n ≤ (126 : Int32) from nI_le (b := 126) h2 (by omega))]
  unfold fX1_isFull
  rw [if_pos (show nI L < (60 : Int32) from nI_lt (b := 60) hL (by omega)), zbd_S, if_pos rfl]
  unfold fX1_put fX1_put_36
  rw [if_neg (nI_pos (by omega)), if_neg (show ¬ (60 : Int32) ≤ nI L from nI_ge (b := 60) hL (by omega)), zck_N hL (by omega), zbd_S, tn_n (by omega), ynar_c n (by omega), nI_1]
/-- the law's texts -/
def yTc (j k : Nat) : Nat := ((zTb j).getD k 0).toInt.toNat
def yTm (j : Nat) : Nat := match j with
  | 2 => 2
  | 3 => 2
  | 6 => 0
  | 7 => 2
  | 8 => 3
  | 9 => 2
  | 10 => 4
  | 11 => 0
  | 12 => 3
  | _ => 1
theorem e_tx1 : ∀ j, j < 13 → (∀ k, k < (zTb j).length → zsc (zTb j) (nI k) = nI (yTc j k) ∧ 32 ≤ yTc j k ∧ yTc j k ≤ 126) ∧ Int32.ofNat (zTb j).length >>> ((0 : Int32) &&& 31) = nI (zTb j).length ∧ (zTb j).length < 30 := by decide +kernel
theorem e_tx2 : ∀ j, j < 13 → (yfe (yTc j) (zTb j).length (zTb j).length 0 0 = -1 ∧ yTm j ≠ 0) ∨ (yfe (yTc j) (zTb j).length (zTb j).length 0 0 = nI ((zTb j).length - 1 + (if j = 6 then 1 else 0)) ∧ yTm j = 0) := by decide +kernel
def yWb (c : Nat → Nat) (L : Nat) : Nat → Nat → Bool
  | 0, _ => false
  | m + 1, a => (((decide (a + 3 ≤ L) && (decide (c a = 43) || decide (c a = 42))) && (yCo (c (a + 1)) && yRo (c (a + 2)))) && ((decide (a + 3 = L) && decide (m = 0)) || (decide (a + 3 < L) && (decide (c (a + 3) = 59) && yWb c L m (a + 3 + 1))))) ||
      ((((decide (a + 5 ≤ L) && (yCo (c a) && yRo (c (a + 1)))) && (decide (c (a + 2) = 45) && (yCo (c (a + 3)) && yRo (c (a + 4)))))) && ((decide (a + 5 = L) && decide (m = 0)) || (decide (a + 5 < L) && (decide (c (a + 5) = 59) && yWb c L m (a + 5 + 1)))))
theorem yWb_h {c : Nat → Nat} {L : Nat} : ∀ {m a : Nat}, yWb c L m a = true → yWh c L m a
  | 0, _, h => nomatch h
  | m + 1, a, h => by
    have h : ((((decide (a + 3 ≤ L) && (decide (c a = 43) || decide (c a = 42))) && (yCo (c (a + 1)) && yRo (c (a + 2)))) && ((decide (a + 3 = L) && decide (m = 0)) || (decide (a + 3 < L) && (decide (c (a + 3) = 59) && yWb c L m (a + 3 + 1))))) ||
      ((((decide (a + 5 ≤ L) && (yCo (c a) && yRo (c (a + 1)))) && (decide (c (a + 2) = 45) && (yCo (c (a + 3)) && yRo (c (a + 4)))))) && ((decide (a + 5 = L) && decide (m = 0)) || (decide (a + 5 < L) && (decide (c (a + 5) = 59) && yWb c L m (a + 5 + 1)))))) = true := h
    show ∃ a', yTr c L a a' ∧ ((a' = L ∧ m = 0) ∨ (a' < L ∧ c a' = 59 ∧ yWh c L m (a' + 1)))
    simp only [Bool.or_eq_true, Bool.and_eq_true, decide_eq_true_eq] at h
    rcases h with ⟨⟨⟨g1, g2⟩, g3, g4⟩, g5⟩ | ⟨⟨⟨g1, g2, g3⟩, g4, g6, g7⟩, g5⟩
    · refine ⟨a + 3, Or.inl ⟨⟨g1, g2, g3, g4⟩, rfl⟩, ?_⟩
      rcases g5 with ⟨k1, k2⟩ | ⟨k1, k2, k3⟩
      · exact Or.inl ⟨k1, k2⟩
      · exact Or.inr ⟨k1, k2, yWb_h k3⟩
    · refine ⟨a + 5, Or.inr ⟨⟨g1, g2, g3, g4, g6, g7⟩, rfl⟩, ?_⟩
      rcases g5 with ⟨k1, k2⟩ | ⟨k1, k2, k3⟩
      · exact Or.inl ⟨k1, k2⟩
      · exact Or.inr ⟨k1, k2, yWb_h k3⟩
theorem e_tx3 : ∀ j, j < 13 → yTm j ≠ 0 → yWb (yTc j) (zTb j).length (yTm j) 0 = true := by decide +kernel
theorem e_tx4 : ∀ j, yTm j < 5 := by
  intro j
  unfold yTm
  split <;> omega

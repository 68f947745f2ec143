/-! PURE 13: what is remembered -/
def yH (rws : Nat → Int64) (nx ct : Int32) (hist : Nat → Nat → Int32) (kept : Int32) : Prop := ∃ (x c : Nat) (B : Nat → Nat → Nat), x < 6 ∧ c ≤ 6 ∧ nx = nI x ∧ ct = nI c ∧ kept = nI c ∧ ∀ i, i < c → yV2 (B i) ∧ yN (hist i) (B i) ∧ yP (fun j => rws (15 * ((x + 6 - c + i) % 6) + j)) (B i)
theorem p_write (f g : Nat → Int64) {x : Nat} (hx6 : x < 6) : ∃ g', fX2_writeTo f g (nI (15 * x)) = some g' ∧ (∀ j, j < 15 → g' (15 * x + j) = f j) ∧ ∀ i, (i < 15 * x ∨ 15 * x + 15 ≤ i) → g' i = g i := by
  have hl : ∀ d k n g1, k + d = 15 → d < n → (∀ j, j < k → g1 (15 * x + j) = f j) → (∀ i, (i < 15 * x ∨ 15 * x + 15 ≤ i) → g1 i = g i) → ∃ g', fX2_writeTo_2 f n g1 (nI (15 * x)) (nI k) = some g' ∧ (∀ j, j < 15 → g' (15 * x + j) = f j) ∧ ∀ i, (i < 15 * x ∨ 15 * x + 15 ≤ i) → g' i = g i := by
    intro d
    induction d with
    | zero =>
      intro k n g1 hk hn h1 h2
      cases n with
      | zero => omega
      | succ n =>
        rw [fX2_writeTo_2, if_pos (show (15 : Int32) ≤ nI k from nI_le (a := 15) (by omega) (by omega))]
        exact ⟨g1, rfl, fun j hj => h1 j (by omega), h2⟩
    | succ d ih =>
      intro k n g1 hk hn h1 h2
      cases n with
      | zero => omega
      | succ n =>
        rw [fX2_writeTo_2, if_neg (show ¬ (15 : Int32) ≤ nI k from nI_ge (b := 15) (by omega) (by omega)), nI_add, zbn_E, if_neg (nI_pos (by omega)), if_neg (show ¬ (90 : Int32) ≤ nI (15 * x + k) from nI_ge (b := 90) (by omega) (by omega)), zck_N (by omega) (by omega), zck_N (by omega) (by omega), tn_n (show k < 2000 by omega), tn_n (show 15 * x + k < 2000 by omega)]
        unfold fX2_writeTo_35
        rw [zbn_E, nI_1]
        refine ih (k + 1) n _ (by omega) (by omega) (fun j hj => ?_) (fun i hi => ?_)
        · unfold vp_updL
          by_cases e : j = k
          · rw [if_pos (by omega), e]
          · rw [if_neg (by omega)]; exact h1 j (by omega)
        · unfold vp_updL
          rw [if_neg (by omega)]; exact h2 i hi
  unfold fX2_writeTo
  exact hl 15 0 zFu g (by omega) (by unfold zFu; omega) (fun j hj => absurd hj (by omega)) (fun i _ => rfl)
theorem p_read (f g : Nat → Int64) {x : Nat} (hx6 : x < 6) : ∃ f', fX2_readFrom f g (nI (15 * x)) = some f' ∧ ∀ j, j < 15 → f' j = g (15 * x + j) := by
  have hl : ∀ d k n f1, k + d = 15 → d < n → (∀ j, j < k → f1 j = g (15 * x + j)) → ∃ f', fX2_readFrom_2 g n f1 (nI (15 * x)) (nI k) = some f' ∧ ∀ j, j < 15 → f' j = g (15 * x + j) := by
    intro d
    induction d with
    | zero =>
      intro k n f1 hk hn h1
      cases n with
      | zero => omega
      | succ n =>
        rw [fX2_readFrom_2, if_pos (show (15 : Int32) ≤ nI k from nI_le (a := 15) (by omega) (by omega))]
        exact ⟨f1, rfl, fun j hj => h1 j (by omega)⟩
    | succ d ih =>
      intro k n f1 hk hn h1
      cases n with
      | zero => omega
      | succ n =>
        rw [fX2_readFrom_2, if_neg (show ¬ (15 : Int32) ≤ nI k from nI_ge (b := 15) (by omega) (by omega)), nI_add, zbn_E, if_neg (nI_pos (by omega)), if_neg (show ¬ (90 : Int32) ≤ nI (15 * x + k) from nI_ge (b := 90) (by omega) (by omega)), zck_N (by omega) (by omega), zck_N (by omega) (by omega), tn_n (show k < 2000 by omega), tn_n (show 15 * x + k < 2000 by omega)]
        unfold fX2_readFrom_35
        rw [zbn_E, nI_1]
        refine ih (k + 1) n _ (by omega) (by omega) (fun j hj => ?_)
        unfold vp_updL
        by_cases e : j = k
        · rw [if_pos e, e]
        · rw [if_neg e]; exact h1 j (by omega)
  unfold fX2_readFrom
  exact hl 15 0 zFu f (by omega) (by unfold zFu; omega) (fun j hj => absurd hj (by omega))
theorem y_n15 : ∀ x, x < 6 → nI x * (15 : Int32) = nI (15 * x) := by decide +kernel
theorem y_n6 : ∀ x, x < 6 → (nI x + 1) - (nI x + 1) / 6 * 6 = nI ((x + 1) % 6) ∧ ((nI x + 6) - 1) - ((nI x + 6) - 1) / 6 * 6 = nI ((x + 5) % 6) := by decide +kernel
theorem y_min : ∀ c, c < 7 → (if (6 : Int32) < nI c + 1 then (6 : Int32) else nI c + 1) = nI (if c < 6 then c + 1 else 6) := by decide +kernel
theorem m_remember (now : Nat → Int32) (hist : Nat → Nat → Int32) {c : Nat} (hc : c ≤ 6) : ∃ hist', fX5_remember now hist (nI c) = some (hist', nI (if c < 6 then c + 1 else 6)) ∧ ((c < 6 ∧ (∀ i j, i < c → j < 76 → hist' i j = hist i j) ∧ ∀ j, j < 76 → hist' c j = now j) ∨ (c = 6 ∧ (∀ i j, i < 5 → j < 76 → hist' i j = hist (i + 1) j) ∧ ∀ j, j < 76 → hist' 5 j = now j)) := by
  have h52 : ∀ (hist : Nat → Nat → Int32) k, k < 6 → ∃ hist', fX5_remember_52 now hist (nI k) = some (hist', nI (k + 1)) ∧ (∀ i, i ≠ k → hist' i = hist i) ∧ ∀ j, j < 76 → hist' k j = now j := fun hist k hk => by
    obtain ⟨u, u1, u2⟩ := m_copy now (hist k)
    unfold fX5_remember_52
    rw [zck_N hk (by omega), tn_n (by omega), u1, zbd_S, nI_1]
    refine ⟨_, rfl, fun i hi => ?_, fun j hj => ?_⟩
    · unfold hup
      rw [if_neg hi]
    · unfold hup
      rw [if_pos rfl]
      exact u2 j hj
  unfold fX5_remember
  by_cases e : c = 6
  · subst e
    rw [if_pos (show nI 6 = (6 : Int32) from rfl)]
    have hl : ∀ d x n (h : Nat → Nat → Int32), x + d = 5 → d < n → (∀ i j, i < x → j < 76 → h i j = hist (i + 1) j) → (∀ i, x ≤ i → h i = hist i) → ∃ hist', fX5_remember_21 now n h (nI 5) (nI x) = some (hist', nI 6) ∧ (∀ i j, i < 5 → j < 76 → hist' i j = hist (i + 1) j) ∧ ∀ j, j < 76 → hist' 5 j = now j := by
      intro d
      induction d with
      | zero =>
        intro x n h hx hn h1 h2
        cases n with
        | zero => omega
        | succ n =>
          obtain ⟨h', a1, a2, a3⟩ := h52 h 5 (by omega)
          rw [fX5_remember_21, if_pos (nI_le (by omega) (by omega)), a1]
          refine ⟨h', rfl, fun i j hi hj => ?_, a3⟩
          rw [a2 i (by omega)]
          exact h1 i j (by omega) hj
      | succ d ih =>
        intro x n h hx hn h1 h2
        cases n with
        | zero => omega
        | succ n =>
          obtain ⟨u, u1, u2⟩ := m_copy (h (x + 1)) (h x)
          rw [fX5_remember_21, if_neg (nI_ge (by omega) (by omega)), nI_1, zck_N (by omega) (by omega), zck_N (by omega) (by omega), tn_n (by omega), tn_n (by omega), decide_eq_true (show x + 1 ≠ x by omega), zck_T, u1, zbd_S, zbn_E]
          refine ih (x + 1) n _ (by omega) (by omega) (fun i j hi hj => ?_) (fun i hi => ?_)
          · unfold hup
            by_cases e : i = x
            · rw [if_pos e, u2 j hj, h2 (x + 1) (by omega), e]
            · rw [if_neg e]; exact h1 i j (by omega) hj
          · unfold hup
            rw [if_neg (by omega)]; exact h2 i (by omega)
    obtain ⟨h', a1, a2, a3⟩ := hl 5 0 zFu hist (by omega) (by unfold zFu; omega) (fun i j hi => absurd hi (by omega)) (fun i _ => rfl)
    exact ⟨h', a1, Or.inr ⟨rfl, a2, a3⟩⟩
  · have hz6 : ¬ nI c = (6 : Int32) := fun z => e ((nI_eq (b := 6) (by omega) (by omega)).mp z)
    rw [if_neg hz6]
    obtain ⟨h', a1, a2, a3⟩ := h52 hist c (by omega)
    refine ⟨h', by rw [a1, if_pos (by omega)], Or.inl ⟨by omega, fun i j hi hj => by rw [a2 i (by omega)], a3⟩⟩
theorem y_remember {rws : Nat → Int64} {nx ct kept : Int32} {hist : Nat → Nat → Int32} {f : Nat → Int64} {now : Nat → Int32} {b : Nat → Nat} (h : yH rws nx ct hist kept) (hP : yP f b) (hN : yN now b) (hV : yV2 b) :
    ∃ rws' nx' ct' hist', fX0_remember rws nx ct f = some (rws', nx', ct') ∧ fX5_remember now hist kept = some (hist', ct') ∧ yH rws' nx' ct' hist' ct' := by
  obtain ⟨x, c, B, hx, hc, rfl, rfl, rfl, hB⟩ := h
  obtain ⟨g', g1, g2, g3⟩ := p_write f rws hx
  obtain ⟨hist', a1, a2⟩ := m_remember now hist hc
  refine ⟨g', nI ((x + 1) % 6), nI (if c < 6 then c + 1 else 6), hist', ?_, a1, ?_⟩
  · unfold fX0_remember
    rw [y_n15 x hx, g1, zbd_S, (y_n6 x hx).1, y_min c (by omega)]
  · rcases a2 with ⟨q1, q2, q3⟩ | ⟨q1, q2, q3⟩
    · refine ⟨(x + 1) % 6, c + 1, fun i => if i = c then b else B i, by omega, by omega, rfl, by rw [if_pos q1], by rw [if_pos q1], fun i hi => ?_⟩
      show yV2 (if i = c then b else B i) ∧ yN (hist' i) (if i = c then b else B i) ∧ yP (fun j => g' (15 * (((x + 1) % 6 + 6 - (c + 1) + i) % 6) + j)) (if i = c then b else B i)
      by_cases e : i = c
      · rw [if_pos e]
        refine ⟨hV, fun j hj => by rw [e, q3 j hj]; exact hN j hj, yP_c hP (fun j hj => ?_)⟩
        rw [show ((x + 1) % 6 + 6 - (c + 1) + i) % 6 = x by omega]
        exact g2 j hj
      · rw [if_neg e]
        obtain ⟨b1, b2, b3⟩ := hB i (by omega)
        refine ⟨b1, fun j hj => by rw [q2 i j (by omega) hj]; exact b2 j hj, yP_c b3 (fun j hj => ?_)⟩
        rw [show ((x + 1) % 6 + 6 - (c + 1) + i) % 6 = (x + 6 - c + i) % 6 by omega]
        exact g3 _ (by omega)
    · subst q1
      refine ⟨(x + 1) % 6, 6, fun i => if i = 5 then b else B (i + 1), by omega, by omega, rfl, rfl, rfl, fun i hi => ?_⟩
      show yV2 (if i = 5 then b else B (i + 1)) ∧ yN (hist' i) (if i = 5 then b else B (i + 1)) ∧ yP (fun j => g' (15 * (((x + 1) % 6 + 6 - 6 + i) % 6) + j)) (if i = 5 then b else B (i + 1))
      by_cases e : i = 5
      · rw [if_pos e]
        refine ⟨hV, fun j hj => by rw [e, q3 j hj]; exact hN j hj, yP_c hP (fun j hj => ?_)⟩
        rw [show ((x + 1) % 6 + 6 - 6 + i) % 6 = x by omega]
        exact g2 j hj
      · rw [if_neg e]
        obtain ⟨b1, b2, b3⟩ := hB (i + 1) (by omega)
        refine ⟨b1, fun j hj => by rw [q2 i j (by omega) hj]; exact b2 j hj, yP_c b3 (fun j hj => ?_)⟩
        rw [show ((x + 1) % 6 + 6 - 6 + i) % 6 = (x + 6 - 6 + (i + 1)) % 6 by omega]
        exact g3 _ (by omega)
theorem y_vbefore (before : Nat → Int32) (hist : Nat → Nat → Int32) (kept : Int32) : fX5_remember_vbefore hist kept before = fX5_remember before hist kept := by
  have hl : ∀ n (h : Nat → Nat → Int32) k x, fX5_remember_vbefore_21 before n h k x = fX5_remember_21 before n h k x := by
    intro n
    induction n with
    | zero => intro h k x; rfl
    | succ n ih =>
      intro h k x
      rw [fX5_remember_vbefore_21, fX5_remember_21]
      have e : (fun (u3 : Nat → Int32) => zbn (x + (1 : Int32)) (fun a6 => fX5_remember_vbefore_21 before n (hup h x.toNatClampNeg u3) k a6)) = (fun u3 => zbn (x + (1 : Int32)) (fun a6 => fX5_remember_21 before n (hup h x.toNatClampNeg u3) k a6)) := funext (fun u3 => by rw [zbn_E, zbn_E, ih])
      rw [e]
      rfl
  unfold fX5_remember_vbefore fX5_remember
  rw [hl]
  rfl
theorem y_undo {rws : Nat → Int64} {nx ct kept : Int32} {hist : Nat → Nat → Int32} (h : yH rws nx ct hist kept) (f : Nat → Int64) (now : Nat → Int32) : (ct = 0 ∧ kept = 0) ∨ (¬ ct = 0 ∧ ¬ kept = 0 ∧ ∃ nx' ct' f' now' b, fX0_bringBack rws nx ct f = some (nx', ct', f') ∧ kept - 1 = ct' ∧ zin ct' 6 = true ∧ fX5_copyRow (hist ct'.toNatClampNeg) now = some now' ∧ yP f' b ∧ yN now' b ∧ yV2 b ∧ yH rws nx' ct' hist ct') := by
  obtain ⟨x, c, B, hx, hc, rfl, rfl, rfl, hB⟩ := h
  by_cases e : c = 0
  · subst e
    exact Or.inl ⟨rfl, rfl⟩
  · have hz : ¬ nI c = (0 : Int32) := fun z => e ((nI_z (by omega)).mp z)
    obtain ⟨f', f1, f2⟩ := p_read f rws (show (x + 5) % 6 < 6 by omega)
    obtain ⟨now', n1, n2⟩ := m_copy (hist (c - 1)) now
    obtain ⟨b1, b2, b3⟩ := hB (c - 1) (by omega)
    have es : nI c - 1 = nI (c - 1) := pk_sub (b := 1) (by omega)
    refine Or.inr ⟨hz, hz, nI ((x + 5) % 6), nI (c - 1), f', now', B (c - 1), ?_, es, zin_N (by omega) (by omega), by rw [tn_n (by omega)]; exact n1, yP_c b3 (fun j hj => ?_), fun j hj => by rw [n2 j hj]; exact b2 j hj, b1, ⟨(x + 5) % 6, c - 1, B, by omega, by omega, rfl, rfl, rfl, fun i hi => ?_⟩⟩
    · unfold fX0_bringBack
      rw [if_neg (nI_nle (by omega) (by omega)), (y_n6 x hx).2, y_n15 _ (by omega), f1, zbd_S, es]
    · rw [f2 j hj, show (x + 6 - c + (c - 1)) % 6 = (x + 5) % 6 by omega]
    · obtain ⟨d1, d2, d3⟩ := hB i (by omega)
      refine ⟨d1, d2, yP_c d3 (fun j hj => ?_)⟩
      rw [show ((x + 5) % 6 + 6 - (c - 1) + i) % 6 = (x + 6 - c + i) % 6 by omega]
theorem y_forget {rws : Nat → Int64} {nx ct kept : Int32} {hist : Nat → Nat → Int32} (h : yH rws nx ct hist kept) : yH rws nx 0 hist 0 := by
  obtain ⟨x, c, B, hx, hc, rfl, rfl, rfl, hB⟩ := h
  exact ⟨x, 0, B, hx, by omega, rfl, rfl, rfl, fun i hi => absurd hi (by omega)⟩

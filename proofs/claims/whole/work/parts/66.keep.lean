/-! PURE 26: undo, save, restore, clear, start -/
theorem q_undo {rws : Nat → Int64} {nx ct kept : Int32} {hist : Nat → Nat → Int32} (h : yH rws nx ct hist kept) (f : Nat → Int64) (now : Nat → Int32) (thrown : Int32) :
    (fX4_undo f rws nx ct = some (5, 0, f, nx, ct) ∧ fX5_undo thrown now hist kept = some (0, 1, now, kept)) ∨
    ∃ (ct' nx' : Int32) (f' : Nat → Int64) (now' : Nat → Int32) (b : Nat → Nat), fX4_undo f rws nx ct = some (0, ct', f', nx', ct') ∧ fX5_undo thrown now hist kept = some (ct', 0, now', ct') ∧ yP f' b ∧ yN now' b ∧ yV2 b ∧ yH rws nx' ct' hist ct' := by
  unfold fX4_undo fX5_undo fX0_count fX5_undo_14
  rw [zbd_S]
  rcases y_undo h f now with ⟨e1, e2⟩ | ⟨n1, n2, nx', ct', f', now', b, a1, a2, a3, a4, a5, a6, a7, a8⟩
  · left
    rw [if_pos e1, if_pos e2]
    exact ⟨rfl, rfl⟩
  · right
    refine ⟨ct', nx', f', now', b, ?_, ?_, a5, a6, a7, a8⟩
    · rw [if_neg n1, a1, zbd_S]
      rfl
    · rw [if_neg n2, m_fails0, zbd_S]
      dsimp only
      rw [if_pos (show (0 : Int32) = 0 from rfl), a2, a3, zck_T, a4, zbd_S]
theorem y_ctall {b : Nat → Nat} : fb_ct (fun q => ypc b 0 q || ypc b 1 q) 36 = fb_ct (ypc b 0) 36 + fb_ct (ypc b 1) 36 := fb_ct_or (fun k hk => by
  rintro ⟨h1, h2⟩
  have e1 : ysd (b k) = 0 := of_decide_eq_true h1
  have e2 : ysd (b k) = 1 := of_decide_eq_true h2
  omega)
theorem q_size {f : Nat → Int64} {now : Nat → Int32} {b : Nat → Nat} (hP : yP f b) (hN : yN now b) (hv : yV b) : ∃ x, zbd (fX2_allPieces f) (fun u3 => fX3_size u3) = some x ∧ fX5_allPieces now = some x :=
  ⟨_, by rw [p_all, zbd_S, y3size (y_all hP)], by rw [m_allPieces hN hv, y_ctall]⟩
theorem q_save {fb fs : Nat → Int64} {now saved : Nat → Int32} {b : Nat → Nat} (hP : yP fb b) (hN : yN now b) (hv : yV b) (sv thrown isSaved : Int32) :
    ∃ (x : Int32) (fs' : Nat → Int64) (saved' : Nat → Int32), fX4_save sv fb fs = some (x, 1, fs') ∧ fX5_save thrown now saved isSaved = some (x, 0, saved', 1) ∧ yP fs' b ∧ yN saved' b := by
  obtain ⟨fs', e1, e2⟩ := c_copy (f := fs) hP
  obtain ⟨s', d1, d2⟩ := m_copyN hN saved
  refine ⟨nI (fb_ct (ypc b 0) 36 + fb_ct (ypc b 1) 36), fs', s', ?_, ?_, e2, d2⟩
  · unfold fX4_save
    rw [e1, zbd_S, p_all, zbd_S, y3size (y_all e2), zbd_S, y_ctall]
  · unfold fX5_save
    rw [d1, zbd_S, m_allPieces hN hv, zbd_S]
theorem q_restore {fb fs : Nat → Int64} {now saved : Nat → Int32} {bs : Nat → Nat} (hP : yP fs bs) (hN : yN saved bs) (hv : yV bs) (ct kept thrown : Int32) :
    ∃ (x : Int32) (fb' : Nat → Int64) (now' : Nat → Int32), fX4_restore 1 fb fs ct = some (0, x, fb', 0) ∧ fX5_restore thrown now saved kept 1 = some (x, 0, now', 0) ∧ yP fb' bs ∧ yN now' bs := by
  obtain ⟨f', e1, e2⟩ := c_copy (f := fb) hP
  obtain ⟨s', d1, d2⟩ := m_copyN hN now
  refine ⟨nI (fb_ct (ypc bs 0) 36 + fb_ct (ypc bs 1) 36), f', s', ?_, ?_, e2, d2⟩
  · unfold fX4_restore fX0_forget
    rw [if_neg (show ¬ (1 : Int32) = 0 by decide), e1, zbd_S, zbd_S, p_all, zbd_S, y3size (y_all e2), zbd_S, y_ctall]
  · unfold fX5_restore fX5_restore_14
    rw [if_neg (show ¬ (1 : Int32) = 0 by decide), m_fails0, zbd_S]
    dsimp only
    rw [if_pos (show (0 : Int32) = 0 from rfl), d1, zbd_S, m_allPieces d2 hv, zbd_S]
theorem q_restore0 (fb fs : Nat → Int64) (now saved : Nat → Int32) (ct kept thrown : Int32) : fX4_restore 0 fb fs ct = some (3, 0, fb, ct) ∧ fX5_restore thrown now saved kept 0 = some (0, 1, now, kept) := ⟨rfl, rfl⟩
theorem yb0_U : yV2 yb0 := ⟨yb0_V, by unfold yU; decide +kernel⟩
theorem ySt_U : yV2 (ySt 6) := ⟨ySt_V, by unfold yU; decide +kernel⟩
theorem q_clear {rws : Nat → Int64} {nx ct kept : Int32} {hist : Nat → Nat → Int32} {fb : Nat → Int64} {now : Nat → Int32} {b : Nat → Nat} (h : yH rws nx ct hist kept) (hP : yP fb b) (hN : yN now b) (hV : yV2 b) (thrown : Int32) :
    ∃ (x : Int32) (fb' rws' : Nat → Int64) (nx' ct' : Int32) (now' : Nat → Int32) (hist' : Nat → Nat → Int32), fX4_clear fb rws nx ct = some (x, fb', rws', nx', ct') ∧ fX5_clear thrown now hist kept = some (x, 0, now', hist', ct') ∧ yP fb' yb0 ∧ yN now' yb0 ∧ yH rws' nx' ct' hist' ct' := by
  obtain ⟨rws', nx', ct', hist', e1, e2, e3⟩ := y_remember h hP hN hV
  obtain ⟨f0, f1, f2⟩ := c_reset fb
  obtain ⟨n0, n1, n2⟩ := m_empty now
  refine ⟨nI (fb_ct (ypc b 0) 36 + fb_ct (ypc b 1) 36), f0, rws', nx', ct', n0, hist', ?_, ?_, f2, n2, e3⟩
  · unfold fX4_clear
    rw [e1, zbd_S, p_all, zbd_S, y3size (y_all hP), zbd_S, f1, zbd_S, y_ctall]
  · unfold fX5_clear
    rw [e2, zbd_S, m_allPieces hN hV.1, zbd_S, n1, zbd_S]
theorem q_start {rws : Nat → Int64} {nx ct kept : Int32} {hist : Nat → Nat → Int32} {fb : Nat → Int64} {now : Nat → Int32} {b : Nat → Nat} (h : yH rws nx ct hist kept) (hP : yP fb b) (hN : yN now b) (hV : yV2 b) (thrown : Int32) :
    ∃ (x : Int32) (fb' rws' : Nat → Int64) (nx' ct' : Int32) (now' : Nat → Int32) (hist' : Nat → Nat → Int32), fX4_start fb rws nx ct = some (x, fb', rws', nx', ct') ∧ fX5_start thrown now hist kept = some (x, 0, now', hist', ct') ∧ yP fb' (ySt 6) ∧ yN now' (ySt 6) ∧ yH rws' nx' ct' hist' ct' := by
  obtain ⟨rws', nx', ct', hist', e1, e2, e3⟩ := y_remember h hP hN hV
  obtain ⟨f0, f1, f2⟩ := c_setUp fb
  obtain ⟨n0, n1, n2⟩ := m_empty now
  have hl : ∀ d x n now, x + d = 6 → d < n → yN now (ySt x) → ∃ now', fX5_start_19 n 0 now hist' ct' (nI x) = some (nI (fb_ct (ypc (ySt 6) 0) 36 + fb_ct (ypc (ySt 6) 1) 36), 0, now', hist', ct') ∧ yN now' (ySt 6) := by
    intro d
    induction d with
    | zero =>
      intro x n now hx hn hN
      cases n with
      | zero => omega
      | succ n =>
        rw [show x = 6 by omega] at hN
        rw [fX5_start_19, if_pos (show (6 : Int32) ≤ nI x from nI_le (a := 6) (by omega) (by omega)), m_allPieces hN ySt_V, zbd_S]
        exact ⟨now, rfl, hN⟩
    | succ d ih =>
      intro x n now hx hn hN
      cases n with
      | zero => omega
      | succ n =>
        obtain ⟨k1, k2, k3⟩ := ykx_3 x (by omega)
        rw [fX5_start_19, if_neg (show ¬ (6 : Int32) ≤ nI x from nI_ge (b := 6) (by omega) (by omega)), k3, zbd_S, show (0 : Int32) = nI 0 from rfl, m_codeOf 0 (by omega) _ (by omega), zbd_S, zck_N (by omega) (by omega), zbd_S, show (1 : Int32) = nI 1 from rfl, m_codeOf 1 (by omega) _ (by omega), zbd_S, show (30 : Int32) + nI x = nI (30 + x) from nI_add 30 x, zck_N (by omega) (by omega), zbn_E, nI_add, tn_n (by omega), tn_n (by omega)]
        exact ih (x + 1) n _ (by omega) (by omega) (yN_put (yN_put hN x _) (30 + x) _)
  obtain ⟨now', d1, d2⟩ := hl 6 0 zFu n0 (by omega) (by unfold zFu; omega) n2
  refine ⟨nI (fb_ct (ypc (ySt 6) 0) 36 + fb_ct (ypc (ySt 6) 1) 36), f0, rws', nx', ct', now', hist', ?_, ?_, f2, d2, e3⟩
  · unfold fX4_start
    rw [e1, zbd_S, f1, zbd_S, p_all, zbd_S, y3size (y_all f2), zbd_S, y_ctall]
  · unfold fX5_start
    rw [e2, zbd_S, n1, zbd_S]
    exact d1

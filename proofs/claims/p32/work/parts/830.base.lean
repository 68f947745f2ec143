/-! THE CLASS ALONE, 1: valid arguments, history, what each call answers on a board -/
theorem e_sq : ∀ q, q < 36 → fX4_requireSquare (nI q) = some 0 := by decide +kernel
theorem e_sd : ∀ s, s < 2 → fX4_requireSide (nI s) = some 0 := by decide +kernel
theorem e_n1 : ∀ q, q < 100 → ¬ nI q = -1 := by decide +kernel
theorem e_ykx : ∀ x, x < 6 → ykx x ≤ 3 ∧ zFRi (nI x).toNatClampNeg = nI (ykx x) := by decide +kernel
theorem e_setUp (f : Nat → Int64) : ∃ f', fX2_setUp f = some f' ∧ yP f' (ySt 6) := by
  have hl : ∀ d x n f, x + d = 6 → d < n → yP f (ySt x) → ∃ f', fX2_setUp_6 n f (nI x) = some f' ∧ yP f' (ySt 6) := by
    intro d
    induction d with
    | zero =>
      intro x n f hx hn hf
      cases n with
      | zero => omega
      | succ n =>
        rw [fX2_setUp_6, if_pos (show (6 : Int32) ≤ nI x from nI_le (a := 6) (by omega) (by omega))]
        rw [show x = 6 by omega] at hf
        exact ⟨f, rfl, hf⟩
    | succ d ih =>
      intro x n f hx hn hf
      cases n with
      | zero => omega
      | succ n =>
        obtain ⟨k1, k2⟩ := e_ykx x (by omega)
        obtain ⟨T, T1, T2⟩ := ySW_of (show x < 36 by omega)
        obtain ⟨S, S1, S2⟩ := ySW_of (show 30 + x < 36 by omega)
        obtain ⟨f1, e1, h1⟩ := c_put (s := 0) hf (by omega) k1 (show x < 36 by omega) (ySt_0 x x (by omega) (by omega)) T2
        have z : yput (ySt x) x (1 + 4 * 0 + ykx x) (30 + x) = 0 := by
          unfold yput
          rw [if_neg (by omega)]
          exact ySt_0 x (30 + x) (by omega) (by omega)
        obtain ⟨f2, e2, h2⟩ := c_put (s := 1) h1 (by omega) k1 (show 30 + x < 36 by omega) z S2
        rw [fX2_setUp_6, if_neg (show ¬ (6 : Int32) ≤ nI x from nI_ge (b := 6) (by omega) (by omega)), if_neg (show ¬ (6 : Int32) ≤ nI x from nI_ge (b := 6) (by omega) (by omega)), zck_N (by omega) (by omega), zbn_E, k2, T1, zbd_S, show (0 : Int32) = nI 0 from rfl, e1, zbd_S, show (30 : Int32) + nI x = nI (30 + x) from nI_add 30 x, S1, zbd_S, show (1 : Int32) = nI 1 from rfl, e2, zbd_S, zbn_E, nI_add]
        exact ih (x + 1) n f2 (by omega) (by omega) h2
  obtain ⟨f0, e0, h0⟩ := c_reset f
  unfold fX2_setUp
  rw [e0, zbd_S]
  exact hl 6 0 zFu f0 (by omega) (by unfold zFu; omega) h0
/-- the history: the last c boards -/
def yHc (rws : Nat → Int64) (nx ct : Int32) (c : Nat) (B : Nat → Nat → Nat) : Prop := ∃ x, x < 6 ∧ c ≤ 6 ∧ nx = nI x ∧ ct = nI c ∧ ∀ i, i < c → yV2 (B i) ∧ yP (fun j => rws (15 * ((x + 6 - c + i) % 6) + j)) (B i)
theorem e_remember {rws : Nat → Int64} {nx ct : Int32} {c : Nat} {B : Nat → Nat → Nat} {f : Nat → Int64} {b : Nat → Nat} (h : yHc rws nx ct c B) (hP : yP f b) (hV : yV2 b) :
    ∃ rws' nx' ct' c' B', fX0_remember rws nx ct f = some (rws', nx', ct') ∧ yHc rws' nx' ct' c' B' ∧ 0 < c' ∧ B' (c' - 1) = b := by
  obtain ⟨x, hx, hc, rfl, rfl, hB⟩ := h
  obtain ⟨g', g1, g2, g3⟩ := p_write f rws hx
  have e0 : fX0_remember rws (nI x) (nI c) f = some (g', nI ((x + 1) % 6), nI (if c < 6 then c + 1 else 6)) := by
    unfold fX0_remember
    rw [y_n15 x hx, g1, zbd_S, (y_n6 x hx).1, y_min c (by omega)]
  by_cases q1 : c < 6
  · refine ⟨g', nI ((x + 1) % 6), nI (c + 1), c + 1, fun i => if i = c then b else B i, by rw [e0, if_pos q1], ⟨(x + 1) % 6, by omega, by omega, rfl, rfl, fun i hi => ?_⟩, by omega, if_pos rfl⟩
    show yV2 (if i = c then b else B i) ∧ yP (fun j => g' (15 * (((x + 1) % 6 + 6 - (c + 1) + i) % 6) + j)) (if i = c then b else B i)
    by_cases e : i = c
    · rw [if_pos e]
      refine ⟨hV, yP_c hP (fun j hj => ?_)⟩
      rw [show ((x + 1) % 6 + 6 - (c + 1) + i) % 6 = x by omega]
      exact g2 j hj
    · rw [if_neg e]
      obtain ⟨b1, b3⟩ := hB i (by omega)
      refine ⟨b1, yP_c b3 (fun j hj => ?_)⟩
      rw [show ((x + 1) % 6 + 6 - (c + 1) + i) % 6 = (x + 6 - c + i) % 6 by omega]
      exact g3 _ (by omega)
  · have q6 : c = 6 := by omega
    subst q6
    refine ⟨g', nI ((x + 1) % 6), nI 6, 6, fun i => if i = 5 then b else B (i + 1), by rw [e0, if_neg q1], ⟨(x + 1) % 6, by omega, by omega, rfl, rfl, fun i hi => ?_⟩, by omega, if_pos rfl⟩
    show yV2 (if i = 5 then b else B (i + 1)) ∧ yP (fun j => g' (15 * (((x + 1) % 6 + 6 - 6 + i) % 6) + j)) (if i = 5 then b else B (i + 1))
    by_cases e : i = 5
    · rw [if_pos e]
      refine ⟨hV, yP_c hP (fun j hj => ?_)⟩
      rw [show ((x + 1) % 6 + 6 - 6 + i) % 6 = x by omega]
      exact g2 j hj
    · rw [if_neg e]
      obtain ⟨b1, b3⟩ := hB (i + 1) (by omega)
      refine ⟨b1, yP_c b3 (fun j hj => ?_)⟩
      rw [show ((x + 1) % 6 + 6 - 6 + i) % 6 = (x + 6 - 6 + (i + 1)) % 6 by omega]
      exact g3 _ (by omega)
theorem e_bring {rws : Nat → Int64} {nx ct : Int32} {c : Nat} {B : Nat → Nat → Nat} (h : yHc rws nx ct c B) (f : Nat → Int64) (hc0 : 0 < c) :
    ∃ nx' f', fX0_bringBack rws nx ct f = some (nx', nI (c - 1), f') ∧ yP f' (B (c - 1)) ∧ yV2 (B (c - 1)) ∧ yHc rws nx' (nI (c - 1)) (c - 1) B ∧ ¬ ct = 0 := by
  obtain ⟨x, hx, hc, rfl, rfl, hB⟩ := h
  have hz : ¬ nI c = (0 : Int32) := fun z => by
    have := (nI_z (by omega)).mp z
    omega
  obtain ⟨f', f1, f2⟩ := p_read f rws (show (x + 5) % 6 < 6 by omega)
  obtain ⟨b1, b3⟩ := hB (c - 1) (by omega)
  have es : nI c - 1 = nI (c - 1) := pk_sub (b := 1) (by omega)
  refine ⟨nI ((x + 5) % 6), f', ?_, yP_c b3 (fun j hj => ?_), b1, ⟨(x + 5) % 6, by omega, by omega, rfl, rfl, fun i hi => ?_⟩, hz⟩
  · unfold fX0_bringBack
    rw [if_neg (nI_nle (by omega) (by omega)), (y_n6 x hx).2, y_n15 _ (by omega), f1, zbd_S, es]
  · rw [f2 j hj, show (x + 6 - c + (c - 1)) % 6 = (x + 5) % 6 by omega]
  · obtain ⟨d1, d3⟩ := hB i (by omega)
    refine ⟨d1, yP_c d3 (fun j hj => ?_)⟩
    rw [show ((x + 5) % 6 + 6 - (c - 1) + i) % 6 = (x + 6 - c + i) % 6 by omega]
theorem e_ct0 {rws : Nat → Int64} {nx ct : Int32} {c : Nat} {B : Nat → Nat → Nat} (h : yHc rws nx ct c B) (hc : c = 0) : ct = 0 := by
  obtain ⟨x, hx, h6, e1, e2, hB⟩ := h
  rw [e2, hc]
  rfl
theorem e_forget {rws : Nat → Int64} {nx ct : Int32} {c : Nat} {B : Nat → Nat → Nat} (h : yHc rws nx ct c B) : yHc rws nx 0 0 B := by
  obtain ⟨x, hx, hc, e1, e2, hB⟩ := h
  exact ⟨x, hx, by omega, e1, rfl, fun i hi => absurd hi (by omega)⟩
theorem e_undo {rws : Nat → Int64} {nx ct : Int32} {c : Nat} {B : Nat → Nat → Nat} (h : yHc rws nx ct c B) (f : Nat → Int64) :
    (c = 0 ∧ fX4_undo f rws nx ct = some (5, 0, f, nx, ct)) ∨ (0 < c ∧ ∃ nx' f', fX4_undo f rws nx ct = some (0, nI (c - 1), f', nx', nI (c - 1)) ∧ yP f' (B (c - 1)) ∧ yV2 (B (c - 1)) ∧ yHc rws nx' (nI (c - 1)) (c - 1) B) := by
  unfold fX4_undo fX0_count
  by_cases e : c = 0
  · rw [zbd_S, if_pos (e_ct0 h e)]
    exact Or.inl ⟨e, rfl⟩
  · obtain ⟨nx', f', e1, e2, e3, e4, e5⟩ := e_bring h f (by omega)
    rw [zbd_S, if_neg e5, e1, zbd_S, zbd_S]
    exact Or.inr ⟨by omega, nx', f', rfl, e2, e3, e4⟩
def yps (b : Nat → Nat) : Nat := fb_ct (ypc b 0) 36 + fb_ct (ypc b 1) 36
theorem e_save {fb fs : Nat → Int64} {b : Nat → Nat} (hP : yP fb b) (sv : Int32) : ∃ fs', fX4_save sv fb fs = some (nI (yps b), 1, fs') ∧ yP fs' b := by
  obtain ⟨fs', e1, e2⟩ := c_copy (f := fs) hP
  refine ⟨fs', ?_, e2⟩
  unfold fX4_save
  rw [e1, zbd_S, p_all, zbd_S, y3size (y_all e2), zbd_S, y_ctall]
  rfl
theorem e_restore {fb fs : Nat → Int64} {bs : Nat → Nat} (hP : yP fs bs) (ct : Int32) : ∃ fb', fX4_restore 1 fb fs ct = some (0, nI (yps bs), fb', 0) ∧ yP fb' bs := by
  obtain ⟨f', e1, e2⟩ := c_copy (f := fb) hP
  refine ⟨f', ?_, e2⟩
  unfold fX4_restore fX0_forget
  rw [if_neg (show ¬ (1 : Int32) = 0 by decide), e1, zbd_S, zbd_S, p_all, zbd_S, y3size (y_all e2), zbd_S, y_ctall]
  rfl
theorem e_clear {rws : Nat → Int64} {nx ct : Int32} {c : Nat} {B : Nat → Nat → Nat} {fb : Nat → Int64} {b : Nat → Nat} (h : yHc rws nx ct c B) (hP : yP fb b) (hV : yV2 b) :
    ∃ fb' rws' nx' ct' c' B', fX4_clear fb rws nx ct = some (nI (yps b), fb', rws', nx', ct') ∧ yP fb' yb0 ∧ yHc rws' nx' ct' c' B' ∧ 0 < c' ∧ B' (c' - 1) = b := by
  obtain ⟨rws', nx', ct', c', B', e1, e2, e3, e4⟩ := e_remember h hP hV
  obtain ⟨f0, f1, f2⟩ := c_reset fb
  refine ⟨f0, rws', nx', ct', c', B', ?_, f2, e2, e3, e4⟩
  unfold fX4_clear
  rw [e1, zbd_S, p_all, zbd_S, y3size (y_all hP), zbd_S, f1, zbd_S, y_ctall]
  rfl
theorem e_start {rws : Nat → Int64} {nx ct : Int32} {c : Nat} {B : Nat → Nat → Nat} {fb : Nat → Int64} {b : Nat → Nat} (h : yHc rws nx ct c B) (hP : yP fb b) (hV : yV2 b) :
    ∃ fb' rws' nx' ct' c' B', fX4_start fb rws nx ct = some (nI 12, fb', rws', nx', ct') ∧ yP fb' (ySt 6) ∧ yHc rws' nx' ct' c' B' ∧ 0 < c' ∧ B' (c' - 1) = b := by
  obtain ⟨rws', nx', ct', c', B', e1, e2, e3, e4⟩ := e_remember h hP hV
  obtain ⟨f0, f1, f2⟩ := e_setUp fb
  refine ⟨f0, rws', nx', ct', c', B', ?_, f2, e2, e3, e4⟩
  have e12 : fb_ct (ypc (ySt 6) 0) 36 + fb_ct (ypc (ySt 6) 1) 36 = 12 := by decide +kernel
  unfold fX4_start
  rw [e1, zbd_S, f1, zbd_S, p_all, zbd_S, y3size (y_all f2), zbd_S, y_ctall, e12]
theorem e_free {f : Nat → Int64} {b : Nat → Nat} (hP : yP f b) (hv : yV b) {q : Nat} (hq : q < 36) :
    (fX4_requireFreeForLaying f (nI q) = some 0 ∧ b 74 = 0 ∧ b q = 0 ∧ b (36 + q) = 0) ∨ (fX4_requireFreeForLaying f (nI q) = some 3) := by
  have h74 := (yV_74 hv).2.2.1
  have hc := hv.1 q hq
  have hd := hv.2.1 q hq
  have hc28 := yV_28 hv hq
  have h2 := ysd_le (b q) (by omega)
  unfold fX4_requireFreeForLaying
  rw [c_turns hP, zbd_S]
  by_cases g : b 74 = 0
  · rw [g, if_pos (show nI 0 ≤ (0 : Int32) by decide), c_whatOn hP hq, zbd_S]
    by_cases z : b q = 0
    · unfold ywh ypc
      rw [z]
      by_cases y : b (36 + q) = 0
      · left
        rw [y]
        exact ⟨rfl, rfl, rfl, rfl⟩
      · right
        rcases (show b (36 + q) = 1 ∨ b (36 + q) = 2 by omega) with e | e <;> rw [e] <;> rfl
    · right
      have hw : ywh b q = 1 ∨ ywh b q = 2 := by
        unfold ywh ypc ywl
        by_cases k : 20 ≤ b q
        · have := (y_code4 (b q) (by omega) k).1
          rw [this, decide_eq_true k]
          right; rfl
        · have hn : ysd (b q) ≠ 2 := fun e => z ((y_code3 (b q) (by omega)).mpr e)
          left
          rcases (show ysd (b q) = 0 ∨ ysd (b q) = 1 by omega) with e | e <;> rw [e] <;> rfl
      rcases hw with e | e <;> rw [e] <;> rfl
  · right
    rw [if_neg (nI_nle (by omega) (by omega))]
/-- what a call that changes the board leaves: a board; an older one can be brought back; or nothing changed -/
def eO (b : Nat → Nat) (c : Nat) (B : Nat → Nat → Nat) (o : Nat) (x : Int32) (fb' rws' : Nat → Int64) (nx' ct' : Int32) : Prop :=
  (o = 0 ∧ (∃ n, n < 5000 ∧ x = nI n) ∧ ∃ b' c' B', yV2 b' ∧ yP fb' b' ∧ yHc rws' nx' ct' c' B' ∧ 0 < c' ∧ B' (c' - 1) = b) ∨ ((o = 1 ∨ o = 2 ∨ o = 3 ∨ o = 4) ∧ yP fb' b ∧ yHc rws' nx' ct' c B)
theorem e_wall {rws : Nat → Int64} {nx ct : Int32} {c : Nat} {B : Nat → Nat → Nat} {fb : Nat → Int64} {b : Nat → Nat} (h : yHc rws nx ct c B) (hP : yP fb b) (hV : yV2 b) {q : Nat} (hq : q < 36) :
    ∃ o x fb' rws' nx' ct', fX4_wall fb rws nx ct (nI q) = some (o, x, fb', rws', nx', ct') ∧ eO b c B o x fb' rws' nx' ct' ∧ (o = 0 ∨ o = 3) := by
  unfold fX4_wall
  rw [e_sq q hq, zbd_S, if_pos rfl]
  rcases e_free hP hV.1 hq with ⟨g1, g3, g4, g5⟩ | g1
  · obtain ⟨rws', nx', ct', c', B', r1, r2, r3, r4⟩ := e_remember h hP hV
    obtain ⟨T, T1, T2⟩ := ySW_of hq
    have hP' := yP_wall hP hq g4 T2
    have hV' : yV2 (yput b q 20) := yV_lay hV hq g4 g5 (Or.inr rfl) (fun s hs e => by omega)
    rw [g1, zbd_S, if_pos rfl, r1, zbd_S, T1, zbd_S]
    unfold fX2_putWall
    rw [show (10 : Int32) = nI 10 from rfl, p_in _ (by omega), zbd_S, zbd_S, p_walls, zbd_S, y3size (y_walls hP'), zbd_S]
    have hle := fb_ct_le (fun q_1 => ywl (yput b q 20 q_1)) 36
    exact ⟨_, _, _, _, _, _, rfl, Or.inl ⟨rfl, ⟨_, by omega, rfl⟩, _, c', B', hV', hP', r2, r3, r4⟩, Or.inl rfl⟩
  · rw [g1, zbd_S, if_neg (by decide)]
    exact ⟨_, _, _, _, _, _, rfl, Or.inr ⟨by omega, hP, h⟩, Or.inr rfl⟩
theorem e_lay {rws : Nat → Int64} {nx ct : Int32} {c : Nat} {B : Nat → Nat → Nat} {fb : Nat → Int64} {b : Nat → Nat} (h : yHc rws nx ct c B) (hP : yP fb b) (hV : yV2 b) {s k q : Nat} (hs : s ≤ 1) (hk : k ≤ 3) (hq : q < 36) :
    ∃ o x fb' rws' nx' ct', fX4_lay fb rws nx ct (nI s) (nI k) (nI q) = some (o, x, fb', rws', nx', ct') ∧ eO b c B o x fb' rws' nx' ct' ∧ (o = 0 ∨ o = 3) := by
  unfold fX4_lay
  rw [e_sd s (by omega), zbd_S, if_pos rfl, e_sq q hq, zbd_S, if_pos rfl, if_neg (nI_pos (by omega)), if_pos (show nI k < (4 : Int32) from nI_lt (b := 4) (by omega) (by omega))]
  rcases e_free hP hV.1 hq with ⟨f1, f3, f4, f5⟩ | f1
  · rw [f1, zbd_S, if_pos rfl]
    have hin : (∀ s', s' ≤ 1 → 1 + 4 * s + k = 4 + 4 * s' → ∀ r, r < 36 → b r ≠ 4 + 4 * s') → ∃ o x fb' rws' nx' ct', fX4_lay_59 fb rws nx ct (nI s) (nI k) (nI q) = some (o, x, fb', rws', nx', ct') ∧ eO b c B o x fb' rws' nx' ct' ∧ (o = 0 ∨ o = 3) := by
      intro hkk
      obtain ⟨rws', nx', ct', c', B', r1, r2, r3, r4⟩ := e_remember h hP hV
      obtain ⟨T, T1, T2⟩ := ySW_of hq
      obtain ⟨fb', z1, z2⟩ := c_put hP hs (show k ≤ 3 by omega) hq f4 T2
      have hc8 := (y_cd s (by omega) k (by omega)).2.2.2.2.2
      have hV' := yV_lay hV hq f4 f5 (Or.inl hc8) hkk
      have hle := fb_ct_le (ypc (yput b q (1 + 4 * s + k)) s) 36
      refine ⟨0, nI (fb_ct (ypc (yput b q (1 + 4 * s + k)) s) 36), fb', rws', nx', ct', ?_, Or.inl ⟨rfl, ⟨_, by omega, rfl⟩, _, c', B', hV', z2, r2, r3, r4⟩, Or.inl rfl⟩
      unfold fX4_lay_59
      rw [r1, zbd_S, T1, zbd_S, z1, zbd_S, p_pieces _ hs, zbd_S, y3size (z2.1 s hs), zbd_S]
    by_cases gk : k = 3
    · rw [gk, if_pos (show nI 3 = (3 : Int32) from rfl), c_kq hP hV.1 hs, zbd_S]
      by_cases gq : ykq b s < 36
      · rw [yI_lt (show ykq b s ≤ 35 by omega), if_neg (e_n1 _ (by omega))]
        exact ⟨_, _, _, _, _, _, rfl, Or.inr ⟨by omega, hP, h⟩, Or.inr rfl⟩
      · rw [yI_ge (show ¬ ykq b s ≤ 35 by omega), if_pos rfl]
        rw [gk] at hin
        exact hin (fun s' hs' e r hr => by
          have es : s' = s := by omega
          rcases ykq_K b s with ⟨u, u1, u2, u3⟩ | ⟨u1, u2⟩
          · exfalso
            rw [yI_ge (by omega)] at u3
            exact e_n1 u (by omega) u3.symm
          · rw [es]; exact u1 r hr)
    · have hz3 : ¬ nI k = (3 : Int32) := fun z => gk ((nI_eq (b := 3) (by omega) (by omega)).mp z)
      rw [if_neg hz3]
      exact hin (fun s' hs' e r hr => by omega)
  · rw [f1, zbd_S, if_neg (by decide)]
    exact ⟨_, _, _, _, _, _, rfl, Or.inr ⟨by omega, hP, h⟩, Or.inr rfl⟩

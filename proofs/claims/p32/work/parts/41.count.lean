/-! PURE 1: how many squares, the lowest square -/
theorem y_nand (a b : Nat) : nI a &&& nI b = nI (a &&& b) := by
  apply Int32.toBitVec_inj.1
  show BitVec.ofNat 32 a &&& BitVec.ofNat 32 b = BitVec.ofNat 32 (a &&& b)
  apply BitVec.eq_of_getLsbD_eq
  intro i hi
  simp [hi]
theorem y_and8 (x y : Nat) : x &&& y = (x % 256 &&& y % 256) + 256 * (x / 256 &&& y / 256) := by
  have h1 : (x &&& y) % 256 = x % 256 &&& y % 256 := Nat.and_mod_two_pow (a := x) (b := y) (n := 8)
  have h2 : (x &&& y) / 256 = x / 256 &&& y / 256 := Nat.and_div_two_pow (a := x) (b := y) (n := 8)
  rw [← h1, ← h2]
  omega
theorem y_and15 (x : Nat) : x &&& 15 = x % 16 := Nat.and_two_pow_sub_one_eq_mod x 4
theorem y_and127 (x : Nat) : x &&& 127 = x % 128 := Nat.and_two_pow_sub_one_eq_mod x 7
def yM (m : Nat) : Nat → Nat
  | 0 => 0
  | k + 1 => m + 256 * yM m k
theorem yM_m {m : Nat} (h : m < 256) (k : Nat) : yM m (k + 1) % 256 = m := by
  show (m + 256 * yM m k) % 256 = m
  omega
theorem yM_d {m : Nat} (h : m < 256) (k : Nat) : yM m (k + 1) / 256 = yM m k := by
  show (m + 256 * yM m k) / 256 = yM m k
  omega
def yS1 (k n : Nat) : Nat := n - (n / 2 &&& yM 85 k)
def yS2 (k x : Nat) : Nat := (x &&& yM 51 k) + (x / 4 &&& yM 51 k)
def yS3 (k x : Nat) : Nat := (x + x / 16) &&& yM 15 k
theorem y_f1 : ∀ r, r < 512 → (r / 2 % 256 &&& 85) = (r % 256 / 2 &&& 85) := by decide +kernel
theorem yS1_s (k n : Nat) : yS1 (k + 1) n = (n % 256 - (n % 256 / 2 &&& 85)) + 256 * yS1 k (n / 256) := by
  unfold yS1
  rw [y_and8 (n / 2) (yM 85 (k + 1)), yM_m (by omega), yM_d (by omega)]
  have c1 := y_f1 (n % 512) (by omega)
  rw [show n % 512 / 2 % 256 = n / 2 % 256 by omega, show n % 512 % 256 = n % 256 by omega] at c1
  rw [c1, show n / 2 / 256 = n / 256 / 2 by omega]
  have c3 : (n % 256 / 2 &&& 85) ≤ n % 256 / 2 := Nat.and_le_left
  have c4 : (n / 256 / 2 &&& yM 85 k) ≤ n / 256 / 2 := Nat.and_le_left
  generalize (n % 256 / 2 &&& 85) = u at c3 ⊢
  generalize (n / 256 / 2 &&& yM 85 k) = v at c4 ⊢
  omega
theorem y_f2 : ∀ b, b < 256 → ∀ t, t < 4 → ((b + 256 * t) / 4 % 256 &&& 51) = (b / 4 &&& 51) := by decide +kernel
theorem yS2_s (k b y : Nat) (hb : b < 256) : yS2 (k + 1) (b + 256 * y) = ((b &&& 51) + (b / 4 &&& 51)) + 256 * yS2 k y := by
  unfold yS2
  rw [y_and8 (b + 256 * y) (yM 51 (k + 1)), y_and8 ((b + 256 * y) / 4) (yM 51 (k + 1)), yM_m (by omega), yM_d (by omega)]
  have c1 := y_f2 b hb (y % 4) (by omega)
  rw [show (b + 256 * (y % 4)) / 4 % 256 = (b + 256 * y) / 4 % 256 by omega] at c1
  rw [c1, show (b + 256 * y) % 256 = b by omega, show (b + 256 * y) / 256 = y by omega, show (b + 256 * y) / 4 / 256 = y / 4 by omega]
  omega
theorem yS3_s (k b y : Nat) (hb : b < 112) (hy : y % 16 ≤ 6) : yS3 (k + 1) (b + 256 * y) = (b + b / 16) % 16 + 256 * yS3 k y := by
  unfold yS3
  rw [y_and8 (b + 256 * y + (b + 256 * y) / 16) (yM 15 (k + 1)), yM_m (by omega), yM_d (by omega), y_and15]
  rw [show (b + 256 * y + (b + 256 * y) / 16) / 256 = y + y / 16 by omega]
  omega
theorem y_f3 : ∀ b, b < 256 → ((b &&& 51) + (b / 4 &&& 51)) % 16 ≤ 6 ∧ (b &&& 51) + (b / 4 &&& 51) < 112 := by decide +kernel
theorem yS2_16 (k x : Nat) : yS2 k x % 16 ≤ 6 := by
  cases k with
  | zero => simp [yS2, yM]
  | succ k =>
    have h := yS2_s k (x % 256) (x / 256) (by omega)
    rw [show x % 256 + 256 * (x / 256) = x by omega] at h
    rw [h]
    have := (y_f3 (x % 256) (by omega)).1
    omega
def yt (a : Nat) : Nat := (((a - (a / 2 &&& 85)) &&& 51) + ((a - (a / 2 &&& 85)) / 4 &&& 51) + (((a - (a / 2 &&& 85)) &&& 51) + ((a - (a / 2 &&& 85)) / 4 &&& 51)) / 16) % 16
def yT (k n : Nat) : Nat := yS3 k (yS2 k (yS1 k n))
theorem yT_s (k n : Nat) : yT (k + 1) n = yt (n % 256) + 256 * yT k (n / 256) := by
  unfold yT
  have h1 : n % 256 - (n % 256 / 2 &&& 85) < 256 := by omega
  rw [yS1_s, yS2_s k _ _ h1, yS3_s k _ _ (y_f3 _ h1).2 (yS2_16 k _)]
  rfl
theorem yt_c : ∀ a, a < 256 → yt a = fb_ct (fun i => a.testBit i) 8 ∧ yt a ≤ 8 := by decide +kernel
def yD : Nat → Nat → Nat
  | 0, _ => 0
  | k + 1, n => yt (n % 256) + yD k (n / 256)
theorem yD_c : ∀ k n, fb_ct (fun i => n.testBit i) (8 * k) = yD k n
  | 0, _ => rfl
  | k + 1, n => by
    rw [show 8 * (k + 1) = 8 + 8 * k by omega, fb_ct_split]
    show _ = yt (n % 256) + yD k (n / 256)
    rw [(yt_c (n % 256) (by omega)).1, ← yD_c k (n / 256)]
    congr 1
    · apply fb_ct_cong
      intro i hi
      show n.testBit i = (n % 2 ^ 8).testBit i
      rw [Nat.testBit_mod_two_pow, decide_eq_true hi, Bool.true_and]
    · apply fb_ct_cong
      intro i hi
      show n.testBit (8 + i) = (n / 2 ^ 8).testBit i
      rw [Nat.testBit_div_two_pow, Nat.add_comm]
theorem yT_0 (n : Nat) : yT 0 n = 0 := by simp [yT, yS3, yM]
theorem y_sum (n : Nat) : ∀ x3, x3 = yT 8 n → ∀ x4, x4 = x3 + x3 / 256 → ∀ x5, x5 = x4 + x4 / 65536 → (x5 + x5 / 4294967296) % 128 = yD 8 n ∧ x3 ≤ 1085102592571150095 := by
  intro x3 h3 x4 h4 x5 h5
  rw [yT_s, yT_s, yT_s, yT_s, yT_s, yT_s, yT_s, yT_s, yT_0] at h3
  simp only [yD]
  have c0 := (yt_c (n % 256) (by omega)).2
  have c1 := (yt_c (n / 256 % 256) (by omega)).2
  have c2 := (yt_c (n / 256 / 256 % 256) (by omega)).2
  have c3 := (yt_c (n / 256 / 256 / 256 % 256) (by omega)).2
  have c4 := (yt_c (n / 256 / 256 / 256 / 256 % 256) (by omega)).2
  have c5 := (yt_c (n / 256 / 256 / 256 / 256 / 256 % 256) (by omega)).2
  have c6 := (yt_c (n / 256 / 256 / 256 / 256 / 256 / 256 % 256) (by omega)).2
  have c7 := (yt_c (n / 256 / 256 / 256 / 256 / 256 / 256 / 256 % 256) (by omega)).2
  generalize yt (n % 256) = t0 at *
  generalize yt (n / 256 % 256) = t1 at *
  generalize yt (n / 256 / 256 % 256) = t2 at *
  generalize yt (n / 256 / 256 / 256 % 256) = t3 at *
  generalize yt (n / 256 / 256 / 256 / 256 % 256) = t4 at *
  generalize yt (n / 256 / 256 / 256 / 256 / 256 % 256) = t5 at *
  generalize yt (n / 256 / 256 / 256 / 256 / 256 / 256 % 256) = t6 at *
  generalize yt (n / 256 / 256 / 256 / 256 / 256 / 256 / 256 % 256) = t7 at *
  clear n
  have e1 : x3 / 256 = t1 + 256 * (t2 + 256 * (t3 + 256 * (t4 + 256 * (t5 + 256 * (t6 + 256 * t7))))) := by omega
  have e2 : x4 / 65536 = (t2 + t3) + 256 * ((t3 + t4) + 256 * ((t4 + t5) + 256 * ((t5 + t6) + 256 * ((t6 + t7) + 256 * t7)))) := by omega
  have e3 : x5 / 4294967296 = (t4 + t5 + t6 + t7) + 256 * ((t5 + t6 + t7) + 256 * ((t6 + t7) + 256 * t7)) := by omega
  constructor
  · omega
  · omega
theorem yJ13 {n : Nat} (hn : n < 2 ^ 64) : fJ13_bitCount_95d88 (lN n) = some (nI (fb_ct (fun i => n.testBit i) 64)) := by
  have hM1 : yM 85 8 = 6148914691236517205 := by decide +kernel
  have hM2 : yM 51 8 = 3689348814741910323 := by decide +kernel
  have hM3 : yM 15 8 = 1085102592571150095 := by decide +kernel
  unfold fJ13_bitCount_95d88
  simp only [zbn_E]
  have a1 : lN n - (((lN n).toUInt64 >>> ((1 : Int32).toInt64.toUInt64 &&& Int64.toUInt64 63)).toInt64 &&& (6148914691236517205 : Int64)) = lN (yS1 8 n) := by
    rw [show ((lN n).toUInt64 >>> ((1 : Int32).toInt64.toUInt64 &&& Int64.toUInt64 63)).toInt64 = lN (n / 2) from wb_shr (k := 1) hn (by omega), show (6148914691236517205 : Int64) = lN 6148914691236517205 from rfl, wb_and (by omega) (by omega), lN_sub (Nat.le_trans Nat.and_le_left (Nat.div_le_self _ _))]
    unfold yS1
    rw [hM1]
  rw [a1]
  have h1 : yS1 8 n < 2 ^ 64 := Nat.lt_of_le_of_lt (Nat.sub_le _ _) hn
  generalize hy1 : yS1 8 n = y1 at h1
  have a2 : (lN y1 &&& (3689348814741910323 : Int64)) + (((lN y1).toUInt64 >>> ((2 : Int32).toInt64.toUInt64 &&& Int64.toUInt64 63)).toInt64 &&& (3689348814741910323 : Int64)) = lN (yS2 8 y1) := by
    rw [show ((lN y1).toUInt64 >>> ((2 : Int32).toInt64.toUInt64 &&& Int64.toUInt64 63)).toInt64 = lN (y1 / 4) from wb_shr (k := 2) h1 (by omega), show (3689348814741910323 : Int64) = lN 3689348814741910323 from rfl, wb_and (by omega) (by omega), wb_and (by omega) (by omega), lN_add]
    unfold yS2
    rw [hM2]
  rw [a2]
  have h2 : yS2 8 y1 ≤ 7378697629483820646 := by
    unfold yS2
    rw [hM2]
    have u : (y1 &&& 3689348814741910323) ≤ 3689348814741910323 := Nat.and_le_right
    have v : (y1 / 4 &&& 3689348814741910323) ≤ 3689348814741910323 := Nat.and_le_right
    omega
  generalize hy2 : yS2 8 y1 = y2 at h2
  have a3 : (lN y2 + ((lN y2).toUInt64 >>> ((4 : Int32).toInt64.toUInt64 &&& Int64.toUInt64 63)).toInt64) &&& (1085102592571150095 : Int64) = lN (yS3 8 y2) := by
    rw [show ((lN y2).toUInt64 >>> ((4 : Int32).toInt64.toUInt64 &&& Int64.toUInt64 63)).toInt64 = lN (y2 / 16) from wb_shr (k := 4) (by omega) (by omega), lN_add, show (1085102592571150095 : Int64) = lN 1085102592571150095 from rfl, wb_and (by omega) (by omega)]
    unfold yS3
    rw [hM3]
  rw [a3]
  have h3 : yS3 8 y2 = yT 8 n := by
    unfold yT
    rw [hy1, hy2]
  obtain ⟨hs, hb⟩ := y_sum n _ h3 _ rfl _ rfl
  generalize yS3 8 y2 = x3 at hs hb ⊢
  rw [show ((lN x3).toUInt64 >>> ((8 : Int32).toInt64.toUInt64 &&& Int64.toUInt64 63)).toInt64 = lN (x3 / 256) from wb_shr (k := 8) (by omega) (by omega), lN_add]
  generalize hx4 : x3 + x3 / 256 = x4 at hs ⊢
  rw [show ((lN x4).toUInt64 >>> ((16 : Int32).toInt64.toUInt64 &&& Int64.toUInt64 63)).toInt64 = lN (x4 / 65536) from wb_shr (k := 16) (by omega) (by omega), lN_add]
  generalize hx5 : x4 + x4 / 65536 = x5 at hs ⊢
  rw [show ((lN x5).toUInt64 >>> ((32 : Int32).toInt64.toUInt64 &&& Int64.toUInt64 63)).toInt64 = lN (x5 / 4294967296) from wb_shr (k := 32) (by omega) (by omega), lN_add, lN_i, show (127 : Int32) = nI 127 from rfl, y_nand, y_and127, hs]
  rw [← yD_c 8 n]
theorem yct_36 {w : Int64} {P : Nat → Bool} (h : ySW w P) {n : Nat} (hn : n < 2 ^ 64) (e : w = lN n) : fb_ct (fun i => n.testBit i) 64 = fb_ct P 36 := by
  have h1 : ∀ i, i < 64 → n.testBit i = ybs w i := fun i hi => by rw [e, ybs_n, decide_eq_true hi, Bool.true_and]
  rw [show 64 = 36 + 28 from rfl, fb_ct_split]
  have h2 : fb_ct (fun k => n.testBit (36 + k)) 28 = 0 := fb_ct_zero.mpr (fun k hk => by rw [h1 (36 + k) (by omega), ySW_out h (by omega)])
  rw [h2, Nat.add_zero]
  exact fb_ct_cong (fun k hk => by rw [h1 k (by omega), ySW_in h hk])
theorem y3size {w : Int64} {P : Nat → Bool} (h : ySW w P) : fX3_size w = some (nI (fb_ct P 36)) := by
  obtain ⟨n, hn, e⟩ := wb_of w
  unfold fX3_size
  rw [e, yJ13 hn, zbd_S, yct_36 h hn e]
/-- the lowest square of a set -/
def yLo (P : Nat → Bool) (v : Nat) : Prop := v < 36 ∧ P v = true ∧ ∀ j, j < v → P j = false
theorem yLo_ex {P : Nat → Bool} (h : ∃ i, i < 36 ∧ P i = true) : ∃ v, yLo P v := by
  obtain ⟨i, h1, h2, h3⟩ := fb_first (p := fun i => P i = true) h
  exact ⟨i, h1, h2, fun j hj => by simpa using h3 j hj⟩
theorem yLo_u {P : Nat → Bool} {u v : Nat} (h : yLo P u) (g : yLo P v) : u = v := by
  rcases Nat.lt_trichotomy u v with q | q | q
  · have := g.2.2 u q
    rw [h.2.1] at this
    cases this
  · exact q
  · have := h.2.2 v q
    rw [g.2.1] at this
    cases this
theorem ybs_low {w : Int64} {P : Nat → Bool} (h : ySW w P) {v : Nat} (hv : yLo P v) (i : Nat) : ybs (w &&& -w) i = decide (i = v) := by
  rw [ybs_and]
  have e : ybs (-w) i = (ybs w i ^^ (decide (i < 64) && decide (∃ j, j < i ∧ ybs w j = true))) := by
    unfold ybs
    rw [Int64.toBitVec_neg, BitVec.getLsbD_neg]
  rw [e]
  by_cases h6 : i < 36
  · rcases Nat.lt_trichotomy i v with q | q | q
    · rw [ySW_in h h6, hv.2.2 i q, Bool.false_and, decide_eq_false (by omega)]
    · subst q
      have hn : ¬ ∃ j, j < i ∧ ybs w j = true := fun ⟨j, a, b⟩ => by
        rw [ySW_in h (by omega), hv.2.2 j a] at b
        cases b
      rw [ySW_in h h6, hv.2.1, decide_eq_false hn, decide_eq_true rfl]
      simp
    · have hy : ∃ j, j < i ∧ ybs w j = true := ⟨v, q, by rw [ySW_in h hv.1]; exact hv.2.1⟩
      rw [decide_eq_true hy, decide_eq_true (show i < 64 by omega), decide_eq_false (show ¬ i = v by omega)]
      cases ybs w i <;> simp
  · rw [ySW_out h (by omega), Bool.false_and, decide_eq_false]
    have := hv.1
    omega
theorem ySW_low {w : Int64} {P : Nat → Bool} (h : ySW w P) {v : Nat} (hv : yLo P v) : ySW (w &&& -w) (fun i => decide (i = v)) :=
  ySW_mk (fun i _ => ybs_low h hv i) (fun i hi _ => by rw [ybs_low h hv i, decide_eq_false]; have := hv.1; omega)
theorem ylow_p {w : Int64} {P : Nat → Bool} (h : ySW w P) {v : Nat} (hv : yLo P v) : w &&& -w = lN (2 ^ v) := by
  apply ybs_x
  intro i hi
  rw [ybs_low h hv i, ybs_n, decide_eq_true hi, Bool.true_and, Nat.testBit_two_pow]
  exact decide_eq_decide.mpr ⟨fun h => h.symm, fun h => h.symm⟩
theorem yct_p : ∀ v n, v ≤ n → fb_ct (fun i => decide (i < v)) n = v
  | v, 0, h => by
    have : v = 0 := by omega
    subst this; rfl
  | v, n + 1, h => by
    rw [fb_ct_succ]
    by_cases e : v = n + 1
    · subst e
      rw [if_pos (by simp), fb_ct_cong (q := fun i => decide (i < n)) (fun k hk => by rw [decide_eq_true hk, decide_eq_true (by omega)]), yct_p n n (Nat.le_refl n)]
    · rw [yct_p v n (by omega), if_neg (by simp; omega), Nat.add_zero]
theorem y3lowest {w : Int64} {P : Nat → Bool} (h : ySW w P) {v : Nat} (hv : yLo P v) : fX3_lowest w = some (nI v) := by
  unfold fX3_lowest
  have h0 : ¬ w = 0 := fun z => by
    have := (ySW_z h).mp z v hv.1
    rw [hv.2.1] at this
    cases this
  rw [if_neg (fun z => h0 ((zlc _ _).mp z)), ylow_p h hv, show (1 : Int64) = lN 1 from rfl, lN_sub (Nat.one_le_two_pow), yJ13, zbd_S]
  · congr 2
    have := hv.1
    rw [fb_ct_cong (q := fun i => decide (i < v)) (fun k hk => by rw [Nat.testBit_two_pow_sub_one]), yct_p v 64 (by omega)]
  · have := hv.1
    have h2 : 2 ^ v < 2 ^ 64 := Nat.pow_lt_pow_right (by omega) (by omega)
    omega
theorem y3lowest0 {w : Int64} {P : Nat → Bool} (h : ySW w P) (h0 : ∀ i, i < 36 → P i = false) : fX3_lowest w = some (-1) := by
  unfold fX3_lowest
  rw [if_pos ((zlc _ _).mpr ((ySW_z h).mpr h0))]

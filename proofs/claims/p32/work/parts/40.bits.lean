/-! PURE 0: words as sets of squares -/
theorem zck_T {β : Type} (x : Option β) : zck true x = x := rfl
theorem zbn_E {α β : Type} (v : α) (f : α → Option β) : zbn v f = f v := rfl
theorem zbd_S {α β : Type} (a : α) (f : α → Option β) : zbd (some a) f = f a := rfl
theorem zin_N {k n : Nat} (h : k < n) (hk : k < 2 ^ 31) : zin (nI k) n = true := by
  unfold zin
  rw [nI_toInt hk, Bool.and_eq_true, decide_eq_true_eq, decide_eq_true_eq]
  omega
theorem zck_N {β : Type} {k n : Nat} {x : Option β} (h : k < n) (hk : n ≤ 2000) : zck (zin (nI k) n) x = x := by
  rw [zin_N h (by omega)]; rfl
theorem ynft : ¬ (false = true) := by decide
theorem zlc (a b : Int64) : lg_cmp a b = 0 ↔ a = b := by
  unfold lg_cmp
  by_cases h : a = b
  · subst h
    have h1 : ¬ a > a := fun z => by have := Int64.lt_iff_toInt_lt.mp z; omega
    rw [if_neg h1, if_pos rfl]
    simp
  · rw [if_neg h]
    constructor
    · intro z
      split at z <;> exact absurd z (by decide)
    · intro z; exact absurd z h
def ybs (w : Int64) (i : Nat) : Bool := w.toBitVec.getLsbD i
theorem ybs_x {x y : Int64} (h : ∀ i, i < 64 → ybs x i = ybs y i) : x = y := Int64.toBitVec_inj.mp (BitVec.eq_of_getLsbD_eq (fun i hi => h i hi))
theorem ybs_or (x y : Int64) (i : Nat) : ybs (x ||| y) i = (ybs x i || ybs y i) := by unfold ybs; rw [Int64.toBitVec_or, BitVec.getLsbD_or]
theorem ybs_and (x y : Int64) (i : Nat) : ybs (x &&& y) i = (ybs x i && ybs y i) := by unfold ybs; rw [Int64.toBitVec_and, BitVec.getLsbD_and]
theorem ybs_xor (x y : Int64) (i : Nat) : ybs (x ^^^ y) i = (ybs x i ^^ ybs y i) := by unfold ybs; rw [Int64.toBitVec_xor, BitVec.getLsbD_xor]
theorem ybs_big {x : Int64} {i : Nat} (h : 64 ≤ i) : ybs x i = false := BitVec.getLsbD_of_ge _ _ h
theorem ybs_0 (i : Nat) : ybs 0 i = false := BitVec.getLsbD_zero
theorem ybs_m1 : ∀ i, i < 64 → ybs (-1) i = true := by decide +kernel
theorem ybs_n (n i : Nat) : ybs (lN n) i = (decide (i < 64) && n.testBit i) := by
  unfold ybs
  show (BitVec.ofNat 64 n).getLsbD i = _
  rw [BitVec.getLsbD_ofNat]
theorem ybs_shr (x : Int64) {k : Nat} (hk : k < 64) (i : Nat) : ybs ((x.toUInt64 >>> ((nI k).toInt64.toUInt64 &&& Int64.toUInt64 63)).toInt64) i = ybs x (k + i) := by
  rw [wb_cu k hk]
  unfold ybs
  have h1 : (UInt64.ofNat k).toNat = k := by
    show (BitVec.ofNat 64 k).toNat = k
    rw [BitVec.toNat_ofNat, Nat.mod_eq_of_lt (by omega)]
  have e : (x.toUInt64 >>> UInt64.ofNat k).toInt64.toBitVec = x.toBitVec >>> k := by
    apply BitVec.eq_of_toNat_eq
    show (x.toUInt64 >>> UInt64.ofNat k).toNat = _
    rw [UInt64.toNat_shiftRight, h1, Nat.mod_eq_of_lt hk, BitVec.toNat_ushiftRight]
    rfl
  rw [e, BitVec.getLsbD_ushiftRight]
theorem ybs_shl (x : Int64) {k : Nat} (hk : k < 64) (i : Nat) : ybs (x <<< ((nI k).toInt64 &&& 63)) i = (decide (k ≤ i) && decide (i < 64) && ybs x (i - k)) := by
  rw [wb_c k hk]
  unfold ybs
  rw [Int64.toBitVec_shiftLeft, wb_tb, wb_sm k hk, BitVec.shiftLeft_eq', BitVec.getLsbD_shiftLeft, BitVec.toNat_ofNat, Nat.mod_eq_of_lt (by omega)]
  by_cases h : i < k
  · simp [h, Nat.not_le.mpr h]
  · simp [h, Nat.not_lt.mp h]
theorem ybs_m6 : ∀ i, i < 64 → ybs (-1090785346) i = (decide (i % 6 ≠ 0) || decide (36 ≤ i)) := by decide +kernel
theorem ybs_m5 : ∀ i, i < 64 → ybs (-34905131041) i = (decide (i % 6 ≠ 5) || decide (36 ≤ i)) := by decide +kernel
theorem ybs_al : ∀ i, i < 64 → ybs 68719476735 i = decide (i < 36) := by decide +kernel
/-- a word stands for a set of squares -/
def ySW (w : Int64) (P : Nat → Bool) : Prop := ∀ i, ybs w i = (decide (i < 36) && P i)
theorem ySW_in {w : Int64} {P : Nat → Bool} (h : ySW w P) {i : Nat} (hi : i < 36) : ybs w i = P i := by rw [h i, decide_eq_true hi, Bool.true_and]
theorem ySW_out {w : Int64} {P : Nat → Bool} (h : ySW w P) {i : Nat} (hi : 36 ≤ i) : ybs w i = false := by rw [h i, decide_eq_false (by omega), Bool.false_and]
theorem ySW_mk {w : Int64} {P : Nat → Bool} (h : ∀ i, i < 36 → ybs w i = P i) (h2 : ∀ i, 36 ≤ i → i < 64 → ybs w i = false) : ySW w P := fun i => by
  by_cases hi : i < 36
  · rw [h i hi, decide_eq_true hi, Bool.true_and]
  · rw [decide_eq_false hi, Bool.false_and]
    by_cases h6 : i < 64
    · exact h2 i (by omega) h6
    · exact ybs_big (by omega)
theorem ySW_c {w : Int64} {P Q : Nat → Bool} (h : ySW w P) (e : ∀ i, i < 36 → P i = Q i) : ySW w Q := fun i => by
  rw [h i]
  by_cases hi : i < 36
  · rw [e i hi]
  · rw [decide_eq_false hi, Bool.false_and, Bool.false_and]
theorem ySW_or {x y : Int64} {P Q : Nat → Bool} (h : ySW x P) (g : ySW y Q) : ySW (x ||| y) (fun i => P i || Q i) := fun i => by
  rw [ybs_or, h i, g i]; cases decide (i < 36) <;> simp
theorem ySW_and {x y : Int64} {P Q : Nat → Bool} (h : ySW x P) (g : ySW y Q) : ySW (x &&& y) (fun i => P i && Q i) := fun i => by
  rw [ybs_and, h i, g i]; cases decide (i < 36) <;> simp
theorem ySW_dif {x y : Int64} {P Q : Nat → Bool} (h : ySW x P) (g : ySW y Q) : ySW (x &&& (y ^^^ (-1))) (fun i => P i && !Q i) := by
  refine ySW_mk (fun i hi => ?_) (fun i hi h6 => ?_)
  · rw [ybs_and, ybs_xor, ySW_in h hi, ySW_in g hi, ybs_m1 i (by omega), Bool.xor_true]
  · rw [ybs_and, ySW_out h hi, Bool.false_and]
theorem ySW_0 : ySW 0 (fun _ => false) := fun i => by rw [ybs_0, Bool.and_false]
theorem ySW_al : ySW 68719476735 (fun _ => true) := ySW_mk (fun i hi => by rw [ybs_al i (by omega), decide_eq_true hi]) (fun i hi h6 => by rw [ybs_al i h6, decide_eq_false (by omega)])
theorem ySW_u {x y : Int64} {P : Nat → Bool} (h : ySW x P) (g : ySW y P) : x = y := ybs_x (fun i _ => by rw [h i, g i])
theorem ySW_eq {x y : Int64} {P Q : Nat → Bool} (h : ySW x P) (g : ySW y Q) : x = y ↔ ∀ i, i < 36 → P i = Q i := by
  constructor
  · rintro rfl i hi
    rw [← ySW_in h hi, ySW_in g hi]
  · intro e
    exact ySW_u (ySW_c h e) g
theorem ySW_z {x : Int64} {P : Nat → Bool} (h : ySW x P) : x = 0 ↔ ∀ i, i < 36 → P i = false := ySW_eq h ySW_0
theorem ybs_tp {k : Nat} (hk : k < 64) (i : Nat) : ybs ((1 : Int64) <<< ((nI k).toInt64 &&& 63)) i = decide (i = k) := by
  rw [ybs_shl 1 hk]
  by_cases h6 : i < 64
  · by_cases h : k ≤ i
    · by_cases e : i = k
      · subst e; simp [h6]; decide +kernel
      · have h2 : ∀ j, j < 64 → 0 < j → ybs 1 j = false := by decide +kernel
        rw [h2 (i - k) (by omega) (by omega), decide_eq_false e, Bool.and_false]
    · rw [decide_eq_false h, decide_eq_false (show ¬ i = k by omega)]; rfl
  · rw [decide_eq_false h6, decide_eq_false (show ¬ i = k by omega), Bool.and_false, Bool.false_and]
theorem ySW_of {k : Nat} (hk : k < 36) : ∃ w, fX3_of (nI k) = some w ∧ ySW w (fun i => decide (i = k)) := by
  refine ⟨(1 : Int64) <<< ((nI k).toInt64 &&& 63), ?_, ?_⟩
  · unfold fX3_of
    rw [if_neg (nI_pos (by omega)), if_neg (show ¬ (36 : Int32) ≤ nI k from nI_ge (b := 36) (by omega) (by omega))]
  · exact ySW_mk (fun i hi => ybs_tp (by omega) i) (fun i hi _ => by rw [ybs_tp (by omega) i, decide_eq_false (by omega)])
theorem ySW_has {w : Int64} {P : Nat → Bool} (h : ySW w P) {k : Nat} (hk : k < 36) : fX3_has w (nI k) = some (if P k then 1 else 0) := by
  unfold fX3_has
  rw [if_neg (nI_pos (by omega)), if_neg (show ¬ (36 : Int32) ≤ nI k from nI_ge (b := 36) (by omega) (by omega))]
  have e : ((w.toUInt64 >>> ((nI k).toInt64.toUInt64 &&& Int64.toUInt64 63)).toInt64 &&& (1 : Int64)) = 0 ↔ P k = false := by
    rw [← ySW_in h hk]
    constructor
    · intro z
      have t := congrArg (fun x => ybs x 0) z
      simp only [ybs_and, ybs_shr w (show k < 64 by omega), ybs_0] at t
      rw [show ybs 1 0 = true by decide +kernel, Bool.and_true] at t
      exact t
    · intro z
      apply ybs_x
      intro i hi
      rw [ybs_and, ybs_shr w (by omega), ybs_0]
      cases i with
      | zero => rw [Nat.add_zero, z, Bool.false_and]
      | succ i => rw [(by decide +kernel : ∀ j, j < 63 → ybs 1 (j + 1) = false) i (by omega), Bool.and_false]
  by_cases hp : P k = true
  · rw [if_neg (fun z => by rw [e.mp ((zlc _ _).mp z)] at hp; cases hp), if_pos hp]
  · have hp' : P k = false := by simpa using hp
    rw [if_pos ((zlc _ _).mpr (e.mpr hp')), if_neg hp]
theorem y3has_out {w : Int64} {p : Int32} (h : p < 0 ∨ nI 36 ≤ p) : fX3_has w p = some 0 := by
  unfold fX3_has
  by_cases h1 : p < 0
  · rw [if_pos h1]
  · rw [if_neg h1]
    rw [if_pos (show (36 : Int32) ≤ p from h.resolve_left h1)]
/-! neighbours: 0 above, 1 right, 2 below, 3 left; 99 if there is none -/
def ynb (q w : Nat) : Nat := if w = 0 then (if 6 ≤ q then q - 6 else 99) else if w = 1 then (if q % 6 < 5 then q + 1 else 99) else if w = 2 then (if q < 30 then q + 6 else 99) else (if 0 < q % 6 then q - 1 else 99)
def yhn (P : Nat → Bool) (i w : Nat) : Bool := decide (ynb i w < 36) && P (ynb i w)
def yar (P : Nat → Bool) (i : Nat) : Bool := ((yhn P i 2 || yhn P i 1) || yhn P i 3) || yhn P i 0
/-- the direction of the class against the way of the neighbour from which one comes -/
def ydw (d : Nat) : Nat := if d = 0 then 2 else if d = 1 then 1 else if d = 2 then 3 else 0
theorem yw_up {w : Int64} {P : Nat → Bool} (h : ySW w P) : ySW ((w.toUInt64 >>> ((6 : Int32).toInt64.toUInt64 &&& Int64.toUInt64 63)).toInt64) (fun i => yhn P i 2) := by
  refine ySW_mk (fun i hi => ?_) (fun i hi h6 => ?_)
  · rw [show (6 : Int32) = nI 6 from rfl, ybs_shr w (by omega), h]
    unfold yhn ynb
    by_cases g : i < 30
    · simp [g, show 6 + i < 36 by omega, Nat.add_comm]
    · simp [g, show ¬ 6 + i < 36 by omega]
  · rw [show (6 : Int32) = nI 6 from rfl, ybs_shr w (by omega), ySW_out h (by omega)]
theorem yw_bef {w : Int64} {P : Nat → Bool} (h : ySW w P) : ySW (((w &&& (-1090785346 : Int64)).toUInt64 >>> ((1 : Int32).toInt64.toUInt64 &&& Int64.toUInt64 63)).toInt64) (fun i => yhn P i 1) := by
  refine ySW_mk (fun i hi => ?_) (fun i hi h6 => ?_)
  · rw [show (1 : Int32) = nI 1 from rfl, ybs_shr _ (by omega), ybs_and, h, ybs_m6 (1 + i) (by omega)]
    unfold yhn ynb
    by_cases g : i % 6 < 5
    · simp [g, show 1 + i < 36 by omega, show ¬ 36 ≤ 1 + i by omega, show ¬ (1 + i) % 6 = 0 by omega, Nat.add_comm]
      intro; omega
    · by_cases g2 : i = 35
      · subst g2; simp
      · simp [g, show ¬ 36 ≤ 1 + i by omega, show (1 + i) % 6 = 0 by omega]
  · rw [show (1 : Int32) = nI 1 from rfl, ybs_shr _ (by omega), ybs_and, ySW_out h (by omega), Bool.false_and]
theorem yw_beh {w : Int64} {P : Nat → Bool} (h : ySW w P) : ySW ((w &&& (-34905131041 : Int64)) <<< ((1 : Int32).toInt64 &&& 63)) (fun i => yhn P i 3) := by
  refine ySW_mk (fun i hi => ?_) (fun i hi h6 => ?_)
  · rw [show (1 : Int32) = nI 1 from rfl, ybs_shl _ (by omega), ybs_and, h, ybs_m5 (i - 1) (by omega)]
    unfold yhn ynb
    by_cases g : 0 < i % 6
    · simp [g, show i - 1 < 36 by omega, show 1 ≤ i by omega, show i < 64 by omega, show ¬ (i - 1) % 6 = 5 by omega]
    · by_cases g2 : i = 0
      · subst g2; simp
      · simp [g, show ¬ 36 ≤ i - 1 by omega, show (i - 1) % 6 = 5 by omega]
  · rw [show (1 : Int32) = nI 1 from rfl, ybs_shl _ (by omega), ybs_and, h, ybs_m5 (i - 1) (by omega)]
    by_cases g2 : i = 36
    · subst g2; simp
    · simp [show ¬ i - 1 < 36 by omega]
theorem yw_dn {w : Int64} {P : Nat → Bool} (h : ySW w P) : ySW ((w <<< ((6 : Int32).toInt64 &&& 63)) &&& (68719476735 : Int64)) (fun i => yhn P i 0) := by
  refine ySW_mk (fun i hi => ?_) (fun i hi h6 => ?_)
  · rw [ybs_and, show (6 : Int32) = nI 6 from rfl, ybs_shl _ (by omega), h, ybs_al i (by omega)]
    unfold yhn ynb
    by_cases g : 6 ≤ i
    · simp [g, hi, show i - 6 < 36 by omega, show i < 64 by omega]
    · simp [g]
  · rw [ybs_and, ybs_al i h6, decide_eq_false (show ¬ i < 36 by omega), Bool.and_false]
theorem y3around {w : Int64} {P : Nat → Bool} (h : ySW w P) : ∃ v, fX3_around w = some v ∧ ySW v (yar P) :=
  ⟨_, rfl, ySW_or (ySW_or (ySW_or (yw_up h) (yw_bef h)) (yw_beh h)) (yw_dn h)⟩
theorem y3stepped {w : Int64} {P : Nat → Bool} (h : ySW w P) {d : Nat} (hd : d < 4) : ∃ v, fX3_stepped w (nI d) = some v ∧ ySW v (fun i => yhn P i (ydw d)) := by
  rcases (show d = 0 ∨ d = 1 ∨ d = 2 ∨ d = 3 by omega) with rfl | rfl | rfl | rfl
  · exact ⟨_, rfl, yw_up h⟩
  · exact ⟨_, rfl, yw_bef h⟩
  · exact ⟨_, rfl, yw_beh h⟩
  · exact ⟨_, rfl, yw_dn h⟩

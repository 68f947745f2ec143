/-! PURE 34: the best move -/
def ywo (b : Nat → Nat) (p t : Nat) : Nat := 10 * fb_ct (yCs b p t) 36 + ySm (yG (ygo b p t) (1 - ysd (b p))) 36
theorem yG_0 {b : Nat → Nat} {s r m : Nat} (h : yNr (yop b s) r) (hm : r ≤ m) : yG b s m = 0 := by
  have h0 : ∀ i, i < 36 → yL (yop b s) m i = false := fun i hi => by
    cases e : yL (yop b s) m i with
    | false => rfl
    | true =>
      have := yL_le e hm
      rw [h.2 i hi] at this
      cases this
  have h1 : ∀ i, i < 36 → yrm (yL (yop b s) m) i = false := fun i hi => by
    cases e : yrm (yL (yop b s) m) i with
    | false => rfl
    | true =>
      have := yrm_X e
      rw [h0 i hi] at this
      cases this
  unfold yG
  rw [fb_ct_zero.mpr h1]
  split <;> rfl
theorem ySm_36 {b : Nat → Nat} {s r : Nat} (h : yNr (yop b s) r) : ∀ d, ySm (yG b s) (r + d) = ySm (yG b s) r
  | 0 => rfl
  | d + 1 => by
    show ySm (yG b s) (r + d) + yG b s (r + d) = _
    rw [ySm_36 h d, yG_0 h (by omega), Nat.add_zero]
theorem q_worthV {fb : Nat → Int64} {b : Nat → Nat} (hP : yP fb b) (hv : yV b) {p t : Nat} (hp : p < 36) (ht : t < 36) (hm : ysd (b p) = b 74 % 2) (hg : yTg b p t = true) (ft : Nat → Int64) : ∃ ft', fX4_worthOfMove fb ft (nI p) (nI t) = some (nI (ywo b p t), ft') := by
  obtain ⟨hs, hf⟩ := yTg_fr hg
  have h4 : fb_ct (yCs b p t) 36 ≤ 4 := yC_4 ht
  have hn10 : ∀ m, m < 5 → (10 : Int32) * nI m = nI (10 * m) := by decide +kernel
  obtain ⟨ft1, t1, t2⟩ := c_copy (f := ft) hP
  obtain ⟨ft2, u1, u2⟩ := c_move t2 hv hp ht hs hf
  obtain ⟨r, d1, d2⟩ := c_countSealed u2 (show 1 - ysd (b p) ≤ 1 by omega)
  have h36 := yNr_36 d2
  have e := ySm_36 d2 (36 - r)
  rw [show r + (36 - r) = 36 by omega] at e
  refine ⟨ft2, ?_⟩
  unfold fX4_worthOfMove
  rw [t1, zbd_S, u1, zbd_S, c_mover hP, zbd_S, ← hm, p_other hs, zbd_S]
  dsimp only
  rw [d1, zbd_S]
  show some (10 * nI (fb_ct (yCs b p t) 36) + _, ft2) = _
  rw [hn10 _ (by omega), nI_add, ← e]
  rfl
/-- a move of the side whose turn it is -/
def ycd (b : Nat → Nat) (p t : Nat) : Bool := decide (ysd (b p) = b 74 % 2) && yTg b p t
/-- the best of the first k moves, and its worth -/
def ybe (b : Nat → Nat) : Nat → Int32 × Int32
  | 0 => (-1, -1)
  | k + 1 => if ycd b (k / 36) (k % 36) = true then (if nI (ywo b (k / 36) (k % 36)) ≤ (ybe b k).2 then ybe b k else (nI k, nI (ywo b (k / 36) (k % 36)))) else ybe b k
theorem ybe_m (b : Nat → Nat) : ∀ k, (-1 : Int32) ≤ (ybe b k).2
  | 0 => (by decide : (-1 : Int32) ≤ (-1 : Int32))
  | k + 1 => by
    have h := ybe_m b k
    unfold ybe
    split
    · split
      · exact h
      · rename_i g
        have a := Int32.le_iff_toInt_le.mp h
        refine Int32.le_iff_toInt_le.mpr ?_
        have c : ¬ (nI (ywo b (k / 36) (k % 36))).toInt ≤ (ybe b k).2.toInt := fun z => g (Int32.le_iff_toInt_le.mpr z)
        show (-1 : Int32).toInt ≤ (nI (ywo b (k / 36) (k % 36))).toInt
        omega
    · exact h

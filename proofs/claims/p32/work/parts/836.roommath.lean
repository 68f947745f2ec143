/-! rooms: a room is closed, its squares are reached together or not at all -/
/-- every square left is in a later room -/
theorem r_part {P : Nat → Bool} {r : Nat} (hr : yNr P r) {i : Nat} (hi : i < 36) (ho : P i = true) : ∃ m, m < r ∧ yrm (yL P m) i = true := by
  have h : ∀ n, yL P n i = false → ∃ m, m < n ∧ yrm (yL P m) i = true := by
    intro n
    induction n with
    | zero => intro h; rw [show yL P 0 i = P i from rfl, ho] at h; cases h
    | succ n ih =>
      intro h
      cases g : yL P n i with
      | false => obtain ⟨m, m1, m2⟩ := ih g; exact ⟨m, by omega, m2⟩
      | true => exact ⟨n, by omega, yL_rm.mp ⟨g, h⟩⟩
  exact h r (hr.2 i hi)
theorem yL_0 {P : Nat → Bool} {n i : Nat} (h : yL P n i = true) : P i = true := yL_le (n := 0) h (by omega)
theorem r_lo {P : Nat → Bool} {r m : Nat} (hr : yNr P r) (hm : m < r) : ∃ v, yLo (yL P m) v := yLo_ex (hr.1 m hm)
/-- a room is closed under steps to open squares -/
theorem r_cl {P : Nat → Bool} {r : Nat} (hr : yNr P r) : ∀ m, m < r → ∀ i w, i < 36 → w < 4 → ynb i w < 36 → yrm (yL P m) i = true → P (ynb i w) = true → yrm (yL P m) (ynb i w) = true := by
  intro m
  induction m using Nat.strongRecOn with
  | _ m ih =>
    intro hm i w hi hw hn h ho
    have hx : yL P m (ynb i w) = true := by
      cases g : yL P m (ynb i w) with
      | true => rfl
      | false =>
        exfalso
        obtain ⟨k, k1, k2⟩ := r_part hr hn ho
        have hkm : k < m := by
          apply Nat.not_le.mp
          intro hle
          have := yL_le (yrm_X k2) hle
          rw [g] at this
          cases this
        have h9 := ih k hkm (by omega) (ynb i w) ((w + 2) % 4) hn (by omega) (by rw [ynb_op i hi w hw hn]; exact hi) k2 (by rw [ynb_op i hi w hw hn]; exact yL_0 (yrm_X h))
        rw [ynb_op i hi w hw hn] at h9
        have h8 := (yL_rm.mpr h9).2
        have h7 := yL_le (yrm_X h) (show k + 1 ≤ m by omega)
        rw [h8] at h7
        cases h7
    obtain ⟨v, hv⟩ := r_lo hr hm
    rw [← yrm_lo hv i hi] at h
    rw [← yrm_lo hv _ hn]
    exact yR_cl hi h hw hn hx
theorem r_no {P S : Nat → Bool} {r m : Nat} (hr : yNr P r) (hm : m < r) (h0 : ∀ i, i < 36 → yrm (yL P m) i = true → S i = false) : ∀ i, i < 36 → yrm (yL P m) i = true → ∀ n, yR P S n i = false := by
  intro i hi h n
  cases g : yR P S n i with
  | false => rfl
  | true =>
    exfalso
    have := yR_min (ok := P) (S := S) (X := fun j => P j && !yrm (yL P m) j) (fun j hj s1 s2 => by
      try dsimp only
      rw [s2, Bool.true_and]
      cases k : yrm (yL P m) j with
      | false => rfl
      | true => rw [h0 j hj k] at s1; cases s1) (fun j w hj hw hn x1 x2 => by
      try dsimp only at x1 ⊢
      obtain ⟨a1, a2⟩ := (Bool.and_eq_true _ _).mp x1
      rw [x2, Bool.true_and]
      cases k : yrm (yL P m) (ynb j w) with
      | false => rfl
      | true =>
        have h9 := r_cl hr m hm (ynb j w) ((w + 2) % 4) hn (by omega) (by rw [ynb_op j hj w hw hn]; exact hj) k (by rw [ynb_op j hj w hw hn]; exact a1)
        rw [ynb_op j hj w hw hn] at h9
        rw [h9] at a2
        cases a2) n i hi g
    try dsimp only at this
    rw [h, Bool.not_true, Bool.and_false] at this
    cases this
theorem r_yes {P S : Nat → Bool} {r m j : Nat} (hr : yNr P r) (hm : m < r) (hSP : ∀ i, i < 36 → S i = true → P i = true) (hj : j < 36) (h1 : yrm (yL P m) j = true) (h2 : S j = true) : ∀ i, i < 36 → yrm (yL P m) i = true → yR P S 36 i = true := by
  obtain ⟨v, hv⟩ := r_lo hr hm
  have hTj : yR P S 36 j = true := by
    have h0 : yR P S 0 j = true := by
      show (S j && P j) = true
      rw [h2, hSP j hj h2]
      rfl
    have := yR_mono h0 36
    rw [show 0 + 36 = 36 by omega] at this
    exact this
  have hTv : yR P S 36 v = true := by
    cases g : yR P S 36 v with
    | true => rfl
    | false =>
      exfalso
      have := yR_min (ok := yL P m) (S := fun i => decide (i = v)) (X := fun i => P i && !yR P S 36 i) (fun i hi s1 s2 => by
        have e : i = v := of_decide_eq_true s1
        subst e
        try dsimp only
        rw [yL_0 s2, g]
        rfl) (fun i w hi hw hn x1 x2 => by
        try dsimp only at x1 ⊢
        obtain ⟨a1, a2⟩ := (Bool.and_eq_true _ _).mp x1
        rw [yL_0 x2, Bool.true_and]
        cases k : yR P S 36 (ynb i w) with
        | false => rfl
        | true =>
          have h9 : yR P S 36 (ynb (ynb i w) ((w + 2) % 4)) = true := yR_cl hn k (by omega) (by rw [ynb_op i hi w hw hn]; exact hi) (by rw [ynb_op i hi w hw hn]; exact a1)
          rw [ynb_op i hi w hw hn] at h9
          rw [h9] at a2
          cases a2) 36 j hj (by rw [yrm_lo hv j hj]; exact h1)
      try dsimp only at this
      rw [hTj, Bool.not_true, Bool.and_false] at this
      cases this
  intro i hi h
  rw [← yrm_lo hv i hi] at h
  exact yR_min (ok := yL P m) (S := fun i => decide (i = v)) (X := yR P S 36) (fun i hi s1 s2 => by
    have e : i = v := of_decide_eq_true s1
    subst e
    exact hTv) (fun i w hi hw hn x1 x2 => yR_cl hi x1 hw hn (yL_0 x2)) 36 i hi h
/-- what is reached is reached in 35 steps -/
theorem r_35 {P S : Nat → Bool} {i : Nat} (hi : i < 36) (h : yR P S 36 i = true) : yR P S 35 i = true := by
  have key : ∀ n, n ≤ 36 → (∃ m, m < n ∧ ∀ i, i < 36 → yR P S (m + 1) i = yR P S m i) ∨ fb_ct (yR P S 0) 36 + n ≤ fb_ct (yR P S n) 36 := by
    intro n
    induction n with
    | zero => intro _; exact Or.inr (Nat.le_refl _)
    | succ n ih =>
      intro hn
      rcases ih (by omega) with ⟨m, m1, m2⟩ | g
      · exact Or.inl ⟨m, by omega, m2⟩
      · rcases yR_grow (ok := P) (S := S) n with k | k
        · exact Or.inl ⟨n, by omega, k⟩
        · exact Or.inr (by omega)
  have stab : ∀ m, m < 36 → (∀ i, i < 36 → yR P S (m + 1) i = yR P S m i) → yR P S 35 i = true := fun m hm k => by
    have a := yR_stab k (36 - m) i hi
    have c := yR_stab k (35 - m) i hi
    rw [show m + (36 - m) = 36 by omega] at a
    rw [show m + (35 - m) = 35 by omega] at c
    rw [c, ← a]
    exact h
  rcases key 36 (by omega) with ⟨m, m1, m2⟩ | g
  · exact stab m m1 m2
  · have h36 := fb_ct_le (yR P S 36) 36
    have h0 : fb_ct (yR P S 0) 36 = 0 := by omega
    have hz := fb_ct_zero.mp h0
    exfalso
    have := yR_min (ok := P) (S := S) (X := fun _ => false) (fun j hj s1 s2 => by
      have := hz j hj
      rw [show yR P S 0 j = (S j && P j) from rfl, s1, s2] at this
      cases this) (fun _ _ _ _ _ x1 _ => x1) 36 i hi h
    cases this
/-- one step more -/
theorem r_next {P S : Nat → Bool} {n i w : Nat} (hi : i < 36) (hw : w < 4) (hn : ynb i w < 36) (h : yR P S n i = true) (ho : P (ynb i w) = true) : yR P S (n + 1) (ynb i w) = true := by
  show ((yR P S n (ynb i w) || yar (yR P S n) (ynb i w)) && P (ynb i w)) = true
  have e : yar (yR P S n) (ynb i w) = true := yar_t.mpr ⟨(w + 2) % 4, by omega, by rw [ynb_op i hi w hw hn]; exact hi, by rw [ynb_op i hi w hw hn]; exact h⟩
  rw [e, ho, Bool.or_true]
  rfl
/-- counts over the rooms -/
theorem r_sum {P Q : Nat → Bool} (m : Nat) : fb_ct (fun i => yL P m i && Q i) 36 = fb_ct (fun i => yrm (yL P m) i && Q i) 36 + fb_ct (fun i => yL P (m + 1) i && Q i) 36 := by
  rw [← fb_ct_or (p := fun i => yrm (yL P m) i && Q i) (q := fun i => yL P (m + 1) i && Q i) (fun k hk => by
    rintro ⟨h1, h2⟩
    try dsimp only at h1 h2
    have a := ((Bool.and_eq_true _ _).mp h1).1
    have c := ((Bool.and_eq_true _ _).mp h2).1
    rw [(yL_rm.mpr a).2] at c
    cases c)]
  refine fb_ct_cong (fun k hk => ?_)
  show (yL P m k && Q k) = ((yrm (yL P m) k && Q k) || ((yL P m k && !yrm (yL P m) k) && Q k))
  cases g : yrm (yL P m) k with
  | true => rw [yrm_X g]; cases Q k <;> rfl
  | false => cases yL P m k <;> cases Q k <;> rfl
def yRm (P Q : Nat → Bool) : Nat → Nat
  | 0 => 0
  | m + 1 => yRm P Q m + fb_ct (fun i => yrm (yL P m) i && Q i) 36
theorem r_all {P Q : Nat → Bool} : ∀ m, yRm P Q m + fb_ct (fun i => yL P m i && Q i) 36 = fb_ct (fun i => P i && Q i) 36
  | 0 => by
    show 0 + _ = _
    rw [Nat.zero_add]
    rfl
  | m + 1 => by
    have h1 := r_all (P := P) (Q := Q) m
    have h2 := r_sum (P := P) (Q := Q) m
    show yRm P Q m + _ + _ = _
    omega
theorem r_end {P Q : Nat → Bool} {r : Nat} (hr : yNr P r) : yRm P Q r = fb_ct (fun i => P i && Q i) 36 := by
  have h := r_all (P := P) (Q := Q) r
  have h0 : fb_ct (fun i => yL P r i && Q i) 36 = 0 := fb_ct_zero.mpr (fun k hk => by
    try dsimp only
    rw [hr.2 k hk]
    rfl)
  omega
/-- sealed in both ways -/
theorem r_sealed {b : Nat → Nat} (hv : yV b) {s r : Nat} (hs : s ≤ 1) (hr : yNr (yop b s) r) : ySm (yG b s) r = fb_ct (fun i => yop b s i && !yR (yop b s) (ypc b s) 36 i) 36 := by
  rw [← r_end (Q := fun i => !yR (yop b s) (ypc b s) 36 i) hr]
  have h : ∀ m, m ≤ r → ySm (yG b s) m = yRm (yop b s) (fun i => !yR (yop b s) (ypc b s) 36 i) m := by
    intro m
    induction m with
    | zero => intro _; rfl
    | succ m ih =>
      intro hm
      show ySm (yG b s) m + yG b s m = yRm _ _ m + _
      rw [ih (by omega)]
      congr 1
      unfold yG
      by_cases z : fb_ct (fun i => yrm (yL (yop b s) m) i && ypc b s i) 36 = 0
      · rw [if_pos z]
        have hz := fb_ct_zero.mp z
        refine fb_ct_cong (fun k hk => ?_)
        try dsimp only
        cases g : yrm (yL (yop b s) m) k with
        | false => rfl
        | true =>
          rw [r_no hr (show m < r by omega) (fun i hi g2 => by
            have := hz i hi
            try dsimp only at this
            rw [g2, Bool.true_and] at this
            exact this) k hk g 36]
          rfl
      · rw [if_neg z]
        obtain ⟨j, j1, j2⟩ := fb_ct_pos.mp (Nat.pos_of_ne_zero z)
        obtain ⟨j3, j4⟩ := (Bool.and_eq_true _ _).mp j2
        symm
        refine fb_ct_zero.mpr (fun k hk => ?_)
        try dsimp only
        cases g : yrm (yL (yop b s) m) k with
        | false => rfl
        | true =>
          have h9 : yR (yop b s) (ypc b s) 36 k = true := r_yes hr (show m < r by omega) (fun i hi g2 => y_pc_op hv hs hi g2) j1 j3 j4 k hk g
          rw [h9]
          rfl
  exact h r (Nat.le_refl _)
theorem r_share : ∀ a, a < 37 → ∀ c, c < 37 → a ≤ c → 0 < c → ¬ 0 < zdcg (FP.ddiv (FP.i2d (nI a)) (FP.i2d (nI c))) 4607182418800017408 := by decide +kernel

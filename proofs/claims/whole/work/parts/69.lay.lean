/-! PURE 29: lay and wall -/
theorem y_free_lay {f : Nat → Int64} {now : Nat → Int32} {b : Nat → Nat} (hP : yP f b) (hN : yN now b) (hv : yV b) {q : Nat} (hq : q < 36) :
    (fX4_requireFreeForLaying f (nI q) = some 0 ∧ fX5_isBusy now (nI q) = some 0 ∧ b 74 = 0 ∧ b q = 0 ∧ b (36 + q) = 0) ∨ (fX4_requireFreeForLaying f (nI q) = some 3 ∧ fX5_isBusy now (nI q) = some 1) := by
  have h74 := (yV_74 hv).2.2.1
  have hc := hv.1 q hq
  have hd := hv.2.1 q hq
  have hc28 := yV_28 hv hq
  have h2 := ysd_le (b q) (by omega)
  unfold fX4_requireFreeForLaying fX5_isBusy
  rw [c_turns hP, zbd_S, zk_74, tn_74, hN 74 (by omega)]
  by_cases g : b 74 = 0
  · rw [g, if_pos (show nI 0 ≤ (0 : Int32) by decide), if_neg (show ¬ (0 : Int32) < nI 0 by decide), c_whatOn hP hq, zbd_S, zck_N (by omega) (by omega), tn_n (show q < 2000 by omega), hN q (by omega)]
    by_cases z : b q = 0
    · rw [z, if_pos nI_0, show (36 : Int32) + nI q = nI (36 + q) from nI_add 36 q, zck_N (by omega) (by omega), tn_n (by omega), hN (36 + q) (by omega)]
      unfold ywh ypc
      rw [z]
      by_cases y : b (36 + q) = 0
      · left
        rw [y, if_pos nI_0]
        exact ⟨rfl, rfl, rfl, rfl, rfl⟩
      · right
        rw [if_neg (fun e => y ((nI_z (by omega)).mp e))]
        rcases (show b (36 + q) = 1 ∨ b (36 + q) = 2 by omega) with e | e <;> rw [e] <;> exact ⟨rfl, rfl⟩
    · right
      have hz : ¬ nI (b q) = 0 := fun e => z ((nI_z (by omega)).mp e)
      rw [if_neg hz]
      refine ⟨?_, rfl⟩
      have hw : ywh b q = 1 ∨ ywh b q = 2 := by
        unfold ywh ypc ywl
        by_cases k : 20 ≤ b q
        · have := (y_code4 (b q) (by omega) k).1
          rw [this, decide_eq_true k]
          right; rfl
        · have hn : ysd (b q) ≠ 2 := fun e => z ((y_code3 (b q) (by omega)).mpr e)
          left
          rcases (show ysd (b q) = 0 ∨ ysd (b q) = 1 by omega) with e | e <;> rw [e] <;> rfl
      rcases hw with e | e <;> rw [e] <;> rfl
  · right
    rw [if_neg (nI_nle (by omega) (by omega)), if_pos (show (0 : Int32) < nI (b 74) from nI_lt (a := 0) (by omega) (by omega))]
    exact ⟨rfl, rfl⟩
theorem yV_lay {b : Nat → Nat} (hv : yV2 b) {q c : Nat} (hq : q < 36) (h0 : b q = 0) (hd0 : b (36 + q) = 0) (hc : c ≤ 8 ∨ c = 20) (hk : ∀ s, s ≤ 1 → c = 4 + 4 * s → ∀ r, r < 36 → b r ≠ 4 + 4 * s) : yV2 (yput b q c) := by
  obtain ⟨⟨h1, h2, h3, h4, h5, h6, h7, h8, h9, h10⟩, u1, u2, u3⟩ := hv
  have e : ∀ i, i ≠ q → yput b q c i = b i := fun i hi => yput_o hi
  have e1 : ∀ i, yput b q c i = if i = q then c else b i := fun i => rfl
  refine ⟨⟨fun i hi => ?_, fun i hi => by rw [e _ (by omega)]; exact h2 i hi, fun i hi g => ?_, fun i hi g => ?_, by rw [e 72 (by omega)]; exact h5, by rw [e 73 (by omega)]; exact h6, by rw [e 74 (by omega)]; exact h7, by rw [e 75 (by omega)]; exact h8, by rw [e 75 (by omega), e 74 (by omega)]; exact h9, fun s i r hs hi hr g1 g2 => ?_⟩, by rw [e 75 (by omega), e 74 (by omega)]; exact u1, by rw [e 72 (by omega), e 74 (by omega)]; exact u2, by rw [e 73 (by omega), e 74 (by omega)]; exact u3⟩
  · rw [e1 i]
    split
    · omega
    · exact h1 i hi
  · rw [e _ (by omega)]
    rw [e1 i] at g
    by_cases z : i = q
    · rw [z]; exact hd0
    · rw [if_neg z] at g; exact h3 i hi g
  · rw [e (36 + i) (by omega)]
    rw [e1 i] at g ⊢
    by_cases z : i = q
    · rw [z]; exact Or.inl hd0
    · rw [if_neg z] at g ⊢; exact h4 i hi g
  · rw [e1 i] at g1
    rw [e1 r] at g2
    by_cases z : i = q
    · rw [if_pos z] at g1
      by_cases z2 : r = q
      · omega
      · rw [if_neg z2] at g2
        exact absurd g2 (hk s hs g1 r hr)
    · rw [if_neg z] at g1
      by_cases z2 : r = q
      · rw [if_pos z2] at g2
        exact absurd g1 (hk s hs g2 i hi)
      · rw [if_neg z2] at g2
        exact h10 s i r hs hi hr g1 g2

/-! PURE 36: roomOf and sealedShare -/
theorem y_nn (p : Int32) : p < 0 ∨ ∃ m, m < 2 ^ 31 ∧ p = nI m := by
  by_cases h0 : p < 0
  · exact Or.inl h0
  · have h1 := p.toInt_lt
    obtain ⟨j, j1, j2⟩ := nI_of2 (n := 2147483647) (M := nI 2147483647) (nI_toInt (by omega)) h0 (Int32.le_iff_toInt_le.mpr (by
      rw [nI_toInt (by omega)]
      omega))
    exact Or.inr ⟨j, by omega, j2⟩
theorem y_r1 : ∀ r, r < 37 → (nI r - 1).toInt = (r : Int) - 1 := by decide +kernel
def zdcmp (x y : UInt64) : Int32 := Op.cmpValue (FP.dcmp x y) .l
/-- a quotient of two counts is a number -/
theorem y_zdn {c : Nat} (a : Int32) (hc : 0 < c) (hc2 : c < 2 ^ 31) : zdn (FP.ddiv (FP.i2d a) (FP.i2d (nI c))) = true := by
  have h1 := FP.Core.i2d_mag a
  have h2 := FP.Core.i2d_big (v := nI c) (by rw [nI_toInt hc2]; omega)
  have h3 : (FP.ddiv (FP.i2d a) (FP.i2d (nI c))).toNat % 2 ^ 63 < (1056 + (1074 - 52 - 1) - 1023 + 3) * 2 ^ 52 := FP.Core.ddiv_mag h1 h2.1 h2.2 (by omega) (by omega)
  unfold zdn
  refine decide_eq_true (UInt64.le_iff_toNat_le.mpr ?_)
  rw [UInt64.toNat_and]
  show (FP.ddiv (FP.i2d a) (FP.i2d (nI c))).toNat &&& (2 ^ 63 - 1) ≤ 9218868437227405312
  rw [Nat.and_two_pow_sub_one_eq_mod]
  omega
theorem y_zdc {c : Nat} (a : Int32) (hc : 0 < c) (hc2 : c < 2 ^ 31) : zdcmp (FP.ddiv (FP.i2d a) (FP.i2d (nI c))) (FP.ddiv (FP.i2d a) (FP.i2d (nI c))) = 0 := by
  have h1 := FP.Core.i2d_mag a
  have h2 := FP.Core.i2d_big (v := nI c) (by rw [nI_toInt hc2]; omega)
  have h3 : (FP.Core.ddiv (FP.Core.i2d a) (FP.Core.i2d (nI c))).toNat % 2 ^ 63 < (1056 + (1074 - 52 - 1) - 1023 + 3) * 2 ^ 52 := FP.Core.ddiv_mag h1 h2.1 h2.2 (by omega) (by omega)
  have h4 : FP.Core.DFin (FP.Core.ddiv (FP.Core.i2d a) (FP.Core.i2d (nI c))) := (FP.Core.fin_bits _).mpr (by omega)
  have h5 : FP.dcmp (FP.ddiv (FP.i2d a) (FP.i2d (nI c))) (FP.ddiv (FP.i2d a) (FP.i2d (nI c))) = some .eq := FP.Core.dcmp_self h4.ne_nan
  unfold zdcmp
  rw [h5]
  rfl

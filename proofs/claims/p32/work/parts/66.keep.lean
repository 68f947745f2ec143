theorem y_ctall {b : Nat → Nat} : fb_ct (fun q => ypc b 0 q || ypc b 1 q) 36 = fb_ct (ypc b 0) 36 + fb_ct (ypc b 1) 36 := fb_ct_or (fun k hk => by
  rintro ⟨h1, h2⟩
  have e1 : ysd (b k) = 0 := of_decide_eq_true h1
  have e2 : ysd (b k) = 1 := of_decide_eq_true h2
  omega)
theorem yb0_U : yV2 yb0 := ⟨yb0_V, by unfold yU; decide +kernel⟩
theorem ySt_U : yV2 (ySt 6) := ⟨ySt_V, by unfold yU; decide +kernel⟩

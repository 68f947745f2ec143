/-! SealedBoard$History.count()I -/
abbrev rmX0_count : Room := { frames := 0, cells := 0, slots := 0, locals := 0 }
theorem kdX0_count : yX0_count.cls = RX0 ∧ yX0_count.cls ≠ "java/lang/invoke/MethodHandle" ∧ yX0_count.cls ≠ "java/lang/invoke/VarHandle" ∧ (parseMethodDescriptor yX0_count.desc).map (fun d => d.parameters.length) = some 0 := by decide +kernel
theorem inX0_count_X0 : ∀ w ∈ u_ws RX0 TX0 3, w ∈ wsX0_count := by decide +kernel
def fX0_count (ct : Int32) : Option (Int32) := (some (ct))
set_option maxHeartbeats 400000 in
set_option maxRecDepth 100000 in
theorem mX0_count (l : Launch) (G : va_G) (k : Nat → ClassId) (h : Nat) (r : Nat) (sz : Nat) (rws : Nat → Int64) (nx : Int32) (ct : Int32)  (o : Int32) (hF : fX0_count ct = some o) : zMI l yX0_count wsX0_count rmX0_count G k (zH h r k rws nx ct) sz [.ref h] o (zH h r k rws nx ct) := by
  refine zof_I (cc := cX0_count) (nL := 1) (own := RX0) (rt := .int) (by decide) rfl rfl (Nat.le_of_ble_eq_true rfl) ?_
  intro p e s m args below meth c A Q C0 hK hA hret ls hl hw
  have hl : lv_has ls 1 [(0, .ref h)] := hl
  obtain ⟨hx, hb, hr, hml, hown, hts, hlocks⟩ := id C0
  obtain ⟨H, hH⟩ : ∃ z, z = s.heap := ⟨_, rfl⟩
  rw [← hH] at hw ⊢
  unfold fX0_count at hF
  refine lv_aload_n hx hb dX0_count_0 rfl (lv_at hl 0 rfl) ?_
  refine va_get (D := G) (ci := 0) (v := .int ct) (C := RX0) (T := TX0) (N := 3) hx hb hts inX0_count_X0 hown hK.1 hw.1 0 rfl rfl 2 (by decide) (hts (.fieldLink RX0 15 "SealedBoard$History" "count" "I") (by decide +kernel)) (fun _ h9 => h9) rfl dX0_count_1 ?_
  obtain rfl := Option.some.inj hF
  exact hret _ _ _ _ rfl hw dX0_count_4

/-! SealedBoard$History.remember(LSealedBoard$Position;)V -/
abbrev rmX0_remember : Room := { frames := 1, cells := 0, slots := 0, locals := 24 }
theorem kdX0_remember : yX0_remember.cls = RX0 ∧ yX0_remember.cls ≠ "java/lang/invoke/MethodHandle" ∧ yX0_remember.cls ≠ "java/lang/invoke/VarHandle" ∧ (parseMethodDescriptor yX0_remember.desc).map (fun d => d.parameters.length) = some 1 := by decide +kernel
theorem inX0_remember_X0 : ∀ w ∈ u_ws RX0 TX0 3, w ∈ wsX0_remember := by decide +kernel
def fX0_remember (rws : Nat → Int64) (nx : Int32) (ct : Int32) (f : Nat → Int64) : Option ((Nat → Int64) × Int32 × Int32) := (zbd (fX2_writeTo f rws (nx * (15 : Int32))) (fun u1 => (some (u1, ((nx + (1 : Int32)) - (nx + (1 : Int32)) / (6 : Int32) * (6 : Int32)), (if (6 : Int32) < (ct + (1 : Int32)) then (6 : Int32) else (ct + (1 : Int32)))))))
set_option maxHeartbeats 400000 in
set_option maxRecDepth 100000 in
theorem mX0_remember (l : Launch) (G : va_G) (k : Nat → ClassId) (h : Nat) (r : Nat) (h2 : Nat) (r2 : Nat) (sz : Nat) (rws : Nat → Int64) (nx : Int32) (ct : Int32) (f : Nat → Int64)  (o : (Nat → Int64) × Int32 × Int32) (hF : fX0_remember rws nx ct f = some o) : zMV l yX0_remember wsX0_remember rmX0_remember G k (zHP h r h2 r2 k rws nx ct f) sz [.ref h, .ref h2] (zHP h r h2 r2 k o.1 o.2.1 o.2.2 f) := by
  refine zof_V (cc := cX0_remember) (nL := 2) (own := RX0) (by decide) rfl rfl (Nat.le_of_ble_eq_true rfl) ?_
  intro p e s m args below meth c A Q C0 hK hA hret ls hl hw
  have hl : lv_has ls 2 [(0, .ref h), (1, .ref h2)] := hl
  obtain ⟨hx, hb, hr, hml, hown, hts, hlocks⟩ := id C0
  obtain ⟨H, hH⟩ : ∃ z, z = s.heap := ⟨_, rfl⟩
  rw [← hH] at hw ⊢
  unfold fX0_remember at hF
  refine lv_aload_n hx hb dX0_remember_0 rfl (lv_at hl 1 rfl) ?_
  refine lv_aload_n hx hb dX0_remember_1 rfl (lv_at hl 0 rfl) ?_
  refine va_get (D := G) (ci := 0) (v := .ref r) (C := RX0) (T := TX0) (N := 3) hx hb hts inX0_remember_X0 hown hK.1 hw.1 0 rfl rfl 0 (by decide) (hts (.fieldLink RX0 11 "SealedBoard$History" "rows" "[J") (by decide +kernel)) (fun _ h9 => h9) rfl dX0_remember_2 ?_
  refine lv_aload_n hx hb dX0_remember_5 rfl (lv_at hl 0 rfl) ?_
  refine va_get (D := G) (ci := 0) (v := .int nx) (C := RX0) (T := TX0) (N := 3) hx hb hts inX0_remember_X0 hown hK.1 hw.1 0 rfl rfl 1 (by decide) (hts (.fieldLink RX0 19 "SealedBoard$History" "next" "I") (by decide +kernel)) (fun _ h9 => h9) rfl dX0_remember_6 ?_
  refine lv_bipush (v := (15 : Int32)) hx hb dX0_remember_9 (by decide) ?_
  refine lv_imul hx hb dX0_remember_11 ?_
  obtain ⟨u1, hq2, hF⟩ := zbd_t hF
  refine zgoV (w' := (zHP h r h2 r2 k u1 nx ct f)) hw hA [2, 3, 1] rfl (zV (As := [.ref r, .int (nx * (15 : Int32))]) (rest := []) ⟨hx, hb, hml, hown, hts⟩ (mX2_writeTo l G k h2 r2 r H.size f rws (nx * (15 : Int32)) u1 hq2) (cwV 2 hts gX0_remember_X2_writeTo rfl rfl rfl kdX2_writeTo ⟨Nat.le_of_ble_eq_true rfl, Nat.le_of_ble_eq_true rfl⟩) hK hA hw [2, 3, 1] rfl (by decide) 2 rfl rfl rfl rfl hl.1 rfl (Nat.le_of_ble_eq_true rfl) dX0_remember_12 ⟨Nat.le_of_ble_eq_true rfl, Nat.le_of_ble_eq_true rfl⟩) rfl rfl rfl (fun H locs hw => ?_)
  refine lv_aload_n hx hb dX0_remember_15 rfl (lv_at hl 0 rfl) ?_
  refine lv_aload_n hx hb dX0_remember_16 rfl (lv_at hl 0 rfl) ?_
  refine va_get (D := G) (ci := 0) (v := .int nx) (C := RX0) (T := TX0) (N := 3) hx hb hts inX0_remember_X0 hown hK.1 hw.1 0 rfl rfl 1 (by decide) (hts (.fieldLink RX0 19 "SealedBoard$History" "next" "I") (by decide +kernel)) (fun _ h9 => h9) rfl dX0_remember_17 ?_
  refine lv_iconst (v := (1 : Int32)) hx hb dX0_remember_20 (by decide) ?_
  refine lv_iadd hx hb dX0_remember_21 ?_
  refine lv_bipush (v := (6 : Int32)) hx hb dX0_remember_22 (by decide) ?_
  refine lv_irem hx hb dX0_remember_24 (by decide) ?_
  refine va_put (D := G) (ci := 0) (v := .int ((nx + (1 : Int32)) - (nx + (1 : Int32)) / (6 : Int32) * (6 : Int32))) (ty := .int) (C := RX0) (T := TX0) (N := 3) hx hb hts inX0_remember_X0 tyX0 tyX0_ok nmX0 hown hK.1 hw.1 hw.2.1 hw.2.2 0 rfl rfl 1 (by decide) (hts (.fieldLink RX0 19 "SealedBoard$History" "next" "I") (by decide +kernel)) (fun _ h9 => h9) rfl (by decide +kernel) rfl rfl (Nat.le_of_ble_eq_true rfl) dX0_remember_25 (fun H locs hP hD hS => ?_)
  have hw : zWd G A s (zHP h r h2 r2 k u1 ((nx + (1 : Int32)) - (nx + (1 : Int32)) / (6 : Int32) * (6 : Int32)) ct f) H locs := ⟨hP, hD, hS⟩
  refine lv_aload_n hx hb dX0_remember_28 rfl (lv_at hl 0 rfl) ?_
  refine lv_aload_n hx hb dX0_remember_29 rfl (lv_at hl 0 rfl) ?_
  refine va_get (D := G) (ci := 0) (v := .int ct) (C := RX0) (T := TX0) (N := 3) hx hb hts inX0_remember_X0 hown hK.1 hw.1 0 rfl rfl 2 (by decide) (hts (.fieldLink RX0 15 "SealedBoard$History" "count" "I") (by decide +kernel)) (fun _ h9 => h9) rfl dX0_remember_30 ?_
  refine lv_iconst (v := (1 : Int32)) hx hb dX0_remember_33 (by decide) ?_
  refine lv_iadd hx hb dX0_remember_34 ?_
  refine lv_bipush (v := (6 : Int32)) hx hb dX0_remember_35 (by decide) ?_
  refine va_mmin hx hb (hml.trans hl.1.symm) hown (hts (.methodLink RX0 26 Lib.Math.min.name) (by decide +kernel)) (hts (.static Lib.Math.min.name) (by decide +kernel)) (hts (.initialized "java/lang/Math") (by decide +kernel)) (hts (.code Lib.Math.min.name Lib.Math.min.code 2 (some .int)) (by decide +kernel)) (Nat.le_of_ble_eq_true rfl) (Nat.le_of_ble_eq_true rfl) (Nat.le_of_ble_eq_true rfl) (Nat.le_of_ble_eq_true rfl) dX0_remember_37 ?_
  refine va_put (D := G) (ci := 0) (v := .int (if (6 : Int32) < (ct + (1 : Int32)) then (6 : Int32) else (ct + (1 : Int32)))) (ty := .int) (C := RX0) (T := TX0) (N := 3) hx hb hts inX0_remember_X0 tyX0 tyX0_ok nmX0 hown hK.1 hw.1 hw.2.1 hw.2.2 0 rfl rfl 2 (by decide) (hts (.fieldLink RX0 15 "SealedBoard$History" "count" "I") (by decide +kernel)) (fun _ h9 => h9) rfl (by decide +kernel) rfl rfl (Nat.le_of_ble_eq_true rfl) dX0_remember_40 (fun H locs hP hD hS => ?_)
  have hw : zWd G A s (zHP h r h2 r2 k u1 ((nx + (1 : Int32)) - (nx + (1 : Int32)) / (6 : Int32) * (6 : Int32)) (if (6 : Int32) < (ct + (1 : Int32)) then (6 : Int32) else (ct + (1 : Int32))) f) H locs := ⟨hP, hD, hS⟩
  obtain rfl := Option.some.inj hF
  exact hret _ _ _ _  hw dX0_remember_43

/-! SealedBoard$History.bringBack(LSealedBoard$Position;)V -/
abbrev rmX0_bringBack : Room := { frames := 1, cells := 0, slots := 0, locals := 24 }
theorem kdX0_bringBack : yX0_bringBack.cls = RX0 ∧ yX0_bringBack.cls ≠ "java/lang/invoke/MethodHandle" ∧ yX0_bringBack.cls ≠ "java/lang/invoke/VarHandle" ∧ (parseMethodDescriptor yX0_bringBack.desc).map (fun d => d.parameters.length) = some 1 := by decide +kernel
theorem inX0_bringBack_X0 : ∀ w ∈ u_ws RX0 TX0 3, w ∈ wsX0_bringBack := by decide +kernel
def fX0_bringBack (rws : Nat → Int64) (nx : Int32) (ct : Int32) (f : Nat → Int64) : Option (Int32 × Int32 × (Nat → Int64)) := (if ct ≤ 0 then (some (nx, ct, f)) else (zbd (fX2_readFrom f rws ((((nx + (6 : Int32)) - (1 : Int32)) - ((nx + (6 : Int32)) - (1 : Int32)) / (6 : Int32) * (6 : Int32)) * (15 : Int32))) (fun u1 => (some ((((nx + (6 : Int32)) - (1 : Int32)) - ((nx + (6 : Int32)) - (1 : Int32)) / (6 : Int32) * (6 : Int32)), (ct - (1 : Int32)), u1)))))
set_option maxHeartbeats 400000 in
set_option maxRecDepth 100000 in
theorem mX0_bringBack (l : Launch) (G : va_G) (k : Nat → ClassId) (h : Nat) (r : Nat) (h2 : Nat) (r2 : Nat) (sz : Nat) (rws : Nat → Int64) (nx : Int32) (ct : Int32) (f : Nat → Int64)  (o : Int32 × Int32 × (Nat → Int64)) (hF : fX0_bringBack rws nx ct f = some o) : zMV l yX0_bringBack wsX0_bringBack rmX0_bringBack G k (zHP h r h2 r2 k rws nx ct f) sz [.ref h, .ref h2] (zHP h r h2 r2 k rws o.1 o.2.1 o.2.2) := by
  refine zof_V (cc := cX0_bringBack) (nL := 2) (own := RX0) (by decide) rfl rfl (Nat.le_of_ble_eq_true rfl) ?_
  intro p e s m args below meth c A Q C0 hK hA hret ls hl hw
  have hl : lv_has ls 2 [(0, .ref h), (1, .ref h2)] := hl
  obtain ⟨hx, hb, hr, hml, hown, hts, hlocks⟩ := id C0
  obtain ⟨H, hH⟩ : ∃ z, z = s.heap := ⟨_, rfl⟩
  rw [← hH] at hw ⊢
  unfold fX0_bringBack at hF
  refine lv_aload_n hx hb dX0_bringBack_0 rfl (lv_at hl 0 rfl) ?_
  refine va_get (D := G) (ci := 0) (v := .int ct) (C := RX0) (T := TX0) (N := 3) hx hb hts inX0_bringBack_X0 hown hK.1 hw.1 0 rfl rfl 2 (by decide) (hts (.fieldLink RX0 15 "SealedBoard$History" "count" "I") (by decide +kernel)) (fun _ h9 => h9) rfl dX0_bringBack_1 ?_
  refine lv_if_le (tgt := 48) hx hb dX0_bringBack_4 (by decide) (fun hc => ?_) (fun hc => ?_)
  · have hF := zif_t hc hF
    obtain rfl := Option.some.inj hF
    exact hret _ _ _ _  hw dX0_bringBack_48
  · have hF := zif_f hc hF
    refine lv_aload_n hx hb dX0_bringBack_7 rfl (lv_at hl 0 rfl) ?_
    refine lv_aload_n hx hb dX0_bringBack_8 rfl (lv_at hl 0 rfl) ?_
    refine va_get (D := G) (ci := 0) (v := .int nx) (C := RX0) (T := TX0) (N := 3) hx hb hts inX0_bringBack_X0 hown hK.1 hw.1 0 rfl rfl 1 (by decide) (hts (.fieldLink RX0 19 "SealedBoard$History" "next" "I") (by decide +kernel)) (fun _ h9 => h9) rfl dX0_bringBack_9 ?_
    refine lv_bipush (v := (6 : Int32)) hx hb dX0_bringBack_12 (by decide) ?_
    refine lv_iadd hx hb dX0_bringBack_14 ?_
    refine lv_iconst (v := (1 : Int32)) hx hb dX0_bringBack_15 (by decide) ?_
    refine lv_isub hx hb dX0_bringBack_16 ?_
    refine lv_bipush (v := (6 : Int32)) hx hb dX0_bringBack_17 (by decide) ?_
    refine lv_irem hx hb dX0_bringBack_19 (by decide) ?_
    refine va_put (D := G) (ci := 0) (v := .int (((nx + (6 : Int32)) - (1 : Int32)) - ((nx + (6 : Int32)) - (1 : Int32)) / (6 : Int32) * (6 : Int32))) (ty := .int) (C := RX0) (T := TX0) (N := 3) hx hb hts inX0_bringBack_X0 tyX0 tyX0_ok nmX0 hown hK.1 hw.1 hw.2.1 hw.2.2 0 rfl rfl 1 (by decide) (hts (.fieldLink RX0 19 "SealedBoard$History" "next" "I") (by decide +kernel)) (fun _ h9 => h9) rfl (by decide +kernel) rfl rfl (Nat.le_of_ble_eq_true rfl) dX0_bringBack_20 (fun H locs hP hD hS => ?_)
    have hw : zWd G A s (zHP h r h2 r2 k rws (((nx + (6 : Int32)) - (1 : Int32)) - ((nx + (6 : Int32)) - (1 : Int32)) / (6 : Int32) * (6 : Int32)) ct f) H locs := ⟨hP, hD, hS⟩
    refine lv_aload_n hx hb dX0_bringBack_23 rfl (lv_at hl 0 rfl) ?_
    refine lv_dup hx hb dX0_bringBack_24 rfl ?_
    refine va_get (D := G) (ci := 0) (v := .int ct) (C := RX0) (T := TX0) (N := 3) hx hb hts inX0_bringBack_X0 hown hK.1 hw.1 0 rfl rfl 2 (by decide) (hts (.fieldLink RX0 15 "SealedBoard$History" "count" "I") (by decide +kernel)) (fun _ h9 => h9) rfl dX0_bringBack_25 ?_
    refine lv_iconst (v := (1 : Int32)) hx hb dX0_bringBack_28 (by decide) ?_
    refine lv_isub hx hb dX0_bringBack_29 ?_
    refine va_put (D := G) (ci := 0) (v := .int (ct - (1 : Int32))) (ty := .int) (C := RX0) (T := TX0) (N := 3) hx hb hts inX0_bringBack_X0 tyX0 tyX0_ok nmX0 hown hK.1 hw.1 hw.2.1 hw.2.2 0 rfl rfl 2 (by decide) (hts (.fieldLink RX0 15 "SealedBoard$History" "count" "I") (by decide +kernel)) (fun _ h9 => h9) rfl (by decide +kernel) rfl rfl (Nat.le_of_ble_eq_true rfl) dX0_bringBack_30 (fun H locs hP hD hS => ?_)
    have hw : zWd G A s (zHP h r h2 r2 k rws (((nx + (6 : Int32)) - (1 : Int32)) - ((nx + (6 : Int32)) - (1 : Int32)) / (6 : Int32) * (6 : Int32)) (ct - (1 : Int32)) f) H locs := ⟨hP, hD, hS⟩
    refine lv_aload_n hx hb dX0_bringBack_33 rfl (lv_at hl 1 rfl) ?_
    refine lv_aload_n hx hb dX0_bringBack_34 rfl (lv_at hl 0 rfl) ?_
    refine va_get (D := G) (ci := 0) (v := .ref r) (C := RX0) (T := TX0) (N := 3) hx hb hts inX0_bringBack_X0 hown hK.1 hw.1 0 rfl rfl 0 (by decide) (hts (.fieldLink RX0 11 "SealedBoard$History" "rows" "[J") (by decide +kernel)) (fun _ h9 => h9) rfl dX0_bringBack_35 ?_
    refine lv_aload_n hx hb dX0_bringBack_38 rfl (lv_at hl 0 rfl) ?_
    refine va_get (D := G) (ci := 0) (v := .int (((nx + (6 : Int32)) - (1 : Int32)) - ((nx + (6 : Int32)) - (1 : Int32)) / (6 : Int32) * (6 : Int32))) (C := RX0) (T := TX0) (N := 3) hx hb hts inX0_bringBack_X0 hown hK.1 hw.1 0 rfl rfl 1 (by decide) (hts (.fieldLink RX0 19 "SealedBoard$History" "next" "I") (by decide +kernel)) (fun _ h9 => h9) rfl dX0_bringBack_39 ?_
    refine lv_bipush (v := (15 : Int32)) hx hb dX0_bringBack_42 (by decide) ?_
    refine lv_imul hx hb dX0_bringBack_44 ?_
    obtain ⟨u1, hq2, hF⟩ := zbd_t hF
    refine zgoV (w' := (zHP h r h2 r2 k rws (((nx + (6 : Int32)) - (1 : Int32)) - ((nx + (6 : Int32)) - (1 : Int32)) / (6 : Int32) * (6 : Int32)) (ct - (1 : Int32)) u1)) hw hA [2, 3, 1] rfl (zV (As := [.ref r, .int ((((nx + (6 : Int32)) - (1 : Int32)) - ((nx + (6 : Int32)) - (1 : Int32)) / (6 : Int32) * (6 : Int32)) * (15 : Int32))]) (rest := []) ⟨hx, hb, hml, hown, hts⟩ (mX2_readFrom l G k h2 r2 r H.size f rws ((((nx + (6 : Int32)) - (1 : Int32)) - ((nx + (6 : Int32)) - (1 : Int32)) / (6 : Int32) * (6 : Int32)) * (15 : Int32)) u1 hq2) (cwV 2 hts gX0_bringBack_X2_readFrom rfl rfl rfl kdX2_readFrom ⟨Nat.le_of_ble_eq_true rfl, Nat.le_of_ble_eq_true rfl⟩) hK hA hw [2, 3, 1] rfl (by decide) 2 rfl rfl rfl rfl hl.1 rfl (Nat.le_of_ble_eq_true rfl) dX0_bringBack_45 ⟨Nat.le_of_ble_eq_true rfl, Nat.le_of_ble_eq_true rfl⟩) rfl rfl rfl (fun H locs hw => ?_)
    obtain rfl := Option.some.inj hF
    exact hret _ _ _ _  hw dX0_bringBack_48

/-! SealedBoard$History.forget()V -/
abbrev rmX0_forget : Room := { frames := 0, cells := 0, slots := 0, locals := 0 }
theorem kdX0_forget : yX0_forget.cls = RX0 ∧ yX0_forget.cls ≠ "java/lang/invoke/MethodHandle" ∧ yX0_forget.cls ≠ "java/lang/invoke/VarHandle" ∧ (parseMethodDescriptor yX0_forget.desc).map (fun d => d.parameters.length) = some 0 := by decide +kernel
theorem inX0_forget_X0 : ∀ w ∈ u_ws RX0 TX0 3, w ∈ wsX0_forget := by decide +kernel
def fX0_forget (ct : Int32) : Option (Int32) := (some ((0 : Int32)))
set_option maxHeartbeats 400000 in
set_option maxRecDepth 100000 in
theorem mX0_forget (l : Launch) (G : va_G) (k : Nat → ClassId) (h : Nat) (r : Nat) (sz : Nat) (rws : Nat → Int64) (nx : Int32) (ct : Int32)  (o : Int32) (hF : fX0_forget ct = some o) : zMV l yX0_forget wsX0_forget rmX0_forget G k (zH h r k rws nx ct) sz [.ref h] (zH h r k rws nx o) := by
  refine zof_V (cc := cX0_forget) (nL := 1) (own := RX0) (by decide) rfl rfl (Nat.le_of_ble_eq_true rfl) ?_
  intro p e s m args below meth c A Q C0 hK hA hret ls hl hw
  have hl : lv_has ls 1 [(0, .ref h)] := hl
  obtain ⟨hx, hb, hr, hml, hown, hts, hlocks⟩ := id C0
  obtain ⟨H, hH⟩ : ∃ z, z = s.heap := ⟨_, rfl⟩
  rw [← hH] at hw ⊢
  unfold fX0_forget at hF
  refine lv_aload_n hx hb dX0_forget_0 rfl (lv_at hl 0 rfl) ?_
  refine lv_iconst (v := (0 : Int32)) hx hb dX0_forget_1 (by decide) ?_
  refine va_put (D := G) (ci := 0) (v := .int (0 : Int32)) (ty := .int) (C := RX0) (T := TX0) (N := 3) hx hb hts inX0_forget_X0 tyX0 tyX0_ok nmX0 hown hK.1 hw.1 hw.2.1 hw.2.2 0 rfl rfl 2 (by decide) (hts (.fieldLink RX0 15 "SealedBoard$History" "count" "I") (by decide +kernel)) (fun _ h9 => h9) rfl (by decide +kernel) rfl rfl (Nat.le_of_ble_eq_true rfl) dX0_forget_2 (fun H locs hP hD hS => ?_)
  have hw : zWd G A s (zH h r k rws nx (0 : Int32)) H locs := ⟨hP, hD, hS⟩
  obtain rfl := Option.some.inj hF
  exact hret _ _ _ _  hw dX0_forget_5

/-! SealedBoard$Input.length()I -/
abbrev rmX1_length : Room := { frames := 0, cells := 0, slots := 0, locals := 0 }
theorem kdX1_length : yX1_length.cls = RX1 ∧ yX1_length.cls ≠ "java/lang/invoke/MethodHandle" ∧ yX1_length.cls ≠ "java/lang/invoke/VarHandle" ∧ (parseMethodDescriptor yX1_length.desc).map (fun d => d.parameters.length) = some 0 := by decide +kernel
theorem inX1_length_X1 : ∀ w ∈ u_ws RX1 TX1 2, w ∈ wsX1_length := by decide +kernel
def fX1_length (ln : Int32) : Option (Int32) := (some (ln))
set_option maxHeartbeats 400000 in
set_option maxRecDepth 100000 in
theorem mX1_length (l : Launch) (G : va_G) (k : Nat → ClassId) (h : Nat) (r : Nat) (sz : Nat) (ch : Nat → Int32) (ln : Int32)  (o : Int32) (hF : fX1_length ln = some o) : zMI l yX1_length wsX1_length rmX1_length G k (zI h r k ch ln) sz [.ref h] o (zI h r k ch ln) := by
  refine zof_I (cc := cX1_length) (nL := 1) (own := RX1) (rt := .int) (by decide) rfl rfl (Nat.le_of_ble_eq_true rfl) ?_
  intro p e s m args below meth c A Q C0 hK hA hret ls hl hw
  have hl : lv_has ls 1 [(0, .ref h)] := hl
  obtain ⟨hx, hb, hr, hml, hown, hts, hlocks⟩ := id C0
  obtain ⟨H, hH⟩ : ∃ z, z = s.heap := ⟨_, rfl⟩
  rw [← hH] at hw ⊢
  unfold fX1_length at hF
  refine lv_aload_n hx hb dX1_length_0 rfl (lv_at hl 0 rfl) ?_
  refine va_get (D := G) (ci := 1) (v := .int ln) (C := RX1) (T := TX1) (N := 2) hx hb hts inX1_length_X1 hown hK.1 hw.1 0 rfl rfl 1 (by decide) (hts (.fieldLink RX1 15 "SealedBoard$Input" "length" "I") (by decide +kernel)) (fun _ h9 => h9) rfl dX1_length_1 ?_
  obtain rfl := Option.some.inj hF
  exact hret _ _ _ _ rfl hw dX1_length_4

/-! SealedBoard$Input.isFull()Z -/
abbrev rmX1_isFull : Room := { frames := 0, cells := 0, slots := 0, locals := 0 }
theorem kdX1_isFull : yX1_isFull.cls = RX1 ∧ yX1_isFull.cls ≠ "java/lang/invoke/MethodHandle" ∧ yX1_isFull.cls ≠ "java/lang/invoke/VarHandle" ∧ (parseMethodDescriptor yX1_isFull.desc).map (fun d => d.parameters.length) = some 0 := by decide +kernel
theorem inX1_isFull_X1 : ∀ w ∈ u_ws RX1 TX1 2, w ∈ wsX1_isFull := by decide +kernel
def fX1_isFull (ln : Int32) : Option (Int32) := (if ln < (60 : Int32) then (some ((0 : Int32))) else (some ((1 : Int32))))
set_option maxHeartbeats 400000 in
set_option maxRecDepth 100000 in
theorem mX1_isFull (l : Launch) (G : va_G) (k : Nat → ClassId) (h : Nat) (r : Nat) (sz : Nat) (ch : Nat → Int32) (ln : Int32)  (o : Int32) (hF : fX1_isFull ln = some o) : zMI l yX1_isFull wsX1_isFull rmX1_isFull G k (zI h r k ch ln) sz [.ref h] o (zI h r k ch ln) := by
  refine zof_I (cc := cX1_isFull) (nL := 1) (own := RX1) (rt := .boolean) (by decide) rfl rfl (Nat.le_of_ble_eq_true rfl) ?_
  intro p e s m args below meth c A Q C0 hK hA hret ls hl hw
  have hl : lv_has ls 1 [(0, .ref h)] := hl
  obtain ⟨hx, hb, hr, hml, hown, hts, hlocks⟩ := id C0
  obtain ⟨H, hH⟩ : ∃ z, z = s.heap := ⟨_, rfl⟩
  rw [← hH] at hw ⊢
  unfold fX1_isFull at hF
  refine lv_aload_n hx hb dX1_isFull_0 rfl (lv_at hl 0 rfl) ?_
  refine va_get (D := G) (ci := 1) (v := .int ln) (C := RX1) (T := TX1) (N := 2) hx hb hts inX1_isFull_X1 hown hK.1 hw.1 0 rfl rfl 1 (by decide) (hts (.fieldLink RX1 15 "SealedBoard$Input" "length" "I") (by decide +kernel)) (fun _ h9 => h9) rfl dX1_isFull_1 ?_
  refine lv_bipush (v := (60 : Int32)) hx hb dX1_isFull_4 (by decide) ?_
  refine lv_icmp_lt (tgt := 13) hx hb dX1_isFull_6 (by decide) (fun hc => ?_) (fun hc => ?_)
  · have hF := zif_t hc hF
    refine lv_iconst (v := (0 : Int32)) hx hb dX1_isFull_13 (by decide) ?_
    obtain rfl := Option.some.inj hF
    exact hret _ _ _ _ (zbo_n (x := (0 : Int32)) (by decide)) hw dX1_isFull_14
  · have hF := zif_f hc hF
    refine lv_iconst (v := (1 : Int32)) hx hb dX1_isFull_9 (by decide) ?_
    refine lv_goto (tgt := 14) hx hb dX1_isFull_10 (by decide) ?_
    obtain rfl := Option.some.inj hF
    exact hret _ _ _ _ (zbo_n (x := (1 : Int32)) (by decide)) hw dX1_isFull_14

/-! SealedBoard$Input.put(C)I -/
abbrev rmX1_put : Room := { frames := 0, cells := 0, slots := 0, locals := 0 }
theorem kdX1_put : yX1_put.cls = RX1 ∧ yX1_put.cls ≠ "java/lang/invoke/MethodHandle" ∧ yX1_put.cls ≠ "java/lang/invoke/VarHandle" ∧ (parseMethodDescriptor yX1_put.desc).map (fun d => d.parameters.length) = some 1 := by decide +kernel
theorem inX1_put_X1 : ∀ w ∈ u_ws RX1 TX1 2, w ∈ wsX1_put := by decide +kernel
def fX1_put_36   (ch : Nat → Int32) (ln : Int32) : Option (Int32 × (Nat → Int32) × Int32) := (some (ln, ch, ln))
def fX1_put (ch : Nat → Int32) (ln : Int32) (p0 : Int32) : Option (Int32 × (Nat → Int32) × Int32) := (if ln < 0 then (fX1_put_36    ch ln) else (if (60 : Int32) ≤ ln then (fX1_put_36    ch ln) else (zck (zin ln 60) (fX1_put_36    (upd ch ln.toNatClampNeg (vp_nar .char p0)) (ln + (1 : Int32))))))
set_option maxHeartbeats 400000 in
set_option maxRecDepth 100000 in
theorem wX1_put_36 {p : Program} {l : Launch} {e : Env} {s : State} {m : MethodId} {args : Array Value} {below : List Frame} {meth : Method} {c : Code} {A : Nat → Prop} {Q : State → Prop} {G : va_G} {k : Nat → ClassId} {h : Nat} {r : Nat}  {o : Int32 × (Nat → Int32) × Int32} (C0 : zCx p s m args meth c wsX1_put cX1_put RX1 (some .int) 2) (hK : zKK G k A s s.heap) (hA : ∀ q : Nat, s.heap.size ≤ q → A q) (hret : zRI p l e rmX1_put s m args below meth c cX1_put G A 0 0 Q .int (zI h r k o.2.1 o.2.2) o.1)  : ∀ (ch : Nat → Int32) (ln : Int32), fX1_put_36   ch ln = some o → ∀ (H : Heap) (locs : List Loc) (ls : Array Slot), zWd G A s (zI h r k ch ln) H locs → lv_has ls 2 [(0, .ref h)] → W p l e rmX1_put s m args below meth c H locs 0 0 Q (F0 m 36 ls []) := by
  obtain ⟨hx, hb, hr, hml, hown, hts, hlocks⟩ := id C0
  intro ch ln hF H locs ls hw hl
  unfold fX1_put_36 at hF
  refine lv_aload_n hx hb dX1_put_36 rfl (lv_at hl 0 rfl) ?_
  refine va_get (D := G) (ci := 1) (v := .int ln) (C := RX1) (T := TX1) (N := 2) hx hb hts inX1_put_X1 hown hK.1 hw.1 0 rfl rfl 1 (by decide) (hts (.fieldLink RX1 15 "SealedBoard$Input" "length" "I") (by decide +kernel)) (fun _ h9 => h9) rfl dX1_put_37 ?_
  obtain rfl := Option.some.inj hF
  exact hret _ _ _ _ rfl hw dX1_put_40
set_option maxHeartbeats 400000 in
set_option maxRecDepth 100000 in
theorem mX1_put (l : Launch) (G : va_G) (k : Nat → ClassId) (h : Nat) (r : Nat) (sz : Nat) (ch : Nat → Int32) (ln : Int32) (p0 : Int32) (o : Int32 × (Nat → Int32) × Int32) (hF : fX1_put ch ln p0 = some o) : zMI l yX1_put wsX1_put rmX1_put G k (zI h r k ch ln) sz [.ref h, .int p0] o.1 (zI h r k o.2.1 o.2.2) := by
  refine zof_I (cc := cX1_put) (nL := 2) (own := RX1) (rt := .int) (by decide) rfl rfl (Nat.le_of_ble_eq_true rfl) ?_
  intro p e s m args below meth c A Q C0 hK hA hret ls hl hw
  have hl : lv_has ls 2 [(0, .ref h), (1, .int p0)] := hl
  obtain ⟨hx, hb, hr, hml, hown, hts, hlocks⟩ := id C0
  obtain ⟨H, hH⟩ : ∃ z, z = s.heap := ⟨_, rfl⟩
  rw [← hH] at hw ⊢
  unfold fX1_put at hF
  refine lv_aload_n hx hb dX1_put_0 rfl (lv_at hl 0 rfl) ?_
  refine va_get (D := G) (ci := 1) (v := .int ln) (C := RX1) (T := TX1) (N := 2) hx hb hts inX1_put_X1 hown hK.1 hw.1 0 rfl rfl 1 (by decide) (hts (.fieldLink RX1 15 "SealedBoard$Input" "length" "I") (by decide +kernel)) (fun _ h9 => h9) rfl dX1_put_1 ?_
  refine lv_if_lt (tgt := 36) hx hb dX1_put_4 (by decide) (fun hc => ?_) (fun hc => ?_)
  · have hF := zif_t hc hF
    exact wX1_put_36 C0 hK hA hret   _ _ hF _ _ _ hw (lv_sub hl [0] rfl)
  · have hF := zif_f hc hF
    refine lv_aload_n hx hb dX1_put_7 rfl (lv_at hl 0 rfl) ?_
    refine va_get (D := G) (ci := 1) (v := .int ln) (C := RX1) (T := TX1) (N := 2) hx hb hts inX1_put_X1 hown hK.1 hw.1 0 rfl rfl 1 (by decide) (hts (.fieldLink RX1 15 "SealedBoard$Input" "length" "I") (by decide +kernel)) (fun _ h9 => h9) rfl dX1_put_8 ?_
    refine lv_bipush (v := (60 : Int32)) hx hb dX1_put_11 (by decide) ?_
    refine lv_icmp_ge (tgt := 36) hx hb dX1_put_13 (by decide) (fun hc => ?_) (fun hc => ?_)
    · have hF := zif_t hc hF
      exact wX1_put_36 C0 hK hA hret   _ _ hF _ _ _ hw (lv_sub hl [0] rfl)
    · have hF := zif_f hc hF
      refine lv_aload_n hx hb dX1_put_16 rfl (lv_at hl 0 rfl) ?_
      refine va_get (D := G) (ci := 1) (v := .ref r) (C := RX1) (T := TX1) (N := 2) hx hb hts inX1_put_X1 hown hK.1 hw.1 0 rfl rfl 0 (by decide) (hts (.fieldLink RX1 11 "SealedBoard$Input" "characters" "[C") (by decide +kernel)) (fun _ h9 => h9) rfl dX1_put_17 ?_
      refine lv_aload_n hx hb dX1_put_20 rfl (lv_at hl 0 rfl) ?_
      refine va_get (D := G) (ci := 1) (v := .int ln) (C := RX1) (T := TX1) (N := 2) hx hb hts inX1_put_X1 hown hK.1 hw.1 0 rfl rfl 1 (by decide) (hts (.fieldLink RX1 15 "SealedBoard$Input" "length" "I") (by decide +kernel)) (fun _ h9 => h9) rfl dX1_put_21 ?_
      refine lv_iload_n hx hb dX1_put_24 rfl (lv_at hl 1 rfl) ?_
      obtain ⟨hi1, hF⟩ := zck_in hF
      refine va_cast hx hb hK.1 hw.1 hw.2.1 hw.2.2 1 1 rfl rfl hi1 dX1_put_25 (fun H locs hP hD hS => ?_)
      have hw : zWd G A s (zI h r k (upd ch ln.toNatClampNeg (vp_nar .char p0)) ln) H locs := ⟨hP, hD, hS⟩
      refine lv_aload_n hx hb dX1_put_26 rfl (lv_at hl 0 rfl) ?_
      refine lv_dup hx hb dX1_put_27 rfl ?_
      refine va_get (D := G) (ci := 1) (v := .int ln) (C := RX1) (T := TX1) (N := 2) hx hb hts inX1_put_X1 hown hK.1 hw.1 0 rfl rfl 1 (by decide) (hts (.fieldLink RX1 15 "SealedBoard$Input" "length" "I") (by decide +kernel)) (fun _ h9 => h9) rfl dX1_put_28 ?_
      refine lv_iconst (v := (1 : Int32)) hx hb dX1_put_31 (by decide) ?_
      refine lv_iadd hx hb dX1_put_32 ?_
      refine va_put (D := G) (ci := 1) (v := .int (ln + (1 : Int32))) (ty := .int) (C := RX1) (T := TX1) (N := 2) hx hb hts inX1_put_X1 tyX1 tyX1_ok nmX1 hown hK.1 hw.1 hw.2.1 hw.2.2 0 rfl rfl 1 (by decide) (hts (.fieldLink RX1 15 "SealedBoard$Input" "length" "I") (by decide +kernel)) (fun _ h9 => h9) rfl (by decide +kernel) rfl rfl (Nat.le_of_ble_eq_true rfl) dX1_put_33 (fun H locs hP hD hS => ?_)
      have hw : zWd G A s (zI h r k (upd ch ln.toNatClampNeg (vp_nar .char p0)) (ln + (1 : Int32))) H locs := ⟨hP, hD, hS⟩
      exact wX1_put_36 C0 hK hA hret   _ _ hF _ _ _ hw (lv_sub hl [0] rfl)

/-! SealedBoard$Input.empty()V -/
abbrev rmX1_empty : Room := { frames := 0, cells := 0, slots := 0, locals := 0 }
theorem kdX1_empty : yX1_empty.cls = RX1 ∧ yX1_empty.cls ≠ "java/lang/invoke/MethodHandle" ∧ yX1_empty.cls ≠ "java/lang/invoke/VarHandle" ∧ (parseMethodDescriptor yX1_empty.desc).map (fun d => d.parameters.length) = some 0 := by decide +kernel
theorem inX1_empty_X1 : ∀ w ∈ u_ws RX1 TX1 2, w ∈ wsX1_empty := by decide +kernel
def fX1_empty (ln : Int32) : Option (Int32) := (some ((0 : Int32)))
set_option maxHeartbeats 400000 in
set_option maxRecDepth 100000 in
theorem mX1_empty (l : Launch) (G : va_G) (k : Nat → ClassId) (h : Nat) (r : Nat) (sz : Nat) (ch : Nat → Int32) (ln : Int32)  (o : Int32) (hF : fX1_empty ln = some o) : zMV l yX1_empty wsX1_empty rmX1_empty G k (zI h r k ch ln) sz [.ref h] (zI h r k ch o) := by
  refine zof_V (cc := cX1_empty) (nL := 1) (own := RX1) (by decide) rfl rfl (Nat.le_of_ble_eq_true rfl) ?_
  intro p e s m args below meth c A Q C0 hK hA hret ls hl hw
  have hl : lv_has ls 1 [(0, .ref h)] := hl
  obtain ⟨hx, hb, hr, hml, hown, hts, hlocks⟩ := id C0
  obtain ⟨H, hH⟩ : ∃ z, z = s.heap := ⟨_, rfl⟩
  rw [← hH] at hw ⊢
  unfold fX1_empty at hF
  refine lv_aload_n hx hb dX1_empty_0 rfl (lv_at hl 0 rfl) ?_
  refine lv_iconst (v := (0 : Int32)) hx hb dX1_empty_1 (by decide) ?_
  refine va_put (D := G) (ci := 1) (v := .int (0 : Int32)) (ty := .int) (C := RX1) (T := TX1) (N := 2) hx hb hts inX1_empty_X1 tyX1 tyX1_ok nmX1 hown hK.1 hw.1 hw.2.1 hw.2.2 0 rfl rfl 1 (by decide) (hts (.fieldLink RX1 15 "SealedBoard$Input" "length" "I") (by decide +kernel)) (fun _ h9 => h9) rfl (by decide +kernel) rfl rfl (Nat.le_of_ble_eq_true rfl) dX1_empty_2 (fun H locs hP hD hS => ?_)
  have hw : zWd G A s (zI h r k ch (0 : Int32)) H locs := ⟨hP, hD, hS⟩
  obtain rfl := Option.some.inj hF
  exact hret _ _ _ _  hw dX1_empty_5

/-! SealedBoard$Input.characterAt(I)C -/
abbrev rmX1_characterAt : Room := { frames := 0, cells := 0, slots := 0, locals := 0 }
theorem kdX1_characterAt : yX1_characterAt.cls = RX1 ∧ yX1_characterAt.cls ≠ "java/lang/invoke/MethodHandle" ∧ yX1_characterAt.cls ≠ "java/lang/invoke/VarHandle" ∧ (parseMethodDescriptor yX1_characterAt.desc).map (fun d => d.parameters.length) = some 1 := by decide +kernel
theorem inX1_characterAt_X1 : ∀ w ∈ u_ws RX1 TX1 2, w ∈ wsX1_characterAt := by decide +kernel
def fX1_characterAt (ch : Nat → Int32) (ln : Int32) (p0 : Int32) : Option (Int32) := (if p0 < 0 then (zck (zch (0 : Int32)) (some ((0 : Int32)))) else (if ln ≤ p0 then (zck (zch (0 : Int32)) (some ((0 : Int32)))) else (if (60 : Int32) ≤ p0 then (zck (zch (0 : Int32)) (some ((0 : Int32)))) else (zck (zin p0 60) (zck (zch (ch p0.toNatClampNeg)) (some ((ch p0.toNatClampNeg))))))))
set_option maxHeartbeats 400000 in
set_option maxRecDepth 100000 in
theorem mX1_characterAt (l : Launch) (G : va_G) (k : Nat → ClassId) (h : Nat) (r : Nat) (sz : Nat) (ch : Nat → Int32) (ln : Int32) (p0 : Int32) (o : Int32) (hF : fX1_characterAt ch ln p0 = some o) : zMI l yX1_characterAt wsX1_characterAt rmX1_characterAt G k (zI h r k ch ln) sz [.ref h, .int p0] o (zI h r k ch ln) := by
  refine zof_I (cc := cX1_characterAt) (nL := 2) (own := RX1) (rt := .char) (by decide) rfl rfl (Nat.le_of_ble_eq_true rfl) ?_
  intro p e s m args below meth c A Q C0 hK hA hret ls hl hw
  have hl : lv_has ls 2 [(0, .ref h), (1, .int p0)] := hl
  obtain ⟨hx, hb, hr, hml, hown, hts, hlocks⟩ := id C0
  obtain ⟨H, hH⟩ : ∃ z, z = s.heap := ⟨_, rfl⟩
  rw [← hH] at hw ⊢
  unfold fX1_characterAt at hF
  refine lv_iload_n hx hb dX1_characterAt_0 rfl (lv_at hl 1 rfl) ?_
  refine lv_if_lt (tgt := 27) hx hb dX1_characterAt_1 (by decide) (fun hc => ?_) (fun hc => ?_)
  · have hF := zif_t hc hF
    refine lv_iconst (v := (0 : Int32)) hx hb dX1_characterAt_27 (by decide) ?_
    obtain ⟨hz1, hF⟩ := zck_t hF
    obtain rfl := Option.some.inj hF
    exact hret _ _ _ _ (zch_n hz1) hw dX1_characterAt_28
  · have hF := zif_f hc hF
    refine lv_iload_n hx hb dX1_characterAt_4 rfl (lv_at hl 1 rfl) ?_
    refine lv_aload_n hx hb dX1_characterAt_5 rfl (lv_at hl 0 rfl) ?_
    refine va_get (D := G) (ci := 1) (v := .int ln) (C := RX1) (T := TX1) (N := 2) hx hb hts inX1_characterAt_X1 hown hK.1 hw.1 0 rfl rfl 1 (by decide) (hts (.fieldLink RX1 15 "SealedBoard$Input" "length" "I") (by decide +kernel)) (fun _ h9 => h9) rfl dX1_characterAt_6 ?_
    refine lv_icmp_ge (tgt := 27) hx hb dX1_characterAt_9 (by decide) (fun hc => ?_) (fun hc => ?_)
    · have hF := zif_t hc hF
      refine lv_iconst (v := (0 : Int32)) hx hb dX1_characterAt_27 (by decide) ?_
      obtain ⟨hz2, hF⟩ := zck_t hF
      obtain rfl := Option.some.inj hF
      exact hret _ _ _ _ (zch_n hz2) hw dX1_characterAt_28
    · have hF := zif_f hc hF
      refine lv_iload_n hx hb dX1_characterAt_12 rfl (lv_at hl 1 rfl) ?_
      refine lv_bipush (v := (60 : Int32)) hx hb dX1_characterAt_13 (by decide) ?_
      refine lv_icmp_ge (tgt := 27) hx hb dX1_characterAt_15 (by decide) (fun hc => ?_) (fun hc => ?_)
      · have hF := zif_t hc hF
        refine lv_iconst (v := (0 : Int32)) hx hb dX1_characterAt_27 (by decide) ?_
        obtain ⟨hz3, hF⟩ := zck_t hF
        obtain rfl := Option.some.inj hF
        exact hret _ _ _ _ (zch_n hz3) hw dX1_characterAt_28
      · have hF := zif_f hc hF
        refine lv_aload_n hx hb dX1_characterAt_18 rfl (lv_at hl 0 rfl) ?_
        refine va_get (D := G) (ci := 1) (v := .ref r) (C := RX1) (T := TX1) (N := 2) hx hb hts inX1_characterAt_X1 hown hK.1 hw.1 0 rfl rfl 0 (by decide) (hts (.fieldLink RX1 11 "SealedBoard$Input" "characters" "[C") (by decide +kernel)) (fun _ h9 => h9) rfl dX1_characterAt_19 ?_
        refine lv_iload_n hx hb dX1_characterAt_22 rfl (lv_at hl 1 rfl) ?_
        obtain ⟨hi4, hF⟩ := zck_in hF
        refine va_cald hx hb hK.1 hw.1 1 1 rfl rfl hi4 dX1_characterAt_23 ?_
        refine lv_goto (tgt := 28) hx hb dX1_characterAt_24 (by decide) ?_
        obtain ⟨hz5, hF⟩ := zck_t hF
        obtain rfl := Option.some.inj hF
        exact hret _ _ _ _ (zch_n hz5) hw dX1_characterAt_28

/-! SealedBoard$Input.isTurnAt(I)Z -/
abbrev rmX1_isTurnAt : Room := { frames := 1, cells := 0, slots := 0, locals := 21 }
theorem kdX1_isTurnAt : yX1_isTurnAt.cls = RX1 ∧ yX1_isTurnAt.cls ≠ "java/lang/invoke/MethodHandle" ∧ yX1_isTurnAt.cls ≠ "java/lang/invoke/VarHandle" ∧ (parseMethodDescriptor yX1_isTurnAt.desc).map (fun d => d.parameters.length) = some 1 := by decide +kernel
def fX1_isTurnAt (ch : Nat → Int32) (ln : Int32) (p0 : Int32) : Option (Int32) := (if p0 = 0 then (some ((1 : Int32))) else (zbd (fX1_characterAt ch ln (p0 - (1 : Int32))) (fun u1 => (if u1 = (59 : Int32) then (some ((1 : Int32))) else (some ((0 : Int32)))))))
set_option maxHeartbeats 400000 in
set_option maxRecDepth 100000 in
theorem mX1_isTurnAt (l : Launch) (G : va_G) (k : Nat → ClassId) (h : Nat) (r : Nat) (sz : Nat) (ch : Nat → Int32) (ln : Int32) (p0 : Int32) (o : Int32) (hF : fX1_isTurnAt ch ln p0 = some o) : zMI l yX1_isTurnAt wsX1_isTurnAt rmX1_isTurnAt G k (zI h r k ch ln) sz [.ref h, .int p0] o (zI h r k ch ln) := by
  refine zof_I (cc := cX1_isTurnAt) (nL := 2) (own := RX1) (rt := .boolean) (by decide) rfl rfl (Nat.le_of_ble_eq_true rfl) ?_
  intro p e s m args below meth c A Q C0 hK hA hret ls hl hw
  have hl : lv_has ls 2 [(0, .ref h), (1, .int p0)] := hl
  obtain ⟨hx, hb, hr, hml, hown, hts, hlocks⟩ := id C0
  obtain ⟨H, hH⟩ : ∃ z, z = s.heap := ⟨_, rfl⟩
  rw [← hH] at hw ⊢
  unfold fX1_isTurnAt at hF
  refine lv_iload_n hx hb dX1_isTurnAt_0 rfl (lv_at hl 1 rfl) ?_
  refine lv_if_eq (tgt := 16) hx hb dX1_isTurnAt_1 (by decide) (fun hc => ?_) (fun hc => ?_)
  · have hF := zif_t hc hF
    refine lv_iconst (v := (1 : Int32)) hx hb dX1_isTurnAt_16 (by decide) ?_
    refine lv_goto (tgt := 21) hx hb dX1_isTurnAt_17 (by decide) ?_
    obtain rfl := Option.some.inj hF
    exact hret _ _ _ _ (zbo_n (x := (1 : Int32)) (by decide)) hw dX1_isTurnAt_21
  · have hF := zif_f hc hF
    refine lv_aload_n hx hb dX1_isTurnAt_4 rfl (lv_at hl 0 rfl) ?_
    refine lv_iload_n hx hb dX1_isTurnAt_5 rfl (lv_at hl 1 rfl) ?_
    refine lv_iconst (v := (1 : Int32)) hx hb dX1_isTurnAt_6 (by decide) ?_
    refine lv_isub hx hb dX1_isTurnAt_7 ?_
    obtain ⟨u1, hq2, hF⟩ := zbd_t hF
    refine zgoIw (w' := (zI h r k ch ln)) hw hA (zVw (As := [.int (p0 - (1 : Int32))]) (rest := []) ⟨hx, hb, hml, hown, hts⟩ (mX1_characterAt l G k h r H.size ch ln (p0 - (1 : Int32)) u1 hq2) (cwV 1 hts gX1_isTurnAt_X1_characterAt rfl rfl rfl kdX1_characterAt ⟨Nat.le_of_ble_eq_true rfl, Nat.le_of_ble_eq_true rfl⟩) hK hA hw 0 rfl rfl rfl rfl hl.1 rfl (Nat.le_of_ble_eq_true rfl) dX1_isTurnAt_8 ⟨Nat.le_of_ble_eq_true rfl, Nat.le_of_ble_eq_true rfl⟩) (fun H locs hw => ?_)
    refine lv_bipush (v := (59 : Int32)) hx hb dX1_isTurnAt_11 (by decide) ?_
    refine lv_icmp_ne (tgt := 20) hx hb dX1_isTurnAt_13 (by decide) (fun hc => ?_) (fun hc => ?_)
    · have hF := zif_f hc hF
      refine lv_iconst (v := (0 : Int32)) hx hb dX1_isTurnAt_20 (by decide) ?_
      obtain rfl := Option.some.inj hF
      exact hret _ _ _ _ (zbo_n (x := (0 : Int32)) (by decide)) hw dX1_isTurnAt_21
    · have hF := zif_t hc hF
      refine lv_iconst (v := (1 : Int32)) hx hb dX1_isTurnAt_16 (by decide) ?_
      refine lv_goto (tgt := 21) hx hb dX1_isTurnAt_17 (by decide) ?_
      obtain rfl := Option.some.inj hF
      exact hret _ _ _ _ (zbo_n (x := (1 : Int32)) (by decide)) hw dX1_isTurnAt_21

/-! SealedBoard$Input.isColumn(C)Z -/
abbrev rmX1_isColumn : Room := { frames := 0, cells := 0, slots := 0, locals := 0 }
theorem kdX1_isColumn : yX1_isColumn.cls ≠ "java/lang/invoke/MethodHandle" ∧ yX1_isColumn.cls ≠ "java/lang/invoke/VarHandle" ∧ (parseMethodDescriptor yX1_isColumn.desc).map (fun d => d.parameters.length) = some 1 := by decide +kernel
def fX1_isColumn (p0 : Int32) : Option (Int32) := (if p0 < (97 : Int32) then (some ((0 : Int32))) else (if (102 : Int32) < p0 then (some ((0 : Int32))) else (some ((1 : Int32)))))
set_option maxHeartbeats 400000 in
set_option maxRecDepth 100000 in
theorem mX1_isColumn (l : Launch) (G : va_G) (k : Nat → ClassId)  (sz : Nat)  (p0 : Int32) (o : Int32) (hF : fX1_isColumn p0 = some o) : zMI l yX1_isColumn wsX1_isColumn rmX1_isColumn G k (zE0 k) sz [.int p0] o (zE0 k) := by
  refine zof_I (cc := cX1_isColumn) (nL := 1) (own := RX1) (rt := .boolean) (by decide) rfl rfl (Nat.le_of_ble_eq_true rfl) ?_
  intro p e s m args below meth c A Q C0 hK hA hret ls hl hw
  have hl : lv_has ls 1 [(0, .int p0)] := hl
  obtain ⟨hx, hb, hr, hml, hown, hts, hlocks⟩ := id C0
  obtain ⟨H, hH⟩ : ∃ z, z = s.heap := ⟨_, rfl⟩
  rw [← hH] at hw ⊢
  unfold fX1_isColumn at hF
  refine lv_iload_n hx hb dX1_isColumn_0 rfl (lv_at hl 0 rfl) ?_
  refine lv_bipush (v := (97 : Int32)) hx hb dX1_isColumn_1 (by decide) ?_
  refine lv_icmp_lt (tgt := 16) hx hb dX1_isColumn_3 (by decide) (fun hc => ?_) (fun hc => ?_)
  · have hF := zif_t hc hF
    refine lv_iconst (v := (0 : Int32)) hx hb dX1_isColumn_16 (by decide) ?_
    obtain rfl := Option.some.inj hF
    exact hret _ _ _ _ (zbo_n (x := (0 : Int32)) (by decide)) hw dX1_isColumn_17
  · have hF := zif_f hc hF
    refine lv_iload_n hx hb dX1_isColumn_6 rfl (lv_at hl 0 rfl) ?_
    refine lv_bipush (v := (102 : Int32)) hx hb dX1_isColumn_7 (by decide) ?_
    refine lv_icmp_gt (tgt := 16) hx hb dX1_isColumn_9 (by decide) (fun hc => ?_) (fun hc => ?_)
    · have hF := zif_t hc hF
      refine lv_iconst (v := (0 : Int32)) hx hb dX1_isColumn_16 (by decide) ?_
      obtain rfl := Option.some.inj hF
      exact hret _ _ _ _ (zbo_n (x := (0 : Int32)) (by decide)) hw dX1_isColumn_17
    · have hF := zif_f hc hF
      refine lv_iconst (v := (1 : Int32)) hx hb dX1_isColumn_12 (by decide) ?_
      refine lv_goto (tgt := 17) hx hb dX1_isColumn_13 (by decide) ?_
      obtain rfl := Option.some.inj hF
      exact hret _ _ _ _ (zbo_n (x := (1 : Int32)) (by decide)) hw dX1_isColumn_17

/-! SealedBoard$Input.isRow(C)Z -/
abbrev rmX1_isRow : Room := { frames := 0, cells := 0, slots := 0, locals := 0 }
theorem kdX1_isRow : yX1_isRow.cls ≠ "java/lang/invoke/MethodHandle" ∧ yX1_isRow.cls ≠ "java/lang/invoke/VarHandle" ∧ (parseMethodDescriptor yX1_isRow.desc).map (fun d => d.parameters.length) = some 1 := by decide +kernel
def fX1_isRow (p0 : Int32) : Option (Int32) := (if p0 < (49 : Int32) then (some ((0 : Int32))) else (if (54 : Int32) < p0 then (some ((0 : Int32))) else (some ((1 : Int32)))))
set_option maxHeartbeats 400000 in
set_option maxRecDepth 100000 in
theorem mX1_isRow (l : Launch) (G : va_G) (k : Nat → ClassId)  (sz : Nat)  (p0 : Int32) (o : Int32) (hF : fX1_isRow p0 = some o) : zMI l yX1_isRow wsX1_isRow rmX1_isRow G k (zE0 k) sz [.int p0] o (zE0 k) := by
  refine zof_I (cc := cX1_isRow) (nL := 1) (own := RX1) (rt := .boolean) (by decide) rfl rfl (Nat.le_of_ble_eq_true rfl) ?_
  intro p e s m args below meth c A Q C0 hK hA hret ls hl hw
  have hl : lv_has ls 1 [(0, .int p0)] := hl
  obtain ⟨hx, hb, hr, hml, hown, hts, hlocks⟩ := id C0
  obtain ⟨H, hH⟩ : ∃ z, z = s.heap := ⟨_, rfl⟩
  rw [← hH] at hw ⊢
  unfold fX1_isRow at hF
  refine lv_iload_n hx hb dX1_isRow_0 rfl (lv_at hl 0 rfl) ?_
  refine lv_bipush (v := (49 : Int32)) hx hb dX1_isRow_1 (by decide) ?_
  refine lv_icmp_lt (tgt := 16) hx hb dX1_isRow_3 (by decide) (fun hc => ?_) (fun hc => ?_)
  · have hF := zif_t hc hF
    refine lv_iconst (v := (0 : Int32)) hx hb dX1_isRow_16 (by decide) ?_
    obtain rfl := Option.some.inj hF
    exact hret _ _ _ _ (zbo_n (x := (0 : Int32)) (by decide)) hw dX1_isRow_17
  · have hF := zif_f hc hF
    refine lv_iload_n hx hb dX1_isRow_6 rfl (lv_at hl 0 rfl) ?_
    refine lv_bipush (v := (54 : Int32)) hx hb dX1_isRow_7 (by decide) ?_
    refine lv_icmp_gt (tgt := 16) hx hb dX1_isRow_9 (by decide) (fun hc => ?_) (fun hc => ?_)
    · have hF := zif_t hc hF
      refine lv_iconst (v := (0 : Int32)) hx hb dX1_isRow_16 (by decide) ?_
      obtain rfl := Option.some.inj hF
      exact hret _ _ _ _ (zbo_n (x := (0 : Int32)) (by decide)) hw dX1_isRow_17
    · have hF := zif_f hc hF
      refine lv_iconst (v := (1 : Int32)) hx hb dX1_isRow_12 (by decide) ?_
      refine lv_goto (tgt := 17) hx hb dX1_isRow_13 (by decide) ?_
      obtain rfl := Option.some.inj hF
      exact hret _ _ _ _ (zbo_n (x := (1 : Int32)) (by decide)) hw dX1_isRow_17

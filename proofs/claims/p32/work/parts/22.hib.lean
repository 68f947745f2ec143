/-! SealedBoard$Input.squareAt(I)I -/
abbrev rmX1_squareAt : Room := { frames := 1, cells := 0, slots := 0, locals := 21 }
theorem kdX1_squareAt : yX1_squareAt.cls = RX1 ∧ yX1_squareAt.cls ≠ "java/lang/invoke/MethodHandle" ∧ yX1_squareAt.cls ≠ "java/lang/invoke/VarHandle" ∧ (parseMethodDescriptor yX1_squareAt.desc).map (fun d => d.parameters.length) = some 1 := by decide +kernel
def fX1_squareAt (ch : Nat → Int32) (ln : Int32) (p0 : Int32) : Option (Int32) := (zbd (fX1_characterAt ch ln p0) (fun u1 => (zbd (fX1_characterAt ch ln (p0 + (1 : Int32))) (fun u3 => (zbd (fX1_isColumn u1) (fun u5 => (if u5 = 0 then (some ((-1 : Int32))) else (zbd (fX1_isRow u3) (fun u7 => (if u7 = 0 then (some ((-1 : Int32))) else (some ((((u3 - (49 : Int32)) * (6 : Int32)) + (u1 - (97 : Int32)))))))))))))))
set_option maxHeartbeats 400000 in
set_option maxRecDepth 100000 in
theorem mX1_squareAt (l : Launch) (G : va_G) (k : Nat → ClassId) (h : Nat) (r : Nat) (sz : Nat) (ch : Nat → Int32) (ln : Int32) (p0 : Int32) (o : Int32) (hF : fX1_squareAt ch ln p0 = some o) : zMI l yX1_squareAt wsX1_squareAt rmX1_squareAt G k (zI h r k ch ln) sz [.ref h, .int p0] o (zI h r k ch ln) := by
  refine zof_I (cc := cX1_squareAt) (nL := 4) (own := RX1) (rt := .int) (by decide) rfl rfl (Nat.le_of_ble_eq_true rfl) ?_
  intro p e s m args below meth c A Q C0 hK hA hret ls hl hw
  have hl : lv_has ls 4 [(0, .ref h), (1, .int p0)] := hl
  obtain ⟨hx, hb, hr, hml, hown, hts, hlocks⟩ := id C0
  obtain ⟨H, hH⟩ : ∃ z, z = s.heap := ⟨_, rfl⟩
  rw [← hH] at hw ⊢
  unfold fX1_squareAt at hF
  refine lv_aload_n hx hb dX1_squareAt_0 rfl (lv_at hl 0 rfl) ?_
  refine lv_iload_n hx hb dX1_squareAt_1 rfl (lv_at hl 1 rfl) ?_
  obtain ⟨u1, hq2, hF⟩ := zbd_t hF
  refine zgoIw (w' := (zI h r k ch ln)) hw hA (zVw (As := [.int p0]) (rest := []) ⟨hx, hb, hml, hown, hts⟩ (mX1_characterAt l G k h r H.size ch ln p0 u1 hq2) (cwV 1 hts gX1_squareAt_X1_characterAt rfl rfl rfl kdX1_characterAt ⟨Nat.le_of_ble_eq_true rfl, Nat.le_of_ble_eq_true rfl⟩) hK hA hw 0 rfl rfl rfl rfl hl.1 rfl (Nat.le_of_ble_eq_true rfl) dX1_squareAt_2 ⟨Nat.le_of_ble_eq_true rfl, Nat.le_of_ble_eq_true rfl⟩) (fun H locs hw => ?_)
  refine lv_istore_n (lv' := [(2, .int u1), (0, .ref h), (1, .int p0)]) hx hb dX1_squareAt_5 rfl hl (by decide) rfl (fun ls hl => ?_)
  refine lv_aload_n hx hb dX1_squareAt_6 rfl (lv_at hl 1 rfl) ?_
  refine lv_iload_n hx hb dX1_squareAt_7 rfl (lv_at hl 2 rfl) ?_
  refine lv_iconst (v := (1 : Int32)) hx hb dX1_squareAt_8 (by decide) ?_
  refine lv_iadd hx hb dX1_squareAt_9 ?_
  obtain ⟨u3, hq4, hF⟩ := zbd_t hF
  refine zgoIw (w' := (zI h r k ch ln)) hw hA (zVw (As := [.int (p0 + (1 : Int32))]) (rest := []) ⟨hx, hb, hml, hown, hts⟩ (mX1_characterAt l G k h r H.size ch ln (p0 + (1 : Int32)) u3 hq4) (cwV 1 hts gX1_squareAt_X1_characterAt rfl rfl rfl kdX1_characterAt ⟨Nat.le_of_ble_eq_true rfl, Nat.le_of_ble_eq_true rfl⟩) hK hA hw 0 rfl rfl rfl rfl hl.1 rfl (Nat.le_of_ble_eq_true rfl) dX1_squareAt_10 ⟨Nat.le_of_ble_eq_true rfl, Nat.le_of_ble_eq_true rfl⟩) (fun H locs hw => ?_)
  refine lv_istore_n (lv' := [(3, .int u3), (2, .int u1), (0, .ref h), (1, .int p0)]) hx hb dX1_squareAt_13 rfl hl (by decide) rfl (fun ls hl => ?_)
  refine lv_iload_n hx hb dX1_squareAt_14 rfl (lv_at hl 1 rfl) ?_
  obtain ⟨u5, hq6, hF⟩ := zbd_t hF
  refine zgoI (w' := (zI h r k ch ln)) hw hA [] rfl (zS (As := [.int u1]) (rest := []) ⟨hx, hb, hml, hown, hts⟩ (mX1_isColumn l G k  H.size  u1 u5 hq6) (va_cwS 1 hts gX1_squareAt_X1_isColumn rfl rfl rfl kdX1_isColumn ⟨Nat.le_of_ble_eq_true rfl, Nat.le_of_ble_eq_true rfl⟩) hK hA hw [] rfl (by decide) rfl hl.1 rfl (Nat.le_of_ble_eq_true rfl) dX1_squareAt_15 ⟨Nat.le_of_ble_eq_true rfl, Nat.le_of_ble_eq_true rfl⟩) rfl rfl rfl (fun H locs hw => ?_)
  refine lv_if_eq (tgt := 43) hx hb dX1_squareAt_18 (by decide) (fun hc => ?_) (fun hc => ?_)
  · have hF := zif_t hc hF
    refine lv_iconst (v := (-1 : Int32)) hx hb dX1_squareAt_43 (by decide) ?_
    obtain rfl := Option.some.inj hF
    exact hret _ _ _ _ rfl hw dX1_squareAt_44
  · have hF := zif_f hc hF
    refine lv_iload_n hx hb dX1_squareAt_21 rfl (lv_at hl 0 rfl) ?_
    obtain ⟨u7, hq8, hF⟩ := zbd_t hF
    refine zgoI (w' := (zI h r k ch ln)) hw hA [] rfl (zS (As := [.int u3]) (rest := []) ⟨hx, hb, hml, hown, hts⟩ (mX1_isRow l G k  H.size  u3 u7 hq8) (va_cwS 1 hts gX1_squareAt_X1_isRow rfl rfl rfl kdX1_isRow ⟨Nat.le_of_ble_eq_true rfl, Nat.le_of_ble_eq_true rfl⟩) hK hA hw [] rfl (by decide) rfl hl.1 rfl (Nat.le_of_ble_eq_true rfl) dX1_squareAt_22 ⟨Nat.le_of_ble_eq_true rfl, Nat.le_of_ble_eq_true rfl⟩) rfl rfl rfl (fun H locs hw => ?_)
    refine lv_if_eq (tgt := 43) hx hb dX1_squareAt_25 (by decide) (fun hc => ?_) (fun hc => ?_)
    · have hF := zif_t hc hF
      refine lv_iconst (v := (-1 : Int32)) hx hb dX1_squareAt_43 (by decide) ?_
      obtain rfl := Option.some.inj hF
      exact hret _ _ _ _ rfl hw dX1_squareAt_44
    · have hF := zif_f hc hF
      refine lv_iload_n hx hb dX1_squareAt_28 rfl (lv_at hl 0 rfl) ?_
      refine lv_bipush (v := (49 : Int32)) hx hb dX1_squareAt_29 (by decide) ?_
      refine lv_isub hx hb dX1_squareAt_31 ?_
      refine lv_bipush (v := (6 : Int32)) hx hb dX1_squareAt_32 (by decide) ?_
      refine lv_imul hx hb dX1_squareAt_34 ?_
      refine lv_iload_n hx hb dX1_squareAt_35 rfl (lv_at hl 1 rfl) ?_
      refine lv_bipush (v := (97 : Int32)) hx hb dX1_squareAt_36 (by decide) ?_
      refine lv_isub hx hb dX1_squareAt_38 ?_
      refine lv_iadd hx hb dX1_squareAt_39 ?_
      refine lv_goto (tgt := 44) hx hb dX1_squareAt_40 (by decide) ?_
      obtain rfl := Option.some.inj hF
      exact hret _ _ _ _ rfl hw dX1_squareAt_44

/-! SealedBoard$Input.expectedAfter(IC)I -/
abbrev rmX1_expectedAfter : Room := { frames := 1, cells := 0, slots := 0, locals := 20 }
theorem kdX1_expectedAfter : yX1_expectedAfter.cls ≠ "java/lang/invoke/MethodHandle" ∧ yX1_expectedAfter.cls ≠ "java/lang/invoke/VarHandle" ∧ (parseMethodDescriptor yX1_expectedAfter.desc).map (fun d => d.parameters.length) = some 2 := by decide +kernel
def fX1_expectedAfter (p0 : Int32) (p1 : Int32) : Option (Int32) := (if p0 = (0 : Int32) then (if p1 = (43 : Int32) then (some ((3 : Int32))) else (if p1 = (42 : Int32) then (some ((3 : Int32))) else (zbd (fX1_isColumn p1) (fun u2 => (if u2 = 0 then (some ((-1 : Int32))) else (some ((1 : Int32)))))))) else (if p0 = (1 : Int32) then (zbd (fX1_isRow p1) (fun u5 => (if u5 = 0 then (some ((-1 : Int32))) else (some ((2 : Int32)))))) else (if p0 = (2 : Int32) then (if p1 = (45 : Int32) then (some ((3 : Int32))) else (some ((-1 : Int32)))) else (if p0 = (3 : Int32) then (zbd (fX1_isColumn p1) (fun u9 => (if u9 = 0 then (some ((-1 : Int32))) else (some ((4 : Int32)))))) else (if p0 = (4 : Int32) then (zbd (fX1_isRow p1) (fun u12 => (if u12 = 0 then (some ((-1 : Int32))) else (some ((5 : Int32)))))) else (if p1 = (59 : Int32) then (some ((0 : Int32))) else (some ((-1 : Int32)))))))))
set_option maxHeartbeats 400000 in
set_option maxRecDepth 100000 in
theorem mX1_expectedAfter (l : Launch) (G : va_G) (k : Nat → ClassId)  (sz : Nat)  (p0 : Int32) (p1 : Int32) (o : Int32) (hF : fX1_expectedAfter p0 p1 = some o) : zMI l yX1_expectedAfter wsX1_expectedAfter rmX1_expectedAfter G k (zE0 k) sz [.int p0, .int p1] o (zE0 k) := by
  refine zof_I (cc := cX1_expectedAfter) (nL := 2) (own := RX1) (rt := .int) (by decide) rfl rfl (Nat.le_of_ble_eq_true rfl) ?_
  intro p e s m args below meth c A Q C0 hK hA hret ls hl hw
  have hl : lv_has ls 2 [(0, .int p0), (1, .int p1)] := hl
  obtain ⟨hx, hb, hr, hml, hown, hts, hlocks⟩ := id C0
  obtain ⟨H, hH⟩ : ∃ z, z = s.heap := ⟨_, rfl⟩
  rw [← hH] at hw ⊢
  unfold fX1_expectedAfter at hF
  refine lv_iload_n hx hb dX1_expectedAfter_0 rfl (lv_at hl 0 rfl) ?_
  by_cases hc1 : p0 = (0 : Int32)
  · have hF := zif_t hc1 hF
    refine lv_tableIn (tgt := 36) (off := 35) hx hb dX1_expectedAfter_1 (by rw [hc1]; decide) (by rw [hc1]; decide) (by rw [hc1]; rfl) (by decide) ?_
    refine lv_iload_n hx hb dX1_expectedAfter_36 rfl (lv_at hl 1 rfl) ?_
    refine lv_bipush (v := (43 : Int32)) hx hb dX1_expectedAfter_37 (by decide) ?_
    refine lv_icmp_eq (tgt := 48) hx hb dX1_expectedAfter_39 (by decide) (fun hc => ?_) (fun hc => ?_)
    · have hF := zif_t hc hF
      refine lv_iconst (v := (3 : Int32)) hx hb dX1_expectedAfter_48 (by decide) ?_
      obtain rfl := Option.some.inj hF
      exact hret _ _ _ _ rfl hw dX1_expectedAfter_49
    · have hF := zif_f hc hF
      refine lv_iload_n hx hb dX1_expectedAfter_42 rfl (lv_at hl 1 rfl) ?_
      refine lv_bipush (v := (42 : Int32)) hx hb dX1_expectedAfter_43 (by decide) ?_
      refine lv_icmp_ne (tgt := 50) hx hb dX1_expectedAfter_45 (by decide) (fun hc => ?_) (fun hc => ?_)
      · have hF := zif_f hc hF
        refine lv_iload_n hx hb dX1_expectedAfter_50 rfl (lv_at hl 1 rfl) ?_
        obtain ⟨u2, hq3, hF⟩ := zbd_t hF
        refine zgoI (w' := (zE0 k)) hw hA [] rfl (zS (As := [.int p1]) (rest := []) ⟨hx, hb, hml, hown, hts⟩ (mX1_isColumn l G k  H.size  p1 u2 hq3) (va_cwS 1 hts gX1_expectedAfter_X1_isColumn rfl rfl rfl kdX1_isColumn ⟨Nat.le_of_ble_eq_true rfl, Nat.le_of_ble_eq_true rfl⟩) hK hA hw [] rfl (by decide) rfl hl.1 rfl (Nat.le_of_ble_eq_true rfl) dX1_expectedAfter_51 ⟨Nat.le_of_ble_eq_true rfl, Nat.le_of_ble_eq_true rfl⟩) rfl rfl rfl (fun H locs hw => ?_)
        refine lv_if_eq (tgt := 61) hx hb dX1_expectedAfter_54 (by decide) (fun hc => ?_) (fun hc => ?_)
        · have hF := zif_t hc hF
          refine lv_iconst (v := (-1 : Int32)) hx hb dX1_expectedAfter_61 (by decide) ?_
          obtain rfl := Option.some.inj hF
          exact hret _ _ _ _ rfl hw dX1_expectedAfter_62
        · have hF := zif_f hc hF
          refine lv_iconst (v := (1 : Int32)) hx hb dX1_expectedAfter_57 (by decide) ?_
          refine lv_goto (tgt := 62) hx hb dX1_expectedAfter_58 (by decide) ?_
          obtain rfl := Option.some.inj hF
          exact hret _ _ _ _ rfl hw dX1_expectedAfter_62
      · have hF := zif_t hc hF
        refine lv_iconst (v := (3 : Int32)) hx hb dX1_expectedAfter_48 (by decide) ?_
        obtain rfl := Option.some.inj hF
        exact hret _ _ _ _ rfl hw dX1_expectedAfter_49
  have hF := zif_f hc1 hF
  by_cases hc4 : p0 = (1 : Int32)
  · have hF := zif_t hc4 hF
    refine lv_tableIn (tgt := 63) (off := 62) hx hb dX1_expectedAfter_1 (by rw [hc4]; decide) (by rw [hc4]; decide) (by rw [hc4]; rfl) (by decide) ?_
    refine lv_iload_n hx hb dX1_expectedAfter_63 rfl (lv_at hl 1 rfl) ?_
    obtain ⟨u5, hq6, hF⟩ := zbd_t hF
    refine zgoI (w' := (zE0 k)) hw hA [] rfl (zS (As := [.int p1]) (rest := []) ⟨hx, hb, hml, hown, hts⟩ (mX1_isRow l G k  H.size  p1 u5 hq6) (va_cwS 1 hts gX1_expectedAfter_X1_isRow rfl rfl rfl kdX1_isRow ⟨Nat.le_of_ble_eq_true rfl, Nat.le_of_ble_eq_true rfl⟩) hK hA hw [] rfl (by decide) rfl hl.1 rfl (Nat.le_of_ble_eq_true rfl) dX1_expectedAfter_64 ⟨Nat.le_of_ble_eq_true rfl, Nat.le_of_ble_eq_true rfl⟩) rfl rfl rfl (fun H locs hw => ?_)
    refine lv_if_eq (tgt := 74) hx hb dX1_expectedAfter_67 (by decide) (fun hc => ?_) (fun hc => ?_)
    · have hF := zif_t hc hF
      refine lv_iconst (v := (-1 : Int32)) hx hb dX1_expectedAfter_74 (by decide) ?_
      obtain rfl := Option.some.inj hF
      exact hret _ _ _ _ rfl hw dX1_expectedAfter_75
    · have hF := zif_f hc hF
      refine lv_iconst (v := (2 : Int32)) hx hb dX1_expectedAfter_70 (by decide) ?_
      refine lv_goto (tgt := 75) hx hb dX1_expectedAfter_71 (by decide) ?_
      obtain rfl := Option.some.inj hF
      exact hret _ _ _ _ rfl hw dX1_expectedAfter_75
  have hF := zif_f hc4 hF
  by_cases hc7 : p0 = (2 : Int32)
  · have hF := zif_t hc7 hF
    refine lv_tableIn (tgt := 76) (off := 75) hx hb dX1_expectedAfter_1 (by rw [hc7]; decide) (by rw [hc7]; decide) (by rw [hc7]; rfl) (by decide) ?_
    refine lv_iload_n hx hb dX1_expectedAfter_76 rfl (lv_at hl 1 rfl) ?_
    refine lv_bipush (v := (45 : Int32)) hx hb dX1_expectedAfter_77 (by decide) ?_
    refine lv_icmp_ne (tgt := 86) hx hb dX1_expectedAfter_79 (by decide) (fun hc => ?_) (fun hc => ?_)
    · have hF := zif_f hc hF
      refine lv_iconst (v := (-1 : Int32)) hx hb dX1_expectedAfter_86 (by decide) ?_
      obtain rfl := Option.some.inj hF
      exact hret _ _ _ _ rfl hw dX1_expectedAfter_87
    · have hF := zif_t hc hF
      refine lv_iconst (v := (3 : Int32)) hx hb dX1_expectedAfter_82 (by decide) ?_
      refine lv_goto (tgt := 87) hx hb dX1_expectedAfter_83 (by decide) ?_
      obtain rfl := Option.some.inj hF
      exact hret _ _ _ _ rfl hw dX1_expectedAfter_87
  have hF := zif_f hc7 hF
  by_cases hc8 : p0 = (3 : Int32)
  · have hF := zif_t hc8 hF
    refine lv_tableIn (tgt := 88) (off := 87) hx hb dX1_expectedAfter_1 (by rw [hc8]; decide) (by rw [hc8]; decide) (by rw [hc8]; rfl) (by decide) ?_
    refine lv_iload_n hx hb dX1_expectedAfter_88 rfl (lv_at hl 1 rfl) ?_
    obtain ⟨u9, hq10, hF⟩ := zbd_t hF
    refine zgoI (w' := (zE0 k)) hw hA [] rfl (zS (As := [.int p1]) (rest := []) ⟨hx, hb, hml, hown, hts⟩ (mX1_isColumn l G k  H.size  p1 u9 hq10) (va_cwS 1 hts gX1_expectedAfter_X1_isColumn rfl rfl rfl kdX1_isColumn ⟨Nat.le_of_ble_eq_true rfl, Nat.le_of_ble_eq_true rfl⟩) hK hA hw [] rfl (by decide) rfl hl.1 rfl (Nat.le_of_ble_eq_true rfl) dX1_expectedAfter_89 ⟨Nat.le_of_ble_eq_true rfl, Nat.le_of_ble_eq_true rfl⟩) rfl rfl rfl (fun H locs hw => ?_)
    refine lv_if_eq (tgt := 99) hx hb dX1_expectedAfter_92 (by decide) (fun hc => ?_) (fun hc => ?_)
    · have hF := zif_t hc hF
      refine lv_iconst (v := (-1 : Int32)) hx hb dX1_expectedAfter_99 (by decide) ?_
      obtain rfl := Option.some.inj hF
      exact hret _ _ _ _ rfl hw dX1_expectedAfter_100
    · have hF := zif_f hc hF
      refine lv_iconst (v := (4 : Int32)) hx hb dX1_expectedAfter_95 (by decide) ?_
      refine lv_goto (tgt := 100) hx hb dX1_expectedAfter_96 (by decide) ?_
      obtain rfl := Option.some.inj hF
      exact hret _ _ _ _ rfl hw dX1_expectedAfter_100
  have hF := zif_f hc8 hF
  by_cases hc11 : p0 = (4 : Int32)
  · have hF := zif_t hc11 hF
    refine lv_tableIn (tgt := 101) (off := 100) hx hb dX1_expectedAfter_1 (by rw [hc11]; decide) (by rw [hc11]; decide) (by rw [hc11]; rfl) (by decide) ?_
    refine lv_iload_n hx hb dX1_expectedAfter_101 rfl (lv_at hl 1 rfl) ?_
    obtain ⟨u12, hq13, hF⟩ := zbd_t hF
    refine zgoI (w' := (zE0 k)) hw hA [] rfl (zS (As := [.int p1]) (rest := []) ⟨hx, hb, hml, hown, hts⟩ (mX1_isRow l G k  H.size  p1 u12 hq13) (va_cwS 1 hts gX1_expectedAfter_X1_isRow rfl rfl rfl kdX1_isRow ⟨Nat.le_of_ble_eq_true rfl, Nat.le_of_ble_eq_true rfl⟩) hK hA hw [] rfl (by decide) rfl hl.1 rfl (Nat.le_of_ble_eq_true rfl) dX1_expectedAfter_102 ⟨Nat.le_of_ble_eq_true rfl, Nat.le_of_ble_eq_true rfl⟩) rfl rfl rfl (fun H locs hw => ?_)
    refine lv_if_eq (tgt := 112) hx hb dX1_expectedAfter_105 (by decide) (fun hc => ?_) (fun hc => ?_)
    · have hF := zif_t hc hF
      refine lv_iconst (v := (-1 : Int32)) hx hb dX1_expectedAfter_112 (by decide) ?_
      obtain rfl := Option.some.inj hF
      exact hret _ _ _ _ rfl hw dX1_expectedAfter_113
    · have hF := zif_f hc hF
      refine lv_iconst (v := (5 : Int32)) hx hb dX1_expectedAfter_108 (by decide) ?_
      refine lv_goto (tgt := 113) hx hb dX1_expectedAfter_109 (by decide) ?_
      obtain rfl := Option.some.inj hF
      exact hret _ _ _ _ rfl hw dX1_expectedAfter_113
  have hF := zif_f hc11 hF
  refine lv_tableOut (tgt := 114) hx hb dX1_expectedAfter_1 (by
    have q0 : p0.toInt ≠ 0 := fun q => hc1 (Int32.toInt_inj.mp q)
    have q1 : p0.toInt ≠ 1 := fun q => hc4 (Int32.toInt_inj.mp q)
    have q2 : p0.toInt ≠ 2 := fun q => hc7 (Int32.toInt_inj.mp q)
    have q3 : p0.toInt ≠ 3 := fun q => hc8 (Int32.toInt_inj.mp q)
    have q4 : p0.toInt ≠ 4 := fun q => hc11 (Int32.toInt_inj.mp q)
    omega) (by decide) ?_
  refine lv_iload_n hx hb dX1_expectedAfter_114 rfl (lv_at hl 1 rfl) ?_
  refine lv_bipush (v := (59 : Int32)) hx hb dX1_expectedAfter_115 (by decide) ?_
  refine lv_icmp_ne (tgt := 124) hx hb dX1_expectedAfter_117 (by decide) (fun hc => ?_) (fun hc => ?_)
  · have hF := zif_f hc hF
    refine lv_iconst (v := (-1 : Int32)) hx hb dX1_expectedAfter_124 (by decide) ?_
    obtain rfl := Option.some.inj hF
    exact hret _ _ _ _ rfl hw dX1_expectedAfter_125
  · have hF := zif_t hc hF
    refine lv_iconst (v := (0 : Int32)) hx hb dX1_expectedAfter_120 (by decide) ?_
    refine lv_goto (tgt := 125) hx hb dX1_expectedAfter_121 (by decide) ?_
    obtain rfl := Option.some.inj hF
    exact hret _ _ _ _ rfl hw dX1_expectedAfter_125

/-! SealedBoard$Input.firstError()I -/
abbrev rmX1_firstError : Room := { frames := 2, cells := 0, slots := 0, locals := 41 }
theorem kdX1_firstError : yX1_firstError.cls = RX1 ∧ yX1_firstError.cls ≠ "java/lang/invoke/MethodHandle" ∧ yX1_firstError.cls ≠ "java/lang/invoke/VarHandle" ∧ (parseMethodDescriptor yX1_firstError.desc).map (fun d => d.parameters.length) = some 0 := by decide +kernel
theorem inX1_firstError_X1 : ∀ w ∈ u_ws RX1 TX1 2, w ∈ wsX1_firstError := by decide +kernel
def fX1_firstError_4  (ch : Nat → Int32) (ln : Int32) : Nat → Int32 → Int32 → Option (Int32)
  | 0, _, _ => none
  | n + 1, x1, x2 => (if ln ≤ x2 then (if x1 = (5 : Int32) then (some ((-1 : Int32))) else (some (ln))) else (zbd (fX1_characterAt ch ln x2) (fun u1 => (zbd (fX1_expectedAfter x1 u1) (fun u3 => (if u3 = (-1 : Int32) then (some (x2)) else (zbn (x2 + (1 : Int32)) (fun a5 => (fX1_firstError_4  ch ln n u3 a5)))))))))
def fX1_firstError (ch : Nat → Int32) (ln : Int32) : Option (Int32) := (fX1_firstError_4  ch ln zFu (0 : Int32) (0 : Int32))
set_option maxHeartbeats 400000 in
set_option maxRecDepth 100000 in
theorem wX1_firstError_4 {p : Program} {l : Launch} {e : Env} {s : State} {m : MethodId} {args : Array Value} {below : List Frame} {meth : Method} {c : Code} {A : Nat → Prop} {Q : State → Prop} {G : va_G} {k : Nat → ClassId} {h : Nat} {r : Nat} {ch : Nat → Int32} {ln : Int32} {o : Int32} (C0 : zCx p s m args meth c wsX1_firstError cX1_firstError RX1 (some .int) 3) (hK : zKK G k A s s.heap) (hA : ∀ q : Nat, s.heap.size ≤ q → A q) (hret : zRI p l e rmX1_firstError s m args below meth c cX1_firstError G A 0 0 Q .int (zI h r k ch ln) o)  : ∀ (n : Nat) (x1 : Int32) (x2 : Int32), fX1_firstError_4  ch ln n x1 x2 = some o → ∀ (H : Heap) (locs : List Loc) (ls : Array Slot), zWd G A s (zI h r k ch ln) H locs → lv_has ls 3 [(0, .ref h), (1, .int x1), (2, .int x2)] → W p l e rmX1_firstError s m args below meth c H locs 0 0 Q (F0 m 4 ls []) := by
  obtain ⟨hx, hb, hr, hml, hown, hts, hlocks⟩ := id C0
  intro n
  induction n with
  | zero => intro x1 x2 hF; exact nomatch hF
  | succ n ih =>
    intro x1 x2 hF H locs ls hw hl
    rw [fX1_firstError_4] at hF
    refine lv_iload_n hx hb dX1_firstError_4 rfl (lv_at hl 2 rfl) ?_
    refine lv_aload_n hx hb dX1_firstError_5 rfl (lv_at hl 0 rfl) ?_
    refine va_get (D := G) (ci := 1) (v := .int ln) (C := RX1) (T := TX1) (N := 2) hx hb hts inX1_firstError_X1 hown hK.1 hw.1 0 rfl rfl 1 (by decide) (hts (.fieldLink RX1 15 "SealedBoard$Input" "length" "I") (by decide +kernel)) (fun _ h9 => h9) rfl dX1_firstError_6 ?_
    refine lv_icmp_ge (tgt := 35) hx hb dX1_firstError_9 (by decide) (fun hc => ?_) (fun hc => ?_)
    · have hF := zif_t hc hF
      refine lv_iload_n hx hb dX1_firstError_35 rfl (lv_at hl 1 rfl) ?_
      refine lv_iconst (v := (5 : Int32)) hx hb dX1_firstError_36 (by decide) ?_
      refine lv_icmp_ne (tgt := 44) hx hb dX1_firstError_37 (by decide) (fun hc => ?_) (fun hc => ?_)
      · have hF := zif_f hc hF
        refine lv_aload_n hx hb dX1_firstError_44 rfl (lv_at hl 0 rfl) ?_
        refine va_get (D := G) (ci := 1) (v := .int ln) (C := RX1) (T := TX1) (N := 2) hx hb hts inX1_firstError_X1 hown hK.1 hw.1 0 rfl rfl 1 (by decide) (hts (.fieldLink RX1 15 "SealedBoard$Input" "length" "I") (by decide +kernel)) (fun _ h9 => h9) rfl dX1_firstError_45 ?_
        obtain rfl := Option.some.inj hF
        exact hret _ _ _ _ rfl hw dX1_firstError_48
      · have hF := zif_t hc hF
        refine lv_iconst (v := (-1 : Int32)) hx hb dX1_firstError_40 (by decide) ?_
        refine lv_goto (tgt := 48) hx hb dX1_firstError_41 (by decide) ?_
        obtain rfl := Option.some.inj hF
        exact hret _ _ _ _ rfl hw dX1_firstError_48
    · have hF := zif_f hc hF
      refine lv_iload_n hx hb dX1_firstError_12 rfl (lv_at hl 1 rfl) ?_
      refine lv_aload_n hx hb dX1_firstError_13 rfl (lv_at hl 0 rfl) ?_
      refine lv_iload_n hx hb dX1_firstError_14 rfl (lv_at hl 2 rfl) ?_
      obtain ⟨u1, hq2, hF⟩ := zbd_t hF
      refine zgoIw (w' := (zI h r k ch ln)) hw hA (zVw (As := [.int x2]) (rest := [.int x1]) ⟨hx, hb, hml, hown, hts⟩ (mX1_characterAt l G k h r H.size ch ln x2 u1 hq2) (cwV 1 hts gX1_firstError_X1_characterAt rfl rfl rfl kdX1_characterAt ⟨Nat.le_of_ble_eq_true rfl, Nat.le_of_ble_eq_true rfl⟩) hK hA hw 0 rfl rfl rfl rfl hl.1 rfl (Nat.le_of_ble_eq_true rfl) dX1_firstError_15 ⟨Nat.le_of_ble_eq_true rfl, Nat.le_of_ble_eq_true rfl⟩) (fun H locs hw => ?_)
      obtain ⟨u3, hq4, hF⟩ := zbd_t hF
      refine zgoI (w' := (zI h r k ch ln)) hw hA [] rfl (zS (As := [.int x1, .int u1]) (rest := []) ⟨hx, hb, hml, hown, hts⟩ (mX1_expectedAfter l G k  H.size  x1 u1 u3 hq4) (va_cwS 2 hts gX1_firstError_X1_expectedAfter rfl rfl rfl kdX1_expectedAfter ⟨Nat.le_of_ble_eq_true rfl, Nat.le_of_ble_eq_true rfl⟩) hK hA hw [] rfl (by decide) rfl hl.1 rfl (Nat.le_of_ble_eq_true rfl) dX1_firstError_18 ⟨Nat.le_of_ble_eq_true rfl, Nat.le_of_ble_eq_true rfl⟩) rfl rfl rfl (fun H locs hw => ?_)
      refine lv_istore_n (lv' := [(1, .int u3), (0, .ref h), (2, .int x2)]) hx hb dX1_firstError_21 rfl hl (by decide) rfl (fun ls hl => ?_)
      refine lv_iload_n hx hb dX1_firstError_22 rfl (lv_at hl 0 rfl) ?_
      refine lv_iconst (v := (-1 : Int32)) hx hb dX1_firstError_23 (by decide) ?_
      refine lv_icmp_ne (tgt := 29) hx hb dX1_firstError_24 (by decide) (fun hc => ?_) (fun hc => ?_)
      · have hF := zif_f hc hF
        obtain ⟨a5, ea5⟩ : ∃ z : Int32, z = x2 + (1 : Int32) := ⟨_, rfl⟩
        have hF := zbn_t ea5 hF
        refine lv_iinc (v := a5) (lv' := [(2, .int a5), (1, .int u3), (0, .ref h)]) hx hb dX1_firstError_29 hl (k := 2) rfl (by rw [ea5]; rfl) (by decide) rfl (fun ls hl => ?_)
        refine lv_goto (tgt := 4) hx hb dX1_firstError_32 (by decide) ?_
        exact ih _ _ hF _ _ _ hw (lv_sub hl [2, 1, 0] rfl)
      · have hF := zif_t hc hF
        refine lv_iload_n hx hb dX1_firstError_27 rfl (lv_at hl 2 rfl) ?_
        obtain rfl := Option.some.inj hF
        exact hret _ _ _ _ rfl hw dX1_firstError_28
set_option maxHeartbeats 400000 in
set_option maxRecDepth 100000 in
theorem mX1_firstError (l : Launch) (G : va_G) (k : Nat → ClassId) (h : Nat) (r : Nat) (sz : Nat) (ch : Nat → Int32) (ln : Int32)  (o : Int32) (hF : fX1_firstError ch ln = some o) : zMI l yX1_firstError wsX1_firstError rmX1_firstError G k (zI h r k ch ln) sz [.ref h] o (zI h r k ch ln) := by
  refine zof_I (cc := cX1_firstError) (nL := 3) (own := RX1) (rt := .int) (by decide) rfl rfl (Nat.le_of_ble_eq_true rfl) ?_
  intro p e s m args below meth c A Q C0 hK hA hret ls hl hw
  have hl : lv_has ls 3 [(0, .ref h)] := hl
  obtain ⟨hx, hb, hr, hml, hown, hts, hlocks⟩ := id C0
  obtain ⟨H, hH⟩ : ∃ z, z = s.heap := ⟨_, rfl⟩
  rw [← hH] at hw ⊢
  unfold fX1_firstError at hF
  refine lv_iconst (v := (0 : Int32)) hx hb dX1_firstError_0 (by decide) ?_
  refine lv_istore_n (lv' := [(1, .int (0 : Int32)), (0, .ref h)]) hx hb dX1_firstError_1 rfl hl (by decide) rfl (fun ls hl => ?_)
  refine lv_iconst (v := (0 : Int32)) hx hb dX1_firstError_2 (by decide) ?_
  refine lv_istore_n (lv' := [(2, .int (0 : Int32)), (1, .int (0 : Int32)), (0, .ref h)]) hx hb dX1_firstError_3 rfl hl (by decide) rfl (fun ls hl => ?_)
  exact wX1_firstError_4 C0 hK hA hret  zFu _ _ hF _ _ _ hw (lv_sub hl [2, 1, 0] rfl)

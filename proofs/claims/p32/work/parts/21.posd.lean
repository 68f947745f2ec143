/-! SealedBoard$Position.priceOfPiece(I)I -/
abbrev rmX2_priceOfPiece : Room := { frames := 2, cells := 0, slots := 0, locals := 44 }
theorem kdX2_priceOfPiece : yX2_priceOfPiece.cls = RX2 ∧ yX2_priceOfPiece.cls ≠ "java/lang/invoke/MethodHandle" ∧ yX2_priceOfPiece.cls ≠ "java/lang/invoke/VarHandle" ∧ (parseMethodDescriptor yX2_priceOfPiece.desc).map (fun d => d.parameters.length) = some 1 := by decide +kernel
def fX2_priceOfPiece (f : Nat → Int64) (p0 : Int32) : Option (Int32) := (zbd (fX2_kindOn f p0) (fun u1 => (some (((2 : Int32) + u1)))))
set_option maxHeartbeats 400000 in
set_option maxRecDepth 100000 in
theorem mX2_priceOfPiece (l : Launch) (G : va_G) (k : Nat → ClassId) (h : Nat) (r : Nat) (sz : Nat) (f : Nat → Int64) (p0 : Int32) (o : Int32) (hF : fX2_priceOfPiece f p0 = some o) : zMI l yX2_priceOfPiece wsX2_priceOfPiece rmX2_priceOfPiece G k (zP h r k f) sz [.ref h, .int p0] o (zP h r k f) := by
  refine zof_I (cc := cX2_priceOfPiece) (nL := 2) (own := RX2) (rt := .int) (by decide) rfl rfl (Nat.le_of_ble_eq_true rfl) ?_
  intro p e s m args below meth c A Q C0 hK hA hret ls hl hw
  have hl : lv_has ls 2 [(0, .ref h), (1, .int p0)] := hl
  obtain ⟨hx, hb, hr, hml, hown, hts, hlocks⟩ := id C0
  obtain ⟨H, hH⟩ : ∃ z, z = s.heap := ⟨_, rfl⟩
  rw [← hH] at hw ⊢
  unfold fX2_priceOfPiece at hF
  refine lv_iconst (v := (2 : Int32)) hx hb dX2_priceOfPiece_0 (by decide) ?_
  refine lv_aload_n hx hb dX2_priceOfPiece_1 rfl (lv_at hl 0 rfl) ?_
  refine lv_iload_n hx hb dX2_priceOfPiece_2 rfl (lv_at hl 1 rfl) ?_
  obtain ⟨u1, hq2, hF⟩ := zbd_t hF
  refine zgoIw (w' := (zP h r k f)) hw hA (zVw (As := [.int p0]) (rest := [.int (2 : Int32)]) ⟨hx, hb, hml, hown, hts⟩ (mX2_kindOn l G k h r H.size f p0 u1 hq2) (cwV 1 hts gX2_priceOfPiece_X2_kindOn rfl rfl rfl kdX2_kindOn ⟨Nat.le_of_ble_eq_true rfl, Nat.le_of_ble_eq_true rfl⟩) hK hA hw 0 rfl rfl rfl rfl hl.1 rfl (Nat.le_of_ble_eq_true rfl) dX2_priceOfPiece_3 ⟨Nat.le_of_ble_eq_true rfl, Nat.le_of_ble_eq_true rfl⟩) (fun H locs hw => ?_)
  refine lv_iadd hx hb dX2_priceOfPiece_6 ?_
  obtain rfl := Option.some.inj hF
  exact hret _ _ _ _ rfl hw dX2_priceOfPiece_7

/-! SealedBoard$Position.takePiece(I)I -/
abbrev rmX2_takePiece : Room := { frames := 3, cells := 0, slots := 0, locals := 72 }
theorem kdX2_takePiece : yX2_takePiece.cls = RX2 ∧ yX2_takePiece.cls ≠ "java/lang/invoke/MethodHandle" ∧ yX2_takePiece.cls ≠ "java/lang/invoke/VarHandle" ∧ (parseMethodDescriptor yX2_takePiece.desc).map (fun d => d.parameters.length) = some 1 := by decide +kernel
def fX2_takePiece (f : Nat → Int64) (p0 : Int32) : Option (Int32 × (Nat → Int64)) := (zbd (fX2_mover f) (fun u1 => (zbd (fX3_of p0) (fun u3 => (zbd (fX2_exclude f (10 : Int32) u3) (fun u5 => (zbd (fX2_exclude u5 ((4 : Int32) + u1) u3) (fun u7 => (zbd (fX2_include u7 ((0 : Int32) + u1) u3) (fun u9 => (zbd (fX2_priceOfPiece u9 p0) (fun u11 => (zbd (fX2_earn u9 u1 (-u11)) (fun u13 => (zbd (fX2_endTurn u13 (0 : Int32)) (fun u15 => (zbd (fX2_coinsOf u15 u1) (fun u17 => (some (u17, u15))))))))))))))))))))
set_option maxHeartbeats 400000 in
set_option maxRecDepth 100000 in
theorem mX2_takePiece (l : Launch) (G : va_G) (k : Nat → ClassId) (h : Nat) (r : Nat) (sz : Nat) (f : Nat → Int64) (p0 : Int32) (o : Int32 × (Nat → Int64)) (hF : fX2_takePiece f p0 = some o) : zMI l yX2_takePiece wsX2_takePiece rmX2_takePiece G k (zP h r k f) sz [.ref h, .int p0] o.1 (zP h r k o.2) := by
  refine zof_I (cc := cX2_takePiece) (nL := 5) (own := RX2) (rt := .int) (by decide) rfl rfl (Nat.le_of_ble_eq_true rfl) ?_
  intro p e s m args below meth c A Q C0 hK hA hret ls hl hw
  have hl : lv_has ls 5 [(0, .ref h), (1, .int p0)] := hl
  obtain ⟨hx, hb, hr, hml, hown, hts, hlocks⟩ := id C0
  obtain ⟨H, hH⟩ : ∃ z, z = s.heap := ⟨_, rfl⟩
  rw [← hH] at hw ⊢
  unfold fX2_takePiece at hF
  refine lv_aload_n hx hb dX2_takePiece_0 rfl (lv_at hl 0 rfl) ?_
  obtain ⟨u1, hq2, hF⟩ := zbd_t hF
  refine zgoIw (w' := (zP h r k f)) hw hA (zVw (As := []) (rest := []) ⟨hx, hb, hml, hown, hts⟩ (mX2_mover l G k h r H.size f  u1 hq2) (cwV 0 hts gX2_takePiece_X2_mover rfl rfl rfl kdX2_mover ⟨Nat.le_of_ble_eq_true rfl, Nat.le_of_ble_eq_true rfl⟩) hK hA hw 0 rfl rfl rfl rfl hl.1 rfl (Nat.le_of_ble_eq_true rfl) dX2_takePiece_1 ⟨Nat.le_of_ble_eq_true rfl, Nat.le_of_ble_eq_true rfl⟩) (fun H locs hw => ?_)
  refine lv_istore_n (lv' := [(2, .int u1), (0, .ref h), (1, .int p0)]) hx hb dX2_takePiece_4 rfl hl (by decide) rfl (fun ls hl => ?_)
  refine lv_iload_n hx hb dX2_takePiece_5 rfl (lv_at hl 2 rfl) ?_
  obtain ⟨u3, hq4, hF⟩ := zbd_t hF
  refine zgoL (w' := (zP h r k f)) hw hA [] rfl (zS (As := [.int p0]) (rest := []) ⟨hx, hb, hml, hown, hts⟩ (mX3_of l G k  H.size  p0 u3 hq4) (va_cwS 1 hts gX2_takePiece_X3_of rfl rfl rfl kdX3_of ⟨Nat.le_of_ble_eq_true rfl, Nat.le_of_ble_eq_true rfl⟩) hK hA hw [] rfl (by decide) rfl hl.1 rfl (Nat.le_of_ble_eq_true rfl) dX2_takePiece_6 ⟨Nat.le_of_ble_eq_true rfl, Nat.le_of_ble_eq_true rfl⟩) rfl rfl rfl (fun H locs hw => ?_)
  refine lv_lstore_n (lv' := [(3, .long u3), (2, .int u1), (0, .ref h), (1, .int p0)]) hx hb dX2_takePiece_9 rfl hl (by decide) rfl (fun ls hl => ?_)
  refine lv_aload_n hx hb dX2_takePiece_10 rfl (lv_at hl 2 rfl) ?_
  refine lv_bipush (v := (10 : Int32)) hx hb dX2_takePiece_11 (by decide) ?_
  refine lv_lload_n hx hb dX2_takePiece_13 rfl (lv_at hl 0 rfl) ?_
  obtain ⟨u5, hq6, hF⟩ := zbd_t hF
  refine zgoVw (w' := (zP h r k u5)) hw hA (zVw (As := [.int (10 : Int32), .long u3]) (rest := []) ⟨hx, hb, hml, hown, hts⟩ (mX2_exclude l G k h r H.size f (10 : Int32) u3 u5 hq6) (cwV 2 hts gX2_takePiece_X2_exclude rfl rfl rfl kdX2_exclude ⟨Nat.le_of_ble_eq_true rfl, Nat.le_of_ble_eq_true rfl⟩) hK hA hw 0 rfl rfl rfl rfl hl.1 rfl (Nat.le_of_ble_eq_true rfl) dX2_takePiece_14 ⟨Nat.le_of_ble_eq_true rfl, Nat.le_of_ble_eq_true rfl⟩) (fun H locs hw => ?_)
  refine lv_aload_n hx hb dX2_takePiece_17 rfl (lv_at hl 2 rfl) ?_
  refine lv_iconst (v := (4 : Int32)) hx hb dX2_takePiece_18 (by decide) ?_
  refine lv_iload_n hx hb dX2_takePiece_19 rfl (lv_at hl 1 rfl) ?_
  refine lv_iadd hx hb dX2_takePiece_20 ?_
  refine lv_lload_n hx hb dX2_takePiece_21 rfl (lv_at hl 0 rfl) ?_
  obtain ⟨u7, hq8, hF⟩ := zbd_t hF
  refine zgoVw (w' := (zP h r k u7)) hw hA (zVw (As := [.int ((4 : Int32) + u1), .long u3]) (rest := []) ⟨hx, hb, hml, hown, hts⟩ (mX2_exclude l G k h r H.size u5 ((4 : Int32) + u1) u3 u7 hq8) (cwV 2 hts gX2_takePiece_X2_exclude rfl rfl rfl kdX2_exclude ⟨Nat.le_of_ble_eq_true rfl, Nat.le_of_ble_eq_true rfl⟩) hK hA hw 0 rfl rfl rfl rfl hl.1 rfl (Nat.le_of_ble_eq_true rfl) dX2_takePiece_22 ⟨Nat.le_of_ble_eq_true rfl, Nat.le_of_ble_eq_true rfl⟩) (fun H locs hw => ?_)
  refine lv_aload_n hx hb dX2_takePiece_25 rfl (lv_at hl 2 rfl) ?_
  refine lv_iconst (v := (0 : Int32)) hx hb dX2_takePiece_26 (by decide) ?_
  refine lv_iload_n hx hb dX2_takePiece_27 rfl (lv_at hl 1 rfl) ?_
  refine lv_iadd hx hb dX2_takePiece_28 ?_
  refine lv_lload_n hx hb dX2_takePiece_29 rfl (lv_at hl 0 rfl) ?_
  obtain ⟨u9, hq10, hF⟩ := zbd_t hF
  refine zgoVw (w' := (zP h r k u9)) hw hA (zVw (As := [.int ((0 : Int32) + u1), .long u3]) (rest := []) ⟨hx, hb, hml, hown, hts⟩ (mX2_include l G k h r H.size u7 ((0 : Int32) + u1) u3 u9 hq10) (cwV 2 hts gX2_takePiece_X2_include rfl rfl rfl kdX2_include ⟨Nat.le_of_ble_eq_true rfl, Nat.le_of_ble_eq_true rfl⟩) hK hA hw 0 rfl rfl rfl rfl hl.1 rfl (Nat.le_of_ble_eq_true rfl) dX2_takePiece_30 ⟨Nat.le_of_ble_eq_true rfl, Nat.le_of_ble_eq_true rfl⟩) (fun H locs hw => ?_)
  refine lv_aload_n hx hb dX2_takePiece_33 rfl (lv_at hl 2 rfl) ?_
  refine lv_iload_n hx hb dX2_takePiece_34 rfl (lv_at hl 1 rfl) ?_
  refine lv_aload_n hx hb dX2_takePiece_35 rfl (lv_at hl 2 rfl) ?_
  refine lv_iload_n hx hb dX2_takePiece_36 rfl (lv_at hl 3 rfl) ?_
  obtain ⟨u11, hq12, hF⟩ := zbd_t hF
  refine zgoIw (w' := (zP h r k u9)) hw hA (zVw (As := [.int p0]) (rest := [.int u1, .ref h]) ⟨hx, hb, hml, hown, hts⟩ (mX2_priceOfPiece l G k h r H.size u9 p0 u11 hq12) (cwV 1 hts gX2_takePiece_X2_priceOfPiece rfl rfl rfl kdX2_priceOfPiece ⟨Nat.le_of_ble_eq_true rfl, Nat.le_of_ble_eq_true rfl⟩) hK hA hw 0 rfl rfl rfl rfl hl.1 rfl (Nat.le_of_ble_eq_true rfl) dX2_takePiece_37 ⟨Nat.le_of_ble_eq_true rfl, Nat.le_of_ble_eq_true rfl⟩) (fun H locs hw => ?_)
  refine lv_ineg hx hb dX2_takePiece_40 ?_
  obtain ⟨u13, hq14, hF⟩ := zbd_t hF
  refine zgoVw (w' := (zP h r k u13)) hw hA (zVw (As := [.int u1, .int (-u11)]) (rest := []) ⟨hx, hb, hml, hown, hts⟩ (mX2_earn l G k h r H.size u9 u1 (-u11) u13 hq14) (cwV 2 hts gX2_takePiece_X2_earn rfl rfl rfl kdX2_earn ⟨Nat.le_of_ble_eq_true rfl, Nat.le_of_ble_eq_true rfl⟩) hK hA hw 0 rfl rfl rfl rfl hl.1 rfl (Nat.le_of_ble_eq_true rfl) dX2_takePiece_41 ⟨Nat.le_of_ble_eq_true rfl, Nat.le_of_ble_eq_true rfl⟩) (fun H locs hw => ?_)
  refine lv_aload_n hx hb dX2_takePiece_44 rfl (lv_at hl 2 rfl) ?_
  refine lv_iconst (v := (0 : Int32)) hx hb dX2_takePiece_45 (by decide) ?_
  obtain ⟨u15, hq16, hF⟩ := zbd_t hF
  refine zgoVw (w' := (zP h r k u15)) hw hA (zVw (As := [.int (0 : Int32)]) (rest := []) ⟨hx, hb, hml, hown, hts⟩ (mX2_endTurn l G k h r H.size u13 (0 : Int32) u15 hq16) (cwV 1 hts gX2_takePiece_X2_endTurn rfl rfl rfl kdX2_endTurn ⟨Nat.le_of_ble_eq_true rfl, Nat.le_of_ble_eq_true rfl⟩) hK hA hw 0 rfl rfl rfl rfl hl.1 rfl (Nat.le_of_ble_eq_true rfl) dX2_takePiece_46 ⟨Nat.le_of_ble_eq_true rfl, Nat.le_of_ble_eq_true rfl⟩) (fun H locs hw => ?_)
  refine lv_aload_n hx hb dX2_takePiece_49 rfl (lv_at hl 2 rfl) ?_
  refine lv_iload_n hx hb dX2_takePiece_50 rfl (lv_at hl 1 rfl) ?_
  obtain ⟨u17, hq18, hF⟩ := zbd_t hF
  refine zgoIw (w' := (zP h r k u15)) hw hA (zVw (As := [.int u1]) (rest := []) ⟨hx, hb, hml, hown, hts⟩ (mX2_coinsOf l G k h r H.size u15 u1 u17 hq18) (cwV 1 hts gX2_takePiece_X2_coinsOf rfl rfl rfl kdX2_coinsOf ⟨Nat.le_of_ble_eq_true rfl, Nat.le_of_ble_eq_true rfl⟩) hK hA hw 0 rfl rfl rfl rfl hl.1 rfl (Nat.le_of_ble_eq_true rfl) dX2_takePiece_51 ⟨Nat.le_of_ble_eq_true rfl, Nat.le_of_ble_eq_true rfl⟩) (fun H locs hw => ?_)
  obtain rfl := Option.some.inj hF
  exact hret _ _ _ _ rfl hw dX2_takePiece_54

/-! SealedBoard$Position.refusal(II)I -/
abbrev rmX2_refusal : Room := { frames := 0, cells := 0, slots := 0, locals := 0 }
theorem kdX2_refusal : yX2_refusal.cls ≠ "java/lang/invoke/MethodHandle" ∧ yX2_refusal.cls ≠ "java/lang/invoke/VarHandle" ∧ (parseMethodDescriptor yX2_refusal.desc).map (fun d => d.parameters.length) = some 2 := by decide +kernel
def fX2_refusal (p0 : Int32) (p1 : Int32) : Option (Int32) := (some (((p0 * (100 : Int32)) + p1)))
set_option maxHeartbeats 400000 in
set_option maxRecDepth 100000 in
theorem mX2_refusal (l : Launch) (G : va_G) (k : Nat → ClassId)  (sz : Nat)  (p0 : Int32) (p1 : Int32) (o : Int32) (hF : fX2_refusal p0 p1 = some o) : zMI l yX2_refusal wsX2_refusal rmX2_refusal G k (zE0 k) sz [.int p0, .int p1] o (zE0 k) := by
  refine zof_I (cc := cX2_refusal) (nL := 2) (own := RX2) (rt := .int) (by decide) rfl rfl (Nat.le_of_ble_eq_true rfl) ?_
  intro p e s m args below meth c A Q C0 hK hA hret ls hl hw
  have hl : lv_has ls 2 [(0, .int p0), (1, .int p1)] := hl
  obtain ⟨hx, hb, hr, hml, hown, hts, hlocks⟩ := id C0
  obtain ⟨H, hH⟩ : ∃ z, z = s.heap := ⟨_, rfl⟩
  rw [← hH] at hw ⊢
  unfold fX2_refusal at hF
  refine lv_iload_n hx hb dX2_refusal_0 rfl (lv_at hl 0 rfl) ?_
  refine lv_bipush (v := (100 : Int32)) hx hb dX2_refusal_1 (by decide) ?_
  refine lv_imul hx hb dX2_refusal_3 ?_
  refine lv_iload_n hx hb dX2_refusal_4 rfl (lv_at hl 1 rfl) ?_
  refine lv_iadd hx hb dX2_refusal_5 ?_
  obtain rfl := Option.some.inj hF
  exact hret _ _ _ _ rfl hw dX2_refusal_6

/-! SealedBoard$Position.refusalOfMove(II)I -/
abbrev rmX2_refusalOfMove : Room := { frames := 3, cells := 0, slots := 0, locals := 82 }
theorem kdX2_refusalOfMove : yX2_refusalOfMove.cls = RX2 ∧ yX2_refusalOfMove.cls ≠ "java/lang/invoke/MethodHandle" ∧ yX2_refusalOfMove.cls ≠ "java/lang/invoke/VarHandle" ∧ (parseMethodDescriptor yX2_refusalOfMove.desc).map (fun d => d.parameters.length) = some 2 := by decide +kernel
def fX2_refusalOfMove (f : Nat → Int64) (p0 : Int32) (p1 : Int32) : Option (Int32) := (zbd (fX2_isOver f) (fun u1 => (if u1 = 0 then (zbd (fX2_mover f) (fun u3 => (zbd (fX2_piecesOf f u3) (fun u5 => (zbd (fX3_has u5 p0) (fun u7 => (if u7 = 0 then (zbd (fX2_refusal (2 : Int32) p0) (fun u15 => (some (u15)))) else (zbd (fX2_targetsOf f p0) (fun u9 => (zbd (fX3_has u9 p1) (fun u11 => (if u11 = 0 then (zbd (fX2_refusal (3 : Int32) p1) (fun u13 => (some (u13)))) else (some ((0 : Int32))))))))))))))) else (zbd (fX2_turns f) (fun u17 => (zbd (fX2_refusal (1 : Int32) u17) (fun u19 => (some (u19)))))))))
set_option maxHeartbeats 400000 in
set_option maxRecDepth 100000 in
theorem mX2_refusalOfMove (l : Launch) (G : va_G) (k : Nat → ClassId) (h : Nat) (r : Nat) (sz : Nat) (f : Nat → Int64) (p0 : Int32) (p1 : Int32) (o : Int32) (hF : fX2_refusalOfMove f p0 p1 = some o) : zMI l yX2_refusalOfMove wsX2_refusalOfMove rmX2_refusalOfMove G k (zP h r k f) sz [.ref h, .int p0, .int p1] o (zP h r k f) := by
  refine zof_I (cc := cX2_refusalOfMove) (nL := 3) (own := RX2) (rt := .int) (by decide) rfl rfl (Nat.le_of_ble_eq_true rfl) ?_
  intro p e s m args below meth c A Q C0 hK hA hret ls hl hw
  have hl : lv_has ls 3 [(0, .ref h), (1, .int p0), (2, .int p1)] := hl
  obtain ⟨hx, hb, hr, hml, hown, hts, hlocks⟩ := id C0
  obtain ⟨H, hH⟩ : ∃ z, z = s.heap := ⟨_, rfl⟩
  rw [← hH] at hw ⊢
  unfold fX2_refusalOfMove at hF
  refine lv_aload_n hx hb dX2_refusalOfMove_0 rfl (lv_at hl 0 rfl) ?_
  obtain ⟨u1, hq2, hF⟩ := zbd_t hF
  refine zgoIw (w' := (zP h r k f)) hw hA (zVw (As := []) (rest := []) ⟨hx, hb, hml, hown, hts⟩ (mX2_isOver l G k h r H.size f  u1 hq2) (cwV 0 hts gX2_refusalOfMove_X2_isOver rfl rfl rfl kdX2_isOver ⟨Nat.le_of_ble_eq_true rfl, Nat.le_of_ble_eq_true rfl⟩) hK hA hw 0 rfl rfl rfl rfl hl.1 rfl (Nat.le_of_ble_eq_true rfl) dX2_refusalOfMove_1 ⟨Nat.le_of_ble_eq_true rfl, Nat.le_of_ble_eq_true rfl⟩) (fun H locs hw => ?_)
  refine lv_if_eq (tgt := 16) hx hb dX2_refusalOfMove_4 (by decide) (fun hc => ?_) (fun hc => ?_)
  · have hF := zif_t hc hF
    refine lv_aload_n hx hb dX2_refusalOfMove_16 rfl (lv_at hl 0 rfl) ?_
    refine lv_aload_n hx hb dX2_refusalOfMove_17 rfl (lv_at hl 0 rfl) ?_
    obtain ⟨u3, hq4, hF⟩ := zbd_t hF
    refine zgoIw (w' := (zP h r k f)) hw hA (zVw (As := []) (rest := [.ref h]) ⟨hx, hb, hml, hown, hts⟩ (mX2_mover l G k h r H.size f  u3 hq4) (cwV 0 hts gX2_refusalOfMove_X2_mover rfl rfl rfl kdX2_mover ⟨Nat.le_of_ble_eq_true rfl, Nat.le_of_ble_eq_true rfl⟩) hK hA hw 0 rfl rfl rfl rfl hl.1 rfl (Nat.le_of_ble_eq_true rfl) dX2_refusalOfMove_18 ⟨Nat.le_of_ble_eq_true rfl, Nat.le_of_ble_eq_true rfl⟩) (fun H locs hw => ?_)
    obtain ⟨u5, hq6, hF⟩ := zbd_t hF
    refine zgoLw (w' := (zP h r k f)) hw hA (zVw (As := [.int u3]) (rest := []) ⟨hx, hb, hml, hown, hts⟩ (mX2_piecesOf l G k h r H.size f u3 u5 hq6) (cwV 1 hts gX2_refusalOfMove_X2_piecesOf rfl rfl rfl kdX2_piecesOf ⟨Nat.le_of_ble_eq_true rfl, Nat.le_of_ble_eq_true rfl⟩) hK hA hw 0 rfl rfl rfl rfl hl.1 rfl (Nat.le_of_ble_eq_true rfl) dX2_refusalOfMove_21 ⟨Nat.le_of_ble_eq_true rfl, Nat.le_of_ble_eq_true rfl⟩) (fun H locs hw => ?_)
    refine lv_iload_n hx hb dX2_refusalOfMove_24 rfl (lv_at hl 1 rfl) ?_
    obtain ⟨u7, hq8, hF⟩ := zbd_t hF
    refine zgoI (w' := (zP h r k f)) hw hA [] rfl (zS (As := [.long u5, .int p0]) (rest := []) ⟨hx, hb, hml, hown, hts⟩ (mX3_has l G k  H.size  u5 p0 u7 hq8) (va_cwS 2 hts gX2_refusalOfMove_X3_has rfl rfl rfl kdX3_has ⟨Nat.le_of_ble_eq_true rfl, Nat.le_of_ble_eq_true rfl⟩) hK hA hw [] rfl (by decide) rfl hl.1 rfl (Nat.le_of_ble_eq_true rfl) dX2_refusalOfMove_25 ⟨Nat.le_of_ble_eq_true rfl, Nat.le_of_ble_eq_true rfl⟩) rfl rfl rfl (fun H locs hw => ?_)
    refine lv_if_ne (tgt := 37) hx hb dX2_refusalOfMove_28 (by decide) (fun hc => ?_) (fun hc => ?_)
    · have hF := zif_f hc hF
      refine lv_aload_n hx hb dX2_refusalOfMove_37 rfl (lv_at hl 0 rfl) ?_
      refine lv_iload_n hx hb dX2_refusalOfMove_38 rfl (lv_at hl 1 rfl) ?_
      obtain ⟨u9, hq10, hF⟩ := zbd_t hF
      refine zgoLw (w' := (zP h r k f)) hw hA (zVw (As := [.int p0]) (rest := []) ⟨hx, hb, hml, hown, hts⟩ (mX2_targetsOf l G k h r H.size f p0 u9 hq10) (cwV 1 hts gX2_refusalOfMove_X2_targetsOf rfl rfl rfl kdX2_targetsOf ⟨Nat.le_of_ble_eq_true rfl, Nat.le_of_ble_eq_true rfl⟩) hK hA hw 0 rfl rfl rfl rfl hl.1 rfl (Nat.le_of_ble_eq_true rfl) dX2_refusalOfMove_39 ⟨Nat.le_of_ble_eq_true rfl, Nat.le_of_ble_eq_true rfl⟩) (fun H locs hw => ?_)
      refine lv_iload_n hx hb dX2_refusalOfMove_42 rfl (lv_at hl 2 rfl) ?_
      obtain ⟨u11, hq12, hF⟩ := zbd_t hF
      refine zgoI (w' := (zP h r k f)) hw hA [] rfl (zS (As := [.long u9, .int p1]) (rest := []) ⟨hx, hb, hml, hown, hts⟩ (mX3_has l G k  H.size  u9 p1 u11 hq12) (va_cwS 2 hts gX2_refusalOfMove_X3_has rfl rfl rfl kdX3_has ⟨Nat.le_of_ble_eq_true rfl, Nat.le_of_ble_eq_true rfl⟩) hK hA hw [] rfl (by decide) rfl hl.1 rfl (Nat.le_of_ble_eq_true rfl) dX2_refusalOfMove_43 ⟨Nat.le_of_ble_eq_true rfl, Nat.le_of_ble_eq_true rfl⟩) rfl rfl rfl (fun H locs hw => ?_)
      refine lv_if_ne (tgt := 55) hx hb dX2_refusalOfMove_46 (by decide) (fun hc => ?_) (fun hc => ?_)
      · have hF := zif_f hc hF
        refine lv_iconst (v := (0 : Int32)) hx hb dX2_refusalOfMove_55 (by decide) ?_
        obtain rfl := Option.some.inj hF
        exact hret _ _ _ _ rfl hw dX2_refusalOfMove_56
      · have hF := zif_t hc hF
        refine lv_iconst (v := (3 : Int32)) hx hb dX2_refusalOfMove_49 (by decide) ?_
        refine lv_iload_n hx hb dX2_refusalOfMove_50 rfl (lv_at hl 2 rfl) ?_
        obtain ⟨u13, hq14, hF⟩ := zbd_t hF
        refine zgoI (w' := (zP h r k f)) hw hA [] rfl (zS (As := [.int (3 : Int32), .int p1]) (rest := []) ⟨hx, hb, hml, hown, hts⟩ (mX2_refusal l G k  H.size  (3 : Int32) p1 u13 hq14) (va_cwS 2 hts gX2_refusalOfMove_X2_refusal rfl rfl rfl kdX2_refusal ⟨Nat.le_of_ble_eq_true rfl, Nat.le_of_ble_eq_true rfl⟩) hK hA hw [] rfl (by decide) rfl hl.1 rfl (Nat.le_of_ble_eq_true rfl) dX2_refusalOfMove_51 ⟨Nat.le_of_ble_eq_true rfl, Nat.le_of_ble_eq_true rfl⟩) rfl rfl rfl (fun H locs hw => ?_)
        obtain rfl := Option.some.inj hF
        exact hret _ _ _ _ rfl hw dX2_refusalOfMove_54
    · have hF := zif_t hc hF
      refine lv_iconst (v := (2 : Int32)) hx hb dX2_refusalOfMove_31 (by decide) ?_
      refine lv_iload_n hx hb dX2_refusalOfMove_32 rfl (lv_at hl 1 rfl) ?_
      obtain ⟨u15, hq16, hF⟩ := zbd_t hF
      refine zgoI (w' := (zP h r k f)) hw hA [] rfl (zS (As := [.int (2 : Int32), .int p0]) (rest := []) ⟨hx, hb, hml, hown, hts⟩ (mX2_refusal l G k  H.size  (2 : Int32) p0 u15 hq16) (va_cwS 2 hts gX2_refusalOfMove_X2_refusal rfl rfl rfl kdX2_refusal ⟨Nat.le_of_ble_eq_true rfl, Nat.le_of_ble_eq_true rfl⟩) hK hA hw [] rfl (by decide) rfl hl.1 rfl (Nat.le_of_ble_eq_true rfl) dX2_refusalOfMove_33 ⟨Nat.le_of_ble_eq_true rfl, Nat.le_of_ble_eq_true rfl⟩) rfl rfl rfl (fun H locs hw => ?_)
      obtain rfl := Option.some.inj hF
      exact hret _ _ _ _ rfl hw dX2_refusalOfMove_36
  · have hF := zif_f hc hF
    refine lv_iconst (v := (1 : Int32)) hx hb dX2_refusalOfMove_7 (by decide) ?_
    refine lv_aload_n hx hb dX2_refusalOfMove_8 rfl (lv_at hl 0 rfl) ?_
    obtain ⟨u17, hq18, hF⟩ := zbd_t hF
    refine zgoIw (w' := (zP h r k f)) hw hA (zVw (As := []) (rest := [.int (1 : Int32)]) ⟨hx, hb, hml, hown, hts⟩ (mX2_turns l G k h r H.size f  u17 hq18) (cwV 0 hts gX2_refusalOfMove_X2_turns rfl rfl rfl kdX2_turns ⟨Nat.le_of_ble_eq_true rfl, Nat.le_of_ble_eq_true rfl⟩) hK hA hw 0 rfl rfl rfl rfl hl.1 rfl (Nat.le_of_ble_eq_true rfl) dX2_refusalOfMove_9 ⟨Nat.le_of_ble_eq_true rfl, Nat.le_of_ble_eq_true rfl⟩) (fun H locs hw => ?_)
    obtain ⟨u19, hq20, hF⟩ := zbd_t hF
    refine zgoI (w' := (zP h r k f)) hw hA [] rfl (zS (As := [.int (1 : Int32), .int u17]) (rest := []) ⟨hx, hb, hml, hown, hts⟩ (mX2_refusal l G k  H.size  (1 : Int32) u17 u19 hq20) (va_cwS 2 hts gX2_refusalOfMove_X2_refusal rfl rfl rfl kdX2_refusal ⟨Nat.le_of_ble_eq_true rfl, Nat.le_of_ble_eq_true rfl⟩) hK hA hw [] rfl (by decide) rfl hl.1 rfl (Nat.le_of_ble_eq_true rfl) dX2_refusalOfMove_12 ⟨Nat.le_of_ble_eq_true rfl, Nat.le_of_ble_eq_true rfl⟩) rfl rfl rfl (fun H locs hw => ?_)
    obtain rfl := Option.some.inj hF
    exact hret _ _ _ _ rfl hw dX2_refusalOfMove_15

/-! SealedBoard$Position.refusalOfPurchase(IZ)I -/
abbrev rmX2_refusalOfPurchase : Room := { frames := 3, cells := 0, slots := 0, locals := 65 }
theorem kdX2_refusalOfPurchase : yX2_refusalOfPurchase.cls = RX2 ∧ yX2_refusalOfPurchase.cls ≠ "java/lang/invoke/MethodHandle" ∧ yX2_refusalOfPurchase.cls ≠ "java/lang/invoke/VarHandle" ∧ (parseMethodDescriptor yX2_refusalOfPurchase.desc).map (fun d => d.parameters.length) = some 2 := by decide +kernel
def fX2_refusalOfPurchase_131  (f : Nat → Int64) (x3 : Int32) (s0 : Int32) : Option (Int32) := (zbd (fX2_coinsOf f x3) (fun u1 => (zbn (s0 - u1) (fun a3 => (if a3 ≤ 0 then (some ((0 : Int32))) else (zbd (fX2_refusal (8 : Int32) a3) (fun u4 => (some (u4)))))))))
def fX2_refusalOfPurchase_118  (f : Nat → Int64) (x1 : Int32) (x2 : Int32) (x3 : Int32) : Option (Int32) := (if x2 = 0 then (fX2_refusalOfPurchase_131  f  x3 (3 : Int32)) else (zbd (fX2_priceOfPiece f x1) (fun u1 => (fX2_refusalOfPurchase_131  f  x3 u1))))
def fX2_refusalOfPurchase_60  (f : Nat → Int64) (x1 : Int32) (x2 : Int32) (x3 : Int32) : Option (Int32) := (zbd (fX3_of x1) (fun u1 => (zbd (fX3_around u1) (fun u3 => (zbd (fX2_piecesOf f x3) (fun u5 => (if (lg_cmp (u3 &&& u5) (0 : Int64)) = 0 then (zbd (fX2_refusal (6 : Int32) x1) (fun u15 => (some (u15)))) else (if x2 = 0 then (fX2_refusalOfPurchase_118  f  x1 x2 x3) else (zbd (fX2_kindOn f x1) (fun u7 => (if u7 = (3 : Int32) then (zbd (fX2_keeperOf f x3) (fun u9 => (if u9 = (-1 : Int32) then (fX2_refusalOfPurchase_118  f  x1 x2 x3) else (zbd (fX2_keeperOf f x3) (fun u11 => (zbd (fX2_refusal (7 : Int32) u11) (fun u13 => (some (u13))))))))) else (fX2_refusalOfPurchase_118  f  x1 x2 x3))))))))))))
def fX2_refusalOfPurchase (f : Nat → Int64) (p0 : Int32) (p1 : Int32) : Option (Int32) := (zbd (fX2_mover f) (fun u1 => (zbd (fX2_isOver f) (fun u3 => (if u3 = 0 then (zbd (fX2_walls f) (fun u5 => (zbd (fX3_has u5 p0) (fun u7 => (if u7 = 0 then (zbd (fX2_refusal (4 : Int32) p0) (fun u15 => (some (u15)))) else (if p1 = 0 then (fX2_refusalOfPurchase_60  f  p0 p1 u1) else (zbd (fX2_memoriesOf f u1) (fun u9 => (zbd (fX3_has u9 p0) (fun u11 => (if u11 = 0 then (zbd (fX2_refusal (5 : Int32) p0) (fun u13 => (some (u13)))) else (fX2_refusalOfPurchase_60  f  p0 p1 u1)))))))))))) else (zbd (fX2_turns f) (fun u17 => (zbd (fX2_refusal (1 : Int32) u17) (fun u19 => (some (u19)))))))))))
set_option maxHeartbeats 400000 in
set_option maxRecDepth 100000 in
theorem wX2_refusalOfPurchase_131 {p : Program} {l : Launch} {e : Env} {s : State} {m : MethodId} {args : Array Value} {below : List Frame} {meth : Method} {c : Code} {A : Nat → Prop} {Q : State → Prop} {G : va_G} {k : Nat → ClassId} {h : Nat} {r : Nat} {f : Nat → Int64} {o : Int32} (C0 : zCx p s m args meth c wsX2_refusalOfPurchase cX2_refusalOfPurchase RX2 (some .int) 6) (hK : zKK G k A s s.heap) (hA : ∀ q : Nat, s.heap.size ≤ q → A q) (hret : zRI p l e rmX2_refusalOfPurchase s m args below meth c cX2_refusalOfPurchase G A 0 0 Q .int (zP h r k f) o)  : ∀ (x3 : Int32) (s0 : Int32), fX2_refusalOfPurchase_131  f x3 s0 = some o → ∀ (H : Heap) (locs : List Loc) (ls : Array Slot), zWd G A s (zP h r k f) H locs → lv_has ls 6 [(0, .ref h), (3, .int x3)] → W p l e rmX2_refusalOfPurchase s m args below meth c H locs 0 0 Q (F0 m 131 ls [.int s0]) := by
  obtain ⟨hx, hb, hr, hml, hown, hts, hlocks⟩ := id C0
  intro x3 s0 hF H locs ls hw hl
  unfold fX2_refusalOfPurchase_131 at hF
  refine lv_istore (lv' := [(4, .int s0), (0, .ref h), (3, .int x3)]) hx hb dX2_refusalOfPurchase_131 hl (by decide) rfl (fun ls hl => ?_)
  refine lv_iload hx hb dX2_refusalOfPurchase_133 (lv_at hl 0 rfl) ?_
  refine lv_aload_n hx hb dX2_refusalOfPurchase_135 rfl (lv_at hl 1 rfl) ?_
  refine lv_iload_n hx hb dX2_refusalOfPurchase_136 rfl (lv_at hl 2 rfl) ?_
  obtain ⟨u1, hq2, hF⟩ := zbd_t hF
  refine zgoIw (w' := (zP h r k f)) hw hA (zVw (As := [.int x3]) (rest := [.int s0]) ⟨hx, hb, hml, hown, hts⟩ (mX2_coinsOf l G k h r H.size f x3 u1 hq2) (cwV 1 hts gX2_refusalOfPurchase_X2_coinsOf rfl rfl rfl kdX2_coinsOf ⟨Nat.le_of_ble_eq_true rfl, Nat.le_of_ble_eq_true rfl⟩) hK hA hw 0 rfl rfl rfl rfl hl.1 rfl (Nat.le_of_ble_eq_true rfl) dX2_refusalOfPurchase_137 ⟨Nat.le_of_ble_eq_true rfl, Nat.le_of_ble_eq_true rfl⟩) (fun H locs hw => ?_)
  refine lv_isub hx hb dX2_refusalOfPurchase_140 ?_
  refine lv_topi (fun a3 ea3 => ?_)
  have hF := zbn_t ea3 hF
  refine lv_istore (lv' := [(5, .int a3), (4, .int s0), (0, .ref h), (3, .int x3)]) hx hb dX2_refusalOfPurchase_141 hl (by decide) rfl (fun ls hl => ?_)
  refine lv_iload hx hb dX2_refusalOfPurchase_143 (lv_at hl 0 rfl) ?_
  refine lv_if_le (tgt := 158) hx hb dX2_refusalOfPurchase_145 (by decide) (fun hc => ?_) (fun hc => ?_)
  · have hF := zif_t hc hF
    refine lv_iconst (v := (0 : Int32)) hx hb dX2_refusalOfPurchase_158 (by decide) ?_
    obtain rfl := Option.some.inj hF
    exact hret _ _ _ _ rfl hw dX2_refusalOfPurchase_159
  · have hF := zif_f hc hF
    refine lv_bipush (v := (8 : Int32)) hx hb dX2_refusalOfPurchase_148 (by decide) ?_
    refine lv_iload hx hb dX2_refusalOfPurchase_150 (lv_at hl 0 rfl) ?_
    obtain ⟨u4, hq5, hF⟩ := zbd_t hF
    refine zgoI (w' := (zP h r k f)) hw hA [] rfl (zS (As := [.int (8 : Int32), .int a3]) (rest := []) ⟨hx, hb, hml, hown, hts⟩ (mX2_refusal l G k  H.size  (8 : Int32) a3 u4 hq5) (va_cwS 2 hts gX2_refusalOfPurchase_X2_refusal rfl rfl rfl kdX2_refusal ⟨Nat.le_of_ble_eq_true rfl, Nat.le_of_ble_eq_true rfl⟩) hK hA hw [] rfl (by decide) rfl hl.1 rfl (Nat.le_of_ble_eq_true rfl) dX2_refusalOfPurchase_152 ⟨Nat.le_of_ble_eq_true rfl, Nat.le_of_ble_eq_true rfl⟩) rfl rfl rfl (fun H locs hw => ?_)
    refine lv_goto (tgt := 159) hx hb dX2_refusalOfPurchase_155 (by decide) ?_
    obtain rfl := Option.some.inj hF
    exact hret _ _ _ _ rfl hw dX2_refusalOfPurchase_159
set_option maxHeartbeats 400000 in
set_option maxRecDepth 100000 in
theorem wX2_refusalOfPurchase_118 {p : Program} {l : Launch} {e : Env} {s : State} {m : MethodId} {args : Array Value} {below : List Frame} {meth : Method} {c : Code} {A : Nat → Prop} {Q : State → Prop} {G : va_G} {k : Nat → ClassId} {h : Nat} {r : Nat} {f : Nat → Int64} {o : Int32} (C0 : zCx p s m args meth c wsX2_refusalOfPurchase cX2_refusalOfPurchase RX2 (some .int) 6) (hK : zKK G k A s s.heap) (hA : ∀ q : Nat, s.heap.size ≤ q → A q) (hret : zRI p l e rmX2_refusalOfPurchase s m args below meth c cX2_refusalOfPurchase G A 0 0 Q .int (zP h r k f) o)  : ∀ (x1 : Int32) (x2 : Int32) (x3 : Int32), fX2_refusalOfPurchase_118  f x1 x2 x3 = some o → ∀ (H : Heap) (locs : List Loc) (ls : Array Slot), zWd G A s (zP h r k f) H locs → lv_has ls 6 [(0, .ref h), (1, .int x1), (2, .int x2), (3, .int x3)] → W p l e rmX2_refusalOfPurchase s m args below meth c H locs 0 0 Q (F0 m 118 ls []) := by
  obtain ⟨hx, hb, hr, hml, hown, hts, hlocks⟩ := id C0
  intro x1 x2 x3 hF H locs ls hw hl
  unfold fX2_refusalOfPurchase_118 at hF
  refine lv_iload_n hx hb dX2_refusalOfPurchase_118 rfl (lv_at hl 2 rfl) ?_
  refine lv_if_eq (tgt := 130) hx hb dX2_refusalOfPurchase_119 (by decide) (fun hc => ?_) (fun hc => ?_)
  · have hF := zif_t hc hF
    refine lv_iconst (v := (3 : Int32)) hx hb dX2_refusalOfPurchase_130 (by decide) ?_
    exact wX2_refusalOfPurchase_131 C0 hK hA hret   _ _ hF _ _ _ hw (lv_sub hl [0, 3] rfl)
  · have hF := zif_f hc hF
    refine lv_aload_n hx hb dX2_refusalOfPurchase_122 rfl (lv_at hl 0 rfl) ?_
    refine lv_iload_n hx hb dX2_refusalOfPurchase_123 rfl (lv_at hl 1 rfl) ?_
    obtain ⟨u1, hq2, hF⟩ := zbd_t hF
    refine zgoIw (w' := (zP h r k f)) hw hA (zVw (As := [.int x1]) (rest := []) ⟨hx, hb, hml, hown, hts⟩ (mX2_priceOfPiece l G k h r H.size f x1 u1 hq2) (cwV 1 hts gX2_refusalOfPurchase_X2_priceOfPiece rfl rfl rfl kdX2_priceOfPiece ⟨Nat.le_of_ble_eq_true rfl, Nat.le_of_ble_eq_true rfl⟩) hK hA hw 0 rfl rfl rfl rfl hl.1 rfl (Nat.le_of_ble_eq_true rfl) dX2_refusalOfPurchase_124 ⟨Nat.le_of_ble_eq_true rfl, Nat.le_of_ble_eq_true rfl⟩) (fun H locs hw => ?_)
    refine lv_goto (tgt := 131) hx hb dX2_refusalOfPurchase_127 (by decide) ?_
    exact wX2_refusalOfPurchase_131 C0 hK hA hret   _ _ hF _ _ _ hw (lv_sub hl [0, 3] rfl)
set_option maxHeartbeats 400000 in
set_option maxRecDepth 100000 in
theorem wX2_refusalOfPurchase_60 {p : Program} {l : Launch} {e : Env} {s : State} {m : MethodId} {args : Array Value} {below : List Frame} {meth : Method} {c : Code} {A : Nat → Prop} {Q : State → Prop} {G : va_G} {k : Nat → ClassId} {h : Nat} {r : Nat} {f : Nat → Int64} {o : Int32} (C0 : zCx p s m args meth c wsX2_refusalOfPurchase cX2_refusalOfPurchase RX2 (some .int) 6) (hK : zKK G k A s s.heap) (hA : ∀ q : Nat, s.heap.size ≤ q → A q) (hret : zRI p l e rmX2_refusalOfPurchase s m args below meth c cX2_refusalOfPurchase G A 0 0 Q .int (zP h r k f) o)  : ∀ (x1 : Int32) (x2 : Int32) (x3 : Int32), fX2_refusalOfPurchase_60  f x1 x2 x3 = some o → ∀ (H : Heap) (locs : List Loc) (ls : Array Slot), zWd G A s (zP h r k f) H locs → lv_has ls 6 [(0, .ref h), (1, .int x1), (2, .int x2), (3, .int x3)] → W p l e rmX2_refusalOfPurchase s m args below meth c H locs 0 0 Q (F0 m 60 ls []) := by
  obtain ⟨hx, hb, hr, hml, hown, hts, hlocks⟩ := id C0
  intro x1 x2 x3 hF H locs ls hw hl
  unfold fX2_refusalOfPurchase_60 at hF
  refine lv_iload_n hx hb dX2_refusalOfPurchase_60 rfl (lv_at hl 1 rfl) ?_
  obtain ⟨u1, hq2, hF⟩ := zbd_t hF
  refine zgoL (w' := (zP h r k f)) hw hA [] rfl (zS (As := [.int x1]) (rest := []) ⟨hx, hb, hml, hown, hts⟩ (mX3_of l G k  H.size  x1 u1 hq2) (va_cwS 1 hts gX2_refusalOfPurchase_X3_of rfl rfl rfl kdX3_of ⟨Nat.le_of_ble_eq_true rfl, Nat.le_of_ble_eq_true rfl⟩) hK hA hw [] rfl (by decide) rfl hl.1 rfl (Nat.le_of_ble_eq_true rfl) dX2_refusalOfPurchase_61 ⟨Nat.le_of_ble_eq_true rfl, Nat.le_of_ble_eq_true rfl⟩) rfl rfl rfl (fun H locs hw => ?_)
  obtain ⟨u3, hq4, hF⟩ := zbd_t hF
  refine zgoL (w' := (zP h r k f)) hw hA [] rfl (zS (As := [.long u1]) (rest := []) ⟨hx, hb, hml, hown, hts⟩ (mX3_around l G k  H.size  u1 u3 hq4) (va_cwS 1 hts gX2_refusalOfPurchase_X3_around rfl rfl rfl kdX3_around ⟨Nat.le_of_ble_eq_true rfl, Nat.le_of_ble_eq_true rfl⟩) hK hA hw [] rfl (by decide) rfl hl.1 rfl (Nat.le_of_ble_eq_true rfl) dX2_refusalOfPurchase_64 ⟨Nat.le_of_ble_eq_true rfl, Nat.le_of_ble_eq_true rfl⟩) rfl rfl rfl (fun H locs hw => ?_)
  refine lv_aload_n hx hb dX2_refusalOfPurchase_67 rfl (lv_at hl 0 rfl) ?_
  refine lv_iload_n hx hb dX2_refusalOfPurchase_68 rfl (lv_at hl 3 rfl) ?_
  obtain ⟨u5, hq6, hF⟩ := zbd_t hF
  refine zgoLw (w' := (zP h r k f)) hw hA (zVw (As := [.int x3]) (rest := [.long u3]) ⟨hx, hb, hml, hown, hts⟩ (mX2_piecesOf l G k h r H.size f x3 u5 hq6) (cwV 1 hts gX2_refusalOfPurchase_X2_piecesOf rfl rfl rfl kdX2_piecesOf ⟨Nat.le_of_ble_eq_true rfl, Nat.le_of_ble_eq_true rfl⟩) hK hA hw 0 rfl rfl rfl rfl hl.1 rfl (Nat.le_of_ble_eq_true rfl) dX2_refusalOfPurchase_69 ⟨Nat.le_of_ble_eq_true rfl, Nat.le_of_ble_eq_true rfl⟩) (fun H locs hw => ?_)
  refine lv_land hx hb dX2_refusalOfPurchase_72 ?_
  refine lv_lconst (v := (0 : Int64)) hx hb dX2_refusalOfPurchase_73 (by decide) ?_
  refine W.lcmp hx hb dX2_refusalOfPurchase_74 ?_
  refine lv_if_ne (tgt := 85) hx hb dX2_refusalOfPurchase_75 (by decide) (fun hc => ?_) (fun hc => ?_)
  · have hF := zif_f hc hF
    refine lv_iload_n hx hb dX2_refusalOfPurchase_85 rfl (lv_at hl 2 rfl) ?_
    refine lv_if_eq (tgt := 118) hx hb dX2_refusalOfPurchase_86 (by decide) (fun hc => ?_) (fun hc => ?_)
    · have hF := zif_t hc hF
      exact wX2_refusalOfPurchase_118 C0 hK hA hret   _ _ _ hF _ _ _ hw (lv_sub hl [0, 1, 2, 3] rfl)
    · have hF := zif_f hc hF
      refine lv_aload_n hx hb dX2_refusalOfPurchase_89 rfl (lv_at hl 0 rfl) ?_
      refine lv_iload_n hx hb dX2_refusalOfPurchase_90 rfl (lv_at hl 1 rfl) ?_
      obtain ⟨u7, hq8, hF⟩ := zbd_t hF
      refine zgoIw (w' := (zP h r k f)) hw hA (zVw (As := [.int x1]) (rest := []) ⟨hx, hb, hml, hown, hts⟩ (mX2_kindOn l G k h r H.size f x1 u7 hq8) (cwV 1 hts gX2_refusalOfPurchase_X2_kindOn rfl rfl rfl kdX2_kindOn ⟨Nat.le_of_ble_eq_true rfl, Nat.le_of_ble_eq_true rfl⟩) hK hA hw 0 rfl rfl rfl rfl hl.1 rfl (Nat.le_of_ble_eq_true rfl) dX2_refusalOfPurchase_91 ⟨Nat.le_of_ble_eq_true rfl, Nat.le_of_ble_eq_true rfl⟩) (fun H locs hw => ?_)
      refine lv_iconst (v := (3 : Int32)) hx hb dX2_refusalOfPurchase_94 (by decide) ?_
      refine lv_icmp_ne (tgt := 118) hx hb dX2_refusalOfPurchase_95 (by decide) (fun hc => ?_) (fun hc => ?_)
      · have hF := zif_f hc hF
        exact wX2_refusalOfPurchase_118 C0 hK hA hret   _ _ _ hF _ _ _ hw (lv_sub hl [0, 1, 2, 3] rfl)
      · have hF := zif_t hc hF
        refine lv_aload_n hx hb dX2_refusalOfPurchase_98 rfl (lv_at hl 0 rfl) ?_
        refine lv_iload_n hx hb dX2_refusalOfPurchase_99 rfl (lv_at hl 3 rfl) ?_
        obtain ⟨u9, hq10, hF⟩ := zbd_t hF
        refine zgoIw (w' := (zP h r k f)) hw hA (zVw (As := [.int x3]) (rest := []) ⟨hx, hb, hml, hown, hts⟩ (mX2_keeperOf l G k h r H.size f x3 u9 hq10) (cwV 1 hts gX2_refusalOfPurchase_X2_keeperOf rfl rfl rfl kdX2_keeperOf ⟨Nat.le_of_ble_eq_true rfl, Nat.le_of_ble_eq_true rfl⟩) hK hA hw 0 rfl rfl rfl rfl hl.1 rfl (Nat.le_of_ble_eq_true rfl) dX2_refusalOfPurchase_100 ⟨Nat.le_of_ble_eq_true rfl, Nat.le_of_ble_eq_true rfl⟩) (fun H locs hw => ?_)
        refine lv_iconst (v := (-1 : Int32)) hx hb dX2_refusalOfPurchase_103 (by decide) ?_
        refine lv_icmp_eq (tgt := 118) hx hb dX2_refusalOfPurchase_104 (by decide) (fun hc => ?_) (fun hc => ?_)
        · have hF := zif_t hc hF
          exact wX2_refusalOfPurchase_118 C0 hK hA hret   _ _ _ hF _ _ _ hw (lv_sub hl [0, 1, 2, 3] rfl)
        · have hF := zif_f hc hF
          refine lv_bipush (v := (7 : Int32)) hx hb dX2_refusalOfPurchase_107 (by decide) ?_
          refine lv_aload_n hx hb dX2_refusalOfPurchase_109 rfl (lv_at hl 0 rfl) ?_
          refine lv_iload_n hx hb dX2_refusalOfPurchase_110 rfl (lv_at hl 3 rfl) ?_
          obtain ⟨u11, hq12, hF⟩ := zbd_t hF
          refine zgoIw (w' := (zP h r k f)) hw hA (zVw (As := [.int x3]) (rest := [.int (7 : Int32)]) ⟨hx, hb, hml, hown, hts⟩ (mX2_keeperOf l G k h r H.size f x3 u11 hq12) (cwV 1 hts gX2_refusalOfPurchase_X2_keeperOf rfl rfl rfl kdX2_keeperOf ⟨Nat.le_of_ble_eq_true rfl, Nat.le_of_ble_eq_true rfl⟩) hK hA hw 0 rfl rfl rfl rfl hl.1 rfl (Nat.le_of_ble_eq_true rfl) dX2_refusalOfPurchase_111 ⟨Nat.le_of_ble_eq_true rfl, Nat.le_of_ble_eq_true rfl⟩) (fun H locs hw => ?_)
          obtain ⟨u13, hq14, hF⟩ := zbd_t hF
          refine zgoI (w' := (zP h r k f)) hw hA [] rfl (zS (As := [.int (7 : Int32), .int u11]) (rest := []) ⟨hx, hb, hml, hown, hts⟩ (mX2_refusal l G k  H.size  (7 : Int32) u11 u13 hq14) (va_cwS 2 hts gX2_refusalOfPurchase_X2_refusal rfl rfl rfl kdX2_refusal ⟨Nat.le_of_ble_eq_true rfl, Nat.le_of_ble_eq_true rfl⟩) hK hA hw [] rfl (by decide) rfl hl.1 rfl (Nat.le_of_ble_eq_true rfl) dX2_refusalOfPurchase_114 ⟨Nat.le_of_ble_eq_true rfl, Nat.le_of_ble_eq_true rfl⟩) rfl rfl rfl (fun H locs hw => ?_)
          obtain rfl := Option.some.inj hF
          exact hret _ _ _ _ rfl hw dX2_refusalOfPurchase_117
  · have hF := zif_t hc hF
    refine lv_bipush (v := (6 : Int32)) hx hb dX2_refusalOfPurchase_78 (by decide) ?_
    refine lv_iload_n hx hb dX2_refusalOfPurchase_80 rfl (lv_at hl 1 rfl) ?_
    obtain ⟨u15, hq16, hF⟩ := zbd_t hF
    refine zgoI (w' := (zP h r k f)) hw hA [] rfl (zS (As := [.int (6 : Int32), .int x1]) (rest := []) ⟨hx, hb, hml, hown, hts⟩ (mX2_refusal l G k  H.size  (6 : Int32) x1 u15 hq16) (va_cwS 2 hts gX2_refusalOfPurchase_X2_refusal rfl rfl rfl kdX2_refusal ⟨Nat.le_of_ble_eq_true rfl, Nat.le_of_ble_eq_true rfl⟩) hK hA hw [] rfl (by decide) rfl hl.1 rfl (Nat.le_of_ble_eq_true rfl) dX2_refusalOfPurchase_81 ⟨Nat.le_of_ble_eq_true rfl, Nat.le_of_ble_eq_true rfl⟩) rfl rfl rfl (fun H locs hw => ?_)
    obtain rfl := Option.some.inj hF
    exact hret _ _ _ _ rfl hw dX2_refusalOfPurchase_84
set_option maxHeartbeats 400000 in
set_option maxRecDepth 100000 in
theorem mX2_refusalOfPurchase (l : Launch) (G : va_G) (k : Nat → ClassId) (h : Nat) (r : Nat) (sz : Nat) (f : Nat → Int64) (p0 : Int32) (p1 : Int32) (o : Int32) (hF : fX2_refusalOfPurchase f p0 p1 = some o) : zMI l yX2_refusalOfPurchase wsX2_refusalOfPurchase rmX2_refusalOfPurchase G k (zP h r k f) sz [.ref h, .int p0, .int p1] o (zP h r k f) := by
  refine zof_I (cc := cX2_refusalOfPurchase) (nL := 6) (own := RX2) (rt := .int) (by decide) rfl rfl (Nat.le_of_ble_eq_true rfl) ?_
  intro p e s m args below meth c A Q C0 hK hA hret ls hl hw
  have hl : lv_has ls 6 [(0, .ref h), (1, .int p0), (2, .int p1)] := hl
  obtain ⟨hx, hb, hr, hml, hown, hts, hlocks⟩ := id C0
  obtain ⟨H, hH⟩ : ∃ z, z = s.heap := ⟨_, rfl⟩
  rw [← hH] at hw ⊢
  unfold fX2_refusalOfPurchase at hF
  refine lv_aload_n hx hb dX2_refusalOfPurchase_0 rfl (lv_at hl 0 rfl) ?_
  obtain ⟨u1, hq2, hF⟩ := zbd_t hF
  refine zgoIw (w' := (zP h r k f)) hw hA (zVw (As := []) (rest := []) ⟨hx, hb, hml, hown, hts⟩ (mX2_mover l G k h r H.size f  u1 hq2) (cwV 0 hts gX2_refusalOfPurchase_X2_mover rfl rfl rfl kdX2_mover ⟨Nat.le_of_ble_eq_true rfl, Nat.le_of_ble_eq_true rfl⟩) hK hA hw 0 rfl rfl rfl rfl hl.1 rfl (Nat.le_of_ble_eq_true rfl) dX2_refusalOfPurchase_1 ⟨Nat.le_of_ble_eq_true rfl, Nat.le_of_ble_eq_true rfl⟩) (fun H locs hw => ?_)
  refine lv_istore_n (lv' := [(3, .int u1), (0, .ref h), (1, .int p0), (2, .int p1)]) hx hb dX2_refusalOfPurchase_4 rfl hl (by decide) rfl (fun ls hl => ?_)
  refine lv_aload_n hx hb dX2_refusalOfPurchase_5 rfl (lv_at hl 1 rfl) ?_
  obtain ⟨u3, hq4, hF⟩ := zbd_t hF
  refine zgoIw (w' := (zP h r k f)) hw hA (zVw (As := []) (rest := []) ⟨hx, hb, hml, hown, hts⟩ (mX2_isOver l G k h r H.size f  u3 hq4) (cwV 0 hts gX2_refusalOfPurchase_X2_isOver rfl rfl rfl kdX2_isOver ⟨Nat.le_of_ble_eq_true rfl, Nat.le_of_ble_eq_true rfl⟩) hK hA hw 0 rfl rfl rfl rfl hl.1 rfl (Nat.le_of_ble_eq_true rfl) dX2_refusalOfPurchase_6 ⟨Nat.le_of_ble_eq_true rfl, Nat.le_of_ble_eq_true rfl⟩) (fun H locs hw => ?_)
  refine lv_if_eq (tgt := 21) hx hb dX2_refusalOfPurchase_9 (by decide) (fun hc => ?_) (fun hc => ?_)
  · have hF := zif_t hc hF
    refine lv_aload_n hx hb dX2_refusalOfPurchase_21 rfl (lv_at hl 1 rfl) ?_
    obtain ⟨u5, hq6, hF⟩ := zbd_t hF
    refine zgoLw (w' := (zP h r k f)) hw hA (zVw (As := []) (rest := []) ⟨hx, hb, hml, hown, hts⟩ (mX2_walls l G k h r H.size f  u5 hq6) (cwV 0 hts gX2_refusalOfPurchase_X2_walls rfl rfl rfl kdX2_walls ⟨Nat.le_of_ble_eq_true rfl, Nat.le_of_ble_eq_true rfl⟩) hK hA hw 0 rfl rfl rfl rfl hl.1 rfl (Nat.le_of_ble_eq_true rfl) dX2_refusalOfPurchase_22 ⟨Nat.le_of_ble_eq_true rfl, Nat.le_of_ble_eq_true rfl⟩) (fun H locs hw => ?_)
    refine lv_iload_n hx hb dX2_refusalOfPurchase_25 rfl (lv_at hl 2 rfl) ?_
    obtain ⟨u7, hq8, hF⟩ := zbd_t hF
    refine zgoI (w' := (zP h r k f)) hw hA [] rfl (zS (As := [.long u5, .int p0]) (rest := []) ⟨hx, hb, hml, hown, hts⟩ (mX3_has l G k  H.size  u5 p0 u7 hq8) (va_cwS 2 hts gX2_refusalOfPurchase_X3_has rfl rfl rfl kdX3_has ⟨Nat.le_of_ble_eq_true rfl, Nat.le_of_ble_eq_true rfl⟩) hK hA hw [] rfl (by decide) rfl hl.1 rfl (Nat.le_of_ble_eq_true rfl) dX2_refusalOfPurchase_26 ⟨Nat.le_of_ble_eq_true rfl, Nat.le_of_ble_eq_true rfl⟩) rfl rfl rfl (fun H locs hw => ?_)
    refine lv_if_ne (tgt := 38) hx hb dX2_refusalOfPurchase_29 (by decide) (fun hc => ?_) (fun hc => ?_)
    · have hF := zif_f hc hF
      refine lv_iload_n hx hb dX2_refusalOfPurchase_38 rfl (lv_at hl 3 rfl) ?_
      refine lv_if_eq (tgt := 60) hx hb dX2_refusalOfPurchase_39 (by decide) (fun hc => ?_) (fun hc => ?_)
      · have hF := zif_t hc hF
        exact wX2_refusalOfPurchase_60 C0 hK hA hret   _ _ _ hF _ _ _ hw (lv_sub hl [1, 2, 3, 0] rfl)
      · have hF := zif_f hc hF
        refine lv_aload_n hx hb dX2_refusalOfPurchase_42 rfl (lv_at hl 1 rfl) ?_
        refine lv_iload_n hx hb dX2_refusalOfPurchase_43 rfl (lv_at hl 0 rfl) ?_
        obtain ⟨u9, hq10, hF⟩ := zbd_t hF
        refine zgoLw (w' := (zP h r k f)) hw hA (zVw (As := [.int u1]) (rest := []) ⟨hx, hb, hml, hown, hts⟩ (mX2_memoriesOf l G k h r H.size f u1 u9 hq10) (cwV 1 hts gX2_refusalOfPurchase_X2_memoriesOf rfl rfl rfl kdX2_memoriesOf ⟨Nat.le_of_ble_eq_true rfl, Nat.le_of_ble_eq_true rfl⟩) hK hA hw 0 rfl rfl rfl rfl hl.1 rfl (Nat.le_of_ble_eq_true rfl) dX2_refusalOfPurchase_44 ⟨Nat.le_of_ble_eq_true rfl, Nat.le_of_ble_eq_true rfl⟩) (fun H locs hw => ?_)
        refine lv_iload_n hx hb dX2_refusalOfPurchase_47 rfl (lv_at hl 2 rfl) ?_
        obtain ⟨u11, hq12, hF⟩ := zbd_t hF
        refine zgoI (w' := (zP h r k f)) hw hA [] rfl (zS (As := [.long u9, .int p0]) (rest := []) ⟨hx, hb, hml, hown, hts⟩ (mX3_has l G k  H.size  u9 p0 u11 hq12) (va_cwS 2 hts gX2_refusalOfPurchase_X3_has rfl rfl rfl kdX3_has ⟨Nat.le_of_ble_eq_true rfl, Nat.le_of_ble_eq_true rfl⟩) hK hA hw [] rfl (by decide) rfl hl.1 rfl (Nat.le_of_ble_eq_true rfl) dX2_refusalOfPurchase_48 ⟨Nat.le_of_ble_eq_true rfl, Nat.le_of_ble_eq_true rfl⟩) rfl rfl rfl (fun H locs hw => ?_)
        refine lv_if_ne (tgt := 60) hx hb dX2_refusalOfPurchase_51 (by decide) (fun hc => ?_) (fun hc => ?_)
        · have hF := zif_f hc hF
          exact wX2_refusalOfPurchase_60 C0 hK hA hret   _ _ _ hF _ _ _ hw (lv_sub hl [1, 2, 3, 0] rfl)
        · have hF := zif_t hc hF
          refine lv_iconst (v := (5 : Int32)) hx hb dX2_refusalOfPurchase_54 (by decide) ?_
          refine lv_iload_n hx hb dX2_refusalOfPurchase_55 rfl (lv_at hl 2 rfl) ?_
          obtain ⟨u13, hq14, hF⟩ := zbd_t hF
          refine zgoI (w' := (zP h r k f)) hw hA [] rfl (zS (As := [.int (5 : Int32), .int p0]) (rest := []) ⟨hx, hb, hml, hown, hts⟩ (mX2_refusal l G k  H.size  (5 : Int32) p0 u13 hq14) (va_cwS 2 hts gX2_refusalOfPurchase_X2_refusal rfl rfl rfl kdX2_refusal ⟨Nat.le_of_ble_eq_true rfl, Nat.le_of_ble_eq_true rfl⟩) hK hA hw [] rfl (by decide) rfl hl.1 rfl (Nat.le_of_ble_eq_true rfl) dX2_refusalOfPurchase_56 ⟨Nat.le_of_ble_eq_true rfl, Nat.le_of_ble_eq_true rfl⟩) rfl rfl rfl (fun H locs hw => ?_)
          obtain rfl := Option.some.inj hF
          exact hret _ _ _ _ rfl hw dX2_refusalOfPurchase_59
    · have hF := zif_t hc hF
      refine lv_iconst (v := (4 : Int32)) hx hb dX2_refusalOfPurchase_32 (by decide) ?_
      refine lv_iload_n hx hb dX2_refusalOfPurchase_33 rfl (lv_at hl 2 rfl) ?_
      obtain ⟨u15, hq16, hF⟩ := zbd_t hF
      refine zgoI (w' := (zP h r k f)) hw hA [] rfl (zS (As := [.int (4 : Int32), .int p0]) (rest := []) ⟨hx, hb, hml, hown, hts⟩ (mX2_refusal l G k  H.size  (4 : Int32) p0 u15 hq16) (va_cwS 2 hts gX2_refusalOfPurchase_X2_refusal rfl rfl rfl kdX2_refusal ⟨Nat.le_of_ble_eq_true rfl, Nat.le_of_ble_eq_true rfl⟩) hK hA hw [] rfl (by decide) rfl hl.1 rfl (Nat.le_of_ble_eq_true rfl) dX2_refusalOfPurchase_34 ⟨Nat.le_of_ble_eq_true rfl, Nat.le_of_ble_eq_true rfl⟩) rfl rfl rfl (fun H locs hw => ?_)
      obtain rfl := Option.some.inj hF
      exact hret _ _ _ _ rfl hw dX2_refusalOfPurchase_37
  · have hF := zif_f hc hF
    refine lv_iconst (v := (1 : Int32)) hx hb dX2_refusalOfPurchase_12 (by decide) ?_
    refine lv_aload_n hx hb dX2_refusalOfPurchase_13 rfl (lv_at hl 1 rfl) ?_
    obtain ⟨u17, hq18, hF⟩ := zbd_t hF
    refine zgoIw (w' := (zP h r k f)) hw hA (zVw (As := []) (rest := [.int (1 : Int32)]) ⟨hx, hb, hml, hown, hts⟩ (mX2_turns l G k h r H.size f  u17 hq18) (cwV 0 hts gX2_refusalOfPurchase_X2_turns rfl rfl rfl kdX2_turns ⟨Nat.le_of_ble_eq_true rfl, Nat.le_of_ble_eq_true rfl⟩) hK hA hw 0 rfl rfl rfl rfl hl.1 rfl (Nat.le_of_ble_eq_true rfl) dX2_refusalOfPurchase_14 ⟨Nat.le_of_ble_eq_true rfl, Nat.le_of_ble_eq_true rfl⟩) (fun H locs hw => ?_)
    obtain ⟨u19, hq20, hF⟩ := zbd_t hF
    refine zgoI (w' := (zP h r k f)) hw hA [] rfl (zS (As := [.int (1 : Int32), .int u17]) (rest := []) ⟨hx, hb, hml, hown, hts⟩ (mX2_refusal l G k  H.size  (1 : Int32) u17 u19 hq20) (va_cwS 2 hts gX2_refusalOfPurchase_X2_refusal rfl rfl rfl kdX2_refusal ⟨Nat.le_of_ble_eq_true rfl, Nat.le_of_ble_eq_true rfl⟩) hK hA hw [] rfl (by decide) rfl hl.1 rfl (Nat.le_of_ble_eq_true rfl) dX2_refusalOfPurchase_17 ⟨Nat.le_of_ble_eq_true rfl, Nat.le_of_ble_eq_true rfl⟩) rfl rfl rfl (fun H locs hw => ?_)
    obtain rfl := Option.some.inj hF
    exact hret _ _ _ _ rfl hw dX2_refusalOfPurchase_20

/-! SealedBoard$Position.countRooms(I)I -/
abbrev rmX2_countRooms : Room := { frames := 3, cells := 0, slots := 0, locals := 78 }
theorem kdX2_countRooms : yX2_countRooms.cls = RX2 ∧ yX2_countRooms.cls ≠ "java/lang/invoke/MethodHandle" ∧ yX2_countRooms.cls ≠ "java/lang/invoke/VarHandle" ∧ (parseMethodDescriptor yX2_countRooms.desc).map (fun d => d.parameters.length) = some 1 := by decide +kernel
def fX2_countRooms_9  (f : Nat → Int64) : Nat → Int64 → Int32 → Option (Int32)
  | 0, _, _ => none
  | n + 1, x2, x4 => (if (lg_cmp x2 (0 : Int64)) = 0 then (some (x4)) else (if (36 : Int32) ≤ x4 then (some (x4)) else (zbd (fX3_lowestRoom x2) (fun u1 => (zbn (x2 &&& (u1 ^^^ (-1 : Int64))) (fun a3 => (zbn (x4 + (1 : Int32)) (fun a4 => (fX2_countRooms_9  f n a3 a4)))))))))
def fX2_countRooms (f : Nat → Int64) (p0 : Int32) : Option (Int32) := (zbd (fX2_openTo f p0) (fun u1 => (fX2_countRooms_9  f zFu u1 (0 : Int32))))
set_option maxHeartbeats 400000 in
set_option maxRecDepth 100000 in
theorem wX2_countRooms_9 {p : Program} {l : Launch} {e : Env} {s : State} {m : MethodId} {args : Array Value} {below : List Frame} {meth : Method} {c : Code} {A : Nat → Prop} {Q : State → Prop} {G : va_G} {k : Nat → ClassId} {h : Nat} {r : Nat} {f : Nat → Int64} {o : Int32} (C0 : zCx p s m args meth c wsX2_countRooms cX2_countRooms RX2 (some .int) 5) (hK : zKK G k A s s.heap) (hA : ∀ q : Nat, s.heap.size ≤ q → A q) (hret : zRI p l e rmX2_countRooms s m args below meth c cX2_countRooms G A 0 0 Q .int (zP h r k f) o)  : ∀ (n : Nat) (x2 : Int64) (x4 : Int32), fX2_countRooms_9  f n x2 x4 = some o → ∀ (H : Heap) (locs : List Loc) (ls : Array Slot), zWd G A s (zP h r k f) H locs → lv_has ls 5 [(2, .long x2), (4, .int x4)] → W p l e rmX2_countRooms s m args below meth c H locs 0 0 Q (F0 m 9 ls []) := by
  obtain ⟨hx, hb, hr, hml, hown, hts, hlocks⟩ := id C0
  intro n
  induction n with
  | zero => intro x2 x4 hF; exact nomatch hF
  | succ n ih =>
    intro x2 x4 hF H locs ls hw hl
    rw [fX2_countRooms_9] at hF
    refine lv_lload_n hx hb dX2_countRooms_9 rfl (lv_at hl 0 rfl) ?_
    refine lv_lconst (v := (0 : Int64)) hx hb dX2_countRooms_10 (by decide) ?_
    refine W.lcmp hx hb dX2_countRooms_11 ?_
    refine lv_if_eq (tgt := 39) hx hb dX2_countRooms_12 (by decide) (fun hc => ?_) (fun hc => ?_)
    · have hF := zif_t hc hF
      refine lv_iload hx hb dX2_countRooms_39 (lv_at hl 1 rfl) ?_
      obtain rfl := Option.some.inj hF
      exact hret _ _ _ _ rfl hw dX2_countRooms_41
    · have hF := zif_f hc hF
      refine lv_iload hx hb dX2_countRooms_15 (lv_at hl 1 rfl) ?_
      refine lv_bipush (v := (36 : Int32)) hx hb dX2_countRooms_17 (by decide) ?_
      refine lv_icmp_ge (tgt := 39) hx hb dX2_countRooms_19 (by decide) (fun hc => ?_) (fun hc => ?_)
      · have hF := zif_t hc hF
        refine lv_iload hx hb dX2_countRooms_39 (lv_at hl 1 rfl) ?_
        obtain rfl := Option.some.inj hF
        exact hret _ _ _ _ rfl hw dX2_countRooms_41
      · have hF := zif_f hc hF
        refine lv_lload_n hx hb dX2_countRooms_22 rfl (lv_at hl 0 rfl) ?_
        refine lv_lload_n hx hb dX2_countRooms_23 rfl (lv_at hl 0 rfl) ?_
        obtain ⟨u1, hq2, hF⟩ := zbd_t hF
        refine zgoL (w' := (zP h r k f)) hw hA [] rfl (zS (As := [.long x2]) (rest := [.long x2]) ⟨hx, hb, hml, hown, hts⟩ (mX3_lowestRoom l G k  H.size  x2 u1 hq2) (va_cwS 1 hts gX2_countRooms_X3_lowestRoom rfl rfl rfl kdX3_lowestRoom ⟨Nat.le_of_ble_eq_true rfl, Nat.le_of_ble_eq_true rfl⟩) hK hA hw [] rfl (by decide) rfl hl.1 rfl (Nat.le_of_ble_eq_true rfl) dX2_countRooms_24 ⟨Nat.le_of_ble_eq_true rfl, Nat.le_of_ble_eq_true rfl⟩) rfl rfl rfl (fun H locs hw => ?_)
        refine lv_ldc2 (v := (-1 : Int64)) hx hb hown (hts (.constantLong RX2 18 (-1)) (by decide +kernel)) dX2_countRooms_27 ?_
        refine lv_lxor hx hb dX2_countRooms_30 ?_
        refine lv_land hx hb dX2_countRooms_31 ?_
        refine lv_topl (fun a3 ea3 => ?_)
        have hF := zbn_t ea3 hF
        refine lv_lstore_n (lv' := [(2, .long a3), (4, .int x4)]) hx hb dX2_countRooms_32 rfl hl (by decide) rfl (fun ls hl => ?_)
        obtain ⟨a4, ea4⟩ : ∃ z : Int32, z = x4 + (1 : Int32) := ⟨_, rfl⟩
        have hF := zbn_t ea4 hF
        refine lv_iinc (v := a4) (lv' := [(4, .int a4), (2, .long a3)]) hx hb dX2_countRooms_33 hl (k := 1) rfl (by rw [ea4]; rfl) (by decide) rfl (fun ls hl => ?_)
        refine lv_goto (tgt := 9) hx hb dX2_countRooms_36 (by decide) ?_
        exact ih _ _ hF _ _ _ hw (lv_sub hl [1, 0] rfl)
set_option maxHeartbeats 400000 in
set_option maxRecDepth 100000 in
theorem mX2_countRooms (l : Launch) (G : va_G) (k : Nat → ClassId) (h : Nat) (r : Nat) (sz : Nat) (f : Nat → Int64) (p0 : Int32) (o : Int32) (hF : fX2_countRooms f p0 = some o) : zMI l yX2_countRooms wsX2_countRooms rmX2_countRooms G k (zP h r k f) sz [.ref h, .int p0] o (zP h r k f) := by
  refine zof_I (cc := cX2_countRooms) (nL := 5) (own := RX2) (rt := .int) (by decide) rfl rfl (Nat.le_of_ble_eq_true rfl) ?_
  intro p e s m args below meth c A Q C0 hK hA hret ls hl hw
  have hl : lv_has ls 5 [(0, .ref h), (1, .int p0)] := hl
  obtain ⟨hx, hb, hr, hml, hown, hts, hlocks⟩ := id C0
  obtain ⟨H, hH⟩ : ∃ z, z = s.heap := ⟨_, rfl⟩
  rw [← hH] at hw ⊢
  unfold fX2_countRooms at hF
  refine lv_aload_n hx hb dX2_countRooms_0 rfl (lv_at hl 0 rfl) ?_
  refine lv_iload_n hx hb dX2_countRooms_1 rfl (lv_at hl 1 rfl) ?_
  obtain ⟨u1, hq2, hF⟩ := zbd_t hF
  refine zgoLw (w' := (zP h r k f)) hw hA (zVw (As := [.int p0]) (rest := []) ⟨hx, hb, hml, hown, hts⟩ (mX2_openTo l G k h r H.size f p0 u1 hq2) (cwV 1 hts gX2_countRooms_X2_openTo rfl rfl rfl kdX2_openTo ⟨Nat.le_of_ble_eq_true rfl, Nat.le_of_ble_eq_true rfl⟩) hK hA hw 0 rfl rfl rfl rfl hl.1 rfl (Nat.le_of_ble_eq_true rfl) dX2_countRooms_2 ⟨Nat.le_of_ble_eq_true rfl, Nat.le_of_ble_eq_true rfl⟩) (fun H locs hw => ?_)
  refine lv_lstore_n (lv' := [(2, .long u1), (0, .ref h), (1, .int p0)]) hx hb dX2_countRooms_5 rfl hl (by decide) rfl (fun ls hl => ?_)
  refine lv_iconst (v := (0 : Int32)) hx hb dX2_countRooms_6 (by decide) ?_
  refine lv_istore (lv' := [(4, .int (0 : Int32)), (2, .long u1), (0, .ref h), (1, .int p0)]) hx hb dX2_countRooms_7 hl (by decide) rfl (fun ls hl => ?_)
  exact wX2_countRooms_9 C0 hK hA hret  zFu _ _ hF _ _ _ hw (lv_sub hl [1, 0] rfl)

/-! SealedBoard$Position.roomNumbered(II)J -/
abbrev rmX2_roomNumbered : Room := { frames := 3, cells := 0, slots := 0, locals := 78 }
theorem kdX2_roomNumbered : yX2_roomNumbered.cls = RX2 ∧ yX2_roomNumbered.cls ≠ "java/lang/invoke/MethodHandle" ∧ yX2_roomNumbered.cls ≠ "java/lang/invoke/VarHandle" ∧ (parseMethodDescriptor yX2_roomNumbered.desc).map (fun d => d.parameters.length) = some 2 := by decide +kernel
def fX2_roomNumbered_38  (f : Nat → Int64) (x2 : Int32) (x3 : Int64) : Option (Int64) := (if 0 ≤ x2 then (zbd (fX3_lowestRoom x3) (fun u1 => (some (u1)))) else (some ((0 : Int64))))
def fX2_roomNumbered_9  (f : Nat → Int64) : Nat → Int32 → Int64 → Int32 → Option (Int64)
  | 0, _, _, _ => none
  | n + 1, x2, x3, x5 => (if x2 ≤ x5 then (fX2_roomNumbered_38  f  x2 x3) else (if (lg_cmp x3 (0 : Int64)) = 0 then (fX2_roomNumbered_38  f  x2 x3) else (zbd (fX3_lowestRoom x3) (fun u1 => (zbn (x3 &&& (u1 ^^^ (-1 : Int64))) (fun a3 => (zbn (x5 + (1 : Int32)) (fun a4 => (fX2_roomNumbered_9  f n x2 a3 a4)))))))))
def fX2_roomNumbered (f : Nat → Int64) (p0 : Int32) (p1 : Int32) : Option (Int64) := (zbd (fX2_openTo f p0) (fun u1 => (fX2_roomNumbered_9  f zFu p1 u1 (0 : Int32))))
set_option maxHeartbeats 400000 in
set_option maxRecDepth 100000 in
theorem wX2_roomNumbered_38 {p : Program} {l : Launch} {e : Env} {s : State} {m : MethodId} {args : Array Value} {below : List Frame} {meth : Method} {c : Code} {A : Nat → Prop} {Q : State → Prop} {G : va_G} {k : Nat → ClassId} {h : Nat} {r : Nat} {f : Nat → Int64} {o : Int64} (C0 : zCx p s m args meth c wsX2_roomNumbered cX2_roomNumbered RX2 (some .long) 6) (hK : zKK G k A s s.heap) (hA : ∀ q : Nat, s.heap.size ≤ q → A q) (hret : zRL p l e rmX2_roomNumbered s m args below meth c cX2_roomNumbered G A 0 0 Q (zP h r k f) o)  : ∀ (x2 : Int32) (x3 : Int64), fX2_roomNumbered_38  f x2 x3 = some o → ∀ (H : Heap) (locs : List Loc) (ls : Array Slot), zWd G A s (zP h r k f) H locs → lv_has ls 6 [(2, .int x2), (3, .long x3)] → W p l e rmX2_roomNumbered s m args below meth c H locs 0 0 Q (F0 m 38 ls []) := by
  obtain ⟨hx, hb, hr, hml, hown, hts, hlocks⟩ := id C0
  intro x2 x3 hF H locs ls hw hl
  unfold fX2_roomNumbered_38 at hF
  refine lv_iload_n hx hb dX2_roomNumbered_38 rfl (lv_at hl 0 rfl) ?_
  refine lv_if_ge (tgt := 46) hx hb dX2_roomNumbered_39 (by decide) (fun hc => ?_) (fun hc => ?_)
  · have hF := zif_t hc hF
    refine lv_lload_n hx hb dX2_roomNumbered_46 rfl (lv_at hl 1 rfl) ?_
    obtain ⟨u1, hq2, hF⟩ := zbd_t hF
    refine zgoL (w' := (zP h r k f)) hw hA [] rfl (zS (As := [.long x3]) (rest := []) ⟨hx, hb, hml, hown, hts⟩ (mX3_lowestRoom l G k  H.size  x3 u1 hq2) (va_cwS 1 hts gX2_roomNumbered_X3_lowestRoom rfl rfl rfl kdX3_lowestRoom ⟨Nat.le_of_ble_eq_true rfl, Nat.le_of_ble_eq_true rfl⟩) hK hA hw [] rfl (by decide) rfl hl.1 rfl (Nat.le_of_ble_eq_true rfl) dX2_roomNumbered_47 ⟨Nat.le_of_ble_eq_true rfl, Nat.le_of_ble_eq_true rfl⟩) rfl rfl rfl (fun H locs hw => ?_)
    obtain rfl := Option.some.inj hF
    exact hret _ _ _ _  hw dX2_roomNumbered_50
  · have hF := zif_f hc hF
    refine lv_lconst (v := (0 : Int64)) hx hb dX2_roomNumbered_42 (by decide) ?_
    refine lv_goto (tgt := 50) hx hb dX2_roomNumbered_43 (by decide) ?_
    obtain rfl := Option.some.inj hF
    exact hret _ _ _ _  hw dX2_roomNumbered_50
set_option maxHeartbeats 400000 in
set_option maxRecDepth 100000 in
theorem wX2_roomNumbered_9 {p : Program} {l : Launch} {e : Env} {s : State} {m : MethodId} {args : Array Value} {below : List Frame} {meth : Method} {c : Code} {A : Nat → Prop} {Q : State → Prop} {G : va_G} {k : Nat → ClassId} {h : Nat} {r : Nat} {f : Nat → Int64} {o : Int64} (C0 : zCx p s m args meth c wsX2_roomNumbered cX2_roomNumbered RX2 (some .long) 6) (hK : zKK G k A s s.heap) (hA : ∀ q : Nat, s.heap.size ≤ q → A q) (hret : zRL p l e rmX2_roomNumbered s m args below meth c cX2_roomNumbered G A 0 0 Q (zP h r k f) o)  : ∀ (n : Nat) (x2 : Int32) (x3 : Int64) (x5 : Int32), fX2_roomNumbered_9  f n x2 x3 x5 = some o → ∀ (H : Heap) (locs : List Loc) (ls : Array Slot), zWd G A s (zP h r k f) H locs → lv_has ls 6 [(2, .int x2), (3, .long x3), (5, .int x5)] → W p l e rmX2_roomNumbered s m args below meth c H locs 0 0 Q (F0 m 9 ls []) := by
  obtain ⟨hx, hb, hr, hml, hown, hts, hlocks⟩ := id C0
  intro n
  induction n with
  | zero => intro x2 x3 x5 hF; exact nomatch hF
  | succ n ih =>
    intro x2 x3 x5 hF H locs ls hw hl
    rw [fX2_roomNumbered_9] at hF
    refine lv_iload hx hb dX2_roomNumbered_9 (lv_at hl 2 rfl) ?_
    refine lv_iload_n hx hb dX2_roomNumbered_11 rfl (lv_at hl 0 rfl) ?_
    refine lv_icmp_ge (tgt := 38) hx hb dX2_roomNumbered_12 (by decide) (fun hc => ?_) (fun hc => ?_)
    · have hF := zif_t hc hF
      exact wX2_roomNumbered_38 C0 hK hA hret   _ _ hF _ _ _ hw (lv_sub hl [0, 1] rfl)
    · have hF := zif_f hc hF
      refine lv_lload_n hx hb dX2_roomNumbered_15 rfl (lv_at hl 1 rfl) ?_
      refine lv_lconst (v := (0 : Int64)) hx hb dX2_roomNumbered_16 (by decide) ?_
      refine W.lcmp hx hb dX2_roomNumbered_17 ?_
      refine lv_if_eq (tgt := 38) hx hb dX2_roomNumbered_18 (by decide) (fun hc => ?_) (fun hc => ?_)
      · have hF := zif_t hc hF
        exact wX2_roomNumbered_38 C0 hK hA hret   _ _ hF _ _ _ hw (lv_sub hl [0, 1] rfl)
      · have hF := zif_f hc hF
        refine lv_lload_n hx hb dX2_roomNumbered_21 rfl (lv_at hl 1 rfl) ?_
        refine lv_lload_n hx hb dX2_roomNumbered_22 rfl (lv_at hl 1 rfl) ?_
        obtain ⟨u1, hq2, hF⟩ := zbd_t hF
        refine zgoL (w' := (zP h r k f)) hw hA [] rfl (zS (As := [.long x3]) (rest := [.long x3]) ⟨hx, hb, hml, hown, hts⟩ (mX3_lowestRoom l G k  H.size  x3 u1 hq2) (va_cwS 1 hts gX2_roomNumbered_X3_lowestRoom rfl rfl rfl kdX3_lowestRoom ⟨Nat.le_of_ble_eq_true rfl, Nat.le_of_ble_eq_true rfl⟩) hK hA hw [] rfl (by decide) rfl hl.1 rfl (Nat.le_of_ble_eq_true rfl) dX2_roomNumbered_23 ⟨Nat.le_of_ble_eq_true rfl, Nat.le_of_ble_eq_true rfl⟩) rfl rfl rfl (fun H locs hw => ?_)
        refine lv_ldc2 (v := (-1 : Int64)) hx hb hown (hts (.constantLong RX2 18 (-1)) (by decide +kernel)) dX2_roomNumbered_26 ?_
        refine lv_lxor hx hb dX2_roomNumbered_29 ?_
        refine lv_land hx hb dX2_roomNumbered_30 ?_
        refine lv_topl (fun a3 ea3 => ?_)
        have hF := zbn_t ea3 hF
        refine lv_lstore_n (lv' := [(3, .long a3), (2, .int x2), (5, .int x5)]) hx hb dX2_roomNumbered_31 rfl hl (by decide) rfl (fun ls hl => ?_)
        obtain ⟨a4, ea4⟩ : ∃ z : Int32, z = x5 + (1 : Int32) := ⟨_, rfl⟩
        have hF := zbn_t ea4 hF
        refine lv_iinc (v := a4) (lv' := [(5, .int a4), (3, .long a3), (2, .int x2)]) hx hb dX2_roomNumbered_32 hl (k := 2) rfl (by rw [ea4]; rfl) (by decide) rfl (fun ls hl => ?_)
        refine lv_goto (tgt := 9) hx hb dX2_roomNumbered_35 (by decide) ?_
        exact ih _ _ _ hF _ _ _ hw (lv_sub hl [2, 1, 0] rfl)
set_option maxHeartbeats 400000 in
set_option maxRecDepth 100000 in
theorem mX2_roomNumbered (l : Launch) (G : va_G) (k : Nat → ClassId) (h : Nat) (r : Nat) (sz : Nat) (f : Nat → Int64) (p0 : Int32) (p1 : Int32) (o : Int64) (hF : fX2_roomNumbered f p0 p1 = some o) : zML l yX2_roomNumbered wsX2_roomNumbered rmX2_roomNumbered G k (zP h r k f) sz [.ref h, .int p0, .int p1] o (zP h r k f) := by
  refine zof_L (cc := cX2_roomNumbered) (nL := 6) (own := RX2) (by decide) rfl rfl (Nat.le_of_ble_eq_true rfl) ?_
  intro p e s m args below meth c A Q C0 hK hA hret ls hl hw
  have hl : lv_has ls 6 [(0, .ref h), (1, .int p0), (2, .int p1)] := hl
  obtain ⟨hx, hb, hr, hml, hown, hts, hlocks⟩ := id C0
  obtain ⟨H, hH⟩ : ∃ z, z = s.heap := ⟨_, rfl⟩
  rw [← hH] at hw ⊢
  unfold fX2_roomNumbered at hF
  refine lv_aload_n hx hb dX2_roomNumbered_0 rfl (lv_at hl 0 rfl) ?_
  refine lv_iload_n hx hb dX2_roomNumbered_1 rfl (lv_at hl 1 rfl) ?_
  obtain ⟨u1, hq2, hF⟩ := zbd_t hF
  refine zgoLw (w' := (zP h r k f)) hw hA (zVw (As := [.int p0]) (rest := []) ⟨hx, hb, hml, hown, hts⟩ (mX2_openTo l G k h r H.size f p0 u1 hq2) (cwV 1 hts gX2_roomNumbered_X2_openTo rfl rfl rfl kdX2_openTo ⟨Nat.le_of_ble_eq_true rfl, Nat.le_of_ble_eq_true rfl⟩) hK hA hw 0 rfl rfl rfl rfl hl.1 rfl (Nat.le_of_ble_eq_true rfl) dX2_roomNumbered_2 ⟨Nat.le_of_ble_eq_true rfl, Nat.le_of_ble_eq_true rfl⟩) (fun H locs hw => ?_)
  refine lv_lstore_n (lv' := [(3, .long u1), (0, .ref h), (1, .int p0), (2, .int p1)]) hx hb dX2_roomNumbered_5 rfl hl (by decide) rfl (fun ls hl => ?_)
  refine lv_iconst (v := (0 : Int32)) hx hb dX2_roomNumbered_6 (by decide) ?_
  refine lv_istore (lv' := [(5, .int (0 : Int32)), (3, .long u1), (0, .ref h), (1, .int p0), (2, .int p1)]) hx hb dX2_roomNumbered_7 hl (by decide) rfl (fun ls hl => ?_)
  exact wX2_roomNumbered_9 C0 hK hA hret  zFu _ _ _ hF _ _ _ hw (lv_sub hl [4, 1, 0] rfl)

/-! SealedBoard$Position.roomNumberOf(II)I -/
abbrev rmX2_roomNumberOf : Room := { frames := 3, cells := 0, slots := 0, locals := 78 }
theorem kdX2_roomNumberOf : yX2_roomNumberOf.cls = RX2 ∧ yX2_roomNumberOf.cls ≠ "java/lang/invoke/MethodHandle" ∧ yX2_roomNumberOf.cls ≠ "java/lang/invoke/VarHandle" ∧ (parseMethodDescriptor yX2_roomNumberOf.desc).map (fun d => d.parameters.length) = some 2 := by decide +kernel
def fX2_roomNumberOf_9  (f : Nat → Int64) : Nat → Int32 → Int64 → Int32 → Option (Int32)
  | 0, _, _, _ => none
  | n + 1, x2, x3, x5 => (if (36 : Int32) ≤ x5 then (some ((-1 : Int32))) else (zbd (fX3_has x3 x2) (fun u1 => (if u1 = 0 then (some ((-1 : Int32))) else (zbd (fX3_lowestRoom x3) (fun u3 => (zbn (x3 &&& (u3 ^^^ (-1 : Int64))) (fun a5 => (zbd (fX3_has a5 x2) (fun u6 => (if u6 = 0 then (some (x5)) else (zbn (x5 + (1 : Int32)) (fun a8 => (fX2_roomNumberOf_9  f n x2 a5 a8))))))))))))))
def fX2_roomNumberOf (f : Nat → Int64) (p0 : Int32) (p1 : Int32) : Option (Int32) := (zbd (fX2_openTo f p0) (fun u1 => (fX2_roomNumberOf_9  f zFu p1 u1 (0 : Int32))))
set_option maxHeartbeats 400000 in
set_option maxRecDepth 100000 in
theorem wX2_roomNumberOf_9 {p : Program} {l : Launch} {e : Env} {s : State} {m : MethodId} {args : Array Value} {below : List Frame} {meth : Method} {c : Code} {A : Nat → Prop} {Q : State → Prop} {G : va_G} {k : Nat → ClassId} {h : Nat} {r : Nat} {f : Nat → Int64} {o : Int32} (C0 : zCx p s m args meth c wsX2_roomNumberOf cX2_roomNumberOf RX2 (some .int) 6) (hK : zKK G k A s s.heap) (hA : ∀ q : Nat, s.heap.size ≤ q → A q) (hret : zRI p l e rmX2_roomNumberOf s m args below meth c cX2_roomNumberOf G A 0 0 Q .int (zP h r k f) o)  : ∀ (n : Nat) (x2 : Int32) (x3 : Int64) (x5 : Int32), fX2_roomNumberOf_9  f n x2 x3 x5 = some o → ∀ (H : Heap) (locs : List Loc) (ls : Array Slot), zWd G A s (zP h r k f) H locs → lv_has ls 6 [(2, .int x2), (3, .long x3), (5, .int x5)] → W p l e rmX2_roomNumberOf s m args below meth c H locs 0 0 Q (F0 m 9 ls []) := by
  obtain ⟨hx, hb, hr, hml, hown, hts, hlocks⟩ := id C0
  intro n
  induction n with
  | zero => intro x2 x3 x5 hF; exact nomatch hF
  | succ n ih =>
    intro x2 x3 x5 hF H locs ls hw hl
    rw [fX2_roomNumberOf_9] at hF
    refine lv_iload hx hb dX2_roomNumberOf_9 (lv_at hl 2 rfl) ?_
    refine lv_bipush (v := (36 : Int32)) hx hb dX2_roomNumberOf_11 (by decide) ?_
    refine lv_icmp_ge (tgt := 52) hx hb dX2_roomNumberOf_13 (by decide) (fun hc => ?_) (fun hc => ?_)
    · have hF := zif_t hc hF
      refine lv_iconst (v := (-1 : Int32)) hx hb dX2_roomNumberOf_52 (by decide) ?_
      obtain rfl := Option.some.inj hF
      exact hret _ _ _ _ rfl hw dX2_roomNumberOf_53
    · have hF := zif_f hc hF
      refine lv_lload_n hx hb dX2_roomNumberOf_16 rfl (lv_at hl 1 rfl) ?_
      refine lv_iload_n hx hb dX2_roomNumberOf_17 rfl (lv_at hl 0 rfl) ?_
      obtain ⟨u1, hq2, hF⟩ := zbd_t hF
      refine zgoI (w' := (zP h r k f)) hw hA [] rfl (zS (As := [.long x3, .int x2]) (rest := []) ⟨hx, hb, hml, hown, hts⟩ (mX3_has l G k  H.size  x3 x2 u1 hq2) (va_cwS 2 hts gX2_roomNumberOf_X3_has rfl rfl rfl kdX3_has ⟨Nat.le_of_ble_eq_true rfl, Nat.le_of_ble_eq_true rfl⟩) hK hA hw [] rfl (by decide) rfl hl.1 rfl (Nat.le_of_ble_eq_true rfl) dX2_roomNumberOf_18 ⟨Nat.le_of_ble_eq_true rfl, Nat.le_of_ble_eq_true rfl⟩) rfl rfl rfl (fun H locs hw => ?_)
      refine lv_if_eq (tgt := 52) hx hb dX2_roomNumberOf_21 (by decide) (fun hc => ?_) (fun hc => ?_)
      · have hF := zif_t hc hF
        refine lv_iconst (v := (-1 : Int32)) hx hb dX2_roomNumberOf_52 (by decide) ?_
        obtain rfl := Option.some.inj hF
        exact hret _ _ _ _ rfl hw dX2_roomNumberOf_53
      · have hF := zif_f hc hF
        refine lv_lload_n hx hb dX2_roomNumberOf_24 rfl (lv_at hl 1 rfl) ?_
        refine lv_lload_n hx hb dX2_roomNumberOf_25 rfl (lv_at hl 1 rfl) ?_
        obtain ⟨u3, hq4, hF⟩ := zbd_t hF
        refine zgoL (w' := (zP h r k f)) hw hA [] rfl (zS (As := [.long x3]) (rest := [.long x3]) ⟨hx, hb, hml, hown, hts⟩ (mX3_lowestRoom l G k  H.size  x3 u3 hq4) (va_cwS 1 hts gX2_roomNumberOf_X3_lowestRoom rfl rfl rfl kdX3_lowestRoom ⟨Nat.le_of_ble_eq_true rfl, Nat.le_of_ble_eq_true rfl⟩) hK hA hw [] rfl (by decide) rfl hl.1 rfl (Nat.le_of_ble_eq_true rfl) dX2_roomNumberOf_26 ⟨Nat.le_of_ble_eq_true rfl, Nat.le_of_ble_eq_true rfl⟩) rfl rfl rfl (fun H locs hw => ?_)
        refine lv_ldc2 (v := (-1 : Int64)) hx hb hown (hts (.constantLong RX2 18 (-1)) (by decide +kernel)) dX2_roomNumberOf_29 ?_
        refine lv_lxor hx hb dX2_roomNumberOf_32 ?_
        refine lv_land hx hb dX2_roomNumberOf_33 ?_
        refine lv_topl (fun a5 ea5 => ?_)
        have hF := zbn_t ea5 hF
        refine lv_lstore_n (lv' := [(3, .long a5), (2, .int x2), (5, .int x5)]) hx hb dX2_roomNumberOf_34 rfl hl (by decide) rfl (fun ls hl => ?_)
        refine lv_lload_n hx hb dX2_roomNumberOf_35 rfl (lv_at hl 0 rfl) ?_
        refine lv_iload_n hx hb dX2_roomNumberOf_36 rfl (lv_at hl 1 rfl) ?_
        obtain ⟨u6, hq7, hF⟩ := zbd_t hF
        refine zgoI (w' := (zP h r k f)) hw hA [] rfl (zS (As := [.long a5, .int x2]) (rest := []) ⟨hx, hb, hml, hown, hts⟩ (mX3_has l G k  H.size  a5 x2 u6 hq7) (va_cwS 2 hts gX2_roomNumberOf_X3_has rfl rfl rfl kdX3_has ⟨Nat.le_of_ble_eq_true rfl, Nat.le_of_ble_eq_true rfl⟩) hK hA hw [] rfl (by decide) rfl hl.1 rfl (Nat.le_of_ble_eq_true rfl) dX2_roomNumberOf_37 ⟨Nat.le_of_ble_eq_true rfl, Nat.le_of_ble_eq_true rfl⟩) rfl rfl rfl (fun H locs hw => ?_)
        refine lv_if_ne (tgt := 46) hx hb dX2_roomNumberOf_40 (by decide) (fun hc => ?_) (fun hc => ?_)
        · have hF := zif_f hc hF
          obtain ⟨a8, ea8⟩ : ∃ z : Int32, z = x5 + (1 : Int32) := ⟨_, rfl⟩
          have hF := zbn_t ea8 hF
          refine lv_iinc (v := a8) (lv' := [(5, .int a8), (3, .long a5), (2, .int x2)]) hx hb dX2_roomNumberOf_46 hl (k := 2) rfl (by rw [ea8]; rfl) (by decide) rfl (fun ls hl => ?_)
          refine lv_goto (tgt := 9) hx hb dX2_roomNumberOf_49 (by decide) ?_
          exact ih _ _ _ hF _ _ _ hw (lv_sub hl [2, 1, 0] rfl)
        · have hF := zif_t hc hF
          refine lv_iload hx hb dX2_roomNumberOf_43 (lv_at hl 2 rfl) ?_
          obtain rfl := Option.some.inj hF
          exact hret _ _ _ _ rfl hw dX2_roomNumberOf_45
set_option maxHeartbeats 400000 in
set_option maxRecDepth 100000 in
theorem mX2_roomNumberOf (l : Launch) (G : va_G) (k : Nat → ClassId) (h : Nat) (r : Nat) (sz : Nat) (f : Nat → Int64) (p0 : Int32) (p1 : Int32) (o : Int32) (hF : fX2_roomNumberOf f p0 p1 = some o) : zMI l yX2_roomNumberOf wsX2_roomNumberOf rmX2_roomNumberOf G k (zP h r k f) sz [.ref h, .int p0, .int p1] o (zP h r k f) := by
  refine zof_I (cc := cX2_roomNumberOf) (nL := 6) (own := RX2) (rt := .int) (by decide) rfl rfl (Nat.le_of_ble_eq_true rfl) ?_
  intro p e s m args below meth c A Q C0 hK hA hret ls hl hw
  have hl : lv_has ls 6 [(0, .ref h), (1, .int p0), (2, .int p1)] := hl
  obtain ⟨hx, hb, hr, hml, hown, hts, hlocks⟩ := id C0
  obtain ⟨H, hH⟩ : ∃ z, z = s.heap := ⟨_, rfl⟩
  rw [← hH] at hw ⊢
  unfold fX2_roomNumberOf at hF
  refine lv_aload_n hx hb dX2_roomNumberOf_0 rfl (lv_at hl 0 rfl) ?_
  refine lv_iload_n hx hb dX2_roomNumberOf_1 rfl (lv_at hl 1 rfl) ?_
  obtain ⟨u1, hq2, hF⟩ := zbd_t hF
  refine zgoLw (w' := (zP h r k f)) hw hA (zVw (As := [.int p0]) (rest := []) ⟨hx, hb, hml, hown, hts⟩ (mX2_openTo l G k h r H.size f p0 u1 hq2) (cwV 1 hts gX2_roomNumberOf_X2_openTo rfl rfl rfl kdX2_openTo ⟨Nat.le_of_ble_eq_true rfl, Nat.le_of_ble_eq_true rfl⟩) hK hA hw 0 rfl rfl rfl rfl hl.1 rfl (Nat.le_of_ble_eq_true rfl) dX2_roomNumberOf_2 ⟨Nat.le_of_ble_eq_true rfl, Nat.le_of_ble_eq_true rfl⟩) (fun H locs hw => ?_)
  refine lv_lstore_n (lv' := [(3, .long u1), (0, .ref h), (1, .int p0), (2, .int p1)]) hx hb dX2_roomNumberOf_5 rfl hl (by decide) rfl (fun ls hl => ?_)
  refine lv_iconst (v := (0 : Int32)) hx hb dX2_roomNumberOf_6 (by decide) ?_
  refine lv_istore (lv' := [(5, .int (0 : Int32)), (3, .long u1), (0, .ref h), (1, .int p0), (2, .int p1)]) hx hb dX2_roomNumberOf_7 hl (by decide) rfl (fun ls hl => ?_)
  exact wX2_roomNumberOf_9 C0 hK hA hret  zFu _ _ _ hF _ _ _ hw (lv_sub hl [4, 1, 0] rfl)

/-! SealedBoard$Position.countSealedByRooms(I)I -/
abbrev rmX2_countSealedByRooms : Room := { frames := 3, cells := 0, slots := 0, locals := 78 }
theorem kdX2_countSealedByRooms : yX2_countSealedByRooms.cls = RX2 ∧ yX2_countSealedByRooms.cls ≠ "java/lang/invoke/MethodHandle" ∧ yX2_countSealedByRooms.cls ≠ "java/lang/invoke/VarHandle" ∧ (parseMethodDescriptor yX2_countSealedByRooms.desc).map (fun d => d.parameters.length) = some 1 := by decide +kernel
def fX2_countSealedByRooms_54 (k12 : Int32 → Int64 → Int32 → Int32 → Option (Int32)) (f : Nat → Int64) (x1 : Int32) (x2 : Int64) (x4 : Int32) (x5 : Int32) (x6 : Int64) : Option (Int32) := (zbn (x2 &&& (x6 ^^^ (-1 : Int64))) (fun a1 => (zbn (x5 + (1 : Int32)) (fun a2 => (k12 x1 a1 x4 a2)))))
def fX2_countSealedByRooms_12  (f : Nat → Int64) : Nat → Int32 → Int64 → Int32 → Int32 → Option (Int32)
  | 0, _, _, _, _ => none
  | n + 1, x1, x2, x4, x5 => (if (36 : Int32) ≤ x5 then (some (x4)) else (if (lg_cmp x2 (0 : Int64)) = 0 then (some (x4)) else (zbd (fX3_lowestRoom x2) (fun u1 => (zbd (fX2_piecesOf f x1) (fun u3 => (if (lg_cmp (u1 &&& u3) (0 : Int64)) = 0 then (zbd (fX3_size u1) (fun u5 => (zbn (x4 + u5) (fun a7 => (fX2_countSealedByRooms_54 (fun b0 b1 b2 b3 => fX2_countSealedByRooms_12  f n b0 b1 b2 b3) f  x1 x2 a7 x5 u1))))) else (fX2_countSealedByRooms_54 (fun b0 b1 b2 b3 => fX2_countSealedByRooms_12  f n b0 b1 b2 b3) f  x1 x2 x4 x5 u1))))))))
def fX2_countSealedByRooms (f : Nat → Int64) (p0 : Int32) : Option (Int32) := (zbd (fX2_openTo f p0) (fun u1 => (fX2_countSealedByRooms_12  f zFu p0 u1 (0 : Int32) (0 : Int32))))
set_option maxHeartbeats 400000 in
set_option maxRecDepth 100000 in
theorem wX2_countSealedByRooms_54 {p : Program} {l : Launch} {e : Env} {s : State} {m : MethodId} {args : Array Value} {below : List Frame} {meth : Method} {c : Code} {A : Nat → Prop} {Q : State → Prop} {G : va_G} {k : Nat → ClassId} {h : Nat} {r : Nat} {f : Nat → Int64} {o : Int32} (C0 : zCx p s m args meth c wsX2_countSealedByRooms cX2_countSealedByRooms RX2 (some .int) 8) (hK : zKK G k A s s.heap) (hA : ∀ q : Nat, s.heap.size ≤ q → A q) (hret : zRI p l e rmX2_countSealedByRooms s m args below meth c cX2_countSealedByRooms G A 0 0 Q .int (zP h r k f) o) (k12 : Int32 → Int64 → Int32 → Int32 → Option (Int32)) (hk12 : ∀ (x1 : Int32) (x2 : Int64) (x4 : Int32) (x5 : Int32), k12 x1 x2 x4 x5 = some o → ∀ (H : Heap) (locs : List Loc) (ls : Array Slot), zWd G A s (zP h r k f) H locs → lv_has ls 8 [(0, .ref h), (1, .int x1), (2, .long x2), (4, .int x4), (5, .int x5)] → W p l e rmX2_countSealedByRooms s m args below meth c H locs 0 0 Q (F0 m 12 ls [])) : ∀ (x1 : Int32) (x2 : Int64) (x4 : Int32) (x5 : Int32) (x6 : Int64), fX2_countSealedByRooms_54 k12 f x1 x2 x4 x5 x6 = some o → ∀ (H : Heap) (locs : List Loc) (ls : Array Slot), zWd G A s (zP h r k f) H locs → lv_has ls 8 [(0, .ref h), (1, .int x1), (2, .long x2), (4, .int x4), (5, .int x5), (6, .long x6)] → W p l e rmX2_countSealedByRooms s m args below meth c H locs 0 0 Q (F0 m 54 ls []) := by
  obtain ⟨hx, hb, hr, hml, hown, hts, hlocks⟩ := id C0
  intro x1 x2 x4 x5 x6 hF H locs ls hw hl
  unfold fX2_countSealedByRooms_54 at hF
  refine lv_lload_n hx hb dX2_countSealedByRooms_54 rfl (lv_at hl 2 rfl) ?_
  refine lv_lload hx hb dX2_countSealedByRooms_55 (lv_at hl 5 rfl) ?_
  refine lv_ldc2 (v := (-1 : Int64)) hx hb hown (hts (.constantLong RX2 18 (-1)) (by decide +kernel)) dX2_countSealedByRooms_57 ?_
  refine lv_lxor hx hb dX2_countSealedByRooms_60 ?_
  refine lv_land hx hb dX2_countSealedByRooms_61 ?_
  refine lv_topl (fun a1 ea1 => ?_)
  have hF := zbn_t ea1 hF
  refine lv_lstore_n (lv' := [(2, .long a1), (0, .ref h), (1, .int x1), (4, .int x4), (5, .int x5), (6, .long x6)]) hx hb dX2_countSealedByRooms_62 rfl hl (by decide) rfl (fun ls hl => ?_)
  obtain ⟨a2, ea2⟩ : ∃ z : Int32, z = x5 + (1 : Int32) := ⟨_, rfl⟩
  have hF := zbn_t ea2 hF
  refine lv_iinc (v := a2) (lv' := [(5, .int a2), (2, .long a1), (0, .ref h), (1, .int x1), (4, .int x4), (6, .long x6)]) hx hb dX2_countSealedByRooms_63 hl (k := 4) rfl (by rw [ea2]; rfl) (by decide) rfl (fun ls hl => ?_)
  refine lv_goto (tgt := 12) hx hb dX2_countSealedByRooms_66 (by decide) ?_
  exact hk12 _ _ _ _ hF _ _ _ hw (lv_sub hl [2, 3, 1, 4, 0] rfl)
set_option maxHeartbeats 400000 in
set_option maxRecDepth 100000 in
theorem wX2_countSealedByRooms_12 {p : Program} {l : Launch} {e : Env} {s : State} {m : MethodId} {args : Array Value} {below : List Frame} {meth : Method} {c : Code} {A : Nat → Prop} {Q : State → Prop} {G : va_G} {k : Nat → ClassId} {h : Nat} {r : Nat} {f : Nat → Int64} {o : Int32} (C0 : zCx p s m args meth c wsX2_countSealedByRooms cX2_countSealedByRooms RX2 (some .int) 8) (hK : zKK G k A s s.heap) (hA : ∀ q : Nat, s.heap.size ≤ q → A q) (hret : zRI p l e rmX2_countSealedByRooms s m args below meth c cX2_countSealedByRooms G A 0 0 Q .int (zP h r k f) o)  : ∀ (n : Nat) (x1 : Int32) (x2 : Int64) (x4 : Int32) (x5 : Int32), fX2_countSealedByRooms_12  f n x1 x2 x4 x5 = some o → ∀ (H : Heap) (locs : List Loc) (ls : Array Slot), zWd G A s (zP h r k f) H locs → lv_has ls 8 [(0, .ref h), (1, .int x1), (2, .long x2), (4, .int x4), (5, .int x5)] → W p l e rmX2_countSealedByRooms s m args below meth c H locs 0 0 Q (F0 m 12 ls []) := by
  obtain ⟨hx, hb, hr, hml, hown, hts, hlocks⟩ := id C0
  intro n
  induction n with
  | zero => intro x1 x2 x4 x5 hF; exact nomatch hF
  | succ n ih =>
    intro x1 x2 x4 x5 hF H locs ls hw hl
    rw [fX2_countSealedByRooms_12] at hF
    refine lv_iload hx hb dX2_countSealedByRooms_12 (lv_at hl 4 rfl) ?_
    refine lv_bipush (v := (36 : Int32)) hx hb dX2_countSealedByRooms_14 (by decide) ?_
    refine lv_icmp_ge (tgt := 69) hx hb dX2_countSealedByRooms_16 (by decide) (fun hc => ?_) (fun hc => ?_)
    · have hF := zif_t hc hF
      refine lv_iload hx hb dX2_countSealedByRooms_69 (lv_at hl 3 rfl) ?_
      obtain rfl := Option.some.inj hF
      exact hret _ _ _ _ rfl hw dX2_countSealedByRooms_71
    · have hF := zif_f hc hF
      refine lv_lload_n hx hb dX2_countSealedByRooms_19 rfl (lv_at hl 2 rfl) ?_
      refine lv_lconst (v := (0 : Int64)) hx hb dX2_countSealedByRooms_20 (by decide) ?_
      refine W.lcmp hx hb dX2_countSealedByRooms_21 ?_
      refine lv_if_eq (tgt := 69) hx hb dX2_countSealedByRooms_22 (by decide) (fun hc => ?_) (fun hc => ?_)
      · have hF := zif_t hc hF
        refine lv_iload hx hb dX2_countSealedByRooms_69 (lv_at hl 3 rfl) ?_
        obtain rfl := Option.some.inj hF
        exact hret _ _ _ _ rfl hw dX2_countSealedByRooms_71
      · have hF := zif_f hc hF
        refine lv_lload_n hx hb dX2_countSealedByRooms_25 rfl (lv_at hl 2 rfl) ?_
        obtain ⟨u1, hq2, hF⟩ := zbd_t hF
        refine zgoL (w' := (zP h r k f)) hw hA [] rfl (zS (As := [.long x2]) (rest := []) ⟨hx, hb, hml, hown, hts⟩ (mX3_lowestRoom l G k  H.size  x2 u1 hq2) (va_cwS 1 hts gX2_countSealedByRooms_X3_lowestRoom rfl rfl rfl kdX3_lowestRoom ⟨Nat.le_of_ble_eq_true rfl, Nat.le_of_ble_eq_true rfl⟩) hK hA hw [] rfl (by decide) rfl hl.1 rfl (Nat.le_of_ble_eq_true rfl) dX2_countSealedByRooms_26 ⟨Nat.le_of_ble_eq_true rfl, Nat.le_of_ble_eq_true rfl⟩) rfl rfl rfl (fun H locs hw => ?_)
        refine lv_lstore (lv' := [(6, .long u1), (0, .ref h), (1, .int x1), (2, .long x2), (4, .int x4), (5, .int x5)]) hx hb dX2_countSealedByRooms_29 hl (by decide) rfl (fun ls hl => ?_)
        refine lv_lload hx hb dX2_countSealedByRooms_31 (lv_at hl 0 rfl) ?_
        refine lv_aload_n hx hb dX2_countSealedByRooms_33 rfl (lv_at hl 1 rfl) ?_
        refine lv_iload_n hx hb dX2_countSealedByRooms_34 rfl (lv_at hl 2 rfl) ?_
        obtain ⟨u3, hq4, hF⟩ := zbd_t hF
        refine zgoLw (w' := (zP h r k f)) hw hA (zVw (As := [.int x1]) (rest := [.long u1]) ⟨hx, hb, hml, hown, hts⟩ (mX2_piecesOf l G k h r H.size f x1 u3 hq4) (cwV 1 hts gX2_countSealedByRooms_X2_piecesOf rfl rfl rfl kdX2_piecesOf ⟨Nat.le_of_ble_eq_true rfl, Nat.le_of_ble_eq_true rfl⟩) hK hA hw 0 rfl rfl rfl rfl hl.1 rfl (Nat.le_of_ble_eq_true rfl) dX2_countSealedByRooms_35 ⟨Nat.le_of_ble_eq_true rfl, Nat.le_of_ble_eq_true rfl⟩) (fun H locs hw => ?_)
        refine lv_land hx hb dX2_countSealedByRooms_38 ?_
        refine lv_lconst (v := (0 : Int64)) hx hb dX2_countSealedByRooms_39 (by decide) ?_
        refine W.lcmp hx hb dX2_countSealedByRooms_40 ?_
        refine lv_if_ne (tgt := 54) hx hb dX2_countSealedByRooms_41 (by decide) (fun hc => ?_) (fun hc => ?_)
        · have hF := zif_f hc hF
          exact wX2_countSealedByRooms_54 C0 hK hA hret (fun b0 b1 b2 b3 => fX2_countSealedByRooms_12  f n b0 b1 b2 b3) ih  _ _ _ _ _ hF _ _ _ hw (lv_sub hl [1, 2, 3, 4, 5, 0] rfl)
        · have hF := zif_t hc hF
          refine lv_iload hx hb dX2_countSealedByRooms_44 (lv_at hl 4 rfl) ?_
          refine lv_lload hx hb dX2_countSealedByRooms_46 (lv_at hl 0 rfl) ?_
          obtain ⟨u5, hq6, hF⟩ := zbd_t hF
          refine zgoI (w' := (zP h r k f)) hw hA [] rfl (zS (As := [.long u1]) (rest := [.int x4]) ⟨hx, hb, hml, hown, hts⟩ (mX3_size l G k  H.size  u1 u5 hq6) (va_cwS 1 hts gX2_countSealedByRooms_X3_size rfl rfl rfl kdX3_size ⟨Nat.le_of_ble_eq_true rfl, Nat.le_of_ble_eq_true rfl⟩) hK hA hw [] rfl (by decide) rfl hl.1 rfl (Nat.le_of_ble_eq_true rfl) dX2_countSealedByRooms_48 ⟨Nat.le_of_ble_eq_true rfl, Nat.le_of_ble_eq_true rfl⟩) rfl rfl rfl (fun H locs hw => ?_)
          refine lv_iadd hx hb dX2_countSealedByRooms_51 ?_
          refine lv_topi (fun a7 ea7 => ?_)
          have hF := zbn_t ea7 hF
          refine lv_istore (lv' := [(4, .int a7), (6, .long u1), (0, .ref h), (1, .int x1), (2, .long x2), (5, .int x5)]) hx hb dX2_countSealedByRooms_52 hl (by decide) rfl (fun ls hl => ?_)
          exact wX2_countSealedByRooms_54 C0 hK hA hret (fun b0 b1 b2 b3 => fX2_countSealedByRooms_12  f n b0 b1 b2 b3) ih  _ _ _ _ _ hF _ _ _ hw (lv_sub hl [2, 3, 4, 0, 5, 1] rfl)
set_option maxHeartbeats 400000 in
set_option maxRecDepth 100000 in
theorem mX2_countSealedByRooms (l : Launch) (G : va_G) (k : Nat → ClassId) (h : Nat) (r : Nat) (sz : Nat) (f : Nat → Int64) (p0 : Int32) (o : Int32) (hF : fX2_countSealedByRooms f p0 = some o) : zMI l yX2_countSealedByRooms wsX2_countSealedByRooms rmX2_countSealedByRooms G k (zP h r k f) sz [.ref h, .int p0] o (zP h r k f) := by
  refine zof_I (cc := cX2_countSealedByRooms) (nL := 8) (own := RX2) (rt := .int) (by decide) rfl rfl (Nat.le_of_ble_eq_true rfl) ?_
  intro p e s m args below meth c A Q C0 hK hA hret ls hl hw
  have hl : lv_has ls 8 [(0, .ref h), (1, .int p0)] := hl
  obtain ⟨hx, hb, hr, hml, hown, hts, hlocks⟩ := id C0
  obtain ⟨H, hH⟩ : ∃ z, z = s.heap := ⟨_, rfl⟩
  rw [← hH] at hw ⊢
  unfold fX2_countSealedByRooms at hF
  refine lv_aload_n hx hb dX2_countSealedByRooms_0 rfl (lv_at hl 0 rfl) ?_
  refine lv_iload_n hx hb dX2_countSealedByRooms_1 rfl (lv_at hl 1 rfl) ?_
  obtain ⟨u1, hq2, hF⟩ := zbd_t hF
  refine zgoLw (w' := (zP h r k f)) hw hA (zVw (As := [.int p0]) (rest := []) ⟨hx, hb, hml, hown, hts⟩ (mX2_openTo l G k h r H.size f p0 u1 hq2) (cwV 1 hts gX2_countSealedByRooms_X2_openTo rfl rfl rfl kdX2_openTo ⟨Nat.le_of_ble_eq_true rfl, Nat.le_of_ble_eq_true rfl⟩) hK hA hw 0 rfl rfl rfl rfl hl.1 rfl (Nat.le_of_ble_eq_true rfl) dX2_countSealedByRooms_2 ⟨Nat.le_of_ble_eq_true rfl, Nat.le_of_ble_eq_true rfl⟩) (fun H locs hw => ?_)
  refine lv_lstore_n (lv' := [(2, .long u1), (0, .ref h), (1, .int p0)]) hx hb dX2_countSealedByRooms_5 rfl hl (by decide) rfl (fun ls hl => ?_)
  refine lv_iconst (v := (0 : Int32)) hx hb dX2_countSealedByRooms_6 (by decide) ?_
  refine lv_istore (lv' := [(4, .int (0 : Int32)), (2, .long u1), (0, .ref h), (1, .int p0)]) hx hb dX2_countSealedByRooms_7 hl (by decide) rfl (fun ls hl => ?_)
  refine lv_iconst (v := (0 : Int32)) hx hb dX2_countSealedByRooms_9 (by decide) ?_
  refine lv_istore (lv' := [(5, .int (0 : Int32)), (4, .int (0 : Int32)), (2, .long u1), (0, .ref h), (1, .int p0)]) hx hb dX2_countSealedByRooms_10 hl (by decide) rfl (fun ls hl => ?_)
  exact wX2_countSealedByRooms_12 C0 hK hA hret  zFu _ _ _ _ hF _ _ _ hw (lv_sub hl [3, 4, 2, 1, 0] rfl)

/-! SealedBoard$Position.countSealedByReach(I)I -/
abbrev rmX2_countSealedByReach : Room := { frames := 2, cells := 0, slots := 0, locals := 57 }
theorem kdX2_countSealedByReach : yX2_countSealedByReach.cls = RX2 ∧ yX2_countSealedByReach.cls ≠ "java/lang/invoke/MethodHandle" ∧ yX2_countSealedByReach.cls ≠ "java/lang/invoke/VarHandle" ∧ (parseMethodDescriptor yX2_countSealedByReach.desc).map (fun d => d.parameters.length) = some 1 := by decide +kernel
def fX2_countSealedByReach (f : Nat → Int64) (p0 : Int32) : Option (Int32) := (zbd (fX2_openTo f p0) (fun u1 => (zbd (fX2_piecesOf f p0) (fun u3 => (zbd (fX3_reached u3 u1) (fun u5 => (zbd (fX3_size (u1 &&& (u5 ^^^ (-1 : Int64)))) (fun u7 => (some (u7))))))))))
set_option maxHeartbeats 400000 in
set_option maxRecDepth 100000 in
theorem mX2_countSealedByReach (l : Launch) (G : va_G) (k : Nat → ClassId) (h : Nat) (r : Nat) (sz : Nat) (f : Nat → Int64) (p0 : Int32) (o : Int32) (hF : fX2_countSealedByReach f p0 = some o) : zMI l yX2_countSealedByReach wsX2_countSealedByReach rmX2_countSealedByReach G k (zP h r k f) sz [.ref h, .int p0] o (zP h r k f) := by
  refine zof_I (cc := cX2_countSealedByReach) (nL := 4) (own := RX2) (rt := .int) (by decide) rfl rfl (Nat.le_of_ble_eq_true rfl) ?_
  intro p e s m args below meth c A Q C0 hK hA hret ls hl hw
  have hl : lv_has ls 4 [(0, .ref h), (1, .int p0)] := hl
  obtain ⟨hx, hb, hr, hml, hown, hts, hlocks⟩ := id C0
  obtain ⟨H, hH⟩ : ∃ z, z = s.heap := ⟨_, rfl⟩
  rw [← hH] at hw ⊢
  unfold fX2_countSealedByReach at hF
  refine lv_aload_n hx hb dX2_countSealedByReach_0 rfl (lv_at hl 0 rfl) ?_
  refine lv_iload_n hx hb dX2_countSealedByReach_1 rfl (lv_at hl 1 rfl) ?_
  obtain ⟨u1, hq2, hF⟩ := zbd_t hF
  refine zgoLw (w' := (zP h r k f)) hw hA (zVw (As := [.int p0]) (rest := []) ⟨hx, hb, hml, hown, hts⟩ (mX2_openTo l G k h r H.size f p0 u1 hq2) (cwV 1 hts gX2_countSealedByReach_X2_openTo rfl rfl rfl kdX2_openTo ⟨Nat.le_of_ble_eq_true rfl, Nat.le_of_ble_eq_true rfl⟩) hK hA hw 0 rfl rfl rfl rfl hl.1 rfl (Nat.le_of_ble_eq_true rfl) dX2_countSealedByReach_2 ⟨Nat.le_of_ble_eq_true rfl, Nat.le_of_ble_eq_true rfl⟩) (fun H locs hw => ?_)
  refine lv_lstore_n (lv' := [(2, .long u1), (0, .ref h), (1, .int p0)]) hx hb dX2_countSealedByReach_5 rfl hl (by decide) rfl (fun ls hl => ?_)
  refine lv_lload_n hx hb dX2_countSealedByReach_6 rfl (lv_at hl 0 rfl) ?_
  refine lv_aload_n hx hb dX2_countSealedByReach_7 rfl (lv_at hl 1 rfl) ?_
  refine lv_iload_n hx hb dX2_countSealedByReach_8 rfl (lv_at hl 2 rfl) ?_
  obtain ⟨u3, hq4, hF⟩ := zbd_t hF
  refine zgoLw (w' := (zP h r k f)) hw hA (zVw (As := [.int p0]) (rest := [.long u1]) ⟨hx, hb, hml, hown, hts⟩ (mX2_piecesOf l G k h r H.size f p0 u3 hq4) (cwV 1 hts gX2_countSealedByReach_X2_piecesOf rfl rfl rfl kdX2_piecesOf ⟨Nat.le_of_ble_eq_true rfl, Nat.le_of_ble_eq_true rfl⟩) hK hA hw 0 rfl rfl rfl rfl hl.1 rfl (Nat.le_of_ble_eq_true rfl) dX2_countSealedByReach_9 ⟨Nat.le_of_ble_eq_true rfl, Nat.le_of_ble_eq_true rfl⟩) (fun H locs hw => ?_)
  refine lv_lload_n hx hb dX2_countSealedByReach_12 rfl (lv_at hl 0 rfl) ?_
  obtain ⟨u5, hq6, hF⟩ := zbd_t hF
  refine zgoL (w' := (zP h r k f)) hw hA [] rfl (zS (As := [.long u3, .long u1]) (rest := [.long u1]) ⟨hx, hb, hml, hown, hts⟩ (mX3_reached l G k  H.size  u3 u1 u5 hq6) (va_cwS 2 hts gX2_countSealedByReach_X3_reached rfl rfl rfl kdX3_reached ⟨Nat.le_of_ble_eq_true rfl, Nat.le_of_ble_eq_true rfl⟩) hK hA hw [] rfl (by decide) rfl hl.1 rfl (Nat.le_of_ble_eq_true rfl) dX2_countSealedByReach_13 ⟨Nat.le_of_ble_eq_true rfl, Nat.le_of_ble_eq_true rfl⟩) rfl rfl rfl (fun H locs hw => ?_)
  refine lv_ldc2 (v := (-1 : Int64)) hx hb hown (hts (.constantLong RX2 18 (-1)) (by decide +kernel)) dX2_countSealedByReach_16 ?_
  refine lv_lxor hx hb dX2_countSealedByReach_19 ?_
  refine lv_land hx hb dX2_countSealedByReach_20 ?_
  obtain ⟨u7, hq8, hF⟩ := zbd_t hF
  refine zgoI (w' := (zP h r k f)) hw hA [] rfl (zS (As := [.long (u1 &&& (u5 ^^^ (-1 : Int64)))]) (rest := []) ⟨hx, hb, hml, hown, hts⟩ (mX3_size l G k  H.size  (u1 &&& (u5 ^^^ (-1 : Int64))) u7 hq8) (va_cwS 1 hts gX2_countSealedByReach_X3_size rfl rfl rfl kdX3_size ⟨Nat.le_of_ble_eq_true rfl, Nat.le_of_ble_eq_true rfl⟩) hK hA hw [] rfl (by decide) rfl hl.1 rfl (Nat.le_of_ble_eq_true rfl) dX2_countSealedByReach_21 ⟨Nat.le_of_ble_eq_true rfl, Nat.le_of_ble_eq_true rfl⟩) rfl rfl rfl (fun H locs hw => ?_)
  obtain rfl := Option.some.inj hF
  exact hret _ _ _ _ rfl hw dX2_countSealedByReach_24

/-! SealedBoard$Position.countStepsTo(II)I -/
abbrev rmX2_countStepsTo : Room := { frames := 1, cells := 0, slots := 0, locals := 29 }
theorem kdX2_countStepsTo : yX2_countStepsTo.cls = RX2 ∧ yX2_countStepsTo.cls ≠ "java/lang/invoke/MethodHandle" ∧ yX2_countStepsTo.cls ≠ "java/lang/invoke/VarHandle" ∧ (parseMethodDescriptor yX2_countStepsTo.desc).map (fun d => d.parameters.length) = some 2 := by decide +kernel
def fX2_countStepsTo_18  (f : Nat → Int64) : Nat → Int32 → Int64 → Int64 → Int32 → Option (Int32)
  | 0, _, _, _, _ => none
  | n + 1, x2, x3, x5, x7 => (if (36 : Int32) ≤ x7 then (some ((-1 : Int32))) else (zbd (fX3_has x5 x2) (fun u1 => (if u1 = 0 then (zbd (fX3_around x5) (fun u3 => (zbn (x5 ||| (u3 &&& x3)) (fun a5 => (zbn (x7 + (1 : Int32)) (fun a6 => (fX2_countStepsTo_18  f n x2 x3 a5 a6))))))) else (some (x7))))))
def fX2_countStepsTo (f : Nat → Int64) (p0 : Int32) (p1 : Int32) : Option (Int32) := (zbd (fX2_openTo f p0) (fun u1 => (zbd (fX2_piecesOf f p0) (fun u3 => (zbn (u3 &&& u1) (fun a5 => (fX2_countStepsTo_18  f zFu p1 u1 a5 (0 : Int32))))))))
set_option maxHeartbeats 400000 in
set_option maxRecDepth 100000 in
theorem wX2_countStepsTo_18 {p : Program} {l : Launch} {e : Env} {s : State} {m : MethodId} {args : Array Value} {below : List Frame} {meth : Method} {c : Code} {A : Nat → Prop} {Q : State → Prop} {G : va_G} {k : Nat → ClassId} {h : Nat} {r : Nat} {f : Nat → Int64} {o : Int32} (C0 : zCx p s m args meth c wsX2_countStepsTo cX2_countStepsTo RX2 (some .int) 8) (hK : zKK G k A s s.heap) (hA : ∀ q : Nat, s.heap.size ≤ q → A q) (hret : zRI p l e rmX2_countStepsTo s m args below meth c cX2_countStepsTo G A 0 0 Q .int (zP h r k f) o)  : ∀ (n : Nat) (x2 : Int32) (x3 : Int64) (x5 : Int64) (x7 : Int32), fX2_countStepsTo_18  f n x2 x3 x5 x7 = some o → ∀ (H : Heap) (locs : List Loc) (ls : Array Slot), zWd G A s (zP h r k f) H locs → lv_has ls 8 [(2, .int x2), (3, .long x3), (5, .long x5), (7, .int x7)] → W p l e rmX2_countStepsTo s m args below meth c H locs 0 0 Q (F0 m 18 ls []) := by
  obtain ⟨hx, hb, hr, hml, hown, hts, hlocks⟩ := id C0
  intro n
  induction n with
  | zero => intro x2 x3 x5 x7 hF; exact nomatch hF
  | succ n ih =>
    intro x2 x3 x5 x7 hF H locs ls hw hl
    rw [fX2_countStepsTo_18] at hF
    refine lv_iload hx hb dX2_countStepsTo_18 (lv_at hl 3 rfl) ?_
    refine lv_bipush (v := (36 : Int32)) hx hb dX2_countStepsTo_20 (by decide) ?_
    refine lv_icmp_ge (tgt := 55) hx hb dX2_countStepsTo_22 (by decide) (fun hc => ?_) (fun hc => ?_)
    · have hF := zif_t hc hF
      refine lv_iconst (v := (-1 : Int32)) hx hb dX2_countStepsTo_55 (by decide) ?_
      obtain rfl := Option.some.inj hF
      exact hret _ _ _ _ rfl hw dX2_countStepsTo_56
    · have hF := zif_f hc hF
      refine lv_lload hx hb dX2_countStepsTo_25 (lv_at hl 2 rfl) ?_
      refine lv_iload_n hx hb dX2_countStepsTo_27 rfl (lv_at hl 0 rfl) ?_
      obtain ⟨u1, hq2, hF⟩ := zbd_t hF
      refine zgoI (w' := (zP h r k f)) hw hA [] rfl (zS (As := [.long x5, .int x2]) (rest := []) ⟨hx, hb, hml, hown, hts⟩ (mX3_has l G k  H.size  x5 x2 u1 hq2) (va_cwS 2 hts gX2_countStepsTo_X3_has rfl rfl rfl kdX3_has ⟨Nat.le_of_ble_eq_true rfl, Nat.le_of_ble_eq_true rfl⟩) hK hA hw [] rfl (by decide) rfl hl.1 rfl (Nat.le_of_ble_eq_true rfl) dX2_countStepsTo_28 ⟨Nat.le_of_ble_eq_true rfl, Nat.le_of_ble_eq_true rfl⟩) rfl rfl rfl (fun H locs hw => ?_)
      refine lv_if_eq (tgt := 37) hx hb dX2_countStepsTo_31 (by decide) (fun hc => ?_) (fun hc => ?_)
      · have hF := zif_t hc hF
        refine lv_lload hx hb dX2_countStepsTo_37 (lv_at hl 2 rfl) ?_
        refine lv_lload hx hb dX2_countStepsTo_39 (lv_at hl 2 rfl) ?_
        obtain ⟨u3, hq4, hF⟩ := zbd_t hF
        refine zgoL (w' := (zP h r k f)) hw hA [] rfl (zS (As := [.long x5]) (rest := [.long x5]) ⟨hx, hb, hml, hown, hts⟩ (mX3_around l G k  H.size  x5 u3 hq4) (va_cwS 1 hts gX2_countStepsTo_X3_around rfl rfl rfl kdX3_around ⟨Nat.le_of_ble_eq_true rfl, Nat.le_of_ble_eq_true rfl⟩) hK hA hw [] rfl (by decide) rfl hl.1 rfl (Nat.le_of_ble_eq_true rfl) dX2_countStepsTo_41 ⟨Nat.le_of_ble_eq_true rfl, Nat.le_of_ble_eq_true rfl⟩) rfl rfl rfl (fun H locs hw => ?_)
        refine lv_lload_n hx hb dX2_countStepsTo_44 rfl (lv_at hl 1 rfl) ?_
        refine lv_land hx hb dX2_countStepsTo_45 ?_
        refine lv_lor hx hb dX2_countStepsTo_46 ?_
        refine lv_topl (fun a5 ea5 => ?_)
        have hF := zbn_t ea5 hF
        refine lv_lstore (lv' := [(5, .long a5), (2, .int x2), (3, .long x3), (7, .int x7)]) hx hb dX2_countStepsTo_47 hl (by decide) rfl (fun ls hl => ?_)
        obtain ⟨a6, ea6⟩ : ∃ z : Int32, z = x7 + (1 : Int32) := ⟨_, rfl⟩
        have hF := zbn_t ea6 hF
        refine lv_iinc (v := a6) (lv' := [(7, .int a6), (5, .long a5), (2, .int x2), (3, .long x3)]) hx hb dX2_countStepsTo_49 hl (k := 3) rfl (by rw [ea6]; rfl) (by decide) rfl (fun ls hl => ?_)
        refine lv_goto (tgt := 18) hx hb dX2_countStepsTo_52 (by decide) ?_
        exact ih _ _ _ _ hF _ _ _ hw (lv_sub hl [2, 3, 1, 0] rfl)
      · have hF := zif_f hc hF
        refine lv_iload hx hb dX2_countStepsTo_34 (lv_at hl 3 rfl) ?_
        obtain rfl := Option.some.inj hF
        exact hret _ _ _ _ rfl hw dX2_countStepsTo_36
set_option maxHeartbeats 400000 in
set_option maxRecDepth 100000 in
theorem mX2_countStepsTo (l : Launch) (G : va_G) (k : Nat → ClassId) (h : Nat) (r : Nat) (sz : Nat) (f : Nat → Int64) (p0 : Int32) (p1 : Int32) (o : Int32) (hF : fX2_countStepsTo f p0 p1 = some o) : zMI l yX2_countStepsTo wsX2_countStepsTo rmX2_countStepsTo G k (zP h r k f) sz [.ref h, .int p0, .int p1] o (zP h r k f) := by
  refine zof_I (cc := cX2_countStepsTo) (nL := 8) (own := RX2) (rt := .int) (by decide) rfl rfl (Nat.le_of_ble_eq_true rfl) ?_
  intro p e s m args below meth c A Q C0 hK hA hret ls hl hw
  have hl : lv_has ls 8 [(0, .ref h), (1, .int p0), (2, .int p1)] := hl
  obtain ⟨hx, hb, hr, hml, hown, hts, hlocks⟩ := id C0
  obtain ⟨H, hH⟩ : ∃ z, z = s.heap := ⟨_, rfl⟩
  rw [← hH] at hw ⊢
  unfold fX2_countStepsTo at hF
  refine lv_aload_n hx hb dX2_countStepsTo_0 rfl (lv_at hl 0 rfl) ?_
  refine lv_iload_n hx hb dX2_countStepsTo_1 rfl (lv_at hl 1 rfl) ?_
  obtain ⟨u1, hq2, hF⟩ := zbd_t hF
  refine zgoLw (w' := (zP h r k f)) hw hA (zVw (As := [.int p0]) (rest := []) ⟨hx, hb, hml, hown, hts⟩ (mX2_openTo l G k h r H.size f p0 u1 hq2) (cwV 1 hts gX2_countStepsTo_X2_openTo rfl rfl rfl kdX2_openTo ⟨Nat.le_of_ble_eq_true rfl, Nat.le_of_ble_eq_true rfl⟩) hK hA hw 0 rfl rfl rfl rfl hl.1 rfl (Nat.le_of_ble_eq_true rfl) dX2_countStepsTo_2 ⟨Nat.le_of_ble_eq_true rfl, Nat.le_of_ble_eq_true rfl⟩) (fun H locs hw => ?_)
  refine lv_lstore_n (lv' := [(3, .long u1), (0, .ref h), (1, .int p0), (2, .int p1)]) hx hb dX2_countStepsTo_5 rfl hl (by decide) rfl (fun ls hl => ?_)
  refine lv_aload_n hx hb dX2_countStepsTo_6 rfl (lv_at hl 1 rfl) ?_
  refine lv_iload_n hx hb dX2_countStepsTo_7 rfl (lv_at hl 2 rfl) ?_
  obtain ⟨u3, hq4, hF⟩ := zbd_t hF
  refine zgoLw (w' := (zP h r k f)) hw hA (zVw (As := [.int p0]) (rest := []) ⟨hx, hb, hml, hown, hts⟩ (mX2_piecesOf l G k h r H.size f p0 u3 hq4) (cwV 1 hts gX2_countStepsTo_X2_piecesOf rfl rfl rfl kdX2_piecesOf ⟨Nat.le_of_ble_eq_true rfl, Nat.le_of_ble_eq_true rfl⟩) hK hA hw 0 rfl rfl rfl rfl hl.1 rfl (Nat.le_of_ble_eq_true rfl) dX2_countStepsTo_8 ⟨Nat.le_of_ble_eq_true rfl, Nat.le_of_ble_eq_true rfl⟩) (fun H locs hw => ?_)
  refine lv_lload_n hx hb dX2_countStepsTo_11 rfl (lv_at hl 0 rfl) ?_
  refine lv_land hx hb dX2_countStepsTo_12 ?_
  refine lv_topl (fun a5 ea5 => ?_)
  have hF := zbn_t ea5 hF
  refine lv_lstore (lv' := [(5, .long a5), (3, .long u1), (0, .ref h), (1, .int p0), (2, .int p1)]) hx hb dX2_countStepsTo_13 hl (by decide) rfl (fun ls hl => ?_)
  refine lv_iconst (v := (0 : Int32)) hx hb dX2_countStepsTo_15 (by decide) ?_
  refine lv_istore (lv' := [(7, .int (0 : Int32)), (5, .long a5), (3, .long u1), (0, .ref h), (1, .int p0), (2, .int p1)]) hx hb dX2_countStepsTo_16 hl (by decide) rfl (fun ls hl => ?_)
  exact wX2_countStepsTo_18 C0 hK hA hret  zFu _ _ _ _ hF _ _ _ hw (lv_sub hl [5, 2, 1, 0] rfl)

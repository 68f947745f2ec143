/-! SealedBoard.requirePiece(I)V -/
abbrev rmX4_requirePiece : Room := { frames := 6, cells := 1, slots := 6, locals := 82 }
theorem naX4_requirePiece_5 : ∀ w ∈ (vx_atS RX4 169 "java/util/NoSuchElementException" zNm).filter goodWord, w ∈ wsX4_requirePiece := by decide +kernel
theorem kdX4_requirePiece : yX4_requirePiece.cls = RX4 ∧ yX4_requirePiece.cls ≠ "java/lang/invoke/MethodHandle" ∧ yX4_requirePiece.cls ≠ "java/lang/invoke/VarHandle" ∧ (parseMethodDescriptor yX4_requirePiece.desc).map (fun d => d.parameters.length) = some 1 := by decide +kernel
theorem inX4_requirePiece_X4 : ∀ w ∈ u_ws RX4 TX4 8, w ∈ wsX4_requirePiece := by decide +kernel
def fX4_requirePiece (fb : Nat → Int64) (p0 : Int32) : Option (Nat) := (zbd (fX2_whatOn fb p0) (fun u1 => (if u1 = (1 : Int32) then (some (0)) else (some 5))))
set_option maxHeartbeats 400000 in
set_option maxRecDepth 100000 in
theorem mX4_requirePiece (l : Launch) (hl9 : l.stackTraces = false) (G : va_G) (k : Nat → ClassId) (ad : Nat → Nat) (sz : Nat) (sv : Int32) (kE : Int32) (kR : Int32) (fb : Nat → Int64) (ft : Nat → Int64) (fs : Nat → Int64) (rws : Nat → Int64) (nx : Int32) (ct : Int32) (ch : Nat → Int32) (ln : Int32) (p0 : Int32) (o : Nat) (hF : fX4_requirePiece fb p0 = some o) : zXV l yX4_requirePiece wsX4_requirePiece rmX4_requirePiece G k (zC ad k sv kE kR fb ft fs rws nx ct ch ln) sz [.ref (ad 0), .int p0] 1 6 o (zC ad k sv kE kR fb ft fs rws nx ct ch ln) := by
  refine zof_XV hl9 (cc := cX4_requirePiece) (nL := 2) (own := RX4) (by decide) rfl rfl (Nat.le_of_ble_eq_true rfl) ?_
  intro p e s m args below meth c A Q C0 hK hA hret hthp htho ls hl hw
  have hl : lv_has ls 2 [(0, .ref (ad 0)), (1, .int p0)] := hl
  obtain ⟨hx, hb, hr, hml, hown, hts, hlocks⟩ := id C0
  obtain ⟨H, hH⟩ : ∃ z, z = s.heap := ⟨_, rfl⟩
  rw [← hH] at hw ⊢
  unfold fX4_requirePiece at hF
  refine lv_aload_n hx hb dX4_requirePiece_0 rfl (lv_at hl 0 rfl) ?_
  refine va_get (D := G) (ci := 3) (v := .ref (ad 1)) (C := RX4) (T := TX4) (N := 8) hx hb hts inX4_requirePiece_X4 hown hK.1 hw.1 0 rfl rfl 0 (by decide) (hts (.fieldLink RX4 10 "SealedBoard" "board" "LSealedBoard$Position;") (by decide +kernel)) (fun _ h9 => h9) rfl dX4_requirePiece_1 ?_
  refine lv_iload_n hx hb dX4_requirePiece_4 rfl (lv_at hl 1 rfl) ?_
  obtain ⟨u1, hq2, hF⟩ := zbd_t hF
  refine zgoI (w' := (zC ad k sv kE kR fb ft fs rws nx ct ch ln)) hw hA [1, 2] rfl (zV (As := [.int p0]) (rest := []) ⟨hx, hb, hml, hown, hts⟩ (mX2_whatOn l G k (ad 1) (ad 2) H.size fb p0 u1 hq2) (cwV 1 hts gX4_requirePiece_X2_whatOn rfl rfl rfl kdX2_whatOn ⟨Nat.le_of_ble_eq_true rfl, Nat.le_of_ble_eq_true rfl⟩) hK hA hw [1, 2] rfl (by decide) 1 rfl rfl rfl rfl hl.1 rfl (Nat.le_of_ble_eq_true rfl) dX4_requirePiece_5 ⟨Nat.le_of_ble_eq_true rfl, Nat.le_of_ble_eq_true rfl⟩) rfl rfl rfl (fun H locs hw => ?_)
  refine lv_iconst (v := (1 : Int32)) hx hb dX4_requirePiece_8 (by decide) ?_
  refine lv_icmp_eq (tgt := 23) hx hb dX4_requirePiece_9 (by decide) (fun hc => ?_) (fun hc => ?_)
  · have hF := zif_t hc hF
    obtain rfl := Option.some.inj hF
    refine W.widen (k := 1) (n := 6) (Nat.le_of_ble_eq_true rfl) (Nat.le_of_ble_eq_true rfl) ?_
    exact hret _ _ _ _ rfl  hw dX4_requirePiece_23
  · have hF := zif_f hc hF
    obtain rfl := Option.some.inj hF
    exact htho _ _ _ _ _ "java/util/NoSuchElementException" 165 301 169 _ _ "no piece on the square" (show (5 : Nat) ≠ 0 by decide) rfl hw (hl.1.trans hml.symm) (by decide +kernel) (by decide +kernel) (hts (.classLink RX4 165 "java/util/NoSuchElementException") (by decide +kernel)) (hts (.initialized "java/util/NoSuchElementException") (by decide +kernel)) (vx_hat (B := zBad "java/util/NoSuchElementException") (fun w hw9 => hts w (naX4_requirePiece_5 w hw9)) (by decide +kernel) (zbad hK.2 (by decide))) (by decide +kernel) ⟨dX4_requirePiece_12, dX4_requirePiece_15, Or.inr ⟨dX4_requirePiece_16, dX4_requirePiece_19, dX4_requirePiece_22⟩⟩ (Nat.le_of_ble_eq_true rfl) (Nat.le_of_ble_eq_true rfl) (Nat.le_of_ble_eq_true rfl) (Nat.le_of_ble_eq_true rfl) (Nat.le_of_ble_eq_true rfl) (Nat.le_of_ble_eq_true rfl)

/-! SealedBoard.canMove(II)Z -/
abbrev rmX4_canMove : Room := { frames := 7, cells := 3, slots := 18, locals := 103 }
theorem kdX4_canMove : yX4_canMove.cls = RX4 ∧ yX4_canMove.cls ≠ "java/lang/invoke/MethodHandle" ∧ yX4_canMove.cls ≠ "java/lang/invoke/VarHandle" ∧ (parseMethodDescriptor yX4_canMove.desc).map (fun d => d.parameters.length) = some 2 := by decide +kernel
theorem inX4_canMove_X4 : ∀ w ∈ u_ws RX4 TX4 8, w ∈ wsX4_canMove := by decide +kernel
def fX4_canMove (fb : Nat → Int64) (p0 : Int32) (p1 : Int32) : Option (Nat × Int32) := (zbd (fX4_requireSquare p0) (fun u1 => (if u1 = 0 then (zbd (fX4_requireSquare p1) (fun u3 => (if u3 = 0 then (zbd (fX4_requirePiece fb p0) (fun u5 => (if u5 = 0 then (zbd (fX2_targetsOf fb p0) (fun u7 => (zbd (fX3_has u7 p1) (fun u9 => (zck (zbo u9) (some (0, u9))))))) else (some (u5, (0 : Int32)))))) else (some (u3, (0 : Int32)))))) else (some (u1, (0 : Int32))))))
set_option maxHeartbeats 400000 in
set_option maxRecDepth 100000 in
theorem mX4_canMove (l : Launch) (hl9 : l.stackTraces = false) (G : va_G) (k : Nat → ClassId) (ad : Nat → Nat) (sz : Nat) (sv : Int32) (kE : Int32) (kR : Int32) (fb : Nat → Int64) (ft : Nat → Int64) (fs : Nat → Int64) (rws : Nat → Int64) (nx : Int32) (ct : Int32) (ch : Nat → Int32) (ln : Int32) (p0 : Int32) (p1 : Int32) (o : Nat × Int32) (hF : fX4_canMove fb p0 p1 = some o) : zXI l yX4_canMove wsX4_canMove rmX4_canMove G k (zC ad k sv kE kR fb ft fs rws nx ct ch ln) sz [.ref (ad 0), .int p0, .int p1] 3 18 o.1 o.2 (zC ad k sv kE kR fb ft fs rws nx ct ch ln) := by
  refine zof_XI hl9 (cc := cX4_canMove) (nL := 3) (own := RX4) (rt := .boolean) (by decide) rfl rfl (Nat.le_of_ble_eq_true rfl) ?_
  intro p e s m args below meth c A Q C0 hK hA hret hthp htho ls hl hw
  have hl : lv_has ls 3 [(0, .ref (ad 0)), (1, .int p0), (2, .int p1)] := hl
  obtain ⟨hx, hb, hr, hml, hown, hts, hlocks⟩ := id C0
  obtain ⟨H, hH⟩ : ∃ z, z = s.heap := ⟨_, rfl⟩
  rw [← hH] at hw ⊢
  unfold fX4_canMove at hF
  refine lv_iload_n hx hb dX4_canMove_0 rfl (lv_at hl 1 rfl) ?_
  obtain ⟨u1, hq2, hF⟩ := zbd_t hF
  refine zgoXV (o0 := u1) (w' := (zC ad k sv kE kR fb ft fs rws nx ct ch ln)) hw hA [] rfl (zSx (As := [.int p0]) (rest := []) ⟨hx, hb, hml, hown, hts⟩ (mX4_requireSquare l hl9 G k  H.size  p0 u1 hq2) (va_cwS 1 hts gX4_canMove_X4_requireSquare rfl rfl rfl kdX4_requireSquare ⟨Nat.le_of_ble_eq_true rfl, Nat.le_of_ble_eq_true rfl⟩) hK hA hw [] rfl (by decide) rfl hl.1 rfl (Nat.le_of_ble_eq_true rfl) dX4_canMove_1 ⟨Nat.le_of_ble_eq_true rfl, Nat.le_of_ble_eq_true rfl⟩) rfl rfl rfl (fun h014 H locs q9 E9 ce9 hw g1 g2 g3 g4 => ?_) (fun h014 H locs hw => ?_)
  · have hF := zif_f h014 hF
    obtain rfl := Option.some.inj hF
    exact hthp _ _ _ _ _ _ _ _ _ _ h014 hw g1 g2 g3 g4 (Nat.le_of_ble_eq_true rfl) (Nat.le_of_ble_eq_true rfl)
  have hF := zif_t h014 hF
  refine lv_iload_n hx hb dX4_canMove_4 rfl (lv_at hl 2 rfl) ?_
  obtain ⟨u3, hq4, hF⟩ := zbd_t hF
  refine zgoXV (o0 := u3) (w' := (zC ad k sv kE kR fb ft fs rws nx ct ch ln)) hw hA [] rfl (zSx (As := [.int p1]) (rest := []) ⟨hx, hb, hml, hown, hts⟩ (mX4_requireSquare l hl9 G k  H.size  p1 u3 hq4) (va_cwS 1 hts gX4_canMove_X4_requireSquare rfl rfl rfl kdX4_requireSquare ⟨Nat.le_of_ble_eq_true rfl, Nat.le_of_ble_eq_true rfl⟩) hK hA hw [] rfl (by decide) rfl hl.1 rfl (Nat.le_of_ble_eq_true rfl) dX4_canMove_5 ⟨Nat.le_of_ble_eq_true rfl, Nat.le_of_ble_eq_true rfl⟩) rfl rfl rfl (fun h013 H locs q9 E9 ce9 hw g1 g2 g3 g4 => ?_) (fun h013 H locs hw => ?_)
  · have hF := zif_f h013 hF
    obtain rfl := Option.some.inj hF
    exact hthp _ _ _ _ _ _ _ _ _ _ h013 hw g1 g2 g3 g4 (Nat.le_of_ble_eq_true rfl) (Nat.le_of_ble_eq_true rfl)
  have hF := zif_t h013 hF
  refine lv_aload_n hx hb dX4_canMove_8 rfl (lv_at hl 0 rfl) ?_
  refine lv_iload_n hx hb dX4_canMove_9 rfl (lv_at hl 1 rfl) ?_
  obtain ⟨u5, hq6, hF⟩ := zbd_t hF
  refine zgoXVw (o0 := u5) (w' := (zC ad k sv kE kR fb ft fs rws nx ct ch ln)) hw hA (zVxw (As := [.int p0]) (rest := []) ⟨hx, hb, hml, hown, hts⟩ (mX4_requirePiece l hl9 G k ad H.size sv kE kR fb ft fs rws nx ct ch ln p0 u5 hq6) (cwV 1 hts gX4_canMove_X4_requirePiece rfl rfl rfl kdX4_requirePiece ⟨Nat.le_of_ble_eq_true rfl, Nat.le_of_ble_eq_true rfl⟩) hK hA hw 0 rfl rfl rfl rfl hl.1 rfl (Nat.le_of_ble_eq_true rfl) dX4_canMove_10 ⟨Nat.le_of_ble_eq_true rfl, Nat.le_of_ble_eq_true rfl⟩) (fun h012 H locs q9 E9 ce9 hw g1 g2 g3 g4 => ?_) (fun h012 H locs hw => ?_)
  · have hF := zif_f h012 hF
    obtain rfl := Option.some.inj hF
    exact hthp _ _ _ _ _ _ _ _ _ _ h012 hw g1 g2 g3 g4 (Nat.le_of_ble_eq_true rfl) (Nat.le_of_ble_eq_true rfl)
  have hF := zif_t h012 hF
  refine lv_aload_n hx hb dX4_canMove_13 rfl (lv_at hl 0 rfl) ?_
  refine va_get (D := G) (ci := 3) (v := .ref (ad 1)) (C := RX4) (T := TX4) (N := 8) hx hb hts inX4_canMove_X4 hown hK.1 hw.1 0 rfl rfl 0 (by decide) (hts (.fieldLink RX4 10 "SealedBoard" "board" "LSealedBoard$Position;") (by decide +kernel)) (fun _ h9 => h9) rfl dX4_canMove_14 ?_
  refine lv_iload_n hx hb dX4_canMove_17 rfl (lv_at hl 1 rfl) ?_
  obtain ⟨u7, hq8, hF⟩ := zbd_t hF
  refine zgoL (w' := (zC ad k sv kE kR fb ft fs rws nx ct ch ln)) hw hA [1, 2] rfl (zV (As := [.int p0]) (rest := []) ⟨hx, hb, hml, hown, hts⟩ (mX2_targetsOf l G k (ad 1) (ad 2) H.size fb p0 u7 hq8) (cwV 1 hts gX4_canMove_X2_targetsOf rfl rfl rfl kdX2_targetsOf ⟨Nat.le_of_ble_eq_true rfl, Nat.le_of_ble_eq_true rfl⟩) hK hA hw [1, 2] rfl (by decide) 1 rfl rfl rfl rfl hl.1 rfl (Nat.le_of_ble_eq_true rfl) dX4_canMove_18 ⟨Nat.le_of_ble_eq_true rfl, Nat.le_of_ble_eq_true rfl⟩) rfl rfl rfl (fun H locs hw => ?_)
  refine lv_iload_n hx hb dX4_canMove_21 rfl (lv_at hl 2 rfl) ?_
  obtain ⟨u9, hq10, hF⟩ := zbd_t hF
  refine zgoI (w' := (zC ad k sv kE kR fb ft fs rws nx ct ch ln)) hw hA [] rfl (zS (As := [.long u7, .int p1]) (rest := []) ⟨hx, hb, hml, hown, hts⟩ (mX3_has l G k  H.size  u7 p1 u9 hq10) (va_cwS 2 hts gX4_canMove_X3_has rfl rfl rfl kdX3_has ⟨Nat.le_of_ble_eq_true rfl, Nat.le_of_ble_eq_true rfl⟩) hK hA hw [] rfl (by decide) rfl hl.1 rfl (Nat.le_of_ble_eq_true rfl) dX4_canMove_22 ⟨Nat.le_of_ble_eq_true rfl, Nat.le_of_ble_eq_true rfl⟩) rfl rfl rfl (fun H locs hw => ?_)
  obtain ⟨hz11, hF⟩ := zck_t hF
  obtain rfl := Option.some.inj hF
  exact hret _ _ _ _ rfl (zbo_n hz11) hw dX4_canMove_25

/-! SealedBoard.moves(I)I -/
abbrev rmX4_moves : Room := { frames := 7, cells := 2, slots := 12, locals := 103 }
theorem kdX4_moves : yX4_moves.cls = RX4 ∧ yX4_moves.cls ≠ "java/lang/invoke/MethodHandle" ∧ yX4_moves.cls ≠ "java/lang/invoke/VarHandle" ∧ (parseMethodDescriptor yX4_moves.desc).map (fun d => d.parameters.length) = some 1 := by decide +kernel
theorem inX4_moves_X4 : ∀ w ∈ u_ws RX4 TX4 8, w ∈ wsX4_moves := by decide +kernel
def fX4_moves (fb : Nat → Int64) (p0 : Int32) : Option (Nat × Int32) := (zbd (fX4_requireSquare p0) (fun u1 => (if u1 = 0 then (zbd (fX4_requirePiece fb p0) (fun u3 => (if u3 = 0 then (zbd (fX2_targetsOf fb p0) (fun u5 => (zbd (fX3_size u5) (fun u7 => (some (0, u7)))))) else (some (u3, (0 : Int32)))))) else (some (u1, (0 : Int32))))))
set_option maxHeartbeats 400000 in
set_option maxRecDepth 100000 in
theorem mX4_moves (l : Launch) (hl9 : l.stackTraces = false) (G : va_G) (k : Nat → ClassId) (ad : Nat → Nat) (sz : Nat) (sv : Int32) (kE : Int32) (kR : Int32) (fb : Nat → Int64) (ft : Nat → Int64) (fs : Nat → Int64) (rws : Nat → Int64) (nx : Int32) (ct : Int32) (ch : Nat → Int32) (ln : Int32) (p0 : Int32) (o : Nat × Int32) (hF : fX4_moves fb p0 = some o) : zXI l yX4_moves wsX4_moves rmX4_moves G k (zC ad k sv kE kR fb ft fs rws nx ct ch ln) sz [.ref (ad 0), .int p0] 2 12 o.1 o.2 (zC ad k sv kE kR fb ft fs rws nx ct ch ln) := by
  refine zof_XI hl9 (cc := cX4_moves) (nL := 2) (own := RX4) (rt := .int) (by decide) rfl rfl (Nat.le_of_ble_eq_true rfl) ?_
  intro p e s m args below meth c A Q C0 hK hA hret hthp htho ls hl hw
  have hl : lv_has ls 2 [(0, .ref (ad 0)), (1, .int p0)] := hl
  obtain ⟨hx, hb, hr, hml, hown, hts, hlocks⟩ := id C0
  obtain ⟨H, hH⟩ : ∃ z, z = s.heap := ⟨_, rfl⟩
  rw [← hH] at hw ⊢
  unfold fX4_moves at hF
  refine lv_iload_n hx hb dX4_moves_0 rfl (lv_at hl 1 rfl) ?_
  obtain ⟨u1, hq2, hF⟩ := zbd_t hF
  refine zgoXV (o0 := u1) (w' := (zC ad k sv kE kR fb ft fs rws nx ct ch ln)) hw hA [] rfl (zSx (As := [.int p0]) (rest := []) ⟨hx, hb, hml, hown, hts⟩ (mX4_requireSquare l hl9 G k  H.size  p0 u1 hq2) (va_cwS 1 hts gX4_moves_X4_requireSquare rfl rfl rfl kdX4_requireSquare ⟨Nat.le_of_ble_eq_true rfl, Nat.le_of_ble_eq_true rfl⟩) hK hA hw [] rfl (by decide) rfl hl.1 rfl (Nat.le_of_ble_eq_true rfl) dX4_moves_1 ⟨Nat.le_of_ble_eq_true rfl, Nat.le_of_ble_eq_true rfl⟩) rfl rfl rfl (fun h010 H locs q9 E9 ce9 hw g1 g2 g3 g4 => ?_) (fun h010 H locs hw => ?_)
  · have hF := zif_f h010 hF
    obtain rfl := Option.some.inj hF
    exact hthp _ _ _ _ _ _ _ _ _ _ h010 hw g1 g2 g3 g4 (Nat.le_of_ble_eq_true rfl) (Nat.le_of_ble_eq_true rfl)
  have hF := zif_t h010 hF
  refine lv_aload_n hx hb dX4_moves_4 rfl (lv_at hl 0 rfl) ?_
  refine lv_iload_n hx hb dX4_moves_5 rfl (lv_at hl 1 rfl) ?_
  obtain ⟨u3, hq4, hF⟩ := zbd_t hF
  refine zgoXVw (o0 := u3) (w' := (zC ad k sv kE kR fb ft fs rws nx ct ch ln)) hw hA (zVxw (As := [.int p0]) (rest := []) ⟨hx, hb, hml, hown, hts⟩ (mX4_requirePiece l hl9 G k ad H.size sv kE kR fb ft fs rws nx ct ch ln p0 u3 hq4) (cwV 1 hts gX4_moves_X4_requirePiece rfl rfl rfl kdX4_requirePiece ⟨Nat.le_of_ble_eq_true rfl, Nat.le_of_ble_eq_true rfl⟩) hK hA hw 0 rfl rfl rfl rfl hl.1 rfl (Nat.le_of_ble_eq_true rfl) dX4_moves_6 ⟨Nat.le_of_ble_eq_true rfl, Nat.le_of_ble_eq_true rfl⟩) (fun h09 H locs q9 E9 ce9 hw g1 g2 g3 g4 => ?_) (fun h09 H locs hw => ?_)
  · have hF := zif_f h09 hF
    obtain rfl := Option.some.inj hF
    exact hthp _ _ _ _ _ _ _ _ _ _ h09 hw g1 g2 g3 g4 (Nat.le_of_ble_eq_true rfl) (Nat.le_of_ble_eq_true rfl)
  have hF := zif_t h09 hF
  refine lv_aload_n hx hb dX4_moves_9 rfl (lv_at hl 0 rfl) ?_
  refine va_get (D := G) (ci := 3) (v := .ref (ad 1)) (C := RX4) (T := TX4) (N := 8) hx hb hts inX4_moves_X4 hown hK.1 hw.1 0 rfl rfl 0 (by decide) (hts (.fieldLink RX4 10 "SealedBoard" "board" "LSealedBoard$Position;") (by decide +kernel)) (fun _ h9 => h9) rfl dX4_moves_10 ?_
  refine lv_iload_n hx hb dX4_moves_13 rfl (lv_at hl 1 rfl) ?_
  obtain ⟨u5, hq6, hF⟩ := zbd_t hF
  refine zgoL (w' := (zC ad k sv kE kR fb ft fs rws nx ct ch ln)) hw hA [1, 2] rfl (zV (As := [.int p0]) (rest := []) ⟨hx, hb, hml, hown, hts⟩ (mX2_targetsOf l G k (ad 1) (ad 2) H.size fb p0 u5 hq6) (cwV 1 hts gX4_moves_X2_targetsOf rfl rfl rfl kdX2_targetsOf ⟨Nat.le_of_ble_eq_true rfl, Nat.le_of_ble_eq_true rfl⟩) hK hA hw [1, 2] rfl (by decide) 1 rfl rfl rfl rfl hl.1 rfl (Nat.le_of_ble_eq_true rfl) dX4_moves_14 ⟨Nat.le_of_ble_eq_true rfl, Nat.le_of_ble_eq_true rfl⟩) rfl rfl rfl (fun H locs hw => ?_)
  obtain ⟨u7, hq8, hF⟩ := zbd_t hF
  refine zgoI (w' := (zC ad k sv kE kR fb ft fs rws nx ct ch ln)) hw hA [] rfl (zS (As := [.long u5]) (rest := []) ⟨hx, hb, hml, hown, hts⟩ (mX3_size l G k  H.size  u5 u7 hq8) (va_cwS 1 hts gX4_moves_X3_size rfl rfl rfl kdX3_size ⟨Nat.le_of_ble_eq_true rfl, Nat.le_of_ble_eq_true rfl⟩) hK hA hw [] rfl (by decide) rfl hl.1 rfl (Nat.le_of_ble_eq_true rfl) dX4_moves_17 ⟨Nat.le_of_ble_eq_true rfl, Nat.le_of_ble_eq_true rfl⟩) rfl rfl rfl (fun H locs hw => ?_)
  obtain rfl := Option.some.inj hF
  exact hret _ _ _ _ rfl rfl hw dX4_moves_20

/-! SealedBoard.requireTarget(II)V -/
abbrev rmX4_requireTarget : Room := { frames := 6, cells := 1, slots := 6, locals := 82 }
theorem naX4_requireTarget_5 : ∀ w ∈ (vx_atS RX4 169 "java/util/NoSuchElementException" zNm).filter goodWord, w ∈ wsX4_requireTarget := by decide +kernel
theorem kdX4_requireTarget : yX4_requireTarget.cls = RX4 ∧ yX4_requireTarget.cls ≠ "java/lang/invoke/MethodHandle" ∧ yX4_requireTarget.cls ≠ "java/lang/invoke/VarHandle" ∧ (parseMethodDescriptor yX4_requireTarget.desc).map (fun d => d.parameters.length) = some 2 := by decide +kernel
theorem inX4_requireTarget_X4 : ∀ w ∈ u_ws RX4 TX4 8, w ∈ wsX4_requireTarget := by decide +kernel
def fX4_requireTarget (fb : Nat → Int64) (p0 : Int32) (p1 : Int32) : Option (Nat) := (zbd (fX2_targetsOf fb p0) (fun u1 => (zbd (fX3_has u1 p1) (fun u3 => (if u3 = 0 then (some 5) else (some (0)))))))
set_option maxHeartbeats 400000 in
set_option maxRecDepth 100000 in
theorem mX4_requireTarget (l : Launch) (hl9 : l.stackTraces = false) (G : va_G) (k : Nat → ClassId) (ad : Nat → Nat) (sz : Nat) (sv : Int32) (kE : Int32) (kR : Int32) (fb : Nat → Int64) (ft : Nat → Int64) (fs : Nat → Int64) (rws : Nat → Int64) (nx : Int32) (ct : Int32) (ch : Nat → Int32) (ln : Int32) (p0 : Int32) (p1 : Int32) (o : Nat) (hF : fX4_requireTarget fb p0 p1 = some o) : zXV l yX4_requireTarget wsX4_requireTarget rmX4_requireTarget G k (zC ad k sv kE kR fb ft fs rws nx ct ch ln) sz [.ref (ad 0), .int p0, .int p1] 1 6 o (zC ad k sv kE kR fb ft fs rws nx ct ch ln) := by
  refine zof_XV hl9 (cc := cX4_requireTarget) (nL := 3) (own := RX4) (by decide) rfl rfl (Nat.le_of_ble_eq_true rfl) ?_
  intro p e s m args below meth c A Q C0 hK hA hret hthp htho ls hl hw
  have hl : lv_has ls 3 [(0, .ref (ad 0)), (1, .int p0), (2, .int p1)] := hl
  obtain ⟨hx, hb, hr, hml, hown, hts, hlocks⟩ := id C0
  obtain ⟨H, hH⟩ : ∃ z, z = s.heap := ⟨_, rfl⟩
  rw [← hH] at hw ⊢
  unfold fX4_requireTarget at hF
  refine lv_aload_n hx hb dX4_requireTarget_0 rfl (lv_at hl 0 rfl) ?_
  refine va_get (D := G) (ci := 3) (v := .ref (ad 1)) (C := RX4) (T := TX4) (N := 8) hx hb hts inX4_requireTarget_X4 hown hK.1 hw.1 0 rfl rfl 0 (by decide) (hts (.fieldLink RX4 10 "SealedBoard" "board" "LSealedBoard$Position;") (by decide +kernel)) (fun _ h9 => h9) rfl dX4_requireTarget_1 ?_
  refine lv_iload_n hx hb dX4_requireTarget_4 rfl (lv_at hl 1 rfl) ?_
  obtain ⟨u1, hq2, hF⟩ := zbd_t hF
  refine zgoL (w' := (zC ad k sv kE kR fb ft fs rws nx ct ch ln)) hw hA [1, 2] rfl (zV (As := [.int p0]) (rest := []) ⟨hx, hb, hml, hown, hts⟩ (mX2_targetsOf l G k (ad 1) (ad 2) H.size fb p0 u1 hq2) (cwV 1 hts gX4_requireTarget_X2_targetsOf rfl rfl rfl kdX2_targetsOf ⟨Nat.le_of_ble_eq_true rfl, Nat.le_of_ble_eq_true rfl⟩) hK hA hw [1, 2] rfl (by decide) 1 rfl rfl rfl rfl hl.1 rfl (Nat.le_of_ble_eq_true rfl) dX4_requireTarget_5 ⟨Nat.le_of_ble_eq_true rfl, Nat.le_of_ble_eq_true rfl⟩) rfl rfl rfl (fun H locs hw => ?_)
  refine lv_iload_n hx hb dX4_requireTarget_8 rfl (lv_at hl 2 rfl) ?_
  obtain ⟨u3, hq4, hF⟩ := zbd_t hF
  refine zgoI (w' := (zC ad k sv kE kR fb ft fs rws nx ct ch ln)) hw hA [] rfl (zS (As := [.long u1, .int p1]) (rest := []) ⟨hx, hb, hml, hown, hts⟩ (mX3_has l G k  H.size  u1 p1 u3 hq4) (va_cwS 2 hts gX4_requireTarget_X3_has rfl rfl rfl kdX3_has ⟨Nat.le_of_ble_eq_true rfl, Nat.le_of_ble_eq_true rfl⟩) hK hA hw [] rfl (by decide) rfl hl.1 rfl (Nat.le_of_ble_eq_true rfl) dX4_requireTarget_9 ⟨Nat.le_of_ble_eq_true rfl, Nat.le_of_ble_eq_true rfl⟩) rfl rfl rfl (fun H locs hw => ?_)
  refine lv_if_ne (tgt := 26) hx hb dX4_requireTarget_12 (by decide) (fun hc => ?_) (fun hc => ?_)
  · have hF := zif_f hc hF
    obtain rfl := Option.some.inj hF
    refine W.widen (k := 1) (n := 6) (Nat.le_of_ble_eq_true rfl) (Nat.le_of_ble_eq_true rfl) ?_
    exact hret _ _ _ _ rfl  hw dX4_requireTarget_26
  · have hF := zif_t hc hF
    obtain rfl := Option.some.inj hF
    exact htho _ _ _ _ _ "java/util/NoSuchElementException" 165 303 169 _ _ "the piece cannot move there" (show (5 : Nat) ≠ 0 by decide) rfl hw (hl.1.trans hml.symm) (by decide +kernel) (by decide +kernel) (hts (.classLink RX4 165 "java/util/NoSuchElementException") (by decide +kernel)) (hts (.initialized "java/util/NoSuchElementException") (by decide +kernel)) (vx_hat (B := zBad "java/util/NoSuchElementException") (fun w hw9 => hts w (naX4_requireTarget_5 w hw9)) (by decide +kernel) (zbad hK.2 (by decide))) (by decide +kernel) ⟨dX4_requireTarget_15, dX4_requireTarget_18, Or.inr ⟨dX4_requireTarget_19, dX4_requireTarget_22, dX4_requireTarget_25⟩⟩ (Nat.le_of_ble_eq_true rfl) (Nat.le_of_ble_eq_true rfl) (Nat.le_of_ble_eq_true rfl) (Nat.le_of_ble_eq_true rfl) (Nat.le_of_ble_eq_true rfl) (Nat.le_of_ble_eq_true rfl)

/-! SealedBoard.captures(II)I -/
abbrev rmX4_captures : Room := { frames := 7, cells := 4, slots := 24, locals := 104 }
theorem kdX4_captures : yX4_captures.cls = RX4 ∧ yX4_captures.cls ≠ "java/lang/invoke/MethodHandle" ∧ yX4_captures.cls ≠ "java/lang/invoke/VarHandle" ∧ (parseMethodDescriptor yX4_captures.desc).map (fun d => d.parameters.length) = some 2 := by decide +kernel
theorem inX4_captures_X4 : ∀ w ∈ u_ws RX4 TX4 8, w ∈ wsX4_captures := by decide +kernel
def fX4_captures (fb : Nat → Int64) (ft : Nat → Int64) (p0 : Int32) (p1 : Int32) : Option (Nat × Int32 × (Nat → Int64)) := (zbd (fX4_requireSquare p0) (fun u1 => (if u1 = 0 then (zbd (fX4_requireSquare p1) (fun u3 => (if u3 = 0 then (zbd (fX4_requirePiece fb p0) (fun u5 => (if u5 = 0 then (zbd (fX4_requireTarget fb p0 p1) (fun u7 => (if u7 = 0 then (zbd (fX2_copyFrom ft fb) (fun u9 => (zbd (fX2_movePiece u9 p0 p1) (fun u11 => (some (0, u11.1, u11.2)))))) else (some (u7, (0 : Int32), ft))))) else (some (u5, (0 : Int32), ft))))) else (some (u3, (0 : Int32), ft))))) else (some (u1, (0 : Int32), ft)))))
set_option maxHeartbeats 400000 in
set_option maxRecDepth 100000 in
theorem mX4_captures (l : Launch) (hl9 : l.stackTraces = false) (G : va_G) (k : Nat → ClassId) (ad : Nat → Nat) (sz : Nat) (sv : Int32) (kE : Int32) (kR : Int32) (fb : Nat → Int64) (ft : Nat → Int64) (fs : Nat → Int64) (rws : Nat → Int64) (nx : Int32) (ct : Int32) (ch : Nat → Int32) (ln : Int32) (p0 : Int32) (p1 : Int32) (o : Nat × Int32 × (Nat → Int64)) (hF : fX4_captures fb ft p0 p1 = some o) : zXI l yX4_captures wsX4_captures rmX4_captures G k (zC ad k sv kE kR fb ft fs rws nx ct ch ln) sz [.ref (ad 0), .int p0, .int p1] 4 24 o.1 o.2.1 (zC ad k sv kE kR fb o.2.2 fs rws nx ct ch ln) := by
  refine zof_XI hl9 (cc := cX4_captures) (nL := 3) (own := RX4) (rt := .int) (by decide) rfl rfl (Nat.le_of_ble_eq_true rfl) ?_
  intro p e s m args below meth c A Q C0 hK hA hret hthp htho ls hl hw
  have hl : lv_has ls 3 [(0, .ref (ad 0)), (1, .int p0), (2, .int p1)] := hl
  obtain ⟨hx, hb, hr, hml, hown, hts, hlocks⟩ := id C0
  obtain ⟨H, hH⟩ : ∃ z, z = s.heap := ⟨_, rfl⟩
  rw [← hH] at hw ⊢
  unfold fX4_captures at hF
  refine lv_iload_n hx hb dX4_captures_0 rfl (lv_at hl 1 rfl) ?_
  obtain ⟨u1, hq2, hF⟩ := zbd_t hF
  refine zgoXV (o0 := u1) (w' := (zC ad k sv kE kR fb ft fs rws nx ct ch ln)) hw hA [] rfl (zSx (As := [.int p0]) (rest := []) ⟨hx, hb, hml, hown, hts⟩ (mX4_requireSquare l hl9 G k  H.size  p0 u1 hq2) (va_cwS 1 hts gX4_captures_X4_requireSquare rfl rfl rfl kdX4_requireSquare ⟨Nat.le_of_ble_eq_true rfl, Nat.le_of_ble_eq_true rfl⟩) hK hA hw [] rfl (by decide) rfl hl.1 rfl (Nat.le_of_ble_eq_true rfl) dX4_captures_1 ⟨Nat.le_of_ble_eq_true rfl, Nat.le_of_ble_eq_true rfl⟩) rfl rfl rfl (fun h016 H locs q9 E9 ce9 hw g1 g2 g3 g4 => ?_) (fun h016 H locs hw => ?_)
  · have hF := zif_f h016 hF
    obtain rfl := Option.some.inj hF
    exact hthp _ _ _ _ _ _ _ _ _ _ h016 hw g1 g2 g3 g4 (Nat.le_of_ble_eq_true rfl) (Nat.le_of_ble_eq_true rfl)
  have hF := zif_t h016 hF
  refine lv_iload_n hx hb dX4_captures_4 rfl (lv_at hl 2 rfl) ?_
  obtain ⟨u3, hq4, hF⟩ := zbd_t hF
  refine zgoXV (o0 := u3) (w' := (zC ad k sv kE kR fb ft fs rws nx ct ch ln)) hw hA [] rfl (zSx (As := [.int p1]) (rest := []) ⟨hx, hb, hml, hown, hts⟩ (mX4_requireSquare l hl9 G k  H.size  p1 u3 hq4) (va_cwS 1 hts gX4_captures_X4_requireSquare rfl rfl rfl kdX4_requireSquare ⟨Nat.le_of_ble_eq_true rfl, Nat.le_of_ble_eq_true rfl⟩) hK hA hw [] rfl (by decide) rfl hl.1 rfl (Nat.le_of_ble_eq_true rfl) dX4_captures_5 ⟨Nat.le_of_ble_eq_true rfl, Nat.le_of_ble_eq_true rfl⟩) rfl rfl rfl (fun h015 H locs q9 E9 ce9 hw g1 g2 g3 g4 => ?_) (fun h015 H locs hw => ?_)
  · have hF := zif_f h015 hF
    obtain rfl := Option.some.inj hF
    exact hthp _ _ _ _ _ _ _ _ _ _ h015 hw g1 g2 g3 g4 (Nat.le_of_ble_eq_true rfl) (Nat.le_of_ble_eq_true rfl)
  have hF := zif_t h015 hF
  refine lv_aload_n hx hb dX4_captures_8 rfl (lv_at hl 0 rfl) ?_
  refine lv_iload_n hx hb dX4_captures_9 rfl (lv_at hl 1 rfl) ?_
  obtain ⟨u5, hq6, hF⟩ := zbd_t hF
  refine zgoXVw (o0 := u5) (w' := (zC ad k sv kE kR fb ft fs rws nx ct ch ln)) hw hA (zVxw (As := [.int p0]) (rest := []) ⟨hx, hb, hml, hown, hts⟩ (mX4_requirePiece l hl9 G k ad H.size sv kE kR fb ft fs rws nx ct ch ln p0 u5 hq6) (cwV 1 hts gX4_captures_X4_requirePiece rfl rfl rfl kdX4_requirePiece ⟨Nat.le_of_ble_eq_true rfl, Nat.le_of_ble_eq_true rfl⟩) hK hA hw 0 rfl rfl rfl rfl hl.1 rfl (Nat.le_of_ble_eq_true rfl) dX4_captures_10 ⟨Nat.le_of_ble_eq_true rfl, Nat.le_of_ble_eq_true rfl⟩) (fun h014 H locs q9 E9 ce9 hw g1 g2 g3 g4 => ?_) (fun h014 H locs hw => ?_)
  · have hF := zif_f h014 hF
    obtain rfl := Option.some.inj hF
    exact hthp _ _ _ _ _ _ _ _ _ _ h014 hw g1 g2 g3 g4 (Nat.le_of_ble_eq_true rfl) (Nat.le_of_ble_eq_true rfl)
  have hF := zif_t h014 hF
  refine lv_aload_n hx hb dX4_captures_13 rfl (lv_at hl 0 rfl) ?_
  refine lv_iload_n hx hb dX4_captures_14 rfl (lv_at hl 1 rfl) ?_
  refine lv_iload_n hx hb dX4_captures_15 rfl (lv_at hl 2 rfl) ?_
  obtain ⟨u7, hq8, hF⟩ := zbd_t hF
  refine zgoXVw (o0 := u7) (w' := (zC ad k sv kE kR fb ft fs rws nx ct ch ln)) hw hA (zVxw (As := [.int p0, .int p1]) (rest := []) ⟨hx, hb, hml, hown, hts⟩ (mX4_requireTarget l hl9 G k ad H.size sv kE kR fb ft fs rws nx ct ch ln p0 p1 u7 hq8) (cwV 2 hts gX4_captures_X4_requireTarget rfl rfl rfl kdX4_requireTarget ⟨Nat.le_of_ble_eq_true rfl, Nat.le_of_ble_eq_true rfl⟩) hK hA hw 0 rfl rfl rfl rfl hl.1 rfl (Nat.le_of_ble_eq_true rfl) dX4_captures_16 ⟨Nat.le_of_ble_eq_true rfl, Nat.le_of_ble_eq_true rfl⟩) (fun h013 H locs q9 E9 ce9 hw g1 g2 g3 g4 => ?_) (fun h013 H locs hw => ?_)
  · have hF := zif_f h013 hF
    obtain rfl := Option.some.inj hF
    exact hthp _ _ _ _ _ _ _ _ _ _ h013 hw g1 g2 g3 g4 (Nat.le_of_ble_eq_true rfl) (Nat.le_of_ble_eq_true rfl)
  have hF := zif_t h013 hF
  refine lv_aload_n hx hb dX4_captures_19 rfl (lv_at hl 0 rfl) ?_
  refine va_get (D := G) (ci := 3) (v := .ref (ad 3)) (C := RX4) (T := TX4) (N := 8) hx hb hts inX4_captures_X4 hown hK.1 hw.1 0 rfl rfl 1 (by decide) (hts (.fieldLink RX4 16 "SealedBoard" "trial" "LSealedBoard$Position;") (by decide +kernel)) (fun _ h9 => h9) rfl dX4_captures_20 ?_
  refine lv_aload_n hx hb dX4_captures_23 rfl (lv_at hl 0 rfl) ?_
  refine va_get (D := G) (ci := 3) (v := .ref (ad 1)) (C := RX4) (T := TX4) (N := 8) hx hb hts inX4_captures_X4 hown hK.1 hw.1 0 rfl rfl 0 (by decide) (hts (.fieldLink RX4 10 "SealedBoard" "board" "LSealedBoard$Position;") (by decide +kernel)) (fun _ h9 => h9) rfl dX4_captures_24 ?_
  obtain ⟨u9, hq10, hF⟩ := zbd_t hF
  refine zgoV (w' := (zC ad k sv kE kR fb u9 fs rws nx ct ch ln)) hw hA [3, 4, 1, 2] rfl (zV (As := [.ref (ad 1)]) (rest := []) ⟨hx, hb, hml, hown, hts⟩ (mX2_copyFrom l G k (ad 3) (ad 4) (ad 1) (ad 2) H.size ft fb  u9 hq10) (cwV 1 hts gX4_captures_X2_copyFrom rfl rfl rfl kdX2_copyFrom ⟨Nat.le_of_ble_eq_true rfl, Nat.le_of_ble_eq_true rfl⟩) hK hA hw [3, 4, 1, 2] rfl (by decide) 3 rfl rfl rfl rfl hl.1 rfl (Nat.le_of_ble_eq_true rfl) dX4_captures_27 ⟨Nat.le_of_ble_eq_true rfl, Nat.le_of_ble_eq_true rfl⟩) rfl rfl rfl (fun H locs hw => ?_)
  refine lv_aload_n hx hb dX4_captures_30 rfl (lv_at hl 0 rfl) ?_
  refine va_get (D := G) (ci := 3) (v := .ref (ad 3)) (C := RX4) (T := TX4) (N := 8) hx hb hts inX4_captures_X4 hown hK.1 hw.1 0 rfl rfl 1 (by decide) (hts (.fieldLink RX4 16 "SealedBoard" "trial" "LSealedBoard$Position;") (by decide +kernel)) (fun _ h9 => h9) rfl dX4_captures_31 ?_
  refine lv_iload_n hx hb dX4_captures_34 rfl (lv_at hl 1 rfl) ?_
  refine lv_iload_n hx hb dX4_captures_35 rfl (lv_at hl 2 rfl) ?_
  obtain ⟨u11, hq12, hF⟩ := zbd_t hF
  refine zgoI (w' := (zC ad k sv kE kR fb u11.2 fs rws nx ct ch ln)) hw hA [3, 4] rfl (zV (As := [.int p0, .int p1]) (rest := []) ⟨hx, hb, hml, hown, hts⟩ (mX2_movePiece l G k (ad 3) (ad 4) H.size u9 p0 p1 u11 hq12) (cwV 2 hts gX4_captures_X2_movePiece rfl rfl rfl kdX2_movePiece ⟨Nat.le_of_ble_eq_true rfl, Nat.le_of_ble_eq_true rfl⟩) hK hA hw [3, 4] rfl (by decide) 3 rfl rfl rfl rfl hl.1 rfl (Nat.le_of_ble_eq_true rfl) dX4_captures_36 ⟨Nat.le_of_ble_eq_true rfl, Nat.le_of_ble_eq_true rfl⟩) rfl rfl rfl (fun H locs hw => ?_)
  obtain rfl := Option.some.inj hF
  exact hret _ _ _ _ rfl rfl hw dX4_captures_39

/-! SealedBoard.worthOfMove(II)I -/
abbrev rmX4_worthOfMove : Room := { frames := 4, cells := 0, slots := 0, locals := 105 }
theorem kdX4_worthOfMove : yX4_worthOfMove.cls = RX4 ∧ yX4_worthOfMove.cls ≠ "java/lang/invoke/MethodHandle" ∧ yX4_worthOfMove.cls ≠ "java/lang/invoke/VarHandle" ∧ (parseMethodDescriptor yX4_worthOfMove.desc).map (fun d => d.parameters.length) = some 2 := by decide +kernel
theorem inX4_worthOfMove_X4 : ∀ w ∈ u_ws RX4 TX4 8, w ∈ wsX4_worthOfMove := by decide +kernel
def fX4_worthOfMove (fb : Nat → Int64) (ft : Nat → Int64) (p0 : Int32) (p1 : Int32) : Option (Int32 × (Nat → Int64)) := (zbd (fX2_copyFrom ft fb) (fun u1 => (zbd (fX2_movePiece u1 p0 p1) (fun u3 => (zbd (fX2_mover fb) (fun u5 => (zbd (fX4_otherSide u5) (fun u7 => (zbd (fX2_countSealedByRooms u3.2 u7) (fun u9 => (some ((((10 : Int32) * u3.1) + u9), u3.2))))))))))))
set_option maxHeartbeats 400000 in
set_option maxRecDepth 100000 in
theorem mX4_worthOfMove (l : Launch) (G : va_G) (k : Nat → ClassId) (ad : Nat → Nat) (sz : Nat) (sv : Int32) (kE : Int32) (kR : Int32) (fb : Nat → Int64) (ft : Nat → Int64) (fs : Nat → Int64) (rws : Nat → Int64) (nx : Int32) (ct : Int32) (ch : Nat → Int32) (ln : Int32) (p0 : Int32) (p1 : Int32) (o : Int32 × (Nat → Int64)) (hF : fX4_worthOfMove fb ft p0 p1 = some o) : zMI l yX4_worthOfMove wsX4_worthOfMove rmX4_worthOfMove G k (zC ad k sv kE kR fb ft fs rws nx ct ch ln) sz [.ref (ad 0), .int p0, .int p1] o.1 (zC ad k sv kE kR fb o.2 fs rws nx ct ch ln) := by
  refine zof_I (cc := cX4_worthOfMove) (nL := 4) (own := RX4) (rt := .int) (by decide) rfl rfl (Nat.le_of_ble_eq_true rfl) ?_
  intro p e s m args below meth c A Q C0 hK hA hret ls hl hw
  have hl : lv_has ls 4 [(0, .ref (ad 0)), (1, .int p0), (2, .int p1)] := hl
  obtain ⟨hx, hb, hr, hml, hown, hts, hlocks⟩ := id C0
  obtain ⟨H, hH⟩ : ∃ z, z = s.heap := ⟨_, rfl⟩
  rw [← hH] at hw ⊢
  unfold fX4_worthOfMove at hF
  refine lv_aload_n hx hb dX4_worthOfMove_0 rfl (lv_at hl 0 rfl) ?_
  refine va_get (D := G) (ci := 3) (v := .ref (ad 3)) (C := RX4) (T := TX4) (N := 8) hx hb hts inX4_worthOfMove_X4 hown hK.1 hw.1 0 rfl rfl 1 (by decide) (hts (.fieldLink RX4 16 "SealedBoard" "trial" "LSealedBoard$Position;") (by decide +kernel)) (fun _ h9 => h9) rfl dX4_worthOfMove_1 ?_
  refine lv_aload_n hx hb dX4_worthOfMove_4 rfl (lv_at hl 0 rfl) ?_
  refine va_get (D := G) (ci := 3) (v := .ref (ad 1)) (C := RX4) (T := TX4) (N := 8) hx hb hts inX4_worthOfMove_X4 hown hK.1 hw.1 0 rfl rfl 0 (by decide) (hts (.fieldLink RX4 10 "SealedBoard" "board" "LSealedBoard$Position;") (by decide +kernel)) (fun _ h9 => h9) rfl dX4_worthOfMove_5 ?_
  obtain ⟨u1, hq2, hF⟩ := zbd_t hF
  refine zgoV (w' := (zC ad k sv kE kR fb u1 fs rws nx ct ch ln)) hw hA [3, 4, 1, 2] rfl (zV (As := [.ref (ad 1)]) (rest := []) ⟨hx, hb, hml, hown, hts⟩ (mX2_copyFrom l G k (ad 3) (ad 4) (ad 1) (ad 2) H.size ft fb  u1 hq2) (cwV 1 hts gX4_worthOfMove_X2_copyFrom rfl rfl rfl kdX2_copyFrom ⟨Nat.le_of_ble_eq_true rfl, Nat.le_of_ble_eq_true rfl⟩) hK hA hw [3, 4, 1, 2] rfl (by decide) 3 rfl rfl rfl rfl hl.1 rfl (Nat.le_of_ble_eq_true rfl) dX4_worthOfMove_8 ⟨Nat.le_of_ble_eq_true rfl, Nat.le_of_ble_eq_true rfl⟩) rfl rfl rfl (fun H locs hw => ?_)
  refine lv_aload_n hx hb dX4_worthOfMove_11 rfl (lv_at hl 0 rfl) ?_
  refine va_get (D := G) (ci := 3) (v := .ref (ad 3)) (C := RX4) (T := TX4) (N := 8) hx hb hts inX4_worthOfMove_X4 hown hK.1 hw.1 0 rfl rfl 1 (by decide) (hts (.fieldLink RX4 16 "SealedBoard" "trial" "LSealedBoard$Position;") (by decide +kernel)) (fun _ h9 => h9) rfl dX4_worthOfMove_12 ?_
  refine lv_iload_n hx hb dX4_worthOfMove_15 rfl (lv_at hl 1 rfl) ?_
  refine lv_iload_n hx hb dX4_worthOfMove_16 rfl (lv_at hl 2 rfl) ?_
  obtain ⟨u3, hq4, hF⟩ := zbd_t hF
  refine zgoI (w' := (zC ad k sv kE kR fb u3.2 fs rws nx ct ch ln)) hw hA [3, 4] rfl (zV (As := [.int p0, .int p1]) (rest := []) ⟨hx, hb, hml, hown, hts⟩ (mX2_movePiece l G k (ad 3) (ad 4) H.size u1 p0 p1 u3 hq4) (cwV 2 hts gX4_worthOfMove_X2_movePiece rfl rfl rfl kdX2_movePiece ⟨Nat.le_of_ble_eq_true rfl, Nat.le_of_ble_eq_true rfl⟩) hK hA hw [3, 4] rfl (by decide) 3 rfl rfl rfl rfl hl.1 rfl (Nat.le_of_ble_eq_true rfl) dX4_worthOfMove_17 ⟨Nat.le_of_ble_eq_true rfl, Nat.le_of_ble_eq_true rfl⟩) rfl rfl rfl (fun H locs hw => ?_)
  refine lv_istore_n (lv' := [(3, .int u3.1), (0, .ref (ad 0)), (1, .int p0), (2, .int p1)]) hx hb dX4_worthOfMove_20 rfl hl (by decide) rfl (fun ls hl => ?_)
  refine lv_bipush (v := (10 : Int32)) hx hb dX4_worthOfMove_21 (by decide) ?_
  refine lv_iload_n hx hb dX4_worthOfMove_23 rfl (lv_at hl 0 rfl) ?_
  refine lv_imul hx hb dX4_worthOfMove_24 ?_
  refine lv_aload_n hx hb dX4_worthOfMove_25 rfl (lv_at hl 1 rfl) ?_
  refine va_get (D := G) (ci := 3) (v := .ref (ad 3)) (C := RX4) (T := TX4) (N := 8) hx hb hts inX4_worthOfMove_X4 hown hK.1 hw.1 0 rfl rfl 1 (by decide) (hts (.fieldLink RX4 16 "SealedBoard" "trial" "LSealedBoard$Position;") (by decide +kernel)) (fun _ h9 => h9) rfl dX4_worthOfMove_26 ?_
  refine lv_aload_n hx hb dX4_worthOfMove_29 rfl (lv_at hl 1 rfl) ?_
  refine va_get (D := G) (ci := 3) (v := .ref (ad 1)) (C := RX4) (T := TX4) (N := 8) hx hb hts inX4_worthOfMove_X4 hown hK.1 hw.1 0 rfl rfl 0 (by decide) (hts (.fieldLink RX4 10 "SealedBoard" "board" "LSealedBoard$Position;") (by decide +kernel)) (fun _ h9 => h9) rfl dX4_worthOfMove_30 ?_
  obtain ⟨u5, hq6, hF⟩ := zbd_t hF
  refine zgoI (w' := (zC ad k sv kE kR fb u3.2 fs rws nx ct ch ln)) hw hA [1, 2] rfl (zV (As := []) (rest := [.ref (ad 3), .int ((10 : Int32) * u3.1)]) ⟨hx, hb, hml, hown, hts⟩ (mX2_mover l G k (ad 1) (ad 2) H.size fb  u5 hq6) (cwV 0 hts gX4_worthOfMove_X2_mover rfl rfl rfl kdX2_mover ⟨Nat.le_of_ble_eq_true rfl, Nat.le_of_ble_eq_true rfl⟩) hK hA hw [1, 2] rfl (by decide) 1 rfl rfl rfl rfl hl.1 rfl (Nat.le_of_ble_eq_true rfl) dX4_worthOfMove_33 ⟨Nat.le_of_ble_eq_true rfl, Nat.le_of_ble_eq_true rfl⟩) rfl rfl rfl (fun H locs hw => ?_)
  obtain ⟨u7, hq8, hF⟩ := zbd_t hF
  refine zgoI (w' := (zC ad k sv kE kR fb u3.2 fs rws nx ct ch ln)) hw hA [] rfl (zS (As := [.int u5]) (rest := [.ref (ad 3), .int ((10 : Int32) * u3.1)]) ⟨hx, hb, hml, hown, hts⟩ (mX4_otherSide l G k  H.size  u5 u7 hq8) (va_cwS 1 hts gX4_worthOfMove_X4_otherSide rfl rfl rfl kdX4_otherSide ⟨Nat.le_of_ble_eq_true rfl, Nat.le_of_ble_eq_true rfl⟩) hK hA hw [] rfl (by decide) rfl hl.1 rfl (Nat.le_of_ble_eq_true rfl) dX4_worthOfMove_36 ⟨Nat.le_of_ble_eq_true rfl, Nat.le_of_ble_eq_true rfl⟩) rfl rfl rfl (fun H locs hw => ?_)
  obtain ⟨u9, hq10, hF⟩ := zbd_t hF
  refine zgoI (w' := (zC ad k sv kE kR fb u3.2 fs rws nx ct ch ln)) hw hA [3, 4] rfl (zV (As := [.int u7]) (rest := [.int ((10 : Int32) * u3.1)]) ⟨hx, hb, hml, hown, hts⟩ (mX2_countSealedByRooms l G k (ad 3) (ad 4) H.size u3.2 u7 u9 hq10) (cwV 1 hts gX4_worthOfMove_X2_countSealedByRooms rfl rfl rfl kdX2_countSealedByRooms ⟨Nat.le_of_ble_eq_true rfl, Nat.le_of_ble_eq_true rfl⟩) hK hA hw [3, 4] rfl (by decide) 3 rfl rfl rfl rfl hl.1 rfl (Nat.le_of_ble_eq_true rfl) dX4_worthOfMove_39 ⟨Nat.le_of_ble_eq_true rfl, Nat.le_of_ble_eq_true rfl⟩) rfl rfl rfl (fun H locs hw => ?_)
  refine lv_iadd hx hb dX4_worthOfMove_42 ?_
  obtain rfl := Option.some.inj hF
  exact hret _ _ _ _ rfl hw dX4_worthOfMove_43

/-! SealedBoard.bestMove()I -/
abbrev rmX4_bestMove : Room := { frames := 5, cells := 0, slots := 0, locals := 128 }
theorem kdX4_bestMove : yX4_bestMove.cls = RX4 ∧ yX4_bestMove.cls ≠ "java/lang/invoke/MethodHandle" ∧ yX4_bestMove.cls ≠ "java/lang/invoke/VarHandle" ∧ (parseMethodDescriptor yX4_bestMove.desc).map (fun d => d.parameters.length) = some 0 := by decide +kernel
theorem inX4_bestMove_X4 : ∀ w ∈ u_ws RX4 TX4 8, w ∈ wsX4_bestMove := by decide +kernel
def fX4_bestMove_120 (k23 : (Nat → Int64) → Int64 → Int32 → Int32 → Int32 → Option (Int32 × (Nat → Int64))) (fb : Nat → Int64) (ft : Nat → Int64) (x1 : Int64) (x3 : Int32) (x4 : Int32) (x5 : Int32) : Option (Int32 × (Nat → Int64)) := (zbn (x5 + (1 : Int32)) (fun a1 => (k23 ft x1 x3 x4 a1)))
def fX4_bestMove_114 (k57 : (Nat → Int64) → Int64 → Int32 → Int32 → Int32 → Int64 → Int32 → Option (Int32 × (Nat → Int64))) (fb : Nat → Int64) (ft : Nat → Int64) (x1 : Int64) (x3 : Int32) (x4 : Int32) (x5 : Int32) (x6 : Int64) (x8 : Int32) : Option (Int32 × (Nat → Int64)) := (zbn (x8 + (1 : Int32)) (fun a1 => (k57 ft x1 x3 x4 x5 x6 a1)))
def fX4_bestMove_93 (k57 : (Nat → Int64) → Int64 → Int32 → Int32 → Int32 → Int64 → Int32 → Option (Int32 × (Nat → Int64))) (fb : Nat → Int64) (ft : Nat → Int64) (x1 : Int64) (x3 : Int32) (x4 : Int32) (x5 : Int32) (x6 : Int64) (x8 : Int32) (s0 : Int32) : Option (Int32 × (Nat → Int64)) := (if s0 ≤ x3 then (fX4_bestMove_114 k57 fb  ft x1 x3 x4 x5 x6 x8) else (zbn ((x5 * (36 : Int32)) + x8) (fun a1 => (fX4_bestMove_114 k57 fb  ft x1 s0 a1 x5 x6 x8))))
def fX4_bestMove_57 (k23 : (Nat → Int64) → Int64 → Int32 → Int32 → Int32 → Option (Int32 × (Nat → Int64))) (fb : Nat → Int64) : Nat → (Nat → Int64) → Int64 → Int32 → Int32 → Int32 → Int64 → Int32 → Option (Int32 × (Nat → Int64))
  | 0, _, _, _, _, _, _, _ => none
  | n + 1, ft, x1, x3, x4, x5, x6, x8 => (if (36 : Int32) ≤ x8 then (fX4_bestMove_120 k23 fb  ft x1 x3 x4 x5) else (if (lg_cmp x6 (0 : Int64)) = 0 then (fX4_bestMove_120 k23 fb  ft x1 x3 x4 x5) else (zbd (fX3_has x6 x8) (fun u1 => (if u1 = 0 then (fX4_bestMove_93 (fun b0 b1 b2 b3 b4 b5 b6 => fX4_bestMove_57 k23 fb n b0 b1 b2 b3 b4 b5 b6) fb  ft x1 x3 x4 x5 x6 x8 (-1 : Int32)) else (zbd (fX4_worthOfMove fb ft x5 x8) (fun u3 => (fX4_bestMove_93 (fun b0 b1 b2 b3 b4 b5 b6 => fX4_bestMove_57 k23 fb n b0 b1 b2 b3 b4 b5 b6) fb  u3.2 x1 x3 x4 x5 x6 x8 u3.1))))))))
def fX4_bestMove_52 (k23 : (Nat → Int64) → Int64 → Int32 → Int32 → Int32 → Option (Int32 × (Nat → Int64))) (fb : Nat → Int64) (ft : Nat → Int64) (x1 : Int64) (x3 : Int32) (x4 : Int32) (x5 : Int32) (s0 : Int64) : Option (Int32 × (Nat → Int64)) := (fX4_bestMove_57 k23 fb zFu ft x1 x3 x4 x5 s0 (0 : Int32))
def fX4_bestMove_23  (fb : Nat → Int64) : Nat → (Nat → Int64) → Int64 → Int32 → Int32 → Int32 → Option (Int32 × (Nat → Int64))
  | 0, _, _, _, _, _ => none
  | n + 1, ft, x1, x3, x4, x5 => (if (36 : Int32) ≤ x5 then (some (x4, ft)) else (zbd (fX3_has x1 x5) (fun u1 => (if u1 = 0 then (fX4_bestMove_52 (fun b0 b1 b2 b3 b4 => fX4_bestMove_23  fb n b0 b1 b2 b3 b4) fb  ft x1 x3 x4 x5 (0 : Int64)) else (zbd (fX2_targetsOf fb x5) (fun u3 => (fX4_bestMove_52 (fun b0 b1 b2 b3 b4 => fX4_bestMove_23  fb n b0 b1 b2 b3 b4) fb  ft x1 x3 x4 x5 u3)))))))
def fX4_bestMove (fb : Nat → Int64) (ft : Nat → Int64) : Option (Int32 × (Nat → Int64)) := (zbd (fX2_mover fb) (fun u1 => (zbd (fX2_piecesOf fb u1) (fun u3 => (fX4_bestMove_23  fb zFu ft u3 (-1 : Int32) (-1 : Int32) (0 : Int32))))))
set_option maxHeartbeats 400000 in
set_option maxRecDepth 100000 in
theorem wX4_bestMove_120 {p : Program} {l : Launch} {e : Env} {s : State} {m : MethodId} {args : Array Value} {below : List Frame} {meth : Method} {c : Code} {A : Nat → Prop} {Q : State → Prop} {G : va_G} {k : Nat → ClassId} {ad : Nat → Nat} {sv : Int32} {kE : Int32} {kR : Int32} {fb : Nat → Int64} {fs : Nat → Int64} {rws : Nat → Int64} {nx : Int32} {ct : Int32} {ch : Nat → Int32} {ln : Int32} {o : Int32 × (Nat → Int64)} (C0 : zCx p s m args meth c wsX4_bestMove cX4_bestMove RX4 (some .int) 10) (hK : zKK G k A s s.heap) (hA : ∀ q : Nat, s.heap.size ≤ q → A q) (hret : zRI p l e rmX4_bestMove s m args below meth c cX4_bestMove G A 0 0 Q .int (zC ad k sv kE kR fb o.2 fs rws nx ct ch ln) o.1) (k23 : (Nat → Int64) → Int64 → Int32 → Int32 → Int32 → Option (Int32 × (Nat → Int64))) (hk23 : ∀ (ft : Nat → Int64) (x1 : Int64) (x3 : Int32) (x4 : Int32) (x5 : Int32), k23 ft x1 x3 x4 x5 = some o → ∀ (H : Heap) (locs : List Loc) (ls : Array Slot), zWd G A s (zC ad k sv kE kR fb ft fs rws nx ct ch ln) H locs → lv_has ls 10 [(0, .ref (ad 0)), (1, .long x1), (3, .int x3), (4, .int x4), (5, .int x5)] → W p l e rmX4_bestMove s m args below meth c H locs 0 0 Q (F0 m 23 ls [])) : ∀ (ft : Nat → Int64) (x1 : Int64) (x3 : Int32) (x4 : Int32) (x5 : Int32), fX4_bestMove_120 k23 fb ft x1 x3 x4 x5 = some o → ∀ (H : Heap) (locs : List Loc) (ls : Array Slot), zWd G A s (zC ad k sv kE kR fb ft fs rws nx ct ch ln) H locs → lv_has ls 10 [(0, .ref (ad 0)), (1, .long x1), (3, .int x3), (4, .int x4), (5, .int x5)] → W p l e rmX4_bestMove s m args below meth c H locs 0 0 Q (F0 m 120 ls []) := by
  obtain ⟨hx, hb, hr, hml, hown, hts, hlocks⟩ := id C0
  intro ft x1 x3 x4 x5 hF H locs ls hw hl
  unfold fX4_bestMove_120 at hF
  obtain ⟨a1, ea1⟩ : ∃ z : Int32, z = x5 + (1 : Int32) := ⟨_, rfl⟩
  have hF := zbn_t ea1 hF
  refine lv_iinc (v := a1) (lv' := [(5, .int a1), (0, .ref (ad 0)), (1, .long x1), (3, .int x3), (4, .int x4)]) hx hb dX4_bestMove_120 hl (k := 4) rfl (by rw [ea1]; rfl) (by decide) rfl (fun ls hl => ?_)
  refine lv_goto (tgt := 23) hx hb dX4_bestMove_123 (by decide) ?_
  exact hk23 _ _ _ _ _ hF _ _ _ hw (lv_sub hl [1, 2, 3, 4, 0] rfl)
set_option maxHeartbeats 400000 in
set_option maxRecDepth 100000 in
theorem wX4_bestMove_114 {p : Program} {l : Launch} {e : Env} {s : State} {m : MethodId} {args : Array Value} {below : List Frame} {meth : Method} {c : Code} {A : Nat → Prop} {Q : State → Prop} {G : va_G} {k : Nat → ClassId} {ad : Nat → Nat} {sv : Int32} {kE : Int32} {kR : Int32} {fb : Nat → Int64} {fs : Nat → Int64} {rws : Nat → Int64} {nx : Int32} {ct : Int32} {ch : Nat → Int32} {ln : Int32} {o : Int32 × (Nat → Int64)} (C0 : zCx p s m args meth c wsX4_bestMove cX4_bestMove RX4 (some .int) 10) (hK : zKK G k A s s.heap) (hA : ∀ q : Nat, s.heap.size ≤ q → A q) (hret : zRI p l e rmX4_bestMove s m args below meth c cX4_bestMove G A 0 0 Q .int (zC ad k sv kE kR fb o.2 fs rws nx ct ch ln) o.1) (k57 : (Nat → Int64) → Int64 → Int32 → Int32 → Int32 → Int64 → Int32 → Option (Int32 × (Nat → Int64))) (hk57 : ∀ (ft : Nat → Int64) (x1 : Int64) (x3 : Int32) (x4 : Int32) (x5 : Int32) (x6 : Int64) (x8 : Int32), k57 ft x1 x3 x4 x5 x6 x8 = some o → ∀ (H : Heap) (locs : List Loc) (ls : Array Slot), zWd G A s (zC ad k sv kE kR fb ft fs rws nx ct ch ln) H locs → lv_has ls 10 [(0, .ref (ad 0)), (1, .long x1), (3, .int x3), (4, .int x4), (5, .int x5), (6, .long x6), (8, .int x8)] → W p l e rmX4_bestMove s m args below meth c H locs 0 0 Q (F0 m 57 ls [])) : ∀ (ft : Nat → Int64) (x1 : Int64) (x3 : Int32) (x4 : Int32) (x5 : Int32) (x6 : Int64) (x8 : Int32), fX4_bestMove_114 k57 fb ft x1 x3 x4 x5 x6 x8 = some o → ∀ (H : Heap) (locs : List Loc) (ls : Array Slot), zWd G A s (zC ad k sv kE kR fb ft fs rws nx ct ch ln) H locs → lv_has ls 10 [(0, .ref (ad 0)), (1, .long x1), (3, .int x3), (4, .int x4), (5, .int x5), (6, .long x6), (8, .int x8)] → W p l e rmX4_bestMove s m args below meth c H locs 0 0 Q (F0 m 114 ls []) := by
  obtain ⟨hx, hb, hr, hml, hown, hts, hlocks⟩ := id C0
  intro ft x1 x3 x4 x5 x6 x8 hF H locs ls hw hl
  unfold fX4_bestMove_114 at hF
  obtain ⟨a1, ea1⟩ : ∃ z : Int32, z = x8 + (1 : Int32) := ⟨_, rfl⟩
  have hF := zbn_t ea1 hF
  refine lv_iinc (v := a1) (lv' := [(8, .int a1), (0, .ref (ad 0)), (1, .long x1), (3, .int x3), (4, .int x4), (5, .int x5), (6, .long x6)]) hx hb dX4_bestMove_114 hl (k := 6) rfl (by rw [ea1]; rfl) (by decide) rfl (fun ls hl => ?_)
  refine lv_goto (tgt := 57) hx hb dX4_bestMove_117 (by decide) ?_
  exact hk57 _ _ _ _ _ _ _ hF _ _ _ hw (lv_sub hl [1, 2, 3, 4, 5, 6, 0] rfl)
set_option maxHeartbeats 400000 in
set_option maxRecDepth 100000 in
theorem wX4_bestMove_93 {p : Program} {l : Launch} {e : Env} {s : State} {m : MethodId} {args : Array Value} {below : List Frame} {meth : Method} {c : Code} {A : Nat → Prop} {Q : State → Prop} {G : va_G} {k : Nat → ClassId} {ad : Nat → Nat} {sv : Int32} {kE : Int32} {kR : Int32} {fb : Nat → Int64} {fs : Nat → Int64} {rws : Nat → Int64} {nx : Int32} {ct : Int32} {ch : Nat → Int32} {ln : Int32} {o : Int32 × (Nat → Int64)} (C0 : zCx p s m args meth c wsX4_bestMove cX4_bestMove RX4 (some .int) 10) (hK : zKK G k A s s.heap) (hA : ∀ q : Nat, s.heap.size ≤ q → A q) (hret : zRI p l e rmX4_bestMove s m args below meth c cX4_bestMove G A 0 0 Q .int (zC ad k sv kE kR fb o.2 fs rws nx ct ch ln) o.1) (k57 : (Nat → Int64) → Int64 → Int32 → Int32 → Int32 → Int64 → Int32 → Option (Int32 × (Nat → Int64))) (hk57 : ∀ (ft : Nat → Int64) (x1 : Int64) (x3 : Int32) (x4 : Int32) (x5 : Int32) (x6 : Int64) (x8 : Int32), k57 ft x1 x3 x4 x5 x6 x8 = some o → ∀ (H : Heap) (locs : List Loc) (ls : Array Slot), zWd G A s (zC ad k sv kE kR fb ft fs rws nx ct ch ln) H locs → lv_has ls 10 [(0, .ref (ad 0)), (1, .long x1), (3, .int x3), (4, .int x4), (5, .int x5), (6, .long x6), (8, .int x8)] → W p l e rmX4_bestMove s m args below meth c H locs 0 0 Q (F0 m 57 ls [])) : ∀ (ft : Nat → Int64) (x1 : Int64) (x3 : Int32) (x4 : Int32) (x5 : Int32) (x6 : Int64) (x8 : Int32) (s0 : Int32), fX4_bestMove_93 k57 fb ft x1 x3 x4 x5 x6 x8 s0 = some o → ∀ (H : Heap) (locs : List Loc) (ls : Array Slot), zWd G A s (zC ad k sv kE kR fb ft fs rws nx ct ch ln) H locs → lv_has ls 10 [(0, .ref (ad 0)), (1, .long x1), (3, .int x3), (4, .int x4), (5, .int x5), (6, .long x6), (8, .int x8)] → W p l e rmX4_bestMove s m args below meth c H locs 0 0 Q (F0 m 93 ls [.int s0]) := by
  obtain ⟨hx, hb, hr, hml, hown, hts, hlocks⟩ := id C0
  intro ft x1 x3 x4 x5 x6 x8 s0 hF H locs ls hw hl
  unfold fX4_bestMove_93 at hF
  refine lv_istore (lv' := [(9, .int s0), (0, .ref (ad 0)), (1, .long x1), (3, .int x3), (4, .int x4), (5, .int x5), (6, .long x6), (8, .int x8)]) hx hb dX4_bestMove_93 hl (by decide) rfl (fun ls hl => ?_)
  refine lv_iload hx hb dX4_bestMove_95 (lv_at hl 0 rfl) ?_
  refine lv_iload_n hx hb dX4_bestMove_97 rfl (lv_at hl 3 rfl) ?_
  refine lv_icmp_le (tgt := 114) hx hb dX4_bestMove_98 (by decide) (fun hc => ?_) (fun hc => ?_)
  · have hF := zif_t hc hF
    exact wX4_bestMove_114 C0 hK hA hret k57 hk57  _ _ _ _ _ _ _ hF _ _ _ hw (lv_sub hl [1, 2, 3, 4, 5, 6, 7] rfl)
  · have hF := zif_f hc hF
    refine lv_iload hx hb dX4_bestMove_101 (lv_at hl 0 rfl) ?_
    refine lv_istore_n (lv' := [(3, .int s0), (9, .int s0), (0, .ref (ad 0)), (1, .long x1), (4, .int x4), (5, .int x5), (6, .long x6), (8, .int x8)]) hx hb dX4_bestMove_103 rfl hl (by decide) rfl (fun ls hl => ?_)
    refine lv_iload hx hb dX4_bestMove_104 (lv_at hl 5 rfl) ?_
    refine lv_bipush (v := (36 : Int32)) hx hb dX4_bestMove_106 (by decide) ?_
    refine lv_imul hx hb dX4_bestMove_108 ?_
    refine lv_iload hx hb dX4_bestMove_109 (lv_at hl 7 rfl) ?_
    refine lv_iadd hx hb dX4_bestMove_111 ?_
    refine lv_topi (fun a1 ea1 => ?_)
    have hF := zbn_t ea1 hF
    refine lv_istore (lv' := [(4, .int a1), (3, .int s0), (9, .int s0), (0, .ref (ad 0)), (1, .long x1), (5, .int x5), (6, .long x6), (8, .int x8)]) hx hb dX4_bestMove_112 hl (by decide) rfl (fun ls hl => ?_)
    exact wX4_bestMove_114 C0 hK hA hret k57 hk57  _ _ _ _ _ _ _ hF _ _ _ hw (lv_sub hl [3, 4, 1, 0, 5, 6, 7] rfl)
set_option maxHeartbeats 400000 in
set_option maxRecDepth 100000 in
theorem wX4_bestMove_57 {p : Program} {l : Launch} {e : Env} {s : State} {m : MethodId} {args : Array Value} {below : List Frame} {meth : Method} {c : Code} {A : Nat → Prop} {Q : State → Prop} {G : va_G} {k : Nat → ClassId} {ad : Nat → Nat} {sv : Int32} {kE : Int32} {kR : Int32} {fb : Nat → Int64} {fs : Nat → Int64} {rws : Nat → Int64} {nx : Int32} {ct : Int32} {ch : Nat → Int32} {ln : Int32} {o : Int32 × (Nat → Int64)} (C0 : zCx p s m args meth c wsX4_bestMove cX4_bestMove RX4 (some .int) 10) (hK : zKK G k A s s.heap) (hA : ∀ q : Nat, s.heap.size ≤ q → A q) (hret : zRI p l e rmX4_bestMove s m args below meth c cX4_bestMove G A 0 0 Q .int (zC ad k sv kE kR fb o.2 fs rws nx ct ch ln) o.1) (k23 : (Nat → Int64) → Int64 → Int32 → Int32 → Int32 → Option (Int32 × (Nat → Int64))) (hk23 : ∀ (ft : Nat → Int64) (x1 : Int64) (x3 : Int32) (x4 : Int32) (x5 : Int32), k23 ft x1 x3 x4 x5 = some o → ∀ (H : Heap) (locs : List Loc) (ls : Array Slot), zWd G A s (zC ad k sv kE kR fb ft fs rws nx ct ch ln) H locs → lv_has ls 10 [(0, .ref (ad 0)), (1, .long x1), (3, .int x3), (4, .int x4), (5, .int x5)] → W p l e rmX4_bestMove s m args below meth c H locs 0 0 Q (F0 m 23 ls [])) : ∀ (n : Nat) (ft : Nat → Int64) (x1 : Int64) (x3 : Int32) (x4 : Int32) (x5 : Int32) (x6 : Int64) (x8 : Int32), fX4_bestMove_57 k23 fb n ft x1 x3 x4 x5 x6 x8 = some o → ∀ (H : Heap) (locs : List Loc) (ls : Array Slot), zWd G A s (zC ad k sv kE kR fb ft fs rws nx ct ch ln) H locs → lv_has ls 10 [(0, .ref (ad 0)), (1, .long x1), (3, .int x3), (4, .int x4), (5, .int x5), (6, .long x6), (8, .int x8)] → W p l e rmX4_bestMove s m args below meth c H locs 0 0 Q (F0 m 57 ls []) := by
  obtain ⟨hx, hb, hr, hml, hown, hts, hlocks⟩ := id C0
  intro n
  induction n with
  | zero => intro ft x1 x3 x4 x5 x6 x8 hF; exact nomatch hF
  | succ n ih =>
    intro ft x1 x3 x4 x5 x6 x8 hF H locs ls hw hl
    rw [fX4_bestMove_57] at hF
    refine lv_iload hx hb dX4_bestMove_57 (lv_at hl 6 rfl) ?_
    refine lv_bipush (v := (36 : Int32)) hx hb dX4_bestMove_59 (by decide) ?_
    refine lv_icmp_ge (tgt := 120) hx hb dX4_bestMove_61 (by decide) (fun hc => ?_) (fun hc => ?_)
    · have hF := zif_t hc hF
      exact wX4_bestMove_120 C0 hK hA hret k23 hk23  _ _ _ _ _ hF _ _ _ hw (lv_sub hl [0, 1, 2, 3, 4] rfl)
    · have hF := zif_f hc hF
      refine lv_lload hx hb dX4_bestMove_64 (lv_at hl 5 rfl) ?_
      refine lv_lconst (v := (0 : Int64)) hx hb dX4_bestMove_66 (by decide) ?_
      refine W.lcmp hx hb dX4_bestMove_67 ?_
      refine lv_if_eq (tgt := 120) hx hb dX4_bestMove_68 (by decide) (fun hc => ?_) (fun hc => ?_)
      · have hF := zif_t hc hF
        exact wX4_bestMove_120 C0 hK hA hret k23 hk23  _ _ _ _ _ hF _ _ _ hw (lv_sub hl [0, 1, 2, 3, 4] rfl)
      · have hF := zif_f hc hF
        refine lv_lload hx hb dX4_bestMove_71 (lv_at hl 5 rfl) ?_
        refine lv_iload hx hb dX4_bestMove_73 (lv_at hl 6 rfl) ?_
        obtain ⟨u1, hq2, hF⟩ := zbd_t hF
        refine zgoI (w' := (zC ad k sv kE kR fb ft fs rws nx ct ch ln)) hw hA [] rfl (zS (As := [.long x6, .int x8]) (rest := []) ⟨hx, hb, hml, hown, hts⟩ (mX3_has l G k  H.size  x6 x8 u1 hq2) (va_cwS 2 hts gX4_bestMove_X3_has rfl rfl rfl kdX3_has ⟨Nat.le_of_ble_eq_true rfl, Nat.le_of_ble_eq_true rfl⟩) hK hA hw [] rfl (by decide) rfl hl.1 rfl (Nat.le_of_ble_eq_true rfl) dX4_bestMove_75 ⟨Nat.le_of_ble_eq_true rfl, Nat.le_of_ble_eq_true rfl⟩) rfl rfl rfl (fun H locs hw => ?_)
        refine lv_if_eq (tgt := 92) hx hb dX4_bestMove_78 (by decide) (fun hc => ?_) (fun hc => ?_)
        · have hF := zif_t hc hF
          refine lv_iconst (v := (-1 : Int32)) hx hb dX4_bestMove_92 (by decide) ?_
          exact wX4_bestMove_93 C0 hK hA hret (fun b0 b1 b2 b3 b4 b5 b6 => fX4_bestMove_57 k23 fb n b0 b1 b2 b3 b4 b5 b6) ih  _ _ _ _ _ _ _ _ hF _ _ _ hw (lv_sub hl [0, 1, 2, 3, 4, 5, 6] rfl)
        · have hF := zif_f hc hF
          refine lv_aload_n hx hb dX4_bestMove_81 rfl (lv_at hl 0 rfl) ?_
          refine lv_iload hx hb dX4_bestMove_82 (lv_at hl 4 rfl) ?_
          refine lv_iload hx hb dX4_bestMove_84 (lv_at hl 6 rfl) ?_
          obtain ⟨u3, hq4, hF⟩ := zbd_t hF
          refine zgoIw (w' := (zC ad k sv kE kR fb u3.2 fs rws nx ct ch ln)) hw hA (zVw (As := [.int x5, .int x8]) (rest := []) ⟨hx, hb, hml, hown, hts⟩ (mX4_worthOfMove l G k ad H.size sv kE kR fb ft fs rws nx ct ch ln x5 x8 u3 hq4) (cwV 2 hts gX4_bestMove_X4_worthOfMove rfl rfl rfl kdX4_worthOfMove ⟨Nat.le_of_ble_eq_true rfl, Nat.le_of_ble_eq_true rfl⟩) hK hA hw 0 rfl rfl rfl rfl hl.1 rfl (Nat.le_of_ble_eq_true rfl) dX4_bestMove_86 ⟨Nat.le_of_ble_eq_true rfl, Nat.le_of_ble_eq_true rfl⟩) (fun H locs hw => ?_)
          refine lv_goto (tgt := 93) hx hb dX4_bestMove_89 (by decide) ?_
          exact wX4_bestMove_93 C0 hK hA hret (fun b0 b1 b2 b3 b4 b5 b6 => fX4_bestMove_57 k23 fb n b0 b1 b2 b3 b4 b5 b6) ih  _ _ _ _ _ _ _ _ hF _ _ _ hw (lv_sub hl [0, 1, 2, 3, 4, 5, 6] rfl)
set_option maxHeartbeats 400000 in
set_option maxRecDepth 100000 in
theorem wX4_bestMove_52 {p : Program} {l : Launch} {e : Env} {s : State} {m : MethodId} {args : Array Value} {below : List Frame} {meth : Method} {c : Code} {A : Nat → Prop} {Q : State → Prop} {G : va_G} {k : Nat → ClassId} {ad : Nat → Nat} {sv : Int32} {kE : Int32} {kR : Int32} {fb : Nat → Int64} {fs : Nat → Int64} {rws : Nat → Int64} {nx : Int32} {ct : Int32} {ch : Nat → Int32} {ln : Int32} {o : Int32 × (Nat → Int64)} (C0 : zCx p s m args meth c wsX4_bestMove cX4_bestMove RX4 (some .int) 10) (hK : zKK G k A s s.heap) (hA : ∀ q : Nat, s.heap.size ≤ q → A q) (hret : zRI p l e rmX4_bestMove s m args below meth c cX4_bestMove G A 0 0 Q .int (zC ad k sv kE kR fb o.2 fs rws nx ct ch ln) o.1) (k23 : (Nat → Int64) → Int64 → Int32 → Int32 → Int32 → Option (Int32 × (Nat → Int64))) (hk23 : ∀ (ft : Nat → Int64) (x1 : Int64) (x3 : Int32) (x4 : Int32) (x5 : Int32), k23 ft x1 x3 x4 x5 = some o → ∀ (H : Heap) (locs : List Loc) (ls : Array Slot), zWd G A s (zC ad k sv kE kR fb ft fs rws nx ct ch ln) H locs → lv_has ls 10 [(0, .ref (ad 0)), (1, .long x1), (3, .int x3), (4, .int x4), (5, .int x5)] → W p l e rmX4_bestMove s m args below meth c H locs 0 0 Q (F0 m 23 ls [])) : ∀ (ft : Nat → Int64) (x1 : Int64) (x3 : Int32) (x4 : Int32) (x5 : Int32) (s0 : Int64), fX4_bestMove_52 k23 fb ft x1 x3 x4 x5 s0 = some o → ∀ (H : Heap) (locs : List Loc) (ls : Array Slot), zWd G A s (zC ad k sv kE kR fb ft fs rws nx ct ch ln) H locs → lv_has ls 10 [(0, .ref (ad 0)), (1, .long x1), (3, .int x3), (4, .int x4), (5, .int x5)] → W p l e rmX4_bestMove s m args below meth c H locs 0 0 Q (F0 m 52 ls [.long s0]) := by
  obtain ⟨hx, hb, hr, hml, hown, hts, hlocks⟩ := id C0
  intro ft x1 x3 x4 x5 s0 hF H locs ls hw hl
  unfold fX4_bestMove_52 at hF
  refine lv_lstore (lv' := [(6, .long s0), (0, .ref (ad 0)), (1, .long x1), (3, .int x3), (4, .int x4), (5, .int x5)]) hx hb dX4_bestMove_52 hl (by decide) rfl (fun ls hl => ?_)
  refine lv_iconst (v := (0 : Int32)) hx hb dX4_bestMove_54 (by decide) ?_
  refine lv_istore (lv' := [(8, .int (0 : Int32)), (6, .long s0), (0, .ref (ad 0)), (1, .long x1), (3, .int x3), (4, .int x4), (5, .int x5)]) hx hb dX4_bestMove_55 hl (by decide) rfl (fun ls hl => ?_)
  exact wX4_bestMove_57 C0 hK hA hret k23 hk23 zFu _ _ _ _ _ _ _ hF _ _ _ hw (lv_sub hl [2, 3, 4, 5, 6, 1, 0] rfl)
set_option maxHeartbeats 400000 in
set_option maxRecDepth 100000 in
theorem wX4_bestMove_23 {p : Program} {l : Launch} {e : Env} {s : State} {m : MethodId} {args : Array Value} {below : List Frame} {meth : Method} {c : Code} {A : Nat → Prop} {Q : State → Prop} {G : va_G} {k : Nat → ClassId} {ad : Nat → Nat} {sv : Int32} {kE : Int32} {kR : Int32} {fb : Nat → Int64} {fs : Nat → Int64} {rws : Nat → Int64} {nx : Int32} {ct : Int32} {ch : Nat → Int32} {ln : Int32} {o : Int32 × (Nat → Int64)} (C0 : zCx p s m args meth c wsX4_bestMove cX4_bestMove RX4 (some .int) 10) (hK : zKK G k A s s.heap) (hA : ∀ q : Nat, s.heap.size ≤ q → A q) (hret : zRI p l e rmX4_bestMove s m args below meth c cX4_bestMove G A 0 0 Q .int (zC ad k sv kE kR fb o.2 fs rws nx ct ch ln) o.1)  : ∀ (n : Nat) (ft : Nat → Int64) (x1 : Int64) (x3 : Int32) (x4 : Int32) (x5 : Int32), fX4_bestMove_23  fb n ft x1 x3 x4 x5 = some o → ∀ (H : Heap) (locs : List Loc) (ls : Array Slot), zWd G A s (zC ad k sv kE kR fb ft fs rws nx ct ch ln) H locs → lv_has ls 10 [(0, .ref (ad 0)), (1, .long x1), (3, .int x3), (4, .int x4), (5, .int x5)] → W p l e rmX4_bestMove s m args below meth c H locs 0 0 Q (F0 m 23 ls []) := by
  obtain ⟨hx, hb, hr, hml, hown, hts, hlocks⟩ := id C0
  intro n
  induction n with
  | zero => intro ft x1 x3 x4 x5 hF; exact nomatch hF
  | succ n ih =>
    intro ft x1 x3 x4 x5 hF H locs ls hw hl
    rw [fX4_bestMove_23] at hF
    refine lv_iload hx hb dX4_bestMove_23 (lv_at hl 4 rfl) ?_
    refine lv_bipush (v := (36 : Int32)) hx hb dX4_bestMove_25 (by decide) ?_
    refine lv_icmp_ge (tgt := 126) hx hb dX4_bestMove_27 (by decide) (fun hc => ?_) (fun hc => ?_)
    · have hF := zif_t hc hF
      refine lv_iload hx hb dX4_bestMove_126 (lv_at hl 3 rfl) ?_
      obtain rfl := Option.some.inj hF
      exact hret _ _ _ _ rfl hw dX4_bestMove_128
    · have hF := zif_f hc hF
      refine lv_lload_n hx hb dX4_bestMove_30 rfl (lv_at hl 1 rfl) ?_
      refine lv_iload hx hb dX4_bestMove_31 (lv_at hl 4 rfl) ?_
      obtain ⟨u1, hq2, hF⟩ := zbd_t hF
      refine zgoI (w' := (zC ad k sv kE kR fb ft fs rws nx ct ch ln)) hw hA [] rfl (zS (As := [.long x1, .int x5]) (rest := []) ⟨hx, hb, hml, hown, hts⟩ (mX3_has l G k  H.size  x1 x5 u1 hq2) (va_cwS 2 hts gX4_bestMove_X3_has rfl rfl rfl kdX3_has ⟨Nat.le_of_ble_eq_true rfl, Nat.le_of_ble_eq_true rfl⟩) hK hA hw [] rfl (by decide) rfl hl.1 rfl (Nat.le_of_ble_eq_true rfl) dX4_bestMove_33 ⟨Nat.le_of_ble_eq_true rfl, Nat.le_of_ble_eq_true rfl⟩) rfl rfl rfl (fun H locs hw => ?_)
      refine lv_if_eq (tgt := 51) hx hb dX4_bestMove_36 (by decide) (fun hc => ?_) (fun hc => ?_)
      · have hF := zif_t hc hF
        refine lv_lconst (v := (0 : Int64)) hx hb dX4_bestMove_51 (by decide) ?_
        exact wX4_bestMove_52 C0 hK hA hret (fun b0 b1 b2 b3 b4 => fX4_bestMove_23  fb n b0 b1 b2 b3 b4) ih  _ _ _ _ _ _ hF _ _ _ hw (lv_sub hl [0, 1, 2, 3, 4] rfl)
      · have hF := zif_f hc hF
        refine lv_aload_n hx hb dX4_bestMove_39 rfl (lv_at hl 0 rfl) ?_
        refine va_get (D := G) (ci := 3) (v := .ref (ad 1)) (C := RX4) (T := TX4) (N := 8) hx hb hts inX4_bestMove_X4 hown hK.1 hw.1 0 rfl rfl 0 (by decide) (hts (.fieldLink RX4 10 "SealedBoard" "board" "LSealedBoard$Position;") (by decide +kernel)) (fun _ h9 => h9) rfl dX4_bestMove_40 ?_
        refine lv_iload hx hb dX4_bestMove_43 (lv_at hl 4 rfl) ?_
        obtain ⟨u3, hq4, hF⟩ := zbd_t hF
        refine zgoL (w' := (zC ad k sv kE kR fb ft fs rws nx ct ch ln)) hw hA [1, 2] rfl (zV (As := [.int x5]) (rest := []) ⟨hx, hb, hml, hown, hts⟩ (mX2_targetsOf l G k (ad 1) (ad 2) H.size fb x5 u3 hq4) (cwV 1 hts gX4_bestMove_X2_targetsOf rfl rfl rfl kdX2_targetsOf ⟨Nat.le_of_ble_eq_true rfl, Nat.le_of_ble_eq_true rfl⟩) hK hA hw [1, 2] rfl (by decide) 1 rfl rfl rfl rfl hl.1 rfl (Nat.le_of_ble_eq_true rfl) dX4_bestMove_45 ⟨Nat.le_of_ble_eq_true rfl, Nat.le_of_ble_eq_true rfl⟩) rfl rfl rfl (fun H locs hw => ?_)
        refine lv_goto (tgt := 52) hx hb dX4_bestMove_48 (by decide) ?_
        exact wX4_bestMove_52 C0 hK hA hret (fun b0 b1 b2 b3 b4 => fX4_bestMove_23  fb n b0 b1 b2 b3 b4) ih  _ _ _ _ _ _ hF _ _ _ hw (lv_sub hl [0, 1, 2, 3, 4] rfl)
set_option maxHeartbeats 400000 in
set_option maxRecDepth 100000 in
theorem mX4_bestMove (l : Launch) (G : va_G) (k : Nat → ClassId) (ad : Nat → Nat) (sz : Nat) (sv : Int32) (kE : Int32) (kR : Int32) (fb : Nat → Int64) (ft : Nat → Int64) (fs : Nat → Int64) (rws : Nat → Int64) (nx : Int32) (ct : Int32) (ch : Nat → Int32) (ln : Int32)  (o : Int32 × (Nat → Int64)) (hF : fX4_bestMove fb ft = some o) : zMI l yX4_bestMove wsX4_bestMove rmX4_bestMove G k (zC ad k sv kE kR fb ft fs rws nx ct ch ln) sz [.ref (ad 0)] o.1 (zC ad k sv kE kR fb o.2 fs rws nx ct ch ln) := by
  refine zof_I (cc := cX4_bestMove) (nL := 10) (own := RX4) (rt := .int) (by decide) rfl rfl (Nat.le_of_ble_eq_true rfl) ?_
  intro p e s m args below meth c A Q C0 hK hA hret ls hl hw
  have hl : lv_has ls 10 [(0, .ref (ad 0))] := hl
  obtain ⟨hx, hb, hr, hml, hown, hts, hlocks⟩ := id C0
  obtain ⟨H, hH⟩ : ∃ z, z = s.heap := ⟨_, rfl⟩
  rw [← hH] at hw ⊢
  unfold fX4_bestMove at hF
  refine lv_aload_n hx hb dX4_bestMove_0 rfl (lv_at hl 0 rfl) ?_
  refine va_get (D := G) (ci := 3) (v := .ref (ad 1)) (C := RX4) (T := TX4) (N := 8) hx hb hts inX4_bestMove_X4 hown hK.1 hw.1 0 rfl rfl 0 (by decide) (hts (.fieldLink RX4 10 "SealedBoard" "board" "LSealedBoard$Position;") (by decide +kernel)) (fun _ h9 => h9) rfl dX4_bestMove_1 ?_
  refine lv_aload_n hx hb dX4_bestMove_4 rfl (lv_at hl 0 rfl) ?_
  refine va_get (D := G) (ci := 3) (v := .ref (ad 1)) (C := RX4) (T := TX4) (N := 8) hx hb hts inX4_bestMove_X4 hown hK.1 hw.1 0 rfl rfl 0 (by decide) (hts (.fieldLink RX4 10 "SealedBoard" "board" "LSealedBoard$Position;") (by decide +kernel)) (fun _ h9 => h9) rfl dX4_bestMove_5 ?_
  obtain ⟨u1, hq2, hF⟩ := zbd_t hF
  refine zgoI (w' := (zC ad k sv kE kR fb ft fs rws nx ct ch ln)) hw hA [1, 2] rfl (zV (As := []) (rest := [.ref (ad 1)]) ⟨hx, hb, hml, hown, hts⟩ (mX2_mover l G k (ad 1) (ad 2) H.size fb  u1 hq2) (cwV 0 hts gX4_bestMove_X2_mover rfl rfl rfl kdX2_mover ⟨Nat.le_of_ble_eq_true rfl, Nat.le_of_ble_eq_true rfl⟩) hK hA hw [1, 2] rfl (by decide) 1 rfl rfl rfl rfl hl.1 rfl (Nat.le_of_ble_eq_true rfl) dX4_bestMove_8 ⟨Nat.le_of_ble_eq_true rfl, Nat.le_of_ble_eq_true rfl⟩) rfl rfl rfl (fun H locs hw => ?_)
  obtain ⟨u3, hq4, hF⟩ := zbd_t hF
  refine zgoL (w' := (zC ad k sv kE kR fb ft fs rws nx ct ch ln)) hw hA [1, 2] rfl (zV (As := [.int u1]) (rest := []) ⟨hx, hb, hml, hown, hts⟩ (mX2_piecesOf l G k (ad 1) (ad 2) H.size fb u1 u3 hq4) (cwV 1 hts gX4_bestMove_X2_piecesOf rfl rfl rfl kdX2_piecesOf ⟨Nat.le_of_ble_eq_true rfl, Nat.le_of_ble_eq_true rfl⟩) hK hA hw [1, 2] rfl (by decide) 1 rfl rfl rfl rfl hl.1 rfl (Nat.le_of_ble_eq_true rfl) dX4_bestMove_11 ⟨Nat.le_of_ble_eq_true rfl, Nat.le_of_ble_eq_true rfl⟩) rfl rfl rfl (fun H locs hw => ?_)
  refine lv_lstore_n (lv' := [(1, .long u3), (0, .ref (ad 0))]) hx hb dX4_bestMove_14 rfl hl (by decide) rfl (fun ls hl => ?_)
  refine lv_iconst (v := (-1 : Int32)) hx hb dX4_bestMove_15 (by decide) ?_
  refine lv_istore_n (lv' := [(3, .int (-1 : Int32)), (1, .long u3), (0, .ref (ad 0))]) hx hb dX4_bestMove_16 rfl hl (by decide) rfl (fun ls hl => ?_)
  refine lv_iconst (v := (-1 : Int32)) hx hb dX4_bestMove_17 (by decide) ?_
  refine lv_istore (lv' := [(4, .int (-1 : Int32)), (3, .int (-1 : Int32)), (1, .long u3), (0, .ref (ad 0))]) hx hb dX4_bestMove_18 hl (by decide) rfl (fun ls hl => ?_)
  refine lv_iconst (v := (0 : Int32)) hx hb dX4_bestMove_20 (by decide) ?_
  refine lv_istore (lv' := [(5, .int (0 : Int32)), (4, .int (-1 : Int32)), (3, .int (-1 : Int32)), (1, .long u3), (0, .ref (ad 0))]) hx hb dX4_bestMove_21 hl (by decide) rfl (fun ls hl => ?_)
  exact wX4_bestMove_23 C0 hK hA hret  zFu _ _ _ _ _ hF _ _ _ hw (lv_sub hl [4, 3, 2, 1, 0] rfl)

/-! SealedBoard.best()I -/
abbrev rmX4_best : Room := { frames := 6, cells := 1, slots := 6, locals := 157 }
theorem naX4_best_5 : ∀ w ∈ (vx_atS RX4 169 "java/util/NoSuchElementException" zNm).filter goodWord, w ∈ wsX4_best := by decide +kernel
theorem kdX4_best : yX4_best.cls = RX4 ∧ yX4_best.cls ≠ "java/lang/invoke/MethodHandle" ∧ yX4_best.cls ≠ "java/lang/invoke/VarHandle" ∧ (parseMethodDescriptor yX4_best.desc).map (fun d => d.parameters.length) = some 0 := by decide +kernel
theorem inX4_best_X4 : ∀ w ∈ u_ws RX4 TX4 8, w ∈ wsX4_best := by decide +kernel
def fX4_best (fb : Nat → Int64) (ft : Nat → Int64) : Option (Nat × Int32 × (Nat → Int64)) := (zbd (fX2_isOver fb) (fun u1 => (if u1 = 0 then (zbd (fX4_bestMove fb ft) (fun u3 => (if u3.1 = (-1 : Int32) then (some (5, (0 : Int32), u3.2)) else (some (0, u3.1, u3.2))))) else (some (5, (0 : Int32), ft)))))
set_option maxHeartbeats 400000 in
set_option maxRecDepth 100000 in
theorem mX4_best (l : Launch) (hl9 : l.stackTraces = false) (G : va_G) (k : Nat → ClassId) (ad : Nat → Nat) (sz : Nat) (sv : Int32) (kE : Int32) (kR : Int32) (fb : Nat → Int64) (ft : Nat → Int64) (fs : Nat → Int64) (rws : Nat → Int64) (nx : Int32) (ct : Int32) (ch : Nat → Int32) (ln : Int32)  (o : Nat × Int32 × (Nat → Int64)) (hF : fX4_best fb ft = some o) : zXI l yX4_best wsX4_best rmX4_best G k (zC ad k sv kE kR fb ft fs rws nx ct ch ln) sz [.ref (ad 0)] 1 6 o.1 o.2.1 (zC ad k sv kE kR fb o.2.2 fs rws nx ct ch ln) := by
  refine zof_XI hl9 (cc := cX4_best) (nL := 2) (own := RX4) (rt := .int) (by decide) rfl rfl (Nat.le_of_ble_eq_true rfl) ?_
  intro p e s m args below meth c A Q C0 hK hA hret hthp htho ls hl hw
  have hl : lv_has ls 2 [(0, .ref (ad 0))] := hl
  obtain ⟨hx, hb, hr, hml, hown, hts, hlocks⟩ := id C0
  obtain ⟨H, hH⟩ : ∃ z, z = s.heap := ⟨_, rfl⟩
  rw [← hH] at hw ⊢
  unfold fX4_best at hF
  refine lv_aload_n hx hb dX4_best_0 rfl (lv_at hl 0 rfl) ?_
  refine va_get (D := G) (ci := 3) (v := .ref (ad 1)) (C := RX4) (T := TX4) (N := 8) hx hb hts inX4_best_X4 hown hK.1 hw.1 0 rfl rfl 0 (by decide) (hts (.fieldLink RX4 10 "SealedBoard" "board" "LSealedBoard$Position;") (by decide +kernel)) (fun _ h9 => h9) rfl dX4_best_1 ?_
  obtain ⟨u1, hq2, hF⟩ := zbd_t hF
  refine zgoI (w' := (zC ad k sv kE kR fb ft fs rws nx ct ch ln)) hw hA [1, 2] rfl (zV (As := []) (rest := []) ⟨hx, hb, hml, hown, hts⟩ (mX2_isOver l G k (ad 1) (ad 2) H.size fb  u1 hq2) (cwV 0 hts gX4_best_X2_isOver rfl rfl rfl kdX2_isOver ⟨Nat.le_of_ble_eq_true rfl, Nat.le_of_ble_eq_true rfl⟩) hK hA hw [1, 2] rfl (by decide) 1 rfl rfl rfl rfl hl.1 rfl (Nat.le_of_ble_eq_true rfl) dX4_best_4 ⟨Nat.le_of_ble_eq_true rfl, Nat.le_of_ble_eq_true rfl⟩) rfl rfl rfl (fun H locs hw => ?_)
  refine lv_if_eq (tgt := 20) hx hb dX4_best_7 (by decide) (fun hc => ?_) (fun hc => ?_)
  · have hF := zif_t hc hF
    refine lv_aload_n hx hb dX4_best_20 rfl (lv_at hl 0 rfl) ?_
    obtain ⟨u3, hq4, hF⟩ := zbd_t hF
    refine zgoIw (w' := (zC ad k sv kE kR fb u3.2 fs rws nx ct ch ln)) hw hA (zVw (As := []) (rest := []) ⟨hx, hb, hml, hown, hts⟩ (mX4_bestMove l G k ad H.size sv kE kR fb ft fs rws nx ct ch ln  u3 hq4) (cwV 0 hts gX4_best_X4_bestMove rfl rfl rfl kdX4_bestMove ⟨Nat.le_of_ble_eq_true rfl, Nat.le_of_ble_eq_true rfl⟩) hK hA hw 0 rfl rfl rfl rfl hl.1 rfl (Nat.le_of_ble_eq_true rfl) dX4_best_21 ⟨Nat.le_of_ble_eq_true rfl, Nat.le_of_ble_eq_true rfl⟩) (fun H locs hw => ?_)
    refine lv_istore_n (lv' := [(1, .int u3.1), (0, .ref (ad 0))]) hx hb dX4_best_24 rfl hl (by decide) rfl (fun ls hl => ?_)
    refine lv_iload_n hx hb dX4_best_25 rfl (lv_at hl 0 rfl) ?_
    refine lv_iconst (v := (-1 : Int32)) hx hb dX4_best_26 (by decide) ?_
    refine lv_icmp_ne (tgt := 40) hx hb dX4_best_27 (by decide) (fun hc => ?_) (fun hc => ?_)
    · have hF := zif_f hc hF
      refine lv_iload_n hx hb dX4_best_40 rfl (lv_at hl 0 rfl) ?_
      obtain rfl := Option.some.inj hF
      refine W.widen (k := 1) (n := 6) (Nat.le_of_ble_eq_true rfl) (Nat.le_of_ble_eq_true rfl) ?_
      exact hret _ _ _ _ rfl rfl hw dX4_best_41
    · have hF := zif_t hc hF
      obtain rfl := Option.some.inj hF
      exact htho _ _ _ _ _ "java/util/NoSuchElementException" 165 174 169 _ _ "there is no move" (show (5 : Nat) ≠ 0 by decide) rfl hw (hl.1.trans hml.symm) (by decide +kernel) (by decide +kernel) (hts (.classLink RX4 165 "java/util/NoSuchElementException") (by decide +kernel)) (hts (.initialized "java/util/NoSuchElementException") (by decide +kernel)) (vx_hat (B := zBad "java/util/NoSuchElementException") (fun w hw9 => hts w (naX4_best_5 w hw9)) (by decide +kernel) (zbad hK.2 (by decide))) (by decide +kernel) ⟨dX4_best_30, dX4_best_33, Or.inl ⟨dX4_best_34, dX4_best_36, dX4_best_39⟩⟩ (Nat.le_of_ble_eq_true rfl) (Nat.le_of_ble_eq_true rfl) (Nat.le_of_ble_eq_true rfl) (Nat.le_of_ble_eq_true rfl) (Nat.le_of_ble_eq_true rfl) (Nat.le_of_ble_eq_true rfl)
  · have hF := zif_f hc hF
    obtain rfl := Option.some.inj hF
    exact htho _ _ _ _ _ "java/util/NoSuchElementException" 165 167 169 _ _ "the game is over" (show (5 : Nat) ≠ 0 by decide) rfl hw (hl.1.trans hml.symm) (by decide +kernel) (by decide +kernel) (hts (.classLink RX4 165 "java/util/NoSuchElementException") (by decide +kernel)) (hts (.initialized "java/util/NoSuchElementException") (by decide +kernel)) (vx_hat (B := zBad "java/util/NoSuchElementException") (fun w hw9 => hts w (naX4_best_5 w hw9)) (by decide +kernel) (zbad hK.2 (by decide))) (by decide +kernel) ⟨dX4_best_10, dX4_best_13, Or.inl ⟨dX4_best_14, dX4_best_16, dX4_best_19⟩⟩ (Nat.le_of_ble_eq_true rfl) (Nat.le_of_ble_eq_true rfl) (Nat.le_of_ble_eq_true rfl) (Nat.le_of_ble_eq_true rfl) (Nat.le_of_ble_eq_true rfl) (Nat.le_of_ble_eq_true rfl)

/-! SealedBoard.worth(II)I -/
abbrev rmX4_worth : Room := { frames := 7, cells := 3, slots := 18, locals := 128 }
theorem naX4_worth_5 : ∀ w ∈ (vx_atS RX4 169 "java/util/NoSuchElementException" zNm).filter goodWord, w ∈ wsX4_worth := by decide +kernel
theorem kdX4_worth : yX4_worth.cls = RX4 ∧ yX4_worth.cls ≠ "java/lang/invoke/MethodHandle" ∧ yX4_worth.cls ≠ "java/lang/invoke/VarHandle" ∧ (parseMethodDescriptor yX4_worth.desc).map (fun d => d.parameters.length) = some 2 := by decide +kernel
theorem inX4_worth_X4 : ∀ w ∈ u_ws RX4 TX4 8, w ∈ wsX4_worth := by decide +kernel
def fX4_worth (fb : Nat → Int64) (ft : Nat → Int64) (p0 : Int32) (p1 : Int32) : Option (Nat × Int32 × (Nat → Int64)) := (zbd (fX4_requireSquare p0) (fun u1 => (if u1 = 0 then (zbd (fX4_requireSquare p1) (fun u3 => (if u3 = 0 then (zbd (fX2_mover fb) (fun u5 => (zbd (fX2_piecesOf fb u5) (fun u7 => (zbd (fX3_has u7 p0) (fun u9 => (if u9 = 0 then (some (5, (0 : Int32), ft)) else (zbd (fX4_requireTarget fb p0 p1) (fun u11 => (if u11 = 0 then (zbd (fX4_worthOfMove fb ft p0 p1) (fun u13 => (some (0, u13.1, u13.2)))) else (some (u11, (0 : Int32), ft)))))))))))) else (some (u3, (0 : Int32), ft))))) else (some (u1, (0 : Int32), ft)))))
set_option maxHeartbeats 400000 in
set_option maxRecDepth 100000 in
theorem mX4_worth (l : Launch) (hl9 : l.stackTraces = false) (G : va_G) (k : Nat → ClassId) (ad : Nat → Nat) (sz : Nat) (sv : Int32) (kE : Int32) (kR : Int32) (fb : Nat → Int64) (ft : Nat → Int64) (fs : Nat → Int64) (rws : Nat → Int64) (nx : Int32) (ct : Int32) (ch : Nat → Int32) (ln : Int32) (p0 : Int32) (p1 : Int32) (o : Nat × Int32 × (Nat → Int64)) (hF : fX4_worth fb ft p0 p1 = some o) : zXI l yX4_worth wsX4_worth rmX4_worth G k (zC ad k sv kE kR fb ft fs rws nx ct ch ln) sz [.ref (ad 0), .int p0, .int p1] 3 18 o.1 o.2.1 (zC ad k sv kE kR fb o.2.2 fs rws nx ct ch ln) := by
  refine zof_XI hl9 (cc := cX4_worth) (nL := 3) (own := RX4) (rt := .int) (by decide) rfl rfl (Nat.le_of_ble_eq_true rfl) ?_
  intro p e s m args below meth c A Q C0 hK hA hret hthp htho ls hl hw
  have hl : lv_has ls 3 [(0, .ref (ad 0)), (1, .int p0), (2, .int p1)] := hl
  obtain ⟨hx, hb, hr, hml, hown, hts, hlocks⟩ := id C0
  obtain ⟨H, hH⟩ : ∃ z, z = s.heap := ⟨_, rfl⟩
  rw [← hH] at hw ⊢
  unfold fX4_worth at hF
  refine lv_iload_n hx hb dX4_worth_0 rfl (lv_at hl 1 rfl) ?_
  obtain ⟨u1, hq2, hF⟩ := zbd_t hF
  refine zgoXV (o0 := u1) (w' := (zC ad k sv kE kR fb ft fs rws nx ct ch ln)) hw hA [] rfl (zSx (As := [.int p0]) (rest := []) ⟨hx, hb, hml, hown, hts⟩ (mX4_requireSquare l hl9 G k  H.size  p0 u1 hq2) (va_cwS 1 hts gX4_worth_X4_requireSquare rfl rfl rfl kdX4_requireSquare ⟨Nat.le_of_ble_eq_true rfl, Nat.le_of_ble_eq_true rfl⟩) hK hA hw [] rfl (by decide) rfl hl.1 rfl (Nat.le_of_ble_eq_true rfl) dX4_worth_1 ⟨Nat.le_of_ble_eq_true rfl, Nat.le_of_ble_eq_true rfl⟩) rfl rfl rfl (fun h017 H locs q9 E9 ce9 hw g1 g2 g3 g4 => ?_) (fun h017 H locs hw => ?_)
  · have hF := zif_f h017 hF
    obtain rfl := Option.some.inj hF
    exact hthp _ _ _ _ _ _ _ _ _ _ h017 hw g1 g2 g3 g4 (Nat.le_of_ble_eq_true rfl) (Nat.le_of_ble_eq_true rfl)
  have hF := zif_t h017 hF
  refine lv_iload_n hx hb dX4_worth_4 rfl (lv_at hl 2 rfl) ?_
  obtain ⟨u3, hq4, hF⟩ := zbd_t hF
  refine zgoXV (o0 := u3) (w' := (zC ad k sv kE kR fb ft fs rws nx ct ch ln)) hw hA [] rfl (zSx (As := [.int p1]) (rest := []) ⟨hx, hb, hml, hown, hts⟩ (mX4_requireSquare l hl9 G k  H.size  p1 u3 hq4) (va_cwS 1 hts gX4_worth_X4_requireSquare rfl rfl rfl kdX4_requireSquare ⟨Nat.le_of_ble_eq_true rfl, Nat.le_of_ble_eq_true rfl⟩) hK hA hw [] rfl (by decide) rfl hl.1 rfl (Nat.le_of_ble_eq_true rfl) dX4_worth_5 ⟨Nat.le_of_ble_eq_true rfl, Nat.le_of_ble_eq_true rfl⟩) rfl rfl rfl (fun h016 H locs q9 E9 ce9 hw g1 g2 g3 g4 => ?_) (fun h016 H locs hw => ?_)
  · have hF := zif_f h016 hF
    obtain rfl := Option.some.inj hF
    exact hthp _ _ _ _ _ _ _ _ _ _ h016 hw g1 g2 g3 g4 (Nat.le_of_ble_eq_true rfl) (Nat.le_of_ble_eq_true rfl)
  have hF := zif_t h016 hF
  refine lv_aload_n hx hb dX4_worth_8 rfl (lv_at hl 0 rfl) ?_
  refine va_get (D := G) (ci := 3) (v := .ref (ad 1)) (C := RX4) (T := TX4) (N := 8) hx hb hts inX4_worth_X4 hown hK.1 hw.1 0 rfl rfl 0 (by decide) (hts (.fieldLink RX4 10 "SealedBoard" "board" "LSealedBoard$Position;") (by decide +kernel)) (fun _ h9 => h9) rfl dX4_worth_9 ?_
  refine lv_aload_n hx hb dX4_worth_12 rfl (lv_at hl 0 rfl) ?_
  refine va_get (D := G) (ci := 3) (v := .ref (ad 1)) (C := RX4) (T := TX4) (N := 8) hx hb hts inX4_worth_X4 hown hK.1 hw.1 0 rfl rfl 0 (by decide) (hts (.fieldLink RX4 10 "SealedBoard" "board" "LSealedBoard$Position;") (by decide +kernel)) (fun _ h9 => h9) rfl dX4_worth_13 ?_
  obtain ⟨u5, hq6, hF⟩ := zbd_t hF
  refine zgoI (w' := (zC ad k sv kE kR fb ft fs rws nx ct ch ln)) hw hA [1, 2] rfl (zV (As := []) (rest := [.ref (ad 1)]) ⟨hx, hb, hml, hown, hts⟩ (mX2_mover l G k (ad 1) (ad 2) H.size fb  u5 hq6) (cwV 0 hts gX4_worth_X2_mover rfl rfl rfl kdX2_mover ⟨Nat.le_of_ble_eq_true rfl, Nat.le_of_ble_eq_true rfl⟩) hK hA hw [1, 2] rfl (by decide) 1 rfl rfl rfl rfl hl.1 rfl (Nat.le_of_ble_eq_true rfl) dX4_worth_16 ⟨Nat.le_of_ble_eq_true rfl, Nat.le_of_ble_eq_true rfl⟩) rfl rfl rfl (fun H locs hw => ?_)
  obtain ⟨u7, hq8, hF⟩ := zbd_t hF
  refine zgoL (w' := (zC ad k sv kE kR fb ft fs rws nx ct ch ln)) hw hA [1, 2] rfl (zV (As := [.int u5]) (rest := []) ⟨hx, hb, hml, hown, hts⟩ (mX2_piecesOf l G k (ad 1) (ad 2) H.size fb u5 u7 hq8) (cwV 1 hts gX4_worth_X2_piecesOf rfl rfl rfl kdX2_piecesOf ⟨Nat.le_of_ble_eq_true rfl, Nat.le_of_ble_eq_true rfl⟩) hK hA hw [1, 2] rfl (by decide) 1 rfl rfl rfl rfl hl.1 rfl (Nat.le_of_ble_eq_true rfl) dX4_worth_19 ⟨Nat.le_of_ble_eq_true rfl, Nat.le_of_ble_eq_true rfl⟩) rfl rfl rfl (fun H locs hw => ?_)
  refine lv_iload_n hx hb dX4_worth_22 rfl (lv_at hl 1 rfl) ?_
  obtain ⟨u9, hq10, hF⟩ := zbd_t hF
  refine zgoI (w' := (zC ad k sv kE kR fb ft fs rws nx ct ch ln)) hw hA [] rfl (zS (As := [.long u7, .int p0]) (rest := []) ⟨hx, hb, hml, hown, hts⟩ (mX3_has l G k  H.size  u7 p0 u9 hq10) (va_cwS 2 hts gX4_worth_X3_has rfl rfl rfl kdX3_has ⟨Nat.le_of_ble_eq_true rfl, Nat.le_of_ble_eq_true rfl⟩) hK hA hw [] rfl (by decide) rfl hl.1 rfl (Nat.le_of_ble_eq_true rfl) dX4_worth_23 ⟨Nat.le_of_ble_eq_true rfl, Nat.le_of_ble_eq_true rfl⟩) rfl rfl rfl (fun H locs hw => ?_)
  refine lv_if_ne (tgt := 39) hx hb dX4_worth_26 (by decide) (fun hc => ?_) (fun hc => ?_)
  · have hF := zif_f hc hF
    refine lv_aload_n hx hb dX4_worth_39 rfl (lv_at hl 0 rfl) ?_
    refine lv_iload_n hx hb dX4_worth_40 rfl (lv_at hl 1 rfl) ?_
    refine lv_iload_n hx hb dX4_worth_41 rfl (lv_at hl 2 rfl) ?_
    obtain ⟨u11, hq12, hF⟩ := zbd_t hF
    refine zgoXVw (o0 := u11) (w' := (zC ad k sv kE kR fb ft fs rws nx ct ch ln)) hw hA (zVxw (As := [.int p0, .int p1]) (rest := []) ⟨hx, hb, hml, hown, hts⟩ (mX4_requireTarget l hl9 G k ad H.size sv kE kR fb ft fs rws nx ct ch ln p0 p1 u11 hq12) (cwV 2 hts gX4_worth_X4_requireTarget rfl rfl rfl kdX4_requireTarget ⟨Nat.le_of_ble_eq_true rfl, Nat.le_of_ble_eq_true rfl⟩) hK hA hw 0 rfl rfl rfl rfl hl.1 rfl (Nat.le_of_ble_eq_true rfl) dX4_worth_42 ⟨Nat.le_of_ble_eq_true rfl, Nat.le_of_ble_eq_true rfl⟩) (fun h015 H locs q9 E9 ce9 hw g1 g2 g3 g4 => ?_) (fun h015 H locs hw => ?_)
    · have hF := zif_f h015 hF
      obtain rfl := Option.some.inj hF
      exact hthp _ _ _ _ _ _ _ _ _ _ h015 hw g1 g2 g3 g4 (Nat.le_of_ble_eq_true rfl) (Nat.le_of_ble_eq_true rfl)
    have hF := zif_t h015 hF
    refine lv_aload_n hx hb dX4_worth_45 rfl (lv_at hl 0 rfl) ?_
    refine lv_iload_n hx hb dX4_worth_46 rfl (lv_at hl 1 rfl) ?_
    refine lv_iload_n hx hb dX4_worth_47 rfl (lv_at hl 2 rfl) ?_
    obtain ⟨u13, hq14, hF⟩ := zbd_t hF
    refine zgoIw (w' := (zC ad k sv kE kR fb u13.2 fs rws nx ct ch ln)) hw hA (zVw (As := [.int p0, .int p1]) (rest := []) ⟨hx, hb, hml, hown, hts⟩ (mX4_worthOfMove l G k ad H.size sv kE kR fb ft fs rws nx ct ch ln p0 p1 u13 hq14) (cwV 2 hts gX4_worth_X4_worthOfMove rfl rfl rfl kdX4_worthOfMove ⟨Nat.le_of_ble_eq_true rfl, Nat.le_of_ble_eq_true rfl⟩) hK hA hw 0 rfl rfl rfl rfl hl.1 rfl (Nat.le_of_ble_eq_true rfl) dX4_worth_48 ⟨Nat.le_of_ble_eq_true rfl, Nat.le_of_ble_eq_true rfl⟩) (fun H locs hw => ?_)
    obtain rfl := Option.some.inj hF
    exact hret _ _ _ _ rfl rfl hw dX4_worth_51
  · have hF := zif_t hc hF
    obtain rfl := Option.some.inj hF
    exact htho _ _ _ _ _ "java/util/NoSuchElementException" 165 179 169 _ _ "no piece of the side whose turn it is" (show (5 : Nat) ≠ 0 by decide) rfl hw (hl.1.trans hml.symm) (by decide +kernel) (by decide +kernel) (hts (.classLink RX4 165 "java/util/NoSuchElementException") (by decide +kernel)) (hts (.initialized "java/util/NoSuchElementException") (by decide +kernel)) (vx_hat (B := zBad "java/util/NoSuchElementException") (fun w hw9 => hts w (naX4_worth_5 w hw9)) (by decide +kernel) (zbad hK.2 (by decide))) (by decide +kernel) ⟨dX4_worth_29, dX4_worth_32, Or.inl ⟨dX4_worth_33, dX4_worth_35, dX4_worth_38⟩⟩ (Nat.le_of_ble_eq_true rfl) (Nat.le_of_ble_eq_true rfl) (Nat.le_of_ble_eq_true rfl) (Nat.le_of_ble_eq_true rfl) (Nat.le_of_ble_eq_true rfl) (Nat.le_of_ble_eq_true rfl)

/-! SealedBoard.rooms(I)I -/
abbrev rmX4_rooms : Room := { frames := 7, cells := 1, slots := 6, locals := 102 }
theorem kdX4_rooms : yX4_rooms.cls = RX4 ∧ yX4_rooms.cls ≠ "java/lang/invoke/MethodHandle" ∧ yX4_rooms.cls ≠ "java/lang/invoke/VarHandle" ∧ (parseMethodDescriptor yX4_rooms.desc).map (fun d => d.parameters.length) = some 1 := by decide +kernel
theorem inX4_rooms_X4 : ∀ w ∈ u_ws RX4 TX4 8, w ∈ wsX4_rooms := by decide +kernel
def fX4_rooms (fb : Nat → Int64) (p0 : Int32) : Option (Nat × Int32) := (zbd (fX4_requireSide p0) (fun u1 => (if u1 = 0 then (zbd (fX2_countRooms fb p0) (fun u3 => (some (0, u3)))) else (some (u1, (0 : Int32))))))
set_option maxHeartbeats 400000 in
set_option maxRecDepth 100000 in
theorem mX4_rooms (l : Launch) (hl9 : l.stackTraces = false) (G : va_G) (k : Nat → ClassId) (ad : Nat → Nat) (sz : Nat) (sv : Int32) (kE : Int32) (kR : Int32) (fb : Nat → Int64) (ft : Nat → Int64) (fs : Nat → Int64) (rws : Nat → Int64) (nx : Int32) (ct : Int32) (ch : Nat → Int32) (ln : Int32) (p0 : Int32) (o : Nat × Int32) (hF : fX4_rooms fb p0 = some o) : zXI l yX4_rooms wsX4_rooms rmX4_rooms G k (zC ad k sv kE kR fb ft fs rws nx ct ch ln) sz [.ref (ad 0), .int p0] 1 6 o.1 o.2 (zC ad k sv kE kR fb ft fs rws nx ct ch ln) := by
  refine zof_XI hl9 (cc := cX4_rooms) (nL := 2) (own := RX4) (rt := .int) (by decide) rfl rfl (Nat.le_of_ble_eq_true rfl) ?_
  intro p e s m args below meth c A Q C0 hK hA hret hthp htho ls hl hw
  have hl : lv_has ls 2 [(0, .ref (ad 0)), (1, .int p0)] := hl
  obtain ⟨hx, hb, hr, hml, hown, hts, hlocks⟩ := id C0
  obtain ⟨H, hH⟩ : ∃ z, z = s.heap := ⟨_, rfl⟩
  rw [← hH] at hw ⊢
  unfold fX4_rooms at hF
  refine lv_iload_n hx hb dX4_rooms_0 rfl (lv_at hl 1 rfl) ?_
  obtain ⟨u1, hq2, hF⟩ := zbd_t hF
  refine zgoXV (o0 := u1) (w' := (zC ad k sv kE kR fb ft fs rws nx ct ch ln)) hw hA [] rfl (zSx (As := [.int p0]) (rest := []) ⟨hx, hb, hml, hown, hts⟩ (mX4_requireSide l hl9 G k  H.size  p0 u1 hq2) (va_cwS 1 hts gX4_rooms_X4_requireSide rfl rfl rfl kdX4_requireSide ⟨Nat.le_of_ble_eq_true rfl, Nat.le_of_ble_eq_true rfl⟩) hK hA hw [] rfl (by decide) rfl hl.1 rfl (Nat.le_of_ble_eq_true rfl) dX4_rooms_1 ⟨Nat.le_of_ble_eq_true rfl, Nat.le_of_ble_eq_true rfl⟩) rfl rfl rfl (fun h05 H locs q9 E9 ce9 hw g1 g2 g3 g4 => ?_) (fun h05 H locs hw => ?_)
  · have hF := zif_f h05 hF
    obtain rfl := Option.some.inj hF
    exact hthp _ _ _ _ _ _ _ _ _ _ h05 hw g1 g2 g3 g4 (Nat.le_of_ble_eq_true rfl) (Nat.le_of_ble_eq_true rfl)
  have hF := zif_t h05 hF
  refine lv_aload_n hx hb dX4_rooms_4 rfl (lv_at hl 0 rfl) ?_
  refine va_get (D := G) (ci := 3) (v := .ref (ad 1)) (C := RX4) (T := TX4) (N := 8) hx hb hts inX4_rooms_X4 hown hK.1 hw.1 0 rfl rfl 0 (by decide) (hts (.fieldLink RX4 10 "SealedBoard" "board" "LSealedBoard$Position;") (by decide +kernel)) (fun _ h9 => h9) rfl dX4_rooms_5 ?_
  refine lv_iload_n hx hb dX4_rooms_8 rfl (lv_at hl 1 rfl) ?_
  obtain ⟨u3, hq4, hF⟩ := zbd_t hF
  refine zgoI (w' := (zC ad k sv kE kR fb ft fs rws nx ct ch ln)) hw hA [1, 2] rfl (zV (As := [.int p0]) (rest := []) ⟨hx, hb, hml, hown, hts⟩ (mX2_countRooms l G k (ad 1) (ad 2) H.size fb p0 u3 hq4) (cwV 1 hts gX4_rooms_X2_countRooms rfl rfl rfl kdX2_countRooms ⟨Nat.le_of_ble_eq_true rfl, Nat.le_of_ble_eq_true rfl⟩) hK hA hw [1, 2] rfl (by decide) 1 rfl rfl rfl rfl hl.1 rfl (Nat.le_of_ble_eq_true rfl) dX4_rooms_9 ⟨Nat.le_of_ble_eq_true rfl, Nat.le_of_ble_eq_true rfl⟩) rfl rfl rfl (fun H locs hw => ?_)
  obtain rfl := Option.some.inj hF
  exact hret _ _ _ _ rfl rfl hw dX4_rooms_12

/-! SealedBoard.room(II)I -/
abbrev rmX4_room : Room := { frames := 7, cells := 3, slots := 18, locals := 103 }
theorem naX4_room_5 : ∀ w ∈ (vx_atS RX4 169 "java/util/NoSuchElementException" zNm).filter goodWord, w ∈ wsX4_room := by decide +kernel
theorem kdX4_room : yX4_room.cls = RX4 ∧ yX4_room.cls ≠ "java/lang/invoke/MethodHandle" ∧ yX4_room.cls ≠ "java/lang/invoke/VarHandle" ∧ (parseMethodDescriptor yX4_room.desc).map (fun d => d.parameters.length) = some 2 := by decide +kernel
theorem inX4_room_X4 : ∀ w ∈ u_ws RX4 TX4 8, w ∈ wsX4_room := by decide +kernel
def fX4_room (fb : Nat → Int64) (p0 : Int32) (p1 : Int32) : Option (Nat × Int32) := (zbd (fX4_requireSide p0) (fun u1 => (if u1 = 0 then (zbd (fX4_requireSquare p1) (fun u3 => (if u3 = 0 then (zbd (fX2_roomNumberOf fb p0 p1) (fun u5 => (if u5 = (-1 : Int32) then (some (5, (0 : Int32))) else (some (0, u5))))) else (some (u3, (0 : Int32)))))) else (some (u1, (0 : Int32))))))
set_option maxHeartbeats 400000 in
set_option maxRecDepth 100000 in
theorem mX4_room (l : Launch) (hl9 : l.stackTraces = false) (G : va_G) (k : Nat → ClassId) (ad : Nat → Nat) (sz : Nat) (sv : Int32) (kE : Int32) (kR : Int32) (fb : Nat → Int64) (ft : Nat → Int64) (fs : Nat → Int64) (rws : Nat → Int64) (nx : Int32) (ct : Int32) (ch : Nat → Int32) (ln : Int32) (p0 : Int32) (p1 : Int32) (o : Nat × Int32) (hF : fX4_room fb p0 p1 = some o) : zXI l yX4_room wsX4_room rmX4_room G k (zC ad k sv kE kR fb ft fs rws nx ct ch ln) sz [.ref (ad 0), .int p0, .int p1] 3 18 o.1 o.2 (zC ad k sv kE kR fb ft fs rws nx ct ch ln) := by
  refine zof_XI hl9 (cc := cX4_room) (nL := 4) (own := RX4) (rt := .int) (by decide) rfl rfl (Nat.le_of_ble_eq_true rfl) ?_
  intro p e s m args below meth c A Q C0 hK hA hret hthp htho ls hl hw
  have hl : lv_has ls 4 [(0, .ref (ad 0)), (1, .int p0), (2, .int p1)] := hl
  obtain ⟨hx, hb, hr, hml, hown, hts, hlocks⟩ := id C0
  obtain ⟨H, hH⟩ : ∃ z, z = s.heap := ⟨_, rfl⟩
  rw [← hH] at hw ⊢
  unfold fX4_room at hF
  refine lv_iload_n hx hb dX4_room_0 rfl (lv_at hl 1 rfl) ?_
  obtain ⟨u1, hq2, hF⟩ := zbd_t hF
  refine zgoXV (o0 := u1) (w' := (zC ad k sv kE kR fb ft fs rws nx ct ch ln)) hw hA [] rfl (zSx (As := [.int p0]) (rest := []) ⟨hx, hb, hml, hown, hts⟩ (mX4_requireSide l hl9 G k  H.size  p0 u1 hq2) (va_cwS 1 hts gX4_room_X4_requireSide rfl rfl rfl kdX4_requireSide ⟨Nat.le_of_ble_eq_true rfl, Nat.le_of_ble_eq_true rfl⟩) hK hA hw [] rfl (by decide) rfl hl.1 rfl (Nat.le_of_ble_eq_true rfl) dX4_room_1 ⟨Nat.le_of_ble_eq_true rfl, Nat.le_of_ble_eq_true rfl⟩) rfl rfl rfl (fun h08 H locs q9 E9 ce9 hw g1 g2 g3 g4 => ?_) (fun h08 H locs hw => ?_)
  · have hF := zif_f h08 hF
    obtain rfl := Option.some.inj hF
    exact hthp _ _ _ _ _ _ _ _ _ _ h08 hw g1 g2 g3 g4 (Nat.le_of_ble_eq_true rfl) (Nat.le_of_ble_eq_true rfl)
  have hF := zif_t h08 hF
  refine lv_iload_n hx hb dX4_room_4 rfl (lv_at hl 2 rfl) ?_
  obtain ⟨u3, hq4, hF⟩ := zbd_t hF
  refine zgoXV (o0 := u3) (w' := (zC ad k sv kE kR fb ft fs rws nx ct ch ln)) hw hA [] rfl (zSx (As := [.int p1]) (rest := []) ⟨hx, hb, hml, hown, hts⟩ (mX4_requireSquare l hl9 G k  H.size  p1 u3 hq4) (va_cwS 1 hts gX4_room_X4_requireSquare rfl rfl rfl kdX4_requireSquare ⟨Nat.le_of_ble_eq_true rfl, Nat.le_of_ble_eq_true rfl⟩) hK hA hw [] rfl (by decide) rfl hl.1 rfl (Nat.le_of_ble_eq_true rfl) dX4_room_5 ⟨Nat.le_of_ble_eq_true rfl, Nat.le_of_ble_eq_true rfl⟩) rfl rfl rfl (fun h07 H locs q9 E9 ce9 hw g1 g2 g3 g4 => ?_) (fun h07 H locs hw => ?_)
  · have hF := zif_f h07 hF
    obtain rfl := Option.some.inj hF
    exact hthp _ _ _ _ _ _ _ _ _ _ h07 hw g1 g2 g3 g4 (Nat.le_of_ble_eq_true rfl) (Nat.le_of_ble_eq_true rfl)
  have hF := zif_t h07 hF
  refine lv_aload_n hx hb dX4_room_8 rfl (lv_at hl 0 rfl) ?_
  refine va_get (D := G) (ci := 3) (v := .ref (ad 1)) (C := RX4) (T := TX4) (N := 8) hx hb hts inX4_room_X4 hown hK.1 hw.1 0 rfl rfl 0 (by decide) (hts (.fieldLink RX4 10 "SealedBoard" "board" "LSealedBoard$Position;") (by decide +kernel)) (fun _ h9 => h9) rfl dX4_room_9 ?_
  refine lv_iload_n hx hb dX4_room_12 rfl (lv_at hl 1 rfl) ?_
  refine lv_iload_n hx hb dX4_room_13 rfl (lv_at hl 2 rfl) ?_
  obtain ⟨u5, hq6, hF⟩ := zbd_t hF
  refine zgoI (w' := (zC ad k sv kE kR fb ft fs rws nx ct ch ln)) hw hA [1, 2] rfl (zV (As := [.int p0, .int p1]) (rest := []) ⟨hx, hb, hml, hown, hts⟩ (mX2_roomNumberOf l G k (ad 1) (ad 2) H.size fb p0 p1 u5 hq6) (cwV 2 hts gX4_room_X2_roomNumberOf rfl rfl rfl kdX2_roomNumberOf ⟨Nat.le_of_ble_eq_true rfl, Nat.le_of_ble_eq_true rfl⟩) hK hA hw [1, 2] rfl (by decide) 1 rfl rfl rfl rfl hl.1 rfl (Nat.le_of_ble_eq_true rfl) dX4_room_14 ⟨Nat.le_of_ble_eq_true rfl, Nat.le_of_ble_eq_true rfl⟩) rfl rfl rfl (fun H locs hw => ?_)
  refine lv_istore_n (lv' := [(3, .int u5), (0, .ref (ad 0)), (1, .int p0), (2, .int p1)]) hx hb dX4_room_17 rfl hl (by decide) rfl (fun ls hl => ?_)
  refine lv_iload_n hx hb dX4_room_18 rfl (lv_at hl 0 rfl) ?_
  refine lv_iconst (v := (-1 : Int32)) hx hb dX4_room_19 (by decide) ?_
  refine lv_icmp_ne (tgt := 33) hx hb dX4_room_20 (by decide) (fun hc => ?_) (fun hc => ?_)
  · have hF := zif_f hc hF
    refine lv_iload_n hx hb dX4_room_33 rfl (lv_at hl 0 rfl) ?_
    obtain rfl := Option.some.inj hF
    refine W.widen (k := 3) (n := 18) (Nat.le_of_ble_eq_true rfl) (Nat.le_of_ble_eq_true rfl) ?_
    exact hret _ _ _ _ rfl rfl hw dX4_room_34
  · have hF := zif_t hc hF
    obtain rfl := Option.some.inj hF
    exact htho _ _ _ _ _ "java/util/NoSuchElementException" 165 190 169 _ _ "the square is not open to the side" (show (5 : Nat) ≠ 0 by decide) rfl hw (hl.1.trans hml.symm) (by decide +kernel) (by decide +kernel) (hts (.classLink RX4 165 "java/util/NoSuchElementException") (by decide +kernel)) (hts (.initialized "java/util/NoSuchElementException") (by decide +kernel)) (vx_hat (B := zBad "java/util/NoSuchElementException") (fun w hw9 => hts w (naX4_room_5 w hw9)) (by decide +kernel) (zbad hK.2 (by decide))) (by decide +kernel) ⟨dX4_room_23, dX4_room_26, Or.inl ⟨dX4_room_27, dX4_room_29, dX4_room_32⟩⟩ (Nat.le_of_ble_eq_true rfl) (Nat.le_of_ble_eq_true rfl) (Nat.le_of_ble_eq_true rfl) (Nat.le_of_ble_eq_true rfl) (Nat.le_of_ble_eq_true rfl) (Nat.le_of_ble_eq_true rfl)

/-! SealedBoard.roomOf(III)I -/
abbrev rmX4_roomOf : Room := { frames := 7, cells := 2, slots := 12, locals := 103 }
theorem naX4_roomOf_1 : ∀ w ∈ (vx_atS RX4 200 "java/lang/IndexOutOfBoundsException" zNm).filter goodWord, w ∈ wsX4_roomOf := by decide +kernel
theorem naX4_roomOf_2 : ∀ w ∈ (vx_atS RX4 74 "java/lang/IllegalArgumentException" zNm).filter goodWord, w ∈ wsX4_roomOf := by decide +kernel
theorem kdX4_roomOf : yX4_roomOf.cls = RX4 ∧ yX4_roomOf.cls ≠ "java/lang/invoke/MethodHandle" ∧ yX4_roomOf.cls ≠ "java/lang/invoke/VarHandle" ∧ (parseMethodDescriptor yX4_roomOf.desc).map (fun d => d.parameters.length) = some 3 := by decide +kernel
theorem inX4_roomOf_X4 : ∀ w ∈ u_ws RX4 TX4 8, w ∈ wsX4_roomOf := by decide +kernel
def fX4_roomOf (fb : Nat → Int64) (p0 : Int32) (p1 : Int32) (p2 : Int32) : Option (Nat × Int32) := (zbd (fX4_requireSide p0) (fun u1 => (if u1 = 0 then (zbd (fX2_roomNumbered fb p0 p1) (fun u3 => (if (lg_cmp u3 (0 : Int64)) = 0 then (some (1, (0 : Int32))) else (if p2 < 0 then (some (2, (0 : Int32))) else (if p2 < (6 : Int32) then (if p2 = (0 : Int32) then (zbd (fX3_size u3) (fun u6 => (some (0, u6)))) else (if p2 = (1 : Int32) then (zbd (fX2_piecesOf fb p0) (fun u9 => (zbd (fX3_size (u3 &&& u9)) (fun u11 => (some (0, u11)))))) else (if p2 = (2 : Int32) then (zbd (fX4_otherSide p0) (fun u14 => (zbd (fX2_piecesOf fb u14) (fun u16 => (zbd (fX3_size (u3 &&& u16)) (fun u18 => (some (0, u18)))))))) else (if p2 = (3 : Int32) then (zbd (fX2_allDoors fb) (fun u21 => (zbd (fX3_size (u3 &&& u21)) (fun u23 => (some (0, u23)))))) else (if p2 = (4 : Int32) then (zbd (fX3_lowest u3) (fun u26 => (some (0, u26)))) else (zbd (fX2_piecesOf fb p0) (fun u28 => (if (lg_cmp (u3 &&& u28) (0 : Int64)) = 0 then (some (0, (1 : Int32))) else (some (0, (0 : Int32))))))))))) else (some (2, (0 : Int32)))))))) else (some (u1, (0 : Int32))))))
set_option maxHeartbeats 400000 in
set_option maxRecDepth 100000 in
theorem mX4_roomOf (l : Launch) (hl9 : l.stackTraces = false) (G : va_G) (k : Nat → ClassId) (ad : Nat → Nat) (sz : Nat) (sv : Int32) (kE : Int32) (kR : Int32) (fb : Nat → Int64) (ft : Nat → Int64) (fs : Nat → Int64) (rws : Nat → Int64) (nx : Int32) (ct : Int32) (ch : Nat → Int32) (ln : Int32) (p0 : Int32) (p1 : Int32) (p2 : Int32) (o : Nat × Int32) (hF : fX4_roomOf fb p0 p1 p2 = some o) : zXI l yX4_roomOf wsX4_roomOf rmX4_roomOf G k (zC ad k sv kE kR fb ft fs rws nx ct ch ln) sz [.ref (ad 0), .int p0, .int p1, .int p2] 2 12 o.1 o.2 (zC ad k sv kE kR fb ft fs rws nx ct ch ln) := by
  refine zof_XI hl9 (cc := cX4_roomOf) (nL := 6) (own := RX4) (rt := .int) (by decide) rfl rfl (Nat.le_of_ble_eq_true rfl) ?_
  intro p e s m args below meth c A Q C0 hK hA hret hthp htho ls hl hw
  have hl : lv_has ls 6 [(0, .ref (ad 0)), (1, .int p0), (2, .int p1), (3, .int p2)] := hl
  obtain ⟨hx, hb, hr, hml, hown, hts, hlocks⟩ := id C0
  obtain ⟨H, hH⟩ : ∃ z, z = s.heap := ⟨_, rfl⟩
  rw [← hH] at hw ⊢
  unfold fX4_roomOf at hF
  refine lv_iload_n hx hb dX4_roomOf_0 rfl (lv_at hl 1 rfl) ?_
  obtain ⟨u1, hq2, hF⟩ := zbd_t hF
  refine zgoXV (o0 := u1) (w' := (zC ad k sv kE kR fb ft fs rws nx ct ch ln)) hw hA [] rfl (zSx (As := [.int p0]) (rest := []) ⟨hx, hb, hml, hown, hts⟩ (mX4_requireSide l hl9 G k  H.size  p0 u1 hq2) (va_cwS 1 hts gX4_roomOf_X4_requireSide rfl rfl rfl kdX4_requireSide ⟨Nat.le_of_ble_eq_true rfl, Nat.le_of_ble_eq_true rfl⟩) hK hA hw [] rfl (by decide) rfl hl.1 rfl (Nat.le_of_ble_eq_true rfl) dX4_roomOf_1 ⟨Nat.le_of_ble_eq_true rfl, Nat.le_of_ble_eq_true rfl⟩) rfl rfl rfl (fun h030 H locs q9 E9 ce9 hw g1 g2 g3 g4 => ?_) (fun h030 H locs hw => ?_)
  · have hF := zif_f h030 hF
    obtain rfl := Option.some.inj hF
    exact hthp _ _ _ _ _ _ _ _ _ _ h030 hw g1 g2 g3 g4 (Nat.le_of_ble_eq_true rfl) (Nat.le_of_ble_eq_true rfl)
  have hF := zif_t h030 hF
  refine lv_aload_n hx hb dX4_roomOf_4 rfl (lv_at hl 0 rfl) ?_
  refine va_get (D := G) (ci := 3) (v := .ref (ad 1)) (C := RX4) (T := TX4) (N := 8) hx hb hts inX4_roomOf_X4 hown hK.1 hw.1 0 rfl rfl 0 (by decide) (hts (.fieldLink RX4 10 "SealedBoard" "board" "LSealedBoard$Position;") (by decide +kernel)) (fun _ h9 => h9) rfl dX4_roomOf_5 ?_
  refine lv_iload_n hx hb dX4_roomOf_8 rfl (lv_at hl 1 rfl) ?_
  refine lv_iload_n hx hb dX4_roomOf_9 rfl (lv_at hl 2 rfl) ?_
  obtain ⟨u3, hq4, hF⟩ := zbd_t hF
  refine zgoL (w' := (zC ad k sv kE kR fb ft fs rws nx ct ch ln)) hw hA [1, 2] rfl (zV (As := [.int p0, .int p1]) (rest := []) ⟨hx, hb, hml, hown, hts⟩ (mX2_roomNumbered l G k (ad 1) (ad 2) H.size fb p0 p1 u3 hq4) (cwV 2 hts gX4_roomOf_X2_roomNumbered rfl rfl rfl kdX2_roomNumbered ⟨Nat.le_of_ble_eq_true rfl, Nat.le_of_ble_eq_true rfl⟩) hK hA hw [1, 2] rfl (by decide) 1 rfl rfl rfl rfl hl.1 rfl (Nat.le_of_ble_eq_true rfl) dX4_roomOf_10 ⟨Nat.le_of_ble_eq_true rfl, Nat.le_of_ble_eq_true rfl⟩) rfl rfl rfl (fun H locs hw => ?_)
  refine lv_lstore (lv' := [(4, .long u3), (0, .ref (ad 0)), (1, .int p0), (2, .int p1), (3, .int p2)]) hx hb dX4_roomOf_13 hl (by decide) rfl (fun ls hl => ?_)
  refine lv_lload hx hb dX4_roomOf_15 (lv_at hl 0 rfl) ?_
  refine lv_lconst (v := (0 : Int64)) hx hb dX4_roomOf_17 (by decide) ?_
  refine W.lcmp hx hb dX4_roomOf_18 ?_
  refine lv_if_ne (tgt := 32) hx hb dX4_roomOf_19 (by decide) (fun hc => ?_) (fun hc => ?_)
  · have hF := zif_f hc hF
    refine lv_iload_n hx hb dX4_roomOf_32 rfl (lv_at hl 4 rfl) ?_
    refine lv_if_lt (tgt := 42) hx hb dX4_roomOf_33 (by decide) (fun hc => ?_) (fun hc => ?_)
    · have hF := zif_t hc hF
      obtain rfl := Option.some.inj hF
      exact htho _ _ _ _ _ "java/lang/IllegalArgumentException" 70 201 74 _ _ "no such number of a room" (show (2 : Nat) ≠ 0 by decide) rfl hw (hl.1.trans hml.symm) (by decide +kernel) (by decide +kernel) (hts (.classLink RX4 70 "java/lang/IllegalArgumentException") (by decide +kernel)) (hts (.initialized "java/lang/IllegalArgumentException") (by decide +kernel)) (vx_hat (B := zBad "java/lang/IllegalArgumentException") (fun w hw9 => hts w (naX4_roomOf_2 w hw9)) (by decide +kernel) (zbad hK.2 (by decide))) (by decide +kernel) ⟨dX4_roomOf_42, dX4_roomOf_45, Or.inl ⟨dX4_roomOf_46, dX4_roomOf_48, dX4_roomOf_51⟩⟩ (Nat.le_of_ble_eq_true rfl) (Nat.le_of_ble_eq_true rfl) (Nat.le_of_ble_eq_true rfl) (Nat.le_of_ble_eq_true rfl) (Nat.le_of_ble_eq_true rfl) (Nat.le_of_ble_eq_true rfl)
    · have hF := zif_f hc hF
      refine lv_iload_n hx hb dX4_roomOf_36 rfl (lv_at hl 4 rfl) ?_
      refine lv_bipush (v := (6 : Int32)) hx hb dX4_roomOf_37 (by decide) ?_
      refine lv_icmp_lt (tgt := 52) hx hb dX4_roomOf_39 (by decide) (fun hc => ?_) (fun hc => ?_)
      · have hF := zif_t hc hF
        refine lv_iload_n hx hb dX4_roomOf_52 rfl (lv_at hl 4 rfl) ?_
        by_cases hc5 : p2 = (0 : Int32)
        · have hF := zif_t hc5 hF
          refine lv_tableIn (tgt := 88) (off := 35) hx hb dX4_roomOf_53 (by rw [hc5]; decide) (by rw [hc5]; decide) (by rw [hc5]; rfl) (by decide) ?_
          refine lv_lload hx hb dX4_roomOf_88 (lv_at hl 0 rfl) ?_
          obtain ⟨u6, hq7, hF⟩ := zbd_t hF
          refine zgoI (w' := (zC ad k sv kE kR fb ft fs rws nx ct ch ln)) hw hA [] rfl (zS (As := [.long u3]) (rest := []) ⟨hx, hb, hml, hown, hts⟩ (mX3_size l G k  H.size  u3 u6 hq7) (va_cwS 1 hts gX4_roomOf_X3_size rfl rfl rfl kdX3_size ⟨Nat.le_of_ble_eq_true rfl, Nat.le_of_ble_eq_true rfl⟩) hK hA hw [] rfl (by decide) rfl hl.1 rfl (Nat.le_of_ble_eq_true rfl) dX4_roomOf_90 ⟨Nat.le_of_ble_eq_true rfl, Nat.le_of_ble_eq_true rfl⟩) rfl rfl rfl (fun H locs hw => ?_)
          obtain rfl := Option.some.inj hF
          refine W.widen (k := 2) (n := 12) (Nat.le_of_ble_eq_true rfl) (Nat.le_of_ble_eq_true rfl) ?_
          exact hret _ _ _ _ rfl rfl hw dX4_roomOf_93
        have hF := zif_f hc5 hF
        by_cases hc8 : p2 = (1 : Int32)
        · have hF := zif_t hc8 hF
          refine lv_tableIn (tgt := 94) (off := 41) hx hb dX4_roomOf_53 (by rw [hc8]; decide) (by rw [hc8]; decide) (by rw [hc8]; rfl) (by decide) ?_
          refine lv_lload hx hb dX4_roomOf_94 (lv_at hl 0 rfl) ?_
          refine lv_aload_n hx hb dX4_roomOf_96 rfl (lv_at hl 1 rfl) ?_
          refine va_get (D := G) (ci := 3) (v := .ref (ad 1)) (C := RX4) (T := TX4) (N := 8) hx hb hts inX4_roomOf_X4 hown hK.1 hw.1 0 rfl rfl 0 (by decide) (hts (.fieldLink RX4 10 "SealedBoard" "board" "LSealedBoard$Position;") (by decide +kernel)) (fun _ h9 => h9) rfl dX4_roomOf_97 ?_
          refine lv_iload_n hx hb dX4_roomOf_100 rfl (lv_at hl 2 rfl) ?_
          obtain ⟨u9, hq10, hF⟩ := zbd_t hF
          refine zgoL (w' := (zC ad k sv kE kR fb ft fs rws nx ct ch ln)) hw hA [1, 2] rfl (zV (As := [.int p0]) (rest := [.long u3]) ⟨hx, hb, hml, hown, hts⟩ (mX2_piecesOf l G k (ad 1) (ad 2) H.size fb p0 u9 hq10) (cwV 1 hts gX4_roomOf_X2_piecesOf rfl rfl rfl kdX2_piecesOf ⟨Nat.le_of_ble_eq_true rfl, Nat.le_of_ble_eq_true rfl⟩) hK hA hw [1, 2] rfl (by decide) 1 rfl rfl rfl rfl hl.1 rfl (Nat.le_of_ble_eq_true rfl) dX4_roomOf_101 ⟨Nat.le_of_ble_eq_true rfl, Nat.le_of_ble_eq_true rfl⟩) rfl rfl rfl (fun H locs hw => ?_)
          refine lv_land hx hb dX4_roomOf_104 ?_
          obtain ⟨u11, hq12, hF⟩ := zbd_t hF
          refine zgoI (w' := (zC ad k sv kE kR fb ft fs rws nx ct ch ln)) hw hA [] rfl (zS (As := [.long (u3 &&& u9)]) (rest := []) ⟨hx, hb, hml, hown, hts⟩ (mX3_size l G k  H.size  (u3 &&& u9) u11 hq12) (va_cwS 1 hts gX4_roomOf_X3_size rfl rfl rfl kdX3_size ⟨Nat.le_of_ble_eq_true rfl, Nat.le_of_ble_eq_true rfl⟩) hK hA hw [] rfl (by decide) rfl hl.1 rfl (Nat.le_of_ble_eq_true rfl) dX4_roomOf_105 ⟨Nat.le_of_ble_eq_true rfl, Nat.le_of_ble_eq_true rfl⟩) rfl rfl rfl (fun H locs hw => ?_)
          obtain rfl := Option.some.inj hF
          refine W.widen (k := 2) (n := 12) (Nat.le_of_ble_eq_true rfl) (Nat.le_of_ble_eq_true rfl) ?_
          exact hret _ _ _ _ rfl rfl hw dX4_roomOf_108
        have hF := zif_f hc8 hF
        by_cases hc13 : p2 = (2 : Int32)
        · have hF := zif_t hc13 hF
          refine lv_tableIn (tgt := 109) (off := 56) hx hb dX4_roomOf_53 (by rw [hc13]; decide) (by rw [hc13]; decide) (by rw [hc13]; rfl) (by decide) ?_
          refine lv_lload hx hb dX4_roomOf_109 (lv_at hl 0 rfl) ?_
          refine lv_aload_n hx hb dX4_roomOf_111 rfl (lv_at hl 1 rfl) ?_
          refine va_get (D := G) (ci := 3) (v := .ref (ad 1)) (C := RX4) (T := TX4) (N := 8) hx hb hts inX4_roomOf_X4 hown hK.1 hw.1 0 rfl rfl 0 (by decide) (hts (.fieldLink RX4 10 "SealedBoard" "board" "LSealedBoard$Position;") (by decide +kernel)) (fun _ h9 => h9) rfl dX4_roomOf_112 ?_
          refine lv_iload_n hx hb dX4_roomOf_115 rfl (lv_at hl 2 rfl) ?_
          obtain ⟨u14, hq15, hF⟩ := zbd_t hF
          refine zgoI (w' := (zC ad k sv kE kR fb ft fs rws nx ct ch ln)) hw hA [] rfl (zS (As := [.int p0]) (rest := [.ref (ad 1), .long u3]) ⟨hx, hb, hml, hown, hts⟩ (mX4_otherSide l G k  H.size  p0 u14 hq15) (va_cwS 1 hts gX4_roomOf_X4_otherSide rfl rfl rfl kdX4_otherSide ⟨Nat.le_of_ble_eq_true rfl, Nat.le_of_ble_eq_true rfl⟩) hK hA hw [] rfl (by decide) rfl hl.1 rfl (Nat.le_of_ble_eq_true rfl) dX4_roomOf_116 ⟨Nat.le_of_ble_eq_true rfl, Nat.le_of_ble_eq_true rfl⟩) rfl rfl rfl (fun H locs hw => ?_)
          obtain ⟨u16, hq17, hF⟩ := zbd_t hF
          refine zgoL (w' := (zC ad k sv kE kR fb ft fs rws nx ct ch ln)) hw hA [1, 2] rfl (zV (As := [.int u14]) (rest := [.long u3]) ⟨hx, hb, hml, hown, hts⟩ (mX2_piecesOf l G k (ad 1) (ad 2) H.size fb u14 u16 hq17) (cwV 1 hts gX4_roomOf_X2_piecesOf rfl rfl rfl kdX2_piecesOf ⟨Nat.le_of_ble_eq_true rfl, Nat.le_of_ble_eq_true rfl⟩) hK hA hw [1, 2] rfl (by decide) 1 rfl rfl rfl rfl hl.1 rfl (Nat.le_of_ble_eq_true rfl) dX4_roomOf_119 ⟨Nat.le_of_ble_eq_true rfl, Nat.le_of_ble_eq_true rfl⟩) rfl rfl rfl (fun H locs hw => ?_)
          refine lv_land hx hb dX4_roomOf_122 ?_
          obtain ⟨u18, hq19, hF⟩ := zbd_t hF
          refine zgoI (w' := (zC ad k sv kE kR fb ft fs rws nx ct ch ln)) hw hA [] rfl (zS (As := [.long (u3 &&& u16)]) (rest := []) ⟨hx, hb, hml, hown, hts⟩ (mX3_size l G k  H.size  (u3 &&& u16) u18 hq19) (va_cwS 1 hts gX4_roomOf_X3_size rfl rfl rfl kdX3_size ⟨Nat.le_of_ble_eq_true rfl, Nat.le_of_ble_eq_true rfl⟩) hK hA hw [] rfl (by decide) rfl hl.1 rfl (Nat.le_of_ble_eq_true rfl) dX4_roomOf_123 ⟨Nat.le_of_ble_eq_true rfl, Nat.le_of_ble_eq_true rfl⟩) rfl rfl rfl (fun H locs hw => ?_)
          obtain rfl := Option.some.inj hF
          refine W.widen (k := 2) (n := 12) (Nat.le_of_ble_eq_true rfl) (Nat.le_of_ble_eq_true rfl) ?_
          exact hret _ _ _ _ rfl rfl hw dX4_roomOf_126
        have hF := zif_f hc13 hF
        by_cases hc20 : p2 = (3 : Int32)
        · have hF := zif_t hc20 hF
          refine lv_tableIn (tgt := 127) (off := 74) hx hb dX4_roomOf_53 (by rw [hc20]; decide) (by rw [hc20]; decide) (by rw [hc20]; rfl) (by decide) ?_
          refine lv_lload hx hb dX4_roomOf_127 (lv_at hl 0 rfl) ?_
          refine lv_aload_n hx hb dX4_roomOf_129 rfl (lv_at hl 1 rfl) ?_
          refine va_get (D := G) (ci := 3) (v := .ref (ad 1)) (C := RX4) (T := TX4) (N := 8) hx hb hts inX4_roomOf_X4 hown hK.1 hw.1 0 rfl rfl 0 (by decide) (hts (.fieldLink RX4 10 "SealedBoard" "board" "LSealedBoard$Position;") (by decide +kernel)) (fun _ h9 => h9) rfl dX4_roomOf_130 ?_
          obtain ⟨u21, hq22, hF⟩ := zbd_t hF
          refine zgoL (w' := (zC ad k sv kE kR fb ft fs rws nx ct ch ln)) hw hA [1, 2] rfl (zV (As := []) (rest := [.long u3]) ⟨hx, hb, hml, hown, hts⟩ (mX2_allDoors l G k (ad 1) (ad 2) H.size fb  u21 hq22) (cwV 0 hts gX4_roomOf_X2_allDoors rfl rfl rfl kdX2_allDoors ⟨Nat.le_of_ble_eq_true rfl, Nat.le_of_ble_eq_true rfl⟩) hK hA hw [1, 2] rfl (by decide) 1 rfl rfl rfl rfl hl.1 rfl (Nat.le_of_ble_eq_true rfl) dX4_roomOf_133 ⟨Nat.le_of_ble_eq_true rfl, Nat.le_of_ble_eq_true rfl⟩) rfl rfl rfl (fun H locs hw => ?_)
          refine lv_land hx hb dX4_roomOf_136 ?_
          obtain ⟨u23, hq24, hF⟩ := zbd_t hF
          refine zgoI (w' := (zC ad k sv kE kR fb ft fs rws nx ct ch ln)) hw hA [] rfl (zS (As := [.long (u3 &&& u21)]) (rest := []) ⟨hx, hb, hml, hown, hts⟩ (mX3_size l G k  H.size  (u3 &&& u21) u23 hq24) (va_cwS 1 hts gX4_roomOf_X3_size rfl rfl rfl kdX3_size ⟨Nat.le_of_ble_eq_true rfl, Nat.le_of_ble_eq_true rfl⟩) hK hA hw [] rfl (by decide) rfl hl.1 rfl (Nat.le_of_ble_eq_true rfl) dX4_roomOf_137 ⟨Nat.le_of_ble_eq_true rfl, Nat.le_of_ble_eq_true rfl⟩) rfl rfl rfl (fun H locs hw => ?_)
          obtain rfl := Option.some.inj hF
          refine W.widen (k := 2) (n := 12) (Nat.le_of_ble_eq_true rfl) (Nat.le_of_ble_eq_true rfl) ?_
          exact hret _ _ _ _ rfl rfl hw dX4_roomOf_140
        have hF := zif_f hc20 hF
        by_cases hc25 : p2 = (4 : Int32)
        · have hF := zif_t hc25 hF
          refine lv_tableIn (tgt := 141) (off := 88) hx hb dX4_roomOf_53 (by rw [hc25]; decide) (by rw [hc25]; decide) (by rw [hc25]; rfl) (by decide) ?_
          refine lv_lload hx hb dX4_roomOf_141 (lv_at hl 0 rfl) ?_
          obtain ⟨u26, hq27, hF⟩ := zbd_t hF
          refine zgoI (w' := (zC ad k sv kE kR fb ft fs rws nx ct ch ln)) hw hA [] rfl (zS (As := [.long u3]) (rest := []) ⟨hx, hb, hml, hown, hts⟩ (mX3_lowest l G k  H.size  u3 u26 hq27) (va_cwS 1 hts gX4_roomOf_X3_lowest rfl rfl rfl kdX3_lowest ⟨Nat.le_of_ble_eq_true rfl, Nat.le_of_ble_eq_true rfl⟩) hK hA hw [] rfl (by decide) rfl hl.1 rfl (Nat.le_of_ble_eq_true rfl) dX4_roomOf_143 ⟨Nat.le_of_ble_eq_true rfl, Nat.le_of_ble_eq_true rfl⟩) rfl rfl rfl (fun H locs hw => ?_)
          obtain rfl := Option.some.inj hF
          refine W.widen (k := 2) (n := 12) (Nat.le_of_ble_eq_true rfl) (Nat.le_of_ble_eq_true rfl) ?_
          exact hret _ _ _ _ rfl rfl hw dX4_roomOf_146
        have hF := zif_f hc25 hF
        refine lv_tableOut (tgt := 147) hx hb dX4_roomOf_53 (by
          have q0 : p2.toInt ≠ 0 := fun q => hc5 (Int32.toInt_inj.mp q)
          have q1 : p2.toInt ≠ 1 := fun q => hc8 (Int32.toInt_inj.mp q)
          have q2 : p2.toInt ≠ 2 := fun q => hc13 (Int32.toInt_inj.mp q)
          have q3 : p2.toInt ≠ 3 := fun q => hc20 (Int32.toInt_inj.mp q)
          have q4 : p2.toInt ≠ 4 := fun q => hc25 (Int32.toInt_inj.mp q)
          omega) (by decide) ?_
        refine lv_lload hx hb dX4_roomOf_147 (lv_at hl 0 rfl) ?_
        refine lv_aload_n hx hb dX4_roomOf_149 rfl (lv_at hl 1 rfl) ?_
        refine va_get (D := G) (ci := 3) (v := .ref (ad 1)) (C := RX4) (T := TX4) (N := 8) hx hb hts inX4_roomOf_X4 hown hK.1 hw.1 0 rfl rfl 0 (by decide) (hts (.fieldLink RX4 10 "SealedBoard" "board" "LSealedBoard$Position;") (by decide +kernel)) (fun _ h9 => h9) rfl dX4_roomOf_150 ?_
        refine lv_iload_n hx hb dX4_roomOf_153 rfl (lv_at hl 2 rfl) ?_
        obtain ⟨u28, hq29, hF⟩ := zbd_t hF
        refine zgoL (w' := (zC ad k sv kE kR fb ft fs rws nx ct ch ln)) hw hA [1, 2] rfl (zV (As := [.int p0]) (rest := [.long u3]) ⟨hx, hb, hml, hown, hts⟩ (mX2_piecesOf l G k (ad 1) (ad 2) H.size fb p0 u28 hq29) (cwV 1 hts gX4_roomOf_X2_piecesOf rfl rfl rfl kdX2_piecesOf ⟨Nat.le_of_ble_eq_true rfl, Nat.le_of_ble_eq_true rfl⟩) hK hA hw [1, 2] rfl (by decide) 1 rfl rfl rfl rfl hl.1 rfl (Nat.le_of_ble_eq_true rfl) dX4_roomOf_154 ⟨Nat.le_of_ble_eq_true rfl, Nat.le_of_ble_eq_true rfl⟩) rfl rfl rfl (fun H locs hw => ?_)
        refine lv_land hx hb dX4_roomOf_157 ?_
        refine lv_lconst (v := (0 : Int64)) hx hb dX4_roomOf_158 (by decide) ?_
        refine W.lcmp hx hb dX4_roomOf_159 ?_
        refine lv_if_ne (tgt := 167) hx hb dX4_roomOf_160 (by decide) (fun hc => ?_) (fun hc => ?_)
        · have hF := zif_f hc hF
          refine lv_iconst (v := (0 : Int32)) hx hb dX4_roomOf_167 (by decide) ?_
          obtain rfl := Option.some.inj hF
          refine W.widen (k := 2) (n := 12) (Nat.le_of_ble_eq_true rfl) (Nat.le_of_ble_eq_true rfl) ?_
          exact hret _ _ _ _ rfl rfl hw dX4_roomOf_168
        · have hF := zif_t hc hF
          refine lv_iconst (v := (1 : Int32)) hx hb dX4_roomOf_163 (by decide) ?_
          refine lv_goto (tgt := 168) hx hb dX4_roomOf_164 (by decide) ?_
          obtain rfl := Option.some.inj hF
          refine W.widen (k := 2) (n := 12) (Nat.le_of_ble_eq_true rfl) (Nat.le_of_ble_eq_true rfl) ?_
          exact hret _ _ _ _ rfl rfl hw dX4_roomOf_168
      · have hF := zif_f hc hF
        obtain rfl := Option.some.inj hF
        exact htho _ _ _ _ _ "java/lang/IllegalArgumentException" 70 201 74 _ _ "no such number of a room" (show (2 : Nat) ≠ 0 by decide) rfl hw (hl.1.trans hml.symm) (by decide +kernel) (by decide +kernel) (hts (.classLink RX4 70 "java/lang/IllegalArgumentException") (by decide +kernel)) (hts (.initialized "java/lang/IllegalArgumentException") (by decide +kernel)) (vx_hat (B := zBad "java/lang/IllegalArgumentException") (fun w hw9 => hts w (naX4_roomOf_2 w hw9)) (by decide +kernel) (zbad hK.2 (by decide))) (by decide +kernel) ⟨dX4_roomOf_42, dX4_roomOf_45, Or.inl ⟨dX4_roomOf_46, dX4_roomOf_48, dX4_roomOf_51⟩⟩ (Nat.le_of_ble_eq_true rfl) (Nat.le_of_ble_eq_true rfl) (Nat.le_of_ble_eq_true rfl) (Nat.le_of_ble_eq_true rfl) (Nat.le_of_ble_eq_true rfl) (Nat.le_of_ble_eq_true rfl)
  · have hF := zif_t hc hF
    obtain rfl := Option.some.inj hF
    exact htho _ _ _ _ _ "java/lang/IndexOutOfBoundsException" 196 198 200 _ _ "no such room" (show (1 : Nat) ≠ 0 by decide) rfl hw (hl.1.trans hml.symm) (by decide +kernel) (by decide +kernel) (hts (.classLink RX4 196 "java/lang/IndexOutOfBoundsException") (by decide +kernel)) (hts (.initialized "java/lang/IndexOutOfBoundsException") (by decide +kernel)) (vx_hat (B := zBad "java/lang/IndexOutOfBoundsException") (fun w hw9 => hts w (naX4_roomOf_1 w hw9)) (by decide +kernel) (zbad hK.2 (by decide))) (by decide +kernel) ⟨dX4_roomOf_22, dX4_roomOf_25, Or.inl ⟨dX4_roomOf_26, dX4_roomOf_28, dX4_roomOf_31⟩⟩ (Nat.le_of_ble_eq_true rfl) (Nat.le_of_ble_eq_true rfl) (Nat.le_of_ble_eq_true rfl) (Nat.le_of_ble_eq_true rfl) (Nat.le_of_ble_eq_true rfl) (Nat.le_of_ble_eq_true rfl)

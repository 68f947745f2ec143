/-! SealedBoard.sealed(I)I -/
abbrev rmX4_sealed : Room := { frames := 7, cells := 1, slots := 6, locals := 105 }
theorem kdX4_sealed : yX4_sealed.cls = RX4 ∧ yX4_sealed.cls ≠ "java/lang/invoke/MethodHandle" ∧ yX4_sealed.cls ≠ "java/lang/invoke/VarHandle" ∧ (parseMethodDescriptor yX4_sealed.desc).map (fun d => d.parameters.length) = some 1 := by decide +kernel
theorem inX4_sealed_X4 : ∀ w ∈ u_ws RX4 TX4 8, w ∈ wsX4_sealed := by decide +kernel
def fX4_sealed (fb : Nat → Int64) (p0 : Int32) : Option (Nat × Int32) := (zbd (fX4_requireSide p0) (fun u1 => (if u1 = 0 then (zbd (fX2_countSealedByRooms fb p0) (fun u3 => (some (0, u3)))) else (some (u1, (0 : Int32))))))
set_option maxHeartbeats 400000 in
set_option maxRecDepth 100000 in
theorem mX4_sealed (l : Launch) (hl9 : l.stackTraces = false) (G : va_G) (k : Nat → ClassId) (ad : Nat → Nat) (sz : Nat) (sv : Int32) (kE : Int32) (kR : Int32) (fb : Nat → Int64) (ft : Nat → Int64) (fs : Nat → Int64) (rws : Nat → Int64) (nx : Int32) (ct : Int32) (ch : Nat → Int32) (ln : Int32) (p0 : Int32) (o : Nat × Int32) (hF : fX4_sealed fb p0 = some o) : zXI l yX4_sealed wsX4_sealed rmX4_sealed G k (zC ad k sv kE kR fb ft fs rws nx ct ch ln) sz [.ref (ad 0), .int p0] 1 6 o.1 o.2 (zC ad k sv kE kR fb ft fs rws nx ct ch ln) := by
  refine zof_XI hl9 (cc := cX4_sealed) (nL := 2) (own := RX4) (rt := .int) (by decide) rfl rfl (Nat.le_of_ble_eq_true rfl) ?_
  intro p e s m args below meth c A Q C0 hK hA hret hthp htho ls hl hw
  have hl : lv_has ls 2 [(0, .ref (ad 0)), (1, .int p0)] := hl
  obtain ⟨hx, hb, hr, hml, hown, hts, hlocks⟩ := id C0
  obtain ⟨H, hH⟩ : ∃ z, z = s.heap := ⟨_, rfl⟩
  rw [← hH] at hw ⊢
  unfold fX4_sealed at hF
  refine lv_iload_n hx hb dX4_sealed_0 rfl (lv_at hl 1 rfl) ?_
  obtain ⟨u1, hq2, hF⟩ := zbd_t hF
  refine zgoXV (o0 := u1) (w' := (zC ad k sv kE kR fb ft fs rws nx ct ch ln)) hw hA [] rfl (zSx (As := [.int p0]) (rest := []) ⟨hx, hb, hml, hown, hts⟩ (mX4_requireSide l hl9 G k  H.size  p0 u1 hq2) (va_cwS 1 hts gX4_sealed_X4_requireSide rfl rfl rfl kdX4_requireSide ⟨Nat.le_of_ble_eq_true rfl, Nat.le_of_ble_eq_true rfl⟩) hK hA hw [] rfl (by decide) rfl hl.1 rfl (Nat.le_of_ble_eq_true rfl) dX4_sealed_1 ⟨Nat.le_of_ble_eq_true rfl, Nat.le_of_ble_eq_true rfl⟩) rfl rfl rfl (fun h05 H locs q9 E9 ce9 hw g1 g2 g3 g4 => ?_) (fun h05 H locs hw => ?_)
  · have hF := zif_f h05 hF
    obtain rfl := Option.some.inj hF
    exact hthp _ _ _ _ _ _ _ _ _ _ h05 hw g1 g2 g3 g4 (Nat.le_of_ble_eq_true rfl) (Nat.le_of_ble_eq_true rfl)
  have hF := zif_t h05 hF
  refine lv_aload_n hx hb dX4_sealed_4 rfl (lv_at hl 0 rfl) ?_
  refine va_get (D := G) (ci := 3) (v := .ref (ad 1)) (C := RX4) (T := TX4) (N := 8) hx hb hts inX4_sealed_X4 hown hK.1 hw.1 0 rfl rfl 0 (by decide) (hts (.fieldLink RX4 10 "SealedBoard" "board" "LSealedBoard$Position;") (by decide +kernel)) (fun _ h9 => h9) rfl dX4_sealed_5 ?_
  refine lv_iload_n hx hb dX4_sealed_8 rfl (lv_at hl 1 rfl) ?_
  obtain ⟨u3, hq4, hF⟩ := zbd_t hF
  refine zgoI (w' := (zC ad k sv kE kR fb ft fs rws nx ct ch ln)) hw hA [1, 2] rfl (zV (As := [.int p0]) (rest := []) ⟨hx, hb, hml, hown, hts⟩ (mX2_countSealedByRooms l G k (ad 1) (ad 2) H.size fb p0 u3 hq4) (cwV 1 hts gX4_sealed_X2_countSealedByRooms rfl rfl rfl kdX2_countSealedByRooms ⟨Nat.le_of_ble_eq_true rfl, Nat.le_of_ble_eq_true rfl⟩) hK hA hw [1, 2] rfl (by decide) 1 rfl rfl rfl rfl hl.1 rfl (Nat.le_of_ble_eq_true rfl) dX4_sealed_9 ⟨Nat.le_of_ble_eq_true rfl, Nat.le_of_ble_eq_true rfl⟩) rfl rfl rfl (fun H locs hw => ?_)
  obtain rfl := Option.some.inj hF
  exact hret _ _ _ _ rfl rfl hw dX4_sealed_12

/-! SealedBoard.sealedAgain(I)I -/
abbrev rmX4_sealedAgain : Room := { frames := 7, cells := 1, slots := 6, locals := 102 }
theorem kdX4_sealedAgain : yX4_sealedAgain.cls = RX4 ∧ yX4_sealedAgain.cls ≠ "java/lang/invoke/MethodHandle" ∧ yX4_sealedAgain.cls ≠ "java/lang/invoke/VarHandle" ∧ (parseMethodDescriptor yX4_sealedAgain.desc).map (fun d => d.parameters.length) = some 1 := by decide +kernel
theorem inX4_sealedAgain_X4 : ∀ w ∈ u_ws RX4 TX4 8, w ∈ wsX4_sealedAgain := by decide +kernel
def fX4_sealedAgain (fb : Nat → Int64) (p0 : Int32) : Option (Nat × Int32) := (zbd (fX4_requireSide p0) (fun u1 => (if u1 = 0 then (zbd (fX2_countSealedByReach fb p0) (fun u3 => (some (0, u3)))) else (some (u1, (0 : Int32))))))
set_option maxHeartbeats 400000 in
set_option maxRecDepth 100000 in
theorem mX4_sealedAgain (l : Launch) (hl9 : l.stackTraces = false) (G : va_G) (k : Nat → ClassId) (ad : Nat → Nat) (sz : Nat) (sv : Int32) (kE : Int32) (kR : Int32) (fb : Nat → Int64) (ft : Nat → Int64) (fs : Nat → Int64) (rws : Nat → Int64) (nx : Int32) (ct : Int32) (ch : Nat → Int32) (ln : Int32) (p0 : Int32) (o : Nat × Int32) (hF : fX4_sealedAgain fb p0 = some o) : zXI l yX4_sealedAgain wsX4_sealedAgain rmX4_sealedAgain G k (zC ad k sv kE kR fb ft fs rws nx ct ch ln) sz [.ref (ad 0), .int p0] 1 6 o.1 o.2 (zC ad k sv kE kR fb ft fs rws nx ct ch ln) := by
  refine zof_XI hl9 (cc := cX4_sealedAgain) (nL := 2) (own := RX4) (rt := .int) (by decide) rfl rfl (Nat.le_of_ble_eq_true rfl) ?_
  intro p e s m args below meth c A Q C0 hK hA hret hthp htho ls hl hw
  have hl : lv_has ls 2 [(0, .ref (ad 0)), (1, .int p0)] := hl
  obtain ⟨hx, hb, hr, hml, hown, hts, hlocks⟩ := id C0
  obtain ⟨H, hH⟩ : ∃ z, z = s.heap := ⟨_, rfl⟩
  rw [← hH] at hw ⊢
  unfold fX4_sealedAgain at hF
  refine lv_iload_n hx hb dX4_sealedAgain_0 rfl (lv_at hl 1 rfl) ?_
  obtain ⟨u1, hq2, hF⟩ := zbd_t hF
  refine zgoXV (o0 := u1) (w' := (zC ad k sv kE kR fb ft fs rws nx ct ch ln)) hw hA [] rfl (zSx (As := [.int p0]) (rest := []) ⟨hx, hb, hml, hown, hts⟩ (mX4_requireSide l hl9 G k  H.size  p0 u1 hq2) (va_cwS 1 hts gX4_sealedAgain_X4_requireSide rfl rfl rfl kdX4_requireSide ⟨Nat.le_of_ble_eq_true rfl, Nat.le_of_ble_eq_true rfl⟩) hK hA hw [] rfl (by decide) rfl hl.1 rfl (Nat.le_of_ble_eq_true rfl) dX4_sealedAgain_1 ⟨Nat.le_of_ble_eq_true rfl, Nat.le_of_ble_eq_true rfl⟩) rfl rfl rfl (fun h05 H locs q9 E9 ce9 hw g1 g2 g3 g4 => ?_) (fun h05 H locs hw => ?_)
  · have hF := zif_f h05 hF
    obtain rfl := Option.some.inj hF
    exact hthp _ _ _ _ _ _ _ _ _ _ h05 hw g1 g2 g3 g4 (Nat.le_of_ble_eq_true rfl) (Nat.le_of_ble_eq_true rfl)
  have hF := zif_t h05 hF
  refine lv_aload_n hx hb dX4_sealedAgain_4 rfl (lv_at hl 0 rfl) ?_
  refine va_get (D := G) (ci := 3) (v := .ref (ad 1)) (C := RX4) (T := TX4) (N := 8) hx hb hts inX4_sealedAgain_X4 hown hK.1 hw.1 0 rfl rfl 0 (by decide) (hts (.fieldLink RX4 10 "SealedBoard" "board" "LSealedBoard$Position;") (by decide +kernel)) (fun _ h9 => h9) rfl dX4_sealedAgain_5 ?_
  refine lv_iload_n hx hb dX4_sealedAgain_8 rfl (lv_at hl 1 rfl) ?_
  obtain ⟨u3, hq4, hF⟩ := zbd_t hF
  refine zgoI (w' := (zC ad k sv kE kR fb ft fs rws nx ct ch ln)) hw hA [1, 2] rfl (zV (As := [.int p0]) (rest := []) ⟨hx, hb, hml, hown, hts⟩ (mX2_countSealedByReach l G k (ad 1) (ad 2) H.size fb p0 u3 hq4) (cwV 1 hts gX4_sealedAgain_X2_countSealedByReach rfl rfl rfl kdX2_countSealedByReach ⟨Nat.le_of_ble_eq_true rfl, Nat.le_of_ble_eq_true rfl⟩) hK hA hw [1, 2] rfl (by decide) 1 rfl rfl rfl rfl hl.1 rfl (Nat.le_of_ble_eq_true rfl) dX4_sealedAgain_9 ⟨Nat.le_of_ble_eq_true rfl, Nat.le_of_ble_eq_true rfl⟩) rfl rfl rfl (fun H locs hw => ?_)
  obtain rfl := Option.some.inj hF
  exact hret _ _ _ _ rfl rfl hw dX4_sealedAgain_12

/-! SealedBoard.steps(II)I -/
abbrev rmX4_steps : Room := { frames := 7, cells := 3, slots := 18, locals := 102 }
theorem naX4_steps_5 : ∀ w ∈ (vx_atS RX4 169 "java/util/NoSuchElementException" zNm).filter goodWord, w ∈ wsX4_steps := by decide +kernel
theorem kdX4_steps : yX4_steps.cls = RX4 ∧ yX4_steps.cls ≠ "java/lang/invoke/MethodHandle" ∧ yX4_steps.cls ≠ "java/lang/invoke/VarHandle" ∧ (parseMethodDescriptor yX4_steps.desc).map (fun d => d.parameters.length) = some 2 := by decide +kernel
theorem inX4_steps_X4 : ∀ w ∈ u_ws RX4 TX4 8, w ∈ wsX4_steps := by decide +kernel
def fX4_steps (fb : Nat → Int64) (p0 : Int32) (p1 : Int32) : Option (Nat × Int32) := (zbd (fX4_requireSide p0) (fun u1 => (if u1 = 0 then (zbd (fX4_requireSquare p1) (fun u3 => (if u3 = 0 then (zbd (fX2_countStepsTo fb p0 p1) (fun u5 => (if u5 = (-1 : Int32) then (some (5, (0 : Int32))) else (some (0, u5))))) else (some (u3, (0 : Int32)))))) else (some (u1, (0 : Int32))))))
set_option maxHeartbeats 400000 in
set_option maxRecDepth 100000 in
theorem mX4_steps (l : Launch) (hl9 : l.stackTraces = false) (G : va_G) (k : Nat → ClassId) (ad : Nat → Nat) (sz : Nat) (sv : Int32) (kE : Int32) (kR : Int32) (fb : Nat → Int64) (ft : Nat → Int64) (fs : Nat → Int64) (rws : Nat → Int64) (nx : Int32) (ct : Int32) (ch : Nat → Int32) (ln : Int32) (p0 : Int32) (p1 : Int32) (o : Nat × Int32) (hF : fX4_steps fb p0 p1 = some o) : zXI l yX4_steps wsX4_steps rmX4_steps G k (zC ad k sv kE kR fb ft fs rws nx ct ch ln) sz [.ref (ad 0), .int p0, .int p1] 3 18 o.1 o.2 (zC ad k sv kE kR fb ft fs rws nx ct ch ln) := by
  refine zof_XI hl9 (cc := cX4_steps) (nL := 4) (own := RX4) (rt := .int) (by decide) rfl rfl (Nat.le_of_ble_eq_true rfl) ?_
  intro p e s m args below meth c A Q C0 hK hA hret hthp htho ls hl hw
  have hl : lv_has ls 4 [(0, .ref (ad 0)), (1, .int p0), (2, .int p1)] := hl
  obtain ⟨hx, hb, hr, hml, hown, hts, hlocks⟩ := id C0
  obtain ⟨H, hH⟩ : ∃ z, z = s.heap := ⟨_, rfl⟩
  rw [← hH] at hw ⊢
  unfold fX4_steps at hF
  refine lv_iload_n hx hb dX4_steps_0 rfl (lv_at hl 1 rfl) ?_
  obtain ⟨u1, hq2, hF⟩ := zbd_t hF
  refine zgoXV (o0 := u1) (w' := (zC ad k sv kE kR fb ft fs rws nx ct ch ln)) hw hA [] rfl (zSx (As := [.int p0]) (rest := []) ⟨hx, hb, hml, hown, hts⟩ (mX4_requireSide l hl9 G k  H.size  p0 u1 hq2) (va_cwS 1 hts gX4_steps_X4_requireSide rfl rfl rfl kdX4_requireSide ⟨Nat.le_of_ble_eq_true rfl, Nat.le_of_ble_eq_true rfl⟩) hK hA hw [] rfl (by decide) rfl hl.1 rfl (Nat.le_of_ble_eq_true rfl) dX4_steps_1 ⟨Nat.le_of_ble_eq_true rfl, Nat.le_of_ble_eq_true rfl⟩) rfl rfl rfl (fun h08 H locs q9 E9 ce9 hw g1 g2 g3 g4 => ?_) (fun h08 H locs hw => ?_)
  · have hF := zif_f h08 hF
    obtain rfl := Option.some.inj hF
    exact hthp _ _ _ _ _ _ _ _ _ _ h08 hw g1 g2 g3 g4 (Nat.le_of_ble_eq_true rfl) (Nat.le_of_ble_eq_true rfl)
  have hF := zif_t h08 hF
  refine lv_iload_n hx hb dX4_steps_4 rfl (lv_at hl 2 rfl) ?_
  obtain ⟨u3, hq4, hF⟩ := zbd_t hF
  refine zgoXV (o0 := u3) (w' := (zC ad k sv kE kR fb ft fs rws nx ct ch ln)) hw hA [] rfl (zSx (As := [.int p1]) (rest := []) ⟨hx, hb, hml, hown, hts⟩ (mX4_requireSquare l hl9 G k  H.size  p1 u3 hq4) (va_cwS 1 hts gX4_steps_X4_requireSquare rfl rfl rfl kdX4_requireSquare ⟨Nat.le_of_ble_eq_true rfl, Nat.le_of_ble_eq_true rfl⟩) hK hA hw [] rfl (by decide) rfl hl.1 rfl (Nat.le_of_ble_eq_true rfl) dX4_steps_5 ⟨Nat.le_of_ble_eq_true rfl, Nat.le_of_ble_eq_true rfl⟩) rfl rfl rfl (fun h07 H locs q9 E9 ce9 hw g1 g2 g3 g4 => ?_) (fun h07 H locs hw => ?_)
  · have hF := zif_f h07 hF
    obtain rfl := Option.some.inj hF
    exact hthp _ _ _ _ _ _ _ _ _ _ h07 hw g1 g2 g3 g4 (Nat.le_of_ble_eq_true rfl) (Nat.le_of_ble_eq_true rfl)
  have hF := zif_t h07 hF
  refine lv_aload_n hx hb dX4_steps_8 rfl (lv_at hl 0 rfl) ?_
  refine va_get (D := G) (ci := 3) (v := .ref (ad 1)) (C := RX4) (T := TX4) (N := 8) hx hb hts inX4_steps_X4 hown hK.1 hw.1 0 rfl rfl 0 (by decide) (hts (.fieldLink RX4 10 "SealedBoard" "board" "LSealedBoard$Position;") (by decide +kernel)) (fun _ h9 => h9) rfl dX4_steps_9 ?_
  refine lv_iload_n hx hb dX4_steps_12 rfl (lv_at hl 1 rfl) ?_
  refine lv_iload_n hx hb dX4_steps_13 rfl (lv_at hl 2 rfl) ?_
  obtain ⟨u5, hq6, hF⟩ := zbd_t hF
  refine zgoI (w' := (zC ad k sv kE kR fb ft fs rws nx ct ch ln)) hw hA [1, 2] rfl (zV (As := [.int p0, .int p1]) (rest := []) ⟨hx, hb, hml, hown, hts⟩ (mX2_countStepsTo l G k (ad 1) (ad 2) H.size fb p0 p1 u5 hq6) (cwV 2 hts gX4_steps_X2_countStepsTo rfl rfl rfl kdX2_countStepsTo ⟨Nat.le_of_ble_eq_true rfl, Nat.le_of_ble_eq_true rfl⟩) hK hA hw [1, 2] rfl (by decide) 1 rfl rfl rfl rfl hl.1 rfl (Nat.le_of_ble_eq_true rfl) dX4_steps_14 ⟨Nat.le_of_ble_eq_true rfl, Nat.le_of_ble_eq_true rfl⟩) rfl rfl rfl (fun H locs hw => ?_)
  refine lv_istore_n (lv' := [(3, .int u5), (0, .ref (ad 0)), (1, .int p0), (2, .int p1)]) hx hb dX4_steps_17 rfl hl (by decide) rfl (fun ls hl => ?_)
  refine lv_iload_n hx hb dX4_steps_18 rfl (lv_at hl 0 rfl) ?_
  refine lv_iconst (v := (-1 : Int32)) hx hb dX4_steps_19 (by decide) ?_
  refine lv_icmp_ne (tgt := 33) hx hb dX4_steps_20 (by decide) (fun hc => ?_) (fun hc => ?_)
  · have hF := zif_f hc hF
    refine lv_iload_n hx hb dX4_steps_33 rfl (lv_at hl 0 rfl) ?_
    obtain rfl := Option.some.inj hF
    refine W.widen (k := 3) (n := 18) (Nat.le_of_ble_eq_true rfl) (Nat.le_of_ble_eq_true rfl) ?_
    exact hret _ _ _ _ rfl rfl hw dX4_steps_34
  · have hF := zif_t hc hF
    obtain rfl := Option.some.inj hF
    exact htho _ _ _ _ _ "java/util/NoSuchElementException" 165 218 169 _ _ "the square cannot be reached" (show (5 : Nat) ≠ 0 by decide) rfl hw (hl.1.trans hml.symm) (by decide +kernel) (by decide +kernel) (hts (.classLink RX4 165 "java/util/NoSuchElementException") (by decide +kernel)) (hts (.initialized "java/util/NoSuchElementException") (by decide +kernel)) (vx_hat (B := zBad "java/util/NoSuchElementException") (fun w hw9 => hts w (naX4_steps_5 w hw9)) (by decide +kernel) (zbad hK.2 (by decide))) (by decide +kernel) ⟨dX4_steps_23, dX4_steps_26, Or.inl ⟨dX4_steps_27, dX4_steps_29, dX4_steps_32⟩⟩ (Nat.le_of_ble_eq_true rfl) (Nat.le_of_ble_eq_true rfl) (Nat.le_of_ble_eq_true rfl) (Nat.le_of_ble_eq_true rfl) (Nat.le_of_ble_eq_true rfl) (Nat.le_of_ble_eq_true rfl)

/-! SealedBoard.sealedShare(I)D -/
abbrev rmX4_sealedShare : Room := { frames := 7, cells := 2, slots := 12, locals := 105 }
theorem naX4_sealedShare_6 : ∀ w ∈ (vx_atS RX4 227 "java/lang/ArithmeticException" zNm).filter goodWord, w ∈ wsX4_sealedShare := by decide +kernel
theorem kdX4_sealedShare : yX4_sealedShare.cls = RX4 ∧ yX4_sealedShare.cls ≠ "java/lang/invoke/MethodHandle" ∧ yX4_sealedShare.cls ≠ "java/lang/invoke/VarHandle" ∧ (parseMethodDescriptor yX4_sealedShare.desc).map (fun d => d.parameters.length) = some 1 := by decide +kernel
theorem inX4_sealedShare_X4 : ∀ w ∈ u_ws RX4 TX4 8, w ∈ wsX4_sealedShare := by decide +kernel
def fX4_sealedShare (fb : Nat → Int64) (p0 : Int32) : Option (Nat × UInt64) := (zbd (fX4_requireSide p0) (fun u1 => (if u1 = 0 then (zbd (fX2_openTo fb p0) (fun u3 => (zbd (fX3_size u3) (fun u5 => (if u5 = 0 then (some (6, (0 : UInt64))) else (zbd (fX2_countSealedByRooms fb p0) (fun u7 => (zck (zdn (FP.ddiv (FP.i2d u7) (FP.i2d u5))) (some (0, (FP.ddiv (FP.i2d u7) (FP.i2d u5)))))))))))) else (some (u1, (0 : UInt64))))))
set_option maxHeartbeats 400000 in
set_option maxRecDepth 100000 in
theorem mX4_sealedShare (l : Launch) (hl9 : l.stackTraces = false) (G : va_G) (k : Nat → ClassId) (ad : Nat → Nat) (sz : Nat) (sv : Int32) (kE : Int32) (kR : Int32) (fb : Nat → Int64) (ft : Nat → Int64) (fs : Nat → Int64) (rws : Nat → Int64) (nx : Int32) (ct : Int32) (ch : Nat → Int32) (ln : Int32) (p0 : Int32) (o : Nat × UInt64) (hF : fX4_sealedShare fb p0 = some o) : zXD l yX4_sealedShare wsX4_sealedShare rmX4_sealedShare G k (zC ad k sv kE kR fb ft fs rws nx ct ch ln) sz [.ref (ad 0), .int p0] 2 12 o.1 o.2 (zC ad k sv kE kR fb ft fs rws nx ct ch ln) := by
  refine zof_XD hl9 (cc := cX4_sealedShare) (nL := 3) (own := RX4) (by decide) rfl rfl (Nat.le_of_ble_eq_true rfl) ?_
  intro p e s m args below meth c A Q C0 hK hA hret hthp htho ls hl hw
  have hl : lv_has ls 3 [(0, .ref (ad 0)), (1, .int p0)] := hl
  obtain ⟨hx, hb, hr, hml, hown, hts, hlocks⟩ := id C0
  obtain ⟨H, hH⟩ : ∃ z, z = s.heap := ⟨_, rfl⟩
  rw [← hH] at hw ⊢
  unfold fX4_sealedShare at hF
  refine lv_iload_n hx hb dX4_sealedShare_0 rfl (lv_at hl 1 rfl) ?_
  obtain ⟨u1, hq2, hF⟩ := zbd_t hF
  refine zgoXV (o0 := u1) (w' := (zC ad k sv kE kR fb ft fs rws nx ct ch ln)) hw hA [] rfl (zSx (As := [.int p0]) (rest := []) ⟨hx, hb, hml, hown, hts⟩ (mX4_requireSide l hl9 G k  H.size  p0 u1 hq2) (va_cwS 1 hts gX4_sealedShare_X4_requireSide rfl rfl rfl kdX4_requireSide ⟨Nat.le_of_ble_eq_true rfl, Nat.le_of_ble_eq_true rfl⟩) hK hA hw [] rfl (by decide) rfl hl.1 rfl (Nat.le_of_ble_eq_true rfl) dX4_sealedShare_1 ⟨Nat.le_of_ble_eq_true rfl, Nat.le_of_ble_eq_true rfl⟩) rfl rfl rfl (fun h010 H locs q9 E9 ce9 hw g1 g2 g3 g4 => ?_) (fun h010 H locs hw => ?_)
  · have hF := zif_f h010 hF
    obtain rfl := Option.some.inj hF
    exact hthp _ _ _ _ _ _ _ _ _ _ h010 hw g1 g2 g3 g4 (Nat.le_of_ble_eq_true rfl) (Nat.le_of_ble_eq_true rfl)
  have hF := zif_t h010 hF
  refine lv_aload_n hx hb dX4_sealedShare_4 rfl (lv_at hl 0 rfl) ?_
  refine va_get (D := G) (ci := 3) (v := .ref (ad 1)) (C := RX4) (T := TX4) (N := 8) hx hb hts inX4_sealedShare_X4 hown hK.1 hw.1 0 rfl rfl 0 (by decide) (hts (.fieldLink RX4 10 "SealedBoard" "board" "LSealedBoard$Position;") (by decide +kernel)) (fun _ h9 => h9) rfl dX4_sealedShare_5 ?_
  refine lv_iload_n hx hb dX4_sealedShare_8 rfl (lv_at hl 1 rfl) ?_
  obtain ⟨u3, hq4, hF⟩ := zbd_t hF
  refine zgoL (w' := (zC ad k sv kE kR fb ft fs rws nx ct ch ln)) hw hA [1, 2] rfl (zV (As := [.int p0]) (rest := []) ⟨hx, hb, hml, hown, hts⟩ (mX2_openTo l G k (ad 1) (ad 2) H.size fb p0 u3 hq4) (cwV 1 hts gX4_sealedShare_X2_openTo rfl rfl rfl kdX2_openTo ⟨Nat.le_of_ble_eq_true rfl, Nat.le_of_ble_eq_true rfl⟩) hK hA hw [1, 2] rfl (by decide) 1 rfl rfl rfl rfl hl.1 rfl (Nat.le_of_ble_eq_true rfl) dX4_sealedShare_9 ⟨Nat.le_of_ble_eq_true rfl, Nat.le_of_ble_eq_true rfl⟩) rfl rfl rfl (fun H locs hw => ?_)
  obtain ⟨u5, hq6, hF⟩ := zbd_t hF
  refine zgoI (w' := (zC ad k sv kE kR fb ft fs rws nx ct ch ln)) hw hA [] rfl (zS (As := [.long u3]) (rest := []) ⟨hx, hb, hml, hown, hts⟩ (mX3_size l G k  H.size  u3 u5 hq6) (va_cwS 1 hts gX4_sealedShare_X3_size rfl rfl rfl kdX3_size ⟨Nat.le_of_ble_eq_true rfl, Nat.le_of_ble_eq_true rfl⟩) hK hA hw [] rfl (by decide) rfl hl.1 rfl (Nat.le_of_ble_eq_true rfl) dX4_sealedShare_12 ⟨Nat.le_of_ble_eq_true rfl, Nat.le_of_ble_eq_true rfl⟩) rfl rfl rfl (fun H locs hw => ?_)
  refine lv_istore_n (lv' := [(2, .int u5), (0, .ref (ad 0)), (1, .int p0)]) hx hb dX4_sealedShare_15 rfl hl (by decide) rfl (fun ls hl => ?_)
  refine lv_iload_n hx hb dX4_sealedShare_16 rfl (lv_at hl 0 rfl) ?_
  refine lv_if_ne (tgt := 30) hx hb dX4_sealedShare_17 (by decide) (fun hc => ?_) (fun hc => ?_)
  · have hF := zif_f hc hF
    refine lv_aload_n hx hb dX4_sealedShare_30 rfl (lv_at hl 1 rfl) ?_
    refine va_get (D := G) (ci := 3) (v := .ref (ad 1)) (C := RX4) (T := TX4) (N := 8) hx hb hts inX4_sealedShare_X4 hown hK.1 hw.1 0 rfl rfl 0 (by decide) (hts (.fieldLink RX4 10 "SealedBoard" "board" "LSealedBoard$Position;") (by decide +kernel)) (fun _ h9 => h9) rfl dX4_sealedShare_31 ?_
    refine lv_iload_n hx hb dX4_sealedShare_34 rfl (lv_at hl 2 rfl) ?_
    obtain ⟨u7, hq8, hF⟩ := zbd_t hF
    refine zgoI (w' := (zC ad k sv kE kR fb ft fs rws nx ct ch ln)) hw hA [1, 2] rfl (zV (As := [.int p0]) (rest := []) ⟨hx, hb, hml, hown, hts⟩ (mX2_countSealedByRooms l G k (ad 1) (ad 2) H.size fb p0 u7 hq8) (cwV 1 hts gX4_sealedShare_X2_countSealedByRooms rfl rfl rfl kdX2_countSealedByRooms ⟨Nat.le_of_ble_eq_true rfl, Nat.le_of_ble_eq_true rfl⟩) hK hA hw [1, 2] rfl (by decide) 1 rfl rfl rfl rfl hl.1 rfl (Nat.le_of_ble_eq_true rfl) dX4_sealedShare_35 ⟨Nat.le_of_ble_eq_true rfl, Nat.le_of_ble_eq_true rfl⟩) rfl rfl rfl (fun H locs hw => ?_)
    refine lv_i2d hx hb dX4_sealedShare_38 ?_
    refine lv_iload_n hx hb dX4_sealedShare_39 rfl (lv_at hl 0 rfl) ?_
    refine lv_i2d hx hb dX4_sealedShare_40 ?_
    obtain ⟨hd9, hF⟩ := zck_t hF
    refine lv_ddiv hx hb dX4_sealedShare_41 (zdn_t hd9) ?_
    obtain rfl := Option.some.inj hF
    refine W.widen (k := 2) (n := 12) (Nat.le_of_ble_eq_true rfl) (Nat.le_of_ble_eq_true rfl) ?_
    exact hret _ _ _ _ rfl  hw dX4_sealedShare_42
  · have hF := zif_t hc hF
    obtain rfl := Option.some.inj hF
    exact htho _ _ _ _ _ "java/lang/ArithmeticException" 223 225 227 _ _ "no square is open to the side" (show (6 : Nat) ≠ 0 by decide) rfl hw (hl.1.trans hml.symm) (by decide +kernel) (by decide +kernel) (hts (.classLink RX4 223 "java/lang/ArithmeticException") (by decide +kernel)) (hts (.initialized "java/lang/ArithmeticException") (by decide +kernel)) (vx_hat (B := zBad "java/lang/ArithmeticException") (fun w hw9 => hts w (naX4_sealedShare_6 w hw9)) (by decide +kernel) (zbad hK.2 (by decide))) (by decide +kernel) ⟨dX4_sealedShare_20, dX4_sealedShare_23, Or.inl ⟨dX4_sealedShare_24, dX4_sealedShare_26, dX4_sealedShare_29⟩⟩ (Nat.le_of_ble_eq_true rfl) (Nat.le_of_ble_eq_true rfl) (Nat.le_of_ble_eq_true rfl) (Nat.le_of_ble_eq_true rfl) (Nat.le_of_ble_eq_true rfl) (Nat.le_of_ble_eq_true rfl)

/-! SealedBoard.append(C)I -/
abbrev rmX4_append : Room := { frames := 6, cells := 1, slots := 6, locals := 82 }
theorem naX4_append_2 : ∀ w ∈ (vx_atS RX4 74 "java/lang/IllegalArgumentException" zNm).filter goodWord, w ∈ wsX4_append := by decide +kernel
theorem naX4_append_3 : ∀ w ∈ (vx_atS RX4 88 "java/lang/IllegalStateException" zNm).filter goodWord, w ∈ wsX4_append := by decide +kernel
theorem kdX4_append : yX4_append.cls = RX4 ∧ yX4_append.cls ≠ "java/lang/invoke/MethodHandle" ∧ yX4_append.cls ≠ "java/lang/invoke/VarHandle" ∧ (parseMethodDescriptor yX4_append.desc).map (fun d => d.parameters.length) = some 1 := by decide +kernel
theorem inX4_append_X4 : ∀ w ∈ u_ws RX4 TX4 8, w ∈ wsX4_append := by decide +kernel
def fX4_append (ch : Nat → Int32) (ln : Int32) (p0 : Int32) : Option (Nat × Int32 × (Nat → Int32) × Int32) := (if p0 < (32 : Int32) then (some (2, (0 : Int32), ch, ln)) else (if p0 ≤ (126 : Int32) then (zbd (fX1_isFull ln) (fun u1 => (if u1 = 0 then (zbd (fX1_put ch ln p0) (fun u3 => (some (0, u3.1, u3.2.1, u3.2.2)))) else (some (3, (0 : Int32), ch, ln))))) else (some (2, (0 : Int32), ch, ln))))
set_option maxHeartbeats 400000 in
set_option maxRecDepth 100000 in
theorem mX4_append (l : Launch) (hl9 : l.stackTraces = false) (G : va_G) (k : Nat → ClassId) (ad : Nat → Nat) (sz : Nat) (sv : Int32) (kE : Int32) (kR : Int32) (fb : Nat → Int64) (ft : Nat → Int64) (fs : Nat → Int64) (rws : Nat → Int64) (nx : Int32) (ct : Int32) (ch : Nat → Int32) (ln : Int32) (p0 : Int32) (o : Nat × Int32 × (Nat → Int32) × Int32) (hF : fX4_append ch ln p0 = some o) : zXI l yX4_append wsX4_append rmX4_append G k (zC ad k sv kE kR fb ft fs rws nx ct ch ln) sz [.ref (ad 0), .int p0] 1 6 o.1 o.2.1 (zC ad k sv kE kR fb ft fs rws nx ct o.2.2.1 o.2.2.2) := by
  refine zof_XI hl9 (cc := cX4_append) (nL := 2) (own := RX4) (rt := .int) (by decide) rfl rfl (Nat.le_of_ble_eq_true rfl) ?_
  intro p e s m args below meth c A Q C0 hK hA hret hthp htho ls hl hw
  have hl : lv_has ls 2 [(0, .ref (ad 0)), (1, .int p0)] := hl
  obtain ⟨hx, hb, hr, hml, hown, hts, hlocks⟩ := id C0
  obtain ⟨H, hH⟩ : ∃ z, z = s.heap := ⟨_, rfl⟩
  rw [← hH] at hw ⊢
  unfold fX4_append at hF
  refine lv_iload_n hx hb dX4_append_0 rfl (lv_at hl 1 rfl) ?_
  refine lv_bipush (v := (32 : Int32)) hx hb dX4_append_1 (by decide) ?_
  refine lv_icmp_lt (tgt := 12) hx hb dX4_append_3 (by decide) (fun hc => ?_) (fun hc => ?_)
  · have hF := zif_t hc hF
    obtain rfl := Option.some.inj hF
    exact htho _ _ _ _ _ "java/lang/IllegalArgumentException" 70 228 74 _ _ "the character code is out of range" (show (2 : Nat) ≠ 0 by decide) rfl hw (hl.1.trans hml.symm) (by decide +kernel) (by decide +kernel) (hts (.classLink RX4 70 "java/lang/IllegalArgumentException") (by decide +kernel)) (hts (.initialized "java/lang/IllegalArgumentException") (by decide +kernel)) (vx_hat (B := zBad "java/lang/IllegalArgumentException") (fun w hw9 => hts w (naX4_append_2 w hw9)) (by decide +kernel) (zbad hK.2 (by decide))) (by decide +kernel) ⟨dX4_append_12, dX4_append_15, Or.inl ⟨dX4_append_16, dX4_append_18, dX4_append_21⟩⟩ (Nat.le_of_ble_eq_true rfl) (Nat.le_of_ble_eq_true rfl) (Nat.le_of_ble_eq_true rfl) (Nat.le_of_ble_eq_true rfl) (Nat.le_of_ble_eq_true rfl) (Nat.le_of_ble_eq_true rfl)
  · have hF := zif_f hc hF
    refine lv_iload_n hx hb dX4_append_6 rfl (lv_at hl 1 rfl) ?_
    refine lv_bipush (v := (126 : Int32)) hx hb dX4_append_7 (by decide) ?_
    refine lv_icmp_le (tgt := 22) hx hb dX4_append_9 (by decide) (fun hc => ?_) (fun hc => ?_)
    · have hF := zif_t hc hF
      refine lv_aload_n hx hb dX4_append_22 rfl (lv_at hl 0 rfl) ?_
      refine va_get (D := G) (ci := 3) (v := .ref (ad 9)) (C := RX4) (T := TX4) (N := 8) hx hb hts inX4_append_X4 hown hK.1 hw.1 0 rfl rfl 4 (by decide) (hts (.fieldLink RX4 32 "SealedBoard" "input" "LSealedBoard$Input;") (by decide +kernel)) (fun _ h9 => h9) rfl dX4_append_23 ?_
      obtain ⟨u1, hq2, hF⟩ := zbd_t hF
      refine zgoI (w' := (zC ad k sv kE kR fb ft fs rws nx ct ch ln)) hw hA [9, 10] rfl (zV (As := []) (rest := []) ⟨hx, hb, hml, hown, hts⟩ (mX1_isFull l G k (ad 9) (ad 10) H.size ch ln  u1 hq2) (cwV 0 hts gX4_append_X1_isFull rfl rfl rfl kdX1_isFull ⟨Nat.le_of_ble_eq_true rfl, Nat.le_of_ble_eq_true rfl⟩) hK hA hw [9, 10] rfl (by decide) 9 rfl rfl rfl rfl hl.1 rfl (Nat.le_of_ble_eq_true rfl) dX4_append_26 ⟨Nat.le_of_ble_eq_true rfl, Nat.le_of_ble_eq_true rfl⟩) rfl rfl rfl (fun H locs hw => ?_)
      refine lv_if_eq (tgt := 42) hx hb dX4_append_29 (by decide) (fun hc => ?_) (fun hc => ?_)
      · have hF := zif_t hc hF
        refine lv_aload_n hx hb dX4_append_42 rfl (lv_at hl 0 rfl) ?_
        refine va_get (D := G) (ci := 3) (v := .ref (ad 9)) (C := RX4) (T := TX4) (N := 8) hx hb hts inX4_append_X4 hown hK.1 hw.1 0 rfl rfl 4 (by decide) (hts (.fieldLink RX4 32 "SealedBoard" "input" "LSealedBoard$Input;") (by decide +kernel)) (fun _ h9 => h9) rfl dX4_append_43 ?_
        refine lv_iload_n hx hb dX4_append_46 rfl (lv_at hl 1 rfl) ?_
        obtain ⟨u3, hq4, hF⟩ := zbd_t hF
        refine zgoI (w' := (zC ad k sv kE kR fb ft fs rws nx ct u3.2.1 u3.2.2)) hw hA [9, 10] rfl (zV (As := [.int p0]) (rest := []) ⟨hx, hb, hml, hown, hts⟩ (mX1_put l G k (ad 9) (ad 10) H.size ch ln p0 u3 hq4) (cwV 1 hts gX4_append_X1_put rfl rfl rfl kdX1_put ⟨Nat.le_of_ble_eq_true rfl, Nat.le_of_ble_eq_true rfl⟩) hK hA hw [9, 10] rfl (by decide) 9 rfl rfl rfl rfl hl.1 rfl (Nat.le_of_ble_eq_true rfl) dX4_append_47 ⟨Nat.le_of_ble_eq_true rfl, Nat.le_of_ble_eq_true rfl⟩) rfl rfl rfl (fun H locs hw => ?_)
        obtain rfl := Option.some.inj hF
        refine W.widen (k := 1) (n := 6) (Nat.le_of_ble_eq_true rfl) (Nat.le_of_ble_eq_true rfl) ?_
        exact hret _ _ _ _ rfl rfl hw dX4_append_50
      · have hF := zif_f hc hF
        obtain rfl := Option.some.inj hF
        exact htho _ _ _ _ _ "java/lang/IllegalStateException" 84 233 88 _ _ "the input is full" (show (3 : Nat) ≠ 0 by decide) rfl hw (hl.1.trans hml.symm) (by decide +kernel) (by decide +kernel) (hts (.classLink RX4 84 "java/lang/IllegalStateException") (by decide +kernel)) (hts (.initialized "java/lang/IllegalStateException") (by decide +kernel)) (vx_hat (B := zBad "java/lang/IllegalStateException") (fun w hw9 => hts w (naX4_append_3 w hw9)) (by decide +kernel) (zbad hK.2 (by decide))) (by decide +kernel) ⟨dX4_append_32, dX4_append_35, Or.inl ⟨dX4_append_36, dX4_append_38, dX4_append_41⟩⟩ (Nat.le_of_ble_eq_true rfl) (Nat.le_of_ble_eq_true rfl) (Nat.le_of_ble_eq_true rfl) (Nat.le_of_ble_eq_true rfl) (Nat.le_of_ble_eq_true rfl) (Nat.le_of_ble_eq_true rfl)
    · have hF := zif_f hc hF
      obtain rfl := Option.some.inj hF
      exact htho _ _ _ _ _ "java/lang/IllegalArgumentException" 70 228 74 _ _ "the character code is out of range" (show (2 : Nat) ≠ 0 by decide) rfl hw (hl.1.trans hml.symm) (by decide +kernel) (by decide +kernel) (hts (.classLink RX4 70 "java/lang/IllegalArgumentException") (by decide +kernel)) (hts (.initialized "java/lang/IllegalArgumentException") (by decide +kernel)) (vx_hat (B := zBad "java/lang/IllegalArgumentException") (fun w hw9 => hts w (naX4_append_2 w hw9)) (by decide +kernel) (zbad hK.2 (by decide))) (by decide +kernel) ⟨dX4_append_12, dX4_append_15, Or.inl ⟨dX4_append_16, dX4_append_18, dX4_append_21⟩⟩ (Nat.le_of_ble_eq_true rfl) (Nat.le_of_ble_eq_true rfl) (Nat.le_of_ble_eq_true rfl) (Nat.le_of_ble_eq_true rfl) (Nat.le_of_ble_eq_true rfl) (Nat.le_of_ble_eq_true rfl)

/-! SealedBoard.buyOnTrial(IZ)I -/
abbrev rmX4_buyOnTrial : Room := { frames := 4, cells := 0, slots := 0, locals := 97 }
theorem kdX4_buyOnTrial : yX4_buyOnTrial.cls = RX4 ∧ yX4_buyOnTrial.cls ≠ "java/lang/invoke/MethodHandle" ∧ yX4_buyOnTrial.cls ≠ "java/lang/invoke/VarHandle" ∧ (parseMethodDescriptor yX4_buyOnTrial.desc).map (fun d => d.parameters.length) = some 2 := by decide +kernel
theorem inX4_buyOnTrial_X4 : ∀ w ∈ u_ws RX4 TX4 8, w ∈ wsX4_buyOnTrial := by decide +kernel
def fX4_buyOnTrial_30   (ft : Nat → Int64) (x1 : Int32) (x3 : Int32) : Option (Int32 × (Nat → Int64)) := (if x3 = 0 then (zbd (fX2_takeDoor ft x1) (fun u1 => (some (x3, u1.2)))) else (some (x3, ft)))
def fX4_buyOnTrial (ft : Nat → Int64) (p0 : Int32) (p1 : Int32) : Option (Int32 × (Nat → Int64)) := (zbd (fX2_refusalOfPurchase ft p0 p1) (fun u1 => (if u1 = 0 then (if p1 = 0 then (fX4_buyOnTrial_30    ft p0 u1) else (zbd (fX2_takePiece ft p0) (fun u3 => (some (u1, u3.2))))) else (fX4_buyOnTrial_30    ft p0 u1))))
set_option maxHeartbeats 400000 in
set_option maxRecDepth 100000 in
theorem wX4_buyOnTrial_30 {p : Program} {l : Launch} {e : Env} {s : State} {m : MethodId} {args : Array Value} {below : List Frame} {meth : Method} {c : Code} {A : Nat → Prop} {Q : State → Prop} {G : va_G} {k : Nat → ClassId} {ad : Nat → Nat} {sv : Int32} {kE : Int32} {kR : Int32} {fb : Nat → Int64} {fs : Nat → Int64} {rws : Nat → Int64} {nx : Int32} {ct : Int32} {ch : Nat → Int32} {ln : Int32} {o : Int32 × (Nat → Int64)} (C0 : zCx p s m args meth c wsX4_buyOnTrial cX4_buyOnTrial RX4 (some .int) 4) (hK : zKK G k A s s.heap) (hA : ∀ q : Nat, s.heap.size ≤ q → A q) (hret : zRI p l e rmX4_buyOnTrial s m args below meth c cX4_buyOnTrial G A 0 0 Q .int (zC ad k sv kE kR fb o.2 fs rws nx ct ch ln) o.1)  : ∀ (ft : Nat → Int64) (x1 : Int32) (x3 : Int32), fX4_buyOnTrial_30   ft x1 x3 = some o → ∀ (H : Heap) (locs : List Loc) (ls : Array Slot), zWd G A s (zC ad k sv kE kR fb ft fs rws nx ct ch ln) H locs → lv_has ls 4 [(0, .ref (ad 0)), (1, .int x1), (3, .int x3)] → W p l e rmX4_buyOnTrial s m args below meth c H locs 0 0 Q (F0 m 30 ls []) := by
  obtain ⟨hx, hb, hr, hml, hown, hts, hlocks⟩ := id C0
  intro ft x1 x3 hF H locs ls hw hl
  unfold fX4_buyOnTrial_30 at hF
  refine lv_iload_n hx hb dX4_buyOnTrial_30 rfl (lv_at hl 2 rfl) ?_
  refine lv_if_ne (tgt := 43) hx hb dX4_buyOnTrial_31 (by decide) (fun hc => ?_) (fun hc => ?_)
  · have hF := zif_f hc hF
    refine lv_iload_n hx hb dX4_buyOnTrial_43 rfl (lv_at hl 2 rfl) ?_
    obtain rfl := Option.some.inj hF
    exact hret _ _ _ _ rfl hw dX4_buyOnTrial_44
  · have hF := zif_t hc hF
    refine lv_aload_n hx hb dX4_buyOnTrial_34 rfl (lv_at hl 0 rfl) ?_
    refine va_get (D := G) (ci := 3) (v := .ref (ad 3)) (C := RX4) (T := TX4) (N := 8) hx hb hts inX4_buyOnTrial_X4 hown hK.1 hw.1 0 rfl rfl 1 (by decide) (hts (.fieldLink RX4 16 "SealedBoard" "trial" "LSealedBoard$Position;") (by decide +kernel)) (fun _ h9 => h9) rfl dX4_buyOnTrial_35 ?_
    refine lv_iload_n hx hb dX4_buyOnTrial_38 rfl (lv_at hl 1 rfl) ?_
    obtain ⟨u1, hq2, hF⟩ := zbd_t hF
    refine zgoI (w' := (zC ad k sv kE kR fb u1.2 fs rws nx ct ch ln)) hw hA [3, 4] rfl (zV (As := [.int x1]) (rest := []) ⟨hx, hb, hml, hown, hts⟩ (mX2_takeDoor l G k (ad 3) (ad 4) H.size ft x1 u1 hq2) (cwV 1 hts gX4_buyOnTrial_X2_takeDoor rfl rfl rfl kdX2_takeDoor ⟨Nat.le_of_ble_eq_true rfl, Nat.le_of_ble_eq_true rfl⟩) hK hA hw [3, 4] rfl (by decide) 3 rfl rfl rfl rfl hl.1 rfl (Nat.le_of_ble_eq_true rfl) dX4_buyOnTrial_39 ⟨Nat.le_of_ble_eq_true rfl, Nat.le_of_ble_eq_true rfl⟩) rfl rfl rfl (fun H locs hw => ?_)
    refine lv_pop hx hb dX4_buyOnTrial_42 rfl ?_
    refine lv_iload_n hx hb dX4_buyOnTrial_43 rfl (lv_at hl 2 rfl) ?_
    obtain rfl := Option.some.inj hF
    exact hret _ _ _ _ rfl hw dX4_buyOnTrial_44
set_option maxHeartbeats 400000 in
set_option maxRecDepth 100000 in
theorem mX4_buyOnTrial (l : Launch) (G : va_G) (k : Nat → ClassId) (ad : Nat → Nat) (sz : Nat) (sv : Int32) (kE : Int32) (kR : Int32) (fb : Nat → Int64) (ft : Nat → Int64) (fs : Nat → Int64) (rws : Nat → Int64) (nx : Int32) (ct : Int32) (ch : Nat → Int32) (ln : Int32) (p0 : Int32) (p1 : Int32) (o : Int32 × (Nat → Int64)) (hF : fX4_buyOnTrial ft p0 p1 = some o) : zMI l yX4_buyOnTrial wsX4_buyOnTrial rmX4_buyOnTrial G k (zC ad k sv kE kR fb ft fs rws nx ct ch ln) sz [.ref (ad 0), .int p0, .int p1] o.1 (zC ad k sv kE kR fb o.2 fs rws nx ct ch ln) := by
  refine zof_I (cc := cX4_buyOnTrial) (nL := 4) (own := RX4) (rt := .int) (by decide) rfl rfl (Nat.le_of_ble_eq_true rfl) ?_
  intro p e s m args below meth c A Q C0 hK hA hret ls hl hw
  have hl : lv_has ls 4 [(0, .ref (ad 0)), (1, .int p0), (2, .int p1)] := hl
  obtain ⟨hx, hb, hr, hml, hown, hts, hlocks⟩ := id C0
  obtain ⟨H, hH⟩ : ∃ z, z = s.heap := ⟨_, rfl⟩
  rw [← hH] at hw ⊢
  unfold fX4_buyOnTrial at hF
  refine lv_aload_n hx hb dX4_buyOnTrial_0 rfl (lv_at hl 0 rfl) ?_
  refine va_get (D := G) (ci := 3) (v := .ref (ad 3)) (C := RX4) (T := TX4) (N := 8) hx hb hts inX4_buyOnTrial_X4 hown hK.1 hw.1 0 rfl rfl 1 (by decide) (hts (.fieldLink RX4 16 "SealedBoard" "trial" "LSealedBoard$Position;") (by decide +kernel)) (fun _ h9 => h9) rfl dX4_buyOnTrial_1 ?_
  refine lv_iload_n hx hb dX4_buyOnTrial_4 rfl (lv_at hl 1 rfl) ?_
  refine lv_iload_n hx hb dX4_buyOnTrial_5 rfl (lv_at hl 2 rfl) ?_
  obtain ⟨u1, hq2, hF⟩ := zbd_t hF
  refine zgoI (w' := (zC ad k sv kE kR fb ft fs rws nx ct ch ln)) hw hA [3, 4] rfl (zV (As := [.int p0, .int p1]) (rest := []) ⟨hx, hb, hml, hown, hts⟩ (mX2_refusalOfPurchase l G k (ad 3) (ad 4) H.size ft p0 p1 u1 hq2) (cwV 2 hts gX4_buyOnTrial_X2_refusalOfPurchase rfl rfl rfl kdX2_refusalOfPurchase ⟨Nat.le_of_ble_eq_true rfl, Nat.le_of_ble_eq_true rfl⟩) hK hA hw [3, 4] rfl (by decide) 3 rfl rfl rfl rfl hl.1 rfl (Nat.le_of_ble_eq_true rfl) dX4_buyOnTrial_6 ⟨Nat.le_of_ble_eq_true rfl, Nat.le_of_ble_eq_true rfl⟩) rfl rfl rfl (fun H locs hw => ?_)
  refine lv_istore_n (lv' := [(3, .int u1), (0, .ref (ad 0)), (1, .int p0), (2, .int p1)]) hx hb dX4_buyOnTrial_9 rfl hl (by decide) rfl (fun ls hl => ?_)
  refine lv_iload_n hx hb dX4_buyOnTrial_10 rfl (lv_at hl 0 rfl) ?_
  refine lv_if_ne (tgt := 30) hx hb dX4_buyOnTrial_11 (by decide) (fun hc => ?_) (fun hc => ?_)
  · have hF := zif_f hc hF
    exact wX4_buyOnTrial_30 C0 hK hA hret   _ _ _ hF _ _ _ hw (lv_sub hl [1, 2, 0] rfl)
  · have hF := zif_t hc hF
    refine lv_iload_n hx hb dX4_buyOnTrial_14 rfl (lv_at hl 3 rfl) ?_
    refine lv_if_eq (tgt := 30) hx hb dX4_buyOnTrial_15 (by decide) (fun hc => ?_) (fun hc => ?_)
    · have hF := zif_t hc hF
      exact wX4_buyOnTrial_30 C0 hK hA hret   _ _ _ hF _ _ _ hw (lv_sub hl [1, 2, 0] rfl)
    · have hF := zif_f hc hF
      refine lv_aload_n hx hb dX4_buyOnTrial_18 rfl (lv_at hl 1 rfl) ?_
      refine va_get (D := G) (ci := 3) (v := .ref (ad 3)) (C := RX4) (T := TX4) (N := 8) hx hb hts inX4_buyOnTrial_X4 hown hK.1 hw.1 0 rfl rfl 1 (by decide) (hts (.fieldLink RX4 16 "SealedBoard" "trial" "LSealedBoard$Position;") (by decide +kernel)) (fun _ h9 => h9) rfl dX4_buyOnTrial_19 ?_
      refine lv_iload_n hx hb dX4_buyOnTrial_22 rfl (lv_at hl 2 rfl) ?_
      obtain ⟨u3, hq4, hF⟩ := zbd_t hF
      refine zgoI (w' := (zC ad k sv kE kR fb u3.2 fs rws nx ct ch ln)) hw hA [3, 4] rfl (zV (As := [.int p0]) (rest := []) ⟨hx, hb, hml, hown, hts⟩ (mX2_takePiece l G k (ad 3) (ad 4) H.size ft p0 u3 hq4) (cwV 1 hts gX4_buyOnTrial_X2_takePiece rfl rfl rfl kdX2_takePiece ⟨Nat.le_of_ble_eq_true rfl, Nat.le_of_ble_eq_true rfl⟩) hK hA hw [3, 4] rfl (by decide) 3 rfl rfl rfl rfl hl.1 rfl (Nat.le_of_ble_eq_true rfl) dX4_buyOnTrial_23 ⟨Nat.le_of_ble_eq_true rfl, Nat.le_of_ble_eq_true rfl⟩) rfl rfl rfl (fun H locs hw => ?_)
      refine lv_pop hx hb dX4_buyOnTrial_26 rfl ?_
      refine lv_goto (tgt := 43) hx hb dX4_buyOnTrial_27 (by decide) ?_
      refine lv_iload_n hx hb dX4_buyOnTrial_43 rfl (lv_at hl 0 rfl) ?_
      obtain rfl := Option.some.inj hF
      exact hret _ _ _ _ rfl hw dX4_buyOnTrial_44

/-! SealedBoard.takeTurnOnTrial(I)I -/
abbrev rmX4_takeTurnOnTrial : Room := { frames := 5, cells := 0, slots := 0, locals := 120 }
theorem kdX4_takeTurnOnTrial : yX4_takeTurnOnTrial.cls = RX4 ∧ yX4_takeTurnOnTrial.cls ≠ "java/lang/invoke/MethodHandle" ∧ yX4_takeTurnOnTrial.cls ≠ "java/lang/invoke/VarHandle" ∧ (parseMethodDescriptor yX4_takeTurnOnTrial.desc).map (fun d => d.parameters.length) = some 1 := by decide +kernel
theorem inX4_takeTurnOnTrial_X4 : ∀ w ∈ u_ws RX4 TX4 8, w ∈ wsX4_takeTurnOnTrial := by decide +kernel
def fX4_takeTurnOnTrial_43  (ch : Nat → Int32) (ln : Int32) (ft : Nat → Int64) (s0 : Int32) (s1 : Int32) : Option (Int32 × (Nat → Int64)) := (zbd (fX4_buyOnTrial ft s1 s0) (fun u1 => (some (u1.1, u1.2))))
def fX4_takeTurnOnTrial_21  (ch : Nat → Int32) (ln : Int32) (ft : Nat → Int64) (x1 : Int32) (x2 : Int32) : Option (Int32 × (Nat → Int64)) := (zbd (fX1_squareAt ch ln (x1 + (1 : Int32))) (fun u1 => (if x2 = (42 : Int32) then (fX4_takeTurnOnTrial_43  ch ln  ft (1 : Int32) u1) else (fX4_takeTurnOnTrial_43  ch ln  ft (0 : Int32) u1))))
def fX4_takeTurnOnTrial (ft : Nat → Int64) (ch : Nat → Int32) (ln : Int32) (p0 : Int32) : Option (Int32 × (Nat → Int64)) := (zbd (fX1_characterAt ch ln p0) (fun u1 => (if u1 = (43 : Int32) then (fX4_takeTurnOnTrial_21  ch ln  ft p0 u1) else (if u1 = (42 : Int32) then (fX4_takeTurnOnTrial_21  ch ln  ft p0 u1) else (zbd (fX1_squareAt ch ln p0) (fun u3 => (zbd (fX1_squareAt ch ln (p0 + (3 : Int32))) (fun u5 => (zbd (fX2_refusalOfMove ft u3 u5) (fun u7 => (if u7 = 0 then (zbd (fX2_takeMove ft u3 u5) (fun u9 => (some (u7, u9.2)))) else (some (u7, ft)))))))))))))
set_option maxHeartbeats 400000 in
set_option maxRecDepth 100000 in
theorem wX4_takeTurnOnTrial_43 {p : Program} {l : Launch} {e : Env} {s : State} {m : MethodId} {args : Array Value} {below : List Frame} {meth : Method} {c : Code} {A : Nat → Prop} {Q : State → Prop} {G : va_G} {k : Nat → ClassId} {ad : Nat → Nat} {sv : Int32} {kE : Int32} {kR : Int32} {fb : Nat → Int64} {fs : Nat → Int64} {rws : Nat → Int64} {nx : Int32} {ct : Int32} {ch : Nat → Int32} {ln : Int32} {o : Int32 × (Nat → Int64)} (C0 : zCx p s m args meth c wsX4_takeTurnOnTrial cX4_takeTurnOnTrial RX4 (some .int) 6) (hK : zKK G k A s s.heap) (hA : ∀ q : Nat, s.heap.size ≤ q → A q) (hret : zRI p l e rmX4_takeTurnOnTrial s m args below meth c cX4_takeTurnOnTrial G A 0 0 Q .int (zC ad k sv kE kR fb o.2 fs rws nx ct ch ln) o.1)  : ∀ (ft : Nat → Int64) (s0 : Int32) (s1 : Int32), fX4_takeTurnOnTrial_43  ch ln ft s0 s1 = some o → ∀ (H : Heap) (locs : List Loc) (ls : Array Slot), zWd G A s (zC ad k sv kE kR fb ft fs rws nx ct ch ln) H locs → lv_has ls 6 [] → W p l e rmX4_takeTurnOnTrial s m args below meth c H locs 0 0 Q (F0 m 43 ls [.int s0, .int s1, .ref (ad 0)]) := by
  obtain ⟨hx, hb, hr, hml, hown, hts, hlocks⟩ := id C0
  intro ft s0 s1 hF H locs ls hw hl
  unfold fX4_takeTurnOnTrial_43 at hF
  obtain ⟨u1, hq2, hF⟩ := zbd_t hF
  refine zgoIw (w' := (zC ad k sv kE kR fb u1.2 fs rws nx ct ch ln)) hw hA (zVw (As := [.int s1, .int s0]) (rest := []) ⟨hx, hb, hml, hown, hts⟩ (mX4_buyOnTrial l G k ad H.size sv kE kR fb ft fs rws nx ct ch ln s1 s0 u1 hq2) (cwV 2 hts gX4_takeTurnOnTrial_X4_buyOnTrial rfl rfl rfl kdX4_buyOnTrial ⟨Nat.le_of_ble_eq_true rfl, Nat.le_of_ble_eq_true rfl⟩) hK hA hw 0 rfl rfl rfl rfl hl.1 rfl (Nat.le_of_ble_eq_true rfl) dX4_takeTurnOnTrial_43 ⟨Nat.le_of_ble_eq_true rfl, Nat.le_of_ble_eq_true rfl⟩) (fun H locs hw => ?_)
  obtain rfl := Option.some.inj hF
  exact hret _ _ _ _ rfl hw dX4_takeTurnOnTrial_46
set_option maxHeartbeats 400000 in
set_option maxRecDepth 100000 in
theorem wX4_takeTurnOnTrial_21 {p : Program} {l : Launch} {e : Env} {s : State} {m : MethodId} {args : Array Value} {below : List Frame} {meth : Method} {c : Code} {A : Nat → Prop} {Q : State → Prop} {G : va_G} {k : Nat → ClassId} {ad : Nat → Nat} {sv : Int32} {kE : Int32} {kR : Int32} {fb : Nat → Int64} {fs : Nat → Int64} {rws : Nat → Int64} {nx : Int32} {ct : Int32} {ch : Nat → Int32} {ln : Int32} {o : Int32 × (Nat → Int64)} (C0 : zCx p s m args meth c wsX4_takeTurnOnTrial cX4_takeTurnOnTrial RX4 (some .int) 6) (hK : zKK G k A s s.heap) (hA : ∀ q : Nat, s.heap.size ≤ q → A q) (hret : zRI p l e rmX4_takeTurnOnTrial s m args below meth c cX4_takeTurnOnTrial G A 0 0 Q .int (zC ad k sv kE kR fb o.2 fs rws nx ct ch ln) o.1)  : ∀ (ft : Nat → Int64) (x1 : Int32) (x2 : Int32), fX4_takeTurnOnTrial_21  ch ln ft x1 x2 = some o → ∀ (H : Heap) (locs : List Loc) (ls : Array Slot), zWd G A s (zC ad k sv kE kR fb ft fs rws nx ct ch ln) H locs → lv_has ls 6 [(0, .ref (ad 0)), (1, .int x1), (2, .int x2)] → W p l e rmX4_takeTurnOnTrial s m args below meth c H locs 0 0 Q (F0 m 21 ls []) := by
  obtain ⟨hx, hb, hr, hml, hown, hts, hlocks⟩ := id C0
  intro ft x1 x2 hF H locs ls hw hl
  unfold fX4_takeTurnOnTrial_21 at hF
  refine lv_aload_n hx hb dX4_takeTurnOnTrial_21 rfl (lv_at hl 0 rfl) ?_
  refine lv_aload_n hx hb dX4_takeTurnOnTrial_22 rfl (lv_at hl 0 rfl) ?_
  refine va_get (D := G) (ci := 3) (v := .ref (ad 9)) (C := RX4) (T := TX4) (N := 8) hx hb hts inX4_takeTurnOnTrial_X4 hown hK.1 hw.1 0 rfl rfl 4 (by decide) (hts (.fieldLink RX4 32 "SealedBoard" "input" "LSealedBoard$Input;") (by decide +kernel)) (fun _ h9 => h9) rfl dX4_takeTurnOnTrial_23 ?_
  refine lv_iload_n hx hb dX4_takeTurnOnTrial_26 rfl (lv_at hl 1 rfl) ?_
  refine lv_iconst (v := (1 : Int32)) hx hb dX4_takeTurnOnTrial_27 (by decide) ?_
  refine lv_iadd hx hb dX4_takeTurnOnTrial_28 ?_
  obtain ⟨u1, hq2, hF⟩ := zbd_t hF
  refine zgoI (w' := (zC ad k sv kE kR fb ft fs rws nx ct ch ln)) hw hA [9, 10] rfl (zV (As := [.int (x1 + (1 : Int32))]) (rest := [.ref (ad 0)]) ⟨hx, hb, hml, hown, hts⟩ (mX1_squareAt l G k (ad 9) (ad 10) H.size ch ln (x1 + (1 : Int32)) u1 hq2) (cwV 1 hts gX4_takeTurnOnTrial_X1_squareAt rfl rfl rfl kdX1_squareAt ⟨Nat.le_of_ble_eq_true rfl, Nat.le_of_ble_eq_true rfl⟩) hK hA hw [9, 10] rfl (by decide) 9 rfl rfl rfl rfl hl.1 rfl (Nat.le_of_ble_eq_true rfl) dX4_takeTurnOnTrial_29 ⟨Nat.le_of_ble_eq_true rfl, Nat.le_of_ble_eq_true rfl⟩) rfl rfl rfl (fun H locs hw => ?_)
  refine lv_iload_n hx hb dX4_takeTurnOnTrial_32 rfl (lv_at hl 2 rfl) ?_
  refine lv_bipush (v := (42 : Int32)) hx hb dX4_takeTurnOnTrial_33 (by decide) ?_
  refine lv_icmp_ne (tgt := 42) hx hb dX4_takeTurnOnTrial_35 (by decide) (fun hc => ?_) (fun hc => ?_)
  · have hF := zif_f hc hF
    refine lv_iconst (v := (0 : Int32)) hx hb dX4_takeTurnOnTrial_42 (by decide) ?_
    exact wX4_takeTurnOnTrial_43 C0 hK hA hret   _ _ _ hF _ _ _ hw (lv_sub hl [] rfl)
  · have hF := zif_t hc hF
    refine lv_iconst (v := (1 : Int32)) hx hb dX4_takeTurnOnTrial_38 (by decide) ?_
    refine lv_goto (tgt := 43) hx hb dX4_takeTurnOnTrial_39 (by decide) ?_
    exact wX4_takeTurnOnTrial_43 C0 hK hA hret   _ _ _ hF _ _ _ hw (lv_sub hl [] rfl)
set_option maxHeartbeats 400000 in
set_option maxRecDepth 100000 in
theorem mX4_takeTurnOnTrial (l : Launch) (G : va_G) (k : Nat → ClassId) (ad : Nat → Nat) (sz : Nat) (sv : Int32) (kE : Int32) (kR : Int32) (fb : Nat → Int64) (ft : Nat → Int64) (fs : Nat → Int64) (rws : Nat → Int64) (nx : Int32) (ct : Int32) (ch : Nat → Int32) (ln : Int32) (p0 : Int32) (o : Int32 × (Nat → Int64)) (hF : fX4_takeTurnOnTrial ft ch ln p0 = some o) : zMI l yX4_takeTurnOnTrial wsX4_takeTurnOnTrial rmX4_takeTurnOnTrial G k (zC ad k sv kE kR fb ft fs rws nx ct ch ln) sz [.ref (ad 0), .int p0] o.1 (zC ad k sv kE kR fb o.2 fs rws nx ct ch ln) := by
  refine zof_I (cc := cX4_takeTurnOnTrial) (nL := 6) (own := RX4) (rt := .int) (by decide) rfl rfl (Nat.le_of_ble_eq_true rfl) ?_
  intro p e s m args below meth c A Q C0 hK hA hret ls hl hw
  have hl : lv_has ls 6 [(0, .ref (ad 0)), (1, .int p0)] := hl
  obtain ⟨hx, hb, hr, hml, hown, hts, hlocks⟩ := id C0
  obtain ⟨H, hH⟩ : ∃ z, z = s.heap := ⟨_, rfl⟩
  rw [← hH] at hw ⊢
  unfold fX4_takeTurnOnTrial at hF
  refine lv_aload_n hx hb dX4_takeTurnOnTrial_0 rfl (lv_at hl 0 rfl) ?_
  refine va_get (D := G) (ci := 3) (v := .ref (ad 9)) (C := RX4) (T := TX4) (N := 8) hx hb hts inX4_takeTurnOnTrial_X4 hown hK.1 hw.1 0 rfl rfl 4 (by decide) (hts (.fieldLink RX4 32 "SealedBoard" "input" "LSealedBoard$Input;") (by decide +kernel)) (fun _ h9 => h9) rfl dX4_takeTurnOnTrial_1 ?_
  refine lv_iload_n hx hb dX4_takeTurnOnTrial_4 rfl (lv_at hl 1 rfl) ?_
  obtain ⟨u1, hq2, hF⟩ := zbd_t hF
  refine zgoI (w' := (zC ad k sv kE kR fb ft fs rws nx ct ch ln)) hw hA [9, 10] rfl (zV (As := [.int p0]) (rest := []) ⟨hx, hb, hml, hown, hts⟩ (mX1_characterAt l G k (ad 9) (ad 10) H.size ch ln p0 u1 hq2) (cwV 1 hts gX4_takeTurnOnTrial_X1_characterAt rfl rfl rfl kdX1_characterAt ⟨Nat.le_of_ble_eq_true rfl, Nat.le_of_ble_eq_true rfl⟩) hK hA hw [9, 10] rfl (by decide) 9 rfl rfl rfl rfl hl.1 rfl (Nat.le_of_ble_eq_true rfl) dX4_takeTurnOnTrial_5 ⟨Nat.le_of_ble_eq_true rfl, Nat.le_of_ble_eq_true rfl⟩) rfl rfl rfl (fun H locs hw => ?_)
  refine lv_istore_n (lv' := [(2, .int u1), (0, .ref (ad 0)), (1, .int p0)]) hx hb dX4_takeTurnOnTrial_8 rfl hl (by decide) rfl (fun ls hl => ?_)
  refine lv_iload_n hx hb dX4_takeTurnOnTrial_9 rfl (lv_at hl 0 rfl) ?_
  refine lv_bipush (v := (43 : Int32)) hx hb dX4_takeTurnOnTrial_10 (by decide) ?_
  refine lv_icmp_eq (tgt := 21) hx hb dX4_takeTurnOnTrial_12 (by decide) (fun hc => ?_) (fun hc => ?_)
  · have hF := zif_t hc hF
    exact wX4_takeTurnOnTrial_21 C0 hK hA hret   _ _ _ hF _ _ _ hw (lv_sub hl [1, 2, 0] rfl)
  · have hF := zif_f hc hF
    refine lv_iload_n hx hb dX4_takeTurnOnTrial_15 rfl (lv_at hl 0 rfl) ?_
    refine lv_bipush (v := (42 : Int32)) hx hb dX4_takeTurnOnTrial_16 (by decide) ?_
    refine lv_icmp_ne (tgt := 47) hx hb dX4_takeTurnOnTrial_18 (by decide) (fun hc => ?_) (fun hc => ?_)
    · have hF := zif_f hc hF
      refine lv_aload_n hx hb dX4_takeTurnOnTrial_47 rfl (lv_at hl 1 rfl) ?_
      refine va_get (D := G) (ci := 3) (v := .ref (ad 9)) (C := RX4) (T := TX4) (N := 8) hx hb hts inX4_takeTurnOnTrial_X4 hown hK.1 hw.1 0 rfl rfl 4 (by decide) (hts (.fieldLink RX4 32 "SealedBoard" "input" "LSealedBoard$Input;") (by decide +kernel)) (fun _ h9 => h9) rfl dX4_takeTurnOnTrial_48 ?_
      refine lv_iload_n hx hb dX4_takeTurnOnTrial_51 rfl (lv_at hl 2 rfl) ?_
      obtain ⟨u3, hq4, hF⟩ := zbd_t hF
      refine zgoI (w' := (zC ad k sv kE kR fb ft fs rws nx ct ch ln)) hw hA [9, 10] rfl (zV (As := [.int p0]) (rest := []) ⟨hx, hb, hml, hown, hts⟩ (mX1_squareAt l G k (ad 9) (ad 10) H.size ch ln p0 u3 hq4) (cwV 1 hts gX4_takeTurnOnTrial_X1_squareAt rfl rfl rfl kdX1_squareAt ⟨Nat.le_of_ble_eq_true rfl, Nat.le_of_ble_eq_true rfl⟩) hK hA hw [9, 10] rfl (by decide) 9 rfl rfl rfl rfl hl.1 rfl (Nat.le_of_ble_eq_true rfl) dX4_takeTurnOnTrial_52 ⟨Nat.le_of_ble_eq_true rfl, Nat.le_of_ble_eq_true rfl⟩) rfl rfl rfl (fun H locs hw => ?_)
      refine lv_istore_n (lv' := [(3, .int u3), (2, .int u1), (0, .ref (ad 0)), (1, .int p0)]) hx hb dX4_takeTurnOnTrial_55 rfl hl (by decide) rfl (fun ls hl => ?_)
      refine lv_aload_n hx hb dX4_takeTurnOnTrial_56 rfl (lv_at hl 2 rfl) ?_
      refine va_get (D := G) (ci := 3) (v := .ref (ad 9)) (C := RX4) (T := TX4) (N := 8) hx hb hts inX4_takeTurnOnTrial_X4 hown hK.1 hw.1 0 rfl rfl 4 (by decide) (hts (.fieldLink RX4 32 "SealedBoard" "input" "LSealedBoard$Input;") (by decide +kernel)) (fun _ h9 => h9) rfl dX4_takeTurnOnTrial_57 ?_
      refine lv_iload_n hx hb dX4_takeTurnOnTrial_60 rfl (lv_at hl 3 rfl) ?_
      refine lv_iconst (v := (3 : Int32)) hx hb dX4_takeTurnOnTrial_61 (by decide) ?_
      refine lv_iadd hx hb dX4_takeTurnOnTrial_62 ?_
      obtain ⟨u5, hq6, hF⟩ := zbd_t hF
      refine zgoI (w' := (zC ad k sv kE kR fb ft fs rws nx ct ch ln)) hw hA [9, 10] rfl (zV (As := [.int (p0 + (3 : Int32))]) (rest := []) ⟨hx, hb, hml, hown, hts⟩ (mX1_squareAt l G k (ad 9) (ad 10) H.size ch ln (p0 + (3 : Int32)) u5 hq6) (cwV 1 hts gX4_takeTurnOnTrial_X1_squareAt rfl rfl rfl kdX1_squareAt ⟨Nat.le_of_ble_eq_true rfl, Nat.le_of_ble_eq_true rfl⟩) hK hA hw [9, 10] rfl (by decide) 9 rfl rfl rfl rfl hl.1 rfl (Nat.le_of_ble_eq_true rfl) dX4_takeTurnOnTrial_63 ⟨Nat.le_of_ble_eq_true rfl, Nat.le_of_ble_eq_true rfl⟩) rfl rfl rfl (fun H locs hw => ?_)
      refine lv_istore (lv' := [(4, .int u5), (3, .int u3), (2, .int u1), (0, .ref (ad 0)), (1, .int p0)]) hx hb dX4_takeTurnOnTrial_66 hl (by decide) rfl (fun ls hl => ?_)
      refine lv_aload_n hx hb dX4_takeTurnOnTrial_68 rfl (lv_at hl 3 rfl) ?_
      refine va_get (D := G) (ci := 3) (v := .ref (ad 3)) (C := RX4) (T := TX4) (N := 8) hx hb hts inX4_takeTurnOnTrial_X4 hown hK.1 hw.1 0 rfl rfl 1 (by decide) (hts (.fieldLink RX4 16 "SealedBoard" "trial" "LSealedBoard$Position;") (by decide +kernel)) (fun _ h9 => h9) rfl dX4_takeTurnOnTrial_69 ?_
      refine lv_iload_n hx hb dX4_takeTurnOnTrial_72 rfl (lv_at hl 1 rfl) ?_
      refine lv_iload hx hb dX4_takeTurnOnTrial_73 (lv_at hl 0 rfl) ?_
      obtain ⟨u7, hq8, hF⟩ := zbd_t hF
      refine zgoI (w' := (zC ad k sv kE kR fb ft fs rws nx ct ch ln)) hw hA [3, 4] rfl (zV (As := [.int u3, .int u5]) (rest := []) ⟨hx, hb, hml, hown, hts⟩ (mX2_refusalOfMove l G k (ad 3) (ad 4) H.size ft u3 u5 u7 hq8) (cwV 2 hts gX4_takeTurnOnTrial_X2_refusalOfMove rfl rfl rfl kdX2_refusalOfMove ⟨Nat.le_of_ble_eq_true rfl, Nat.le_of_ble_eq_true rfl⟩) hK hA hw [3, 4] rfl (by decide) 3 rfl rfl rfl rfl hl.1 rfl (Nat.le_of_ble_eq_true rfl) dX4_takeTurnOnTrial_75 ⟨Nat.le_of_ble_eq_true rfl, Nat.le_of_ble_eq_true rfl⟩) rfl rfl rfl (fun H locs hw => ?_)
      refine lv_istore (lv' := [(5, .int u7), (4, .int u5), (3, .int u3), (2, .int u1), (0, .ref (ad 0)), (1, .int p0)]) hx hb dX4_takeTurnOnTrial_78 hl (by decide) rfl (fun ls hl => ?_)
      refine lv_iload hx hb dX4_takeTurnOnTrial_80 (lv_at hl 0 rfl) ?_
      refine lv_if_ne (tgt := 96) hx hb dX4_takeTurnOnTrial_82 (by decide) (fun hc => ?_) (fun hc => ?_)
      · have hF := zif_f hc hF
        refine lv_iload hx hb dX4_takeTurnOnTrial_96 (lv_at hl 0 rfl) ?_
        obtain rfl := Option.some.inj hF
        exact hret _ _ _ _ rfl hw dX4_takeTurnOnTrial_98
      · have hF := zif_t hc hF
        refine lv_aload_n hx hb dX4_takeTurnOnTrial_85 rfl (lv_at hl 4 rfl) ?_
        refine va_get (D := G) (ci := 3) (v := .ref (ad 3)) (C := RX4) (T := TX4) (N := 8) hx hb hts inX4_takeTurnOnTrial_X4 hown hK.1 hw.1 0 rfl rfl 1 (by decide) (hts (.fieldLink RX4 16 "SealedBoard" "trial" "LSealedBoard$Position;") (by decide +kernel)) (fun _ h9 => h9) rfl dX4_takeTurnOnTrial_86 ?_
        refine lv_iload_n hx hb dX4_takeTurnOnTrial_89 rfl (lv_at hl 2 rfl) ?_
        refine lv_iload hx hb dX4_takeTurnOnTrial_90 (lv_at hl 1 rfl) ?_
        obtain ⟨u9, hq10, hF⟩ := zbd_t hF
        refine zgoI (w' := (zC ad k sv kE kR fb u9.2 fs rws nx ct ch ln)) hw hA [3, 4] rfl (zV (As := [.int u3, .int u5]) (rest := []) ⟨hx, hb, hml, hown, hts⟩ (mX2_takeMove l G k (ad 3) (ad 4) H.size ft u3 u5 u9 hq10) (cwV 2 hts gX4_takeTurnOnTrial_X2_takeMove rfl rfl rfl kdX2_takeMove ⟨Nat.le_of_ble_eq_true rfl, Nat.le_of_ble_eq_true rfl⟩) hK hA hw [3, 4] rfl (by decide) 3 rfl rfl rfl rfl hl.1 rfl (Nat.le_of_ble_eq_true rfl) dX4_takeTurnOnTrial_92 ⟨Nat.le_of_ble_eq_true rfl, Nat.le_of_ble_eq_true rfl⟩) rfl rfl rfl (fun H locs hw => ?_)
        refine lv_pop hx hb dX4_takeTurnOnTrial_95 rfl ?_
        refine lv_iload hx hb dX4_takeTurnOnTrial_96 (lv_at hl 0 rfl) ?_
        obtain rfl := Option.some.inj hF
        exact hret _ _ _ _ rfl hw dX4_takeTurnOnTrial_98
    · have hF := zif_t hc hF
      exact wX4_takeTurnOnTrial_21 C0 hK hA hret   _ _ _ hF _ _ _ hw (lv_sub hl [1, 2, 0] rfl)

/-! SealedBoard.read()I -/
abbrev rmX4_read : Room := { frames := 7, cells := 1, slots := 6, locals := 145 }
theorem naX4_read_2 : ∀ w ∈ (vx_atS RX4 74 "java/lang/IllegalArgumentException" zNm).filter goodWord, w ∈ wsX4_read := by decide +kernel
theorem kdX4_read : yX4_read.cls = RX4 ∧ yX4_read.cls ≠ "java/lang/invoke/MethodHandle" ∧ yX4_read.cls ≠ "java/lang/invoke/VarHandle" ∧ (parseMethodDescriptor yX4_read.desc).map (fun d => d.parameters.length) = some 0 := by decide +kernel
theorem inX4_read_X4 : ∀ w ∈ u_ws RX4 TX4 8, w ∈ wsX4_read := by decide +kernel
def fX4_read_88  (ch : Nat → Int32) (kE : Int32) (kR : Int32) (fb : Nat → Int64) (ft : Nat → Int64) (rws : Nat → Int64) (nx : Int32) (ct : Int32) (ln : Int32) (x2 : Int32) : Option (Nat × Int32 × Int32 × Int32 × (Nat → Int64) × (Nat → Int64) × (Nat → Int64) × Int32 × Int32 × Int32) := (zbd (fX1_empty ln) (fun u1 => (zbd (fX4_requireTaken kR x2) (fun u3 => (if u3.1 = 0 then (zbd (fX2_turns ft) (fun u5 => (zbd (fX2_turns fb) (fun u7 => (zbn (u5 - u7) (fun a9 => (zbd (fX0_remember rws nx ct fb) (fun u10 => (zbd (fX2_copyFrom fb ft) (fun u12 => (some (0, a9, kE, u3.2, u12, ft, u10.1, u10.2.1, u10.2.2, u1)))))))))))) else (some (u3.1, (0 : Int32), kE, u3.2, fb, ft, rws, nx, ct, u1)))))))
def fX4_read_82 (k50 : Int32 → Int32 → (Nat → Int64) → (Nat → Int64) → (Nat → Int64) → Int32 → Int32 → Int32 → Int32 → Int32 → Option (Nat × Int32 × Int32 × Int32 × (Nat → Int64) × (Nat → Int64) × (Nat → Int64) × Int32 × Int32 × Int32)) (ch : Nat → Int32) (kE : Int32) (kR : Int32) (fb : Nat → Int64) (ft : Nat → Int64) (rws : Nat → Int64) (nx : Int32) (ct : Int32) (ln : Int32) (x2 : Int32) (x3 : Int32) : Option (Nat × Int32 × Int32 × Int32 × (Nat → Int64) × (Nat → Int64) × (Nat → Int64) × Int32 × Int32 × Int32) := (zbn (x3 + (1 : Int32)) (fun a1 => (k50 kE kR fb ft rws nx ct ln x2 a1)))
def fX4_read_50  (ch : Nat → Int32) : Nat → Int32 → Int32 → (Nat → Int64) → (Nat → Int64) → (Nat → Int64) → Int32 → Int32 → Int32 → Int32 → Int32 → Option (Nat × Int32 × Int32 × Int32 × (Nat → Int64) × (Nat → Int64) × (Nat → Int64) × Int32 × Int32 × Int32)
  | 0, _, _, _, _, _, _, _, _, _, _ => none
  | n + 1, kE, kR, fb, ft, rws, nx, ct, ln, x2, x3 => (zbd (fX1_length ln) (fun u1 => (if u1 ≤ x3 then (fX4_read_88  ch  kE kR fb ft rws nx ct ln x2) else (if x2 = 0 then (zbd (fX1_isTurnAt ch ln x3) (fun u3 => (if u3 = 0 then (fX4_read_82 (fun b0 b1 b2 b3 b4 b5 b6 b7 b8 b9 => fX4_read_50  ch n b0 b1 b2 b3 b4 b5 b6 b7 b8 b9) ch  kE kR fb ft rws nx ct ln x2 x3) else (zbd (fX4_takeTurnOnTrial ft ch ln x3) (fun u5 => (fX4_read_82 (fun b0 b1 b2 b3 b4 b5 b6 b7 b8 b9 => fX4_read_50  ch n b0 b1 b2 b3 b4 b5 b6 b7 b8 b9) ch  kE kR fb u5.2 rws nx ct ln u5.1 x3)))))) else (fX4_read_88  ch  kE kR fb ft rws nx ct ln x2)))))
def fX4_read (kE : Int32) (kR : Int32) (fb : Nat → Int64) (ft : Nat → Int64) (rws : Nat → Int64) (nx : Int32) (ct : Int32) (ch : Nat → Int32) (ln : Int32) : Option (Nat × Int32 × Int32 × Int32 × (Nat → Int64) × (Nat → Int64) × (Nat → Int64) × Int32 × Int32 × Int32) := (zbd (fX1_firstError ch ln) (fun u1 => (if u1 = (-1 : Int32) then (zbd (fX2_copyFrom ft fb) (fun u3 => (fX4_read_50  ch zFu kE kR fb u3 rws nx ct ln (0 : Int32) (0 : Int32)))) else (zbd (fX1_empty ln) (fun u5 => (some (2, (0 : Int32), u1, kR, fb, ft, rws, nx, ct, u5)))))))
set_option maxHeartbeats 400000 in
set_option maxRecDepth 100000 in
theorem wX4_read_88 {p : Program} {l : Launch} {e : Env} {s : State} {m : MethodId} {args : Array Value} {below : List Frame} {meth : Method} {c : Code} {A : Nat → Prop} {Q : State → Prop} {G : va_G} {k : Nat → ClassId} {ad : Nat → Nat} {sv : Int32} {fs : Nat → Int64} {ch : Nat → Int32} {o : Nat × Int32 × Int32 × Int32 × (Nat → Int64) × (Nat → Int64) × (Nat → Int64) × Int32 × Int32 × Int32} (C0 : zCx p s m args meth c wsX4_read cX4_read RX4 (some .int) 4) (hK : zKK G k A s s.heap) (hA : ∀ q : Nat, s.heap.size ≤ q → A q) (hret : zYI p l e rmX4_read s m args below meth c cX4_read G A 1 6 Q .int o.1 (zC ad k sv o.2.2.1 o.2.2.2.1 o.2.2.2.2.1 o.2.2.2.2.2.1 fs o.2.2.2.2.2.2.1 o.2.2.2.2.2.2.2.1 o.2.2.2.2.2.2.2.2.1 ch o.2.2.2.2.2.2.2.2.2) o.2.1) (hl9 : l.stackTraces = false) (hthp : zTp p l e rmX4_read s m args below meth c G A 1 6 Q o.1 (zC ad k sv o.2.2.1 o.2.2.2.1 o.2.2.2.2.1 o.2.2.2.2.2.1 fs o.2.2.2.2.2.2.1 o.2.2.2.2.2.2.2.1 o.2.2.2.2.2.2.2.2.1 ch o.2.2.2.2.2.2.2.2.2)) (htho : zTo p l e rmX4_read s m args below meth c cX4_read RX4 G A 1 6 Q o.1 (zC ad k sv o.2.2.1 o.2.2.2.1 o.2.2.2.2.1 o.2.2.2.2.2.1 fs o.2.2.2.2.2.2.1 o.2.2.2.2.2.2.2.1 o.2.2.2.2.2.2.2.2.1 ch o.2.2.2.2.2.2.2.2.2))  : ∀ (kE : Int32) (kR : Int32) (fb : Nat → Int64) (ft : Nat → Int64) (rws : Nat → Int64) (nx : Int32) (ct : Int32) (ln : Int32) (x2 : Int32), fX4_read_88  ch kE kR fb ft rws nx ct ln x2 = some o → ∀ (H : Heap) (locs : List Loc) (ls : Array Slot), zWd G A s (zC ad k sv kE kR fb ft fs rws nx ct ch ln) H locs → lv_has ls 4 [(0, .ref (ad 0)), (2, .int x2)] → W p l e rmX4_read s m args below meth c H locs 0 0 Q (F0 m 88 ls []) := by
  obtain ⟨hx, hb, hr, hml, hown, hts, hlocks⟩ := id C0
  intro kE kR fb ft rws nx ct ln x2 hF H locs ls hw hl
  unfold fX4_read_88 at hF
  refine lv_aload_n hx hb dX4_read_88 rfl (lv_at hl 0 rfl) ?_
  refine va_get (D := G) (ci := 3) (v := .ref (ad 9)) (C := RX4) (T := TX4) (N := 8) hx hb hts inX4_read_X4 hown hK.1 hw.1 0 rfl rfl 4 (by decide) (hts (.fieldLink RX4 32 "SealedBoard" "input" "LSealedBoard$Input;") (by decide +kernel)) (fun _ h9 => h9) rfl dX4_read_89 ?_
  obtain ⟨u1, hq2, hF⟩ := zbd_t hF
  refine zgoV (w' := (zC ad k sv kE kR fb ft fs rws nx ct ch u1)) hw hA [9, 10] rfl (zV (As := []) (rest := []) ⟨hx, hb, hml, hown, hts⟩ (mX1_empty l G k (ad 9) (ad 10) H.size ch ln  u1 hq2) (cwV 0 hts gX4_read_X1_empty rfl rfl rfl kdX1_empty ⟨Nat.le_of_ble_eq_true rfl, Nat.le_of_ble_eq_true rfl⟩) hK hA hw [9, 10] rfl (by decide) 9 rfl rfl rfl rfl hl.1 rfl (Nat.le_of_ble_eq_true rfl) dX4_read_92 ⟨Nat.le_of_ble_eq_true rfl, Nat.le_of_ble_eq_true rfl⟩) rfl rfl rfl (fun H locs hw => ?_)
  refine lv_aload_n hx hb dX4_read_95 rfl (lv_at hl 0 rfl) ?_
  refine lv_iload_n hx hb dX4_read_96 rfl (lv_at hl 1 rfl) ?_
  obtain ⟨u3, hq4, hF⟩ := zbd_t hF
  refine zgoXVw (o0 := u3.1) (w' := (zC ad k sv kE u3.2 fb ft fs rws nx ct ch u1)) hw hA (zVxw (As := [.int x2]) (rest := []) ⟨hx, hb, hml, hown, hts⟩ (mX4_requireTaken l hl9 G k ad H.size sv kE kR fb ft fs rws nx ct ch u1 x2 u3 hq4) (cwV 1 hts gX4_read_X4_requireTaken rfl rfl rfl kdX4_requireTaken ⟨Nat.le_of_ble_eq_true rfl, Nat.le_of_ble_eq_true rfl⟩) hK hA hw 0 rfl rfl rfl rfl hl.1 rfl (Nat.le_of_ble_eq_true rfl) dX4_read_97 ⟨Nat.le_of_ble_eq_true rfl, Nat.le_of_ble_eq_true rfl⟩) (fun h014 H locs q9 E9 ce9 hw g1 g2 g3 g4 => ?_) (fun h014 H locs hw => ?_)
  · have hF := zif_f h014 hF
    obtain rfl := Option.some.inj hF
    exact hthp _ _ _ _ _ _ _ _ _ _ h014 hw g1 g2 g3 g4 (Nat.le_of_ble_eq_true rfl) (Nat.le_of_ble_eq_true rfl)
  have hF := zif_t h014 hF
  refine lv_aload_n hx hb dX4_read_100 rfl (lv_at hl 0 rfl) ?_
  refine va_get (D := G) (ci := 3) (v := .ref (ad 3)) (C := RX4) (T := TX4) (N := 8) hx hb hts inX4_read_X4 hown hK.1 hw.1 0 rfl rfl 1 (by decide) (hts (.fieldLink RX4 16 "SealedBoard" "trial" "LSealedBoard$Position;") (by decide +kernel)) (fun _ h9 => h9) rfl dX4_read_101 ?_
  obtain ⟨u5, hq6, hF⟩ := zbd_t hF
  refine zgoI (w' := (zC ad k sv kE u3.2 fb ft fs rws nx ct ch u1)) hw hA [3, 4] rfl (zV (As := []) (rest := []) ⟨hx, hb, hml, hown, hts⟩ (mX2_turns l G k (ad 3) (ad 4) H.size ft  u5 hq6) (cwV 0 hts gX4_read_X2_turns rfl rfl rfl kdX2_turns ⟨Nat.le_of_ble_eq_true rfl, Nat.le_of_ble_eq_true rfl⟩) hK hA hw [3, 4] rfl (by decide) 3 rfl rfl rfl rfl hl.1 rfl (Nat.le_of_ble_eq_true rfl) dX4_read_104 ⟨Nat.le_of_ble_eq_true rfl, Nat.le_of_ble_eq_true rfl⟩) rfl rfl rfl (fun H locs hw => ?_)
  refine lv_aload_n hx hb dX4_read_107 rfl (lv_at hl 0 rfl) ?_
  refine va_get (D := G) (ci := 3) (v := .ref (ad 1)) (C := RX4) (T := TX4) (N := 8) hx hb hts inX4_read_X4 hown hK.1 hw.1 0 rfl rfl 0 (by decide) (hts (.fieldLink RX4 10 "SealedBoard" "board" "LSealedBoard$Position;") (by decide +kernel)) (fun _ h9 => h9) rfl dX4_read_108 ?_
  obtain ⟨u7, hq8, hF⟩ := zbd_t hF
  refine zgoI (w' := (zC ad k sv kE u3.2 fb ft fs rws nx ct ch u1)) hw hA [1, 2] rfl (zV (As := []) (rest := [.int u5]) ⟨hx, hb, hml, hown, hts⟩ (mX2_turns l G k (ad 1) (ad 2) H.size fb  u7 hq8) (cwV 0 hts gX4_read_X2_turns rfl rfl rfl kdX2_turns ⟨Nat.le_of_ble_eq_true rfl, Nat.le_of_ble_eq_true rfl⟩) hK hA hw [1, 2] rfl (by decide) 1 rfl rfl rfl rfl hl.1 rfl (Nat.le_of_ble_eq_true rfl) dX4_read_111 ⟨Nat.le_of_ble_eq_true rfl, Nat.le_of_ble_eq_true rfl⟩) rfl rfl rfl (fun H locs hw => ?_)
  refine lv_isub hx hb dX4_read_114 ?_
  refine lv_topi (fun a9 ea9 => ?_)
  have hF := zbn_t ea9 hF
  refine lv_istore_n (lv' := [(3, .int a9), (0, .ref (ad 0)), (2, .int x2)]) hx hb dX4_read_115 rfl hl (by decide) rfl (fun ls hl => ?_)
  refine lv_aload_n hx hb dX4_read_116 rfl (lv_at hl 1 rfl) ?_
  refine va_get (D := G) (ci := 3) (v := .ref (ad 7)) (C := RX4) (T := TX4) (N := 8) hx hb hts inX4_read_X4 hown hK.1 hw.1 0 rfl rfl 3 (by decide) (hts (.fieldLink RX4 25 "SealedBoard" "history" "LSealedBoard$History;") (by decide +kernel)) (fun _ h9 => h9) rfl dX4_read_117 ?_
  refine lv_aload_n hx hb dX4_read_120 rfl (lv_at hl 1 rfl) ?_
  refine va_get (D := G) (ci := 3) (v := .ref (ad 1)) (C := RX4) (T := TX4) (N := 8) hx hb hts inX4_read_X4 hown hK.1 hw.1 0 rfl rfl 0 (by decide) (hts (.fieldLink RX4 10 "SealedBoard" "board" "LSealedBoard$Position;") (by decide +kernel)) (fun _ h9 => h9) rfl dX4_read_121 ?_
  obtain ⟨u10, hq11, hF⟩ := zbd_t hF
  refine zgoV (w' := (zC ad k sv kE u3.2 fb ft fs u10.1 u10.2.1 u10.2.2 ch u1)) hw hA [7, 8, 1, 2] rfl (zV (As := [.ref (ad 1)]) (rest := []) ⟨hx, hb, hml, hown, hts⟩ (mX0_remember l G k (ad 7) (ad 8) (ad 1) (ad 2) H.size rws nx ct fb  u10 hq11) (cwV 1 hts gX4_read_X0_remember rfl rfl rfl kdX0_remember ⟨Nat.le_of_ble_eq_true rfl, Nat.le_of_ble_eq_true rfl⟩) hK hA hw [7, 8, 1, 2] rfl (by decide) 7 rfl rfl rfl rfl hl.1 rfl (Nat.le_of_ble_eq_true rfl) dX4_read_124 ⟨Nat.le_of_ble_eq_true rfl, Nat.le_of_ble_eq_true rfl⟩) rfl rfl rfl (fun H locs hw => ?_)
  refine lv_aload_n hx hb dX4_read_127 rfl (lv_at hl 1 rfl) ?_
  refine va_get (D := G) (ci := 3) (v := .ref (ad 1)) (C := RX4) (T := TX4) (N := 8) hx hb hts inX4_read_X4 hown hK.1 hw.1 0 rfl rfl 0 (by decide) (hts (.fieldLink RX4 10 "SealedBoard" "board" "LSealedBoard$Position;") (by decide +kernel)) (fun _ h9 => h9) rfl dX4_read_128 ?_
  refine lv_aload_n hx hb dX4_read_131 rfl (lv_at hl 1 rfl) ?_
  refine va_get (D := G) (ci := 3) (v := .ref (ad 3)) (C := RX4) (T := TX4) (N := 8) hx hb hts inX4_read_X4 hown hK.1 hw.1 0 rfl rfl 1 (by decide) (hts (.fieldLink RX4 16 "SealedBoard" "trial" "LSealedBoard$Position;") (by decide +kernel)) (fun _ h9 => h9) rfl dX4_read_132 ?_
  obtain ⟨u12, hq13, hF⟩ := zbd_t hF
  refine zgoV (w' := (zC ad k sv kE u3.2 u12 ft fs u10.1 u10.2.1 u10.2.2 ch u1)) hw hA [1, 2, 3, 4] rfl (zV (As := [.ref (ad 3)]) (rest := []) ⟨hx, hb, hml, hown, hts⟩ (mX2_copyFrom l G k (ad 1) (ad 2) (ad 3) (ad 4) H.size fb ft  u12 hq13) (cwV 1 hts gX4_read_X2_copyFrom rfl rfl rfl kdX2_copyFrom ⟨Nat.le_of_ble_eq_true rfl, Nat.le_of_ble_eq_true rfl⟩) hK hA hw [1, 2, 3, 4] rfl (by decide) 1 rfl rfl rfl rfl hl.1 rfl (Nat.le_of_ble_eq_true rfl) dX4_read_135 ⟨Nat.le_of_ble_eq_true rfl, Nat.le_of_ble_eq_true rfl⟩) rfl rfl rfl (fun H locs hw => ?_)
  refine lv_iload_n hx hb dX4_read_138 rfl (lv_at hl 0 rfl) ?_
  obtain rfl := Option.some.inj hF
  exact hret _ _ _ _ rfl rfl hw dX4_read_139
set_option maxHeartbeats 400000 in
set_option maxRecDepth 100000 in
theorem wX4_read_82 {p : Program} {l : Launch} {e : Env} {s : State} {m : MethodId} {args : Array Value} {below : List Frame} {meth : Method} {c : Code} {A : Nat → Prop} {Q : State → Prop} {G : va_G} {k : Nat → ClassId} {ad : Nat → Nat} {sv : Int32} {fs : Nat → Int64} {ch : Nat → Int32} {o : Nat × Int32 × Int32 × Int32 × (Nat → Int64) × (Nat → Int64) × (Nat → Int64) × Int32 × Int32 × Int32} (C0 : zCx p s m args meth c wsX4_read cX4_read RX4 (some .int) 4) (hK : zKK G k A s s.heap) (hA : ∀ q : Nat, s.heap.size ≤ q → A q) (hret : zYI p l e rmX4_read s m args below meth c cX4_read G A 1 6 Q .int o.1 (zC ad k sv o.2.2.1 o.2.2.2.1 o.2.2.2.2.1 o.2.2.2.2.2.1 fs o.2.2.2.2.2.2.1 o.2.2.2.2.2.2.2.1 o.2.2.2.2.2.2.2.2.1 ch o.2.2.2.2.2.2.2.2.2) o.2.1) (hl9 : l.stackTraces = false) (hthp : zTp p l e rmX4_read s m args below meth c G A 1 6 Q o.1 (zC ad k sv o.2.2.1 o.2.2.2.1 o.2.2.2.2.1 o.2.2.2.2.2.1 fs o.2.2.2.2.2.2.1 o.2.2.2.2.2.2.2.1 o.2.2.2.2.2.2.2.2.1 ch o.2.2.2.2.2.2.2.2.2)) (htho : zTo p l e rmX4_read s m args below meth c cX4_read RX4 G A 1 6 Q o.1 (zC ad k sv o.2.2.1 o.2.2.2.1 o.2.2.2.2.1 o.2.2.2.2.2.1 fs o.2.2.2.2.2.2.1 o.2.2.2.2.2.2.2.1 o.2.2.2.2.2.2.2.2.1 ch o.2.2.2.2.2.2.2.2.2)) (k50 : Int32 → Int32 → (Nat → Int64) → (Nat → Int64) → (Nat → Int64) → Int32 → Int32 → Int32 → Int32 → Int32 → Option (Nat × Int32 × Int32 × Int32 × (Nat → Int64) × (Nat → Int64) × (Nat → Int64) × Int32 × Int32 × Int32)) (hk50 : ∀ (kE : Int32) (kR : Int32) (fb : Nat → Int64) (ft : Nat → Int64) (rws : Nat → Int64) (nx : Int32) (ct : Int32) (ln : Int32) (x2 : Int32) (x3 : Int32), k50 kE kR fb ft rws nx ct ln x2 x3 = some o → ∀ (H : Heap) (locs : List Loc) (ls : Array Slot), zWd G A s (zC ad k sv kE kR fb ft fs rws nx ct ch ln) H locs → lv_has ls 4 [(0, .ref (ad 0)), (2, .int x2), (3, .int x3)] → W p l e rmX4_read s m args below meth c H locs 0 0 Q (F0 m 50 ls [])) : ∀ (kE : Int32) (kR : Int32) (fb : Nat → Int64) (ft : Nat → Int64) (rws : Nat → Int64) (nx : Int32) (ct : Int32) (ln : Int32) (x2 : Int32) (x3 : Int32), fX4_read_82 k50 ch kE kR fb ft rws nx ct ln x2 x3 = some o → ∀ (H : Heap) (locs : List Loc) (ls : Array Slot), zWd G A s (zC ad k sv kE kR fb ft fs rws nx ct ch ln) H locs → lv_has ls 4 [(0, .ref (ad 0)), (2, .int x2), (3, .int x3)] → W p l e rmX4_read s m args below meth c H locs 0 0 Q (F0 m 82 ls []) := by
  obtain ⟨hx, hb, hr, hml, hown, hts, hlocks⟩ := id C0
  intro kE kR fb ft rws nx ct ln x2 x3 hF H locs ls hw hl
  unfold fX4_read_82 at hF
  obtain ⟨a1, ea1⟩ : ∃ z : Int32, z = x3 + (1 : Int32) := ⟨_, rfl⟩
  have hF := zbn_t ea1 hF
  refine lv_iinc (v := a1) (lv' := [(3, .int a1), (0, .ref (ad 0)), (2, .int x2)]) hx hb dX4_read_82 hl (k := 2) rfl (by rw [ea1]; rfl) (by decide) rfl (fun ls hl => ?_)
  refine lv_goto (tgt := 50) hx hb dX4_read_85 (by decide) ?_
  exact hk50 _ _ _ _ _ _ _ _ _ _ hF _ _ _ hw (lv_sub hl [1, 2, 0] rfl)
set_option maxHeartbeats 400000 in
set_option maxRecDepth 100000 in
theorem wX4_read_50 {p : Program} {l : Launch} {e : Env} {s : State} {m : MethodId} {args : Array Value} {below : List Frame} {meth : Method} {c : Code} {A : Nat → Prop} {Q : State → Prop} {G : va_G} {k : Nat → ClassId} {ad : Nat → Nat} {sv : Int32} {fs : Nat → Int64} {ch : Nat → Int32} {o : Nat × Int32 × Int32 × Int32 × (Nat → Int64) × (Nat → Int64) × (Nat → Int64) × Int32 × Int32 × Int32} (C0 : zCx p s m args meth c wsX4_read cX4_read RX4 (some .int) 4) (hK : zKK G k A s s.heap) (hA : ∀ q : Nat, s.heap.size ≤ q → A q) (hret : zYI p l e rmX4_read s m args below meth c cX4_read G A 1 6 Q .int o.1 (zC ad k sv o.2.2.1 o.2.2.2.1 o.2.2.2.2.1 o.2.2.2.2.2.1 fs o.2.2.2.2.2.2.1 o.2.2.2.2.2.2.2.1 o.2.2.2.2.2.2.2.2.1 ch o.2.2.2.2.2.2.2.2.2) o.2.1) (hl9 : l.stackTraces = false) (hthp : zTp p l e rmX4_read s m args below meth c G A 1 6 Q o.1 (zC ad k sv o.2.2.1 o.2.2.2.1 o.2.2.2.2.1 o.2.2.2.2.2.1 fs o.2.2.2.2.2.2.1 o.2.2.2.2.2.2.2.1 o.2.2.2.2.2.2.2.2.1 ch o.2.2.2.2.2.2.2.2.2)) (htho : zTo p l e rmX4_read s m args below meth c cX4_read RX4 G A 1 6 Q o.1 (zC ad k sv o.2.2.1 o.2.2.2.1 o.2.2.2.2.1 o.2.2.2.2.2.1 fs o.2.2.2.2.2.2.1 o.2.2.2.2.2.2.2.1 o.2.2.2.2.2.2.2.2.1 ch o.2.2.2.2.2.2.2.2.2))  : ∀ (n : Nat) (kE : Int32) (kR : Int32) (fb : Nat → Int64) (ft : Nat → Int64) (rws : Nat → Int64) (nx : Int32) (ct : Int32) (ln : Int32) (x2 : Int32) (x3 : Int32), fX4_read_50  ch n kE kR fb ft rws nx ct ln x2 x3 = some o → ∀ (H : Heap) (locs : List Loc) (ls : Array Slot), zWd G A s (zC ad k sv kE kR fb ft fs rws nx ct ch ln) H locs → lv_has ls 4 [(0, .ref (ad 0)), (2, .int x2), (3, .int x3)] → W p l e rmX4_read s m args below meth c H locs 0 0 Q (F0 m 50 ls []) := by
  obtain ⟨hx, hb, hr, hml, hown, hts, hlocks⟩ := id C0
  intro n
  induction n with
  | zero => intro kE kR fb ft rws nx ct ln x2 x3 hF; exact nomatch hF
  | succ n ih =>
    intro kE kR fb ft rws nx ct ln x2 x3 hF H locs ls hw hl
    rw [fX4_read_50] at hF
    refine lv_iload_n hx hb dX4_read_50 rfl (lv_at hl 2 rfl) ?_
    refine lv_aload_n hx hb dX4_read_51 rfl (lv_at hl 0 rfl) ?_
    refine va_get (D := G) (ci := 3) (v := .ref (ad 9)) (C := RX4) (T := TX4) (N := 8) hx hb hts inX4_read_X4 hown hK.1 hw.1 0 rfl rfl 4 (by decide) (hts (.fieldLink RX4 32 "SealedBoard" "input" "LSealedBoard$Input;") (by decide +kernel)) (fun _ h9 => h9) rfl dX4_read_52 ?_
    obtain ⟨u1, hq2, hF⟩ := zbd_t hF
    refine zgoI (w' := (zC ad k sv kE kR fb ft fs rws nx ct ch ln)) hw hA [9, 10] rfl (zV (As := []) (rest := [.int x3]) ⟨hx, hb, hml, hown, hts⟩ (mX1_length l G k (ad 9) (ad 10) H.size ch ln  u1 hq2) (cwV 0 hts gX4_read_X1_length rfl rfl rfl kdX1_length ⟨Nat.le_of_ble_eq_true rfl, Nat.le_of_ble_eq_true rfl⟩) hK hA hw [9, 10] rfl (by decide) 9 rfl rfl rfl rfl hl.1 rfl (Nat.le_of_ble_eq_true rfl) dX4_read_55 ⟨Nat.le_of_ble_eq_true rfl, Nat.le_of_ble_eq_true rfl⟩) rfl rfl rfl (fun H locs hw => ?_)
    refine lv_icmp_ge (tgt := 88) hx hb dX4_read_58 (by decide) (fun hc => ?_) (fun hc => ?_)
    · have hF := zif_t hc hF
      exact wX4_read_88 C0 hK hA hret hl9 hthp htho   _ _ _ _ _ _ _ _ _ hF _ _ _ hw (lv_sub hl [0, 1] rfl)
    · have hF := zif_f hc hF
      refine lv_iload_n hx hb dX4_read_61 rfl (lv_at hl 1 rfl) ?_
      refine lv_if_ne (tgt := 88) hx hb dX4_read_62 (by decide) (fun hc => ?_) (fun hc => ?_)
      · have hF := zif_f hc hF
        exact wX4_read_88 C0 hK hA hret hl9 hthp htho   _ _ _ _ _ _ _ _ _ hF _ _ _ hw (lv_sub hl [0, 1] rfl)
      · have hF := zif_t hc hF
        refine lv_aload_n hx hb dX4_read_65 rfl (lv_at hl 0 rfl) ?_
        refine va_get (D := G) (ci := 3) (v := .ref (ad 9)) (C := RX4) (T := TX4) (N := 8) hx hb hts inX4_read_X4 hown hK.1 hw.1 0 rfl rfl 4 (by decide) (hts (.fieldLink RX4 32 "SealedBoard" "input" "LSealedBoard$Input;") (by decide +kernel)) (fun _ h9 => h9) rfl dX4_read_66 ?_
        refine lv_iload_n hx hb dX4_read_69 rfl (lv_at hl 2 rfl) ?_
        obtain ⟨u3, hq4, hF⟩ := zbd_t hF
        refine zgoI (w' := (zC ad k sv kE kR fb ft fs rws nx ct ch ln)) hw hA [9, 10] rfl (zV (As := [.int x3]) (rest := []) ⟨hx, hb, hml, hown, hts⟩ (mX1_isTurnAt l G k (ad 9) (ad 10) H.size ch ln x3 u3 hq4) (cwV 1 hts gX4_read_X1_isTurnAt rfl rfl rfl kdX1_isTurnAt ⟨Nat.le_of_ble_eq_true rfl, Nat.le_of_ble_eq_true rfl⟩) hK hA hw [9, 10] rfl (by decide) 9 rfl rfl rfl rfl hl.1 rfl (Nat.le_of_ble_eq_true rfl) dX4_read_70 ⟨Nat.le_of_ble_eq_true rfl, Nat.le_of_ble_eq_true rfl⟩) rfl rfl rfl (fun H locs hw => ?_)
        refine lv_if_eq (tgt := 82) hx hb dX4_read_73 (by decide) (fun hc => ?_) (fun hc => ?_)
        · have hF := zif_t hc hF
          exact wX4_read_82 C0 hK hA hret hl9 hthp htho (fun b0 b1 b2 b3 b4 b5 b6 b7 b8 b9 => fX4_read_50  ch n b0 b1 b2 b3 b4 b5 b6 b7 b8 b9) ih  _ _ _ _ _ _ _ _ _ _ hF _ _ _ hw (lv_sub hl [0, 1, 2] rfl)
        · have hF := zif_f hc hF
          refine lv_aload_n hx hb dX4_read_76 rfl (lv_at hl 0 rfl) ?_
          refine lv_iload_n hx hb dX4_read_77 rfl (lv_at hl 2 rfl) ?_
          obtain ⟨u5, hq6, hF⟩ := zbd_t hF
          refine zgoIw (w' := (zC ad k sv kE kR fb u5.2 fs rws nx ct ch ln)) hw hA (zVw (As := [.int x3]) (rest := []) ⟨hx, hb, hml, hown, hts⟩ (mX4_takeTurnOnTrial l G k ad H.size sv kE kR fb ft fs rws nx ct ch ln x3 u5 hq6) (cwV 1 hts gX4_read_X4_takeTurnOnTrial rfl rfl rfl kdX4_takeTurnOnTrial ⟨Nat.le_of_ble_eq_true rfl, Nat.le_of_ble_eq_true rfl⟩) hK hA hw 0 rfl rfl rfl rfl hl.1 rfl (Nat.le_of_ble_eq_true rfl) dX4_read_78 ⟨Nat.le_of_ble_eq_true rfl, Nat.le_of_ble_eq_true rfl⟩) (fun H locs hw => ?_)
          refine lv_istore_n (lv' := [(2, .int u5.1), (0, .ref (ad 0)), (3, .int x3)]) hx hb dX4_read_81 rfl hl (by decide) rfl (fun ls hl => ?_)
          exact wX4_read_82 C0 hK hA hret hl9 hthp htho (fun b0 b1 b2 b3 b4 b5 b6 b7 b8 b9 => fX4_read_50  ch n b0 b1 b2 b3 b4 b5 b6 b7 b8 b9) ih  _ _ _ _ _ _ _ _ _ _ hF _ _ _ hw (lv_sub hl [1, 0, 2] rfl)
set_option maxHeartbeats 400000 in
set_option maxRecDepth 100000 in
theorem mX4_read (l : Launch) (hl9 : l.stackTraces = false) (G : va_G) (k : Nat → ClassId) (ad : Nat → Nat) (sz : Nat) (sv : Int32) (kE : Int32) (kR : Int32) (fb : Nat → Int64) (ft : Nat → Int64) (fs : Nat → Int64) (rws : Nat → Int64) (nx : Int32) (ct : Int32) (ch : Nat → Int32) (ln : Int32)  (o : Nat × Int32 × Int32 × Int32 × (Nat → Int64) × (Nat → Int64) × (Nat → Int64) × Int32 × Int32 × Int32) (hF : fX4_read kE kR fb ft rws nx ct ch ln = some o) : zXI l yX4_read wsX4_read rmX4_read G k (zC ad k sv kE kR fb ft fs rws nx ct ch ln) sz [.ref (ad 0)] 1 6 o.1 o.2.1 (zC ad k sv o.2.2.1 o.2.2.2.1 o.2.2.2.2.1 o.2.2.2.2.2.1 fs o.2.2.2.2.2.2.1 o.2.2.2.2.2.2.2.1 o.2.2.2.2.2.2.2.2.1 ch o.2.2.2.2.2.2.2.2.2) := by
  refine zof_XI hl9 (cc := cX4_read) (nL := 4) (own := RX4) (rt := .int) (by decide) rfl rfl (Nat.le_of_ble_eq_true rfl) ?_
  intro p e s m args below meth c A Q C0 hK hA hret hthp htho ls hl hw
  have hl : lv_has ls 4 [(0, .ref (ad 0))] := hl
  obtain ⟨hx, hb, hr, hml, hown, hts, hlocks⟩ := id C0
  obtain ⟨H, hH⟩ : ∃ z, z = s.heap := ⟨_, rfl⟩
  rw [← hH] at hw ⊢
  unfold fX4_read at hF
  refine lv_aload_n hx hb dX4_read_0 rfl (lv_at hl 0 rfl) ?_
  refine va_get (D := G) (ci := 3) (v := .ref (ad 9)) (C := RX4) (T := TX4) (N := 8) hx hb hts inX4_read_X4 hown hK.1 hw.1 0 rfl rfl 4 (by decide) (hts (.fieldLink RX4 32 "SealedBoard" "input" "LSealedBoard$Input;") (by decide +kernel)) (fun _ h9 => h9) rfl dX4_read_1 ?_
  obtain ⟨u1, hq2, hF⟩ := zbd_t hF
  refine zgoI (w' := (zC ad k sv kE kR fb ft fs rws nx ct ch ln)) hw hA [9, 10] rfl (zV (As := []) (rest := []) ⟨hx, hb, hml, hown, hts⟩ (mX1_firstError l G k (ad 9) (ad 10) H.size ch ln  u1 hq2) (cwV 0 hts gX4_read_X1_firstError rfl rfl rfl kdX1_firstError ⟨Nat.le_of_ble_eq_true rfl, Nat.le_of_ble_eq_true rfl⟩) hK hA hw [9, 10] rfl (by decide) 9 rfl rfl rfl rfl hl.1 rfl (Nat.le_of_ble_eq_true rfl) dX4_read_4 ⟨Nat.le_of_ble_eq_true rfl, Nat.le_of_ble_eq_true rfl⟩) rfl rfl rfl (fun H locs hw => ?_)
  refine lv_istore_n (lv' := [(1, .int u1), (0, .ref (ad 0))]) hx hb dX4_read_7 rfl hl (by decide) rfl (fun ls hl => ?_)
  refine lv_iload_n hx hb dX4_read_8 rfl (lv_at hl 0 rfl) ?_
  refine lv_iconst (v := (-1 : Int32)) hx hb dX4_read_9 (by decide) ?_
  refine lv_icmp_eq (tgt := 35) hx hb dX4_read_10 (by decide) (fun hc => ?_) (fun hc => ?_)
  · have hF := zif_t hc hF
    refine lv_aload_n hx hb dX4_read_35 rfl (lv_at hl 1 rfl) ?_
    refine va_get (D := G) (ci := 3) (v := .ref (ad 3)) (C := RX4) (T := TX4) (N := 8) hx hb hts inX4_read_X4 hown hK.1 hw.1 0 rfl rfl 1 (by decide) (hts (.fieldLink RX4 16 "SealedBoard" "trial" "LSealedBoard$Position;") (by decide +kernel)) (fun _ h9 => h9) rfl dX4_read_36 ?_
    refine lv_aload_n hx hb dX4_read_39 rfl (lv_at hl 1 rfl) ?_
    refine va_get (D := G) (ci := 3) (v := .ref (ad 1)) (C := RX4) (T := TX4) (N := 8) hx hb hts inX4_read_X4 hown hK.1 hw.1 0 rfl rfl 0 (by decide) (hts (.fieldLink RX4 10 "SealedBoard" "board" "LSealedBoard$Position;") (by decide +kernel)) (fun _ h9 => h9) rfl dX4_read_40 ?_
    obtain ⟨u3, hq4, hF⟩ := zbd_t hF
    refine zgoV (w' := (zC ad k sv kE kR fb u3 fs rws nx ct ch ln)) hw hA [3, 4, 1, 2] rfl (zV (As := [.ref (ad 1)]) (rest := []) ⟨hx, hb, hml, hown, hts⟩ (mX2_copyFrom l G k (ad 3) (ad 4) (ad 1) (ad 2) H.size ft fb  u3 hq4) (cwV 1 hts gX4_read_X2_copyFrom rfl rfl rfl kdX2_copyFrom ⟨Nat.le_of_ble_eq_true rfl, Nat.le_of_ble_eq_true rfl⟩) hK hA hw [3, 4, 1, 2] rfl (by decide) 3 rfl rfl rfl rfl hl.1 rfl (Nat.le_of_ble_eq_true rfl) dX4_read_43 ⟨Nat.le_of_ble_eq_true rfl, Nat.le_of_ble_eq_true rfl⟩) rfl rfl rfl (fun H locs hw => ?_)
    refine lv_iconst (v := (0 : Int32)) hx hb dX4_read_46 (by decide) ?_
    refine lv_istore_n (lv' := [(2, .int (0 : Int32)), (1, .int u1), (0, .ref (ad 0))]) hx hb dX4_read_47 rfl hl (by decide) rfl (fun ls hl => ?_)
    refine lv_iconst (v := (0 : Int32)) hx hb dX4_read_48 (by decide) ?_
    refine lv_istore_n (lv' := [(3, .int (0 : Int32)), (2, .int (0 : Int32)), (1, .int u1), (0, .ref (ad 0))]) hx hb dX4_read_49 rfl hl (by decide) rfl (fun ls hl => ?_)
    exact wX4_read_50 C0 hK hA hret hl9 hthp htho  zFu _ _ _ _ _ _ _ _ _ _ hF _ _ _ hw (lv_sub hl [3, 1, 0] rfl)
  · have hF := zif_f hc hF
    refine lv_aload_n hx hb dX4_read_13 rfl (lv_at hl 1 rfl) ?_
    refine va_get (D := G) (ci := 3) (v := .ref (ad 9)) (C := RX4) (T := TX4) (N := 8) hx hb hts inX4_read_X4 hown hK.1 hw.1 0 rfl rfl 4 (by decide) (hts (.fieldLink RX4 32 "SealedBoard" "input" "LSealedBoard$Input;") (by decide +kernel)) (fun _ h9 => h9) rfl dX4_read_14 ?_
    obtain ⟨u5, hq6, hF⟩ := zbd_t hF
    refine zgoV (w' := (zC ad k sv kE kR fb ft fs rws nx ct ch u5)) hw hA [9, 10] rfl (zV (As := []) (rest := []) ⟨hx, hb, hml, hown, hts⟩ (mX1_empty l G k (ad 9) (ad 10) H.size ch ln  u5 hq6) (cwV 0 hts gX4_read_X1_empty rfl rfl rfl kdX1_empty ⟨Nat.le_of_ble_eq_true rfl, Nat.le_of_ble_eq_true rfl⟩) hK hA hw [9, 10] rfl (by decide) 9 rfl rfl rfl rfl hl.1 rfl (Nat.le_of_ble_eq_true rfl) dX4_read_17 ⟨Nat.le_of_ble_eq_true rfl, Nat.le_of_ble_eq_true rfl⟩) rfl rfl rfl (fun H locs hw => ?_)
    refine lv_aload_n hx hb dX4_read_20 rfl (lv_at hl 1 rfl) ?_
    refine lv_iload_n hx hb dX4_read_21 rfl (lv_at hl 0 rfl) ?_
    refine va_put (D := G) (ci := 3) (v := .int u1) (ty := .int) (C := RX4) (T := TX4) (N := 8) hx hb hts inX4_read_X4 tyX4 tyX4_ok nmX4 hown hK.1 hw.1 hw.2.1 hw.2.2 0 rfl rfl 6 (by decide) (hts (.fieldLink RX4 36 "SealedBoard" "keptError" "I") (by decide +kernel)) (fun _ h9 => h9) rfl (by decide +kernel) rfl rfl (Nat.le_of_ble_eq_true rfl) dX4_read_22 (fun H locs hP hD hS => ?_)
    have hw : zWd G A s (zC ad k sv u1 kR fb ft fs rws nx ct ch u5) H locs := ⟨hP, hD, hS⟩
    obtain rfl := Option.some.inj hF
    exact htho _ _ _ _ _ "java/lang/IllegalArgumentException" 70 245 74 _ _ "the input is malformed" (show (2 : Nat) ≠ 0 by decide) rfl hw (hl.1.trans hml.symm) (by decide +kernel) (by decide +kernel) (hts (.classLink RX4 70 "java/lang/IllegalArgumentException") (by decide +kernel)) (hts (.initialized "java/lang/IllegalArgumentException") (by decide +kernel)) (vx_hat (B := zBad "java/lang/IllegalArgumentException") (fun w hw9 => hts w (naX4_read_2 w hw9)) (by decide +kernel) (zbad hK.2 (by decide))) (by decide +kernel) ⟨dX4_read_25, dX4_read_28, Or.inl ⟨dX4_read_29, dX4_read_31, dX4_read_34⟩⟩ (Nat.le_of_ble_eq_true rfl) (Nat.le_of_ble_eq_true rfl) (Nat.le_of_ble_eq_true rfl) (Nat.le_of_ble_eq_true rfl) (Nat.le_of_ble_eq_true rfl) (Nat.le_of_ble_eq_true rfl)

/-! SealedBoard.signOfPiece(II)C -/
abbrev rmX4_signOfPiece : Room := { frames := 0, cells := 0, slots := 0, locals := 0 }
theorem kdX4_signOfPiece : yX4_signOfPiece.cls ≠ "java/lang/invoke/MethodHandle" ∧ yX4_signOfPiece.cls ≠ "java/lang/invoke/VarHandle" ∧ (parseMethodDescriptor yX4_signOfPiece.desc).map (fun d => d.parameters.length) = some 2 := by decide +kernel
def fX4_signOfPiece_49   (x0 : Int32) (x2 : Int32) : Option (Int32) := (if x0 = 0 then (zck (zch x2) (some (x2))) else (zck (zch ((((x2 - (65 : Int32)) + (97 : Int32)).toUInt32 % 65536).toInt32)) (some (((((x2 - (65 : Int32)) + (97 : Int32)).toUInt32 % 65536).toInt32)))))
def fX4_signOfPiece (p0 : Int32) (p1 : Int32) : Option (Int32) := (if p1 = (0 : Int32) then (fX4_signOfPiece_49    p0 (85 : Int32)) else (if p1 = (1 : Int32) then (fX4_signOfPiece_49    p0 (73 : Int32)) else (if p1 = (2 : Int32) then (fX4_signOfPiece_49    p0 (87 : Int32)) else (fX4_signOfPiece_49    p0 (75 : Int32)))))
set_option maxHeartbeats 400000 in
set_option maxRecDepth 100000 in
theorem wX4_signOfPiece_49 {p : Program} {l : Launch} {e : Env} {s : State} {m : MethodId} {args : Array Value} {below : List Frame} {meth : Method} {c : Code} {A : Nat → Prop} {Q : State → Prop} {G : va_G} {k : Nat → ClassId}   {o : Int32} (C0 : zCx p s m args meth c wsX4_signOfPiece cX4_signOfPiece RX4 (some .char) 3) (hK : zKK G k A s s.heap) (hA : ∀ q : Nat, s.heap.size ≤ q → A q) (hret : zRI p l e rmX4_signOfPiece s m args below meth c cX4_signOfPiece G A 0 0 Q .char (zE0 k) o)  : ∀ (x0 : Int32) (x2 : Int32), fX4_signOfPiece_49   x0 x2 = some o → ∀ (H : Heap) (locs : List Loc) (ls : Array Slot), zWd G A s (zE0 k) H locs → lv_has ls 3 [(0, .int x0), (2, .int x2)] → W p l e rmX4_signOfPiece s m args below meth c H locs 0 0 Q (F0 m 49 ls []) := by
  obtain ⟨hx, hb, hr, hml, hown, hts, hlocks⟩ := id C0
  intro x0 x2 hF H locs ls hw hl
  unfold fX4_signOfPiece_49 at hF
  refine lv_iload_n hx hb dX4_signOfPiece_49 rfl (lv_at hl 0 rfl) ?_
  refine lv_if_ne (tgt := 57) hx hb dX4_signOfPiece_50 (by decide) (fun hc => ?_) (fun hc => ?_)
  · have hF := zif_f hc hF
    refine lv_iload_n hx hb dX4_signOfPiece_57 rfl (lv_at hl 1 rfl) ?_
    refine lv_bipush (v := (65 : Int32)) hx hb dX4_signOfPiece_58 (by decide) ?_
    refine lv_isub hx hb dX4_signOfPiece_60 ?_
    refine lv_bipush (v := (97 : Int32)) hx hb dX4_signOfPiece_61 (by decide) ?_
    refine lv_iadd hx hb dX4_signOfPiece_63 ?_
    refine lv_i2c hx hb dX4_signOfPiece_64 rfl ?_
    obtain ⟨hz1, hF⟩ := zck_t hF
    obtain rfl := Option.some.inj hF
    exact hret _ _ _ _ (zch_n hz1) hw dX4_signOfPiece_65
  · have hF := zif_t hc hF
    refine lv_iload_n hx hb dX4_signOfPiece_53 rfl (lv_at hl 1 rfl) ?_
    refine lv_goto (tgt := 65) hx hb dX4_signOfPiece_54 (by decide) ?_
    obtain ⟨hz2, hF⟩ := zck_t hF
    obtain rfl := Option.some.inj hF
    exact hret _ _ _ _ (zch_n hz2) hw dX4_signOfPiece_65
set_option maxHeartbeats 400000 in
set_option maxRecDepth 100000 in
theorem mX4_signOfPiece (l : Launch) (G : va_G) (k : Nat → ClassId)  (sz : Nat)  (p0 : Int32) (p1 : Int32) (o : Int32) (hF : fX4_signOfPiece p0 p1 = some o) : zMI l yX4_signOfPiece wsX4_signOfPiece rmX4_signOfPiece G k (zE0 k) sz [.int p0, .int p1] o (zE0 k) := by
  refine zof_I (cc := cX4_signOfPiece) (nL := 3) (own := RX4) (rt := .char) (by decide) rfl rfl (Nat.le_of_ble_eq_true rfl) ?_
  intro p e s m args below meth c A Q C0 hK hA hret ls hl hw
  have hl : lv_has ls 3 [(0, .int p0), (1, .int p1)] := hl
  obtain ⟨hx, hb, hr, hml, hown, hts, hlocks⟩ := id C0
  obtain ⟨H, hH⟩ : ∃ z, z = s.heap := ⟨_, rfl⟩
  rw [← hH] at hw ⊢
  unfold fX4_signOfPiece at hF
  refine lv_iload_n hx hb dX4_signOfPiece_0 rfl (lv_at hl 1 rfl) ?_
  by_cases hc1 : p1 = (0 : Int32)
  · have hF := zif_t hc1 hF
    refine lv_tableIn (tgt := 28) (off := 27) hx hb dX4_signOfPiece_1 (by rw [hc1]; decide) (by rw [hc1]; decide) (by rw [hc1]; rfl) (by decide) ?_
    refine lv_bipush (v := (85 : Int32)) hx hb dX4_signOfPiece_28 (by decide) ?_
    refine lv_istore_n (lv' := [(2, .int (85 : Int32)), (0, .int p0), (1, .int p1)]) hx hb dX4_signOfPiece_30 rfl hl (by decide) rfl (fun ls hl => ?_)
    refine lv_goto (tgt := 49) hx hb dX4_signOfPiece_31 (by decide) ?_
    exact wX4_signOfPiece_49 C0 hK hA hret   _ _ hF _ _ _ hw (lv_sub hl [1, 0] rfl)
  have hF := zif_f hc1 hF
  by_cases hc2 : p1 = (1 : Int32)
  · have hF := zif_t hc2 hF
    refine lv_tableIn (tgt := 34) (off := 33) hx hb dX4_signOfPiece_1 (by rw [hc2]; decide) (by rw [hc2]; decide) (by rw [hc2]; rfl) (by decide) ?_
    refine lv_bipush (v := (73 : Int32)) hx hb dX4_signOfPiece_34 (by decide) ?_
    refine lv_istore_n (lv' := [(2, .int (73 : Int32)), (0, .int p0), (1, .int p1)]) hx hb dX4_signOfPiece_36 rfl hl (by decide) rfl (fun ls hl => ?_)
    refine lv_goto (tgt := 49) hx hb dX4_signOfPiece_37 (by decide) ?_
    exact wX4_signOfPiece_49 C0 hK hA hret   _ _ hF _ _ _ hw (lv_sub hl [1, 0] rfl)
  have hF := zif_f hc2 hF
  by_cases hc3 : p1 = (2 : Int32)
  · have hF := zif_t hc3 hF
    refine lv_tableIn (tgt := 40) (off := 39) hx hb dX4_signOfPiece_1 (by rw [hc3]; decide) (by rw [hc3]; decide) (by rw [hc3]; rfl) (by decide) ?_
    refine lv_bipush (v := (87 : Int32)) hx hb dX4_signOfPiece_40 (by decide) ?_
    refine lv_istore_n (lv' := [(2, .int (87 : Int32)), (0, .int p0), (1, .int p1)]) hx hb dX4_signOfPiece_42 rfl hl (by decide) rfl (fun ls hl => ?_)
    refine lv_goto (tgt := 49) hx hb dX4_signOfPiece_43 (by decide) ?_
    exact wX4_signOfPiece_49 C0 hK hA hret   _ _ hF _ _ _ hw (lv_sub hl [1, 0] rfl)
  have hF := zif_f hc3 hF
  refine lv_tableOut (tgt := 46) hx hb dX4_signOfPiece_1 (by
    have q0 : p1.toInt ≠ 0 := fun q => hc1 (Int32.toInt_inj.mp q)
    have q1 : p1.toInt ≠ 1 := fun q => hc2 (Int32.toInt_inj.mp q)
    have q2 : p1.toInt ≠ 2 := fun q => hc3 (Int32.toInt_inj.mp q)
    omega) (by decide) ?_
  refine lv_bipush (v := (75 : Int32)) hx hb dX4_signOfPiece_46 (by decide) ?_
  refine lv_istore_n (lv' := [(2, .int (75 : Int32)), (0, .int p0), (1, .int p1)]) hx hb dX4_signOfPiece_48 rfl hl (by decide) rfl (fun ls hl => ?_)
  exact wX4_signOfPiece_49 C0 hK hA hret   _ _ hF _ _ _ hw (lv_sub hl [1, 0] rfl)

/-! SealedBoard.picture(I)C -/
abbrev rmX4_picture : Room := { frames := 7, cells := 1, slots := 6, locals := 102 }
theorem kdX4_picture : yX4_picture.cls = RX4 ∧ yX4_picture.cls ≠ "java/lang/invoke/MethodHandle" ∧ yX4_picture.cls ≠ "java/lang/invoke/VarHandle" ∧ (parseMethodDescriptor yX4_picture.desc).map (fun d => d.parameters.length) = some 1 := by decide +kernel
theorem inX4_picture_X4 : ∀ w ∈ u_ws RX4 TX4 8, w ∈ wsX4_picture := by decide +kernel
def fX4_picture (fb : Nat → Int64) (p0 : Int32) : Option (Nat × Int32) := (zbd (fX4_requireSquare p0) (fun u1 => (if u1 = 0 then (zbd (fX2_sideOn fb p0) (fun u3 => (zbd (fX2_whatOn fb p0) (fun u5 => (if u5 = (1 : Int32) then (zbd (fX2_kindOn fb p0) (fun u8 => (zbd (fX4_signOfPiece u3 u8) (fun u10 => (zck (zch u10) (some (0, u10))))))) else (if u5 = (2 : Int32) then (zck (zch (35 : Int32)) (some (0, (35 : Int32)))) else (if u5 = (3 : Int32) then (if u3 = 0 then (zck (zch (40 : Int32)) (some (0, (40 : Int32)))) else (zck (zch (41 : Int32)) (some (0, (41 : Int32))))) else (zck (zch (46 : Int32)) (some (0, (46 : Int32))))))))))) else (some (u1, (0 : Int32))))))
set_option maxHeartbeats 400000 in
set_option maxRecDepth 100000 in
theorem mX4_picture (l : Launch) (hl9 : l.stackTraces = false) (G : va_G) (k : Nat → ClassId) (ad : Nat → Nat) (sz : Nat) (sv : Int32) (kE : Int32) (kR : Int32) (fb : Nat → Int64) (ft : Nat → Int64) (fs : Nat → Int64) (rws : Nat → Int64) (nx : Int32) (ct : Int32) (ch : Nat → Int32) (ln : Int32) (p0 : Int32) (o : Nat × Int32) (hF : fX4_picture fb p0 = some o) : zXI l yX4_picture wsX4_picture rmX4_picture G k (zC ad k sv kE kR fb ft fs rws nx ct ch ln) sz [.ref (ad 0), .int p0] 1 6 o.1 o.2 (zC ad k sv kE kR fb ft fs rws nx ct ch ln) := by
  refine zof_XI hl9 (cc := cX4_picture) (nL := 3) (own := RX4) (rt := .char) (by decide) rfl rfl (Nat.le_of_ble_eq_true rfl) ?_
  intro p e s m args below meth c A Q C0 hK hA hret hthp htho ls hl hw
  have hl : lv_has ls 3 [(0, .ref (ad 0)), (1, .int p0)] := hl
  obtain ⟨hx, hb, hr, hml, hown, hts, hlocks⟩ := id C0
  obtain ⟨H, hH⟩ : ∃ z, z = s.heap := ⟨_, rfl⟩
  rw [← hH] at hw ⊢
  unfold fX4_picture at hF
  refine lv_iload_n hx hb dX4_picture_0 rfl (lv_at hl 1 rfl) ?_
  obtain ⟨u1, hq2, hF⟩ := zbd_t hF
  refine zgoXV (o0 := u1) (w' := (zC ad k sv kE kR fb ft fs rws nx ct ch ln)) hw hA [] rfl (zSx (As := [.int p0]) (rest := []) ⟨hx, hb, hml, hown, hts⟩ (mX4_requireSquare l hl9 G k  H.size  p0 u1 hq2) (va_cwS 1 hts gX4_picture_X4_requireSquare rfl rfl rfl kdX4_requireSquare ⟨Nat.le_of_ble_eq_true rfl, Nat.le_of_ble_eq_true rfl⟩) hK hA hw [] rfl (by decide) rfl hl.1 rfl (Nat.le_of_ble_eq_true rfl) dX4_picture_1 ⟨Nat.le_of_ble_eq_true rfl, Nat.le_of_ble_eq_true rfl⟩) rfl rfl rfl (fun h019 H locs q9 E9 ce9 hw g1 g2 g3 g4 => ?_) (fun h019 H locs hw => ?_)
  · have hF := zif_f h019 hF
    obtain rfl := Option.some.inj hF
    exact hthp _ _ _ _ _ _ _ _ _ _ h019 hw g1 g2 g3 g4 (Nat.le_of_ble_eq_true rfl) (Nat.le_of_ble_eq_true rfl)
  have hF := zif_t h019 hF
  refine lv_aload_n hx hb dX4_picture_4 rfl (lv_at hl 0 rfl) ?_
  refine va_get (D := G) (ci := 3) (v := .ref (ad 1)) (C := RX4) (T := TX4) (N := 8) hx hb hts inX4_picture_X4 hown hK.1 hw.1 0 rfl rfl 0 (by decide) (hts (.fieldLink RX4 10 "SealedBoard" "board" "LSealedBoard$Position;") (by decide +kernel)) (fun _ h9 => h9) rfl dX4_picture_5 ?_
  refine lv_iload_n hx hb dX4_picture_8 rfl (lv_at hl 1 rfl) ?_
  obtain ⟨u3, hq4, hF⟩ := zbd_t hF
  refine zgoI (w' := (zC ad k sv kE kR fb ft fs rws nx ct ch ln)) hw hA [1, 2] rfl (zV (As := [.int p0]) (rest := []) ⟨hx, hb, hml, hown, hts⟩ (mX2_sideOn l G k (ad 1) (ad 2) H.size fb p0 u3 hq4) (cwV 1 hts gX4_picture_X2_sideOn rfl rfl rfl kdX2_sideOn ⟨Nat.le_of_ble_eq_true rfl, Nat.le_of_ble_eq_true rfl⟩) hK hA hw [1, 2] rfl (by decide) 1 rfl rfl rfl rfl hl.1 rfl (Nat.le_of_ble_eq_true rfl) dX4_picture_9 ⟨Nat.le_of_ble_eq_true rfl, Nat.le_of_ble_eq_true rfl⟩) rfl rfl rfl (fun H locs hw => ?_)
  refine lv_istore_n (lv' := [(2, .int u3), (0, .ref (ad 0)), (1, .int p0)]) hx hb dX4_picture_12 rfl hl (by decide) rfl (fun ls hl => ?_)
  refine lv_aload_n hx hb dX4_picture_13 rfl (lv_at hl 1 rfl) ?_
  refine va_get (D := G) (ci := 3) (v := .ref (ad 1)) (C := RX4) (T := TX4) (N := 8) hx hb hts inX4_picture_X4 hown hK.1 hw.1 0 rfl rfl 0 (by decide) (hts (.fieldLink RX4 10 "SealedBoard" "board" "LSealedBoard$Position;") (by decide +kernel)) (fun _ h9 => h9) rfl dX4_picture_14 ?_
  refine lv_iload_n hx hb dX4_picture_17 rfl (lv_at hl 2 rfl) ?_
  obtain ⟨u5, hq6, hF⟩ := zbd_t hF
  refine zgoI (w' := (zC ad k sv kE kR fb ft fs rws nx ct ch ln)) hw hA [1, 2] rfl (zV (As := [.int p0]) (rest := []) ⟨hx, hb, hml, hown, hts⟩ (mX2_whatOn l G k (ad 1) (ad 2) H.size fb p0 u5 hq6) (cwV 1 hts gX4_picture_X2_whatOn rfl rfl rfl kdX2_whatOn ⟨Nat.le_of_ble_eq_true rfl, Nat.le_of_ble_eq_true rfl⟩) hK hA hw [1, 2] rfl (by decide) 1 rfl rfl rfl rfl hl.1 rfl (Nat.le_of_ble_eq_true rfl) dX4_picture_18 ⟨Nat.le_of_ble_eq_true rfl, Nat.le_of_ble_eq_true rfl⟩) rfl rfl rfl (fun H locs hw => ?_)
  by_cases hc7 : u5 = (1 : Int32)
  · have hF := zif_t hc7 hF
    refine lv_tableIn (tgt := 48) (off := 27) hx hb dX4_picture_21 (by rw [hc7]; decide) (by rw [hc7]; decide) (by rw [hc7]; rfl) (by decide) ?_
    refine lv_iload_n hx hb dX4_picture_48 rfl (lv_at hl 0 rfl) ?_
    refine lv_aload_n hx hb dX4_picture_49 rfl (lv_at hl 1 rfl) ?_
    refine va_get (D := G) (ci := 3) (v := .ref (ad 1)) (C := RX4) (T := TX4) (N := 8) hx hb hts inX4_picture_X4 hown hK.1 hw.1 0 rfl rfl 0 (by decide) (hts (.fieldLink RX4 10 "SealedBoard" "board" "LSealedBoard$Position;") (by decide +kernel)) (fun _ h9 => h9) rfl dX4_picture_50 ?_
    refine lv_iload_n hx hb dX4_picture_53 rfl (lv_at hl 2 rfl) ?_
    obtain ⟨u8, hq9, hF⟩ := zbd_t hF
    refine zgoI (w' := (zC ad k sv kE kR fb ft fs rws nx ct ch ln)) hw hA [1, 2] rfl (zV (As := [.int p0]) (rest := [.int u3]) ⟨hx, hb, hml, hown, hts⟩ (mX2_kindOn l G k (ad 1) (ad 2) H.size fb p0 u8 hq9) (cwV 1 hts gX4_picture_X2_kindOn rfl rfl rfl kdX2_kindOn ⟨Nat.le_of_ble_eq_true rfl, Nat.le_of_ble_eq_true rfl⟩) hK hA hw [1, 2] rfl (by decide) 1 rfl rfl rfl rfl hl.1 rfl (Nat.le_of_ble_eq_true rfl) dX4_picture_54 ⟨Nat.le_of_ble_eq_true rfl, Nat.le_of_ble_eq_true rfl⟩) rfl rfl rfl (fun H locs hw => ?_)
    obtain ⟨u10, hq11, hF⟩ := zbd_t hF
    refine zgoI (w' := (zC ad k sv kE kR fb ft fs rws nx ct ch ln)) hw hA [] rfl (zS (As := [.int u3, .int u8]) (rest := []) ⟨hx, hb, hml, hown, hts⟩ (mX4_signOfPiece l G k  H.size  u3 u8 u10 hq11) (va_cwS 2 hts gX4_picture_X4_signOfPiece rfl rfl rfl kdX4_signOfPiece ⟨Nat.le_of_ble_eq_true rfl, Nat.le_of_ble_eq_true rfl⟩) hK hA hw [] rfl (by decide) rfl hl.1 rfl (Nat.le_of_ble_eq_true rfl) dX4_picture_57 ⟨Nat.le_of_ble_eq_true rfl, Nat.le_of_ble_eq_true rfl⟩) rfl rfl rfl (fun H locs hw => ?_)
    obtain ⟨hz12, hF⟩ := zck_t hF
    obtain rfl := Option.some.inj hF
    exact hret _ _ _ _ rfl (zch_n hz12) hw dX4_picture_60
  have hF := zif_f hc7 hF
  by_cases hc13 : u5 = (2 : Int32)
  · have hF := zif_t hc13 hF
    refine lv_tableIn (tgt := 61) (off := 40) hx hb dX4_picture_21 (by rw [hc13]; decide) (by rw [hc13]; decide) (by rw [hc13]; rfl) (by decide) ?_
    refine lv_bipush (v := (35 : Int32)) hx hb dX4_picture_61 (by decide) ?_
    obtain ⟨hz14, hF⟩ := zck_t hF
    obtain rfl := Option.some.inj hF
    exact hret _ _ _ _ rfl (zch_n hz14) hw dX4_picture_63
  have hF := zif_f hc13 hF
  by_cases hc15 : u5 = (3 : Int32)
  · have hF := zif_t hc15 hF
    refine lv_tableIn (tgt := 64) (off := 43) hx hb dX4_picture_21 (by rw [hc15]; decide) (by rw [hc15]; decide) (by rw [hc15]; rfl) (by decide) ?_
    refine lv_iload_n hx hb dX4_picture_64 rfl (lv_at hl 0 rfl) ?_
    refine lv_if_ne (tgt := 73) hx hb dX4_picture_65 (by decide) (fun hc => ?_) (fun hc => ?_)
    · have hF := zif_f hc hF
      refine lv_bipush (v := (41 : Int32)) hx hb dX4_picture_73 (by decide) ?_
      obtain ⟨hz16, hF⟩ := zck_t hF
      obtain rfl := Option.some.inj hF
      exact hret _ _ _ _ rfl (zch_n hz16) hw dX4_picture_75
    · have hF := zif_t hc hF
      refine lv_bipush (v := (40 : Int32)) hx hb dX4_picture_68 (by decide) ?_
      refine lv_goto (tgt := 75) hx hb dX4_picture_70 (by decide) ?_
      obtain ⟨hz17, hF⟩ := zck_t hF
      obtain rfl := Option.some.inj hF
      exact hret _ _ _ _ rfl (zch_n hz17) hw dX4_picture_75
  have hF := zif_f hc15 hF
  refine lv_tableOut (tgt := 76) hx hb dX4_picture_21 (by
    have q0 : u5.toInt ≠ 1 := fun q => hc7 (Int32.toInt_inj.mp q)
    have q1 : u5.toInt ≠ 2 := fun q => hc13 (Int32.toInt_inj.mp q)
    have q2 : u5.toInt ≠ 3 := fun q => hc15 (Int32.toInt_inj.mp q)
    omega) (by decide) ?_
  refine lv_bipush (v := (46 : Int32)) hx hb dX4_picture_76 (by decide) ?_
  obtain ⟨hz18, hF⟩ := zck_t hF
  obtain rfl := Option.some.inj hF
  exact hret _ _ _ _ rfl (zch_n hz18) hw dX4_picture_78

/-! SealedBoard.account(I)I -/
abbrev rmX4_account : Room := { frames := 6, cells := 1, slots := 6, locals := 82 }
theorem naX4_account_2 : ∀ w ∈ (vx_atS RX4 74 "java/lang/IllegalArgumentException" zNm).filter goodWord, w ∈ wsX4_account := by decide +kernel
theorem kdX4_account : yX4_account.cls = RX4 ∧ yX4_account.cls ≠ "java/lang/invoke/MethodHandle" ∧ yX4_account.cls ≠ "java/lang/invoke/VarHandle" ∧ (parseMethodDescriptor yX4_account.desc).map (fun d => d.parameters.length) = some 1 := by decide +kernel
theorem inX4_account_X4 : ∀ w ∈ u_ws RX4 TX4 8, w ∈ wsX4_account := by decide +kernel
def fX4_account (fb : Nat → Int64) (ct : Int32) (ln : Int32) (p0 : Int32) : Option (Nat × Int32) := (if p0 < 0 then (some (2, (0 : Int32))) else (if p0 < (11 : Int32) then (if p0 = (0 : Int32) then (zbd (fX2_piecesOf fb p0) (fun u2 => (zbd (fX3_size u2) (fun u4 => (some (0, u4)))))) else (if p0 = (1 : Int32) then (zbd (fX2_piecesOf fb p0) (fun u7 => (zbd (fX3_size u7) (fun u9 => (some (0, u9)))))) else (if p0 = (2 : Int32) then (zbd (fX2_walls fb) (fun u12 => (zbd (fX3_size u12) (fun u14 => (some (0, u14)))))) else (if p0 = (3 : Int32) then (zbd (fX2_allDoors fb) (fun u17 => (zbd (fX3_size u17) (fun u19 => (some (0, u19)))))) else (if p0 = (4 : Int32) then (zbd (fX2_coinsOf fb (p0 - (4 : Int32))) (fun u22 => (some (0, u22)))) else (if p0 = (5 : Int32) then (zbd (fX2_coinsOf fb (p0 - (4 : Int32))) (fun u25 => (some (0, u25)))) else (if p0 = (6 : Int32) then (zbd (fX2_turns fb) (fun u28 => (some (0, u28)))) else (if p0 = (7 : Int32) then (zbd (fX2_mover fb) (fun u31 => (some (0, u31)))) else (if p0 = (8 : Int32) then (zbd (fX2_ending fb) (fun u34 => (some (0, u34)))) else (if p0 = (9 : Int32) then (zbd (fX1_length ln) (fun u37 => (some (0, u37)))) else (zbd (fX0_count ct) (fun u39 => (some (0, u39)))))))))))))) else (some (2, (0 : Int32)))))
set_option maxHeartbeats 400000 in
set_option maxRecDepth 100000 in
theorem mX4_account (l : Launch) (hl9 : l.stackTraces = false) (G : va_G) (k : Nat → ClassId) (ad : Nat → Nat) (sz : Nat) (sv : Int32) (kE : Int32) (kR : Int32) (fb : Nat → Int64) (ft : Nat → Int64) (fs : Nat → Int64) (rws : Nat → Int64) (nx : Int32) (ct : Int32) (ch : Nat → Int32) (ln : Int32) (p0 : Int32) (o : Nat × Int32) (hF : fX4_account fb ct ln p0 = some o) : zXI l yX4_account wsX4_account rmX4_account G k (zC ad k sv kE kR fb ft fs rws nx ct ch ln) sz [.ref (ad 0), .int p0] 1 6 o.1 o.2 (zC ad k sv kE kR fb ft fs rws nx ct ch ln) := by
  refine zof_XI hl9 (cc := cX4_account) (nL := 2) (own := RX4) (rt := .int) (by decide) rfl rfl (Nat.le_of_ble_eq_true rfl) ?_
  intro p e s m args below meth c A Q C0 hK hA hret hthp htho ls hl hw
  have hl : lv_has ls 2 [(0, .ref (ad 0)), (1, .int p0)] := hl
  obtain ⟨hx, hb, hr, hml, hown, hts, hlocks⟩ := id C0
  obtain ⟨H, hH⟩ : ∃ z, z = s.heap := ⟨_, rfl⟩
  rw [← hH] at hw ⊢
  unfold fX4_account at hF
  refine lv_iload_n hx hb dX4_account_0 rfl (lv_at hl 1 rfl) ?_
  refine lv_if_lt (tgt := 10) hx hb dX4_account_1 (by decide) (fun hc => ?_) (fun hc => ?_)
  · have hF := zif_t hc hF
    obtain rfl := Option.some.inj hF
    exact htho _ _ _ _ _ "java/lang/IllegalArgumentException" 70 268 74 _ _ "no such account" (show (2 : Nat) ≠ 0 by decide) rfl hw (hl.1.trans hml.symm) (by decide +kernel) (by decide +kernel) (hts (.classLink RX4 70 "java/lang/IllegalArgumentException") (by decide +kernel)) (hts (.initialized "java/lang/IllegalArgumentException") (by decide +kernel)) (vx_hat (B := zBad "java/lang/IllegalArgumentException") (fun w hw9 => hts w (naX4_account_2 w hw9)) (by decide +kernel) (zbad hK.2 (by decide))) (by decide +kernel) ⟨dX4_account_10, dX4_account_13, Or.inr ⟨dX4_account_14, dX4_account_17, dX4_account_20⟩⟩ (Nat.le_of_ble_eq_true rfl) (Nat.le_of_ble_eq_true rfl) (Nat.le_of_ble_eq_true rfl) (Nat.le_of_ble_eq_true rfl) (Nat.le_of_ble_eq_true rfl) (Nat.le_of_ble_eq_true rfl)
  · have hF := zif_f hc hF
    refine lv_iload_n hx hb dX4_account_4 rfl (lv_at hl 1 rfl) ?_
    refine lv_bipush (v := (11 : Int32)) hx hb dX4_account_5 (by decide) ?_
    refine lv_icmp_lt (tgt := 21) hx hb dX4_account_7 (by decide) (fun hc => ?_) (fun hc => ?_)
    · have hF := zif_t hc hF
      refine lv_iload_n hx hb dX4_account_21 rfl (lv_at hl 1 rfl) ?_
      by_cases hc1 : p0 = (0 : Int32)
      · have hF := zif_t hc1 hF
        refine lv_tableIn (tgt := 76) (off := 54) hx hb dX4_account_22 (by rw [hc1]; decide) (by rw [hc1]; decide) (by rw [hc1]; rfl) (by decide) ?_
        refine lv_aload_n hx hb dX4_account_76 rfl (lv_at hl 0 rfl) ?_
        refine va_get (D := G) (ci := 3) (v := .ref (ad 1)) (C := RX4) (T := TX4) (N := 8) hx hb hts inX4_account_X4 hown hK.1 hw.1 0 rfl rfl 0 (by decide) (hts (.fieldLink RX4 10 "SealedBoard" "board" "LSealedBoard$Position;") (by decide +kernel)) (fun _ h9 => h9) rfl dX4_account_77 ?_
        refine lv_iload_n hx hb dX4_account_80 rfl (lv_at hl 1 rfl) ?_
        obtain ⟨u2, hq3, hF⟩ := zbd_t hF
        refine zgoL (w' := (zC ad k sv kE kR fb ft fs rws nx ct ch ln)) hw hA [1, 2] rfl (zV (As := [.int p0]) (rest := []) ⟨hx, hb, hml, hown, hts⟩ (mX2_piecesOf l G k (ad 1) (ad 2) H.size fb p0 u2 hq3) (cwV 1 hts gX4_account_X2_piecesOf rfl rfl rfl kdX2_piecesOf ⟨Nat.le_of_ble_eq_true rfl, Nat.le_of_ble_eq_true rfl⟩) hK hA hw [1, 2] rfl (by decide) 1 rfl rfl rfl rfl hl.1 rfl (Nat.le_of_ble_eq_true rfl) dX4_account_81 ⟨Nat.le_of_ble_eq_true rfl, Nat.le_of_ble_eq_true rfl⟩) rfl rfl rfl (fun H locs hw => ?_)
        obtain ⟨u4, hq5, hF⟩ := zbd_t hF
        refine zgoI (w' := (zC ad k sv kE kR fb ft fs rws nx ct ch ln)) hw hA [] rfl (zS (As := [.long u2]) (rest := []) ⟨hx, hb, hml, hown, hts⟩ (mX3_size l G k  H.size  u2 u4 hq5) (va_cwS 1 hts gX4_account_X3_size rfl rfl rfl kdX3_size ⟨Nat.le_of_ble_eq_true rfl, Nat.le_of_ble_eq_true rfl⟩) hK hA hw [] rfl (by decide) rfl hl.1 rfl (Nat.le_of_ble_eq_true rfl) dX4_account_84 ⟨Nat.le_of_ble_eq_true rfl, Nat.le_of_ble_eq_true rfl⟩) rfl rfl rfl (fun H locs hw => ?_)
        obtain rfl := Option.some.inj hF
        refine W.widen (k := 1) (n := 6) (Nat.le_of_ble_eq_true rfl) (Nat.le_of_ble_eq_true rfl) ?_
        exact hret _ _ _ _ rfl rfl hw dX4_account_87
      have hF := zif_f hc1 hF
      by_cases hc6 : p0 = (1 : Int32)
      · have hF := zif_t hc6 hF
        refine lv_tableIn (tgt := 76) (off := 54) hx hb dX4_account_22 (by rw [hc6]; decide) (by rw [hc6]; decide) (by rw [hc6]; rfl) (by decide) ?_
        refine lv_aload_n hx hb dX4_account_76 rfl (lv_at hl 0 rfl) ?_
        refine va_get (D := G) (ci := 3) (v := .ref (ad 1)) (C := RX4) (T := TX4) (N := 8) hx hb hts inX4_account_X4 hown hK.1 hw.1 0 rfl rfl 0 (by decide) (hts (.fieldLink RX4 10 "SealedBoard" "board" "LSealedBoard$Position;") (by decide +kernel)) (fun _ h9 => h9) rfl dX4_account_77 ?_
        refine lv_iload_n hx hb dX4_account_80 rfl (lv_at hl 1 rfl) ?_
        obtain ⟨u7, hq8, hF⟩ := zbd_t hF
        refine zgoL (w' := (zC ad k sv kE kR fb ft fs rws nx ct ch ln)) hw hA [1, 2] rfl (zV (As := [.int p0]) (rest := []) ⟨hx, hb, hml, hown, hts⟩ (mX2_piecesOf l G k (ad 1) (ad 2) H.size fb p0 u7 hq8) (cwV 1 hts gX4_account_X2_piecesOf rfl rfl rfl kdX2_piecesOf ⟨Nat.le_of_ble_eq_true rfl, Nat.le_of_ble_eq_true rfl⟩) hK hA hw [1, 2] rfl (by decide) 1 rfl rfl rfl rfl hl.1 rfl (Nat.le_of_ble_eq_true rfl) dX4_account_81 ⟨Nat.le_of_ble_eq_true rfl, Nat.le_of_ble_eq_true rfl⟩) rfl rfl rfl (fun H locs hw => ?_)
        obtain ⟨u9, hq10, hF⟩ := zbd_t hF
        refine zgoI (w' := (zC ad k sv kE kR fb ft fs rws nx ct ch ln)) hw hA [] rfl (zS (As := [.long u7]) (rest := []) ⟨hx, hb, hml, hown, hts⟩ (mX3_size l G k  H.size  u7 u9 hq10) (va_cwS 1 hts gX4_account_X3_size rfl rfl rfl kdX3_size ⟨Nat.le_of_ble_eq_true rfl, Nat.le_of_ble_eq_true rfl⟩) hK hA hw [] rfl (by decide) rfl hl.1 rfl (Nat.le_of_ble_eq_true rfl) dX4_account_84 ⟨Nat.le_of_ble_eq_true rfl, Nat.le_of_ble_eq_true rfl⟩) rfl rfl rfl (fun H locs hw => ?_)
        obtain rfl := Option.some.inj hF
        refine W.widen (k := 1) (n := 6) (Nat.le_of_ble_eq_true rfl) (Nat.le_of_ble_eq_true rfl) ?_
        exact hret _ _ _ _ rfl rfl hw dX4_account_87
      have hF := zif_f hc6 hF
      by_cases hc11 : p0 = (2 : Int32)
      · have hF := zif_t hc11 hF
        refine lv_tableIn (tgt := 88) (off := 66) hx hb dX4_account_22 (by rw [hc11]; decide) (by rw [hc11]; decide) (by rw [hc11]; rfl) (by decide) ?_
        refine lv_aload_n hx hb dX4_account_88 rfl (lv_at hl 0 rfl) ?_
        refine va_get (D := G) (ci := 3) (v := .ref (ad 1)) (C := RX4) (T := TX4) (N := 8) hx hb hts inX4_account_X4 hown hK.1 hw.1 0 rfl rfl 0 (by decide) (hts (.fieldLink RX4 10 "SealedBoard" "board" "LSealedBoard$Position;") (by decide +kernel)) (fun _ h9 => h9) rfl dX4_account_89 ?_
        obtain ⟨u12, hq13, hF⟩ := zbd_t hF
        refine zgoL (w' := (zC ad k sv kE kR fb ft fs rws nx ct ch ln)) hw hA [1, 2] rfl (zV (As := []) (rest := []) ⟨hx, hb, hml, hown, hts⟩ (mX2_walls l G k (ad 1) (ad 2) H.size fb  u12 hq13) (cwV 0 hts gX4_account_X2_walls rfl rfl rfl kdX2_walls ⟨Nat.le_of_ble_eq_true rfl, Nat.le_of_ble_eq_true rfl⟩) hK hA hw [1, 2] rfl (by decide) 1 rfl rfl rfl rfl hl.1 rfl (Nat.le_of_ble_eq_true rfl) dX4_account_92 ⟨Nat.le_of_ble_eq_true rfl, Nat.le_of_ble_eq_true rfl⟩) rfl rfl rfl (fun H locs hw => ?_)
        obtain ⟨u14, hq15, hF⟩ := zbd_t hF
        refine zgoI (w' := (zC ad k sv kE kR fb ft fs rws nx ct ch ln)) hw hA [] rfl (zS (As := [.long u12]) (rest := []) ⟨hx, hb, hml, hown, hts⟩ (mX3_size l G k  H.size  u12 u14 hq15) (va_cwS 1 hts gX4_account_X3_size rfl rfl rfl kdX3_size ⟨Nat.le_of_ble_eq_true rfl, Nat.le_of_ble_eq_true rfl⟩) hK hA hw [] rfl (by decide) rfl hl.1 rfl (Nat.le_of_ble_eq_true rfl) dX4_account_95 ⟨Nat.le_of_ble_eq_true rfl, Nat.le_of_ble_eq_true rfl⟩) rfl rfl rfl (fun H locs hw => ?_)
        obtain rfl := Option.some.inj hF
        refine W.widen (k := 1) (n := 6) (Nat.le_of_ble_eq_true rfl) (Nat.le_of_ble_eq_true rfl) ?_
        exact hret _ _ _ _ rfl rfl hw dX4_account_98
      have hF := zif_f hc11 hF
      by_cases hc16 : p0 = (3 : Int32)
      · have hF := zif_t hc16 hF
        refine lv_tableIn (tgt := 99) (off := 77) hx hb dX4_account_22 (by rw [hc16]; decide) (by rw [hc16]; decide) (by rw [hc16]; rfl) (by decide) ?_
        refine lv_aload_n hx hb dX4_account_99 rfl (lv_at hl 0 rfl) ?_
        refine va_get (D := G) (ci := 3) (v := .ref (ad 1)) (C := RX4) (T := TX4) (N := 8) hx hb hts inX4_account_X4 hown hK.1 hw.1 0 rfl rfl 0 (by decide) (hts (.fieldLink RX4 10 "SealedBoard" "board" "LSealedBoard$Position;") (by decide +kernel)) (fun _ h9 => h9) rfl dX4_account_100 ?_
        obtain ⟨u17, hq18, hF⟩ := zbd_t hF
        refine zgoL (w' := (zC ad k sv kE kR fb ft fs rws nx ct ch ln)) hw hA [1, 2] rfl (zV (As := []) (rest := []) ⟨hx, hb, hml, hown, hts⟩ (mX2_allDoors l G k (ad 1) (ad 2) H.size fb  u17 hq18) (cwV 0 hts gX4_account_X2_allDoors rfl rfl rfl kdX2_allDoors ⟨Nat.le_of_ble_eq_true rfl, Nat.le_of_ble_eq_true rfl⟩) hK hA hw [1, 2] rfl (by decide) 1 rfl rfl rfl rfl hl.1 rfl (Nat.le_of_ble_eq_true rfl) dX4_account_103 ⟨Nat.le_of_ble_eq_true rfl, Nat.le_of_ble_eq_true rfl⟩) rfl rfl rfl (fun H locs hw => ?_)
        obtain ⟨u19, hq20, hF⟩ := zbd_t hF
        refine zgoI (w' := (zC ad k sv kE kR fb ft fs rws nx ct ch ln)) hw hA [] rfl (zS (As := [.long u17]) (rest := []) ⟨hx, hb, hml, hown, hts⟩ (mX3_size l G k  H.size  u17 u19 hq20) (va_cwS 1 hts gX4_account_X3_size rfl rfl rfl kdX3_size ⟨Nat.le_of_ble_eq_true rfl, Nat.le_of_ble_eq_true rfl⟩) hK hA hw [] rfl (by decide) rfl hl.1 rfl (Nat.le_of_ble_eq_true rfl) dX4_account_106 ⟨Nat.le_of_ble_eq_true rfl, Nat.le_of_ble_eq_true rfl⟩) rfl rfl rfl (fun H locs hw => ?_)
        obtain rfl := Option.some.inj hF
        refine W.widen (k := 1) (n := 6) (Nat.le_of_ble_eq_true rfl) (Nat.le_of_ble_eq_true rfl) ?_
        exact hret _ _ _ _ rfl rfl hw dX4_account_109
      have hF := zif_f hc16 hF
      by_cases hc21 : p0 = (4 : Int32)
      · have hF := zif_t hc21 hF
        refine lv_tableIn (tgt := 110) (off := 88) hx hb dX4_account_22 (by rw [hc21]; decide) (by rw [hc21]; decide) (by rw [hc21]; rfl) (by decide) ?_
        refine lv_aload_n hx hb dX4_account_110 rfl (lv_at hl 0 rfl) ?_
        refine va_get (D := G) (ci := 3) (v := .ref (ad 1)) (C := RX4) (T := TX4) (N := 8) hx hb hts inX4_account_X4 hown hK.1 hw.1 0 rfl rfl 0 (by decide) (hts (.fieldLink RX4 10 "SealedBoard" "board" "LSealedBoard$Position;") (by decide +kernel)) (fun _ h9 => h9) rfl dX4_account_111 ?_
        refine lv_iload_n hx hb dX4_account_114 rfl (lv_at hl 1 rfl) ?_
        refine lv_iconst (v := (4 : Int32)) hx hb dX4_account_115 (by decide) ?_
        refine lv_isub hx hb dX4_account_116 ?_
        obtain ⟨u22, hq23, hF⟩ := zbd_t hF
        refine zgoI (w' := (zC ad k sv kE kR fb ft fs rws nx ct ch ln)) hw hA [1, 2] rfl (zV (As := [.int (p0 - (4 : Int32))]) (rest := []) ⟨hx, hb, hml, hown, hts⟩ (mX2_coinsOf l G k (ad 1) (ad 2) H.size fb (p0 - (4 : Int32)) u22 hq23) (cwV 1 hts gX4_account_X2_coinsOf rfl rfl rfl kdX2_coinsOf ⟨Nat.le_of_ble_eq_true rfl, Nat.le_of_ble_eq_true rfl⟩) hK hA hw [1, 2] rfl (by decide) 1 rfl rfl rfl rfl hl.1 rfl (Nat.le_of_ble_eq_true rfl) dX4_account_117 ⟨Nat.le_of_ble_eq_true rfl, Nat.le_of_ble_eq_true rfl⟩) rfl rfl rfl (fun H locs hw => ?_)
        obtain rfl := Option.some.inj hF
        refine W.widen (k := 1) (n := 6) (Nat.le_of_ble_eq_true rfl) (Nat.le_of_ble_eq_true rfl) ?_
        exact hret _ _ _ _ rfl rfl hw dX4_account_120
      have hF := zif_f hc21 hF
      by_cases hc24 : p0 = (5 : Int32)
      · have hF := zif_t hc24 hF
        refine lv_tableIn (tgt := 110) (off := 88) hx hb dX4_account_22 (by rw [hc24]; decide) (by rw [hc24]; decide) (by rw [hc24]; rfl) (by decide) ?_
        refine lv_aload_n hx hb dX4_account_110 rfl (lv_at hl 0 rfl) ?_
        refine va_get (D := G) (ci := 3) (v := .ref (ad 1)) (C := RX4) (T := TX4) (N := 8) hx hb hts inX4_account_X4 hown hK.1 hw.1 0 rfl rfl 0 (by decide) (hts (.fieldLink RX4 10 "SealedBoard" "board" "LSealedBoard$Position;") (by decide +kernel)) (fun _ h9 => h9) rfl dX4_account_111 ?_
        refine lv_iload_n hx hb dX4_account_114 rfl (lv_at hl 1 rfl) ?_
        refine lv_iconst (v := (4 : Int32)) hx hb dX4_account_115 (by decide) ?_
        refine lv_isub hx hb dX4_account_116 ?_
        obtain ⟨u25, hq26, hF⟩ := zbd_t hF
        refine zgoI (w' := (zC ad k sv kE kR fb ft fs rws nx ct ch ln)) hw hA [1, 2] rfl (zV (As := [.int (p0 - (4 : Int32))]) (rest := []) ⟨hx, hb, hml, hown, hts⟩ (mX2_coinsOf l G k (ad 1) (ad 2) H.size fb (p0 - (4 : Int32)) u25 hq26) (cwV 1 hts gX4_account_X2_coinsOf rfl rfl rfl kdX2_coinsOf ⟨Nat.le_of_ble_eq_true rfl, Nat.le_of_ble_eq_true rfl⟩) hK hA hw [1, 2] rfl (by decide) 1 rfl rfl rfl rfl hl.1 rfl (Nat.le_of_ble_eq_true rfl) dX4_account_117 ⟨Nat.le_of_ble_eq_true rfl, Nat.le_of_ble_eq_true rfl⟩) rfl rfl rfl (fun H locs hw => ?_)
        obtain rfl := Option.some.inj hF
        refine W.widen (k := 1) (n := 6) (Nat.le_of_ble_eq_true rfl) (Nat.le_of_ble_eq_true rfl) ?_
        exact hret _ _ _ _ rfl rfl hw dX4_account_120
      have hF := zif_f hc24 hF
      by_cases hc27 : p0 = (6 : Int32)
      · have hF := zif_t hc27 hF
        refine lv_tableIn (tgt := 121) (off := 99) hx hb dX4_account_22 (by rw [hc27]; decide) (by rw [hc27]; decide) (by rw [hc27]; rfl) (by decide) ?_
        refine lv_aload_n hx hb dX4_account_121 rfl (lv_at hl 0 rfl) ?_
        refine va_get (D := G) (ci := 3) (v := .ref (ad 1)) (C := RX4) (T := TX4) (N := 8) hx hb hts inX4_account_X4 hown hK.1 hw.1 0 rfl rfl 0 (by decide) (hts (.fieldLink RX4 10 "SealedBoard" "board" "LSealedBoard$Position;") (by decide +kernel)) (fun _ h9 => h9) rfl dX4_account_122 ?_
        obtain ⟨u28, hq29, hF⟩ := zbd_t hF
        refine zgoI (w' := (zC ad k sv kE kR fb ft fs rws nx ct ch ln)) hw hA [1, 2] rfl (zV (As := []) (rest := []) ⟨hx, hb, hml, hown, hts⟩ (mX2_turns l G k (ad 1) (ad 2) H.size fb  u28 hq29) (cwV 0 hts gX4_account_X2_turns rfl rfl rfl kdX2_turns ⟨Nat.le_of_ble_eq_true rfl, Nat.le_of_ble_eq_true rfl⟩) hK hA hw [1, 2] rfl (by decide) 1 rfl rfl rfl rfl hl.1 rfl (Nat.le_of_ble_eq_true rfl) dX4_account_125 ⟨Nat.le_of_ble_eq_true rfl, Nat.le_of_ble_eq_true rfl⟩) rfl rfl rfl (fun H locs hw => ?_)
        obtain rfl := Option.some.inj hF
        refine W.widen (k := 1) (n := 6) (Nat.le_of_ble_eq_true rfl) (Nat.le_of_ble_eq_true rfl) ?_
        exact hret _ _ _ _ rfl rfl hw dX4_account_128
      have hF := zif_f hc27 hF
      by_cases hc30 : p0 = (7 : Int32)
      · have hF := zif_t hc30 hF
        refine lv_tableIn (tgt := 129) (off := 107) hx hb dX4_account_22 (by rw [hc30]; decide) (by rw [hc30]; decide) (by rw [hc30]; rfl) (by decide) ?_
        refine lv_aload_n hx hb dX4_account_129 rfl (lv_at hl 0 rfl) ?_
        refine va_get (D := G) (ci := 3) (v := .ref (ad 1)) (C := RX4) (T := TX4) (N := 8) hx hb hts inX4_account_X4 hown hK.1 hw.1 0 rfl rfl 0 (by decide) (hts (.fieldLink RX4 10 "SealedBoard" "board" "LSealedBoard$Position;") (by decide +kernel)) (fun _ h9 => h9) rfl dX4_account_130 ?_
        obtain ⟨u31, hq32, hF⟩ := zbd_t hF
        refine zgoI (w' := (zC ad k sv kE kR fb ft fs rws nx ct ch ln)) hw hA [1, 2] rfl (zV (As := []) (rest := []) ⟨hx, hb, hml, hown, hts⟩ (mX2_mover l G k (ad 1) (ad 2) H.size fb  u31 hq32) (cwV 0 hts gX4_account_X2_mover rfl rfl rfl kdX2_mover ⟨Nat.le_of_ble_eq_true rfl, Nat.le_of_ble_eq_true rfl⟩) hK hA hw [1, 2] rfl (by decide) 1 rfl rfl rfl rfl hl.1 rfl (Nat.le_of_ble_eq_true rfl) dX4_account_133 ⟨Nat.le_of_ble_eq_true rfl, Nat.le_of_ble_eq_true rfl⟩) rfl rfl rfl (fun H locs hw => ?_)
        obtain rfl := Option.some.inj hF
        refine W.widen (k := 1) (n := 6) (Nat.le_of_ble_eq_true rfl) (Nat.le_of_ble_eq_true rfl) ?_
        exact hret _ _ _ _ rfl rfl hw dX4_account_136
      have hF := zif_f hc30 hF
      by_cases hc33 : p0 = (8 : Int32)
      · have hF := zif_t hc33 hF
        refine lv_tableIn (tgt := 137) (off := 115) hx hb dX4_account_22 (by rw [hc33]; decide) (by rw [hc33]; decide) (by rw [hc33]; rfl) (by decide) ?_
        refine lv_aload_n hx hb dX4_account_137 rfl (lv_at hl 0 rfl) ?_
        refine va_get (D := G) (ci := 3) (v := .ref (ad 1)) (C := RX4) (T := TX4) (N := 8) hx hb hts inX4_account_X4 hown hK.1 hw.1 0 rfl rfl 0 (by decide) (hts (.fieldLink RX4 10 "SealedBoard" "board" "LSealedBoard$Position;") (by decide +kernel)) (fun _ h9 => h9) rfl dX4_account_138 ?_
        obtain ⟨u34, hq35, hF⟩ := zbd_t hF
        refine zgoI (w' := (zC ad k sv kE kR fb ft fs rws nx ct ch ln)) hw hA [1, 2] rfl (zV (As := []) (rest := []) ⟨hx, hb, hml, hown, hts⟩ (mX2_ending l G k (ad 1) (ad 2) H.size fb  u34 hq35) (cwV 0 hts gX4_account_X2_ending rfl rfl rfl kdX2_ending ⟨Nat.le_of_ble_eq_true rfl, Nat.le_of_ble_eq_true rfl⟩) hK hA hw [1, 2] rfl (by decide) 1 rfl rfl rfl rfl hl.1 rfl (Nat.le_of_ble_eq_true rfl) dX4_account_141 ⟨Nat.le_of_ble_eq_true rfl, Nat.le_of_ble_eq_true rfl⟩) rfl rfl rfl (fun H locs hw => ?_)
        obtain rfl := Option.some.inj hF
        refine W.widen (k := 1) (n := 6) (Nat.le_of_ble_eq_true rfl) (Nat.le_of_ble_eq_true rfl) ?_
        exact hret _ _ _ _ rfl rfl hw dX4_account_144
      have hF := zif_f hc33 hF
      by_cases hc36 : p0 = (9 : Int32)
      · have hF := zif_t hc36 hF
        refine lv_tableIn (tgt := 145) (off := 123) hx hb dX4_account_22 (by rw [hc36]; decide) (by rw [hc36]; decide) (by rw [hc36]; rfl) (by decide) ?_
        refine lv_aload_n hx hb dX4_account_145 rfl (lv_at hl 0 rfl) ?_
        refine va_get (D := G) (ci := 3) (v := .ref (ad 9)) (C := RX4) (T := TX4) (N := 8) hx hb hts inX4_account_X4 hown hK.1 hw.1 0 rfl rfl 4 (by decide) (hts (.fieldLink RX4 32 "SealedBoard" "input" "LSealedBoard$Input;") (by decide +kernel)) (fun _ h9 => h9) rfl dX4_account_146 ?_
        obtain ⟨u37, hq38, hF⟩ := zbd_t hF
        refine zgoI (w' := (zC ad k sv kE kR fb ft fs rws nx ct ch ln)) hw hA [9, 10] rfl (zV (As := []) (rest := []) ⟨hx, hb, hml, hown, hts⟩ (mX1_length l G k (ad 9) (ad 10) H.size ch ln  u37 hq38) (cwV 0 hts gX4_account_X1_length rfl rfl rfl kdX1_length ⟨Nat.le_of_ble_eq_true rfl, Nat.le_of_ble_eq_true rfl⟩) hK hA hw [9, 10] rfl (by decide) 9 rfl rfl rfl rfl hl.1 rfl (Nat.le_of_ble_eq_true rfl) dX4_account_149 ⟨Nat.le_of_ble_eq_true rfl, Nat.le_of_ble_eq_true rfl⟩) rfl rfl rfl (fun H locs hw => ?_)
        obtain rfl := Option.some.inj hF
        refine W.widen (k := 1) (n := 6) (Nat.le_of_ble_eq_true rfl) (Nat.le_of_ble_eq_true rfl) ?_
        exact hret _ _ _ _ rfl rfl hw dX4_account_152
      have hF := zif_f hc36 hF
      refine lv_tableOut (tgt := 153) hx hb dX4_account_22 (by
        have q0 : p0.toInt ≠ 0 := fun q => hc1 (Int32.toInt_inj.mp q)
        have q1 : p0.toInt ≠ 1 := fun q => hc6 (Int32.toInt_inj.mp q)
        have q2 : p0.toInt ≠ 2 := fun q => hc11 (Int32.toInt_inj.mp q)
        have q3 : p0.toInt ≠ 3 := fun q => hc16 (Int32.toInt_inj.mp q)
        have q4 : p0.toInt ≠ 4 := fun q => hc21 (Int32.toInt_inj.mp q)
        have q5 : p0.toInt ≠ 5 := fun q => hc24 (Int32.toInt_inj.mp q)
        have q6 : p0.toInt ≠ 6 := fun q => hc27 (Int32.toInt_inj.mp q)
        have q7 : p0.toInt ≠ 7 := fun q => hc30 (Int32.toInt_inj.mp q)
        have q8 : p0.toInt ≠ 8 := fun q => hc33 (Int32.toInt_inj.mp q)
        have q9 : p0.toInt ≠ 9 := fun q => hc36 (Int32.toInt_inj.mp q)
        omega) (by decide) ?_
      refine lv_aload_n hx hb dX4_account_153 rfl (lv_at hl 0 rfl) ?_
      refine va_get (D := G) (ci := 3) (v := .ref (ad 7)) (C := RX4) (T := TX4) (N := 8) hx hb hts inX4_account_X4 hown hK.1 hw.1 0 rfl rfl 3 (by decide) (hts (.fieldLink RX4 25 "SealedBoard" "history" "LSealedBoard$History;") (by decide +kernel)) (fun _ h9 => h9) rfl dX4_account_154 ?_
      obtain ⟨u39, hq40, hF⟩ := zbd_t hF
      refine zgoI (w' := (zC ad k sv kE kR fb ft fs rws nx ct ch ln)) hw hA [7, 8] rfl (zV (As := []) (rest := []) ⟨hx, hb, hml, hown, hts⟩ (mX0_count l G k (ad 7) (ad 8) H.size rws nx ct  u39 hq40) (cwV 0 hts gX4_account_X0_count rfl rfl rfl kdX0_count ⟨Nat.le_of_ble_eq_true rfl, Nat.le_of_ble_eq_true rfl⟩) hK hA hw [7, 8] rfl (by decide) 7 rfl rfl rfl rfl hl.1 rfl (Nat.le_of_ble_eq_true rfl) dX4_account_157 ⟨Nat.le_of_ble_eq_true rfl, Nat.le_of_ble_eq_true rfl⟩) rfl rfl rfl (fun H locs hw => ?_)
      obtain rfl := Option.some.inj hF
      refine W.widen (k := 1) (n := 6) (Nat.le_of_ble_eq_true rfl) (Nat.le_of_ble_eq_true rfl) ?_
      exact hret _ _ _ _ rfl rfl hw dX4_account_160
    · have hF := zif_f hc hF
      obtain rfl := Option.some.inj hF
      exact htho _ _ _ _ _ "java/lang/IllegalArgumentException" 70 268 74 _ _ "no such account" (show (2 : Nat) ≠ 0 by decide) rfl hw (hl.1.trans hml.symm) (by decide +kernel) (by decide +kernel) (hts (.classLink RX4 70 "java/lang/IllegalArgumentException") (by decide +kernel)) (hts (.initialized "java/lang/IllegalArgumentException") (by decide +kernel)) (vx_hat (B := zBad "java/lang/IllegalArgumentException") (fun w hw9 => hts w (naX4_account_2 w hw9)) (by decide +kernel) (zbad hK.2 (by decide))) (by decide +kernel) ⟨dX4_account_10, dX4_account_13, Or.inr ⟨dX4_account_14, dX4_account_17, dX4_account_20⟩⟩ (Nat.le_of_ble_eq_true rfl) (Nat.le_of_ble_eq_true rfl) (Nat.le_of_ble_eq_true rfl) (Nat.le_of_ble_eq_true rfl) (Nat.le_of_ble_eq_true rfl) (Nat.le_of_ble_eq_true rfl)

/-! SealedBoard.undo()I -/
abbrev rmX4_undo : Room := { frames := 6, cells := 1, slots := 6, locals := 82 }
theorem naX4_undo_5 : ∀ w ∈ (vx_atS RX4 169 "java/util/NoSuchElementException" zNm).filter goodWord, w ∈ wsX4_undo := by decide +kernel
theorem kdX4_undo : yX4_undo.cls = RX4 ∧ yX4_undo.cls ≠ "java/lang/invoke/MethodHandle" ∧ yX4_undo.cls ≠ "java/lang/invoke/VarHandle" ∧ (parseMethodDescriptor yX4_undo.desc).map (fun d => d.parameters.length) = some 0 := by decide +kernel
theorem inX4_undo_X4 : ∀ w ∈ u_ws RX4 TX4 8, w ∈ wsX4_undo := by decide +kernel
def fX4_undo (fb : Nat → Int64) (rws : Nat → Int64) (nx : Int32) (ct : Int32) : Option (Nat × Int32 × (Nat → Int64) × Int32 × Int32) := (zbd (fX0_count ct) (fun u1 => (if u1 = 0 then (some (5, (0 : Int32), fb, nx, ct)) else (zbd (fX0_bringBack rws nx ct fb) (fun u3 => (zbd (fX0_count u3.2.1) (fun u5 => (some (0, u5, u3.2.2, u3.1, u3.2.1)))))))))
set_option maxHeartbeats 400000 in
set_option maxRecDepth 100000 in
theorem mX4_undo (l : Launch) (hl9 : l.stackTraces = false) (G : va_G) (k : Nat → ClassId) (ad : Nat → Nat) (sz : Nat) (sv : Int32) (kE : Int32) (kR : Int32) (fb : Nat → Int64) (ft : Nat → Int64) (fs : Nat → Int64) (rws : Nat → Int64) (nx : Int32) (ct : Int32) (ch : Nat → Int32) (ln : Int32)  (o : Nat × Int32 × (Nat → Int64) × Int32 × Int32) (hF : fX4_undo fb rws nx ct = some o) : zXI l yX4_undo wsX4_undo rmX4_undo G k (zC ad k sv kE kR fb ft fs rws nx ct ch ln) sz [.ref (ad 0)] 1 6 o.1 o.2.1 (zC ad k sv kE kR o.2.2.1 ft fs rws o.2.2.2.1 o.2.2.2.2 ch ln) := by
  refine zof_XI hl9 (cc := cX4_undo) (nL := 1) (own := RX4) (rt := .int) (by decide) rfl rfl (Nat.le_of_ble_eq_true rfl) ?_
  intro p e s m args below meth c A Q C0 hK hA hret hthp htho ls hl hw
  have hl : lv_has ls 1 [(0, .ref (ad 0))] := hl
  obtain ⟨hx, hb, hr, hml, hown, hts, hlocks⟩ := id C0
  obtain ⟨H, hH⟩ : ∃ z, z = s.heap := ⟨_, rfl⟩
  rw [← hH] at hw ⊢
  unfold fX4_undo at hF
  refine lv_aload_n hx hb dX4_undo_0 rfl (lv_at hl 0 rfl) ?_
  refine va_get (D := G) (ci := 3) (v := .ref (ad 7)) (C := RX4) (T := TX4) (N := 8) hx hb hts inX4_undo_X4 hown hK.1 hw.1 0 rfl rfl 3 (by decide) (hts (.fieldLink RX4 25 "SealedBoard" "history" "LSealedBoard$History;") (by decide +kernel)) (fun _ h9 => h9) rfl dX4_undo_1 ?_
  obtain ⟨u1, hq2, hF⟩ := zbd_t hF
  refine zgoI (w' := (zC ad k sv kE kR fb ft fs rws nx ct ch ln)) hw hA [7, 8] rfl (zV (As := []) (rest := []) ⟨hx, hb, hml, hown, hts⟩ (mX0_count l G k (ad 7) (ad 8) H.size rws nx ct  u1 hq2) (cwV 0 hts gX4_undo_X0_count rfl rfl rfl kdX0_count ⟨Nat.le_of_ble_eq_true rfl, Nat.le_of_ble_eq_true rfl⟩) hK hA hw [7, 8] rfl (by decide) 7 rfl rfl rfl rfl hl.1 rfl (Nat.le_of_ble_eq_true rfl) dX4_undo_4 ⟨Nat.le_of_ble_eq_true rfl, Nat.le_of_ble_eq_true rfl⟩) rfl rfl rfl (fun H locs hw => ?_)
  refine lv_if_ne (tgt := 21) hx hb dX4_undo_7 (by decide) (fun hc => ?_) (fun hc => ?_)
  · have hF := zif_f hc hF
    refine lv_aload_n hx hb dX4_undo_21 rfl (lv_at hl 0 rfl) ?_
    refine va_get (D := G) (ci := 3) (v := .ref (ad 7)) (C := RX4) (T := TX4) (N := 8) hx hb hts inX4_undo_X4 hown hK.1 hw.1 0 rfl rfl 3 (by decide) (hts (.fieldLink RX4 25 "SealedBoard" "history" "LSealedBoard$History;") (by decide +kernel)) (fun _ h9 => h9) rfl dX4_undo_22 ?_
    refine lv_aload_n hx hb dX4_undo_25 rfl (lv_at hl 0 rfl) ?_
    refine va_get (D := G) (ci := 3) (v := .ref (ad 1)) (C := RX4) (T := TX4) (N := 8) hx hb hts inX4_undo_X4 hown hK.1 hw.1 0 rfl rfl 0 (by decide) (hts (.fieldLink RX4 10 "SealedBoard" "board" "LSealedBoard$Position;") (by decide +kernel)) (fun _ h9 => h9) rfl dX4_undo_26 ?_
    obtain ⟨u3, hq4, hF⟩ := zbd_t hF
    refine zgoV (w' := (zC ad k sv kE kR u3.2.2 ft fs rws u3.1 u3.2.1 ch ln)) hw hA [7, 8, 1, 2] rfl (zV (As := [.ref (ad 1)]) (rest := []) ⟨hx, hb, hml, hown, hts⟩ (mX0_bringBack l G k (ad 7) (ad 8) (ad 1) (ad 2) H.size rws nx ct fb  u3 hq4) (cwV 1 hts gX4_undo_X0_bringBack rfl rfl rfl kdX0_bringBack ⟨Nat.le_of_ble_eq_true rfl, Nat.le_of_ble_eq_true rfl⟩) hK hA hw [7, 8, 1, 2] rfl (by decide) 7 rfl rfl rfl rfl hl.1 rfl (Nat.le_of_ble_eq_true rfl) dX4_undo_29 ⟨Nat.le_of_ble_eq_true rfl, Nat.le_of_ble_eq_true rfl⟩) rfl rfl rfl (fun H locs hw => ?_)
    refine lv_aload_n hx hb dX4_undo_32 rfl (lv_at hl 0 rfl) ?_
    refine va_get (D := G) (ci := 3) (v := .ref (ad 7)) (C := RX4) (T := TX4) (N := 8) hx hb hts inX4_undo_X4 hown hK.1 hw.1 0 rfl rfl 3 (by decide) (hts (.fieldLink RX4 25 "SealedBoard" "history" "LSealedBoard$History;") (by decide +kernel)) (fun _ h9 => h9) rfl dX4_undo_33 ?_
    obtain ⟨u5, hq6, hF⟩ := zbd_t hF
    refine zgoI (w' := (zC ad k sv kE kR u3.2.2 ft fs rws u3.1 u3.2.1 ch ln)) hw hA [7, 8] rfl (zV (As := []) (rest := []) ⟨hx, hb, hml, hown, hts⟩ (mX0_count l G k (ad 7) (ad 8) H.size rws u3.1 u3.2.1  u5 hq6) (cwV 0 hts gX4_undo_X0_count rfl rfl rfl kdX0_count ⟨Nat.le_of_ble_eq_true rfl, Nat.le_of_ble_eq_true rfl⟩) hK hA hw [7, 8] rfl (by decide) 7 rfl rfl rfl rfl hl.1 rfl (Nat.le_of_ble_eq_true rfl) dX4_undo_36 ⟨Nat.le_of_ble_eq_true rfl, Nat.le_of_ble_eq_true rfl⟩) rfl rfl rfl (fun H locs hw => ?_)
    obtain rfl := Option.some.inj hF
    refine W.widen (k := 1) (n := 6) (Nat.le_of_ble_eq_true rfl) (Nat.le_of_ble_eq_true rfl) ?_
    exact hret _ _ _ _ rfl rfl hw dX4_undo_39
  · have hF := zif_t hc hF
    obtain rfl := Option.some.inj hF
    exact htho _ _ _ _ _ "java/util/NoSuchElementException" 165 279 169 _ _ "no change is remembered" (show (5 : Nat) ≠ 0 by decide) rfl hw (hl.1.trans hml.symm) (by decide +kernel) (by decide +kernel) (hts (.classLink RX4 165 "java/util/NoSuchElementException") (by decide +kernel)) (hts (.initialized "java/util/NoSuchElementException") (by decide +kernel)) (vx_hat (B := zBad "java/util/NoSuchElementException") (fun w hw9 => hts w (naX4_undo_5 w hw9)) (by decide +kernel) (zbad hK.2 (by decide))) (by decide +kernel) ⟨dX4_undo_10, dX4_undo_13, Or.inr ⟨dX4_undo_14, dX4_undo_17, dX4_undo_20⟩⟩ (Nat.le_of_ble_eq_true rfl) (Nat.le_of_ble_eq_true rfl) (Nat.le_of_ble_eq_true rfl) (Nat.le_of_ble_eq_true rfl) (Nat.le_of_ble_eq_true rfl) (Nat.le_of_ble_eq_true rfl)

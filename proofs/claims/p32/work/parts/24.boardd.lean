/-! SealedBoard.save()I -/
abbrev rmX4_save : Room := { frames := 2, cells := 0, slots := 0, locals := 42 }
theorem kdX4_save : yX4_save.cls = RX4 ∧ yX4_save.cls ≠ "java/lang/invoke/MethodHandle" ∧ yX4_save.cls ≠ "java/lang/invoke/VarHandle" ∧ (parseMethodDescriptor yX4_save.desc).map (fun d => d.parameters.length) = some 0 := by decide +kernel
theorem inX4_save_X4 : ∀ w ∈ u_ws RX4 TX4 8, w ∈ wsX4_save := by decide +kernel
def fX4_save (sv : Int32) (fb : Nat → Int64) (fs : Nat → Int64) : Option (Int32 × Int32 × (Nat → Int64)) := (zbd (fX2_copyFrom fs fb) (fun u1 => (zbd (fX2_allPieces u1) (fun u3 => (zbd (fX3_size u3) (fun u5 => (some (u5, (1 : Int32), u1))))))))
set_option maxHeartbeats 400000 in
set_option maxRecDepth 100000 in
theorem mX4_save (l : Launch) (G : va_G) (k : Nat → ClassId) (ad : Nat → Nat) (sz : Nat) (sv : Int32) (kE : Int32) (kR : Int32) (fb : Nat → Int64) (ft : Nat → Int64) (fs : Nat → Int64) (rws : Nat → Int64) (nx : Int32) (ct : Int32) (ch : Nat → Int32) (ln : Int32)  (o : Int32 × Int32 × (Nat → Int64)) (hF : fX4_save sv fb fs = some o) : zMI l yX4_save wsX4_save rmX4_save G k (zC ad k sv kE kR fb ft fs rws nx ct ch ln) sz [.ref (ad 0)] o.1 (zC ad k o.2.1 kE kR fb ft o.2.2 rws nx ct ch ln) := by
  refine zof_I (cc := cX4_save) (nL := 1) (own := RX4) (rt := .int) (by decide) rfl rfl (Nat.le_of_ble_eq_true rfl) ?_
  intro p e s m args below meth c A Q C0 hK hA hret ls hl hw
  have hl : lv_has ls 1 [(0, .ref (ad 0))] := hl
  obtain ⟨hx, hb, hr, hml, hown, hts, hlocks⟩ := id C0
  obtain ⟨H, hH⟩ : ∃ z, z = s.heap := ⟨_, rfl⟩
  rw [← hH] at hw ⊢
  unfold fX4_save at hF
  refine lv_aload_n hx hb dX4_save_0 rfl (lv_at hl 0 rfl) ?_
  refine va_get (D := G) (ci := 3) (v := .ref (ad 5)) (C := RX4) (T := TX4) (N := 8) hx hb hts inX4_save_X4 hown hK.1 hw.1 0 rfl rfl 2 (by decide) (hts (.fieldLink RX4 19 "SealedBoard" "saved" "LSealedBoard$Position;") (by decide +kernel)) (fun _ h9 => h9) rfl dX4_save_1 ?_
  refine lv_aload_n hx hb dX4_save_4 rfl (lv_at hl 0 rfl) ?_
  refine va_get (D := G) (ci := 3) (v := .ref (ad 1)) (C := RX4) (T := TX4) (N := 8) hx hb hts inX4_save_X4 hown hK.1 hw.1 0 rfl rfl 0 (by decide) (hts (.fieldLink RX4 10 "SealedBoard" "board" "LSealedBoard$Position;") (by decide +kernel)) (fun _ h9 => h9) rfl dX4_save_5 ?_
  obtain ⟨u1, hq2, hF⟩ := zbd_t hF
  refine zgoV (w' := (zC ad k sv kE kR fb ft u1 rws nx ct ch ln)) hw hA [5, 6, 1, 2] rfl (zV (As := [.ref (ad 1)]) (rest := []) ⟨hx, hb, hml, hown, hts⟩ (mX2_copyFrom l G k (ad 5) (ad 6) (ad 1) (ad 2) H.size fs fb  u1 hq2) (cwV 1 hts gX4_save_X2_copyFrom rfl rfl rfl kdX2_copyFrom ⟨Nat.le_of_ble_eq_true rfl, Nat.le_of_ble_eq_true rfl⟩) hK hA hw [5, 6, 1, 2] rfl (by decide) 5 rfl rfl rfl rfl hl.1 rfl (Nat.le_of_ble_eq_true rfl) dX4_save_8 ⟨Nat.le_of_ble_eq_true rfl, Nat.le_of_ble_eq_true rfl⟩) rfl rfl rfl (fun H locs hw => ?_)
  refine lv_aload_n hx hb dX4_save_11 rfl (lv_at hl 0 rfl) ?_
  refine lv_iconst (v := (1 : Int32)) hx hb dX4_save_12 (by decide) ?_
  refine va_put (D := G) (ci := 3) (v := .int (1 : Int32)) (ty := .boolean) (C := RX4) (T := TX4) (N := 8) hx hb hts inX4_save_X4 tyX4 tyX4_ok nmX4 hown hK.1 hw.1 hw.2.1 hw.2.2 0 rfl rfl 5 (by decide) (hts (.fieldLink RX4 284 "SealedBoard" "isSaved" "Z") (by decide +kernel)) (fun _ h9 => h9) rfl (by decide +kernel) rfl rfl (Nat.le_of_ble_eq_true rfl) dX4_save_13 (fun H locs hP hD hS => ?_)
  have hw : zWd G A s (zC ad k (1 : Int32) kE kR fb ft u1 rws nx ct ch ln) H locs := ⟨hP, hD, hS⟩
  refine lv_aload_n hx hb dX4_save_16 rfl (lv_at hl 0 rfl) ?_
  refine va_get (D := G) (ci := 3) (v := .ref (ad 5)) (C := RX4) (T := TX4) (N := 8) hx hb hts inX4_save_X4 hown hK.1 hw.1 0 rfl rfl 2 (by decide) (hts (.fieldLink RX4 19 "SealedBoard" "saved" "LSealedBoard$Position;") (by decide +kernel)) (fun _ h9 => h9) rfl dX4_save_17 ?_
  obtain ⟨u3, hq4, hF⟩ := zbd_t hF
  refine zgoL (w' := (zC ad k (1 : Int32) kE kR fb ft u1 rws nx ct ch ln)) hw hA [5, 6] rfl (zV (As := []) (rest := []) ⟨hx, hb, hml, hown, hts⟩ (mX2_allPieces l G k (ad 5) (ad 6) H.size u1  u3 hq4) (cwV 0 hts gX4_save_X2_allPieces rfl rfl rfl kdX2_allPieces ⟨Nat.le_of_ble_eq_true rfl, Nat.le_of_ble_eq_true rfl⟩) hK hA hw [5, 6] rfl (by decide) 5 rfl rfl rfl rfl hl.1 rfl (Nat.le_of_ble_eq_true rfl) dX4_save_20 ⟨Nat.le_of_ble_eq_true rfl, Nat.le_of_ble_eq_true rfl⟩) rfl rfl rfl (fun H locs hw => ?_)
  obtain ⟨u5, hq6, hF⟩ := zbd_t hF
  refine zgoI (w' := (zC ad k (1 : Int32) kE kR fb ft u1 rws nx ct ch ln)) hw hA [] rfl (zS (As := [.long u3]) (rest := []) ⟨hx, hb, hml, hown, hts⟩ (mX3_size l G k  H.size  u3 u5 hq6) (va_cwS 1 hts gX4_save_X3_size rfl rfl rfl kdX3_size ⟨Nat.le_of_ble_eq_true rfl, Nat.le_of_ble_eq_true rfl⟩) hK hA hw [] rfl (by decide) rfl hl.1 rfl (Nat.le_of_ble_eq_true rfl) dX4_save_23 ⟨Nat.le_of_ble_eq_true rfl, Nat.le_of_ble_eq_true rfl⟩) rfl rfl rfl (fun H locs hw => ?_)
  obtain rfl := Option.some.inj hF
  exact hret _ _ _ _ rfl hw dX4_save_26

/-! SealedBoard.restore()I -/
abbrev rmX4_restore : Room := { frames := 6, cells := 1, slots := 6, locals := 82 }
theorem naX4_restore_3 : ∀ w ∈ (vx_atS RX4 88 "java/lang/IllegalStateException" zNm).filter goodWord, w ∈ wsX4_restore := by decide +kernel
theorem kdX4_restore : yX4_restore.cls = RX4 ∧ yX4_restore.cls ≠ "java/lang/invoke/MethodHandle" ∧ yX4_restore.cls ≠ "java/lang/invoke/VarHandle" ∧ (parseMethodDescriptor yX4_restore.desc).map (fun d => d.parameters.length) = some 0 := by decide +kernel
theorem inX4_restore_X4 : ∀ w ∈ u_ws RX4 TX4 8, w ∈ wsX4_restore := by decide +kernel
def fX4_restore (sv : Int32) (fb : Nat → Int64) (fs : Nat → Int64) (ct : Int32) : Option (Nat × Int32 × (Nat → Int64) × Int32) := (if sv = 0 then (some (3, (0 : Int32), fb, ct)) else (zbd (fX2_copyFrom fb fs) (fun u1 => (zbd (fX0_forget ct) (fun u3 => (zbd (fX2_allPieces u1) (fun u5 => (zbd (fX3_size u5) (fun u7 => (some (0, u7, u1, u3)))))))))))
set_option maxHeartbeats 400000 in
set_option maxRecDepth 100000 in
theorem mX4_restore (l : Launch) (hl9 : l.stackTraces = false) (G : va_G) (k : Nat → ClassId) (ad : Nat → Nat) (sz : Nat) (sv : Int32) (kE : Int32) (kR : Int32) (fb : Nat → Int64) (ft : Nat → Int64) (fs : Nat → Int64) (rws : Nat → Int64) (nx : Int32) (ct : Int32) (ch : Nat → Int32) (ln : Int32)  (o : Nat × Int32 × (Nat → Int64) × Int32) (hF : fX4_restore sv fb fs ct = some o) : zXI l yX4_restore wsX4_restore rmX4_restore G k (zC ad k sv kE kR fb ft fs rws nx ct ch ln) sz [.ref (ad 0)] 1 6 o.1 o.2.1 (zC ad k sv kE kR o.2.2.1 ft fs rws nx o.2.2.2 ch ln) := by
  refine zof_XI hl9 (cc := cX4_restore) (nL := 1) (own := RX4) (rt := .int) (by decide) rfl rfl (Nat.le_of_ble_eq_true rfl) ?_
  intro p e s m args below meth c A Q C0 hK hA hret hthp htho ls hl hw
  have hl : lv_has ls 1 [(0, .ref (ad 0))] := hl
  obtain ⟨hx, hb, hr, hml, hown, hts, hlocks⟩ := id C0
  obtain ⟨H, hH⟩ : ∃ z, z = s.heap := ⟨_, rfl⟩
  rw [← hH] at hw ⊢
  unfold fX4_restore at hF
  refine lv_aload_n hx hb dX4_restore_0 rfl (lv_at hl 0 rfl) ?_
  refine va_get (D := G) (ci := 3) (v := .int sv) (C := RX4) (T := TX4) (N := 8) hx hb hts inX4_restore_X4 hown hK.1 hw.1 0 rfl rfl 5 (by decide) (hts (.fieldLink RX4 284 "SealedBoard" "isSaved" "Z") (by decide +kernel)) (fun _ h9 => h9) rfl dX4_restore_1 ?_
  refine lv_if_ne (tgt := 18) hx hb dX4_restore_4 (by decide) (fun hc => ?_) (fun hc => ?_)
  · have hF := zif_f hc hF
    refine lv_aload_n hx hb dX4_restore_18 rfl (lv_at hl 0 rfl) ?_
    refine va_get (D := G) (ci := 3) (v := .ref (ad 1)) (C := RX4) (T := TX4) (N := 8) hx hb hts inX4_restore_X4 hown hK.1 hw.1 0 rfl rfl 0 (by decide) (hts (.fieldLink RX4 10 "SealedBoard" "board" "LSealedBoard$Position;") (by decide +kernel)) (fun _ h9 => h9) rfl dX4_restore_19 ?_
    refine lv_aload_n hx hb dX4_restore_22 rfl (lv_at hl 0 rfl) ?_
    refine va_get (D := G) (ci := 3) (v := .ref (ad 5)) (C := RX4) (T := TX4) (N := 8) hx hb hts inX4_restore_X4 hown hK.1 hw.1 0 rfl rfl 2 (by decide) (hts (.fieldLink RX4 19 "SealedBoard" "saved" "LSealedBoard$Position;") (by decide +kernel)) (fun _ h9 => h9) rfl dX4_restore_23 ?_
    obtain ⟨u1, hq2, hF⟩ := zbd_t hF
    refine zgoV (w' := (zC ad k sv kE kR u1 ft fs rws nx ct ch ln)) hw hA [1, 2, 5, 6] rfl (zV (As := [.ref (ad 5)]) (rest := []) ⟨hx, hb, hml, hown, hts⟩ (mX2_copyFrom l G k (ad 1) (ad 2) (ad 5) (ad 6) H.size fb fs  u1 hq2) (cwV 1 hts gX4_restore_X2_copyFrom rfl rfl rfl kdX2_copyFrom ⟨Nat.le_of_ble_eq_true rfl, Nat.le_of_ble_eq_true rfl⟩) hK hA hw [1, 2, 5, 6] rfl (by decide) 1 rfl rfl rfl rfl hl.1 rfl (Nat.le_of_ble_eq_true rfl) dX4_restore_26 ⟨Nat.le_of_ble_eq_true rfl, Nat.le_of_ble_eq_true rfl⟩) rfl rfl rfl (fun H locs hw => ?_)
    refine lv_aload_n hx hb dX4_restore_29 rfl (lv_at hl 0 rfl) ?_
    refine va_get (D := G) (ci := 3) (v := .ref (ad 7)) (C := RX4) (T := TX4) (N := 8) hx hb hts inX4_restore_X4 hown hK.1 hw.1 0 rfl rfl 3 (by decide) (hts (.fieldLink RX4 25 "SealedBoard" "history" "LSealedBoard$History;") (by decide +kernel)) (fun _ h9 => h9) rfl dX4_restore_30 ?_
    obtain ⟨u3, hq4, hF⟩ := zbd_t hF
    refine zgoV (w' := (zC ad k sv kE kR u1 ft fs rws nx u3 ch ln)) hw hA [7, 8] rfl (zV (As := []) (rest := []) ⟨hx, hb, hml, hown, hts⟩ (mX0_forget l G k (ad 7) (ad 8) H.size rws nx ct  u3 hq4) (cwV 0 hts gX4_restore_X0_forget rfl rfl rfl kdX0_forget ⟨Nat.le_of_ble_eq_true rfl, Nat.le_of_ble_eq_true rfl⟩) hK hA hw [7, 8] rfl (by decide) 7 rfl rfl rfl rfl hl.1 rfl (Nat.le_of_ble_eq_true rfl) dX4_restore_33 ⟨Nat.le_of_ble_eq_true rfl, Nat.le_of_ble_eq_true rfl⟩) rfl rfl rfl (fun H locs hw => ?_)
    refine lv_aload_n hx hb dX4_restore_36 rfl (lv_at hl 0 rfl) ?_
    refine va_get (D := G) (ci := 3) (v := .ref (ad 1)) (C := RX4) (T := TX4) (N := 8) hx hb hts inX4_restore_X4 hown hK.1 hw.1 0 rfl rfl 0 (by decide) (hts (.fieldLink RX4 10 "SealedBoard" "board" "LSealedBoard$Position;") (by decide +kernel)) (fun _ h9 => h9) rfl dX4_restore_37 ?_
    obtain ⟨u5, hq6, hF⟩ := zbd_t hF
    refine zgoL (w' := (zC ad k sv kE kR u1 ft fs rws nx u3 ch ln)) hw hA [1, 2] rfl (zV (As := []) (rest := []) ⟨hx, hb, hml, hown, hts⟩ (mX2_allPieces l G k (ad 1) (ad 2) H.size u1  u5 hq6) (cwV 0 hts gX4_restore_X2_allPieces rfl rfl rfl kdX2_allPieces ⟨Nat.le_of_ble_eq_true rfl, Nat.le_of_ble_eq_true rfl⟩) hK hA hw [1, 2] rfl (by decide) 1 rfl rfl rfl rfl hl.1 rfl (Nat.le_of_ble_eq_true rfl) dX4_restore_40 ⟨Nat.le_of_ble_eq_true rfl, Nat.le_of_ble_eq_true rfl⟩) rfl rfl rfl (fun H locs hw => ?_)
    obtain ⟨u7, hq8, hF⟩ := zbd_t hF
    refine zgoI (w' := (zC ad k sv kE kR u1 ft fs rws nx u3 ch ln)) hw hA [] rfl (zS (As := [.long u5]) (rest := []) ⟨hx, hb, hml, hown, hts⟩ (mX3_size l G k  H.size  u5 u7 hq8) (va_cwS 1 hts gX4_restore_X3_size rfl rfl rfl kdX3_size ⟨Nat.le_of_ble_eq_true rfl, Nat.le_of_ble_eq_true rfl⟩) hK hA hw [] rfl (by decide) rfl hl.1 rfl (Nat.le_of_ble_eq_true rfl) dX4_restore_43 ⟨Nat.le_of_ble_eq_true rfl, Nat.le_of_ble_eq_true rfl⟩) rfl rfl rfl (fun H locs hw => ?_)
    obtain rfl := Option.some.inj hF
    refine W.widen (k := 1) (n := 6) (Nat.le_of_ble_eq_true rfl) (Nat.le_of_ble_eq_true rfl) ?_
    exact hret _ _ _ _ rfl rfl hw dX4_restore_46
  · have hF := zif_t hc hF
    obtain rfl := Option.some.inj hF
    exact htho _ _ _ _ _ "java/lang/IllegalStateException" 84 288 88 _ _ "nothing was saved" (show (3 : Nat) ≠ 0 by decide) rfl hw (hl.1.trans hml.symm) (by decide +kernel) (by decide +kernel) (hts (.classLink RX4 84 "java/lang/IllegalStateException") (by decide +kernel)) (hts (.initialized "java/lang/IllegalStateException") (by decide +kernel)) (vx_hat (B := zBad "java/lang/IllegalStateException") (fun w hw9 => hts w (naX4_restore_3 w hw9)) (by decide +kernel) (zbad hK.2 (by decide))) (by decide +kernel) ⟨dX4_restore_7, dX4_restore_10, Or.inr ⟨dX4_restore_11, dX4_restore_14, dX4_restore_17⟩⟩ (Nat.le_of_ble_eq_true rfl) (Nat.le_of_ble_eq_true rfl) (Nat.le_of_ble_eq_true rfl) (Nat.le_of_ble_eq_true rfl) (Nat.le_of_ble_eq_true rfl) (Nat.le_of_ble_eq_true rfl)

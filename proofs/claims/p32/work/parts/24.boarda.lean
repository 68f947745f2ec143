/-! SealedBoard.start()I -/
abbrev rmX4_start : Room := { frames := 3, cells := 0, slots := 0, locals := 69 }
theorem kdX4_start : yX4_start.cls = RX4 ∧ yX4_start.cls ≠ "java/lang/invoke/MethodHandle" ∧ yX4_start.cls ≠ "java/lang/invoke/VarHandle" ∧ (parseMethodDescriptor yX4_start.desc).map (fun d => d.parameters.length) = some 0 := by decide +kernel
theorem inX4_start_X4 : ∀ w ∈ u_ws RX4 TX4 8, w ∈ wsX4_start := by decide +kernel
def fX4_start (fb : Nat → Int64) (rws : Nat → Int64) (nx : Int32) (ct : Int32) : Option (Int32 × (Nat → Int64) × (Nat → Int64) × Int32 × Int32) := (zbd (fX0_remember rws nx ct fb) (fun u1 => (zbd (fX2_setUp fb) (fun u3 => (zbd (fX2_allPieces u3) (fun u5 => (zbd (fX3_size u5) (fun u7 => (some (u7, u3, u1.1, u1.2.1, u1.2.2))))))))))
set_option maxHeartbeats 400000 in
set_option maxRecDepth 100000 in
theorem mX4_start (l : Launch) (G : va_G) (k : Nat → ClassId) (ad : Nat → Nat) (sz : Nat) (sv : Int32) (kE : Int32) (kR : Int32) (fb : Nat → Int64) (ft : Nat → Int64) (fs : Nat → Int64) (rws : Nat → Int64) (nx : Int32) (ct : Int32) (ch : Nat → Int32) (ln : Int32)  (o : Int32 × (Nat → Int64) × (Nat → Int64) × Int32 × Int32) (hF : fX4_start fb rws nx ct = some o) : zMI l yX4_start wsX4_start rmX4_start G k (zC ad k sv kE kR fb ft fs rws nx ct ch ln) sz [.ref (ad 0)] o.1 (zC ad k sv kE kR o.2.1 ft fs o.2.2.1 o.2.2.2.1 o.2.2.2.2 ch ln) := by
  refine zof_I (cc := cX4_start) (nL := 1) (own := RX4) (rt := .int) (by decide) rfl rfl (Nat.le_of_ble_eq_true rfl) ?_
  intro p e s m args below meth c A Q C0 hK hA hret ls hl hw
  have hl : lv_has ls 1 [(0, .ref (ad 0))] := hl
  obtain ⟨hx, hb, hr, hml, hown, hts, hlocks⟩ := id C0
  obtain ⟨H, hH⟩ : ∃ z, z = s.heap := ⟨_, rfl⟩
  rw [← hH] at hw ⊢
  unfold fX4_start at hF
  refine lv_aload_n hx hb dX4_start_0 rfl (lv_at hl 0 rfl) ?_
  refine va_get (D := G) (ci := 3) (v := .ref (ad 7)) (C := RX4) (T := TX4) (N := 8) hx hb hts inX4_start_X4 hown hK.1 hw.1 0 rfl rfl 3 (by decide) (hts (.fieldLink RX4 25 "SealedBoard" "history" "LSealedBoard$History;") (by decide +kernel)) (fun _ h9 => h9) rfl dX4_start_1 ?_
  refine lv_aload_n hx hb dX4_start_4 rfl (lv_at hl 0 rfl) ?_
  refine va_get (D := G) (ci := 3) (v := .ref (ad 1)) (C := RX4) (T := TX4) (N := 8) hx hb hts inX4_start_X4 hown hK.1 hw.1 0 rfl rfl 0 (by decide) (hts (.fieldLink RX4 10 "SealedBoard" "board" "LSealedBoard$Position;") (by decide +kernel)) (fun _ h9 => h9) rfl dX4_start_5 ?_
  obtain ⟨u1, hq2, hF⟩ := zbd_t hF
  refine zgoV (w' := (zC ad k sv kE kR fb ft fs u1.1 u1.2.1 u1.2.2 ch ln)) hw hA [7, 8, 1, 2] rfl (zV (As := [.ref (ad 1)]) (rest := []) ⟨hx, hb, hml, hown, hts⟩ (mX0_remember l G k (ad 7) (ad 8) (ad 1) (ad 2) H.size rws nx ct fb  u1 hq2) (cwV 1 hts gX4_start_X0_remember rfl rfl rfl kdX0_remember ⟨Nat.le_of_ble_eq_true rfl, Nat.le_of_ble_eq_true rfl⟩) hK hA hw [7, 8, 1, 2] rfl (by decide) 7 rfl rfl rfl rfl hl.1 rfl (Nat.le_of_ble_eq_true rfl) dX4_start_8 ⟨Nat.le_of_ble_eq_true rfl, Nat.le_of_ble_eq_true rfl⟩) rfl rfl rfl (fun H locs hw => ?_)
  refine lv_aload_n hx hb dX4_start_11 rfl (lv_at hl 0 rfl) ?_
  refine va_get (D := G) (ci := 3) (v := .ref (ad 1)) (C := RX4) (T := TX4) (N := 8) hx hb hts inX4_start_X4 hown hK.1 hw.1 0 rfl rfl 0 (by decide) (hts (.fieldLink RX4 10 "SealedBoard" "board" "LSealedBoard$Position;") (by decide +kernel)) (fun _ h9 => h9) rfl dX4_start_12 ?_
  obtain ⟨u3, hq4, hF⟩ := zbd_t hF
  refine zgoV (w' := (zC ad k sv kE kR u3 ft fs u1.1 u1.2.1 u1.2.2 ch ln)) hw hA [1, 2] rfl (zV (As := []) (rest := []) ⟨hx, hb, hml, hown, hts⟩ (mX2_setUp l G k (ad 1) (ad 2) H.size fb  u3 hq4) (cwV 0 hts gX4_start_X2_setUp rfl rfl rfl kdX2_setUp ⟨Nat.le_of_ble_eq_true rfl, Nat.le_of_ble_eq_true rfl⟩) hK hA hw [1, 2] rfl (by decide) 1 rfl rfl rfl rfl hl.1 rfl (Nat.le_of_ble_eq_true rfl) dX4_start_15 ⟨Nat.le_of_ble_eq_true rfl, Nat.le_of_ble_eq_true rfl⟩) rfl rfl rfl (fun H locs hw => ?_)
  refine lv_aload_n hx hb dX4_start_18 rfl (lv_at hl 0 rfl) ?_
  refine va_get (D := G) (ci := 3) (v := .ref (ad 1)) (C := RX4) (T := TX4) (N := 8) hx hb hts inX4_start_X4 hown hK.1 hw.1 0 rfl rfl 0 (by decide) (hts (.fieldLink RX4 10 "SealedBoard" "board" "LSealedBoard$Position;") (by decide +kernel)) (fun _ h9 => h9) rfl dX4_start_19 ?_
  obtain ⟨u5, hq6, hF⟩ := zbd_t hF
  refine zgoL (w' := (zC ad k sv kE kR u3 ft fs u1.1 u1.2.1 u1.2.2 ch ln)) hw hA [1, 2] rfl (zV (As := []) (rest := []) ⟨hx, hb, hml, hown, hts⟩ (mX2_allPieces l G k (ad 1) (ad 2) H.size u3  u5 hq6) (cwV 0 hts gX4_start_X2_allPieces rfl rfl rfl kdX2_allPieces ⟨Nat.le_of_ble_eq_true rfl, Nat.le_of_ble_eq_true rfl⟩) hK hA hw [1, 2] rfl (by decide) 1 rfl rfl rfl rfl hl.1 rfl (Nat.le_of_ble_eq_true rfl) dX4_start_22 ⟨Nat.le_of_ble_eq_true rfl, Nat.le_of_ble_eq_true rfl⟩) rfl rfl rfl (fun H locs hw => ?_)
  obtain ⟨u7, hq8, hF⟩ := zbd_t hF
  refine zgoI (w' := (zC ad k sv kE kR u3 ft fs u1.1 u1.2.1 u1.2.2 ch ln)) hw hA [] rfl (zS (As := [.long u5]) (rest := []) ⟨hx, hb, hml, hown, hts⟩ (mX3_size l G k  H.size  u5 u7 hq8) (va_cwS 1 hts gX4_start_X3_size rfl rfl rfl kdX3_size ⟨Nat.le_of_ble_eq_true rfl, Nat.le_of_ble_eq_true rfl⟩) hK hA hw [] rfl (by decide) rfl hl.1 rfl (Nat.le_of_ble_eq_true rfl) dX4_start_25 ⟨Nat.le_of_ble_eq_true rfl, Nat.le_of_ble_eq_true rfl⟩) rfl rfl rfl (fun H locs hw => ?_)
  obtain rfl := Option.some.inj hF
  exact hret _ _ _ _ rfl hw dX4_start_28

/-! SealedBoard.clear()I -/
abbrev rmX4_clear : Room := { frames := 2, cells := 0, slots := 0, locals := 45 }
theorem kdX4_clear : yX4_clear.cls = RX4 ∧ yX4_clear.cls ≠ "java/lang/invoke/MethodHandle" ∧ yX4_clear.cls ≠ "java/lang/invoke/VarHandle" ∧ (parseMethodDescriptor yX4_clear.desc).map (fun d => d.parameters.length) = some 0 := by decide +kernel
theorem inX4_clear_X4 : ∀ w ∈ u_ws RX4 TX4 8, w ∈ wsX4_clear := by decide +kernel
def fX4_clear (fb : Nat → Int64) (rws : Nat → Int64) (nx : Int32) (ct : Int32) : Option (Int32 × (Nat → Int64) × (Nat → Int64) × Int32 × Int32) := (zbd (fX0_remember rws nx ct fb) (fun u1 => (zbd (fX2_allPieces fb) (fun u3 => (zbd (fX3_size u3) (fun u5 => (zbd (fX2_reset fb) (fun u7 => (some (u5, u7, u1.1, u1.2.1, u1.2.2))))))))))
set_option maxHeartbeats 400000 in
set_option maxRecDepth 100000 in
theorem mX4_clear (l : Launch) (G : va_G) (k : Nat → ClassId) (ad : Nat → Nat) (sz : Nat) (sv : Int32) (kE : Int32) (kR : Int32) (fb : Nat → Int64) (ft : Nat → Int64) (fs : Nat → Int64) (rws : Nat → Int64) (nx : Int32) (ct : Int32) (ch : Nat → Int32) (ln : Int32)  (o : Int32 × (Nat → Int64) × (Nat → Int64) × Int32 × Int32) (hF : fX4_clear fb rws nx ct = some o) : zMI l yX4_clear wsX4_clear rmX4_clear G k (zC ad k sv kE kR fb ft fs rws nx ct ch ln) sz [.ref (ad 0)] o.1 (zC ad k sv kE kR o.2.1 ft fs o.2.2.1 o.2.2.2.1 o.2.2.2.2 ch ln) := by
  refine zof_I (cc := cX4_clear) (nL := 2) (own := RX4) (rt := .int) (by decide) rfl rfl (Nat.le_of_ble_eq_true rfl) ?_
  intro p e s m args below meth c A Q C0 hK hA hret ls hl hw
  have hl : lv_has ls 2 [(0, .ref (ad 0))] := hl
  obtain ⟨hx, hb, hr, hml, hown, hts, hlocks⟩ := id C0
  obtain ⟨H, hH⟩ : ∃ z, z = s.heap := ⟨_, rfl⟩
  rw [← hH] at hw ⊢
  unfold fX4_clear at hF
  refine lv_aload_n hx hb dX4_clear_0 rfl (lv_at hl 0 rfl) ?_
  refine va_get (D := G) (ci := 3) (v := .ref (ad 7)) (C := RX4) (T := TX4) (N := 8) hx hb hts inX4_clear_X4 hown hK.1 hw.1 0 rfl rfl 3 (by decide) (hts (.fieldLink RX4 25 "SealedBoard" "history" "LSealedBoard$History;") (by decide +kernel)) (fun _ h9 => h9) rfl dX4_clear_1 ?_
  refine lv_aload_n hx hb dX4_clear_4 rfl (lv_at hl 0 rfl) ?_
  refine va_get (D := G) (ci := 3) (v := .ref (ad 1)) (C := RX4) (T := TX4) (N := 8) hx hb hts inX4_clear_X4 hown hK.1 hw.1 0 rfl rfl 0 (by decide) (hts (.fieldLink RX4 10 "SealedBoard" "board" "LSealedBoard$Position;") (by decide +kernel)) (fun _ h9 => h9) rfl dX4_clear_5 ?_
  obtain ⟨u1, hq2, hF⟩ := zbd_t hF
  refine zgoV (w' := (zC ad k sv kE kR fb ft fs u1.1 u1.2.1 u1.2.2 ch ln)) hw hA [7, 8, 1, 2] rfl (zV (As := [.ref (ad 1)]) (rest := []) ⟨hx, hb, hml, hown, hts⟩ (mX0_remember l G k (ad 7) (ad 8) (ad 1) (ad 2) H.size rws nx ct fb  u1 hq2) (cwV 1 hts gX4_clear_X0_remember rfl rfl rfl kdX0_remember ⟨Nat.le_of_ble_eq_true rfl, Nat.le_of_ble_eq_true rfl⟩) hK hA hw [7, 8, 1, 2] rfl (by decide) 7 rfl rfl rfl rfl hl.1 rfl (Nat.le_of_ble_eq_true rfl) dX4_clear_8 ⟨Nat.le_of_ble_eq_true rfl, Nat.le_of_ble_eq_true rfl⟩) rfl rfl rfl (fun H locs hw => ?_)
  refine lv_aload_n hx hb dX4_clear_11 rfl (lv_at hl 0 rfl) ?_
  refine va_get (D := G) (ci := 3) (v := .ref (ad 1)) (C := RX4) (T := TX4) (N := 8) hx hb hts inX4_clear_X4 hown hK.1 hw.1 0 rfl rfl 0 (by decide) (hts (.fieldLink RX4 10 "SealedBoard" "board" "LSealedBoard$Position;") (by decide +kernel)) (fun _ h9 => h9) rfl dX4_clear_12 ?_
  obtain ⟨u3, hq4, hF⟩ := zbd_t hF
  refine zgoL (w' := (zC ad k sv kE kR fb ft fs u1.1 u1.2.1 u1.2.2 ch ln)) hw hA [1, 2] rfl (zV (As := []) (rest := []) ⟨hx, hb, hml, hown, hts⟩ (mX2_allPieces l G k (ad 1) (ad 2) H.size fb  u3 hq4) (cwV 0 hts gX4_clear_X2_allPieces rfl rfl rfl kdX2_allPieces ⟨Nat.le_of_ble_eq_true rfl, Nat.le_of_ble_eq_true rfl⟩) hK hA hw [1, 2] rfl (by decide) 1 rfl rfl rfl rfl hl.1 rfl (Nat.le_of_ble_eq_true rfl) dX4_clear_15 ⟨Nat.le_of_ble_eq_true rfl, Nat.le_of_ble_eq_true rfl⟩) rfl rfl rfl (fun H locs hw => ?_)
  obtain ⟨u5, hq6, hF⟩ := zbd_t hF
  refine zgoI (w' := (zC ad k sv kE kR fb ft fs u1.1 u1.2.1 u1.2.2 ch ln)) hw hA [] rfl (zS (As := [.long u3]) (rest := []) ⟨hx, hb, hml, hown, hts⟩ (mX3_size l G k  H.size  u3 u5 hq6) (va_cwS 1 hts gX4_clear_X3_size rfl rfl rfl kdX3_size ⟨Nat.le_of_ble_eq_true rfl, Nat.le_of_ble_eq_true rfl⟩) hK hA hw [] rfl (by decide) rfl hl.1 rfl (Nat.le_of_ble_eq_true rfl) dX4_clear_18 ⟨Nat.le_of_ble_eq_true rfl, Nat.le_of_ble_eq_true rfl⟩) rfl rfl rfl (fun H locs hw => ?_)
  refine lv_istore_n (lv' := [(1, .int u5), (0, .ref (ad 0))]) hx hb dX4_clear_21 rfl hl (by decide) rfl (fun ls hl => ?_)
  refine lv_aload_n hx hb dX4_clear_22 rfl (lv_at hl 1 rfl) ?_
  refine va_get (D := G) (ci := 3) (v := .ref (ad 1)) (C := RX4) (T := TX4) (N := 8) hx hb hts inX4_clear_X4 hown hK.1 hw.1 0 rfl rfl 0 (by decide) (hts (.fieldLink RX4 10 "SealedBoard" "board" "LSealedBoard$Position;") (by decide +kernel)) (fun _ h9 => h9) rfl dX4_clear_23 ?_
  obtain ⟨u7, hq8, hF⟩ := zbd_t hF
  refine zgoV (w' := (zC ad k sv kE kR u7 ft fs u1.1 u1.2.1 u1.2.2 ch ln)) hw hA [1, 2] rfl (zV (As := []) (rest := []) ⟨hx, hb, hml, hown, hts⟩ (mX2_reset l G k (ad 1) (ad 2) H.size fb  u7 hq8) (cwV 0 hts gX4_clear_X2_reset rfl rfl rfl kdX2_reset ⟨Nat.le_of_ble_eq_true rfl, Nat.le_of_ble_eq_true rfl⟩) hK hA hw [1, 2] rfl (by decide) 1 rfl rfl rfl rfl hl.1 rfl (Nat.le_of_ble_eq_true rfl) dX4_clear_26 ⟨Nat.le_of_ble_eq_true rfl, Nat.le_of_ble_eq_true rfl⟩) rfl rfl rfl (fun H locs hw => ?_)
  refine lv_iload_n hx hb dX4_clear_29 rfl (lv_at hl 0 rfl) ?_
  obtain rfl := Option.some.inj hF
  exact hret _ _ _ _ rfl hw dX4_clear_30

/-! SealedBoard.requireFreeForLaying(I)V -/
abbrev rmX4_requireFreeForLaying : Room := { frames := 6, cells := 1, slots := 6, locals := 82 }
theorem naX4_requireFreeForLaying_3 : ∀ w ∈ (vx_atS RX4 88 "java/lang/IllegalStateException" zNm).filter goodWord, w ∈ wsX4_requireFreeForLaying := by decide +kernel
theorem kdX4_requireFreeForLaying : yX4_requireFreeForLaying.cls = RX4 ∧ yX4_requireFreeForLaying.cls ≠ "java/lang/invoke/MethodHandle" ∧ yX4_requireFreeForLaying.cls ≠ "java/lang/invoke/VarHandle" ∧ (parseMethodDescriptor yX4_requireFreeForLaying.desc).map (fun d => d.parameters.length) = some 1 := by decide +kernel
theorem inX4_requireFreeForLaying_X4 : ∀ w ∈ u_ws RX4 TX4 8, w ∈ wsX4_requireFreeForLaying := by decide +kernel
def fX4_requireFreeForLaying (fb : Nat → Int64) (p0 : Int32) : Option (Nat) := (zbd (fX2_turns fb) (fun u1 => (if u1 ≤ 0 then (zbd (fX2_whatOn fb p0) (fun u3 => (if u3 = 0 then (some (0)) else (some 3)))) else (some 3))))
set_option maxHeartbeats 400000 in
set_option maxRecDepth 100000 in
theorem mX4_requireFreeForLaying (l : Launch) (hl9 : l.stackTraces = false) (G : va_G) (k : Nat → ClassId) (ad : Nat → Nat) (sz : Nat) (sv : Int32) (kE : Int32) (kR : Int32) (fb : Nat → Int64) (ft : Nat → Int64) (fs : Nat → Int64) (rws : Nat → Int64) (nx : Int32) (ct : Int32) (ch : Nat → Int32) (ln : Int32) (p0 : Int32) (o : Nat) (hF : fX4_requireFreeForLaying fb p0 = some o) : zXV l yX4_requireFreeForLaying wsX4_requireFreeForLaying rmX4_requireFreeForLaying G k (zC ad k sv kE kR fb ft fs rws nx ct ch ln) sz [.ref (ad 0), .int p0] 1 6 o (zC ad k sv kE kR fb ft fs rws nx ct ch ln) := by
  refine zof_XV hl9 (cc := cX4_requireFreeForLaying) (nL := 2) (own := RX4) (by decide) rfl rfl (Nat.le_of_ble_eq_true rfl) ?_
  intro p e s m args below meth c A Q C0 hK hA hret hthp htho ls hl hw
  have hl : lv_has ls 2 [(0, .ref (ad 0)), (1, .int p0)] := hl
  obtain ⟨hx, hb, hr, hml, hown, hts, hlocks⟩ := id C0
  obtain ⟨H, hH⟩ : ∃ z, z = s.heap := ⟨_, rfl⟩
  rw [← hH] at hw ⊢
  unfold fX4_requireFreeForLaying at hF
  refine lv_aload_n hx hb dX4_requireFreeForLaying_0 rfl (lv_at hl 0 rfl) ?_
  refine va_get (D := G) (ci := 3) (v := .ref (ad 1)) (C := RX4) (T := TX4) (N := 8) hx hb hts inX4_requireFreeForLaying_X4 hown hK.1 hw.1 0 rfl rfl 0 (by decide) (hts (.fieldLink RX4 10 "SealedBoard" "board" "LSealedBoard$Position;") (by decide +kernel)) (fun _ h9 => h9) rfl dX4_requireFreeForLaying_1 ?_
  obtain ⟨u1, hq2, hF⟩ := zbd_t hF
  refine zgoI (w' := (zC ad k sv kE kR fb ft fs rws nx ct ch ln)) hw hA [1, 2] rfl (zV (As := []) (rest := []) ⟨hx, hb, hml, hown, hts⟩ (mX2_turns l G k (ad 1) (ad 2) H.size fb  u1 hq2) (cwV 0 hts gX4_requireFreeForLaying_X2_turns rfl rfl rfl kdX2_turns ⟨Nat.le_of_ble_eq_true rfl, Nat.le_of_ble_eq_true rfl⟩) hK hA hw [1, 2] rfl (by decide) 1 rfl rfl rfl rfl hl.1 rfl (Nat.le_of_ble_eq_true rfl) dX4_requireFreeForLaying_4 ⟨Nat.le_of_ble_eq_true rfl, Nat.le_of_ble_eq_true rfl⟩) rfl rfl rfl (fun H locs hw => ?_)
  refine lv_if_le (tgt := 21) hx hb dX4_requireFreeForLaying_7 (by decide) (fun hc => ?_) (fun hc => ?_)
  · have hF := zif_t hc hF
    refine lv_aload_n hx hb dX4_requireFreeForLaying_21 rfl (lv_at hl 0 rfl) ?_
    refine va_get (D := G) (ci := 3) (v := .ref (ad 1)) (C := RX4) (T := TX4) (N := 8) hx hb hts inX4_requireFreeForLaying_X4 hown hK.1 hw.1 0 rfl rfl 0 (by decide) (hts (.fieldLink RX4 10 "SealedBoard" "board" "LSealedBoard$Position;") (by decide +kernel)) (fun _ h9 => h9) rfl dX4_requireFreeForLaying_22 ?_
    refine lv_iload_n hx hb dX4_requireFreeForLaying_25 rfl (lv_at hl 1 rfl) ?_
    obtain ⟨u3, hq4, hF⟩ := zbd_t hF
    refine zgoI (w' := (zC ad k sv kE kR fb ft fs rws nx ct ch ln)) hw hA [1, 2] rfl (zV (As := [.int p0]) (rest := []) ⟨hx, hb, hml, hown, hts⟩ (mX2_whatOn l G k (ad 1) (ad 2) H.size fb p0 u3 hq4) (cwV 1 hts gX4_requireFreeForLaying_X2_whatOn rfl rfl rfl kdX2_whatOn ⟨Nat.le_of_ble_eq_true rfl, Nat.le_of_ble_eq_true rfl⟩) hK hA hw [1, 2] rfl (by decide) 1 rfl rfl rfl rfl hl.1 rfl (Nat.le_of_ble_eq_true rfl) dX4_requireFreeForLaying_26 ⟨Nat.le_of_ble_eq_true rfl, Nat.le_of_ble_eq_true rfl⟩) rfl rfl rfl (fun H locs hw => ?_)
    refine lv_if_eq (tgt := 43) hx hb dX4_requireFreeForLaying_29 (by decide) (fun hc => ?_) (fun hc => ?_)
    · have hF := zif_t hc hF
      obtain rfl := Option.some.inj hF
      refine W.widen (k := 1) (n := 6) (Nat.le_of_ble_eq_true rfl) (Nat.le_of_ble_eq_true rfl) ?_
      exact hret _ _ _ _ rfl  hw dX4_requireFreeForLaying_43
    · have hF := zif_f hc hF
      obtain rfl := Option.some.inj hF
      exact htho _ _ _ _ _ "java/lang/IllegalStateException" 84 299 88 _ _ "something is on the square" (show (3 : Nat) ≠ 0 by decide) rfl hw (hl.1.trans hml.symm) (by decide +kernel) (by decide +kernel) (hts (.classLink RX4 84 "java/lang/IllegalStateException") (by decide +kernel)) (hts (.initialized "java/lang/IllegalStateException") (by decide +kernel)) (vx_hat (B := zBad "java/lang/IllegalStateException") (fun w hw9 => hts w (naX4_requireFreeForLaying_3 w hw9)) (by decide +kernel) (zbad hK.2 (by decide))) (by decide +kernel) ⟨dX4_requireFreeForLaying_32, dX4_requireFreeForLaying_35, Or.inr ⟨dX4_requireFreeForLaying_36, dX4_requireFreeForLaying_39, dX4_requireFreeForLaying_42⟩⟩ (Nat.le_of_ble_eq_true rfl) (Nat.le_of_ble_eq_true rfl) (Nat.le_of_ble_eq_true rfl) (Nat.le_of_ble_eq_true rfl) (Nat.le_of_ble_eq_true rfl) (Nat.le_of_ble_eq_true rfl)
  · have hF := zif_f hc hF
    obtain rfl := Option.some.inj hF
    exact htho _ _ _ _ _ "java/lang/IllegalStateException" 84 297 88 _ _ "a turn was taken" (show (3 : Nat) ≠ 0 by decide) rfl hw (hl.1.trans hml.symm) (by decide +kernel) (by decide +kernel) (hts (.classLink RX4 84 "java/lang/IllegalStateException") (by decide +kernel)) (hts (.initialized "java/lang/IllegalStateException") (by decide +kernel)) (vx_hat (B := zBad "java/lang/IllegalStateException") (fun w hw9 => hts w (naX4_requireFreeForLaying_3 w hw9)) (by decide +kernel) (zbad hK.2 (by decide))) (by decide +kernel) ⟨dX4_requireFreeForLaying_10, dX4_requireFreeForLaying_13, Or.inr ⟨dX4_requireFreeForLaying_14, dX4_requireFreeForLaying_17, dX4_requireFreeForLaying_20⟩⟩ (Nat.le_of_ble_eq_true rfl) (Nat.le_of_ble_eq_true rfl) (Nat.le_of_ble_eq_true rfl) (Nat.le_of_ble_eq_true rfl) (Nat.le_of_ble_eq_true rfl) (Nat.le_of_ble_eq_true rfl)

/-! SealedBoard.requireSide(I)V -/
abbrev rmX4_requireSide : Room := { frames := 6, cells := 1, slots := 6, locals := 82 }
theorem naX4_requireSide_1 : ∀ w ∈ (vx_atS RX4 200 "java/lang/IndexOutOfBoundsException" zNm).filter goodWord, w ∈ wsX4_requireSide := by decide +kernel
theorem kdX4_requireSide : yX4_requireSide.cls ≠ "java/lang/invoke/MethodHandle" ∧ yX4_requireSide.cls ≠ "java/lang/invoke/VarHandle" ∧ (parseMethodDescriptor yX4_requireSide.desc).map (fun d => d.parameters.length) = some 1 := by decide +kernel
def fX4_requireSide (p0 : Int32) : Option (Nat) := (if p0 < 0 then (some 1) else (if p0 < (2 : Int32) then (some (0)) else (some 1)))
set_option maxHeartbeats 400000 in
set_option maxRecDepth 100000 in
theorem mX4_requireSide (l : Launch) (hl9 : l.stackTraces = false) (G : va_G) (k : Nat → ClassId)  (sz : Nat)  (p0 : Int32) (o : Nat) (hF : fX4_requireSide p0 = some o) : zXV l yX4_requireSide wsX4_requireSide rmX4_requireSide G k (zE0 k) sz [.int p0] 1 6 o (zE0 k) := by
  refine zof_XV hl9 (cc := cX4_requireSide) (nL := 1) (own := RX4) (by decide) rfl rfl (Nat.le_of_ble_eq_true rfl) ?_
  intro p e s m args below meth c A Q C0 hK hA hret hthp htho ls hl hw
  have hl : lv_has ls 1 [(0, .int p0)] := hl
  obtain ⟨hx, hb, hr, hml, hown, hts, hlocks⟩ := id C0
  obtain ⟨H, hH⟩ : ∃ z, z = s.heap := ⟨_, rfl⟩
  rw [← hH] at hw ⊢
  unfold fX4_requireSide at hF
  refine lv_iload_n hx hb dX4_requireSide_0 rfl (lv_at hl 0 rfl) ?_
  refine lv_if_lt (tgt := 9) hx hb dX4_requireSide_1 (by decide) (fun hc => ?_) (fun hc => ?_)
  · have hF := zif_t hc hF
    obtain rfl := Option.some.inj hF
    exact htho _ _ _ _ _ "java/lang/IndexOutOfBoundsException" 196 293 200 _ _ "no such side" (show (1 : Nat) ≠ 0 by decide) rfl hw (hl.1.trans hml.symm) (by decide +kernel) (by decide +kernel) (hts (.classLink RX4 196 "java/lang/IndexOutOfBoundsException") (by decide +kernel)) (hts (.initialized "java/lang/IndexOutOfBoundsException") (by decide +kernel)) (vx_hat (B := zBad "java/lang/IndexOutOfBoundsException") (fun w hw9 => hts w (naX4_requireSide_1 w hw9)) (by decide +kernel) (zbad hK.2 (by decide))) (by decide +kernel) ⟨dX4_requireSide_9, dX4_requireSide_12, Or.inr ⟨dX4_requireSide_13, dX4_requireSide_16, dX4_requireSide_19⟩⟩ (Nat.le_of_ble_eq_true rfl) (Nat.le_of_ble_eq_true rfl) (Nat.le_of_ble_eq_true rfl) (Nat.le_of_ble_eq_true rfl) (Nat.le_of_ble_eq_true rfl) (Nat.le_of_ble_eq_true rfl)
  · have hF := zif_f hc hF
    refine lv_iload_n hx hb dX4_requireSide_4 rfl (lv_at hl 0 rfl) ?_
    refine lv_iconst (v := (2 : Int32)) hx hb dX4_requireSide_5 (by decide) ?_
    refine lv_icmp_lt (tgt := 20) hx hb dX4_requireSide_6 (by decide) (fun hc => ?_) (fun hc => ?_)
    · have hF := zif_t hc hF
      obtain rfl := Option.some.inj hF
      refine W.widen (k := 1) (n := 6) (Nat.le_of_ble_eq_true rfl) (Nat.le_of_ble_eq_true rfl) ?_
      exact hret _ _ _ _ rfl  hw dX4_requireSide_20
    · have hF := zif_f hc hF
      obtain rfl := Option.some.inj hF
      exact htho _ _ _ _ _ "java/lang/IndexOutOfBoundsException" 196 293 200 _ _ "no such side" (show (1 : Nat) ≠ 0 by decide) rfl hw (hl.1.trans hml.symm) (by decide +kernel) (by decide +kernel) (hts (.classLink RX4 196 "java/lang/IndexOutOfBoundsException") (by decide +kernel)) (hts (.initialized "java/lang/IndexOutOfBoundsException") (by decide +kernel)) (vx_hat (B := zBad "java/lang/IndexOutOfBoundsException") (fun w hw9 => hts w (naX4_requireSide_1 w hw9)) (by decide +kernel) (zbad hK.2 (by decide))) (by decide +kernel) ⟨dX4_requireSide_9, dX4_requireSide_12, Or.inr ⟨dX4_requireSide_13, dX4_requireSide_16, dX4_requireSide_19⟩⟩ (Nat.le_of_ble_eq_true rfl) (Nat.le_of_ble_eq_true rfl) (Nat.le_of_ble_eq_true rfl) (Nat.le_of_ble_eq_true rfl) (Nat.le_of_ble_eq_true rfl) (Nat.le_of_ble_eq_true rfl)

/-! SealedBoard.requireSquare(I)V -/
abbrev rmX4_requireSquare : Room := { frames := 6, cells := 1, slots := 6, locals := 82 }
theorem naX4_requireSquare_1 : ∀ w ∈ (vx_atS RX4 200 "java/lang/IndexOutOfBoundsException" zNm).filter goodWord, w ∈ wsX4_requireSquare := by decide +kernel
theorem kdX4_requireSquare : yX4_requireSquare.cls ≠ "java/lang/invoke/MethodHandle" ∧ yX4_requireSquare.cls ≠ "java/lang/invoke/VarHandle" ∧ (parseMethodDescriptor yX4_requireSquare.desc).map (fun d => d.parameters.length) = some 1 := by decide +kernel
def fX4_requireSquare (p0 : Int32) : Option (Nat) := (if p0 < 0 then (some 1) else (if p0 < (36 : Int32) then (some (0)) else (some 1)))
set_option maxHeartbeats 400000 in
set_option maxRecDepth 100000 in
theorem mX4_requireSquare (l : Launch) (hl9 : l.stackTraces = false) (G : va_G) (k : Nat → ClassId)  (sz : Nat)  (p0 : Int32) (o : Nat) (hF : fX4_requireSquare p0 = some o) : zXV l yX4_requireSquare wsX4_requireSquare rmX4_requireSquare G k (zE0 k) sz [.int p0] 1 6 o (zE0 k) := by
  refine zof_XV hl9 (cc := cX4_requireSquare) (nL := 1) (own := RX4) (by decide) rfl rfl (Nat.le_of_ble_eq_true rfl) ?_
  intro p e s m args below meth c A Q C0 hK hA hret hthp htho ls hl hw
  have hl : lv_has ls 1 [(0, .int p0)] := hl
  obtain ⟨hx, hb, hr, hml, hown, hts, hlocks⟩ := id C0
  obtain ⟨H, hH⟩ : ∃ z, z = s.heap := ⟨_, rfl⟩
  rw [← hH] at hw ⊢
  unfold fX4_requireSquare at hF
  refine lv_iload_n hx hb dX4_requireSquare_0 rfl (lv_at hl 0 rfl) ?_
  refine lv_if_lt (tgt := 10) hx hb dX4_requireSquare_1 (by decide) (fun hc => ?_) (fun hc => ?_)
  · have hF := zif_t hc hF
    obtain rfl := Option.some.inj hF
    exact htho _ _ _ _ _ "java/lang/IndexOutOfBoundsException" 196 295 200 _ _ "no such square" (show (1 : Nat) ≠ 0 by decide) rfl hw (hl.1.trans hml.symm) (by decide +kernel) (by decide +kernel) (hts (.classLink RX4 196 "java/lang/IndexOutOfBoundsException") (by decide +kernel)) (hts (.initialized "java/lang/IndexOutOfBoundsException") (by decide +kernel)) (vx_hat (B := zBad "java/lang/IndexOutOfBoundsException") (fun w hw9 => hts w (naX4_requireSquare_1 w hw9)) (by decide +kernel) (zbad hK.2 (by decide))) (by decide +kernel) ⟨dX4_requireSquare_10, dX4_requireSquare_13, Or.inr ⟨dX4_requireSquare_14, dX4_requireSquare_17, dX4_requireSquare_20⟩⟩ (Nat.le_of_ble_eq_true rfl) (Nat.le_of_ble_eq_true rfl) (Nat.le_of_ble_eq_true rfl) (Nat.le_of_ble_eq_true rfl) (Nat.le_of_ble_eq_true rfl) (Nat.le_of_ble_eq_true rfl)
  · have hF := zif_f hc hF
    refine lv_iload_n hx hb dX4_requireSquare_4 rfl (lv_at hl 0 rfl) ?_
    refine lv_bipush (v := (36 : Int32)) hx hb dX4_requireSquare_5 (by decide) ?_
    refine lv_icmp_lt (tgt := 21) hx hb dX4_requireSquare_7 (by decide) (fun hc => ?_) (fun hc => ?_)
    · have hF := zif_t hc hF
      obtain rfl := Option.some.inj hF
      refine W.widen (k := 1) (n := 6) (Nat.le_of_ble_eq_true rfl) (Nat.le_of_ble_eq_true rfl) ?_
      exact hret _ _ _ _ rfl  hw dX4_requireSquare_21
    · have hF := zif_f hc hF
      obtain rfl := Option.some.inj hF
      exact htho _ _ _ _ _ "java/lang/IndexOutOfBoundsException" 196 295 200 _ _ "no such square" (show (1 : Nat) ≠ 0 by decide) rfl hw (hl.1.trans hml.symm) (by decide +kernel) (by decide +kernel) (hts (.classLink RX4 196 "java/lang/IndexOutOfBoundsException") (by decide +kernel)) (hts (.initialized "java/lang/IndexOutOfBoundsException") (by decide +kernel)) (vx_hat (B := zBad "java/lang/IndexOutOfBoundsException") (fun w hw9 => hts w (naX4_requireSquare_1 w hw9)) (by decide +kernel) (zbad hK.2 (by decide))) (by decide +kernel) ⟨dX4_requireSquare_10, dX4_requireSquare_13, Or.inr ⟨dX4_requireSquare_14, dX4_requireSquare_17, dX4_requireSquare_20⟩⟩ (Nat.le_of_ble_eq_true rfl) (Nat.le_of_ble_eq_true rfl) (Nat.le_of_ble_eq_true rfl) (Nat.le_of_ble_eq_true rfl) (Nat.le_of_ble_eq_true rfl) (Nat.le_of_ble_eq_true rfl)

/-! SealedBoard.lay(III)I -/
abbrev rmX4_lay : Room := { frames := 7, cells := 4, slots := 24, locals := 103 }
theorem naX4_lay_2 : ∀ w ∈ (vx_atS RX4 74 "java/lang/IllegalArgumentException" zNm).filter goodWord, w ∈ wsX4_lay := by decide +kernel
theorem naX4_lay_3 : ∀ w ∈ (vx_atS RX4 88 "java/lang/IllegalStateException" zNm).filter goodWord, w ∈ wsX4_lay := by decide +kernel
theorem kdX4_lay : yX4_lay.cls = RX4 ∧ yX4_lay.cls ≠ "java/lang/invoke/MethodHandle" ∧ yX4_lay.cls ≠ "java/lang/invoke/VarHandle" ∧ (parseMethodDescriptor yX4_lay.desc).map (fun d => d.parameters.length) = some 3 := by decide +kernel
theorem inX4_lay_X4 : ∀ w ∈ u_ws RX4 TX4 8, w ∈ wsX4_lay := by decide +kernel
def fX4_lay_59   (fb : Nat → Int64) (rws : Nat → Int64) (nx : Int32) (ct : Int32) (x1 : Int32) (x2 : Int32) (x3 : Int32) : Option (Nat × Int32 × (Nat → Int64) × (Nat → Int64) × Int32 × Int32) := (zbd (fX0_remember rws nx ct fb) (fun u1 => (zbd (fX3_of x3) (fun u3 => (zbd (fX2_putPiece fb x1 x2 u3) (fun u5 => (zbd (fX2_piecesOf u5 x1) (fun u7 => (zbd (fX3_size u7) (fun u9 => (some (0, u9, u5, u1.1, u1.2.1, u1.2.2))))))))))))
def fX4_lay (fb : Nat → Int64) (rws : Nat → Int64) (nx : Int32) (ct : Int32) (p0 : Int32) (p1 : Int32) (p2 : Int32) : Option (Nat × Int32 × (Nat → Int64) × (Nat → Int64) × Int32 × Int32) := (zbd (fX4_requireSide p0) (fun u1 => (if u1 = 0 then (zbd (fX4_requireSquare p2) (fun u3 => (if u3 = 0 then (if p1 < 0 then (some (2, (0 : Int32), fb, rws, nx, ct)) else (if p1 < (4 : Int32) then (zbd (fX4_requireFreeForLaying fb p2) (fun u5 => (if u5 = 0 then (if p1 = (3 : Int32) then (zbd (fX2_keeperOf fb p0) (fun u7 => (if u7 = (-1 : Int32) then (fX4_lay_59    fb rws nx ct p0 p1 p2) else (some (3, (0 : Int32), fb, rws, nx, ct))))) else (fX4_lay_59    fb rws nx ct p0 p1 p2)) else (some (u5, (0 : Int32), fb, rws, nx, ct))))) else (some (2, (0 : Int32), fb, rws, nx, ct)))) else (some (u3, (0 : Int32), fb, rws, nx, ct))))) else (some (u1, (0 : Int32), fb, rws, nx, ct)))))
set_option maxHeartbeats 400000 in
set_option maxRecDepth 100000 in
theorem wX4_lay_59 {p : Program} {l : Launch} {e : Env} {s : State} {m : MethodId} {args : Array Value} {below : List Frame} {meth : Method} {c : Code} {A : Nat → Prop} {Q : State → Prop} {G : va_G} {k : Nat → ClassId} {ad : Nat → Nat} {sv : Int32} {kE : Int32} {kR : Int32} {ft : Nat → Int64} {fs : Nat → Int64} {ch : Nat → Int32} {ln : Int32} {o : Nat × Int32 × (Nat → Int64) × (Nat → Int64) × Int32 × Int32} (C0 : zCx p s m args meth c wsX4_lay cX4_lay RX4 (some .int) 4) (hK : zKK G k A s s.heap) (hA : ∀ q : Nat, s.heap.size ≤ q → A q) (hret : zYI p l e rmX4_lay s m args below meth c cX4_lay G A 4 24 Q .int o.1 (zC ad k sv kE kR o.2.2.1 ft fs o.2.2.2.1 o.2.2.2.2.1 o.2.2.2.2.2 ch ln) o.2.1) (hl9 : l.stackTraces = false) (hthp : zTp p l e rmX4_lay s m args below meth c G A 4 24 Q o.1 (zC ad k sv kE kR o.2.2.1 ft fs o.2.2.2.1 o.2.2.2.2.1 o.2.2.2.2.2 ch ln)) (htho : zTo p l e rmX4_lay s m args below meth c cX4_lay RX4 G A 4 24 Q o.1 (zC ad k sv kE kR o.2.2.1 ft fs o.2.2.2.1 o.2.2.2.2.1 o.2.2.2.2.2 ch ln))  : ∀ (fb : Nat → Int64) (rws : Nat → Int64) (nx : Int32) (ct : Int32) (x1 : Int32) (x2 : Int32) (x3 : Int32), fX4_lay_59   fb rws nx ct x1 x2 x3 = some o → ∀ (H : Heap) (locs : List Loc) (ls : Array Slot), zWd G A s (zC ad k sv kE kR fb ft fs rws nx ct ch ln) H locs → lv_has ls 4 [(0, .ref (ad 0)), (1, .int x1), (2, .int x2), (3, .int x3)] → W p l e rmX4_lay s m args below meth c H locs 3 18 Q (F0 m 59 ls []) := by
  obtain ⟨hx, hb, hr, hml, hown, hts, hlocks⟩ := id C0
  intro fb rws nx ct x1 x2 x3 hF H locs ls hw hl
  unfold fX4_lay_59 at hF
  refine lv_aload_n hx hb dX4_lay_59 rfl (lv_at hl 0 rfl) ?_
  refine va_get (D := G) (ci := 3) (v := .ref (ad 7)) (C := RX4) (T := TX4) (N := 8) hx hb hts inX4_lay_X4 hown hK.1 hw.1 0 rfl rfl 3 (by decide) (hts (.fieldLink RX4 25 "SealedBoard" "history" "LSealedBoard$History;") (by decide +kernel)) (fun _ h9 => h9) rfl dX4_lay_60 ?_
  refine lv_aload_n hx hb dX4_lay_63 rfl (lv_at hl 0 rfl) ?_
  refine va_get (D := G) (ci := 3) (v := .ref (ad 1)) (C := RX4) (T := TX4) (N := 8) hx hb hts inX4_lay_X4 hown hK.1 hw.1 0 rfl rfl 0 (by decide) (hts (.fieldLink RX4 10 "SealedBoard" "board" "LSealedBoard$Position;") (by decide +kernel)) (fun _ h9 => h9) rfl dX4_lay_64 ?_
  obtain ⟨u1, hq2, hF⟩ := zbd_t hF
  refine zgoV (w' := (zC ad k sv kE kR fb ft fs u1.1 u1.2.1 u1.2.2 ch ln)) hw hA [7, 8, 1, 2] rfl (zV (As := [.ref (ad 1)]) (rest := []) ⟨hx, hb, hml, hown, hts⟩ (mX0_remember l G k (ad 7) (ad 8) (ad 1) (ad 2) H.size rws nx ct fb  u1 hq2) (cwV 1 hts gX4_lay_X0_remember rfl rfl rfl kdX0_remember ⟨Nat.le_of_ble_eq_true rfl, Nat.le_of_ble_eq_true rfl⟩) hK hA hw [7, 8, 1, 2] rfl (by decide) 7 rfl rfl rfl rfl hl.1 rfl (Nat.le_of_ble_eq_true rfl) dX4_lay_67 ⟨Nat.le_of_ble_eq_true rfl, Nat.le_of_ble_eq_true rfl⟩) rfl rfl rfl (fun H locs hw => ?_)
  refine lv_aload_n hx hb dX4_lay_70 rfl (lv_at hl 0 rfl) ?_
  refine va_get (D := G) (ci := 3) (v := .ref (ad 1)) (C := RX4) (T := TX4) (N := 8) hx hb hts inX4_lay_X4 hown hK.1 hw.1 0 rfl rfl 0 (by decide) (hts (.fieldLink RX4 10 "SealedBoard" "board" "LSealedBoard$Position;") (by decide +kernel)) (fun _ h9 => h9) rfl dX4_lay_71 ?_
  refine lv_iload_n hx hb dX4_lay_74 rfl (lv_at hl 1 rfl) ?_
  refine lv_iload_n hx hb dX4_lay_75 rfl (lv_at hl 2 rfl) ?_
  refine lv_iload_n hx hb dX4_lay_76 rfl (lv_at hl 3 rfl) ?_
  obtain ⟨u3, hq4, hF⟩ := zbd_t hF
  refine zgoL (w' := (zC ad k sv kE kR fb ft fs u1.1 u1.2.1 u1.2.2 ch ln)) hw hA [] rfl (zS (As := [.int x3]) (rest := [.int x2, .int x1, .ref (ad 1)]) ⟨hx, hb, hml, hown, hts⟩ (mX3_of l G k  H.size  x3 u3 hq4) (va_cwS 1 hts gX4_lay_X3_of rfl rfl rfl kdX3_of ⟨Nat.le_of_ble_eq_true rfl, Nat.le_of_ble_eq_true rfl⟩) hK hA hw [] rfl (by decide) rfl hl.1 rfl (Nat.le_of_ble_eq_true rfl) dX4_lay_77 ⟨Nat.le_of_ble_eq_true rfl, Nat.le_of_ble_eq_true rfl⟩) rfl rfl rfl (fun H locs hw => ?_)
  obtain ⟨u5, hq6, hF⟩ := zbd_t hF
  refine zgoV (w' := (zC ad k sv kE kR u5 ft fs u1.1 u1.2.1 u1.2.2 ch ln)) hw hA [1, 2] rfl (zV (As := [.int x1, .int x2, .long u3]) (rest := []) ⟨hx, hb, hml, hown, hts⟩ (mX2_putPiece l G k (ad 1) (ad 2) H.size fb x1 x2 u3 u5 hq6) (cwV 3 hts gX4_lay_X2_putPiece rfl rfl rfl kdX2_putPiece ⟨Nat.le_of_ble_eq_true rfl, Nat.le_of_ble_eq_true rfl⟩) hK hA hw [1, 2] rfl (by decide) 1 rfl rfl rfl rfl hl.1 rfl (Nat.le_of_ble_eq_true rfl) dX4_lay_80 ⟨Nat.le_of_ble_eq_true rfl, Nat.le_of_ble_eq_true rfl⟩) rfl rfl rfl (fun H locs hw => ?_)
  refine lv_aload_n hx hb dX4_lay_83 rfl (lv_at hl 0 rfl) ?_
  refine va_get (D := G) (ci := 3) (v := .ref (ad 1)) (C := RX4) (T := TX4) (N := 8) hx hb hts inX4_lay_X4 hown hK.1 hw.1 0 rfl rfl 0 (by decide) (hts (.fieldLink RX4 10 "SealedBoard" "board" "LSealedBoard$Position;") (by decide +kernel)) (fun _ h9 => h9) rfl dX4_lay_84 ?_
  refine lv_iload_n hx hb dX4_lay_87 rfl (lv_at hl 1 rfl) ?_
  obtain ⟨u7, hq8, hF⟩ := zbd_t hF
  refine zgoL (w' := (zC ad k sv kE kR u5 ft fs u1.1 u1.2.1 u1.2.2 ch ln)) hw hA [1, 2] rfl (zV (As := [.int x1]) (rest := []) ⟨hx, hb, hml, hown, hts⟩ (mX2_piecesOf l G k (ad 1) (ad 2) H.size u5 x1 u7 hq8) (cwV 1 hts gX4_lay_X2_piecesOf rfl rfl rfl kdX2_piecesOf ⟨Nat.le_of_ble_eq_true rfl, Nat.le_of_ble_eq_true rfl⟩) hK hA hw [1, 2] rfl (by decide) 1 rfl rfl rfl rfl hl.1 rfl (Nat.le_of_ble_eq_true rfl) dX4_lay_88 ⟨Nat.le_of_ble_eq_true rfl, Nat.le_of_ble_eq_true rfl⟩) rfl rfl rfl (fun H locs hw => ?_)
  obtain ⟨u9, hq10, hF⟩ := zbd_t hF
  refine zgoI (w' := (zC ad k sv kE kR u5 ft fs u1.1 u1.2.1 u1.2.2 ch ln)) hw hA [] rfl (zS (As := [.long u7]) (rest := []) ⟨hx, hb, hml, hown, hts⟩ (mX3_size l G k  H.size  u7 u9 hq10) (va_cwS 1 hts gX4_lay_X3_size rfl rfl rfl kdX3_size ⟨Nat.le_of_ble_eq_true rfl, Nat.le_of_ble_eq_true rfl⟩) hK hA hw [] rfl (by decide) rfl hl.1 rfl (Nat.le_of_ble_eq_true rfl) dX4_lay_91 ⟨Nat.le_of_ble_eq_true rfl, Nat.le_of_ble_eq_true rfl⟩) rfl rfl rfl (fun H locs hw => ?_)
  obtain rfl := Option.some.inj hF
  refine W.widen (k := 4) (n := 24) (Nat.le_of_ble_eq_true rfl) (Nat.le_of_ble_eq_true rfl) ?_
  exact hret _ _ _ _ rfl rfl hw dX4_lay_94
set_option maxHeartbeats 400000 in
set_option maxRecDepth 100000 in
theorem mX4_lay (l : Launch) (hl9 : l.stackTraces = false) (G : va_G) (k : Nat → ClassId) (ad : Nat → Nat) (sz : Nat) (sv : Int32) (kE : Int32) (kR : Int32) (fb : Nat → Int64) (ft : Nat → Int64) (fs : Nat → Int64) (rws : Nat → Int64) (nx : Int32) (ct : Int32) (ch : Nat → Int32) (ln : Int32) (p0 : Int32) (p1 : Int32) (p2 : Int32) (o : Nat × Int32 × (Nat → Int64) × (Nat → Int64) × Int32 × Int32) (hF : fX4_lay fb rws nx ct p0 p1 p2 = some o) : zXI l yX4_lay wsX4_lay rmX4_lay G k (zC ad k sv kE kR fb ft fs rws nx ct ch ln) sz [.ref (ad 0), .int p0, .int p1, .int p2] 4 24 o.1 o.2.1 (zC ad k sv kE kR o.2.2.1 ft fs o.2.2.2.1 o.2.2.2.2.1 o.2.2.2.2.2 ch ln) := by
  refine zof_XI hl9 (cc := cX4_lay) (nL := 4) (own := RX4) (rt := .int) (by decide) rfl rfl (Nat.le_of_ble_eq_true rfl) ?_
  intro p e s m args below meth c A Q C0 hK hA hret hthp htho ls hl hw
  have hl : lv_has ls 4 [(0, .ref (ad 0)), (1, .int p0), (2, .int p1), (3, .int p2)] := hl
  obtain ⟨hx, hb, hr, hml, hown, hts, hlocks⟩ := id C0
  obtain ⟨H, hH⟩ : ∃ z, z = s.heap := ⟨_, rfl⟩
  rw [← hH] at hw ⊢
  unfold fX4_lay at hF
  refine lv_iload_n hx hb dX4_lay_0 rfl (lv_at hl 1 rfl) ?_
  obtain ⟨u1, hq2, hF⟩ := zbd_t hF
  refine zgoXV (o0 := u1) (w' := (zC ad k sv kE kR fb ft fs rws nx ct ch ln)) hw hA [] rfl (zSx (As := [.int p0]) (rest := []) ⟨hx, hb, hml, hown, hts⟩ (mX4_requireSide l hl9 G k  H.size  p0 u1 hq2) (va_cwS 1 hts gX4_lay_X4_requireSide rfl rfl rfl kdX4_requireSide ⟨Nat.le_of_ble_eq_true rfl, Nat.le_of_ble_eq_true rfl⟩) hK hA hw [] rfl (by decide) rfl hl.1 rfl (Nat.le_of_ble_eq_true rfl) dX4_lay_1 ⟨Nat.le_of_ble_eq_true rfl, Nat.le_of_ble_eq_true rfl⟩) rfl rfl rfl (fun h011 H locs q9 E9 ce9 hw g1 g2 g3 g4 => ?_) (fun h011 H locs hw => ?_)
  · have hF := zif_f h011 hF
    obtain rfl := Option.some.inj hF
    exact hthp _ _ _ _ _ _ _ _ _ _ h011 hw g1 g2 g3 g4 (Nat.le_of_ble_eq_true rfl) (Nat.le_of_ble_eq_true rfl)
  have hF := zif_t h011 hF
  refine lv_iload_n hx hb dX4_lay_4 rfl (lv_at hl 3 rfl) ?_
  obtain ⟨u3, hq4, hF⟩ := zbd_t hF
  refine zgoXV (o0 := u3) (w' := (zC ad k sv kE kR fb ft fs rws nx ct ch ln)) hw hA [] rfl (zSx (As := [.int p2]) (rest := []) ⟨hx, hb, hml, hown, hts⟩ (mX4_requireSquare l hl9 G k  H.size  p2 u3 hq4) (va_cwS 1 hts gX4_lay_X4_requireSquare rfl rfl rfl kdX4_requireSquare ⟨Nat.le_of_ble_eq_true rfl, Nat.le_of_ble_eq_true rfl⟩) hK hA hw [] rfl (by decide) rfl hl.1 rfl (Nat.le_of_ble_eq_true rfl) dX4_lay_5 ⟨Nat.le_of_ble_eq_true rfl, Nat.le_of_ble_eq_true rfl⟩) rfl rfl rfl (fun h010 H locs q9 E9 ce9 hw g1 g2 g3 g4 => ?_) (fun h010 H locs hw => ?_)
  · have hF := zif_f h010 hF
    obtain rfl := Option.some.inj hF
    exact hthp _ _ _ _ _ _ _ _ _ _ h010 hw g1 g2 g3 g4 (Nat.le_of_ble_eq_true rfl) (Nat.le_of_ble_eq_true rfl)
  have hF := zif_t h010 hF
  refine lv_iload_n hx hb dX4_lay_8 rfl (lv_at hl 2 rfl) ?_
  refine lv_if_lt (tgt := 17) hx hb dX4_lay_9 (by decide) (fun hc => ?_) (fun hc => ?_)
  · have hF := zif_t hc hF
    obtain rfl := Option.some.inj hF
    exact htho _ _ _ _ _ "java/lang/IllegalArgumentException" 70 72 74 _ _ "no such kind" (show (2 : Nat) ≠ 0 by decide) rfl hw (hl.1.trans hml.symm) (by decide +kernel) (by decide +kernel) (hts (.classLink RX4 70 "java/lang/IllegalArgumentException") (by decide +kernel)) (hts (.initialized "java/lang/IllegalArgumentException") (by decide +kernel)) (vx_hat (B := zBad "java/lang/IllegalArgumentException") (fun w hw9 => hts w (naX4_lay_2 w hw9)) (by decide +kernel) (zbad hK.2 (by decide))) (by decide +kernel) ⟨dX4_lay_17, dX4_lay_20, Or.inl ⟨dX4_lay_21, dX4_lay_23, dX4_lay_26⟩⟩ (Nat.le_of_ble_eq_true rfl) (Nat.le_of_ble_eq_true rfl) (Nat.le_of_ble_eq_true rfl) (Nat.le_of_ble_eq_true rfl) (Nat.le_of_ble_eq_true rfl) (Nat.le_of_ble_eq_true rfl)
  · have hF := zif_f hc hF
    refine lv_iload_n hx hb dX4_lay_12 rfl (lv_at hl 2 rfl) ?_
    refine lv_iconst (v := (4 : Int32)) hx hb dX4_lay_13 (by decide) ?_
    refine lv_icmp_lt (tgt := 27) hx hb dX4_lay_14 (by decide) (fun hc => ?_) (fun hc => ?_)
    · have hF := zif_t hc hF
      refine lv_aload_n hx hb dX4_lay_27 rfl (lv_at hl 0 rfl) ?_
      refine lv_iload_n hx hb dX4_lay_28 rfl (lv_at hl 3 rfl) ?_
      obtain ⟨u5, hq6, hF⟩ := zbd_t hF
      refine zgoXVw (o0 := u5) (w' := (zC ad k sv kE kR fb ft fs rws nx ct ch ln)) hw hA (zVxw (As := [.int p2]) (rest := []) ⟨hx, hb, hml, hown, hts⟩ (mX4_requireFreeForLaying l hl9 G k ad H.size sv kE kR fb ft fs rws nx ct ch ln p2 u5 hq6) (cwV 1 hts gX4_lay_X4_requireFreeForLaying rfl rfl rfl kdX4_requireFreeForLaying ⟨Nat.le_of_ble_eq_true rfl, Nat.le_of_ble_eq_true rfl⟩) hK hA hw 0 rfl rfl rfl rfl hl.1 rfl (Nat.le_of_ble_eq_true rfl) dX4_lay_29 ⟨Nat.le_of_ble_eq_true rfl, Nat.le_of_ble_eq_true rfl⟩) (fun h09 H locs q9 E9 ce9 hw g1 g2 g3 g4 => ?_) (fun h09 H locs hw => ?_)
      · have hF := zif_f h09 hF
        obtain rfl := Option.some.inj hF
        exact hthp _ _ _ _ _ _ _ _ _ _ h09 hw g1 g2 g3 g4 (Nat.le_of_ble_eq_true rfl) (Nat.le_of_ble_eq_true rfl)
      have hF := zif_t h09 hF
      refine lv_iload_n hx hb dX4_lay_32 rfl (lv_at hl 2 rfl) ?_
      refine lv_iconst (v := (3 : Int32)) hx hb dX4_lay_33 (by decide) ?_
      refine lv_icmp_ne (tgt := 59) hx hb dX4_lay_34 (by decide) (fun hc => ?_) (fun hc => ?_)
      · have hF := zif_f hc hF
        exact wX4_lay_59 C0 hK hA hret hl9 hthp htho   _ _ _ _ _ _ _ hF _ _ _ hw (lv_sub hl [0, 1, 2, 3] rfl)
      · have hF := zif_t hc hF
        refine lv_aload_n hx hb dX4_lay_37 rfl (lv_at hl 0 rfl) ?_
        refine va_get (D := G) (ci := 3) (v := .ref (ad 1)) (C := RX4) (T := TX4) (N := 8) hx hb hts inX4_lay_X4 hown hK.1 hw.1 0 rfl rfl 0 (by decide) (hts (.fieldLink RX4 10 "SealedBoard" "board" "LSealedBoard$Position;") (by decide +kernel)) (fun _ h9 => h9) rfl dX4_lay_38 ?_
        refine lv_iload_n hx hb dX4_lay_41 rfl (lv_at hl 1 rfl) ?_
        obtain ⟨u7, hq8, hF⟩ := zbd_t hF
        refine zgoI (w' := (zC ad k sv kE kR fb ft fs rws nx ct ch ln)) hw hA [1, 2] rfl (zV (As := [.int p0]) (rest := []) ⟨hx, hb, hml, hown, hts⟩ (mX2_keeperOf l G k (ad 1) (ad 2) H.size fb p0 u7 hq8) (cwV 1 hts gX4_lay_X2_keeperOf rfl rfl rfl kdX2_keeperOf ⟨Nat.le_of_ble_eq_true rfl, Nat.le_of_ble_eq_true rfl⟩) hK hA hw [1, 2] rfl (by decide) 1 rfl rfl rfl rfl hl.1 rfl (Nat.le_of_ble_eq_true rfl) dX4_lay_42 ⟨Nat.le_of_ble_eq_true rfl, Nat.le_of_ble_eq_true rfl⟩) rfl rfl rfl (fun H locs hw => ?_)
        refine lv_iconst (v := (-1 : Int32)) hx hb dX4_lay_45 (by decide) ?_
        refine lv_icmp_eq (tgt := 59) hx hb dX4_lay_46 (by decide) (fun hc => ?_) (fun hc => ?_)
        · have hF := zif_t hc hF
          exact wX4_lay_59 C0 hK hA hret hl9 hthp htho   _ _ _ _ _ _ _ hF _ _ _ hw (lv_sub hl [0, 1, 2, 3] rfl)
        · have hF := zif_f hc hF
          obtain rfl := Option.some.inj hF
          exact htho _ _ _ _ _ "java/lang/IllegalStateException" 84 86 88 _ _ "the side has a keeper" (show (3 : Nat) ≠ 0 by decide) rfl hw (hl.1.trans hml.symm) (by decide +kernel) (by decide +kernel) (hts (.classLink RX4 84 "java/lang/IllegalStateException") (by decide +kernel)) (hts (.initialized "java/lang/IllegalStateException") (by decide +kernel)) (vx_hat (B := zBad "java/lang/IllegalStateException") (fun w hw9 => hts w (naX4_lay_3 w hw9)) (by decide +kernel) (zbad hK.2 (by decide))) (by decide +kernel) ⟨dX4_lay_49, dX4_lay_52, Or.inl ⟨dX4_lay_53, dX4_lay_55, dX4_lay_58⟩⟩ (Nat.le_of_ble_eq_true rfl) (Nat.le_of_ble_eq_true rfl) (Nat.le_of_ble_eq_true rfl) (Nat.le_of_ble_eq_true rfl) (Nat.le_of_ble_eq_true rfl) (Nat.le_of_ble_eq_true rfl)
    · have hF := zif_f hc hF
      obtain rfl := Option.some.inj hF
      exact htho _ _ _ _ _ "java/lang/IllegalArgumentException" 70 72 74 _ _ "no such kind" (show (2 : Nat) ≠ 0 by decide) rfl hw (hl.1.trans hml.symm) (by decide +kernel) (by decide +kernel) (hts (.classLink RX4 70 "java/lang/IllegalArgumentException") (by decide +kernel)) (hts (.initialized "java/lang/IllegalArgumentException") (by decide +kernel)) (vx_hat (B := zBad "java/lang/IllegalArgumentException") (fun w hw9 => hts w (naX4_lay_2 w hw9)) (by decide +kernel) (zbad hK.2 (by decide))) (by decide +kernel) ⟨dX4_lay_17, dX4_lay_20, Or.inl ⟨dX4_lay_21, dX4_lay_23, dX4_lay_26⟩⟩ (Nat.le_of_ble_eq_true rfl) (Nat.le_of_ble_eq_true rfl) (Nat.le_of_ble_eq_true rfl) (Nat.le_of_ble_eq_true rfl) (Nat.le_of_ble_eq_true rfl) (Nat.le_of_ble_eq_true rfl)

/-! SealedBoard.wall(I)I -/
abbrev rmX4_wall : Room := { frames := 7, cells := 2, slots := 12, locals := 103 }
theorem kdX4_wall : yX4_wall.cls = RX4 ∧ yX4_wall.cls ≠ "java/lang/invoke/MethodHandle" ∧ yX4_wall.cls ≠ "java/lang/invoke/VarHandle" ∧ (parseMethodDescriptor yX4_wall.desc).map (fun d => d.parameters.length) = some 1 := by decide +kernel
theorem inX4_wall_X4 : ∀ w ∈ u_ws RX4 TX4 8, w ∈ wsX4_wall := by decide +kernel
def fX4_wall (fb : Nat → Int64) (rws : Nat → Int64) (nx : Int32) (ct : Int32) (p0 : Int32) : Option (Nat × Int32 × (Nat → Int64) × (Nat → Int64) × Int32 × Int32) := (zbd (fX4_requireSquare p0) (fun u1 => (if u1 = 0 then (zbd (fX4_requireFreeForLaying fb p0) (fun u3 => (if u3 = 0 then (zbd (fX0_remember rws nx ct fb) (fun u5 => (zbd (fX3_of p0) (fun u7 => (zbd (fX2_putWall fb u7) (fun u9 => (zbd (fX2_walls u9) (fun u11 => (zbd (fX3_size u11) (fun u13 => (some (0, u13, u9, u5.1, u5.2.1, u5.2.2)))))))))))) else (some (u3, (0 : Int32), fb, rws, nx, ct))))) else (some (u1, (0 : Int32), fb, rws, nx, ct)))))
set_option maxHeartbeats 400000 in
set_option maxRecDepth 100000 in
theorem mX4_wall (l : Launch) (hl9 : l.stackTraces = false) (G : va_G) (k : Nat → ClassId) (ad : Nat → Nat) (sz : Nat) (sv : Int32) (kE : Int32) (kR : Int32) (fb : Nat → Int64) (ft : Nat → Int64) (fs : Nat → Int64) (rws : Nat → Int64) (nx : Int32) (ct : Int32) (ch : Nat → Int32) (ln : Int32) (p0 : Int32) (o : Nat × Int32 × (Nat → Int64) × (Nat → Int64) × Int32 × Int32) (hF : fX4_wall fb rws nx ct p0 = some o) : zXI l yX4_wall wsX4_wall rmX4_wall G k (zC ad k sv kE kR fb ft fs rws nx ct ch ln) sz [.ref (ad 0), .int p0] 2 12 o.1 o.2.1 (zC ad k sv kE kR o.2.2.1 ft fs o.2.2.2.1 o.2.2.2.2.1 o.2.2.2.2.2 ch ln) := by
  refine zof_XI hl9 (cc := cX4_wall) (nL := 2) (own := RX4) (rt := .int) (by decide) rfl rfl (Nat.le_of_ble_eq_true rfl) ?_
  intro p e s m args below meth c A Q C0 hK hA hret hthp htho ls hl hw
  have hl : lv_has ls 2 [(0, .ref (ad 0)), (1, .int p0)] := hl
  obtain ⟨hx, hb, hr, hml, hown, hts, hlocks⟩ := id C0
  obtain ⟨H, hH⟩ : ∃ z, z = s.heap := ⟨_, rfl⟩
  rw [← hH] at hw ⊢
  unfold fX4_wall at hF
  refine lv_iload_n hx hb dX4_wall_0 rfl (lv_at hl 1 rfl) ?_
  obtain ⟨u1, hq2, hF⟩ := zbd_t hF
  refine zgoXV (o0 := u1) (w' := (zC ad k sv kE kR fb ft fs rws nx ct ch ln)) hw hA [] rfl (zSx (As := [.int p0]) (rest := []) ⟨hx, hb, hml, hown, hts⟩ (mX4_requireSquare l hl9 G k  H.size  p0 u1 hq2) (va_cwS 1 hts gX4_wall_X4_requireSquare rfl rfl rfl kdX4_requireSquare ⟨Nat.le_of_ble_eq_true rfl, Nat.le_of_ble_eq_true rfl⟩) hK hA hw [] rfl (by decide) rfl hl.1 rfl (Nat.le_of_ble_eq_true rfl) dX4_wall_1 ⟨Nat.le_of_ble_eq_true rfl, Nat.le_of_ble_eq_true rfl⟩) rfl rfl rfl (fun h016 H locs q9 E9 ce9 hw g1 g2 g3 g4 => ?_) (fun h016 H locs hw => ?_)
  · have hF := zif_f h016 hF
    obtain rfl := Option.some.inj hF
    exact hthp _ _ _ _ _ _ _ _ _ _ h016 hw g1 g2 g3 g4 (Nat.le_of_ble_eq_true rfl) (Nat.le_of_ble_eq_true rfl)
  have hF := zif_t h016 hF
  refine lv_aload_n hx hb dX4_wall_4 rfl (lv_at hl 0 rfl) ?_
  refine lv_iload_n hx hb dX4_wall_5 rfl (lv_at hl 1 rfl) ?_
  obtain ⟨u3, hq4, hF⟩ := zbd_t hF
  refine zgoXVw (o0 := u3) (w' := (zC ad k sv kE kR fb ft fs rws nx ct ch ln)) hw hA (zVxw (As := [.int p0]) (rest := []) ⟨hx, hb, hml, hown, hts⟩ (mX4_requireFreeForLaying l hl9 G k ad H.size sv kE kR fb ft fs rws nx ct ch ln p0 u3 hq4) (cwV 1 hts gX4_wall_X4_requireFreeForLaying rfl rfl rfl kdX4_requireFreeForLaying ⟨Nat.le_of_ble_eq_true rfl, Nat.le_of_ble_eq_true rfl⟩) hK hA hw 0 rfl rfl rfl rfl hl.1 rfl (Nat.le_of_ble_eq_true rfl) dX4_wall_6 ⟨Nat.le_of_ble_eq_true rfl, Nat.le_of_ble_eq_true rfl⟩) (fun h015 H locs q9 E9 ce9 hw g1 g2 g3 g4 => ?_) (fun h015 H locs hw => ?_)
  · have hF := zif_f h015 hF
    obtain rfl := Option.some.inj hF
    exact hthp _ _ _ _ _ _ _ _ _ _ h015 hw g1 g2 g3 g4 (Nat.le_of_ble_eq_true rfl) (Nat.le_of_ble_eq_true rfl)
  have hF := zif_t h015 hF
  refine lv_aload_n hx hb dX4_wall_9 rfl (lv_at hl 0 rfl) ?_
  refine va_get (D := G) (ci := 3) (v := .ref (ad 7)) (C := RX4) (T := TX4) (N := 8) hx hb hts inX4_wall_X4 hown hK.1 hw.1 0 rfl rfl 3 (by decide) (hts (.fieldLink RX4 25 "SealedBoard" "history" "LSealedBoard$History;") (by decide +kernel)) (fun _ h9 => h9) rfl dX4_wall_10 ?_
  refine lv_aload_n hx hb dX4_wall_13 rfl (lv_at hl 0 rfl) ?_
  refine va_get (D := G) (ci := 3) (v := .ref (ad 1)) (C := RX4) (T := TX4) (N := 8) hx hb hts inX4_wall_X4 hown hK.1 hw.1 0 rfl rfl 0 (by decide) (hts (.fieldLink RX4 10 "SealedBoard" "board" "LSealedBoard$Position;") (by decide +kernel)) (fun _ h9 => h9) rfl dX4_wall_14 ?_
  obtain ⟨u5, hq6, hF⟩ := zbd_t hF
  refine zgoV (w' := (zC ad k sv kE kR fb ft fs u5.1 u5.2.1 u5.2.2 ch ln)) hw hA [7, 8, 1, 2] rfl (zV (As := [.ref (ad 1)]) (rest := []) ⟨hx, hb, hml, hown, hts⟩ (mX0_remember l G k (ad 7) (ad 8) (ad 1) (ad 2) H.size rws nx ct fb  u5 hq6) (cwV 1 hts gX4_wall_X0_remember rfl rfl rfl kdX0_remember ⟨Nat.le_of_ble_eq_true rfl, Nat.le_of_ble_eq_true rfl⟩) hK hA hw [7, 8, 1, 2] rfl (by decide) 7 rfl rfl rfl rfl hl.1 rfl (Nat.le_of_ble_eq_true rfl) dX4_wall_17 ⟨Nat.le_of_ble_eq_true rfl, Nat.le_of_ble_eq_true rfl⟩) rfl rfl rfl (fun H locs hw => ?_)
  refine lv_aload_n hx hb dX4_wall_20 rfl (lv_at hl 0 rfl) ?_
  refine va_get (D := G) (ci := 3) (v := .ref (ad 1)) (C := RX4) (T := TX4) (N := 8) hx hb hts inX4_wall_X4 hown hK.1 hw.1 0 rfl rfl 0 (by decide) (hts (.fieldLink RX4 10 "SealedBoard" "board" "LSealedBoard$Position;") (by decide +kernel)) (fun _ h9 => h9) rfl dX4_wall_21 ?_
  refine lv_iload_n hx hb dX4_wall_24 rfl (lv_at hl 1 rfl) ?_
  obtain ⟨u7, hq8, hF⟩ := zbd_t hF
  refine zgoL (w' := (zC ad k sv kE kR fb ft fs u5.1 u5.2.1 u5.2.2 ch ln)) hw hA [] rfl (zS (As := [.int p0]) (rest := [.ref (ad 1)]) ⟨hx, hb, hml, hown, hts⟩ (mX3_of l G k  H.size  p0 u7 hq8) (va_cwS 1 hts gX4_wall_X3_of rfl rfl rfl kdX3_of ⟨Nat.le_of_ble_eq_true rfl, Nat.le_of_ble_eq_true rfl⟩) hK hA hw [] rfl (by decide) rfl hl.1 rfl (Nat.le_of_ble_eq_true rfl) dX4_wall_25 ⟨Nat.le_of_ble_eq_true rfl, Nat.le_of_ble_eq_true rfl⟩) rfl rfl rfl (fun H locs hw => ?_)
  obtain ⟨u9, hq10, hF⟩ := zbd_t hF
  refine zgoV (w' := (zC ad k sv kE kR u9 ft fs u5.1 u5.2.1 u5.2.2 ch ln)) hw hA [1, 2] rfl (zV (As := [.long u7]) (rest := []) ⟨hx, hb, hml, hown, hts⟩ (mX2_putWall l G k (ad 1) (ad 2) H.size fb u7 u9 hq10) (cwV 1 hts gX4_wall_X2_putWall rfl rfl rfl kdX2_putWall ⟨Nat.le_of_ble_eq_true rfl, Nat.le_of_ble_eq_true rfl⟩) hK hA hw [1, 2] rfl (by decide) 1 rfl rfl rfl rfl hl.1 rfl (Nat.le_of_ble_eq_true rfl) dX4_wall_28 ⟨Nat.le_of_ble_eq_true rfl, Nat.le_of_ble_eq_true rfl⟩) rfl rfl rfl (fun H locs hw => ?_)
  refine lv_aload_n hx hb dX4_wall_31 rfl (lv_at hl 0 rfl) ?_
  refine va_get (D := G) (ci := 3) (v := .ref (ad 1)) (C := RX4) (T := TX4) (N := 8) hx hb hts inX4_wall_X4 hown hK.1 hw.1 0 rfl rfl 0 (by decide) (hts (.fieldLink RX4 10 "SealedBoard" "board" "LSealedBoard$Position;") (by decide +kernel)) (fun _ h9 => h9) rfl dX4_wall_32 ?_
  obtain ⟨u11, hq12, hF⟩ := zbd_t hF
  refine zgoL (w' := (zC ad k sv kE kR u9 ft fs u5.1 u5.2.1 u5.2.2 ch ln)) hw hA [1, 2] rfl (zV (As := []) (rest := []) ⟨hx, hb, hml, hown, hts⟩ (mX2_walls l G k (ad 1) (ad 2) H.size u9  u11 hq12) (cwV 0 hts gX4_wall_X2_walls rfl rfl rfl kdX2_walls ⟨Nat.le_of_ble_eq_true rfl, Nat.le_of_ble_eq_true rfl⟩) hK hA hw [1, 2] rfl (by decide) 1 rfl rfl rfl rfl hl.1 rfl (Nat.le_of_ble_eq_true rfl) dX4_wall_35 ⟨Nat.le_of_ble_eq_true rfl, Nat.le_of_ble_eq_true rfl⟩) rfl rfl rfl (fun H locs hw => ?_)
  obtain ⟨u13, hq14, hF⟩ := zbd_t hF
  refine zgoI (w' := (zC ad k sv kE kR u9 ft fs u5.1 u5.2.1 u5.2.2 ch ln)) hw hA [] rfl (zS (As := [.long u11]) (rest := []) ⟨hx, hb, hml, hown, hts⟩ (mX3_size l G k  H.size  u11 u13 hq14) (va_cwS 1 hts gX4_wall_X3_size rfl rfl rfl kdX3_size ⟨Nat.le_of_ble_eq_true rfl, Nat.le_of_ble_eq_true rfl⟩) hK hA hw [] rfl (by decide) rfl hl.1 rfl (Nat.le_of_ble_eq_true rfl) dX4_wall_38 ⟨Nat.le_of_ble_eq_true rfl, Nat.le_of_ble_eq_true rfl⟩) rfl rfl rfl (fun H locs hw => ?_)
  obtain rfl := Option.some.inj hF
  exact hret _ _ _ _ rfl rfl hw dX4_wall_41

/-! SealedBoard.requireTaken(I)V -/
abbrev rmX4_requireTaken : Room := { frames := 6, cells := 1, slots := 6, locals := 82 }
theorem naX4_requireTaken_4 : ∀ w ∈ (vx_atS RX4 309 "java/lang/UnsupportedOperationException" zNm).filter goodWord, w ∈ wsX4_requireTaken := by decide +kernel
theorem kdX4_requireTaken : yX4_requireTaken.cls = RX4 ∧ yX4_requireTaken.cls ≠ "java/lang/invoke/MethodHandle" ∧ yX4_requireTaken.cls ≠ "java/lang/invoke/VarHandle" ∧ (parseMethodDescriptor yX4_requireTaken.desc).map (fun d => d.parameters.length) = some 1 := by decide +kernel
theorem inX4_requireTaken_X4 : ∀ w ∈ u_ws RX4 TX4 8, w ∈ wsX4_requireTaken := by decide +kernel
def fX4_requireTaken (kR : Int32) (p0 : Int32) : Option (Nat × Int32) := (if p0 = 0 then (some (0, kR)) else (some (4, p0)))
set_option maxHeartbeats 400000 in
set_option maxRecDepth 100000 in
theorem mX4_requireTaken (l : Launch) (hl9 : l.stackTraces = false) (G : va_G) (k : Nat → ClassId) (ad : Nat → Nat) (sz : Nat) (sv : Int32) (kE : Int32) (kR : Int32) (fb : Nat → Int64) (ft : Nat → Int64) (fs : Nat → Int64) (rws : Nat → Int64) (nx : Int32) (ct : Int32) (ch : Nat → Int32) (ln : Int32) (p0 : Int32) (o : Nat × Int32) (hF : fX4_requireTaken kR p0 = some o) : zXV l yX4_requireTaken wsX4_requireTaken rmX4_requireTaken G k (zC ad k sv kE kR fb ft fs rws nx ct ch ln) sz [.ref (ad 0), .int p0] 1 6 o.1 (zC ad k sv kE o.2 fb ft fs rws nx ct ch ln) := by
  refine zof_XV hl9 (cc := cX4_requireTaken) (nL := 2) (own := RX4) (by decide) rfl rfl (Nat.le_of_ble_eq_true rfl) ?_
  intro p e s m args below meth c A Q C0 hK hA hret hthp htho ls hl hw
  have hl : lv_has ls 2 [(0, .ref (ad 0)), (1, .int p0)] := hl
  obtain ⟨hx, hb, hr, hml, hown, hts, hlocks⟩ := id C0
  obtain ⟨H, hH⟩ : ∃ z, z = s.heap := ⟨_, rfl⟩
  rw [← hH] at hw ⊢
  unfold fX4_requireTaken at hF
  refine lv_iload_n hx hb dX4_requireTaken_0 rfl (lv_at hl 1 rfl) ?_
  refine lv_if_eq (tgt := 20) hx hb dX4_requireTaken_1 (by decide) (fun hc => ?_) (fun hc => ?_)
  · have hF := zif_t hc hF
    obtain rfl := Option.some.inj hF
    refine W.widen (k := 1) (n := 6) (Nat.le_of_ble_eq_true rfl) (Nat.le_of_ble_eq_true rfl) ?_
    exact hret _ _ _ _ rfl  hw dX4_requireTaken_20
  · have hF := zif_f hc hF
    refine lv_aload_n hx hb dX4_requireTaken_4 rfl (lv_at hl 0 rfl) ?_
    refine lv_iload_n hx hb dX4_requireTaken_5 rfl (lv_at hl 1 rfl) ?_
    refine va_put (D := G) (ci := 3) (v := .int p0) (ty := .int) (C := RX4) (T := TX4) (N := 8) hx hb hts inX4_requireTaken_X4 tyX4 tyX4_ok nmX4 hown hK.1 hw.1 hw.2.1 hw.2.2 0 rfl rfl 7 (by decide) (hts (.fieldLink RX4 40 "SealedBoard" "keptRefusal" "I") (by decide +kernel)) (fun _ h9 => h9) rfl (by decide +kernel) rfl rfl (Nat.le_of_ble_eq_true rfl) dX4_requireTaken_6 (fun H locs hP hD hS => ?_)
    have hw : zWd G A s (zC ad k sv kE p0 fb ft fs rws nx ct ch ln) H locs := ⟨hP, hD, hS⟩
    obtain rfl := Option.some.inj hF
    exact htho _ _ _ _ _ "java/lang/UnsupportedOperationException" 305 307 309 _ _ "the turn is refused" (show (4 : Nat) ≠ 0 by decide) rfl hw (hl.1.trans hml.symm) (by decide +kernel) (by decide +kernel) (hts (.classLink RX4 305 "java/lang/UnsupportedOperationException") (by decide +kernel)) (hts (.initialized "java/lang/UnsupportedOperationException") (by decide +kernel)) (vx_hat (B := zBad "java/lang/UnsupportedOperationException") (fun w hw9 => hts w (naX4_requireTaken_4 w hw9)) (by decide +kernel) (zbad hK.2 (by decide))) (by decide +kernel) ⟨dX4_requireTaken_9, dX4_requireTaken_12, Or.inr ⟨dX4_requireTaken_13, dX4_requireTaken_16, dX4_requireTaken_19⟩⟩ (Nat.le_of_ble_eq_true rfl) (Nat.le_of_ble_eq_true rfl) (Nat.le_of_ble_eq_true rfl) (Nat.le_of_ble_eq_true rfl) (Nat.le_of_ble_eq_true rfl) (Nat.le_of_ble_eq_true rfl)

/-! SealedBoard.move(II)I -/
abbrev rmX4_move : Room := { frames := 7, cells := 3, slots := 18, locals := 104 }
theorem kdX4_move : yX4_move.cls = RX4 ∧ yX4_move.cls ≠ "java/lang/invoke/MethodHandle" ∧ yX4_move.cls ≠ "java/lang/invoke/VarHandle" ∧ (parseMethodDescriptor yX4_move.desc).map (fun d => d.parameters.length) = some 2 := by decide +kernel
theorem inX4_move_X4 : ∀ w ∈ u_ws RX4 TX4 8, w ∈ wsX4_move := by decide +kernel
def fX4_move (kR : Int32) (fb : Nat → Int64) (rws : Nat → Int64) (nx : Int32) (ct : Int32) (p0 : Int32) (p1 : Int32) : Option (Nat × Int32 × Int32 × (Nat → Int64) × (Nat → Int64) × Int32 × Int32) := (zbd (fX4_requireSquare p0) (fun u1 => (if u1 = 0 then (zbd (fX4_requireSquare p1) (fun u3 => (if u3 = 0 then (zbd (fX2_refusalOfMove fb p0 p1) (fun u5 => (zbd (fX4_requireTaken kR u5) (fun u7 => (if u7.1 = 0 then (zbd (fX0_remember rws nx ct fb) (fun u9 => (zbd (fX2_takeMove fb p0 p1) (fun u11 => (some (0, u11.1, u7.2, u11.2, u9.1, u9.2.1, u9.2.2)))))) else (some (u7.1, (0 : Int32), u7.2, fb, rws, nx, ct))))))) else (some (u3, (0 : Int32), kR, fb, rws, nx, ct))))) else (some (u1, (0 : Int32), kR, fb, rws, nx, ct)))))
set_option maxHeartbeats 400000 in
set_option maxRecDepth 100000 in
theorem mX4_move (l : Launch) (hl9 : l.stackTraces = false) (G : va_G) (k : Nat → ClassId) (ad : Nat → Nat) (sz : Nat) (sv : Int32) (kE : Int32) (kR : Int32) (fb : Nat → Int64) (ft : Nat → Int64) (fs : Nat → Int64) (rws : Nat → Int64) (nx : Int32) (ct : Int32) (ch : Nat → Int32) (ln : Int32) (p0 : Int32) (p1 : Int32) (o : Nat × Int32 × Int32 × (Nat → Int64) × (Nat → Int64) × Int32 × Int32) (hF : fX4_move kR fb rws nx ct p0 p1 = some o) : zXI l yX4_move wsX4_move rmX4_move G k (zC ad k sv kE kR fb ft fs rws nx ct ch ln) sz [.ref (ad 0), .int p0, .int p1] 3 18 o.1 o.2.1 (zC ad k sv kE o.2.2.1 o.2.2.2.1 ft fs o.2.2.2.2.1 o.2.2.2.2.2.1 o.2.2.2.2.2.2 ch ln) := by
  refine zof_XI hl9 (cc := cX4_move) (nL := 3) (own := RX4) (rt := .int) (by decide) rfl rfl (Nat.le_of_ble_eq_true rfl) ?_
  intro p e s m args below meth c A Q C0 hK hA hret hthp htho ls hl hw
  have hl : lv_has ls 3 [(0, .ref (ad 0)), (1, .int p0), (2, .int p1)] := hl
  obtain ⟨hx, hb, hr, hml, hown, hts, hlocks⟩ := id C0
  obtain ⟨H, hH⟩ : ∃ z, z = s.heap := ⟨_, rfl⟩
  rw [← hH] at hw ⊢
  unfold fX4_move at hF
  refine lv_iload_n hx hb dX4_move_0 rfl (lv_at hl 1 rfl) ?_
  obtain ⟨u1, hq2, hF⟩ := zbd_t hF
  refine zgoXV (o0 := u1) (w' := (zC ad k sv kE kR fb ft fs rws nx ct ch ln)) hw hA [] rfl (zSx (As := [.int p0]) (rest := []) ⟨hx, hb, hml, hown, hts⟩ (mX4_requireSquare l hl9 G k  H.size  p0 u1 hq2) (va_cwS 1 hts gX4_move_X4_requireSquare rfl rfl rfl kdX4_requireSquare ⟨Nat.le_of_ble_eq_true rfl, Nat.le_of_ble_eq_true rfl⟩) hK hA hw [] rfl (by decide) rfl hl.1 rfl (Nat.le_of_ble_eq_true rfl) dX4_move_1 ⟨Nat.le_of_ble_eq_true rfl, Nat.le_of_ble_eq_true rfl⟩) rfl rfl rfl (fun h015 H locs q9 E9 ce9 hw g1 g2 g3 g4 => ?_) (fun h015 H locs hw => ?_)
  · have hF := zif_f h015 hF
    obtain rfl := Option.some.inj hF
    exact hthp _ _ _ _ _ _ _ _ _ _ h015 hw g1 g2 g3 g4 (Nat.le_of_ble_eq_true rfl) (Nat.le_of_ble_eq_true rfl)
  have hF := zif_t h015 hF
  refine lv_iload_n hx hb dX4_move_4 rfl (lv_at hl 2 rfl) ?_
  obtain ⟨u3, hq4, hF⟩ := zbd_t hF
  refine zgoXV (o0 := u3) (w' := (zC ad k sv kE kR fb ft fs rws nx ct ch ln)) hw hA [] rfl (zSx (As := [.int p1]) (rest := []) ⟨hx, hb, hml, hown, hts⟩ (mX4_requireSquare l hl9 G k  H.size  p1 u3 hq4) (va_cwS 1 hts gX4_move_X4_requireSquare rfl rfl rfl kdX4_requireSquare ⟨Nat.le_of_ble_eq_true rfl, Nat.le_of_ble_eq_true rfl⟩) hK hA hw [] rfl (by decide) rfl hl.1 rfl (Nat.le_of_ble_eq_true rfl) dX4_move_5 ⟨Nat.le_of_ble_eq_true rfl, Nat.le_of_ble_eq_true rfl⟩) rfl rfl rfl (fun h014 H locs q9 E9 ce9 hw g1 g2 g3 g4 => ?_) (fun h014 H locs hw => ?_)
  · have hF := zif_f h014 hF
    obtain rfl := Option.some.inj hF
    exact hthp _ _ _ _ _ _ _ _ _ _ h014 hw g1 g2 g3 g4 (Nat.le_of_ble_eq_true rfl) (Nat.le_of_ble_eq_true rfl)
  have hF := zif_t h014 hF
  refine lv_aload_n hx hb dX4_move_8 rfl (lv_at hl 0 rfl) ?_
  refine lv_aload_n hx hb dX4_move_9 rfl (lv_at hl 0 rfl) ?_
  refine va_get (D := G) (ci := 3) (v := .ref (ad 1)) (C := RX4) (T := TX4) (N := 8) hx hb hts inX4_move_X4 hown hK.1 hw.1 0 rfl rfl 0 (by decide) (hts (.fieldLink RX4 10 "SealedBoard" "board" "LSealedBoard$Position;") (by decide +kernel)) (fun _ h9 => h9) rfl dX4_move_10 ?_
  refine lv_iload_n hx hb dX4_move_13 rfl (lv_at hl 1 rfl) ?_
  refine lv_iload_n hx hb dX4_move_14 rfl (lv_at hl 2 rfl) ?_
  obtain ⟨u5, hq6, hF⟩ := zbd_t hF
  refine zgoI (w' := (zC ad k sv kE kR fb ft fs rws nx ct ch ln)) hw hA [1, 2] rfl (zV (As := [.int p0, .int p1]) (rest := [.ref (ad 0)]) ⟨hx, hb, hml, hown, hts⟩ (mX2_refusalOfMove l G k (ad 1) (ad 2) H.size fb p0 p1 u5 hq6) (cwV 2 hts gX4_move_X2_refusalOfMove rfl rfl rfl kdX2_refusalOfMove ⟨Nat.le_of_ble_eq_true rfl, Nat.le_of_ble_eq_true rfl⟩) hK hA hw [1, 2] rfl (by decide) 1 rfl rfl rfl rfl hl.1 rfl (Nat.le_of_ble_eq_true rfl) dX4_move_15 ⟨Nat.le_of_ble_eq_true rfl, Nat.le_of_ble_eq_true rfl⟩) rfl rfl rfl (fun H locs hw => ?_)
  obtain ⟨u7, hq8, hF⟩ := zbd_t hF
  refine zgoXVw (o0 := u7.1) (w' := (zC ad k sv kE u7.2 fb ft fs rws nx ct ch ln)) hw hA (zVxw (As := [.int u5]) (rest := []) ⟨hx, hb, hml, hown, hts⟩ (mX4_requireTaken l hl9 G k ad H.size sv kE kR fb ft fs rws nx ct ch ln u5 u7 hq8) (cwV 1 hts gX4_move_X4_requireTaken rfl rfl rfl kdX4_requireTaken ⟨Nat.le_of_ble_eq_true rfl, Nat.le_of_ble_eq_true rfl⟩) hK hA hw 0 rfl rfl rfl rfl hl.1 rfl (Nat.le_of_ble_eq_true rfl) dX4_move_18 ⟨Nat.le_of_ble_eq_true rfl, Nat.le_of_ble_eq_true rfl⟩) (fun h013 H locs q9 E9 ce9 hw g1 g2 g3 g4 => ?_) (fun h013 H locs hw => ?_)
  · have hF := zif_f h013 hF
    obtain rfl := Option.some.inj hF
    exact hthp _ _ _ _ _ _ _ _ _ _ h013 hw g1 g2 g3 g4 (Nat.le_of_ble_eq_true rfl) (Nat.le_of_ble_eq_true rfl)
  have hF := zif_t h013 hF
  refine lv_aload_n hx hb dX4_move_21 rfl (lv_at hl 0 rfl) ?_
  refine va_get (D := G) (ci := 3) (v := .ref (ad 7)) (C := RX4) (T := TX4) (N := 8) hx hb hts inX4_move_X4 hown hK.1 hw.1 0 rfl rfl 3 (by decide) (hts (.fieldLink RX4 25 "SealedBoard" "history" "LSealedBoard$History;") (by decide +kernel)) (fun _ h9 => h9) rfl dX4_move_22 ?_
  refine lv_aload_n hx hb dX4_move_25 rfl (lv_at hl 0 rfl) ?_
  refine va_get (D := G) (ci := 3) (v := .ref (ad 1)) (C := RX4) (T := TX4) (N := 8) hx hb hts inX4_move_X4 hown hK.1 hw.1 0 rfl rfl 0 (by decide) (hts (.fieldLink RX4 10 "SealedBoard" "board" "LSealedBoard$Position;") (by decide +kernel)) (fun _ h9 => h9) rfl dX4_move_26 ?_
  obtain ⟨u9, hq10, hF⟩ := zbd_t hF
  refine zgoV (w' := (zC ad k sv kE u7.2 fb ft fs u9.1 u9.2.1 u9.2.2 ch ln)) hw hA [7, 8, 1, 2] rfl (zV (As := [.ref (ad 1)]) (rest := []) ⟨hx, hb, hml, hown, hts⟩ (mX0_remember l G k (ad 7) (ad 8) (ad 1) (ad 2) H.size rws nx ct fb  u9 hq10) (cwV 1 hts gX4_move_X0_remember rfl rfl rfl kdX0_remember ⟨Nat.le_of_ble_eq_true rfl, Nat.le_of_ble_eq_true rfl⟩) hK hA hw [7, 8, 1, 2] rfl (by decide) 7 rfl rfl rfl rfl hl.1 rfl (Nat.le_of_ble_eq_true rfl) dX4_move_29 ⟨Nat.le_of_ble_eq_true rfl, Nat.le_of_ble_eq_true rfl⟩) rfl rfl rfl (fun H locs hw => ?_)
  refine lv_aload_n hx hb dX4_move_32 rfl (lv_at hl 0 rfl) ?_
  refine va_get (D := G) (ci := 3) (v := .ref (ad 1)) (C := RX4) (T := TX4) (N := 8) hx hb hts inX4_move_X4 hown hK.1 hw.1 0 rfl rfl 0 (by decide) (hts (.fieldLink RX4 10 "SealedBoard" "board" "LSealedBoard$Position;") (by decide +kernel)) (fun _ h9 => h9) rfl dX4_move_33 ?_
  refine lv_iload_n hx hb dX4_move_36 rfl (lv_at hl 1 rfl) ?_
  refine lv_iload_n hx hb dX4_move_37 rfl (lv_at hl 2 rfl) ?_
  obtain ⟨u11, hq12, hF⟩ := zbd_t hF
  refine zgoI (w' := (zC ad k sv kE u7.2 u11.2 ft fs u9.1 u9.2.1 u9.2.2 ch ln)) hw hA [1, 2] rfl (zV (As := [.int p0, .int p1]) (rest := []) ⟨hx, hb, hml, hown, hts⟩ (mX2_takeMove l G k (ad 1) (ad 2) H.size fb p0 p1 u11 hq12) (cwV 2 hts gX4_move_X2_takeMove rfl rfl rfl kdX2_takeMove ⟨Nat.le_of_ble_eq_true rfl, Nat.le_of_ble_eq_true rfl⟩) hK hA hw [1, 2] rfl (by decide) 1 rfl rfl rfl rfl hl.1 rfl (Nat.le_of_ble_eq_true rfl) dX4_move_38 ⟨Nat.le_of_ble_eq_true rfl, Nat.le_of_ble_eq_true rfl⟩) rfl rfl rfl (fun H locs hw => ?_)
  obtain rfl := Option.some.inj hF
  exact hret _ _ _ _ rfl rfl hw dX4_move_41

/-! SealedBoard.door(I)I -/
abbrev rmX4_door : Room := { frames := 7, cells := 2, slots := 12, locals := 103 }
theorem kdX4_door : yX4_door.cls = RX4 ∧ yX4_door.cls ≠ "java/lang/invoke/MethodHandle" ∧ yX4_door.cls ≠ "java/lang/invoke/VarHandle" ∧ (parseMethodDescriptor yX4_door.desc).map (fun d => d.parameters.length) = some 1 := by decide +kernel
theorem inX4_door_X4 : ∀ w ∈ u_ws RX4 TX4 8, w ∈ wsX4_door := by decide +kernel
def fX4_door (kR : Int32) (fb : Nat → Int64) (rws : Nat → Int64) (nx : Int32) (ct : Int32) (p0 : Int32) : Option (Nat × Int32 × Int32 × (Nat → Int64) × (Nat → Int64) × Int32 × Int32) := (zbd (fX4_requireSquare p0) (fun u1 => (if u1 = 0 then (zbd (fX2_refusalOfPurchase fb p0 (0 : Int32)) (fun u3 => (zbd (fX4_requireTaken kR u3) (fun u5 => (if u5.1 = 0 then (zbd (fX0_remember rws nx ct fb) (fun u7 => (zbd (fX2_takeDoor fb p0) (fun u9 => (some (0, u9.1, u5.2, u9.2, u7.1, u7.2.1, u7.2.2)))))) else (some (u5.1, (0 : Int32), u5.2, fb, rws, nx, ct))))))) else (some (u1, (0 : Int32), kR, fb, rws, nx, ct)))))
set_option maxHeartbeats 400000 in
set_option maxRecDepth 100000 in
theorem mX4_door (l : Launch) (hl9 : l.stackTraces = false) (G : va_G) (k : Nat → ClassId) (ad : Nat → Nat) (sz : Nat) (sv : Int32) (kE : Int32) (kR : Int32) (fb : Nat → Int64) (ft : Nat → Int64) (fs : Nat → Int64) (rws : Nat → Int64) (nx : Int32) (ct : Int32) (ch : Nat → Int32) (ln : Int32) (p0 : Int32) (o : Nat × Int32 × Int32 × (Nat → Int64) × (Nat → Int64) × Int32 × Int32) (hF : fX4_door kR fb rws nx ct p0 = some o) : zXI l yX4_door wsX4_door rmX4_door G k (zC ad k sv kE kR fb ft fs rws nx ct ch ln) sz [.ref (ad 0), .int p0] 2 12 o.1 o.2.1 (zC ad k sv kE o.2.2.1 o.2.2.2.1 ft fs o.2.2.2.2.1 o.2.2.2.2.2.1 o.2.2.2.2.2.2 ch ln) := by
  refine zof_XI hl9 (cc := cX4_door) (nL := 2) (own := RX4) (rt := .int) (by decide) rfl rfl (Nat.le_of_ble_eq_true rfl) ?_
  intro p e s m args below meth c A Q C0 hK hA hret hthp htho ls hl hw
  have hl : lv_has ls 2 [(0, .ref (ad 0)), (1, .int p0)] := hl
  obtain ⟨hx, hb, hr, hml, hown, hts, hlocks⟩ := id C0
  obtain ⟨H, hH⟩ : ∃ z, z = s.heap := ⟨_, rfl⟩
  rw [← hH] at hw ⊢
  unfold fX4_door at hF
  refine lv_iload_n hx hb dX4_door_0 rfl (lv_at hl 1 rfl) ?_
  obtain ⟨u1, hq2, hF⟩ := zbd_t hF
  refine zgoXV (o0 := u1) (w' := (zC ad k sv kE kR fb ft fs rws nx ct ch ln)) hw hA [] rfl (zSx (As := [.int p0]) (rest := []) ⟨hx, hb, hml, hown, hts⟩ (mX4_requireSquare l hl9 G k  H.size  p0 u1 hq2) (va_cwS 1 hts gX4_door_X4_requireSquare rfl rfl rfl kdX4_requireSquare ⟨Nat.le_of_ble_eq_true rfl, Nat.le_of_ble_eq_true rfl⟩) hK hA hw [] rfl (by decide) rfl hl.1 rfl (Nat.le_of_ble_eq_true rfl) dX4_door_1 ⟨Nat.le_of_ble_eq_true rfl, Nat.le_of_ble_eq_true rfl⟩) rfl rfl rfl (fun h012 H locs q9 E9 ce9 hw g1 g2 g3 g4 => ?_) (fun h012 H locs hw => ?_)
  · have hF := zif_f h012 hF
    obtain rfl := Option.some.inj hF
    exact hthp _ _ _ _ _ _ _ _ _ _ h012 hw g1 g2 g3 g4 (Nat.le_of_ble_eq_true rfl) (Nat.le_of_ble_eq_true rfl)
  have hF := zif_t h012 hF
  refine lv_aload_n hx hb dX4_door_4 rfl (lv_at hl 0 rfl) ?_
  refine lv_aload_n hx hb dX4_door_5 rfl (lv_at hl 0 rfl) ?_
  refine va_get (D := G) (ci := 3) (v := .ref (ad 1)) (C := RX4) (T := TX4) (N := 8) hx hb hts inX4_door_X4 hown hK.1 hw.1 0 rfl rfl 0 (by decide) (hts (.fieldLink RX4 10 "SealedBoard" "board" "LSealedBoard$Position;") (by decide +kernel)) (fun _ h9 => h9) rfl dX4_door_6 ?_
  refine lv_iload_n hx hb dX4_door_9 rfl (lv_at hl 1 rfl) ?_
  refine lv_iconst (v := (0 : Int32)) hx hb dX4_door_10 (by decide) ?_
  obtain ⟨u3, hq4, hF⟩ := zbd_t hF
  refine zgoI (w' := (zC ad k sv kE kR fb ft fs rws nx ct ch ln)) hw hA [1, 2] rfl (zV (As := [.int p0, .int (0 : Int32)]) (rest := [.ref (ad 0)]) ⟨hx, hb, hml, hown, hts⟩ (mX2_refusalOfPurchase l G k (ad 1) (ad 2) H.size fb p0 (0 : Int32) u3 hq4) (cwV 2 hts gX4_door_X2_refusalOfPurchase rfl rfl rfl kdX2_refusalOfPurchase ⟨Nat.le_of_ble_eq_true rfl, Nat.le_of_ble_eq_true rfl⟩) hK hA hw [1, 2] rfl (by decide) 1 rfl rfl rfl rfl hl.1 rfl (Nat.le_of_ble_eq_true rfl) dX4_door_11 ⟨Nat.le_of_ble_eq_true rfl, Nat.le_of_ble_eq_true rfl⟩) rfl rfl rfl (fun H locs hw => ?_)
  obtain ⟨u5, hq6, hF⟩ := zbd_t hF
  refine zgoXVw (o0 := u5.1) (w' := (zC ad k sv kE u5.2 fb ft fs rws nx ct ch ln)) hw hA (zVxw (As := [.int u3]) (rest := []) ⟨hx, hb, hml, hown, hts⟩ (mX4_requireTaken l hl9 G k ad H.size sv kE kR fb ft fs rws nx ct ch ln u3 u5 hq6) (cwV 1 hts gX4_door_X4_requireTaken rfl rfl rfl kdX4_requireTaken ⟨Nat.le_of_ble_eq_true rfl, Nat.le_of_ble_eq_true rfl⟩) hK hA hw 0 rfl rfl rfl rfl hl.1 rfl (Nat.le_of_ble_eq_true rfl) dX4_door_14 ⟨Nat.le_of_ble_eq_true rfl, Nat.le_of_ble_eq_true rfl⟩) (fun h011 H locs q9 E9 ce9 hw g1 g2 g3 g4 => ?_) (fun h011 H locs hw => ?_)
  · have hF := zif_f h011 hF
    obtain rfl := Option.some.inj hF
    exact hthp _ _ _ _ _ _ _ _ _ _ h011 hw g1 g2 g3 g4 (Nat.le_of_ble_eq_true rfl) (Nat.le_of_ble_eq_true rfl)
  have hF := zif_t h011 hF
  refine lv_aload_n hx hb dX4_door_17 rfl (lv_at hl 0 rfl) ?_
  refine va_get (D := G) (ci := 3) (v := .ref (ad 7)) (C := RX4) (T := TX4) (N := 8) hx hb hts inX4_door_X4 hown hK.1 hw.1 0 rfl rfl 3 (by decide) (hts (.fieldLink RX4 25 "SealedBoard" "history" "LSealedBoard$History;") (by decide +kernel)) (fun _ h9 => h9) rfl dX4_door_18 ?_
  refine lv_aload_n hx hb dX4_door_21 rfl (lv_at hl 0 rfl) ?_
  refine va_get (D := G) (ci := 3) (v := .ref (ad 1)) (C := RX4) (T := TX4) (N := 8) hx hb hts inX4_door_X4 hown hK.1 hw.1 0 rfl rfl 0 (by decide) (hts (.fieldLink RX4 10 "SealedBoard" "board" "LSealedBoard$Position;") (by decide +kernel)) (fun _ h9 => h9) rfl dX4_door_22 ?_
  obtain ⟨u7, hq8, hF⟩ := zbd_t hF
  refine zgoV (w' := (zC ad k sv kE u5.2 fb ft fs u7.1 u7.2.1 u7.2.2 ch ln)) hw hA [7, 8, 1, 2] rfl (zV (As := [.ref (ad 1)]) (rest := []) ⟨hx, hb, hml, hown, hts⟩ (mX0_remember l G k (ad 7) (ad 8) (ad 1) (ad 2) H.size rws nx ct fb  u7 hq8) (cwV 1 hts gX4_door_X0_remember rfl rfl rfl kdX0_remember ⟨Nat.le_of_ble_eq_true rfl, Nat.le_of_ble_eq_true rfl⟩) hK hA hw [7, 8, 1, 2] rfl (by decide) 7 rfl rfl rfl rfl hl.1 rfl (Nat.le_of_ble_eq_true rfl) dX4_door_25 ⟨Nat.le_of_ble_eq_true rfl, Nat.le_of_ble_eq_true rfl⟩) rfl rfl rfl (fun H locs hw => ?_)
  refine lv_aload_n hx hb dX4_door_28 rfl (lv_at hl 0 rfl) ?_
  refine va_get (D := G) (ci := 3) (v := .ref (ad 1)) (C := RX4) (T := TX4) (N := 8) hx hb hts inX4_door_X4 hown hK.1 hw.1 0 rfl rfl 0 (by decide) (hts (.fieldLink RX4 10 "SealedBoard" "board" "LSealedBoard$Position;") (by decide +kernel)) (fun _ h9 => h9) rfl dX4_door_29 ?_
  refine lv_iload_n hx hb dX4_door_32 rfl (lv_at hl 1 rfl) ?_
  obtain ⟨u9, hq10, hF⟩ := zbd_t hF
  refine zgoI (w' := (zC ad k sv kE u5.2 u9.2 ft fs u7.1 u7.2.1 u7.2.2 ch ln)) hw hA [1, 2] rfl (zV (As := [.int p0]) (rest := []) ⟨hx, hb, hml, hown, hts⟩ (mX2_takeDoor l G k (ad 1) (ad 2) H.size fb p0 u9 hq10) (cwV 1 hts gX4_door_X2_takeDoor rfl rfl rfl kdX2_takeDoor ⟨Nat.le_of_ble_eq_true rfl, Nat.le_of_ble_eq_true rfl⟩) hK hA hw [1, 2] rfl (by decide) 1 rfl rfl rfl rfl hl.1 rfl (Nat.le_of_ble_eq_true rfl) dX4_door_33 ⟨Nat.le_of_ble_eq_true rfl, Nat.le_of_ble_eq_true rfl⟩) rfl rfl rfl (fun H locs hw => ?_)
  obtain rfl := Option.some.inj hF
  exact hret _ _ _ _ rfl rfl hw dX4_door_36

/-! SealedBoard.buy(I)I -/
abbrev rmX4_buy : Room := { frames := 7, cells := 2, slots := 12, locals := 103 }
theorem kdX4_buy : yX4_buy.cls = RX4 ∧ yX4_buy.cls ≠ "java/lang/invoke/MethodHandle" ∧ yX4_buy.cls ≠ "java/lang/invoke/VarHandle" ∧ (parseMethodDescriptor yX4_buy.desc).map (fun d => d.parameters.length) = some 1 := by decide +kernel
theorem inX4_buy_X4 : ∀ w ∈ u_ws RX4 TX4 8, w ∈ wsX4_buy := by decide +kernel
def fX4_buy (kR : Int32) (fb : Nat → Int64) (rws : Nat → Int64) (nx : Int32) (ct : Int32) (p0 : Int32) : Option (Nat × Int32 × Int32 × (Nat → Int64) × (Nat → Int64) × Int32 × Int32) := (zbd (fX4_requireSquare p0) (fun u1 => (if u1 = 0 then (zbd (fX2_refusalOfPurchase fb p0 (1 : Int32)) (fun u3 => (zbd (fX4_requireTaken kR u3) (fun u5 => (if u5.1 = 0 then (zbd (fX0_remember rws nx ct fb) (fun u7 => (zbd (fX2_takePiece fb p0) (fun u9 => (some (0, u9.1, u5.2, u9.2, u7.1, u7.2.1, u7.2.2)))))) else (some (u5.1, (0 : Int32), u5.2, fb, rws, nx, ct))))))) else (some (u1, (0 : Int32), kR, fb, rws, nx, ct)))))
set_option maxHeartbeats 400000 in
set_option maxRecDepth 100000 in
theorem mX4_buy (l : Launch) (hl9 : l.stackTraces = false) (G : va_G) (k : Nat → ClassId) (ad : Nat → Nat) (sz : Nat) (sv : Int32) (kE : Int32) (kR : Int32) (fb : Nat → Int64) (ft : Nat → Int64) (fs : Nat → Int64) (rws : Nat → Int64) (nx : Int32) (ct : Int32) (ch : Nat → Int32) (ln : Int32) (p0 : Int32) (o : Nat × Int32 × Int32 × (Nat → Int64) × (Nat → Int64) × Int32 × Int32) (hF : fX4_buy kR fb rws nx ct p0 = some o) : zXI l yX4_buy wsX4_buy rmX4_buy G k (zC ad k sv kE kR fb ft fs rws nx ct ch ln) sz [.ref (ad 0), .int p0] 2 12 o.1 o.2.1 (zC ad k sv kE o.2.2.1 o.2.2.2.1 ft fs o.2.2.2.2.1 o.2.2.2.2.2.1 o.2.2.2.2.2.2 ch ln) := by
  refine zof_XI hl9 (cc := cX4_buy) (nL := 2) (own := RX4) (rt := .int) (by decide) rfl rfl (Nat.le_of_ble_eq_true rfl) ?_
  intro p e s m args below meth c A Q C0 hK hA hret hthp htho ls hl hw
  have hl : lv_has ls 2 [(0, .ref (ad 0)), (1, .int p0)] := hl
  obtain ⟨hx, hb, hr, hml, hown, hts, hlocks⟩ := id C0
  obtain ⟨H, hH⟩ : ∃ z, z = s.heap := ⟨_, rfl⟩
  rw [← hH] at hw ⊢
  unfold fX4_buy at hF
  refine lv_iload_n hx hb dX4_buy_0 rfl (lv_at hl 1 rfl) ?_
  obtain ⟨u1, hq2, hF⟩ := zbd_t hF
  refine zgoXV (o0 := u1) (w' := (zC ad k sv kE kR fb ft fs rws nx ct ch ln)) hw hA [] rfl (zSx (As := [.int p0]) (rest := []) ⟨hx, hb, hml, hown, hts⟩ (mX4_requireSquare l hl9 G k  H.size  p0 u1 hq2) (va_cwS 1 hts gX4_buy_X4_requireSquare rfl rfl rfl kdX4_requireSquare ⟨Nat.le_of_ble_eq_true rfl, Nat.le_of_ble_eq_true rfl⟩) hK hA hw [] rfl (by decide) rfl hl.1 rfl (Nat.le_of_ble_eq_true rfl) dX4_buy_1 ⟨Nat.le_of_ble_eq_true rfl, Nat.le_of_ble_eq_true rfl⟩) rfl rfl rfl (fun h012 H locs q9 E9 ce9 hw g1 g2 g3 g4 => ?_) (fun h012 H locs hw => ?_)
  · have hF := zif_f h012 hF
    obtain rfl := Option.some.inj hF
    exact hthp _ _ _ _ _ _ _ _ _ _ h012 hw g1 g2 g3 g4 (Nat.le_of_ble_eq_true rfl) (Nat.le_of_ble_eq_true rfl)
  have hF := zif_t h012 hF
  refine lv_aload_n hx hb dX4_buy_4 rfl (lv_at hl 0 rfl) ?_
  refine lv_aload_n hx hb dX4_buy_5 rfl (lv_at hl 0 rfl) ?_
  refine va_get (D := G) (ci := 3) (v := .ref (ad 1)) (C := RX4) (T := TX4) (N := 8) hx hb hts inX4_buy_X4 hown hK.1 hw.1 0 rfl rfl 0 (by decide) (hts (.fieldLink RX4 10 "SealedBoard" "board" "LSealedBoard$Position;") (by decide +kernel)) (fun _ h9 => h9) rfl dX4_buy_6 ?_
  refine lv_iload_n hx hb dX4_buy_9 rfl (lv_at hl 1 rfl) ?_
  refine lv_iconst (v := (1 : Int32)) hx hb dX4_buy_10 (by decide) ?_
  obtain ⟨u3, hq4, hF⟩ := zbd_t hF
  refine zgoI (w' := (zC ad k sv kE kR fb ft fs rws nx ct ch ln)) hw hA [1, 2] rfl (zV (As := [.int p0, .int (1 : Int32)]) (rest := [.ref (ad 0)]) ⟨hx, hb, hml, hown, hts⟩ (mX2_refusalOfPurchase l G k (ad 1) (ad 2) H.size fb p0 (1 : Int32) u3 hq4) (cwV 2 hts gX4_buy_X2_refusalOfPurchase rfl rfl rfl kdX2_refusalOfPurchase ⟨Nat.le_of_ble_eq_true rfl, Nat.le_of_ble_eq_true rfl⟩) hK hA hw [1, 2] rfl (by decide) 1 rfl rfl rfl rfl hl.1 rfl (Nat.le_of_ble_eq_true rfl) dX4_buy_11 ⟨Nat.le_of_ble_eq_true rfl, Nat.le_of_ble_eq_true rfl⟩) rfl rfl rfl (fun H locs hw => ?_)
  obtain ⟨u5, hq6, hF⟩ := zbd_t hF
  refine zgoXVw (o0 := u5.1) (w' := (zC ad k sv kE u5.2 fb ft fs rws nx ct ch ln)) hw hA (zVxw (As := [.int u3]) (rest := []) ⟨hx, hb, hml, hown, hts⟩ (mX4_requireTaken l hl9 G k ad H.size sv kE kR fb ft fs rws nx ct ch ln u3 u5 hq6) (cwV 1 hts gX4_buy_X4_requireTaken rfl rfl rfl kdX4_requireTaken ⟨Nat.le_of_ble_eq_true rfl, Nat.le_of_ble_eq_true rfl⟩) hK hA hw 0 rfl rfl rfl rfl hl.1 rfl (Nat.le_of_ble_eq_true rfl) dX4_buy_14 ⟨Nat.le_of_ble_eq_true rfl, Nat.le_of_ble_eq_true rfl⟩) (fun h011 H locs q9 E9 ce9 hw g1 g2 g3 g4 => ?_) (fun h011 H locs hw => ?_)
  · have hF := zif_f h011 hF
    obtain rfl := Option.some.inj hF
    exact hthp _ _ _ _ _ _ _ _ _ _ h011 hw g1 g2 g3 g4 (Nat.le_of_ble_eq_true rfl) (Nat.le_of_ble_eq_true rfl)
  have hF := zif_t h011 hF
  refine lv_aload_n hx hb dX4_buy_17 rfl (lv_at hl 0 rfl) ?_
  refine va_get (D := G) (ci := 3) (v := .ref (ad 7)) (C := RX4) (T := TX4) (N := 8) hx hb hts inX4_buy_X4 hown hK.1 hw.1 0 rfl rfl 3 (by decide) (hts (.fieldLink RX4 25 "SealedBoard" "history" "LSealedBoard$History;") (by decide +kernel)) (fun _ h9 => h9) rfl dX4_buy_18 ?_
  refine lv_aload_n hx hb dX4_buy_21 rfl (lv_at hl 0 rfl) ?_
  refine va_get (D := G) (ci := 3) (v := .ref (ad 1)) (C := RX4) (T := TX4) (N := 8) hx hb hts inX4_buy_X4 hown hK.1 hw.1 0 rfl rfl 0 (by decide) (hts (.fieldLink RX4 10 "SealedBoard" "board" "LSealedBoard$Position;") (by decide +kernel)) (fun _ h9 => h9) rfl dX4_buy_22 ?_
  obtain ⟨u7, hq8, hF⟩ := zbd_t hF
  refine zgoV (w' := (zC ad k sv kE u5.2 fb ft fs u7.1 u7.2.1 u7.2.2 ch ln)) hw hA [7, 8, 1, 2] rfl (zV (As := [.ref (ad 1)]) (rest := []) ⟨hx, hb, hml, hown, hts⟩ (mX0_remember l G k (ad 7) (ad 8) (ad 1) (ad 2) H.size rws nx ct fb  u7 hq8) (cwV 1 hts gX4_buy_X0_remember rfl rfl rfl kdX0_remember ⟨Nat.le_of_ble_eq_true rfl, Nat.le_of_ble_eq_true rfl⟩) hK hA hw [7, 8, 1, 2] rfl (by decide) 7 rfl rfl rfl rfl hl.1 rfl (Nat.le_of_ble_eq_true rfl) dX4_buy_25 ⟨Nat.le_of_ble_eq_true rfl, Nat.le_of_ble_eq_true rfl⟩) rfl rfl rfl (fun H locs hw => ?_)
  refine lv_aload_n hx hb dX4_buy_28 rfl (lv_at hl 0 rfl) ?_
  refine va_get (D := G) (ci := 3) (v := .ref (ad 1)) (C := RX4) (T := TX4) (N := 8) hx hb hts inX4_buy_X4 hown hK.1 hw.1 0 rfl rfl 0 (by decide) (hts (.fieldLink RX4 10 "SealedBoard" "board" "LSealedBoard$Position;") (by decide +kernel)) (fun _ h9 => h9) rfl dX4_buy_29 ?_
  refine lv_iload_n hx hb dX4_buy_32 rfl (lv_at hl 1 rfl) ?_
  obtain ⟨u9, hq10, hF⟩ := zbd_t hF
  refine zgoI (w' := (zC ad k sv kE u5.2 u9.2 ft fs u7.1 u7.2.1 u7.2.2 ch ln)) hw hA [1, 2] rfl (zV (As := [.int p0]) (rest := []) ⟨hx, hb, hml, hown, hts⟩ (mX2_takePiece l G k (ad 1) (ad 2) H.size fb p0 u9 hq10) (cwV 1 hts gX4_buy_X2_takePiece rfl rfl rfl kdX2_takePiece ⟨Nat.le_of_ble_eq_true rfl, Nat.le_of_ble_eq_true rfl⟩) hK hA hw [1, 2] rfl (by decide) 1 rfl rfl rfl rfl hl.1 rfl (Nat.le_of_ble_eq_true rfl) dX4_buy_33 ⟨Nat.le_of_ble_eq_true rfl, Nat.le_of_ble_eq_true rfl⟩) rfl rfl rfl (fun H locs hw => ?_)
  obtain rfl := Option.some.inj hF
  exact hret _ _ _ _ rfl rfl hw dX4_buy_36

/-! SealedBoard.square(II)I -/
abbrev rmX4_square : Room := { frames := 7, cells := 2, slots := 12, locals := 102 }
theorem naX4_square_2 : ∀ w ∈ (vx_atS RX4 74 "java/lang/IllegalArgumentException" zNm).filter goodWord, w ∈ wsX4_square := by decide +kernel
theorem kdX4_square : yX4_square.cls = RX4 ∧ yX4_square.cls ≠ "java/lang/invoke/MethodHandle" ∧ yX4_square.cls ≠ "java/lang/invoke/VarHandle" ∧ (parseMethodDescriptor yX4_square.desc).map (fun d => d.parameters.length) = some 2 := by decide +kernel
theorem inX4_square_X4 : ∀ w ∈ u_ws RX4 TX4 8, w ∈ wsX4_square := by decide +kernel
def fX4_square (fb : Nat → Int64) (p0 : Int32) (p1 : Int32) : Option (Nat × Int32) := (zbd (fX4_requireSquare p0) (fun u1 => (if u1 = 0 then (if p1 < 0 then (some (2, (0 : Int32))) else (if p1 < (4 : Int32) then (if p1 = (0 : Int32) then (zbd (fX2_whatOn fb p0) (fun u4 => (some (0, u4)))) else (if p1 = (1 : Int32) then (zbd (fX2_sideOn fb p0) (fun u7 => (some (0, u7)))) else (if p1 = (2 : Int32) then (zbd (fX2_kindOn fb p0) (fun u10 => (some (0, u10)))) else (zbd (fX2_allDoors fb) (fun u12 => (zbd (fX3_has u12 p0) (fun u14 => (if u14 = 0 then (some (0, (0 : Int32))) else (some (0, (1 : Int32))))))))))) else (some (2, (0 : Int32))))) else (some (u1, (0 : Int32))))))
set_option maxHeartbeats 400000 in
set_option maxRecDepth 100000 in
theorem mX4_square (l : Launch) (hl9 : l.stackTraces = false) (G : va_G) (k : Nat → ClassId) (ad : Nat → Nat) (sz : Nat) (sv : Int32) (kE : Int32) (kR : Int32) (fb : Nat → Int64) (ft : Nat → Int64) (fs : Nat → Int64) (rws : Nat → Int64) (nx : Int32) (ct : Int32) (ch : Nat → Int32) (ln : Int32) (p0 : Int32) (p1 : Int32) (o : Nat × Int32) (hF : fX4_square fb p0 p1 = some o) : zXI l yX4_square wsX4_square rmX4_square G k (zC ad k sv kE kR fb ft fs rws nx ct ch ln) sz [.ref (ad 0), .int p0, .int p1] 2 12 o.1 o.2 (zC ad k sv kE kR fb ft fs rws nx ct ch ln) := by
  refine zof_XI hl9 (cc := cX4_square) (nL := 3) (own := RX4) (rt := .int) (by decide) rfl rfl (Nat.le_of_ble_eq_true rfl) ?_
  intro p e s m args below meth c A Q C0 hK hA hret hthp htho ls hl hw
  have hl : lv_has ls 3 [(0, .ref (ad 0)), (1, .int p0), (2, .int p1)] := hl
  obtain ⟨hx, hb, hr, hml, hown, hts, hlocks⟩ := id C0
  obtain ⟨H, hH⟩ : ∃ z, z = s.heap := ⟨_, rfl⟩
  rw [← hH] at hw ⊢
  unfold fX4_square at hF
  refine lv_iload_n hx hb dX4_square_0 rfl (lv_at hl 1 rfl) ?_
  obtain ⟨u1, hq2, hF⟩ := zbd_t hF
  refine zgoXV (o0 := u1) (w' := (zC ad k sv kE kR fb ft fs rws nx ct ch ln)) hw hA [] rfl (zSx (As := [.int p0]) (rest := []) ⟨hx, hb, hml, hown, hts⟩ (mX4_requireSquare l hl9 G k  H.size  p0 u1 hq2) (va_cwS 1 hts gX4_square_X4_requireSquare rfl rfl rfl kdX4_requireSquare ⟨Nat.le_of_ble_eq_true rfl, Nat.le_of_ble_eq_true rfl⟩) hK hA hw [] rfl (by decide) rfl hl.1 rfl (Nat.le_of_ble_eq_true rfl) dX4_square_1 ⟨Nat.le_of_ble_eq_true rfl, Nat.le_of_ble_eq_true rfl⟩) rfl rfl rfl (fun h016 H locs q9 E9 ce9 hw g1 g2 g3 g4 => ?_) (fun h016 H locs hw => ?_)
  · have hF := zif_f h016 hF
    obtain rfl := Option.some.inj hF
    exact hthp _ _ _ _ _ _ _ _ _ _ h016 hw g1 g2 g3 g4 (Nat.le_of_ble_eq_true rfl) (Nat.le_of_ble_eq_true rfl)
  have hF := zif_t h016 hF
  refine lv_iload_n hx hb dX4_square_4 rfl (lv_at hl 2 rfl) ?_
  refine lv_if_lt (tgt := 13) hx hb dX4_square_5 (by decide) (fun hc => ?_) (fun hc => ?_)
  · have hF := zif_t hc hF
    obtain rfl := Option.some.inj hF
    exact htho _ _ _ _ _ "java/lang/IllegalArgumentException" 70 127 74 _ _ "no such number of a square" (show (2 : Nat) ≠ 0 by decide) rfl hw (hl.1.trans hml.symm) (by decide +kernel) (by decide +kernel) (hts (.classLink RX4 70 "java/lang/IllegalArgumentException") (by decide +kernel)) (hts (.initialized "java/lang/IllegalArgumentException") (by decide +kernel)) (vx_hat (B := zBad "java/lang/IllegalArgumentException") (fun w hw9 => hts w (naX4_square_2 w hw9)) (by decide +kernel) (zbad hK.2 (by decide))) (by decide +kernel) ⟨dX4_square_13, dX4_square_16, Or.inl ⟨dX4_square_17, dX4_square_19, dX4_square_22⟩⟩ (Nat.le_of_ble_eq_true rfl) (Nat.le_of_ble_eq_true rfl) (Nat.le_of_ble_eq_true rfl) (Nat.le_of_ble_eq_true rfl) (Nat.le_of_ble_eq_true rfl) (Nat.le_of_ble_eq_true rfl)
  · have hF := zif_f hc hF
    refine lv_iload_n hx hb dX4_square_8 rfl (lv_at hl 2 rfl) ?_
    refine lv_iconst (v := (4 : Int32)) hx hb dX4_square_9 (by decide) ?_
    refine lv_icmp_lt (tgt := 23) hx hb dX4_square_10 (by decide) (fun hc => ?_) (fun hc => ?_)
    · have hF := zif_t hc hF
      refine lv_iload_n hx hb dX4_square_23 rfl (lv_at hl 2 rfl) ?_
      by_cases hc3 : p1 = (0 : Int32)
      · have hF := zif_t hc3 hF
        refine lv_tableIn (tgt := 52) (off := 28) hx hb dX4_square_24 (by rw [hc3]; decide) (by rw [hc3]; decide) (by rw [hc3]; rfl) (by decide) ?_
        refine lv_aload_n hx hb dX4_square_52 rfl (lv_at hl 0 rfl) ?_
        refine va_get (D := G) (ci := 3) (v := .ref (ad 1)) (C := RX4) (T := TX4) (N := 8) hx hb hts inX4_square_X4 hown hK.1 hw.1 0 rfl rfl 0 (by decide) (hts (.fieldLink RX4 10 "SealedBoard" "board" "LSealedBoard$Position;") (by decide +kernel)) (fun _ h9 => h9) rfl dX4_square_53 ?_
        refine lv_iload_n hx hb dX4_square_56 rfl (lv_at hl 1 rfl) ?_
        obtain ⟨u4, hq5, hF⟩ := zbd_t hF
        refine zgoI (w' := (zC ad k sv kE kR fb ft fs rws nx ct ch ln)) hw hA [1, 2] rfl (zV (As := [.int p0]) (rest := []) ⟨hx, hb, hml, hown, hts⟩ (mX2_whatOn l G k (ad 1) (ad 2) H.size fb p0 u4 hq5) (cwV 1 hts gX4_square_X2_whatOn rfl rfl rfl kdX2_whatOn ⟨Nat.le_of_ble_eq_true rfl, Nat.le_of_ble_eq_true rfl⟩) hK hA hw [1, 2] rfl (by decide) 1 rfl rfl rfl rfl hl.1 rfl (Nat.le_of_ble_eq_true rfl) dX4_square_57 ⟨Nat.le_of_ble_eq_true rfl, Nat.le_of_ble_eq_true rfl⟩) rfl rfl rfl (fun H locs hw => ?_)
        obtain rfl := Option.some.inj hF
        refine W.widen (k := 2) (n := 12) (Nat.le_of_ble_eq_true rfl) (Nat.le_of_ble_eq_true rfl) ?_
        exact hret _ _ _ _ rfl rfl hw dX4_square_60
      have hF := zif_f hc3 hF
      by_cases hc6 : p1 = (1 : Int32)
      · have hF := zif_t hc6 hF
        refine lv_tableIn (tgt := 61) (off := 37) hx hb dX4_square_24 (by rw [hc6]; decide) (by rw [hc6]; decide) (by rw [hc6]; rfl) (by decide) ?_
        refine lv_aload_n hx hb dX4_square_61 rfl (lv_at hl 0 rfl) ?_
        refine va_get (D := G) (ci := 3) (v := .ref (ad 1)) (C := RX4) (T := TX4) (N := 8) hx hb hts inX4_square_X4 hown hK.1 hw.1 0 rfl rfl 0 (by decide) (hts (.fieldLink RX4 10 "SealedBoard" "board" "LSealedBoard$Position;") (by decide +kernel)) (fun _ h9 => h9) rfl dX4_square_62 ?_
        refine lv_iload_n hx hb dX4_square_65 rfl (lv_at hl 1 rfl) ?_
        obtain ⟨u7, hq8, hF⟩ := zbd_t hF
        refine zgoI (w' := (zC ad k sv kE kR fb ft fs rws nx ct ch ln)) hw hA [1, 2] rfl (zV (As := [.int p0]) (rest := []) ⟨hx, hb, hml, hown, hts⟩ (mX2_sideOn l G k (ad 1) (ad 2) H.size fb p0 u7 hq8) (cwV 1 hts gX4_square_X2_sideOn rfl rfl rfl kdX2_sideOn ⟨Nat.le_of_ble_eq_true rfl, Nat.le_of_ble_eq_true rfl⟩) hK hA hw [1, 2] rfl (by decide) 1 rfl rfl rfl rfl hl.1 rfl (Nat.le_of_ble_eq_true rfl) dX4_square_66 ⟨Nat.le_of_ble_eq_true rfl, Nat.le_of_ble_eq_true rfl⟩) rfl rfl rfl (fun H locs hw => ?_)
        obtain rfl := Option.some.inj hF
        refine W.widen (k := 2) (n := 12) (Nat.le_of_ble_eq_true rfl) (Nat.le_of_ble_eq_true rfl) ?_
        exact hret _ _ _ _ rfl rfl hw dX4_square_69
      have hF := zif_f hc6 hF
      by_cases hc9 : p1 = (2 : Int32)
      · have hF := zif_t hc9 hF
        refine lv_tableIn (tgt := 70) (off := 46) hx hb dX4_square_24 (by rw [hc9]; decide) (by rw [hc9]; decide) (by rw [hc9]; rfl) (by decide) ?_
        refine lv_aload_n hx hb dX4_square_70 rfl (lv_at hl 0 rfl) ?_
        refine va_get (D := G) (ci := 3) (v := .ref (ad 1)) (C := RX4) (T := TX4) (N := 8) hx hb hts inX4_square_X4 hown hK.1 hw.1 0 rfl rfl 0 (by decide) (hts (.fieldLink RX4 10 "SealedBoard" "board" "LSealedBoard$Position;") (by decide +kernel)) (fun _ h9 => h9) rfl dX4_square_71 ?_
        refine lv_iload_n hx hb dX4_square_74 rfl (lv_at hl 1 rfl) ?_
        obtain ⟨u10, hq11, hF⟩ := zbd_t hF
        refine zgoI (w' := (zC ad k sv kE kR fb ft fs rws nx ct ch ln)) hw hA [1, 2] rfl (zV (As := [.int p0]) (rest := []) ⟨hx, hb, hml, hown, hts⟩ (mX2_kindOn l G k (ad 1) (ad 2) H.size fb p0 u10 hq11) (cwV 1 hts gX4_square_X2_kindOn rfl rfl rfl kdX2_kindOn ⟨Nat.le_of_ble_eq_true rfl, Nat.le_of_ble_eq_true rfl⟩) hK hA hw [1, 2] rfl (by decide) 1 rfl rfl rfl rfl hl.1 rfl (Nat.le_of_ble_eq_true rfl) dX4_square_75 ⟨Nat.le_of_ble_eq_true rfl, Nat.le_of_ble_eq_true rfl⟩) rfl rfl rfl (fun H locs hw => ?_)
        obtain rfl := Option.some.inj hF
        refine W.widen (k := 2) (n := 12) (Nat.le_of_ble_eq_true rfl) (Nat.le_of_ble_eq_true rfl) ?_
        exact hret _ _ _ _ rfl rfl hw dX4_square_78
      have hF := zif_f hc9 hF
      refine lv_tableOut (tgt := 79) hx hb dX4_square_24 (by
        have q0 : p1.toInt ≠ 0 := fun q => hc3 (Int32.toInt_inj.mp q)
        have q1 : p1.toInt ≠ 1 := fun q => hc6 (Int32.toInt_inj.mp q)
        have q2 : p1.toInt ≠ 2 := fun q => hc9 (Int32.toInt_inj.mp q)
        omega) (by decide) ?_
      refine lv_aload_n hx hb dX4_square_79 rfl (lv_at hl 0 rfl) ?_
      refine va_get (D := G) (ci := 3) (v := .ref (ad 1)) (C := RX4) (T := TX4) (N := 8) hx hb hts inX4_square_X4 hown hK.1 hw.1 0 rfl rfl 0 (by decide) (hts (.fieldLink RX4 10 "SealedBoard" "board" "LSealedBoard$Position;") (by decide +kernel)) (fun _ h9 => h9) rfl dX4_square_80 ?_
      obtain ⟨u12, hq13, hF⟩ := zbd_t hF
      refine zgoL (w' := (zC ad k sv kE kR fb ft fs rws nx ct ch ln)) hw hA [1, 2] rfl (zV (As := []) (rest := []) ⟨hx, hb, hml, hown, hts⟩ (mX2_allDoors l G k (ad 1) (ad 2) H.size fb  u12 hq13) (cwV 0 hts gX4_square_X2_allDoors rfl rfl rfl kdX2_allDoors ⟨Nat.le_of_ble_eq_true rfl, Nat.le_of_ble_eq_true rfl⟩) hK hA hw [1, 2] rfl (by decide) 1 rfl rfl rfl rfl hl.1 rfl (Nat.le_of_ble_eq_true rfl) dX4_square_83 ⟨Nat.le_of_ble_eq_true rfl, Nat.le_of_ble_eq_true rfl⟩) rfl rfl rfl (fun H locs hw => ?_)
      refine lv_iload_n hx hb dX4_square_86 rfl (lv_at hl 1 rfl) ?_
      obtain ⟨u14, hq15, hF⟩ := zbd_t hF
      refine zgoI (w' := (zC ad k sv kE kR fb ft fs rws nx ct ch ln)) hw hA [] rfl (zS (As := [.long u12, .int p0]) (rest := []) ⟨hx, hb, hml, hown, hts⟩ (mX3_has l G k  H.size  u12 p0 u14 hq15) (va_cwS 2 hts gX4_square_X3_has rfl rfl rfl kdX3_has ⟨Nat.le_of_ble_eq_true rfl, Nat.le_of_ble_eq_true rfl⟩) hK hA hw [] rfl (by decide) rfl hl.1 rfl (Nat.le_of_ble_eq_true rfl) dX4_square_87 ⟨Nat.le_of_ble_eq_true rfl, Nat.le_of_ble_eq_true rfl⟩) rfl rfl rfl (fun H locs hw => ?_)
      refine lv_if_eq (tgt := 97) hx hb dX4_square_90 (by decide) (fun hc => ?_) (fun hc => ?_)
      · have hF := zif_t hc hF
        refine lv_iconst (v := (0 : Int32)) hx hb dX4_square_97 (by decide) ?_
        obtain rfl := Option.some.inj hF
        refine W.widen (k := 2) (n := 12) (Nat.le_of_ble_eq_true rfl) (Nat.le_of_ble_eq_true rfl) ?_
        exact hret _ _ _ _ rfl rfl hw dX4_square_98
      · have hF := zif_f hc hF
        refine lv_iconst (v := (1 : Int32)) hx hb dX4_square_93 (by decide) ?_
        refine lv_goto (tgt := 98) hx hb dX4_square_94 (by decide) ?_
        obtain rfl := Option.some.inj hF
        refine W.widen (k := 2) (n := 12) (Nat.le_of_ble_eq_true rfl) (Nat.le_of_ble_eq_true rfl) ?_
        exact hret _ _ _ _ rfl rfl hw dX4_square_98
    · have hF := zif_f hc hF
      obtain rfl := Option.some.inj hF
      exact htho _ _ _ _ _ "java/lang/IllegalArgumentException" 70 127 74 _ _ "no such number of a square" (show (2 : Nat) ≠ 0 by decide) rfl hw (hl.1.trans hml.symm) (by decide +kernel) (by decide +kernel) (hts (.classLink RX4 70 "java/lang/IllegalArgumentException") (by decide +kernel)) (hts (.initialized "java/lang/IllegalArgumentException") (by decide +kernel)) (vx_hat (B := zBad "java/lang/IllegalArgumentException") (fun w hw9 => hts w (naX4_square_2 w hw9)) (by decide +kernel) (zbad hK.2 (by decide))) (by decide +kernel) ⟨dX4_square_13, dX4_square_16, Or.inl ⟨dX4_square_17, dX4_square_19, dX4_square_22⟩⟩ (Nat.le_of_ble_eq_true rfl) (Nat.le_of_ble_eq_true rfl) (Nat.le_of_ble_eq_true rfl) (Nat.le_of_ble_eq_true rfl) (Nat.le_of_ble_eq_true rfl) (Nat.le_of_ble_eq_true rfl)

/-! SealedBoard.account(I)I -/
abbrev rmX4_account : Room := { frames := 6, cells := 1, slots := 6, locals := 82 }
theorem naX4_account_2 : ∀ w ∈ (vx_atS RX4 74 "java/lang/IllegalArgumentException" zNm).filter goodWord, w ∈ wsX4_account := by decide +kernel
theorem kdX4_account : yX4_account.cls = RX4 ∧ yX4_account.cls ≠ "java/lang/invoke/MethodHandle" ∧ yX4_account.cls ≠ "java/lang/invoke/VarHandle" ∧ (parseMethodDescriptor yX4_account.desc).map (fun d => d.parameters.length) = some 1 := by decide +kernel
theorem inX4_account_X4 : ∀ w ∈ u_ws RX4 TX4 8, w ∈ wsX4_account := by decide +kernel
def fX4_account (fb : Nat → Int64) (ct : Int32) (ln : Int32) (p0 : Int32) : Option (Nat × Int32) := (if p0 < 0 then (some (2, (0 : Int32))) else (if p0 < (11 : Int32) then (if p0 = (0 : Int32) then (zbd (fX2_piecesOf fb p0) (fun u2 => (zbd (fX3_size u2) (fun u4 => (some (0, u4)))))) else (if p0 = (1 : Int32) then (zbd (fX2_piecesOf fb p0) (fun u7 => (zbd (fX3_size u7) (fun u9 => (some (0, u9)))))) else (if p0 = (2 : Int32) then (zbd (fX2_walls fb) (fun u12 => (zbd (fX3_size u12) (fun u14 => (some (0, u14)))))) else (if p0 = (3 : Int32) then (zbd (fX2_allDoors fb) (fun u17 => (zbd (fX3_size u17) (fun u19 => (some (0, u19)))))) else (if p0 = (4 : Int32) then (zbd (fX2_coinsOf fb (p0 - (4 : Int32))) (fun u22 => (some (0, u22)))) else (if p0 = (5 : Int32) then (zbd (fX2_coinsOf fb (p0 - (4 : Int32))) (fun u25 => (some (0, u25)))) else (if p0 = (6 : Int32) then (zbd (fX2_turns fb) (fun u28 => (some (0, u28)))) else (if p0 = (7 : Int32) then (zbd (fX2_mover fb) (fun u31 => (some (0, u31)))) else (if p0 = (8 : Int32) then (zbd (fX2_ending fb) (fun u34 => (some (0, u34)))) else (if p0 = (9 : Int32) then (zbd (fX1_length ln) (fun u37 => (some (0, u37)))) else (zbd (fX0_count ct) (fun u39 => (some (0, u39)))))))))))))) else (some (2, (0 : Int32)))))
set_option maxHeartbeats 400000 in
set_option maxRecDepth 100000 in
theorem mX4_account (l : Launch) (hl9 : l.stackTraces = false) (G : va_G) (k : Nat → ClassId) (ad : Nat → Nat) (sz : Nat) (sv : Int32) (kE : Int32) (kR : Int32) (fb : Nat → Int64) (ft : Nat → Int64) (fs : Nat → Int64) (rws : Nat → Int64) (nx : Int32) (ct : Int32) (ch : Nat → Int32) (ln : Int32) (p0 : Int32) (o : Nat × Int32) (hF : fX4_account fb ct ln p0 = some o) : zXI l yX4_account wsX4_account rmX4_account G k (zC ad k sv kE kR fb ft fs rws nx ct ch ln) sz [.ref (ad 0), .int p0] 1 6 o.1 o.2 (zC ad k sv kE kR fb ft fs rws nx ct ch ln) := by
  refine zof_XI hl9 (cc := cX4_account) (nL := 2) (own := RX4) (rt := .int) (by decide) rfl rfl (Nat.le_of_ble_eq_true rfl) ?_
  intro p e s m args below meth c A Q C0 hK hA hret hthp htho ls hl hw
  have hl : lv_has ls 2 [(0, .ref (ad 0)), (1, .int p0)] := hl
  obtain ⟨hx, hb, hr, hml, hown, hts, hlocks⟩ := id C0
  obtain ⟨H, hH⟩ : ∃ z, z = s.heap := ⟨_, rfl⟩
  rw [← hH] at hw ⊢
  unfold fX4_account at hF
  refine lv_iload_n hx hb dX4_account_0 rfl (lv_at hl 1 rfl) ?_
  refine lv_if_lt (tgt := 10) hx hb dX4_account_1 (by decide) (fun hc => ?_) (fun hc => ?_)
  · have hF := zif_t hc hF
    obtain rfl := Option.some.inj hF
    exact htho _ _ _ _ _ "java/lang/IllegalArgumentException" 70 268 74 _ _ "no such account" (show (2 : Nat) ≠ 0 by decide) rfl hw (hl.1.trans hml.symm) (by decide +kernel) (by decide +kernel) (hts (.classLink RX4 70 "java/lang/IllegalArgumentException") (by decide +kernel)) (hts (.initialized "java/lang/IllegalArgumentException") (by decide +kernel)) (vx_hat (B := zBad "java/lang/IllegalArgumentException") (fun w hw9 => hts w (naX4_account_2 w hw9)) (by decide +kernel) (zbad hK.2 (by decide))) (by decide +kernel) ⟨dX4_account_10, dX4_account_13, Or.inr ⟨dX4_account_14, dX4_account_17, dX4_account_20⟩⟩ (Nat.le_of_ble_eq_true rfl) (Nat.le_of_ble_eq_true rfl) (Nat.le_of_ble_eq_true rfl) (Nat.le_of_ble_eq_true rfl) (Nat.le_of_ble_eq_true rfl) (Nat.le_of_ble_eq_true rfl)
  · have hF := zif_f hc hF
    refine lv_iload_n hx hb dX4_account_4 rfl (lv_at hl 1 rfl) ?_
    refine lv_bipush (v := (11 : Int32)) hx hb dX4_account_5 (by decide) ?_
    refine lv_icmp_lt (tgt := 21) hx hb dX4_account_7 (by decide) (fun hc => ?_) (fun hc => ?_)
    · have hF := zif_t hc hF
      refine lv_iload_n hx hb dX4_account_21 rfl (lv_at hl 1 rfl) ?_
      by_cases hc1 : p0 = (0 : Int32)
      · have hF := zif_t hc1 hF
        refine lv_tableIn (tgt := 76) (off := 54) hx hb dX4_account_22 (by rw [hc1]; decide) (by rw [hc1]; decide) (by rw [hc1]; rfl) (by decide) ?_
        refine lv_aload_n hx hb dX4_account_76 rfl (lv_at hl 0 rfl) ?_
        refine va_get (D := G) (ci := 3) (v := .ref (ad 1)) (C := RX4) (T := TX4) (N := 8) hx hb hts inX4_account_X4 hown hK.1 hw.1 0 rfl rfl 0 (by decide) (hts (.fieldLink RX4 10 "SealedBoard" "board" "LSealedBoard$Position;") (by decide +kernel)) (fun _ h9 => h9) rfl dX4_account_77 ?_
        refine lv_iload_n hx hb dX4_account_80 rfl (lv_at hl 1 rfl) ?_
        obtain ⟨u2, hq3, hF⟩ := zbd_t hF
        refine zgoL (w' := (zC ad k sv kE kR fb ft fs rws nx ct ch ln)) hw hA [1, 2] rfl (zV (As := [.int p0]) (rest := []) ⟨hx, hb, hml, hown, hts⟩ (mX2_piecesOf l G k (ad 1) (ad 2) H.size fb p0 u2 hq3) (cwV 1 hts gX4_account_X2_piecesOf rfl rfl rfl kdX2_piecesOf ⟨Nat.le_of_ble_eq_true rfl, Nat.le_of_ble_eq_true rfl⟩) hK hA hw [1, 2] rfl (by decide) 1 rfl rfl rfl rfl hl.1 rfl (Nat.le_of_ble_eq_true rfl) dX4_account_81 ⟨Nat.le_of_ble_eq_true rfl, Nat.le_of_ble_eq_true rfl⟩) rfl rfl rfl (fun H locs hw => ?_)
        obtain ⟨u4, hq5, hF⟩ := zbd_t hF
        refine zgoI (w' := (zC ad k sv kE kR fb ft fs rws nx ct ch ln)) hw hA [] rfl (zS (As := [.long u2]) (rest := []) ⟨hx, hb, hml, hown, hts⟩ (mX3_size l G k  H.size  u2 u4 hq5) (va_cwS 1 hts gX4_account_X3_size rfl rfl rfl kdX3_size ⟨Nat.le_of_ble_eq_true rfl, Nat.le_of_ble_eq_true rfl⟩) hK hA hw [] rfl (by decide) rfl hl.1 rfl (Nat.le_of_ble_eq_true rfl) dX4_account_84 ⟨Nat.le_of_ble_eq_true rfl, Nat.le_of_ble_eq_true rfl⟩) rfl rfl rfl (fun H locs hw => ?_)
        obtain rfl := Option.some.inj hF
        refine W.widen (k := 1) (n := 6) (Nat.le_of_ble_eq_true rfl) (Nat.le_of_ble_eq_true rfl) ?_
        exact hret _ _ _ _ rfl rfl hw dX4_account_87
      have hF := zif_f hc1 hF
      by_cases hc6 : p0 = (1 : Int32)
      · have hF := zif_t hc6 hF
        refine lv_tableIn (tgt := 76) (off := 54) hx hb dX4_account_22 (by rw [hc6]; decide) (by rw [hc6]; decide) (by rw [hc6]; rfl) (by decide) ?_
        refine lv_aload_n hx hb dX4_account_76 rfl (lv_at hl 0 rfl) ?_
        refine va_get (D := G) (ci := 3) (v := .ref (ad 1)) (C := RX4) (T := TX4) (N := 8) hx hb hts inX4_account_X4 hown hK.1 hw.1 0 rfl rfl 0 (by decide) (hts (.fieldLink RX4 10 "SealedBoard" "board" "LSealedBoard$Position;") (by decide +kernel)) (fun _ h9 => h9) rfl dX4_account_77 ?_
        refine lv_iload_n hx hb dX4_account_80 rfl (lv_at hl 1 rfl) ?_
        obtain ⟨u7, hq8, hF⟩ := zbd_t hF
        refine zgoL (w' := (zC ad k sv kE kR fb ft fs rws nx ct ch ln)) hw hA [1, 2] rfl (zV (As := [.int p0]) (rest := []) ⟨hx, hb, hml, hown, hts⟩ (mX2_piecesOf l G k (ad 1) (ad 2) H.size fb p0 u7 hq8) (cwV 1 hts gX4_account_X2_piecesOf rfl rfl rfl kdX2_piecesOf ⟨Nat.le_of_ble_eq_true rfl, Nat.le_of_ble_eq_true rfl⟩) hK hA hw [1, 2] rfl (by decide) 1 rfl rfl rfl rfl hl.1 rfl (Nat.le_of_ble_eq_true rfl) dX4_account_81 ⟨Nat.le_of_ble_eq_true rfl, Nat.le_of_ble_eq_true rfl⟩) rfl rfl rfl (fun H locs hw => ?_)
        obtain ⟨u9, hq10, hF⟩ := zbd_t hF
        refine zgoI (w' := (zC ad k sv kE kR fb ft fs rws nx ct ch ln)) hw hA [] rfl (zS (As := [.long u7]) (rest := []) ⟨hx, hb, hml, hown, hts⟩ (mX3_size l G k  H.size  u7 u9 hq10) (va_cwS 1 hts gX4_account_X3_size rfl rfl rfl kdX3_size ⟨Nat.le_of_ble_eq_true rfl, Nat.le_of_ble_eq_true rfl⟩) hK hA hw [] rfl (by decide) rfl hl.1 rfl (Nat.le_of_ble_eq_true rfl) dX4_account_84 ⟨Nat.le_of_ble_eq_true rfl, Nat.le_of_ble_eq_true rfl⟩) rfl rfl rfl (fun H locs hw => ?_)
        obtain rfl := Option.some.inj hF
        refine W.widen (k := 1) (n := 6) (Nat.le_of_ble_eq_true rfl) (Nat.le_of_ble_eq_true rfl) ?_
        exact hret _ _ _ _ rfl rfl hw dX4_account_87
      have hF := zif_f hc6 hF
      by_cases hc11 : p0 = (2 : Int32)
      · have hF := zif_t hc11 hF
        refine lv_tableIn (tgt := 88) (off := 66) hx hb dX4_account_22 (by rw [hc11]; decide) (by rw [hc11]; decide) (by rw [hc11]; rfl) (by decide) ?_
        refine lv_aload_n hx hb dX4_account_88 rfl (lv_at hl 0 rfl) ?_
        refine va_get (D := G) (ci := 3) (v := .ref (ad 1)) (C := RX4) (T := TX4) (N := 8) hx hb hts inX4_account_X4 hown hK.1 hw.1 0 rfl rfl 0 (by decide) (hts (.fieldLink RX4 10 "SealedBoard" "board" "LSealedBoard$Position;") (by decide +kernel)) (fun _ h9 => h9) rfl dX4_account_89 ?_
        obtain ⟨u12, hq13, hF⟩ := zbd_t hF
        refine zgoL (w' := (zC ad k sv kE kR fb ft fs rws nx ct ch ln)) hw hA [1, 2] rfl (zV (As := []) (rest := []) ⟨hx, hb, hml, hown, hts⟩ (mX2_walls l G k (ad 1) (ad 2) H.size fb  u12 hq13) (cwV 0 hts gX4_account_X2_walls rfl rfl rfl kdX2_walls ⟨Nat.le_of_ble_eq_true rfl, Nat.le_of_ble_eq_true rfl⟩) hK hA hw [1, 2] rfl (by decide) 1 rfl rfl rfl rfl hl.1 rfl (Nat.le_of_ble_eq_true rfl) dX4_account_92 ⟨Nat.le_of_ble_eq_true rfl, Nat.le_of_ble_eq_true rfl⟩) rfl rfl rfl (fun H locs hw => ?_)
        obtain ⟨u14, hq15, hF⟩ := zbd_t hF
        refine zgoI (w' := (zC ad k sv kE kR fb ft fs rws nx ct ch ln)) hw hA [] rfl (zS (As := [.long u12]) (rest := []) ⟨hx, hb, hml, hown, hts⟩ (mX3_size l G k  H.size  u12 u14 hq15) (va_cwS 1 hts gX4_account_X3_size rfl rfl rfl kdX3_size ⟨Nat.le_of_ble_eq_true rfl, Nat.le_of_ble_eq_true rfl⟩) hK hA hw [] rfl (by decide) rfl hl.1 rfl (Nat.le_of_ble_eq_true rfl) dX4_account_95 ⟨Nat.le_of_ble_eq_true rfl, Nat.le_of_ble_eq_true rfl⟩) rfl rfl rfl (fun H locs hw => ?_)
        obtain rfl := Option.some.inj hF
        refine W.widen (k := 1) (n := 6) (Nat.le_of_ble_eq_true rfl) (Nat.le_of_ble_eq_true rfl) ?_
        exact hret _ _ _ _ rfl rfl hw dX4_account_98
      have hF := zif_f hc11 hF
      by_cases hc16 : p0 = (3 : Int32)
      · have hF := zif_t hc16 hF
        refine lv_tableIn (tgt := 99) (off := 77) hx hb dX4_account_22 (by rw [hc16]; decide) (by rw [hc16]; decide) (by rw [hc16]; rfl) (by decide) ?_
        refine lv_aload_n hx hb dX4_account_99 rfl (lv_at hl 0 rfl) ?_
        refine va_get (D := G) (ci := 3) (v := .ref (ad 1)) (C := RX4) (T := TX4) (N := 8) hx hb hts inX4_account_X4 hown hK.1 hw.1 0 rfl rfl 0 (by decide) (hts (.fieldLink RX4 10 "SealedBoard" "board" "LSealedBoard$Position;") (by decide +kernel)) (fun _ h9 => h9) rfl dX4_account_100 ?_
        obtain ⟨u17, hq18, hF⟩ := zbd_t hF
        refine zgoL (w' := (zC ad k sv kE kR fb ft fs rws nx ct ch ln)) hw hA [1, 2] rfl (zV (As := []) (rest := []) ⟨hx, hb, hml, hown, hts⟩ (mX2_allDoors l G k (ad 1) (ad 2) H.size fb  u17 hq18) (cwV 0 hts gX4_account_X2_allDoors rfl rfl rfl kdX2_allDoors ⟨Nat.le_of_ble_eq_true rfl, Nat.le_of_ble_eq_true rfl⟩) hK hA hw [1, 2] rfl (by decide) 1 rfl rfl rfl rfl hl.1 rfl (Nat.le_of_ble_eq_true rfl) dX4_account_103 ⟨Nat.le_of_ble_eq_true rfl, Nat.le_of_ble_eq_true rfl⟩) rfl rfl rfl (fun H locs hw => ?_)
        obtain ⟨u19, hq20, hF⟩ := zbd_t hF
        refine zgoI (w' := (zC ad k sv kE kR fb ft fs rws nx ct ch ln)) hw hA [] rfl (zS (As := [.long u17]) (rest := []) ⟨hx, hb, hml, hown, hts⟩ (mX3_size l G k  H.size  u17 u19 hq20) (va_cwS 1 hts gX4_account_X3_size rfl rfl rfl kdX3_size ⟨Nat.le_of_ble_eq_true rfl, Nat.le_of_ble_eq_true rfl⟩) hK hA hw [] rfl (by decide) rfl hl.1 rfl (Nat.le_of_ble_eq_true rfl) dX4_account_106 ⟨Nat.le_of_ble_eq_true rfl, Nat.le_of_ble_eq_true rfl⟩) rfl rfl rfl (fun H locs hw => ?_)
        obtain rfl := Option.some.inj hF
        refine W.widen (k := 1) (n := 6) (Nat.le_of_ble_eq_true rfl) (Nat.le_of_ble_eq_true rfl) ?_
        exact hret _ _ _ _ rfl rfl hw dX4_account_109
      have hF := zif_f hc16 hF
      by_cases hc21 : p0 = (4 : Int32)
      · have hF := zif_t hc21 hF
        refine lv_tableIn (tgt := 110) (off := 88) hx hb dX4_account_22 (by rw [hc21]; decide) (by rw [hc21]; decide) (by rw [hc21]; rfl) (by decide) ?_
        refine lv_aload_n hx hb dX4_account_110 rfl (lv_at hl 0 rfl) ?_
        refine va_get (D := G) (ci := 3) (v := .ref (ad 1)) (C := RX4) (T := TX4) (N := 8) hx hb hts inX4_account_X4 hown hK.1 hw.1 0 rfl rfl 0 (by decide) (hts (.fieldLink RX4 10 "SealedBoard" "board" "LSealedBoard$Position;") (by decide +kernel)) (fun _ h9 => h9) rfl dX4_account_111 ?_
        refine lv_iload_n hx hb dX4_account_114 rfl (lv_at hl 1 rfl) ?_
        refine lv_iconst (v := (4 : Int32)) hx hb dX4_account_115 (by decide) ?_
        refine lv_isub hx hb dX4_account_116 ?_
        obtain ⟨u22, hq23, hF⟩ := zbd_t hF
        refine zgoI (w' := (zC ad k sv kE kR fb ft fs rws nx ct ch ln)) hw hA [1, 2] rfl (zV (As := [.int (p0 - (4 : Int32))]) (rest := []) ⟨hx, hb, hml, hown, hts⟩ (mX2_coinsOf l G k (ad 1) (ad 2) H.size fb (p0 - (4 : Int32)) u22 hq23) (cwV 1 hts gX4_account_X2_coinsOf rfl rfl rfl kdX2_coinsOf ⟨Nat.le_of_ble_eq_true rfl, Nat.le_of_ble_eq_true rfl⟩) hK hA hw [1, 2] rfl (by decide) 1 rfl rfl rfl rfl hl.1 rfl (Nat.le_of_ble_eq_true rfl) dX4_account_117 ⟨Nat.le_of_ble_eq_true rfl, Nat.le_of_ble_eq_true rfl⟩) rfl rfl rfl (fun H locs hw => ?_)
        obtain rfl := Option.some.inj hF
        refine W.widen (k := 1) (n := 6) (Nat.le_of_ble_eq_true rfl) (Nat.le_of_ble_eq_true rfl) ?_
        exact hret _ _ _ _ rfl rfl hw dX4_account_120
      have hF := zif_f hc21 hF
      by_cases hc24 : p0 = (5 : Int32)
      · have hF := zif_t hc24 hF
        refine lv_tableIn (tgt := 110) (off := 88) hx hb dX4_account_22 (by rw [hc24]; decide) (by rw [hc24]; decide) (by rw [hc24]; rfl) (by decide) ?_
        refine lv_aload_n hx hb dX4_account_110 rfl (lv_at hl 0 rfl) ?_
        refine va_get (D := G) (ci := 3) (v := .ref (ad 1)) (C := RX4) (T := TX4) (N := 8) hx hb hts inX4_account_X4 hown hK.1 hw.1 0 rfl rfl 0 (by decide) (hts (.fieldLink RX4 10 "SealedBoard" "board" "LSealedBoard$Position;") (by decide +kernel)) (fun _ h9 => h9) rfl dX4_account_111 ?_
        refine lv_iload_n hx hb dX4_account_114 rfl (lv_at hl 1 rfl) ?_
        refine lv_iconst (v := (4 : Int32)) hx hb dX4_account_115 (by decide) ?_
        refine lv_isub hx hb dX4_account_116 ?_
        obtain ⟨u25, hq26, hF⟩ := zbd_t hF
        refine zgoI (w' := (zC ad k sv kE kR fb ft fs rws nx ct ch ln)) hw hA [1, 2] rfl (zV (As := [.int (p0 - (4 : Int32))]) (rest := []) ⟨hx, hb, hml, hown, hts⟩ (mX2_coinsOf l G k (ad 1) (ad 2) H.size fb (p0 - (4 : Int32)) u25 hq26) (cwV 1 hts gX4_account_X2_coinsOf rfl rfl rfl kdX2_coinsOf ⟨Nat.le_of_ble_eq_true rfl, Nat.le_of_ble_eq_true rfl⟩) hK hA hw [1, 2] rfl (by decide) 1 rfl rfl rfl rfl hl.1 rfl (Nat.le_of_ble_eq_true rfl) dX4_account_117 ⟨Nat.le_of_ble_eq_true rfl, Nat.le_of_ble_eq_true rfl⟩) rfl rfl rfl (fun H locs hw => ?_)
        obtain rfl := Option.some.inj hF
        refine W.widen (k := 1) (n := 6) (Nat.le_of_ble_eq_true rfl) (Nat.le_of_ble_eq_true rfl) ?_
        exact hret _ _ _ _ rfl rfl hw dX4_account_120
      have hF := zif_f hc24 hF
      by_cases hc27 : p0 = (6 : Int32)
      · have hF := zif_t hc27 hF
        refine lv_tableIn (tgt := 121) (off := 99) hx hb dX4_account_22 (by rw [hc27]; decide) (by rw [hc27]; decide) (by rw [hc27]; rfl) (by decide) ?_
        refine lv_aload_n hx hb dX4_account_121 rfl (lv_at hl 0 rfl) ?_
        refine va_get (D := G) (ci := 3) (v := .ref (ad 1)) (C := RX4) (T := TX4) (N := 8) hx hb hts inX4_account_X4 hown hK.1 hw.1 0 rfl rfl 0 (by decide) (hts (.fieldLink RX4 10 "SealedBoard" "board" "LSealedBoard$Position;") (by decide +kernel)) (fun _ h9 => h9) rfl dX4_account_122 ?_
        obtain ⟨u28, hq29, hF⟩ := zbd_t hF
        refine zgoI (w' := (zC ad k sv kE kR fb ft fs rws nx ct ch ln)) hw hA [1, 2] rfl (zV (As := []) (rest := []) ⟨hx, hb, hml, hown, hts⟩ (mX2_turns l G k (ad 1) (ad 2) H.size fb  u28 hq29) (cwV 0 hts gX4_account_X2_turns rfl rfl rfl kdX2_turns ⟨Nat.le_of_ble_eq_true rfl, Nat.le_of_ble_eq_true rfl⟩) hK hA hw [1, 2] rfl (by decide) 1 rfl rfl rfl rfl hl.1 rfl (Nat.le_of_ble_eq_true rfl) dX4_account_125 ⟨Nat.le_of_ble_eq_true rfl, Nat.le_of_ble_eq_true rfl⟩) rfl rfl rfl (fun H locs hw => ?_)
        obtain rfl := Option.some.inj hF
        refine W.widen (k := 1) (n := 6) (Nat.le_of_ble_eq_true rfl) (Nat.le_of_ble_eq_true rfl) ?_
        exact hret _ _ _ _ rfl rfl hw dX4_account_128
      have hF := zif_f hc27 hF
      by_cases hc30 : p0 = (7 : Int32)
      · have hF := zif_t hc30 hF
        refine lv_tableIn (tgt := 129) (off := 107) hx hb dX4_account_22 (by rw [hc30]; decide) (by rw [hc30]; decide) (by rw [hc30]; rfl) (by decide) ?_
        refine lv_aload_n hx hb dX4_account_129 rfl (lv_at hl 0 rfl) ?_
        refine va_get (D := G) (ci := 3) (v := .ref (ad 1)) (C := RX4) (T := TX4) (N := 8) hx hb hts inX4_account_X4 hown hK.1 hw.1 0 rfl rfl 0 (by decide) (hts (.fieldLink RX4 10 "SealedBoard" "board" "LSealedBoard$Position;") (by decide +kernel)) (fun _ h9 => h9) rfl dX4_account_130 ?_
        obtain ⟨u31, hq32, hF⟩ := zbd_t hF
        refine zgoI (w' := (zC ad k sv kE kR fb ft fs rws nx ct ch ln)) hw hA [1, 2] rfl (zV (As := []) (rest := []) ⟨hx, hb, hml, hown, hts⟩ (mX2_mover l G k (ad 1) (ad 2) H.size fb  u31 hq32) (cwV 0 hts gX4_account_X2_mover rfl rfl rfl kdX2_mover ⟨Nat.le_of_ble_eq_true rfl, Nat.le_of_ble_eq_true rfl⟩) hK hA hw [1, 2] rfl (by decide) 1 rfl rfl rfl rfl hl.1 rfl (Nat.le_of_ble_eq_true rfl) dX4_account_133 ⟨Nat.le_of_ble_eq_true rfl, Nat.le_of_ble_eq_true rfl⟩) rfl rfl rfl (fun H locs hw => ?_)
        obtain rfl := Option.some.inj hF
        refine W.widen (k := 1) (n := 6) (Nat.le_of_ble_eq_true rfl) (Nat.le_of_ble_eq_true rfl) ?_
        exact hret _ _ _ _ rfl rfl hw dX4_account_136
      have hF := zif_f hc30 hF
      by_cases hc33 : p0 = (8 : Int32)
      · have hF := zif_t hc33 hF
        refine lv_tableIn (tgt := 137) (off := 115) hx hb dX4_account_22 (by rw [hc33]; decide) (by rw [hc33]; decide) (by rw [hc33]; rfl) (by decide) ?_
        refine lv_aload_n hx hb dX4_account_137 rfl (lv_at hl 0 rfl) ?_
        refine va_get (D := G) (ci := 3) (v := .ref (ad 1)) (C := RX4) (T := TX4) (N := 8) hx hb hts inX4_account_X4 hown hK.1 hw.1 0 rfl rfl 0 (by decide) (hts (.fieldLink RX4 10 "SealedBoard" "board" "LSealedBoard$Position;") (by decide +kernel)) (fun _ h9 => h9) rfl dX4_account_138 ?_
        obtain ⟨u34, hq35, hF⟩ := zbd_t hF
        refine zgoI (w' := (zC ad k sv kE kR fb ft fs rws nx ct ch ln)) hw hA [1, 2] rfl (zV (As := []) (rest := []) ⟨hx, hb, hml, hown, hts⟩ (mX2_ending l G k (ad 1) (ad 2) H.size fb  u34 hq35) (cwV 0 hts gX4_account_X2_ending rfl rfl rfl kdX2_ending ⟨Nat.le_of_ble_eq_true rfl, Nat.le_of_ble_eq_true rfl⟩) hK hA hw [1, 2] rfl (by decide) 1 rfl rfl rfl rfl hl.1 rfl (Nat.le_of_ble_eq_true rfl) dX4_account_141 ⟨Nat.le_of_ble_eq_true rfl, Nat.le_of_ble_eq_true rfl⟩) rfl rfl rfl (fun H locs hw => ?_)
        obtain rfl := Option.some.inj hF
        refine W.widen (k := 1) (n := 6) (Nat.le_of_ble_eq_true rfl) (Nat.le_of_ble_eq_true rfl) ?_
        exact hret _ _ _ _ rfl rfl hw dX4_account_144
      have hF := zif_f hc33 hF
      by_cases hc36 : p0 = (9 : Int32)
      · have hF := zif_t hc36 hF
        refine lv_tableIn (tgt := 145) (off := 123) hx hb dX4_account_22 (by rw [hc36]; decide) (by rw [hc36]; decide) (by rw [hc36]; rfl) (by decide) ?_
        refine lv_aload_n hx hb dX4_account_145 rfl (lv_at hl 0 rfl) ?_
        refine va_get (D := G) (ci := 3) (v := .ref (ad 9)) (C := RX4) (T := TX4) (N := 8) hx hb hts inX4_account_X4 hown hK.1 hw.1 0 rfl rfl 4 (by decide) (hts (.fieldLink RX4 32 "SealedBoard" "input" "LSealedBoard$Input;") (by decide +kernel)) (fun _ h9 => h9) rfl dX4_account_146 ?_
        obtain ⟨u37, hq38, hF⟩ := zbd_t hF
        refine zgoI (w' := (zC ad k sv kE kR fb ft fs rws nx ct ch ln)) hw hA [9, 10] rfl (zV (As := []) (rest := []) ⟨hx, hb, hml, hown, hts⟩ (mX1_length l G k (ad 9) (ad 10) H.size ch ln  u37 hq38) (cwV 0 hts gX4_account_X1_length rfl rfl rfl kdX1_length ⟨Nat.le_of_ble_eq_true rfl, Nat.le_of_ble_eq_true rfl⟩) hK hA hw [9, 10] rfl (by decide) 9 rfl rfl rfl rfl hl.1 rfl (Nat.le_of_ble_eq_true rfl) dX4_account_149 ⟨Nat.le_of_ble_eq_true rfl, Nat.le_of_ble_eq_true rfl⟩) rfl rfl rfl (fun H locs hw => ?_)
        obtain rfl := Option.some.inj hF
        refine W.widen (k := 1) (n := 6) (Nat.le_of_ble_eq_true rfl) (Nat.le_of_ble_eq_true rfl) ?_
        exact hret _ _ _ _ rfl rfl hw dX4_account_152
      have hF := zif_f hc36 hF
      refine lv_tableOut (tgt := 153) hx hb dX4_account_22 (by
        have q0 : p0.toInt ≠ 0 := fun q => hc1 (Int32.toInt_inj.mp q)
        have q1 : p0.toInt ≠ 1 := fun q => hc6 (Int32.toInt_inj.mp q)
        have q2 : p0.toInt ≠ 2 := fun q => hc11 (Int32.toInt_inj.mp q)
        have q3 : p0.toInt ≠ 3 := fun q => hc16 (Int32.toInt_inj.mp q)
        have q4 : p0.toInt ≠ 4 := fun q => hc21 (Int32.toInt_inj.mp q)
        have q5 : p0.toInt ≠ 5 := fun q => hc24 (Int32.toInt_inj.mp q)
        have q6 : p0.toInt ≠ 6 := fun q => hc27 (Int32.toInt_inj.mp q)
        have q7 : p0.toInt ≠ 7 := fun q => hc30 (Int32.toInt_inj.mp q)
        have q8 : p0.toInt ≠ 8 := fun q => hc33 (Int32.toInt_inj.mp q)
        have q9 : p0.toInt ≠ 9 := fun q => hc36 (Int32.toInt_inj.mp q)
        omega) (by decide) ?_
      refine lv_aload_n hx hb dX4_account_153 rfl (lv_at hl 0 rfl) ?_
      refine va_get (D := G) (ci := 3) (v := .ref (ad 7)) (C := RX4) (T := TX4) (N := 8) hx hb hts inX4_account_X4 hown hK.1 hw.1 0 rfl rfl 3 (by decide) (hts (.fieldLink RX4 25 "SealedBoard" "history" "LSealedBoard$History;") (by decide +kernel)) (fun _ h9 => h9) rfl dX4_account_154 ?_
      obtain ⟨u39, hq40, hF⟩ := zbd_t hF
      refine zgoI (w' := (zC ad k sv kE kR fb ft fs rws nx ct ch ln)) hw hA [7, 8] rfl (zV (As := []) (rest := []) ⟨hx, hb, hml, hown, hts⟩ (mX0_count l G k (ad 7) (ad 8) H.size rws nx ct  u39 hq40) (cwV 0 hts gX4_account_X0_count rfl rfl rfl kdX0_count ⟨Nat.le_of_ble_eq_true rfl, Nat.le_of_ble_eq_true rfl⟩) hK hA hw [7, 8] rfl (by decide) 7 rfl rfl rfl rfl hl.1 rfl (Nat.le_of_ble_eq_true rfl) dX4_account_157 ⟨Nat.le_of_ble_eq_true rfl, Nat.le_of_ble_eq_true rfl⟩) rfl rfl rfl (fun H locs hw => ?_)
      obtain rfl := Option.some.inj hF
      refine W.widen (k := 1) (n := 6) (Nat.le_of_ble_eq_true rfl) (Nat.le_of_ble_eq_true rfl) ?_
      exact hret _ _ _ _ rfl rfl hw dX4_account_160
    · have hF := zif_f hc hF
      obtain rfl := Option.some.inj hF
      exact htho _ _ _ _ _ "java/lang/IllegalArgumentException" 70 268 74 _ _ "no such account" (show (2 : Nat) ≠ 0 by decide) rfl hw (hl.1.trans hml.symm) (by decide +kernel) (by decide +kernel) (hts (.classLink RX4 70 "java/lang/IllegalArgumentException") (by decide +kernel)) (hts (.initialized "java/lang/IllegalArgumentException") (by decide +kernel)) (vx_hat (B := zBad "java/lang/IllegalArgumentException") (fun w hw9 => hts w (naX4_account_2 w hw9)) (by decide +kernel) (zbad hK.2 (by decide))) (by decide +kernel) ⟨dX4_account_10, dX4_account_13, Or.inr ⟨dX4_account_14, dX4_account_17, dX4_account_20⟩⟩ (Nat.le_of_ble_eq_true rfl) (Nat.le_of_ble_eq_true rfl) (Nat.le_of_ble_eq_true rfl) (Nat.le_of_ble_eq_true rfl) (Nat.le_of_ble_eq_true rfl) (Nat.le_of_ble_eq_true rfl)

/-! SealedBoard.undo()I -/
abbrev rmX4_undo : Room := { frames := 6, cells := 1, slots := 6, locals := 82 }
theorem naX4_undo_5 : ∀ w ∈ (vx_atS RX4 169 "java/util/NoSuchElementException" zNm).filter goodWord, w ∈ wsX4_undo := by decide +kernel
theorem kdX4_undo : yX4_undo.cls = RX4 ∧ yX4_undo.cls ≠ "java/lang/invoke/MethodHandle" ∧ yX4_undo.cls ≠ "java/lang/invoke/VarHandle" ∧ (parseMethodDescriptor yX4_undo.desc).map (fun d => d.parameters.length) = some 0 := by decide +kernel
theorem inX4_undo_X4 : ∀ w ∈ u_ws RX4 TX4 8, w ∈ wsX4_undo := by decide +kernel
def fX4_undo (fb : Nat → Int64) (rws : Nat → Int64) (nx : Int32) (ct : Int32) : Option (Nat × Int32 × (Nat → Int64) × Int32 × Int32) := (zbd (fX0_count ct) (fun u1 => (if u1 = 0 then (some (5, (0 : Int32), fb, nx, ct)) else (zbd (fX0_bringBack rws nx ct fb) (fun u3 => (zbd (fX0_count u3.2.1) (fun u5 => (some (0, u5, u3.2.2, u3.1, u3.2.1)))))))))
set_option maxHeartbeats 400000 in
set_option maxRecDepth 100000 in
theorem mX4_undo (l : Launch) (hl9 : l.stackTraces = false) (G : va_G) (k : Nat → ClassId) (ad : Nat → Nat) (sz : Nat) (sv : Int32) (kE : Int32) (kR : Int32) (fb : Nat → Int64) (ft : Nat → Int64) (fs : Nat → Int64) (rws : Nat → Int64) (nx : Int32) (ct : Int32) (ch : Nat → Int32) (ln : Int32)  (o : Nat × Int32 × (Nat → Int64) × Int32 × Int32) (hF : fX4_undo fb rws nx ct = some o) : zXI l yX4_undo wsX4_undo rmX4_undo G k (zC ad k sv kE kR fb ft fs rws nx ct ch ln) sz [.ref (ad 0)] 1 6 o.1 o.2.1 (zC ad k sv kE kR o.2.2.1 ft fs rws o.2.2.2.1 o.2.2.2.2 ch ln) := by
  refine zof_XI hl9 (cc := cX4_undo) (nL := 1) (own := RX4) (rt := .int) (by decide) rfl rfl (Nat.le_of_ble_eq_true rfl) ?_
  intro p e s m args below meth c A Q C0 hK hA hret hthp htho ls hl hw
  have hl : lv_has ls 1 [(0, .ref (ad 0))] := hl
  obtain ⟨hx, hb, hr, hml, hown, hts, hlocks⟩ := id C0
  obtain ⟨H, hH⟩ : ∃ z, z = s.heap := ⟨_, rfl⟩
  rw [← hH] at hw ⊢
  unfold fX4_undo at hF
  refine lv_aload_n hx hb dX4_undo_0 rfl (lv_at hl 0 rfl) ?_
  refine va_get (D := G) (ci := 3) (v := .ref (ad 7)) (C := RX4) (T := TX4) (N := 8) hx hb hts inX4_undo_X4 hown hK.1 hw.1 0 rfl rfl 3 (by decide) (hts (.fieldLink RX4 25 "SealedBoard" "history" "LSealedBoard$History;") (by decide +kernel)) (fun _ h9 => h9) rfl dX4_undo_1 ?_
  obtain ⟨u1, hq2, hF⟩ := zbd_t hF
  refine zgoI (w' := (zC ad k sv kE kR fb ft fs rws nx ct ch ln)) hw hA [7, 8] rfl (zV (As := []) (rest := []) ⟨hx, hb, hml, hown, hts⟩ (mX0_count l G k (ad 7) (ad 8) H.size rws nx ct  u1 hq2) (cwV 0 hts gX4_undo_X0_count rfl rfl rfl kdX0_count ⟨Nat.le_of_ble_eq_true rfl, Nat.le_of_ble_eq_true rfl⟩) hK hA hw [7, 8] rfl (by decide) 7 rfl rfl rfl rfl hl.1 rfl (Nat.le_of_ble_eq_true rfl) dX4_undo_4 ⟨Nat.le_of_ble_eq_true rfl, Nat.le_of_ble_eq_true rfl⟩) rfl rfl rfl (fun H locs hw => ?_)
  refine lv_if_ne (tgt := 21) hx hb dX4_undo_7 (by decide) (fun hc => ?_) (fun hc => ?_)
  · have hF := zif_f hc hF
    refine lv_aload_n hx hb dX4_undo_21 rfl (lv_at hl 0 rfl) ?_
    refine va_get (D := G) (ci := 3) (v := .ref (ad 7)) (C := RX4) (T := TX4) (N := 8) hx hb hts inX4_undo_X4 hown hK.1 hw.1 0 rfl rfl 3 (by decide) (hts (.fieldLink RX4 25 "SealedBoard" "history" "LSealedBoard$History;") (by decide +kernel)) (fun _ h9 => h9) rfl dX4_undo_22 ?_
    refine lv_aload_n hx hb dX4_undo_25 rfl (lv_at hl 0 rfl) ?_
    refine va_get (D := G) (ci := 3) (v := .ref (ad 1)) (C := RX4) (T := TX4) (N := 8) hx hb hts inX4_undo_X4 hown hK.1 hw.1 0 rfl rfl 0 (by decide) (hts (.fieldLink RX4 10 "SealedBoard" "board" "LSealedBoard$Position;") (by decide +kernel)) (fun _ h9 => h9) rfl dX4_undo_26 ?_
    obtain ⟨u3, hq4, hF⟩ := zbd_t hF
    refine zgoV (w' := (zC ad k sv kE kR u3.2.2 ft fs rws u3.1 u3.2.1 ch ln)) hw hA [7, 8, 1, 2] rfl (zV (As := [.ref (ad 1)]) (rest := []) ⟨hx, hb, hml, hown, hts⟩ (mX0_bringBack l G k (ad 7) (ad 8) (ad 1) (ad 2) H.size rws nx ct fb  u3 hq4) (cwV 1 hts gX4_undo_X0_bringBack rfl rfl rfl kdX0_bringBack ⟨Nat.le_of_ble_eq_true rfl, Nat.le_of_ble_eq_true rfl⟩) hK hA hw [7, 8, 1, 2] rfl (by decide) 7 rfl rfl rfl rfl hl.1 rfl (Nat.le_of_ble_eq_true rfl) dX4_undo_29 ⟨Nat.le_of_ble_eq_true rfl, Nat.le_of_ble_eq_true rfl⟩) rfl rfl rfl (fun H locs hw => ?_)
    refine lv_aload_n hx hb dX4_undo_32 rfl (lv_at hl 0 rfl) ?_
    refine va_get (D := G) (ci := 3) (v := .ref (ad 7)) (C := RX4) (T := TX4) (N := 8) hx hb hts inX4_undo_X4 hown hK.1 hw.1 0 rfl rfl 3 (by decide) (hts (.fieldLink RX4 25 "SealedBoard" "history" "LSealedBoard$History;") (by decide +kernel)) (fun _ h9 => h9) rfl dX4_undo_33 ?_
    obtain ⟨u5, hq6, hF⟩ := zbd_t hF
    refine zgoI (w' := (zC ad k sv kE kR u3.2.2 ft fs rws u3.1 u3.2.1 ch ln)) hw hA [7, 8] rfl (zV (As := []) (rest := []) ⟨hx, hb, hml, hown, hts⟩ (mX0_count l G k (ad 7) (ad 8) H.size rws u3.1 u3.2.1  u5 hq6) (cwV 0 hts gX4_undo_X0_count rfl rfl rfl kdX0_count ⟨Nat.le_of_ble_eq_true rfl, Nat.le_of_ble_eq_true rfl⟩) hK hA hw [7, 8] rfl (by decide) 7 rfl rfl rfl rfl hl.1 rfl (Nat.le_of_ble_eq_true rfl) dX4_undo_36 ⟨Nat.le_of_ble_eq_true rfl, Nat.le_of_ble_eq_true rfl⟩) rfl rfl rfl (fun H locs hw => ?_)
    obtain rfl := Option.some.inj hF
    refine W.widen (k := 1) (n := 6) (Nat.le_of_ble_eq_true rfl) (Nat.le_of_ble_eq_true rfl) ?_
    exact hret _ _ _ _ rfl rfl hw dX4_undo_39
  · have hF := zif_t hc hF
    obtain rfl := Option.some.inj hF
    exact htho _ _ _ _ _ "java/util/NoSuchElementException" 165 279 169 _ _ "no change is remembered" (show (5 : Nat) ≠ 0 by decide) rfl hw (hl.1.trans hml.symm) (by decide +kernel) (by decide +kernel) (hts (.classLink RX4 165 "java/util/NoSuchElementException") (by decide +kernel)) (hts (.initialized "java/util/NoSuchElementException") (by decide +kernel)) (vx_hat (B := zBad "java/util/NoSuchElementException") (fun w hw9 => hts w (naX4_undo_5 w hw9)) (by decide +kernel) (zbad hK.2 (by decide))) (by decide +kernel) ⟨dX4_undo_10, dX4_undo_13, Or.inr ⟨dX4_undo_14, dX4_undo_17, dX4_undo_20⟩⟩ (Nat.le_of_ble_eq_true rfl) (Nat.le_of_ble_eq_true rfl) (Nat.le_of_ble_eq_true rfl) (Nat.le_of_ble_eq_true rfl) (Nat.le_of_ble_eq_true rfl) (Nat.le_of_ble_eq_true rfl)

/-! SealedBoard.save()I -/
abbrev rmX4_save : Room := { frames := 2, cells := 0, slots := 0, locals := 42 }
theorem kdX4_save : yX4_save.cls = RX4 ∧ yX4_save.cls ≠ "java/lang/invoke/MethodHandle" ∧ yX4_save.cls ≠ "java/lang/invoke/VarHandle" ∧ (parseMethodDescriptor yX4_save.desc).map (fun d => d.parameters.length) = some 0 := by decide +kernel
theorem inX4_save_X4 : ∀ w ∈ u_ws RX4 TX4 8, w ∈ wsX4_save := by decide +kernel
def fX4_save (sv : Int32) (fb : Nat → Int64) (fs : Nat → Int64) : Option (Int32 × Int32 × (Nat → Int64)) := (zbd (fX2_copyFrom fs fb) (fun u1 => (zbd (fX2_allPieces u1) (fun u3 => (zbd (fX3_size u3) (fun u5 => (some (u5, (1 : Int32), u1))))))))
set_option maxHeartbeats 400000 in
set_option maxRecDepth 100000 in
theorem mX4_save (l : Launch) (G : va_G) (k : Nat → ClassId) (ad : Nat → Nat) (sz : Nat) (sv : Int32) (kE : Int32) (kR : Int32) (fb : Nat → Int64) (ft : Nat → Int64) (fs : Nat → Int64) (rws : Nat → Int64) (nx : Int32) (ct : Int32) (ch : Nat → Int32) (ln : Int32)  (o : Int32 × Int32 × (Nat → Int64)) (hF : fX4_save sv fb fs = some o) : zMI l yX4_save wsX4_save rmX4_save G k (zC ad k sv kE kR fb ft fs rws nx ct ch ln) sz [.ref (ad 0)] o.1 (zC ad k o.2.1 kE kR fb ft o.2.2 rws nx ct ch ln) := by
  refine zof_I (cc := cX4_save) (nL := 1) (own := RX4) (rt := .int) (by decide) rfl rfl (Nat.le_of_ble_eq_true rfl) ?_
  intro p e s m args below meth c A Q C0 hK hA hret ls hl hw
  have hl : lv_has ls 1 [(0, .ref (ad 0))] := hl
  obtain ⟨hx, hb, hr, hml, hown, hts, hlocks⟩ := id C0
  obtain ⟨H, hH⟩ : ∃ z, z = s.heap := ⟨_, rfl⟩
  rw [← hH] at hw ⊢
  unfold fX4_save at hF
  refine lv_aload_n hx hb dX4_save_0 rfl (lv_at hl 0 rfl) ?_
  refine va_get (D := G) (ci := 3) (v := .ref (ad 5)) (C := RX4) (T := TX4) (N := 8) hx hb hts inX4_save_X4 hown hK.1 hw.1 0 rfl rfl 2 (by decide) (hts (.fieldLink RX4 19 "SealedBoard" "saved" "LSealedBoard$Position;") (by decide +kernel)) (fun _ h9 => h9) rfl dX4_save_1 ?_
  refine lv_aload_n hx hb dX4_save_4 rfl (lv_at hl 0 rfl) ?_
  refine va_get (D := G) (ci := 3) (v := .ref (ad 1)) (C := RX4) (T := TX4) (N := 8) hx hb hts inX4_save_X4 hown hK.1 hw.1 0 rfl rfl 0 (by decide) (hts (.fieldLink RX4 10 "SealedBoard" "board" "LSealedBoard$Position;") (by decide +kernel)) (fun _ h9 => h9) rfl dX4_save_5 ?_
  obtain ⟨u1, hq2, hF⟩ := zbd_t hF
  refine zgoV (w' := (zC ad k sv kE kR fb ft u1 rws nx ct ch ln)) hw hA [5, 6, 1, 2] rfl (zV (As := [.ref (ad 1)]) (rest := []) ⟨hx, hb, hml, hown, hts⟩ (mX2_copyFrom l G k (ad 5) (ad 6) (ad 1) (ad 2) H.size fs fb  u1 hq2) (cwV 1 hts gX4_save_X2_copyFrom rfl rfl rfl kdX2_copyFrom ⟨Nat.le_of_ble_eq_true rfl, Nat.le_of_ble_eq_true rfl⟩) hK hA hw [5, 6, 1, 2] rfl (by decide) 5 rfl rfl rfl rfl hl.1 rfl (Nat.le_of_ble_eq_true rfl) dX4_save_8 ⟨Nat.le_of_ble_eq_true rfl, Nat.le_of_ble_eq_true rfl⟩) rfl rfl rfl (fun H locs hw => ?_)
  refine lv_aload_n hx hb dX4_save_11 rfl (lv_at hl 0 rfl) ?_
  refine lv_iconst (v := (1 : Int32)) hx hb dX4_save_12 (by decide) ?_
  refine va_put (D := G) (ci := 3) (v := .int (1 : Int32)) (ty := .boolean) (C := RX4) (T := TX4) (N := 8) hx hb hts inX4_save_X4 tyX4 tyX4_ok nmX4 hown hK.1 hw.1 hw.2.1 hw.2.2 0 rfl rfl 5 (by decide) (hts (.fieldLink RX4 284 "SealedBoard" "isSaved" "Z") (by decide +kernel)) (fun _ h9 => h9) rfl (by decide +kernel) rfl rfl (Nat.le_of_ble_eq_true rfl) dX4_save_13 (fun H locs hP hD hS => ?_)
  have hw : zWd G A s (zC ad k (1 : Int32) kE kR fb ft u1 rws nx ct ch ln) H locs := ⟨hP, hD, hS⟩
  refine lv_aload_n hx hb dX4_save_16 rfl (lv_at hl 0 rfl) ?_
  refine va_get (D := G) (ci := 3) (v := .ref (ad 5)) (C := RX4) (T := TX4) (N := 8) hx hb hts inX4_save_X4 hown hK.1 hw.1 0 rfl rfl 2 (by decide) (hts (.fieldLink RX4 19 "SealedBoard" "saved" "LSealedBoard$Position;") (by decide +kernel)) (fun _ h9 => h9) rfl dX4_save_17 ?_
  obtain ⟨u3, hq4, hF⟩ := zbd_t hF
  refine zgoL (w' := (zC ad k (1 : Int32) kE kR fb ft u1 rws nx ct ch ln)) hw hA [5, 6] rfl (zV (As := []) (rest := []) ⟨hx, hb, hml, hown, hts⟩ (mX2_allPieces l G k (ad 5) (ad 6) H.size u1  u3 hq4) (cwV 0 hts gX4_save_X2_allPieces rfl rfl rfl kdX2_allPieces ⟨Nat.le_of_ble_eq_true rfl, Nat.le_of_ble_eq_true rfl⟩) hK hA hw [5, 6] rfl (by decide) 5 rfl rfl rfl rfl hl.1 rfl (Nat.le_of_ble_eq_true rfl) dX4_save_20 ⟨Nat.le_of_ble_eq_true rfl, Nat.le_of_ble_eq_true rfl⟩) rfl rfl rfl (fun H locs hw => ?_)
  obtain ⟨u5, hq6, hF⟩ := zbd_t hF
  refine zgoI (w' := (zC ad k (1 : Int32) kE kR fb ft u1 rws nx ct ch ln)) hw hA [] rfl (zS (As := [.long u3]) (rest := []) ⟨hx, hb, hml, hown, hts⟩ (mX3_size l G k  H.size  u3 u5 hq6) (va_cwS 1 hts gX4_save_X3_size rfl rfl rfl kdX3_size ⟨Nat.le_of_ble_eq_true rfl, Nat.le_of_ble_eq_true rfl⟩) hK hA hw [] rfl (by decide) rfl hl.1 rfl (Nat.le_of_ble_eq_true rfl) dX4_save_23 ⟨Nat.le_of_ble_eq_true rfl, Nat.le_of_ble_eq_true rfl⟩) rfl rfl rfl (fun H locs hw => ?_)
  obtain rfl := Option.some.inj hF
  exact hret _ _ _ _ rfl hw dX4_save_26

/-! SealedBoard.restore()I -/
abbrev rmX4_restore : Room := { frames := 6, cells := 1, slots := 6, locals := 82 }
theorem naX4_restore_3 : ∀ w ∈ (vx_atS RX4 88 "java/lang/IllegalStateException" zNm).filter goodWord, w ∈ wsX4_restore := by decide +kernel
theorem kdX4_restore : yX4_restore.cls = RX4 ∧ yX4_restore.cls ≠ "java/lang/invoke/MethodHandle" ∧ yX4_restore.cls ≠ "java/lang/invoke/VarHandle" ∧ (parseMethodDescriptor yX4_restore.desc).map (fun d => d.parameters.length) = some 0 := by decide +kernel
theorem inX4_restore_X4 : ∀ w ∈ u_ws RX4 TX4 8, w ∈ wsX4_restore := by decide +kernel
def fX4_restore (sv : Int32) (fb : Nat → Int64) (fs : Nat → Int64) (ct : Int32) : Option (Nat × Int32 × (Nat → Int64) × Int32) := (if sv = 0 then (some (3, (0 : Int32), fb, ct)) else (zbd (fX2_copyFrom fb fs) (fun u1 => (zbd (fX0_forget ct) (fun u3 => (zbd (fX2_allPieces u1) (fun u5 => (zbd (fX3_size u5) (fun u7 => (some (0, u7, u1, u3)))))))))))
set_option maxHeartbeats 400000 in
set_option maxRecDepth 100000 in
theorem mX4_restore (l : Launch) (hl9 : l.stackTraces = false) (G : va_G) (k : Nat → ClassId) (ad : Nat → Nat) (sz : Nat) (sv : Int32) (kE : Int32) (kR : Int32) (fb : Nat → Int64) (ft : Nat → Int64) (fs : Nat → Int64) (rws : Nat → Int64) (nx : Int32) (ct : Int32) (ch : Nat → Int32) (ln : Int32)  (o : Nat × Int32 × (Nat → Int64) × Int32) (hF : fX4_restore sv fb fs ct = some o) : zXI l yX4_restore wsX4_restore rmX4_restore G k (zC ad k sv kE kR fb ft fs rws nx ct ch ln) sz [.ref (ad 0)] 1 6 o.1 o.2.1 (zC ad k sv kE kR o.2.2.1 ft fs rws nx o.2.2.2 ch ln) := by
  refine zof_XI hl9 (cc := cX4_restore) (nL := 1) (own := RX4) (rt := .int) (by decide) rfl rfl (Nat.le_of_ble_eq_true rfl) ?_
  intro p e s m args below meth c A Q C0 hK hA hret hthp htho ls hl hw
  have hl : lv_has ls 1 [(0, .ref (ad 0))] := hl
  obtain ⟨hx, hb, hr, hml, hown, hts, hlocks⟩ := id C0
  obtain ⟨H, hH⟩ : ∃ z, z = s.heap := ⟨_, rfl⟩
  rw [← hH] at hw ⊢
  unfold fX4_restore at hF
  refine lv_aload_n hx hb dX4_restore_0 rfl (lv_at hl 0 rfl) ?_
  refine va_get (D := G) (ci := 3) (v := .int sv) (C := RX4) (T := TX4) (N := 8) hx hb hts inX4_restore_X4 hown hK.1 hw.1 0 rfl rfl 5 (by decide) (hts (.fieldLink RX4 284 "SealedBoard" "isSaved" "Z") (by decide +kernel)) (fun _ h9 => h9) rfl dX4_restore_1 ?_
  refine lv_if_ne (tgt := 18) hx hb dX4_restore_4 (by decide) (fun hc => ?_) (fun hc => ?_)
  · have hF := zif_f hc hF
    refine lv_aload_n hx hb dX4_restore_18 rfl (lv_at hl 0 rfl) ?_
    refine va_get (D := G) (ci := 3) (v := .ref (ad 1)) (C := RX4) (T := TX4) (N := 8) hx hb hts inX4_restore_X4 hown hK.1 hw.1 0 rfl rfl 0 (by decide) (hts (.fieldLink RX4 10 "SealedBoard" "board" "LSealedBoard$Position;") (by decide +kernel)) (fun _ h9 => h9) rfl dX4_restore_19 ?_
    refine lv_aload_n hx hb dX4_restore_22 rfl (lv_at hl 0 rfl) ?_
    refine va_get (D := G) (ci := 3) (v := .ref (ad 5)) (C := RX4) (T := TX4) (N := 8) hx hb hts inX4_restore_X4 hown hK.1 hw.1 0 rfl rfl 2 (by decide) (hts (.fieldLink RX4 19 "SealedBoard" "saved" "LSealedBoard$Position;") (by decide +kernel)) (fun _ h9 => h9) rfl dX4_restore_23 ?_
    obtain ⟨u1, hq2, hF⟩ := zbd_t hF
    refine zgoV (w' := (zC ad k sv kE kR u1 ft fs rws nx ct ch ln)) hw hA [1, 2, 5, 6] rfl (zV (As := [.ref (ad 5)]) (rest := []) ⟨hx, hb, hml, hown, hts⟩ (mX2_copyFrom l G k (ad 1) (ad 2) (ad 5) (ad 6) H.size fb fs  u1 hq2) (cwV 1 hts gX4_restore_X2_copyFrom rfl rfl rfl kdX2_copyFrom ⟨Nat.le_of_ble_eq_true rfl, Nat.le_of_ble_eq_true rfl⟩) hK hA hw [1, 2, 5, 6] rfl (by decide) 1 rfl rfl rfl rfl hl.1 rfl (Nat.le_of_ble_eq_true rfl) dX4_restore_26 ⟨Nat.le_of_ble_eq_true rfl, Nat.le_of_ble_eq_true rfl⟩) rfl rfl rfl (fun H locs hw => ?_)
    refine lv_aload_n hx hb dX4_restore_29 rfl (lv_at hl 0 rfl) ?_
    refine va_get (D := G) (ci := 3) (v := .ref (ad 7)) (C := RX4) (T := TX4) (N := 8) hx hb hts inX4_restore_X4 hown hK.1 hw.1 0 rfl rfl 3 (by decide) (hts (.fieldLink RX4 25 "SealedBoard" "history" "LSealedBoard$History;") (by decide +kernel)) (fun _ h9 => h9) rfl dX4_restore_30 ?_
    obtain ⟨u3, hq4, hF⟩ := zbd_t hF
    refine zgoV (w' := (zC ad k sv kE kR u1 ft fs rws nx u3 ch ln)) hw hA [7, 8] rfl (zV (As := []) (rest := []) ⟨hx, hb, hml, hown, hts⟩ (mX0_forget l G k (ad 7) (ad 8) H.size rws nx ct  u3 hq4) (cwV 0 hts gX4_restore_X0_forget rfl rfl rfl kdX0_forget ⟨Nat.le_of_ble_eq_true rfl, Nat.le_of_ble_eq_true rfl⟩) hK hA hw [7, 8] rfl (by decide) 7 rfl rfl rfl rfl hl.1 rfl (Nat.le_of_ble_eq_true rfl) dX4_restore_33 ⟨Nat.le_of_ble_eq_true rfl, Nat.le_of_ble_eq_true rfl⟩) rfl rfl rfl (fun H locs hw => ?_)
    refine lv_aload_n hx hb dX4_restore_36 rfl (lv_at hl 0 rfl) ?_
    refine va_get (D := G) (ci := 3) (v := .ref (ad 1)) (C := RX4) (T := TX4) (N := 8) hx hb hts inX4_restore_X4 hown hK.1 hw.1 0 rfl rfl 0 (by decide) (hts (.fieldLink RX4 10 "SealedBoard" "board" "LSealedBoard$Position;") (by decide +kernel)) (fun _ h9 => h9) rfl dX4_restore_37 ?_
    obtain ⟨u5, hq6, hF⟩ := zbd_t hF
    refine zgoL (w' := (zC ad k sv kE kR u1 ft fs rws nx u3 ch ln)) hw hA [1, 2] rfl (zV (As := []) (rest := []) ⟨hx, hb, hml, hown, hts⟩ (mX2_allPieces l G k (ad 1) (ad 2) H.size u1  u5 hq6) (cwV 0 hts gX4_restore_X2_allPieces rfl rfl rfl kdX2_allPieces ⟨Nat.le_of_ble_eq_true rfl, Nat.le_of_ble_eq_true rfl⟩) hK hA hw [1, 2] rfl (by decide) 1 rfl rfl rfl rfl hl.1 rfl (Nat.le_of_ble_eq_true rfl) dX4_restore_40 ⟨Nat.le_of_ble_eq_true rfl, Nat.le_of_ble_eq_true rfl⟩) rfl rfl rfl (fun H locs hw => ?_)
    obtain ⟨u7, hq8, hF⟩ := zbd_t hF
    refine zgoI (w' := (zC ad k sv kE kR u1 ft fs rws nx u3 ch ln)) hw hA [] rfl (zS (As := [.long u5]) (rest := []) ⟨hx, hb, hml, hown, hts⟩ (mX3_size l G k  H.size  u5 u7 hq8) (va_cwS 1 hts gX4_restore_X3_size rfl rfl rfl kdX3_size ⟨Nat.le_of_ble_eq_true rfl, Nat.le_of_ble_eq_true rfl⟩) hK hA hw [] rfl (by decide) rfl hl.1 rfl (Nat.le_of_ble_eq_true rfl) dX4_restore_43 ⟨Nat.le_of_ble_eq_true rfl, Nat.le_of_ble_eq_true rfl⟩) rfl rfl rfl (fun H locs hw => ?_)
    obtain rfl := Option.some.inj hF
    refine W.widen (k := 1) (n := 6) (Nat.le_of_ble_eq_true rfl) (Nat.le_of_ble_eq_true rfl) ?_
    exact hret _ _ _ _ rfl rfl hw dX4_restore_46
  · have hF := zif_t hc hF
    obtain rfl := Option.some.inj hF
    exact htho _ _ _ _ _ "java/lang/IllegalStateException" 84 288 88 _ _ "nothing was saved" (show (3 : Nat) ≠ 0 by decide) rfl hw (hl.1.trans hml.symm) (by decide +kernel) (by decide +kernel) (hts (.classLink RX4 84 "java/lang/IllegalStateException") (by decide +kernel)) (hts (.initialized "java/lang/IllegalStateException") (by decide +kernel)) (vx_hat (B := zBad "java/lang/IllegalStateException") (fun w hw9 => hts w (naX4_restore_3 w hw9)) (by decide +kernel) (zbad hK.2 (by decide))) (by decide +kernel) ⟨dX4_restore_7, dX4_restore_10, Or.inr ⟨dX4_restore_11, dX4_restore_14, dX4_restore_17⟩⟩ (Nat.le_of_ble_eq_true rfl) (Nat.le_of_ble_eq_true rfl) (Nat.le_of_ble_eq_true rfl) (Nat.le_of_ble_eq_true rfl) (Nat.le_of_ble_eq_true rfl) (Nat.le_of_ble_eq_true rfl)

/-! SealedBoardModel.buy(I)I -/
abbrev rmX5_buy : Room := { frames := 8, cells := 0, slots := 0, locals := 181 }
theorem kdX5_buy : yX5_buy.cls = RX5 ∧ yX5_buy.cls ≠ "java/lang/invoke/MethodHandle" ∧ yX5_buy.cls ≠ "java/lang/invoke/VarHandle" ∧ (parseMethodDescriptor yX5_buy.desc).map (fun d => d.parameters.length) = some 1 := by decide +kernel
theorem inX5_buy_X5 : ∀ w ∈ u_ws RX5 TX5 23, w ∈ wsX5_buy := by decide +kernel
def fX5_buy_14  (isInText : Int32) (thrown : Int32) (now : Nat → Int32) (hist : Nat → Nat → Int32) (kept : Int32) (reason : Int32) (detail : Int32) (comes : Nat → Int32) (queue : Nat → Int32) (far : Nat → Int32) (x1 : Int32) (s0 : Int32) (s1 : Int32) : Option (Int32 × Int32 × (Nat → Int32) × (Nat → Nat → Int32) × Int32 × Int32 × Int32 × (Nat → Int32) × (Nat → Int32) × (Nat → Int32)) := (zbd (fX5_fails thrown s1 s0) (fun u1 => (if u1.1 = 0 then (zbd (fX5_isBuyRefused now reason detail x1) (fun u3 => (zbd (fX5_fails u1.2 (2 : Int32) u3.1) (fun u5 => (if u5.1 = 0 then (zbd (fX5_change now hist kept isInText) (fun u7 => (zbd (fX5_turn now) (fun u9 => (zck (zin x1 76) (zck (zin x1 76) (zbn ((72 : Int32) + u9) (fun a13 => (zck (zin a13 76) (zck (zin x1 76) (zbd (fX5_kindOf ((upd now x1.toNatClampNeg ((now x1.toNatClampNeg) - (20 : Int32))) x1.toNatClampNeg)) (fun u16 => (zck (zin a13 76) (zbd (fX5_endTurn (upd (upd now x1.toNatClampNeg ((now x1.toNatClampNeg) - (20 : Int32))) a13.toNatClampNeg (((upd now x1.toNatClampNeg ((now x1.toNatClampNeg) - (20 : Int32))) a13.toNatClampNeg) - ((2 : Int32) + u16))) comes queue far u9 (0 : Int32)) (fun u19 => (zck (zin ((72 : Int32) + u9) 76) (some ((u19.1 ((72 : Int32) + u9).toNatClampNeg), u5.2, u19.1, u7.1, u7.2, u3.2.1, u3.2.2, u19.2.1, u19.2.2.1, u19.2.2.2)))))))))))))))))) else (some ((0 : Int32), u5.2, now, hist, kept, u3.2.1, u3.2.2, comes, queue, far))))))) else (some ((0 : Int32), u1.2, now, hist, kept, reason, detail, comes, queue, far)))))
def fX5_buy (thrown : Int32) (now : Nat → Int32) (hist : Nat → Nat → Int32) (kept : Int32) (reason : Int32) (detail : Int32) (comes : Nat → Int32) (queue : Nat → Int32) (far : Nat → Int32) (isInText : Int32) (p0 : Int32) : Option (Int32 × Int32 × (Nat → Int32) × (Nat → Nat → Int32) × Int32 × Int32 × Int32 × (Nat → Int32) × (Nat → Int32) × (Nat → Int32)) := (zbd (fX5_isSquare p0) (fun u1 => (if u1 = 0 then (fX5_buy_14  isInText  thrown now hist kept reason detail comes queue far p0 (1 : Int32) (1 : Int32)) else (fX5_buy_14  isInText  thrown now hist kept reason detail comes queue far p0 (0 : Int32) (1 : Int32)))))
set_option maxHeartbeats 400000 in
set_option maxRecDepth 100000 in
theorem wX5_buy_14 {p : Program} {l : Launch} {e : Env} {s : State} {m : MethodId} {args : Array Value} {below : List Frame} {meth : Method} {c : Code} {A : Nat → Prop} {Q : State → Prop} {G : va_G} {k : Nat → ClassId} {ad : Nat → Nat} {saved : Nat → Int32} {isSaved : Int32} {isInText : Int32} {ahead : Nat → Int32} {roomAt : Nat → Int32} {rooms : Int32} {text : Nat → Int32} {length : Int32} {at_ : Int32} {errorPosition : Int32} {toldFrom : Int32} {toldTo : Int32} {isWrong : Int32} {before : Nat → Int32} {o : Int32 × Int32 × (Nat → Int32) × (Nat → Nat → Int32) × Int32 × Int32 × Int32 × (Nat → Int32) × (Nat → Int32) × (Nat → Int32)} (C0 : zCx p s m args meth c wsX5_buy cX5_buy RX5 (some .int) 3) (hK : zKK G k A s s.heap) (hA : ∀ q : Nat, s.heap.size ≤ q → A q) (hret : zRI p l e rmX5_buy s m args below meth c cX5_buy G A 0 0 Q .int (zM ad k o.2.1 o.2.2.1 saved o.2.2.2.1 o.2.2.2.2.1 o.2.2.2.2.2.1 o.2.2.2.2.2.2.1 isSaved o.2.2.2.2.2.2.2.1 o.2.2.2.2.2.2.2.2.1 o.2.2.2.2.2.2.2.2.2 isInText ahead roomAt rooms text length at_ errorPosition toldFrom toldTo isWrong before) o.1)  : ∀ (thrown : Int32) (now : Nat → Int32) (hist : Nat → Nat → Int32) (kept : Int32) (reason : Int32) (detail : Int32) (comes : Nat → Int32) (queue : Nat → Int32) (far : Nat → Int32) (x1 : Int32) (s0 : Int32) (s1 : Int32), fX5_buy_14  isInText thrown now hist kept reason detail comes queue far x1 s0 s1 = some o → ∀ (H : Heap) (locs : List Loc) (ls : Array Slot), zWd G A s (zM ad k thrown now saved hist kept reason detail isSaved comes queue far isInText ahead roomAt rooms text length at_ errorPosition toldFrom toldTo isWrong before) H locs → lv_has ls 3 [(0, .ref (ad 0)), (1, .int x1)] → W p l e rmX5_buy s m args below meth c H locs 0 0 Q (F0 m 14 ls [.int s0, .int s1, .ref (ad 0)]) := by
  obtain ⟨hx, hb, hr, hml, hown, hts, hlocks⟩ := id C0
  intro thrown now hist kept reason detail comes queue far x1 s0 s1 hF H locs ls hw hl
  unfold fX5_buy_14 at hF
  obtain ⟨u1, hq2, hF⟩ := zbd_t hF
  refine zgoIw (w' := (zM ad k u1.2 now saved hist kept reason detail isSaved comes queue far isInText ahead roomAt rooms text length at_ errorPosition toldFrom toldTo isWrong before)) hw hA (zVw (As := [.int s1, .int s0]) (rest := []) ⟨hx, hb, hml, hown, hts⟩ (mX5_fails l G k ad H.size thrown now saved hist kept reason detail isSaved comes queue far isInText ahead roomAt rooms text length at_ errorPosition toldFrom toldTo isWrong before s1 s0 u1 hq2) (cwV 2 hts gX5_buy_X5_fails rfl rfl rfl kdX5_fails ⟨Nat.le_of_ble_eq_true rfl, Nat.le_of_ble_eq_true rfl⟩) hK hA hw 0 rfl rfl rfl rfl hl.1 rfl (Nat.le_of_ble_eq_true rfl) dX5_buy_14 ⟨Nat.le_of_ble_eq_true rfl, Nat.le_of_ble_eq_true rfl⟩) (fun H locs hw => ?_)
  refine lv_if_ne (tgt := 33) hx hb dX5_buy_17 (by decide) (fun hc => ?_) (fun hc => ?_)
  · have hF := zif_f hc hF
    refine lv_iconst (v := (0 : Int32)) hx hb dX5_buy_33 (by decide) ?_
    obtain rfl := Option.some.inj hF
    exact hret _ _ _ _ rfl hw dX5_buy_34
  · have hF := zif_t hc hF
    refine lv_aload_n hx hb dX5_buy_20 rfl (lv_at hl 0 rfl) ?_
    refine lv_iconst (v := (2 : Int32)) hx hb dX5_buy_21 (by decide) ?_
    refine lv_aload_n hx hb dX5_buy_22 rfl (lv_at hl 0 rfl) ?_
    refine lv_iload_n hx hb dX5_buy_23 rfl (lv_at hl 1 rfl) ?_
    obtain ⟨u3, hq4, hF⟩ := zbd_t hF
    refine zgoIw (w' := (zM ad k u1.2 now saved hist kept u3.2.1 u3.2.2 isSaved comes queue far isInText ahead roomAt rooms text length at_ errorPosition toldFrom toldTo isWrong before)) hw hA (zVw (As := [.int x1]) (rest := [.int (2 : Int32), .ref (ad 0)]) ⟨hx, hb, hml, hown, hts⟩ (mX5_isBuyRefused l G k ad H.size u1.2 now saved hist kept reason detail isSaved comes queue far isInText ahead roomAt rooms text length at_ errorPosition toldFrom toldTo isWrong before x1 u3 hq4) (cwV 1 hts gX5_buy_X5_isBuyRefused rfl rfl rfl kdX5_isBuyRefused ⟨Nat.le_of_ble_eq_true rfl, Nat.le_of_ble_eq_true rfl⟩) hK hA hw 0 rfl rfl rfl rfl hl.1 rfl (Nat.le_of_ble_eq_true rfl) dX5_buy_24 ⟨Nat.le_of_ble_eq_true rfl, Nat.le_of_ble_eq_true rfl⟩) (fun H locs hw => ?_)
    obtain ⟨u5, hq6, hF⟩ := zbd_t hF
    refine zgoIw (w' := (zM ad k u5.2 now saved hist kept u3.2.1 u3.2.2 isSaved comes queue far isInText ahead roomAt rooms text length at_ errorPosition toldFrom toldTo isWrong before)) hw hA (zVw (As := [.int (2 : Int32), .int u3.1]) (rest := []) ⟨hx, hb, hml, hown, hts⟩ (mX5_fails l G k ad H.size u1.2 now saved hist kept u3.2.1 u3.2.2 isSaved comes queue far isInText ahead roomAt rooms text length at_ errorPosition toldFrom toldTo isWrong before (2 : Int32) u3.1 u5 hq6) (cwV 2 hts gX5_buy_X5_fails rfl rfl rfl kdX5_fails ⟨Nat.le_of_ble_eq_true rfl, Nat.le_of_ble_eq_true rfl⟩) hK hA hw 0 rfl rfl rfl rfl hl.1 rfl (Nat.le_of_ble_eq_true rfl) dX5_buy_27 ⟨Nat.le_of_ble_eq_true rfl, Nat.le_of_ble_eq_true rfl⟩) (fun H locs hw => ?_)
    refine lv_if_eq (tgt := 35) hx hb dX5_buy_30 (by decide) (fun hc => ?_) (fun hc => ?_)
    · have hF := zif_t hc hF
      refine lv_aload_n hx hb dX5_buy_35 rfl (lv_at hl 0 rfl) ?_
      obtain ⟨u7, hq8, hF⟩ := zbd_t hF
      refine zgoVw (w' := (zM ad k u5.2 now saved u7.1 u7.2 u3.2.1 u3.2.2 isSaved comes queue far isInText ahead roomAt rooms text length at_ errorPosition toldFrom toldTo isWrong before)) hw hA (zVw (As := []) (rest := []) ⟨hx, hb, hml, hown, hts⟩ (mX5_change l G k ad H.size u5.2 now saved hist kept u3.2.1 u3.2.2 isSaved comes queue far isInText ahead roomAt rooms text length at_ errorPosition toldFrom toldTo isWrong before  u7 hq8) (cwV 0 hts gX5_buy_X5_change rfl rfl rfl kdX5_change ⟨Nat.le_of_ble_eq_true rfl, Nat.le_of_ble_eq_true rfl⟩) hK hA hw 0 rfl rfl rfl rfl hl.1 rfl (Nat.le_of_ble_eq_true rfl) dX5_buy_36 ⟨Nat.le_of_ble_eq_true rfl, Nat.le_of_ble_eq_true rfl⟩) (fun H locs hw => ?_)
      refine lv_aload_n hx hb dX5_buy_39 rfl (lv_at hl 0 rfl) ?_
      obtain ⟨u9, hq10, hF⟩ := zbd_t hF
      refine zgoIw (w' := (zM ad k u5.2 now saved u7.1 u7.2 u3.2.1 u3.2.2 isSaved comes queue far isInText ahead roomAt rooms text length at_ errorPosition toldFrom toldTo isWrong before)) hw hA (zVw (As := []) (rest := []) ⟨hx, hb, hml, hown, hts⟩ (mX5_turn l G k ad H.size u5.2 now saved u7.1 u7.2 u3.2.1 u3.2.2 isSaved comes queue far isInText ahead roomAt rooms text length at_ errorPosition toldFrom toldTo isWrong before  u9 hq10) (cwV 0 hts gX5_buy_X5_turn rfl rfl rfl kdX5_turn ⟨Nat.le_of_ble_eq_true rfl, Nat.le_of_ble_eq_true rfl⟩) hK hA hw 0 rfl rfl rfl rfl hl.1 rfl (Nat.le_of_ble_eq_true rfl) dX5_buy_40 ⟨Nat.le_of_ble_eq_true rfl, Nat.le_of_ble_eq_true rfl⟩) (fun H locs hw => ?_)
      refine lv_istore_n (lv' := [(2, .int u9), (0, .ref (ad 0)), (1, .int x1)]) hx hb dX5_buy_43 rfl hl (by decide) rfl (fun ls hl => ?_)
      refine lv_aload_n hx hb dX5_buy_44 rfl (lv_at hl 1 rfl) ?_
      refine va_get (D := G) (ci := 4) (v := .ref (ad 1)) (C := RX5) (T := TX5) (N := 23) hx hb hts inX5_buy_X5 hown hK.1 hw.1 0 rfl rfl 1 (by decide) (hts (.fieldLink RX5 9 "SealedBoardModel" "now" "[I") (by decide +kernel)) (fun _ h9 => h9) rfl dX5_buy_45 ?_
      refine lv_iload_n hx hb dX5_buy_48 rfl (lv_at hl 2 rfl) ?_
      refine lv_dup2_11 hx hb dX5_buy_49 rfl rfl ?_
      obtain ⟨hi11, hF⟩ := zck_in hF
      refine va_iald hx hb hK.1 hw.1 1 2 rfl rfl hi11 dX5_buy_50 ?_
      refine lv_bipush (v := (20 : Int32)) hx hb dX5_buy_51 (by decide) ?_
      refine lv_isub hx hb dX5_buy_53 ?_
      obtain ⟨hi12, hF⟩ := zck_in hF
      refine va_iast hx hb hK.1 hw.1 hw.2.1 hw.2.2 1 2 rfl rfl hi12 dX5_buy_54 (fun H locs hP hD hS => ?_)
      have hw : zWd G A s (zM ad k u5.2 (upd now x1.toNatClampNeg ((now x1.toNatClampNeg) - (20 : Int32))) saved u7.1 u7.2 u3.2.1 u3.2.2 isSaved comes queue far isInText ahead roomAt rooms text length at_ errorPosition toldFrom toldTo isWrong before) H locs := ⟨hP, hD, hS⟩
      refine lv_aload_n hx hb dX5_buy_55 rfl (lv_at hl 1 rfl) ?_
      refine va_get (D := G) (ci := 4) (v := .ref (ad 1)) (C := RX5) (T := TX5) (N := 23) hx hb hts inX5_buy_X5 hown hK.1 hw.1 0 rfl rfl 1 (by decide) (hts (.fieldLink RX5 9 "SealedBoardModel" "now" "[I") (by decide +kernel)) (fun _ h9 => h9) rfl dX5_buy_56 ?_
      refine lv_bipush (v := (72 : Int32)) hx hb dX5_buy_59 (by decide) ?_
      refine lv_iload_n hx hb dX5_buy_61 rfl (lv_at hl 0 rfl) ?_
      refine lv_iadd hx hb dX5_buy_62 ?_
      refine lv_topi (fun a13 ea13 => ?_)
      have hF := zbn_t ea13 hF
      refine lv_dup2_11 hx hb dX5_buy_63 rfl rfl ?_
      obtain ⟨hi14, hF⟩ := zck_in hF
      refine va_iald hx hb hK.1 hw.1 1 2 rfl rfl hi14 dX5_buy_64 ?_
      refine lv_iconst (v := (2 : Int32)) hx hb dX5_buy_65 (by decide) ?_
      refine lv_aload_n hx hb dX5_buy_66 rfl (lv_at hl 1 rfl) ?_
      refine va_get (D := G) (ci := 4) (v := .ref (ad 1)) (C := RX5) (T := TX5) (N := 23) hx hb hts inX5_buy_X5 hown hK.1 hw.1 0 rfl rfl 1 (by decide) (hts (.fieldLink RX5 9 "SealedBoardModel" "now" "[I") (by decide +kernel)) (fun _ h9 => h9) rfl dX5_buy_67 ?_
      refine lv_iload_n hx hb dX5_buy_70 rfl (lv_at hl 2 rfl) ?_
      obtain ⟨hi15, hF⟩ := zck_in hF
      refine va_iald hx hb hK.1 hw.1 1 2 rfl rfl hi15 dX5_buy_71 ?_
      obtain ⟨u16, hq17, hF⟩ := zbd_t hF
      refine zgoI (w' := (zM ad k u5.2 (upd now x1.toNatClampNeg ((now x1.toNatClampNeg) - (20 : Int32))) saved u7.1 u7.2 u3.2.1 u3.2.2 isSaved comes queue far isInText ahead roomAt rooms text length at_ errorPosition toldFrom toldTo isWrong before)) hw hA [] rfl (zS (As := [.int ((upd now x1.toNatClampNeg ((now x1.toNatClampNeg) - (20 : Int32))) x1.toNatClampNeg)]) (rest := [.int (2 : Int32), .int ((upd now x1.toNatClampNeg ((now x1.toNatClampNeg) - (20 : Int32))) a13.toNatClampNeg), .int a13, .ref (ad 1)]) ⟨hx, hb, hml, hown, hts⟩ (mX5_kindOf l G k  H.size  ((upd now x1.toNatClampNeg ((now x1.toNatClampNeg) - (20 : Int32))) x1.toNatClampNeg) u16 hq17) (va_cwS 1 hts gX5_buy_X5_kindOf rfl rfl rfl kdX5_kindOf ⟨Nat.le_of_ble_eq_true rfl, Nat.le_of_ble_eq_true rfl⟩) hK hA hw [] rfl (by decide) rfl hl.1 rfl (Nat.le_of_ble_eq_true rfl) dX5_buy_72 ⟨Nat.le_of_ble_eq_true rfl, Nat.le_of_ble_eq_true rfl⟩) rfl rfl rfl (fun H locs hw => ?_)
      refine lv_iadd hx hb dX5_buy_75 ?_
      refine lv_isub hx hb dX5_buy_76 ?_
      obtain ⟨hi18, hF⟩ := zck_in hF
      refine va_iast hx hb hK.1 hw.1 hw.2.1 hw.2.2 1 2 rfl rfl hi18 dX5_buy_77 (fun H locs hP hD hS => ?_)
      have hw : zWd G A s (zM ad k u5.2 (upd (upd now x1.toNatClampNeg ((now x1.toNatClampNeg) - (20 : Int32))) a13.toNatClampNeg (((upd now x1.toNatClampNeg ((now x1.toNatClampNeg) - (20 : Int32))) a13.toNatClampNeg) - ((2 : Int32) + u16))) saved u7.1 u7.2 u3.2.1 u3.2.2 isSaved comes queue far isInText ahead roomAt rooms text length at_ errorPosition toldFrom toldTo isWrong before) H locs := ⟨hP, hD, hS⟩
      refine lv_aload_n hx hb dX5_buy_78 rfl (lv_at hl 1 rfl) ?_
      refine lv_iload_n hx hb dX5_buy_79 rfl (lv_at hl 0 rfl) ?_
      refine lv_iconst (v := (0 : Int32)) hx hb dX5_buy_80 (by decide) ?_
      obtain ⟨u19, hq20, hF⟩ := zbd_t hF
      refine zgoVw (w' := (zM ad k u5.2 u19.1 saved u7.1 u7.2 u3.2.1 u3.2.2 isSaved u19.2.1 u19.2.2.1 u19.2.2.2 isInText ahead roomAt rooms text length at_ errorPosition toldFrom toldTo isWrong before)) hw hA (zVw (As := [.int u9, .int (0 : Int32)]) (rest := []) ⟨hx, hb, hml, hown, hts⟩ (mX5_endTurn l G k ad H.size u5.2 (upd (upd now x1.toNatClampNeg ((now x1.toNatClampNeg) - (20 : Int32))) a13.toNatClampNeg (((upd now x1.toNatClampNeg ((now x1.toNatClampNeg) - (20 : Int32))) a13.toNatClampNeg) - ((2 : Int32) + u16))) saved u7.1 u7.2 u3.2.1 u3.2.2 isSaved comes queue far isInText ahead roomAt rooms text length at_ errorPosition toldFrom toldTo isWrong before u9 (0 : Int32) u19 hq20) (cwV 2 hts gX5_buy_X5_endTurn rfl rfl rfl kdX5_endTurn ⟨Nat.le_of_ble_eq_true rfl, Nat.le_of_ble_eq_true rfl⟩) hK hA hw 0 rfl rfl rfl rfl hl.1 rfl (Nat.le_of_ble_eq_true rfl) dX5_buy_81 ⟨Nat.le_of_ble_eq_true rfl, Nat.le_of_ble_eq_true rfl⟩) (fun H locs hw => ?_)
      refine lv_aload_n hx hb dX5_buy_84 rfl (lv_at hl 1 rfl) ?_
      refine va_get (D := G) (ci := 4) (v := .ref (ad 1)) (C := RX5) (T := TX5) (N := 23) hx hb hts inX5_buy_X5 hown hK.1 hw.1 0 rfl rfl 1 (by decide) (hts (.fieldLink RX5 9 "SealedBoardModel" "now" "[I") (by decide +kernel)) (fun _ h9 => h9) rfl dX5_buy_85 ?_
      refine lv_bipush (v := (72 : Int32)) hx hb dX5_buy_88 (by decide) ?_
      refine lv_iload_n hx hb dX5_buy_90 rfl (lv_at hl 0 rfl) ?_
      refine lv_iadd hx hb dX5_buy_91 ?_
      obtain ⟨hi21, hF⟩ := zck_in hF
      refine va_iald hx hb hK.1 hw.1 1 2 rfl rfl hi21 dX5_buy_92 ?_
      obtain rfl := Option.some.inj hF
      exact hret _ _ _ _ rfl hw dX5_buy_93
    · have hF := zif_f hc hF
      refine lv_iconst (v := (0 : Int32)) hx hb dX5_buy_33 (by decide) ?_
      obtain rfl := Option.some.inj hF
      exact hret _ _ _ _ rfl hw dX5_buy_34
set_option maxHeartbeats 400000 in
set_option maxRecDepth 100000 in
theorem mX5_buy (l : Launch) (G : va_G) (k : Nat → ClassId) (ad : Nat → Nat) (sz : Nat) (thrown : Int32) (now : Nat → Int32) (saved : Nat → Int32) (hist : Nat → Nat → Int32) (kept : Int32) (reason : Int32) (detail : Int32) (isSaved : Int32) (comes : Nat → Int32) (queue : Nat → Int32) (far : Nat → Int32) (isInText : Int32) (ahead : Nat → Int32) (roomAt : Nat → Int32) (rooms : Int32) (text : Nat → Int32) (length : Int32) (at_ : Int32) (errorPosition : Int32) (toldFrom : Int32) (toldTo : Int32) (isWrong : Int32) (before : Nat → Int32) (p0 : Int32) (o : Int32 × Int32 × (Nat → Int32) × (Nat → Nat → Int32) × Int32 × Int32 × Int32 × (Nat → Int32) × (Nat → Int32) × (Nat → Int32)) (hF : fX5_buy thrown now hist kept reason detail comes queue far isInText p0 = some o) : zMI l yX5_buy wsX5_buy rmX5_buy G k (zM ad k thrown now saved hist kept reason detail isSaved comes queue far isInText ahead roomAt rooms text length at_ errorPosition toldFrom toldTo isWrong before) sz [.ref (ad 0), .int p0] o.1 (zM ad k o.2.1 o.2.2.1 saved o.2.2.2.1 o.2.2.2.2.1 o.2.2.2.2.2.1 o.2.2.2.2.2.2.1 isSaved o.2.2.2.2.2.2.2.1 o.2.2.2.2.2.2.2.2.1 o.2.2.2.2.2.2.2.2.2 isInText ahead roomAt rooms text length at_ errorPosition toldFrom toldTo isWrong before) := by
  refine zof_I (cc := cX5_buy) (nL := 3) (own := RX5) (rt := .int) (by decide) rfl rfl (Nat.le_of_ble_eq_true rfl) ?_
  intro p e s m args below meth c A Q C0 hK hA hret ls hl hw
  have hl : lv_has ls 3 [(0, .ref (ad 0)), (1, .int p0)] := hl
  obtain ⟨hx, hb, hr, hml, hown, hts, hlocks⟩ := id C0
  obtain ⟨H, hH⟩ : ∃ z, z = s.heap := ⟨_, rfl⟩
  rw [← hH] at hw ⊢
  unfold fX5_buy at hF
  refine lv_aload_n hx hb dX5_buy_0 rfl (lv_at hl 0 rfl) ?_
  refine lv_iconst (v := (1 : Int32)) hx hb dX5_buy_1 (by decide) ?_
  refine lv_iload_n hx hb dX5_buy_2 rfl (lv_at hl 1 rfl) ?_
  obtain ⟨u1, hq2, hF⟩ := zbd_t hF
  refine zgoI (w' := (zM ad k thrown now saved hist kept reason detail isSaved comes queue far isInText ahead roomAt rooms text length at_ errorPosition toldFrom toldTo isWrong before)) hw hA [] rfl (zS (As := [.int p0]) (rest := [.int (1 : Int32), .ref (ad 0)]) ⟨hx, hb, hml, hown, hts⟩ (mX5_isSquare l G k  H.size  p0 u1 hq2) (va_cwS 1 hts gX5_buy_X5_isSquare rfl rfl rfl kdX5_isSquare ⟨Nat.le_of_ble_eq_true rfl, Nat.le_of_ble_eq_true rfl⟩) hK hA hw [] rfl (by decide) rfl hl.1 rfl (Nat.le_of_ble_eq_true rfl) dX5_buy_3 ⟨Nat.le_of_ble_eq_true rfl, Nat.le_of_ble_eq_true rfl⟩) rfl rfl rfl (fun H locs hw => ?_)
  refine lv_if_ne (tgt := 13) hx hb dX5_buy_6 (by decide) (fun hc => ?_) (fun hc => ?_)
  · have hF := zif_f hc hF
    refine lv_iconst (v := (0 : Int32)) hx hb dX5_buy_13 (by decide) ?_
    exact wX5_buy_14 C0 hK hA hret   _ _ _ _ _ _ _ _ _ _ _ _ hF _ _ _ hw (lv_sub hl [0, 1] rfl)
  · have hF := zif_t hc hF
    refine lv_iconst (v := (1 : Int32)) hx hb dX5_buy_9 (by decide) ?_
    refine lv_goto (tgt := 14) hx hb dX5_buy_10 (by decide) ?_
    exact wX5_buy_14 C0 hK hA hret   _ _ _ _ _ _ _ _ _ _ _ _ hF _ _ _ hw (lv_sub hl [0, 1] rfl)

/-! SealedBoardModel.square(II)I -/
abbrev rmX5_square : Room := { frames := 2, cells := 0, slots := 0, locals := 42 }
theorem kdX5_square : yX5_square.cls = RX5 ∧ yX5_square.cls ≠ "java/lang/invoke/MethodHandle" ∧ yX5_square.cls ≠ "java/lang/invoke/VarHandle" ∧ (parseMethodDescriptor yX5_square.desc).map (fun d => d.parameters.length) = some 2 := by decide +kernel
theorem inX5_square_X5 : ∀ w ∈ u_ws RX5 TX5 23, w ∈ wsX5_square := by decide +kernel
def fX5_square_154  (now : Nat → Int32) (thrown : Int32) (x4 : Int32) : Option (Int32 × Int32) := (zbd (fX5_sideOf x4) (fun u1 => (some (u1, thrown))))
def fX5_square_80  (now : Nat → Int32) (thrown : Int32) (x1 : Int32) (x2 : Int32) (x3 : Int32) (s0 : Int32) : Option (Int32 × Int32) := (if x2 = (0 : Int32) then (zbd (fX5_isWall now x1) (fun u2 => (if u2 = 0 then (if s0 = 0 then (if x3 ≤ 0 then (some ((0 : Int32), thrown)) else (some ((3 : Int32), thrown))) else (some ((1 : Int32), thrown))) else (some ((2 : Int32), thrown))))) else (if x2 = (1 : Int32) then (if s0 = 0 then (if x3 ≤ 0 then (fX5_square_154  now  thrown s0) else (some ((x3 - (1 : Int32)), thrown))) else (fX5_square_154  now  thrown s0)) else (if x2 = (2 : Int32) then (zbd (fX5_kindOf s0) (fun u6 => (some (u6, thrown)))) else (if x3 ≤ 0 then (some ((0 : Int32), thrown)) else (some ((1 : Int32), thrown))))))
def fX5_square_36  (now : Nat → Int32) (thrown : Int32) (x1 : Int32) (x2 : Int32) (s0 : Int32) (s1 : Int32) : Option (Int32 × Int32) := (zbd (fX5_fails thrown s1 s0) (fun u1 => (if u1.1 = 0 then (zck (zin ((36 : Int32) + x1) 76) (zbn (now ((36 : Int32) + x1).toNatClampNeg) (fun a4 => (zbd (fX5_isWall now x1) (fun u5 => (if u5 = 0 then (zck (zin x1 76) (fX5_square_80  now  u1.2 x1 x2 a4 (now x1.toNatClampNeg))) else (zck (zin x1 76) (fX5_square_80  now  u1.2 x1 x2 a4 ((now x1.toNatClampNeg) - (20 : Int32)))))))))) else (some ((0 : Int32), u1.2)))))
def fX5_square_14  (now : Nat → Int32) (thrown : Int32) (x1 : Int32) (x2 : Int32) (s0 : Int32) (s1 : Int32) : Option (Int32 × Int32) := (zbd (fX5_fails thrown s1 s0) (fun u1 => (if u1.1 = 0 then (zbd (fX5_isBetween x2 (0 : Int32) (3 : Int32)) (fun u3 => (if u3 = 0 then (fX5_square_36  now  u1.2 x1 x2 (1 : Int32) (2 : Int32)) else (fX5_square_36  now  u1.2 x1 x2 (0 : Int32) (2 : Int32))))) else (some ((0 : Int32), u1.2)))))
def fX5_square (thrown : Int32) (now : Nat → Int32) (p0 : Int32) (p1 : Int32) : Option (Int32 × Int32) := (zbd (fX5_isSquare p0) (fun u1 => (if u1 = 0 then (fX5_square_14  now  thrown p0 p1 (1 : Int32) (1 : Int32)) else (fX5_square_14  now  thrown p0 p1 (0 : Int32) (1 : Int32)))))
set_option maxHeartbeats 400000 in
set_option maxRecDepth 100000 in
theorem wX5_square_154 {p : Program} {l : Launch} {e : Env} {s : State} {m : MethodId} {args : Array Value} {below : List Frame} {meth : Method} {c : Code} {A : Nat → Prop} {Q : State → Prop} {G : va_G} {k : Nat → ClassId} {ad : Nat → Nat} {now : Nat → Int32} {saved : Nat → Int32} {hist : Nat → Nat → Int32} {kept : Int32} {reason : Int32} {detail : Int32} {isSaved : Int32} {comes : Nat → Int32} {queue : Nat → Int32} {far : Nat → Int32} {isInText : Int32} {ahead : Nat → Int32} {roomAt : Nat → Int32} {rooms : Int32} {text : Nat → Int32} {length : Int32} {at_ : Int32} {errorPosition : Int32} {toldFrom : Int32} {toldTo : Int32} {isWrong : Int32} {before : Nat → Int32} {o : Int32 × Int32} (C0 : zCx p s m args meth c wsX5_square cX5_square RX5 (some .int) 5) (hK : zKK G k A s s.heap) (hA : ∀ q : Nat, s.heap.size ≤ q → A q) (hret : zRI p l e rmX5_square s m args below meth c cX5_square G A 0 0 Q .int (zM ad k o.2 now saved hist kept reason detail isSaved comes queue far isInText ahead roomAt rooms text length at_ errorPosition toldFrom toldTo isWrong before) o.1)  : ∀ (thrown : Int32) (x4 : Int32), fX5_square_154  now thrown x4 = some o → ∀ (H : Heap) (locs : List Loc) (ls : Array Slot), zWd G A s (zM ad k thrown now saved hist kept reason detail isSaved comes queue far isInText ahead roomAt rooms text length at_ errorPosition toldFrom toldTo isWrong before) H locs → lv_has ls 5 [(4, .int x4)] → W p l e rmX5_square s m args below meth c H locs 0 0 Q (F0 m 154 ls []) := by
  obtain ⟨hx, hb, hr, hml, hown, hts, hlocks⟩ := id C0
  intro thrown x4 hF H locs ls hw hl
  unfold fX5_square_154 at hF
  refine lv_iload hx hb dX5_square_154 (lv_at hl 0 rfl) ?_
  obtain ⟨u1, hq2, hF⟩ := zbd_t hF
  refine zgoI (w' := (zM ad k thrown now saved hist kept reason detail isSaved comes queue far isInText ahead roomAt rooms text length at_ errorPosition toldFrom toldTo isWrong before)) hw hA [] rfl (zS (As := [.int x4]) (rest := []) ⟨hx, hb, hml, hown, hts⟩ (mX5_sideOf l G k  H.size  x4 u1 hq2) (va_cwS 1 hts gX5_square_X5_sideOf rfl rfl rfl kdX5_sideOf ⟨Nat.le_of_ble_eq_true rfl, Nat.le_of_ble_eq_true rfl⟩) hK hA hw [] rfl (by decide) rfl hl.1 rfl (Nat.le_of_ble_eq_true rfl) dX5_square_156 ⟨Nat.le_of_ble_eq_true rfl, Nat.le_of_ble_eq_true rfl⟩) rfl rfl rfl (fun H locs hw => ?_)
  obtain rfl := Option.some.inj hF
  exact hret _ _ _ _ rfl hw dX5_square_159
set_option maxHeartbeats 400000 in
set_option maxRecDepth 100000 in
theorem wX5_square_80 {p : Program} {l : Launch} {e : Env} {s : State} {m : MethodId} {args : Array Value} {below : List Frame} {meth : Method} {c : Code} {A : Nat → Prop} {Q : State → Prop} {G : va_G} {k : Nat → ClassId} {ad : Nat → Nat} {now : Nat → Int32} {saved : Nat → Int32} {hist : Nat → Nat → Int32} {kept : Int32} {reason : Int32} {detail : Int32} {isSaved : Int32} {comes : Nat → Int32} {queue : Nat → Int32} {far : Nat → Int32} {isInText : Int32} {ahead : Nat → Int32} {roomAt : Nat → Int32} {rooms : Int32} {text : Nat → Int32} {length : Int32} {at_ : Int32} {errorPosition : Int32} {toldFrom : Int32} {toldTo : Int32} {isWrong : Int32} {before : Nat → Int32} {o : Int32 × Int32} (C0 : zCx p s m args meth c wsX5_square cX5_square RX5 (some .int) 5) (hK : zKK G k A s s.heap) (hA : ∀ q : Nat, s.heap.size ≤ q → A q) (hret : zRI p l e rmX5_square s m args below meth c cX5_square G A 0 0 Q .int (zM ad k o.2 now saved hist kept reason detail isSaved comes queue far isInText ahead roomAt rooms text length at_ errorPosition toldFrom toldTo isWrong before) o.1)  : ∀ (thrown : Int32) (x1 : Int32) (x2 : Int32) (x3 : Int32) (s0 : Int32), fX5_square_80  now thrown x1 x2 x3 s0 = some o → ∀ (H : Heap) (locs : List Loc) (ls : Array Slot), zWd G A s (zM ad k thrown now saved hist kept reason detail isSaved comes queue far isInText ahead roomAt rooms text length at_ errorPosition toldFrom toldTo isWrong before) H locs → lv_has ls 5 [(0, .ref (ad 0)), (1, .int x1), (2, .int x2), (3, .int x3)] → W p l e rmX5_square s m args below meth c H locs 0 0 Q (F0 m 80 ls [.int s0]) := by
  obtain ⟨hx, hb, hr, hml, hown, hts, hlocks⟩ := id C0
  intro thrown x1 x2 x3 s0 hF H locs ls hw hl
  unfold fX5_square_80 at hF
  refine lv_istore (lv' := [(4, .int s0), (0, .ref (ad 0)), (1, .int x1), (2, .int x2), (3, .int x3)]) hx hb dX5_square_80 hl (by decide) rfl (fun ls hl => ?_)
  refine lv_iload_n hx hb dX5_square_82 rfl (lv_at hl 3 rfl) ?_
  by_cases hc1 : x2 = (0 : Int32)
  · have hF := zif_t hc1 hF
    refine lv_tableIn (tgt := 108) (off := 25) hx hb dX5_square_83 (by rw [hc1]; decide) (by rw [hc1]; decide) (by rw [hc1]; rfl) (by decide) ?_
    refine lv_aload_n hx hb dX5_square_108 rfl (lv_at hl 1 rfl) ?_
    refine lv_iload_n hx hb dX5_square_109 rfl (lv_at hl 2 rfl) ?_
    obtain ⟨u2, hq3, hF⟩ := zbd_t hF
    refine zgoIw (w' := (zM ad k thrown now saved hist kept reason detail isSaved comes queue far isInText ahead roomAt rooms text length at_ errorPosition toldFrom toldTo isWrong before)) hw hA (zVw (As := [.int x1]) (rest := []) ⟨hx, hb, hml, hown, hts⟩ (mX5_isWall l G k ad H.size thrown now saved hist kept reason detail isSaved comes queue far isInText ahead roomAt rooms text length at_ errorPosition toldFrom toldTo isWrong before x1 u2 hq3) (cwV 1 hts gX5_square_X5_isWall rfl rfl rfl kdX5_isWall ⟨Nat.le_of_ble_eq_true rfl, Nat.le_of_ble_eq_true rfl⟩) hK hA hw 0 rfl rfl rfl rfl hl.1 rfl (Nat.le_of_ble_eq_true rfl) dX5_square_110 ⟨Nat.le_of_ble_eq_true rfl, Nat.le_of_ble_eq_true rfl⟩) (fun H locs hw => ?_)
    refine lv_if_eq (tgt := 120) hx hb dX5_square_113 (by decide) (fun hc => ?_) (fun hc => ?_)
    · have hF := zif_t hc hF
      refine lv_iload hx hb dX5_square_120 (lv_at hl 0 rfl) ?_
      refine lv_if_eq (tgt := 129) hx hb dX5_square_122 (by decide) (fun hc => ?_) (fun hc => ?_)
      · have hF := zif_t hc hF
        refine lv_iload_n hx hb dX5_square_129 rfl (lv_at hl 4 rfl) ?_
        refine lv_if_le (tgt := 137) hx hb dX5_square_130 (by decide) (fun hc => ?_) (fun hc => ?_)
        · have hF := zif_t hc hF
          refine lv_iconst (v := (0 : Int32)) hx hb dX5_square_137 (by decide) ?_
          obtain rfl := Option.some.inj hF
          exact hret _ _ _ _ rfl hw dX5_square_138
        · have hF := zif_f hc hF
          refine lv_iconst (v := (3 : Int32)) hx hb dX5_square_133 (by decide) ?_
          refine lv_goto (tgt := 138) hx hb dX5_square_134 (by decide) ?_
          obtain rfl := Option.some.inj hF
          exact hret _ _ _ _ rfl hw dX5_square_138
      · have hF := zif_f hc hF
        refine lv_iconst (v := (1 : Int32)) hx hb dX5_square_125 (by decide) ?_
        refine lv_goto (tgt := 138) hx hb dX5_square_126 (by decide) ?_
        obtain rfl := Option.some.inj hF
        exact hret _ _ _ _ rfl hw dX5_square_138
    · have hF := zif_f hc hF
      refine lv_iconst (v := (2 : Int32)) hx hb dX5_square_116 (by decide) ?_
      refine lv_goto (tgt := 138) hx hb dX5_square_117 (by decide) ?_
      obtain rfl := Option.some.inj hF
      exact hret _ _ _ _ rfl hw dX5_square_138
  have hF := zif_f hc1 hF
  by_cases hc4 : x2 = (1 : Int32)
  · have hF := zif_t hc4 hF
    refine lv_tableIn (tgt := 139) (off := 56) hx hb dX5_square_83 (by rw [hc4]; decide) (by rw [hc4]; decide) (by rw [hc4]; rfl) (by decide) ?_
    refine lv_iload hx hb dX5_square_139 (lv_at hl 0 rfl) ?_
    refine lv_if_ne (tgt := 154) hx hb dX5_square_141 (by decide) (fun hc => ?_) (fun hc => ?_)
    · have hF := zif_f hc hF
      exact wX5_square_154 C0 hK hA hret   _ _ hF _ _ _ hw (lv_sub hl [0] rfl)
    · have hF := zif_t hc hF
      refine lv_iload_n hx hb dX5_square_144 rfl (lv_at hl 4 rfl) ?_
      refine lv_if_le (tgt := 154) hx hb dX5_square_145 (by decide) (fun hc => ?_) (fun hc => ?_)
      · have hF := zif_t hc hF
        exact wX5_square_154 C0 hK hA hret   _ _ hF _ _ _ hw (lv_sub hl [0] rfl)
      · have hF := zif_f hc hF
        refine lv_iload_n hx hb dX5_square_148 rfl (lv_at hl 4 rfl) ?_
        refine lv_iconst (v := (1 : Int32)) hx hb dX5_square_149 (by decide) ?_
        refine lv_isub hx hb dX5_square_150 ?_
        refine lv_goto (tgt := 159) hx hb dX5_square_151 (by decide) ?_
        obtain rfl := Option.some.inj hF
        exact hret _ _ _ _ rfl hw dX5_square_159
  have hF := zif_f hc4 hF
  by_cases hc5 : x2 = (2 : Int32)
  · have hF := zif_t hc5 hF
    refine lv_tableIn (tgt := 160) (off := 77) hx hb dX5_square_83 (by rw [hc5]; decide) (by rw [hc5]; decide) (by rw [hc5]; rfl) (by decide) ?_
    refine lv_iload hx hb dX5_square_160 (lv_at hl 0 rfl) ?_
    obtain ⟨u6, hq7, hF⟩ := zbd_t hF
    refine zgoI (w' := (zM ad k thrown now saved hist kept reason detail isSaved comes queue far isInText ahead roomAt rooms text length at_ errorPosition toldFrom toldTo isWrong before)) hw hA [] rfl (zS (As := [.int s0]) (rest := []) ⟨hx, hb, hml, hown, hts⟩ (mX5_kindOf l G k  H.size  s0 u6 hq7) (va_cwS 1 hts gX5_square_X5_kindOf rfl rfl rfl kdX5_kindOf ⟨Nat.le_of_ble_eq_true rfl, Nat.le_of_ble_eq_true rfl⟩) hK hA hw [] rfl (by decide) rfl hl.1 rfl (Nat.le_of_ble_eq_true rfl) dX5_square_162 ⟨Nat.le_of_ble_eq_true rfl, Nat.le_of_ble_eq_true rfl⟩) rfl rfl rfl (fun H locs hw => ?_)
    obtain rfl := Option.some.inj hF
    exact hret _ _ _ _ rfl hw dX5_square_165
  have hF := zif_f hc5 hF
  refine lv_tableOut (tgt := 166) hx hb dX5_square_83 (by
    have q0 : x2.toInt ≠ 0 := fun q => hc1 (Int32.toInt_inj.mp q)
    have q1 : x2.toInt ≠ 1 := fun q => hc4 (Int32.toInt_inj.mp q)
    have q2 : x2.toInt ≠ 2 := fun q => hc5 (Int32.toInt_inj.mp q)
    omega) (by decide) ?_
  refine lv_iload_n hx hb dX5_square_166 rfl (lv_at hl 4 rfl) ?_
  refine lv_if_le (tgt := 174) hx hb dX5_square_167 (by decide) (fun hc => ?_) (fun hc => ?_)
  · have hF := zif_t hc hF
    refine lv_iconst (v := (0 : Int32)) hx hb dX5_square_174 (by decide) ?_
    obtain rfl := Option.some.inj hF
    exact hret _ _ _ _ rfl hw dX5_square_175
  · have hF := zif_f hc hF
    refine lv_iconst (v := (1 : Int32)) hx hb dX5_square_170 (by decide) ?_
    refine lv_goto (tgt := 175) hx hb dX5_square_171 (by decide) ?_
    obtain rfl := Option.some.inj hF
    exact hret _ _ _ _ rfl hw dX5_square_175
set_option maxHeartbeats 400000 in
set_option maxRecDepth 100000 in
theorem wX5_square_36 {p : Program} {l : Launch} {e : Env} {s : State} {m : MethodId} {args : Array Value} {below : List Frame} {meth : Method} {c : Code} {A : Nat → Prop} {Q : State → Prop} {G : va_G} {k : Nat → ClassId} {ad : Nat → Nat} {now : Nat → Int32} {saved : Nat → Int32} {hist : Nat → Nat → Int32} {kept : Int32} {reason : Int32} {detail : Int32} {isSaved : Int32} {comes : Nat → Int32} {queue : Nat → Int32} {far : Nat → Int32} {isInText : Int32} {ahead : Nat → Int32} {roomAt : Nat → Int32} {rooms : Int32} {text : Nat → Int32} {length : Int32} {at_ : Int32} {errorPosition : Int32} {toldFrom : Int32} {toldTo : Int32} {isWrong : Int32} {before : Nat → Int32} {o : Int32 × Int32} (C0 : zCx p s m args meth c wsX5_square cX5_square RX5 (some .int) 5) (hK : zKK G k A s s.heap) (hA : ∀ q : Nat, s.heap.size ≤ q → A q) (hret : zRI p l e rmX5_square s m args below meth c cX5_square G A 0 0 Q .int (zM ad k o.2 now saved hist kept reason detail isSaved comes queue far isInText ahead roomAt rooms text length at_ errorPosition toldFrom toldTo isWrong before) o.1)  : ∀ (thrown : Int32) (x1 : Int32) (x2 : Int32) (s0 : Int32) (s1 : Int32), fX5_square_36  now thrown x1 x2 s0 s1 = some o → ∀ (H : Heap) (locs : List Loc) (ls : Array Slot), zWd G A s (zM ad k thrown now saved hist kept reason detail isSaved comes queue far isInText ahead roomAt rooms text length at_ errorPosition toldFrom toldTo isWrong before) H locs → lv_has ls 5 [(0, .ref (ad 0)), (1, .int x1), (2, .int x2)] → W p l e rmX5_square s m args below meth c H locs 0 0 Q (F0 m 36 ls [.int s0, .int s1, .ref (ad 0)]) := by
  obtain ⟨hx, hb, hr, hml, hown, hts, hlocks⟩ := id C0
  intro thrown x1 x2 s0 s1 hF H locs ls hw hl
  unfold fX5_square_36 at hF
  obtain ⟨u1, hq2, hF⟩ := zbd_t hF
  refine zgoIw (w' := (zM ad k u1.2 now saved hist kept reason detail isSaved comes queue far isInText ahead roomAt rooms text length at_ errorPosition toldFrom toldTo isWrong before)) hw hA (zVw (As := [.int s1, .int s0]) (rest := []) ⟨hx, hb, hml, hown, hts⟩ (mX5_fails l G k ad H.size thrown now saved hist kept reason detail isSaved comes queue far isInText ahead roomAt rooms text length at_ errorPosition toldFrom toldTo isWrong before s1 s0 u1 hq2) (cwV 2 hts gX5_square_X5_fails rfl rfl rfl kdX5_fails ⟨Nat.le_of_ble_eq_true rfl, Nat.le_of_ble_eq_true rfl⟩) hK hA hw 0 rfl rfl rfl rfl hl.1 rfl (Nat.le_of_ble_eq_true rfl) dX5_square_36 ⟨Nat.le_of_ble_eq_true rfl, Nat.le_of_ble_eq_true rfl⟩) (fun H locs hw => ?_)
  refine lv_if_eq (tgt := 44) hx hb dX5_square_39 (by decide) (fun hc => ?_) (fun hc => ?_)
  · have hF := zif_t hc hF
    refine lv_aload_n hx hb dX5_square_44 rfl (lv_at hl 0 rfl) ?_
    refine va_get (D := G) (ci := 4) (v := .ref (ad 1)) (C := RX5) (T := TX5) (N := 23) hx hb hts inX5_square_X5 hown hK.1 hw.1 0 rfl rfl 1 (by decide) (hts (.fieldLink RX5 9 "SealedBoardModel" "now" "[I") (by decide +kernel)) (fun _ h9 => h9) rfl dX5_square_45 ?_
    refine lv_bipush (v := (36 : Int32)) hx hb dX5_square_48 (by decide) ?_
    refine lv_iload_n hx hb dX5_square_50 rfl (lv_at hl 1 rfl) ?_
    refine lv_iadd hx hb dX5_square_51 ?_
    obtain ⟨hi3, hF⟩ := zck_in hF
    refine va_iald hx hb hK.1 hw.1 1 2 rfl rfl hi3 dX5_square_52 ?_
    refine lv_topi (fun a4 ea4 => ?_)
    have hF := zbn_t ea4 hF
    refine lv_istore_n (lv' := [(3, .int a4), (0, .ref (ad 0)), (1, .int x1), (2, .int x2)]) hx hb dX5_square_53 rfl hl (by decide) rfl (fun ls hl => ?_)
    refine lv_aload_n hx hb dX5_square_54 rfl (lv_at hl 1 rfl) ?_
    refine lv_iload_n hx hb dX5_square_55 rfl (lv_at hl 2 rfl) ?_
    obtain ⟨u5, hq6, hF⟩ := zbd_t hF
    refine zgoIw (w' := (zM ad k u1.2 now saved hist kept reason detail isSaved comes queue far isInText ahead roomAt rooms text length at_ errorPosition toldFrom toldTo isWrong before)) hw hA (zVw (As := [.int x1]) (rest := []) ⟨hx, hb, hml, hown, hts⟩ (mX5_isWall l G k ad H.size u1.2 now saved hist kept reason detail isSaved comes queue far isInText ahead roomAt rooms text length at_ errorPosition toldFrom toldTo isWrong before x1 u5 hq6) (cwV 1 hts gX5_square_X5_isWall rfl rfl rfl kdX5_isWall ⟨Nat.le_of_ble_eq_true rfl, Nat.le_of_ble_eq_true rfl⟩) hK hA hw 0 rfl rfl rfl rfl hl.1 rfl (Nat.le_of_ble_eq_true rfl) dX5_square_56 ⟨Nat.le_of_ble_eq_true rfl, Nat.le_of_ble_eq_true rfl⟩) (fun H locs hw => ?_)
    refine lv_if_eq (tgt := 74) hx hb dX5_square_59 (by decide) (fun hc => ?_) (fun hc => ?_)
    · have hF := zif_t hc hF
      refine lv_aload_n hx hb dX5_square_74 rfl (lv_at hl 1 rfl) ?_
      refine va_get (D := G) (ci := 4) (v := .ref (ad 1)) (C := RX5) (T := TX5) (N := 23) hx hb hts inX5_square_X5 hown hK.1 hw.1 0 rfl rfl 1 (by decide) (hts (.fieldLink RX5 9 "SealedBoardModel" "now" "[I") (by decide +kernel)) (fun _ h9 => h9) rfl dX5_square_75 ?_
      refine lv_iload_n hx hb dX5_square_78 rfl (lv_at hl 2 rfl) ?_
      obtain ⟨hi7, hF⟩ := zck_in hF
      refine va_iald hx hb hK.1 hw.1 1 2 rfl rfl hi7 dX5_square_79 ?_
      exact wX5_square_80 C0 hK hA hret   _ _ _ _ _ hF _ _ _ hw (lv_sub hl [1, 2, 3, 0] rfl)
    · have hF := zif_f hc hF
      refine lv_aload_n hx hb dX5_square_62 rfl (lv_at hl 1 rfl) ?_
      refine va_get (D := G) (ci := 4) (v := .ref (ad 1)) (C := RX5) (T := TX5) (N := 23) hx hb hts inX5_square_X5 hown hK.1 hw.1 0 rfl rfl 1 (by decide) (hts (.fieldLink RX5 9 "SealedBoardModel" "now" "[I") (by decide +kernel)) (fun _ h9 => h9) rfl dX5_square_63 ?_
      refine lv_iload_n hx hb dX5_square_66 rfl (lv_at hl 2 rfl) ?_
      obtain ⟨hi8, hF⟩ := zck_in hF
      refine va_iald hx hb hK.1 hw.1 1 2 rfl rfl hi8 dX5_square_67 ?_
      refine lv_bipush (v := (20 : Int32)) hx hb dX5_square_68 (by decide) ?_
      refine lv_isub hx hb dX5_square_70 ?_
      refine lv_goto (tgt := 80) hx hb dX5_square_71 (by decide) ?_
      exact wX5_square_80 C0 hK hA hret   _ _ _ _ _ hF _ _ _ hw (lv_sub hl [1, 2, 3, 0] rfl)
  · have hF := zif_f hc hF
    refine lv_iconst (v := (0 : Int32)) hx hb dX5_square_42 (by decide) ?_
    obtain rfl := Option.some.inj hF
    exact hret _ _ _ _ rfl hw dX5_square_43
set_option maxHeartbeats 400000 in
set_option maxRecDepth 100000 in
theorem wX5_square_14 {p : Program} {l : Launch} {e : Env} {s : State} {m : MethodId} {args : Array Value} {below : List Frame} {meth : Method} {c : Code} {A : Nat → Prop} {Q : State → Prop} {G : va_G} {k : Nat → ClassId} {ad : Nat → Nat} {now : Nat → Int32} {saved : Nat → Int32} {hist : Nat → Nat → Int32} {kept : Int32} {reason : Int32} {detail : Int32} {isSaved : Int32} {comes : Nat → Int32} {queue : Nat → Int32} {far : Nat → Int32} {isInText : Int32} {ahead : Nat → Int32} {roomAt : Nat → Int32} {rooms : Int32} {text : Nat → Int32} {length : Int32} {at_ : Int32} {errorPosition : Int32} {toldFrom : Int32} {toldTo : Int32} {isWrong : Int32} {before : Nat → Int32} {o : Int32 × Int32} (C0 : zCx p s m args meth c wsX5_square cX5_square RX5 (some .int) 5) (hK : zKK G k A s s.heap) (hA : ∀ q : Nat, s.heap.size ≤ q → A q) (hret : zRI p l e rmX5_square s m args below meth c cX5_square G A 0 0 Q .int (zM ad k o.2 now saved hist kept reason detail isSaved comes queue far isInText ahead roomAt rooms text length at_ errorPosition toldFrom toldTo isWrong before) o.1)  : ∀ (thrown : Int32) (x1 : Int32) (x2 : Int32) (s0 : Int32) (s1 : Int32), fX5_square_14  now thrown x1 x2 s0 s1 = some o → ∀ (H : Heap) (locs : List Loc) (ls : Array Slot), zWd G A s (zM ad k thrown now saved hist kept reason detail isSaved comes queue far isInText ahead roomAt rooms text length at_ errorPosition toldFrom toldTo isWrong before) H locs → lv_has ls 5 [(0, .ref (ad 0)), (1, .int x1), (2, .int x2)] → W p l e rmX5_square s m args below meth c H locs 0 0 Q (F0 m 14 ls [.int s0, .int s1, .ref (ad 0)]) := by
  obtain ⟨hx, hb, hr, hml, hown, hts, hlocks⟩ := id C0
  intro thrown x1 x2 s0 s1 hF H locs ls hw hl
  unfold fX5_square_14 at hF
  obtain ⟨u1, hq2, hF⟩ := zbd_t hF
  refine zgoIw (w' := (zM ad k u1.2 now saved hist kept reason detail isSaved comes queue far isInText ahead roomAt rooms text length at_ errorPosition toldFrom toldTo isWrong before)) hw hA (zVw (As := [.int s1, .int s0]) (rest := []) ⟨hx, hb, hml, hown, hts⟩ (mX5_fails l G k ad H.size thrown now saved hist kept reason detail isSaved comes queue far isInText ahead roomAt rooms text length at_ errorPosition toldFrom toldTo isWrong before s1 s0 u1 hq2) (cwV 2 hts gX5_square_X5_fails rfl rfl rfl kdX5_fails ⟨Nat.le_of_ble_eq_true rfl, Nat.le_of_ble_eq_true rfl⟩) hK hA hw 0 rfl rfl rfl rfl hl.1 rfl (Nat.le_of_ble_eq_true rfl) dX5_square_14 ⟨Nat.le_of_ble_eq_true rfl, Nat.le_of_ble_eq_true rfl⟩) (fun H locs hw => ?_)
  refine lv_if_ne (tgt := 42) hx hb dX5_square_17 (by decide) (fun hc => ?_) (fun hc => ?_)
  · have hF := zif_f hc hF
    refine lv_iconst (v := (0 : Int32)) hx hb dX5_square_42 (by decide) ?_
    obtain rfl := Option.some.inj hF
    exact hret _ _ _ _ rfl hw dX5_square_43
  · have hF := zif_t hc hF
    refine lv_aload_n hx hb dX5_square_20 rfl (lv_at hl 0 rfl) ?_
    refine lv_iconst (v := (2 : Int32)) hx hb dX5_square_21 (by decide) ?_
    refine lv_iload_n hx hb dX5_square_22 rfl (lv_at hl 2 rfl) ?_
    refine lv_iconst (v := (0 : Int32)) hx hb dX5_square_23 (by decide) ?_
    refine lv_iconst (v := (3 : Int32)) hx hb dX5_square_24 (by decide) ?_
    obtain ⟨u3, hq4, hF⟩ := zbd_t hF
    refine zgoI (w' := (zM ad k u1.2 now saved hist kept reason detail isSaved comes queue far isInText ahead roomAt rooms text length at_ errorPosition toldFrom toldTo isWrong before)) hw hA [] rfl (zS (As := [.int x2, .int (0 : Int32), .int (3 : Int32)]) (rest := [.int (2 : Int32), .ref (ad 0)]) ⟨hx, hb, hml, hown, hts⟩ (mX5_isBetween l G k  H.size  x2 (0 : Int32) (3 : Int32) u3 hq4) (va_cwS 3 hts gX5_square_X5_isBetween rfl rfl rfl kdX5_isBetween ⟨Nat.le_of_ble_eq_true rfl, Nat.le_of_ble_eq_true rfl⟩) hK hA hw [] rfl (by decide) rfl hl.1 rfl (Nat.le_of_ble_eq_true rfl) dX5_square_25 ⟨Nat.le_of_ble_eq_true rfl, Nat.le_of_ble_eq_true rfl⟩) rfl rfl rfl (fun H locs hw => ?_)
    refine lv_if_ne (tgt := 35) hx hb dX5_square_28 (by decide) (fun hc => ?_) (fun hc => ?_)
    · have hF := zif_f hc hF
      refine lv_iconst (v := (0 : Int32)) hx hb dX5_square_35 (by decide) ?_
      exact wX5_square_36 C0 hK hA hret   _ _ _ _ _ hF _ _ _ hw (lv_sub hl [0, 1, 2] rfl)
    · have hF := zif_t hc hF
      refine lv_iconst (v := (1 : Int32)) hx hb dX5_square_31 (by decide) ?_
      refine lv_goto (tgt := 36) hx hb dX5_square_32 (by decide) ?_
      exact wX5_square_36 C0 hK hA hret   _ _ _ _ _ hF _ _ _ hw (lv_sub hl [0, 1, 2] rfl)
set_option maxHeartbeats 400000 in
set_option maxRecDepth 100000 in
theorem mX5_square (l : Launch) (G : va_G) (k : Nat → ClassId) (ad : Nat → Nat) (sz : Nat) (thrown : Int32) (now : Nat → Int32) (saved : Nat → Int32) (hist : Nat → Nat → Int32) (kept : Int32) (reason : Int32) (detail : Int32) (isSaved : Int32) (comes : Nat → Int32) (queue : Nat → Int32) (far : Nat → Int32) (isInText : Int32) (ahead : Nat → Int32) (roomAt : Nat → Int32) (rooms : Int32) (text : Nat → Int32) (length : Int32) (at_ : Int32) (errorPosition : Int32) (toldFrom : Int32) (toldTo : Int32) (isWrong : Int32) (before : Nat → Int32) (p0 : Int32) (p1 : Int32) (o : Int32 × Int32) (hF : fX5_square thrown now p0 p1 = some o) : zMI l yX5_square wsX5_square rmX5_square G k (zM ad k thrown now saved hist kept reason detail isSaved comes queue far isInText ahead roomAt rooms text length at_ errorPosition toldFrom toldTo isWrong before) sz [.ref (ad 0), .int p0, .int p1] o.1 (zM ad k o.2 now saved hist kept reason detail isSaved comes queue far isInText ahead roomAt rooms text length at_ errorPosition toldFrom toldTo isWrong before) := by
  refine zof_I (cc := cX5_square) (nL := 5) (own := RX5) (rt := .int) (by decide) rfl rfl (Nat.le_of_ble_eq_true rfl) ?_
  intro p e s m args below meth c A Q C0 hK hA hret ls hl hw
  have hl : lv_has ls 5 [(0, .ref (ad 0)), (1, .int p0), (2, .int p1)] := hl
  obtain ⟨hx, hb, hr, hml, hown, hts, hlocks⟩ := id C0
  obtain ⟨H, hH⟩ : ∃ z, z = s.heap := ⟨_, rfl⟩
  rw [← hH] at hw ⊢
  unfold fX5_square at hF
  refine lv_aload_n hx hb dX5_square_0 rfl (lv_at hl 0 rfl) ?_
  refine lv_iconst (v := (1 : Int32)) hx hb dX5_square_1 (by decide) ?_
  refine lv_iload_n hx hb dX5_square_2 rfl (lv_at hl 1 rfl) ?_
  obtain ⟨u1, hq2, hF⟩ := zbd_t hF
  refine zgoI (w' := (zM ad k thrown now saved hist kept reason detail isSaved comes queue far isInText ahead roomAt rooms text length at_ errorPosition toldFrom toldTo isWrong before)) hw hA [] rfl (zS (As := [.int p0]) (rest := [.int (1 : Int32), .ref (ad 0)]) ⟨hx, hb, hml, hown, hts⟩ (mX5_isSquare l G k  H.size  p0 u1 hq2) (va_cwS 1 hts gX5_square_X5_isSquare rfl rfl rfl kdX5_isSquare ⟨Nat.le_of_ble_eq_true rfl, Nat.le_of_ble_eq_true rfl⟩) hK hA hw [] rfl (by decide) rfl hl.1 rfl (Nat.le_of_ble_eq_true rfl) dX5_square_3 ⟨Nat.le_of_ble_eq_true rfl, Nat.le_of_ble_eq_true rfl⟩) rfl rfl rfl (fun H locs hw => ?_)
  refine lv_if_ne (tgt := 13) hx hb dX5_square_6 (by decide) (fun hc => ?_) (fun hc => ?_)
  · have hF := zif_f hc hF
    refine lv_iconst (v := (0 : Int32)) hx hb dX5_square_13 (by decide) ?_
    exact wX5_square_14 C0 hK hA hret   _ _ _ _ _ hF _ _ _ hw (lv_sub hl [0, 1, 2] rfl)
  · have hF := zif_t hc hF
    refine lv_iconst (v := (1 : Int32)) hx hb dX5_square_9 (by decide) ?_
    refine lv_goto (tgt := 14) hx hb dX5_square_10 (by decide) ?_
    exact wX5_square_14 C0 hK hA hret   _ _ _ _ _ hF _ _ _ hw (lv_sub hl [0, 1, 2] rfl)

/-! SealedBoardModel.lacksPiece(I)Z -/
abbrev rmX5_lacksPiece : Room := { frames := 2, cells := 0, slots := 0, locals := 42 }
theorem kdX5_lacksPiece : yX5_lacksPiece.cls = RX5 ∧ yX5_lacksPiece.cls ≠ "java/lang/invoke/MethodHandle" ∧ yX5_lacksPiece.cls ≠ "java/lang/invoke/VarHandle" ∧ (parseMethodDescriptor yX5_lacksPiece.desc).map (fun d => d.parameters.length) = some 1 := by decide +kernel
theorem inX5_lacksPiece_X5 : ∀ w ∈ u_ws RX5 TX5 23, w ∈ wsX5_lacksPiece := by decide +kernel
def fX5_lacksPiece (now : Nat → Int32) (p0 : Int32) : Option (Int32) := (zck (zin p0 76) (zbd (fX5_sideOf (now p0.toNatClampNeg)) (fun u2 => (if 0 ≤ u2 then (some ((0 : Int32))) else (some ((1 : Int32)))))))
set_option maxHeartbeats 400000 in
set_option maxRecDepth 100000 in
theorem mX5_lacksPiece (l : Launch) (G : va_G) (k : Nat → ClassId) (ad : Nat → Nat) (sz : Nat) (thrown : Int32) (now : Nat → Int32) (saved : Nat → Int32) (hist : Nat → Nat → Int32) (kept : Int32) (reason : Int32) (detail : Int32) (isSaved : Int32) (comes : Nat → Int32) (queue : Nat → Int32) (far : Nat → Int32) (isInText : Int32) (ahead : Nat → Int32) (roomAt : Nat → Int32) (rooms : Int32) (text : Nat → Int32) (length : Int32) (at_ : Int32) (errorPosition : Int32) (toldFrom : Int32) (toldTo : Int32) (isWrong : Int32) (before : Nat → Int32) (p0 : Int32) (o : Int32) (hF : fX5_lacksPiece now p0 = some o) : zMI l yX5_lacksPiece wsX5_lacksPiece rmX5_lacksPiece G k (zM ad k thrown now saved hist kept reason detail isSaved comes queue far isInText ahead roomAt rooms text length at_ errorPosition toldFrom toldTo isWrong before) sz [.ref (ad 0), .int p0] o (zM ad k thrown now saved hist kept reason detail isSaved comes queue far isInText ahead roomAt rooms text length at_ errorPosition toldFrom toldTo isWrong before) := by
  refine zof_I (cc := cX5_lacksPiece) (nL := 2) (own := RX5) (rt := .boolean) (by decide) rfl rfl (Nat.le_of_ble_eq_true rfl) ?_
  intro p e s m args below meth c A Q C0 hK hA hret ls hl hw
  have hl : lv_has ls 2 [(0, .ref (ad 0)), (1, .int p0)] := hl
  obtain ⟨hx, hb, hr, hml, hown, hts, hlocks⟩ := id C0
  obtain ⟨H, hH⟩ : ∃ z, z = s.heap := ⟨_, rfl⟩
  rw [← hH] at hw ⊢
  unfold fX5_lacksPiece at hF
  refine lv_aload_n hx hb dX5_lacksPiece_0 rfl (lv_at hl 0 rfl) ?_
  refine va_get (D := G) (ci := 4) (v := .ref (ad 1)) (C := RX5) (T := TX5) (N := 23) hx hb hts inX5_lacksPiece_X5 hown hK.1 hw.1 0 rfl rfl 1 (by decide) (hts (.fieldLink RX5 9 "SealedBoardModel" "now" "[I") (by decide +kernel)) (fun _ h9 => h9) rfl dX5_lacksPiece_1 ?_
  refine lv_iload_n hx hb dX5_lacksPiece_4 rfl (lv_at hl 1 rfl) ?_
  obtain ⟨hi1, hF⟩ := zck_in hF
  refine va_iald hx hb hK.1 hw.1 1 2 rfl rfl hi1 dX5_lacksPiece_5 ?_
  obtain ⟨u2, hq3, hF⟩ := zbd_t hF
  refine zgoI (w' := (zM ad k thrown now saved hist kept reason detail isSaved comes queue far isInText ahead roomAt rooms text length at_ errorPosition toldFrom toldTo isWrong before)) hw hA [] rfl (zS (As := [.int (now p0.toNatClampNeg)]) (rest := []) ⟨hx, hb, hml, hown, hts⟩ (mX5_sideOf l G k  H.size  (now p0.toNatClampNeg) u2 hq3) (va_cwS 1 hts gX5_lacksPiece_X5_sideOf rfl rfl rfl kdX5_sideOf ⟨Nat.le_of_ble_eq_true rfl, Nat.le_of_ble_eq_true rfl⟩) hK hA hw [] rfl (by decide) rfl hl.1 rfl (Nat.le_of_ble_eq_true rfl) dX5_lacksPiece_6 ⟨Nat.le_of_ble_eq_true rfl, Nat.le_of_ble_eq_true rfl⟩) rfl rfl rfl (fun H locs hw => ?_)
  refine lv_if_ge (tgt := 16) hx hb dX5_lacksPiece_9 (by decide) (fun hc => ?_) (fun hc => ?_)
  · have hF := zif_t hc hF
    refine lv_iconst (v := (0 : Int32)) hx hb dX5_lacksPiece_16 (by decide) ?_
    obtain rfl := Option.some.inj hF
    exact hret _ _ _ _ (zbo_n (x := (0 : Int32)) (by decide)) hw dX5_lacksPiece_17
  · have hF := zif_f hc hF
    refine lv_iconst (v := (1 : Int32)) hx hb dX5_lacksPiece_12 (by decide) ?_
    refine lv_goto (tgt := 17) hx hb dX5_lacksPiece_13 (by decide) ?_
    obtain rfl := Option.some.inj hF
    exact hret _ _ _ _ (zbo_n (x := (1 : Int32)) (by decide)) hw dX5_lacksPiece_17

/-! SealedBoardModel.canMove(II)Z -/
abbrev rmX5_canMove : Room := { frames := 6, cells := 0, slots := 0, locals := 135 }
theorem kdX5_canMove : yX5_canMove.cls = RX5 ∧ yX5_canMove.cls ≠ "java/lang/invoke/MethodHandle" ∧ yX5_canMove.cls ≠ "java/lang/invoke/VarHandle" ∧ (parseMethodDescriptor yX5_canMove.desc).map (fun d => d.parameters.length) = some 2 := by decide +kernel
def fX5_canMove_21  (now : Nat → Int32) (thrown : Int32) (comes : Nat → Int32) (queue : Nat → Int32) (far : Nat → Int32) (x1 : Int32) (x2 : Int32) (s0 : Int32) (s1 : Int32) : Option (Int32 × Int32 × (Nat → Int32) × (Nat → Int32) × (Nat → Int32)) := (zbd (fX5_fails thrown s1 s0) (fun u1 => (if u1.1 = 0 then (zbd (fX5_lacksPiece now x1) (fun u3 => (zbd (fX5_fails u1.2 (2 : Int32) u3) (fun u5 => (if u5.1 = 0 then (zbd (fX5_can now comes queue far x1 x2) (fun u7 => (zck (zbo u7.1) (some (u7.1, u5.2, u7.2.1, u7.2.2.1, u7.2.2.2))))) else (some ((0 : Int32), u5.2, comes, queue, far))))))) else (some ((0 : Int32), u1.2, comes, queue, far)))))
def fX5_canMove_16  (now : Nat → Int32) (thrown : Int32) (comes : Nat → Int32) (queue : Nat → Int32) (far : Nat → Int32) (x1 : Int32) (x2 : Int32) (s0 : Int32) : Option (Int32 × Int32 × (Nat → Int32) × (Nat → Int32) × (Nat → Int32)) := (fX5_canMove_21  now  thrown comes queue far x1 x2 (1 : Int32) s0)
def fX5_canMove (thrown : Int32) (now : Nat → Int32) (comes : Nat → Int32) (queue : Nat → Int32) (far : Nat → Int32) (p0 : Int32) (p1 : Int32) : Option (Int32 × Int32 × (Nat → Int32) × (Nat → Int32) × (Nat → Int32)) := (zbd (fX5_isSquare p0) (fun u1 => (if u1 = 0 then (fX5_canMove_16  now  thrown comes queue far p0 p1 (1 : Int32)) else (zbd (fX5_isSquare p1) (fun u3 => (if u3 = 0 then (fX5_canMove_16  now  thrown comes queue far p0 p1 (1 : Int32)) else (fX5_canMove_21  now  thrown comes queue far p0 p1 (0 : Int32) (1 : Int32))))))))
set_option maxHeartbeats 400000 in
set_option maxRecDepth 100000 in
theorem wX5_canMove_21 {p : Program} {l : Launch} {e : Env} {s : State} {m : MethodId} {args : Array Value} {below : List Frame} {meth : Method} {c : Code} {A : Nat → Prop} {Q : State → Prop} {G : va_G} {k : Nat → ClassId} {ad : Nat → Nat} {now : Nat → Int32} {saved : Nat → Int32} {hist : Nat → Nat → Int32} {kept : Int32} {reason : Int32} {detail : Int32} {isSaved : Int32} {isInText : Int32} {ahead : Nat → Int32} {roomAt : Nat → Int32} {rooms : Int32} {text : Nat → Int32} {length : Int32} {at_ : Int32} {errorPosition : Int32} {toldFrom : Int32} {toldTo : Int32} {isWrong : Int32} {before : Nat → Int32} {o : Int32 × Int32 × (Nat → Int32) × (Nat → Int32) × (Nat → Int32)} (C0 : zCx p s m args meth c wsX5_canMove cX5_canMove RX5 (some .boolean) 3) (hK : zKK G k A s s.heap) (hA : ∀ q : Nat, s.heap.size ≤ q → A q) (hret : zRI p l e rmX5_canMove s m args below meth c cX5_canMove G A 0 0 Q .boolean (zM ad k o.2.1 now saved hist kept reason detail isSaved o.2.2.1 o.2.2.2.1 o.2.2.2.2 isInText ahead roomAt rooms text length at_ errorPosition toldFrom toldTo isWrong before) o.1)  : ∀ (thrown : Int32) (comes : Nat → Int32) (queue : Nat → Int32) (far : Nat → Int32) (x1 : Int32) (x2 : Int32) (s0 : Int32) (s1 : Int32), fX5_canMove_21  now thrown comes queue far x1 x2 s0 s1 = some o → ∀ (H : Heap) (locs : List Loc) (ls : Array Slot), zWd G A s (zM ad k thrown now saved hist kept reason detail isSaved comes queue far isInText ahead roomAt rooms text length at_ errorPosition toldFrom toldTo isWrong before) H locs → lv_has ls 3 [(0, .ref (ad 0)), (1, .int x1), (2, .int x2)] → W p l e rmX5_canMove s m args below meth c H locs 0 0 Q (F0 m 21 ls [.int s0, .int s1, .ref (ad 0)]) := by
  obtain ⟨hx, hb, hr, hml, hown, hts, hlocks⟩ := id C0
  intro thrown comes queue far x1 x2 s0 s1 hF H locs ls hw hl
  unfold fX5_canMove_21 at hF
  obtain ⟨u1, hq2, hF⟩ := zbd_t hF
  refine zgoIw (w' := (zM ad k u1.2 now saved hist kept reason detail isSaved comes queue far isInText ahead roomAt rooms text length at_ errorPosition toldFrom toldTo isWrong before)) hw hA (zVw (As := [.int s1, .int s0]) (rest := []) ⟨hx, hb, hml, hown, hts⟩ (mX5_fails l G k ad H.size thrown now saved hist kept reason detail isSaved comes queue far isInText ahead roomAt rooms text length at_ errorPosition toldFrom toldTo isWrong before s1 s0 u1 hq2) (cwV 2 hts gX5_canMove_X5_fails rfl rfl rfl kdX5_fails ⟨Nat.le_of_ble_eq_true rfl, Nat.le_of_ble_eq_true rfl⟩) hK hA hw 0 rfl rfl rfl rfl hl.1 rfl (Nat.le_of_ble_eq_true rfl) dX5_canMove_21 ⟨Nat.le_of_ble_eq_true rfl, Nat.le_of_ble_eq_true rfl⟩) (fun H locs hw => ?_)
  refine lv_if_ne (tgt := 40) hx hb dX5_canMove_24 (by decide) (fun hc => ?_) (fun hc => ?_)
  · have hF := zif_f hc hF
    refine lv_iconst (v := (0 : Int32)) hx hb dX5_canMove_40 (by decide) ?_
    obtain rfl := Option.some.inj hF
    exact hret _ _ _ _ (zbo_n (x := (0 : Int32)) (by decide)) hw dX5_canMove_41
  · have hF := zif_t hc hF
    refine lv_aload_n hx hb dX5_canMove_27 rfl (lv_at hl 0 rfl) ?_
    refine lv_iconst (v := (2 : Int32)) hx hb dX5_canMove_28 (by decide) ?_
    refine lv_aload_n hx hb dX5_canMove_29 rfl (lv_at hl 0 rfl) ?_
    refine lv_iload_n hx hb dX5_canMove_30 rfl (lv_at hl 1 rfl) ?_
    obtain ⟨u3, hq4, hF⟩ := zbd_t hF
    refine zgoIw (w' := (zM ad k u1.2 now saved hist kept reason detail isSaved comes queue far isInText ahead roomAt rooms text length at_ errorPosition toldFrom toldTo isWrong before)) hw hA (zVw (As := [.int x1]) (rest := [.int (2 : Int32), .ref (ad 0)]) ⟨hx, hb, hml, hown, hts⟩ (mX5_lacksPiece l G k ad H.size u1.2 now saved hist kept reason detail isSaved comes queue far isInText ahead roomAt rooms text length at_ errorPosition toldFrom toldTo isWrong before x1 u3 hq4) (cwV 1 hts gX5_canMove_X5_lacksPiece rfl rfl rfl kdX5_lacksPiece ⟨Nat.le_of_ble_eq_true rfl, Nat.le_of_ble_eq_true rfl⟩) hK hA hw 0 rfl rfl rfl rfl hl.1 rfl (Nat.le_of_ble_eq_true rfl) dX5_canMove_31 ⟨Nat.le_of_ble_eq_true rfl, Nat.le_of_ble_eq_true rfl⟩) (fun H locs hw => ?_)
    obtain ⟨u5, hq6, hF⟩ := zbd_t hF
    refine zgoIw (w' := (zM ad k u5.2 now saved hist kept reason detail isSaved comes queue far isInText ahead roomAt rooms text length at_ errorPosition toldFrom toldTo isWrong before)) hw hA (zVw (As := [.int (2 : Int32), .int u3]) (rest := []) ⟨hx, hb, hml, hown, hts⟩ (mX5_fails l G k ad H.size u1.2 now saved hist kept reason detail isSaved comes queue far isInText ahead roomAt rooms text length at_ errorPosition toldFrom toldTo isWrong before (2 : Int32) u3 u5 hq6) (cwV 2 hts gX5_canMove_X5_fails rfl rfl rfl kdX5_fails ⟨Nat.le_of_ble_eq_true rfl, Nat.le_of_ble_eq_true rfl⟩) hK hA hw 0 rfl rfl rfl rfl hl.1 rfl (Nat.le_of_ble_eq_true rfl) dX5_canMove_34 ⟨Nat.le_of_ble_eq_true rfl, Nat.le_of_ble_eq_true rfl⟩) (fun H locs hw => ?_)
    refine lv_if_eq (tgt := 42) hx hb dX5_canMove_37 (by decide) (fun hc => ?_) (fun hc => ?_)
    · have hF := zif_t hc hF
      refine lv_aload_n hx hb dX5_canMove_42 rfl (lv_at hl 0 rfl) ?_
      refine lv_iload_n hx hb dX5_canMove_43 rfl (lv_at hl 1 rfl) ?_
      refine lv_iload_n hx hb dX5_canMove_44 rfl (lv_at hl 2 rfl) ?_
      obtain ⟨u7, hq8, hF⟩ := zbd_t hF
      refine zgoIw (w' := (zM ad k u5.2 now saved hist kept reason detail isSaved u7.2.1 u7.2.2.1 u7.2.2.2 isInText ahead roomAt rooms text length at_ errorPosition toldFrom toldTo isWrong before)) hw hA (zVw (As := [.int x1, .int x2]) (rest := []) ⟨hx, hb, hml, hown, hts⟩ (mX5_can l G k ad H.size u5.2 now saved hist kept reason detail isSaved comes queue far isInText ahead roomAt rooms text length at_ errorPosition toldFrom toldTo isWrong before x1 x2 u7 hq8) (cwV 2 hts gX5_canMove_X5_can rfl rfl rfl kdX5_can ⟨Nat.le_of_ble_eq_true rfl, Nat.le_of_ble_eq_true rfl⟩) hK hA hw 0 rfl rfl rfl rfl hl.1 rfl (Nat.le_of_ble_eq_true rfl) dX5_canMove_45 ⟨Nat.le_of_ble_eq_true rfl, Nat.le_of_ble_eq_true rfl⟩) (fun H locs hw => ?_)
      obtain ⟨hz9, hF⟩ := zck_t hF
      obtain rfl := Option.some.inj hF
      exact hret _ _ _ _ (zbo_n hz9) hw dX5_canMove_48
    · have hF := zif_f hc hF
      refine lv_iconst (v := (0 : Int32)) hx hb dX5_canMove_40 (by decide) ?_
      obtain rfl := Option.some.inj hF
      exact hret _ _ _ _ (zbo_n (x := (0 : Int32)) (by decide)) hw dX5_canMove_41
set_option maxHeartbeats 400000 in
set_option maxRecDepth 100000 in
theorem wX5_canMove_16 {p : Program} {l : Launch} {e : Env} {s : State} {m : MethodId} {args : Array Value} {below : List Frame} {meth : Method} {c : Code} {A : Nat → Prop} {Q : State → Prop} {G : va_G} {k : Nat → ClassId} {ad : Nat → Nat} {now : Nat → Int32} {saved : Nat → Int32} {hist : Nat → Nat → Int32} {kept : Int32} {reason : Int32} {detail : Int32} {isSaved : Int32} {isInText : Int32} {ahead : Nat → Int32} {roomAt : Nat → Int32} {rooms : Int32} {text : Nat → Int32} {length : Int32} {at_ : Int32} {errorPosition : Int32} {toldFrom : Int32} {toldTo : Int32} {isWrong : Int32} {before : Nat → Int32} {o : Int32 × Int32 × (Nat → Int32) × (Nat → Int32) × (Nat → Int32)} (C0 : zCx p s m args meth c wsX5_canMove cX5_canMove RX5 (some .boolean) 3) (hK : zKK G k A s s.heap) (hA : ∀ q : Nat, s.heap.size ≤ q → A q) (hret : zRI p l e rmX5_canMove s m args below meth c cX5_canMove G A 0 0 Q .boolean (zM ad k o.2.1 now saved hist kept reason detail isSaved o.2.2.1 o.2.2.2.1 o.2.2.2.2 isInText ahead roomAt rooms text length at_ errorPosition toldFrom toldTo isWrong before) o.1)  : ∀ (thrown : Int32) (comes : Nat → Int32) (queue : Nat → Int32) (far : Nat → Int32) (x1 : Int32) (x2 : Int32) (s0 : Int32), fX5_canMove_16  now thrown comes queue far x1 x2 s0 = some o → ∀ (H : Heap) (locs : List Loc) (ls : Array Slot), zWd G A s (zM ad k thrown now saved hist kept reason detail isSaved comes queue far isInText ahead roomAt rooms text length at_ errorPosition toldFrom toldTo isWrong before) H locs → lv_has ls 3 [(0, .ref (ad 0)), (1, .int x1), (2, .int x2)] → W p l e rmX5_canMove s m args below meth c H locs 0 0 Q (F0 m 16 ls [.int s0, .ref (ad 0)]) := by
  obtain ⟨hx, hb, hr, hml, hown, hts, hlocks⟩ := id C0
  intro thrown comes queue far x1 x2 s0 hF H locs ls hw hl
  unfold fX5_canMove_16 at hF
  refine lv_iconst (v := (1 : Int32)) hx hb dX5_canMove_16 (by decide) ?_
  refine lv_goto (tgt := 21) hx hb dX5_canMove_17 (by decide) ?_
  exact wX5_canMove_21 C0 hK hA hret   _ _ _ _ _ _ _ _ hF _ _ _ hw (lv_sub hl [0, 1, 2] rfl)
set_option maxHeartbeats 400000 in
set_option maxRecDepth 100000 in
theorem mX5_canMove (l : Launch) (G : va_G) (k : Nat → ClassId) (ad : Nat → Nat) (sz : Nat) (thrown : Int32) (now : Nat → Int32) (saved : Nat → Int32) (hist : Nat → Nat → Int32) (kept : Int32) (reason : Int32) (detail : Int32) (isSaved : Int32) (comes : Nat → Int32) (queue : Nat → Int32) (far : Nat → Int32) (isInText : Int32) (ahead : Nat → Int32) (roomAt : Nat → Int32) (rooms : Int32) (text : Nat → Int32) (length : Int32) (at_ : Int32) (errorPosition : Int32) (toldFrom : Int32) (toldTo : Int32) (isWrong : Int32) (before : Nat → Int32) (p0 : Int32) (p1 : Int32) (o : Int32 × Int32 × (Nat → Int32) × (Nat → Int32) × (Nat → Int32)) (hF : fX5_canMove thrown now comes queue far p0 p1 = some o) : zMI l yX5_canMove wsX5_canMove rmX5_canMove G k (zM ad k thrown now saved hist kept reason detail isSaved comes queue far isInText ahead roomAt rooms text length at_ errorPosition toldFrom toldTo isWrong before) sz [.ref (ad 0), .int p0, .int p1] o.1 (zM ad k o.2.1 now saved hist kept reason detail isSaved o.2.2.1 o.2.2.2.1 o.2.2.2.2 isInText ahead roomAt rooms text length at_ errorPosition toldFrom toldTo isWrong before) := by
  refine zof_I (cc := cX5_canMove) (nL := 3) (own := RX5) (rt := .boolean) (by decide) rfl rfl (Nat.le_of_ble_eq_true rfl) ?_
  intro p e s m args below meth c A Q C0 hK hA hret ls hl hw
  have hl : lv_has ls 3 [(0, .ref (ad 0)), (1, .int p0), (2, .int p1)] := hl
  obtain ⟨hx, hb, hr, hml, hown, hts, hlocks⟩ := id C0
  obtain ⟨H, hH⟩ : ∃ z, z = s.heap := ⟨_, rfl⟩
  rw [← hH] at hw ⊢
  unfold fX5_canMove at hF
  refine lv_aload_n hx hb dX5_canMove_0 rfl (lv_at hl 0 rfl) ?_
  refine lv_iconst (v := (1 : Int32)) hx hb dX5_canMove_1 (by decide) ?_
  refine lv_iload_n hx hb dX5_canMove_2 rfl (lv_at hl 1 rfl) ?_
  obtain ⟨u1, hq2, hF⟩ := zbd_t hF
  refine zgoI (w' := (zM ad k thrown now saved hist kept reason detail isSaved comes queue far isInText ahead roomAt rooms text length at_ errorPosition toldFrom toldTo isWrong before)) hw hA [] rfl (zS (As := [.int p0]) (rest := [.int (1 : Int32), .ref (ad 0)]) ⟨hx, hb, hml, hown, hts⟩ (mX5_isSquare l G k  H.size  p0 u1 hq2) (va_cwS 1 hts gX5_canMove_X5_isSquare rfl rfl rfl kdX5_isSquare ⟨Nat.le_of_ble_eq_true rfl, Nat.le_of_ble_eq_true rfl⟩) hK hA hw [] rfl (by decide) rfl hl.1 rfl (Nat.le_of_ble_eq_true rfl) dX5_canMove_3 ⟨Nat.le_of_ble_eq_true rfl, Nat.le_of_ble_eq_true rfl⟩) rfl rfl rfl (fun H locs hw => ?_)
  refine lv_if_eq (tgt := 16) hx hb dX5_canMove_6 (by decide) (fun hc => ?_) (fun hc => ?_)
  · have hF := zif_t hc hF
    exact wX5_canMove_16 C0 hK hA hret   _ _ _ _ _ _ _ hF _ _ _ hw (lv_sub hl [0, 1, 2] rfl)
  · have hF := zif_f hc hF
    refine lv_iload_n hx hb dX5_canMove_9 rfl (lv_at hl 2 rfl) ?_
    obtain ⟨u3, hq4, hF⟩ := zbd_t hF
    refine zgoI (w' := (zM ad k thrown now saved hist kept reason detail isSaved comes queue far isInText ahead roomAt rooms text length at_ errorPosition toldFrom toldTo isWrong before)) hw hA [] rfl (zS (As := [.int p1]) (rest := [.int (1 : Int32), .ref (ad 0)]) ⟨hx, hb, hml, hown, hts⟩ (mX5_isSquare l G k  H.size  p1 u3 hq4) (va_cwS 1 hts gX5_canMove_X5_isSquare rfl rfl rfl kdX5_isSquare ⟨Nat.le_of_ble_eq_true rfl, Nat.le_of_ble_eq_true rfl⟩) hK hA hw [] rfl (by decide) rfl hl.1 rfl (Nat.le_of_ble_eq_true rfl) dX5_canMove_10 ⟨Nat.le_of_ble_eq_true rfl, Nat.le_of_ble_eq_true rfl⟩) rfl rfl rfl (fun H locs hw => ?_)
    refine lv_if_ne (tgt := 20) hx hb dX5_canMove_13 (by decide) (fun hc => ?_) (fun hc => ?_)
    · have hF := zif_f hc hF
      refine lv_iconst (v := (0 : Int32)) hx hb dX5_canMove_20 (by decide) ?_
      exact wX5_canMove_21 C0 hK hA hret   _ _ _ _ _ _ _ _ hF _ _ _ hw (lv_sub hl [0, 1, 2] rfl)
    · have hF := zif_t hc hF
      exact wX5_canMove_16 C0 hK hA hret   _ _ _ _ _ _ _ hF _ _ _ hw (lv_sub hl [0, 1, 2] rfl)

/-! SealedBoardModel.moves(I)I -/
abbrev rmX5_moves : Room := { frames := 6, cells := 0, slots := 0, locals := 136 }
theorem kdX5_moves : yX5_moves.cls = RX5 ∧ yX5_moves.cls ≠ "java/lang/invoke/MethodHandle" ∧ yX5_moves.cls ≠ "java/lang/invoke/VarHandle" ∧ (parseMethodDescriptor yX5_moves.desc).map (fun d => d.parameters.length) = some 1 := by decide +kernel
def fX5_moves_14  (now : Nat → Int32) (thrown : Int32) (comes : Nat → Int32) (queue : Nat → Int32) (far : Nat → Int32) (x1 : Int32) (s0 : Int32) (s1 : Int32) : Option (Int32 × Int32 × (Nat → Int32) × (Nat → Int32) × (Nat → Int32)) := (zbd (fX5_fails thrown s1 s0) (fun u1 => (if u1.1 = 0 then (zbd (fX5_lacksPiece now x1) (fun u3 => (zbd (fX5_fails u1.2 (2 : Int32) u3) (fun u5 => (if u5.1 = 0 then (zbd (fX5_countMoves now comes queue far x1) (fun u7 => (some (u7.1, u5.2, u7.2.1, u7.2.2.1, u7.2.2.2)))) else (some ((0 : Int32), u5.2, comes, queue, far))))))) else (some ((0 : Int32), u1.2, comes, queue, far)))))
def fX5_moves (thrown : Int32) (now : Nat → Int32) (comes : Nat → Int32) (queue : Nat → Int32) (far : Nat → Int32) (p0 : Int32) : Option (Int32 × Int32 × (Nat → Int32) × (Nat → Int32) × (Nat → Int32)) := (zbd (fX5_isSquare p0) (fun u1 => (if u1 = 0 then (fX5_moves_14  now  thrown comes queue far p0 (1 : Int32) (1 : Int32)) else (fX5_moves_14  now  thrown comes queue far p0 (0 : Int32) (1 : Int32)))))
set_option maxHeartbeats 400000 in
set_option maxRecDepth 100000 in
theorem wX5_moves_14 {p : Program} {l : Launch} {e : Env} {s : State} {m : MethodId} {args : Array Value} {below : List Frame} {meth : Method} {c : Code} {A : Nat → Prop} {Q : State → Prop} {G : va_G} {k : Nat → ClassId} {ad : Nat → Nat} {now : Nat → Int32} {saved : Nat → Int32} {hist : Nat → Nat → Int32} {kept : Int32} {reason : Int32} {detail : Int32} {isSaved : Int32} {isInText : Int32} {ahead : Nat → Int32} {roomAt : Nat → Int32} {rooms : Int32} {text : Nat → Int32} {length : Int32} {at_ : Int32} {errorPosition : Int32} {toldFrom : Int32} {toldTo : Int32} {isWrong : Int32} {before : Nat → Int32} {o : Int32 × Int32 × (Nat → Int32) × (Nat → Int32) × (Nat → Int32)} (C0 : zCx p s m args meth c wsX5_moves cX5_moves RX5 (some .int) 2) (hK : zKK G k A s s.heap) (hA : ∀ q : Nat, s.heap.size ≤ q → A q) (hret : zRI p l e rmX5_moves s m args below meth c cX5_moves G A 0 0 Q .int (zM ad k o.2.1 now saved hist kept reason detail isSaved o.2.2.1 o.2.2.2.1 o.2.2.2.2 isInText ahead roomAt rooms text length at_ errorPosition toldFrom toldTo isWrong before) o.1)  : ∀ (thrown : Int32) (comes : Nat → Int32) (queue : Nat → Int32) (far : Nat → Int32) (x1 : Int32) (s0 : Int32) (s1 : Int32), fX5_moves_14  now thrown comes queue far x1 s0 s1 = some o → ∀ (H : Heap) (locs : List Loc) (ls : Array Slot), zWd G A s (zM ad k thrown now saved hist kept reason detail isSaved comes queue far isInText ahead roomAt rooms text length at_ errorPosition toldFrom toldTo isWrong before) H locs → lv_has ls 2 [(0, .ref (ad 0)), (1, .int x1)] → W p l e rmX5_moves s m args below meth c H locs 0 0 Q (F0 m 14 ls [.int s0, .int s1, .ref (ad 0)]) := by
  obtain ⟨hx, hb, hr, hml, hown, hts, hlocks⟩ := id C0
  intro thrown comes queue far x1 s0 s1 hF H locs ls hw hl
  unfold fX5_moves_14 at hF
  obtain ⟨u1, hq2, hF⟩ := zbd_t hF
  refine zgoIw (w' := (zM ad k u1.2 now saved hist kept reason detail isSaved comes queue far isInText ahead roomAt rooms text length at_ errorPosition toldFrom toldTo isWrong before)) hw hA (zVw (As := [.int s1, .int s0]) (rest := []) ⟨hx, hb, hml, hown, hts⟩ (mX5_fails l G k ad H.size thrown now saved hist kept reason detail isSaved comes queue far isInText ahead roomAt rooms text length at_ errorPosition toldFrom toldTo isWrong before s1 s0 u1 hq2) (cwV 2 hts gX5_moves_X5_fails rfl rfl rfl kdX5_fails ⟨Nat.le_of_ble_eq_true rfl, Nat.le_of_ble_eq_true rfl⟩) hK hA hw 0 rfl rfl rfl rfl hl.1 rfl (Nat.le_of_ble_eq_true rfl) dX5_moves_14 ⟨Nat.le_of_ble_eq_true rfl, Nat.le_of_ble_eq_true rfl⟩) (fun H locs hw => ?_)
  refine lv_if_ne (tgt := 33) hx hb dX5_moves_17 (by decide) (fun hc => ?_) (fun hc => ?_)
  · have hF := zif_f hc hF
    refine lv_iconst (v := (0 : Int32)) hx hb dX5_moves_33 (by decide) ?_
    refine lv_goto (tgt := 42) hx hb dX5_moves_34 (by decide) ?_
    obtain rfl := Option.some.inj hF
    exact hret _ _ _ _ rfl hw dX5_moves_42
  · have hF := zif_t hc hF
    refine lv_aload_n hx hb dX5_moves_20 rfl (lv_at hl 0 rfl) ?_
    refine lv_iconst (v := (2 : Int32)) hx hb dX5_moves_21 (by decide) ?_
    refine lv_aload_n hx hb dX5_moves_22 rfl (lv_at hl 0 rfl) ?_
    refine lv_iload_n hx hb dX5_moves_23 rfl (lv_at hl 1 rfl) ?_
    obtain ⟨u3, hq4, hF⟩ := zbd_t hF
    refine zgoIw (w' := (zM ad k u1.2 now saved hist kept reason detail isSaved comes queue far isInText ahead roomAt rooms text length at_ errorPosition toldFrom toldTo isWrong before)) hw hA (zVw (As := [.int x1]) (rest := [.int (2 : Int32), .ref (ad 0)]) ⟨hx, hb, hml, hown, hts⟩ (mX5_lacksPiece l G k ad H.size u1.2 now saved hist kept reason detail isSaved comes queue far isInText ahead roomAt rooms text length at_ errorPosition toldFrom toldTo isWrong before x1 u3 hq4) (cwV 1 hts gX5_moves_X5_lacksPiece rfl rfl rfl kdX5_lacksPiece ⟨Nat.le_of_ble_eq_true rfl, Nat.le_of_ble_eq_true rfl⟩) hK hA hw 0 rfl rfl rfl rfl hl.1 rfl (Nat.le_of_ble_eq_true rfl) dX5_moves_24 ⟨Nat.le_of_ble_eq_true rfl, Nat.le_of_ble_eq_true rfl⟩) (fun H locs hw => ?_)
    obtain ⟨u5, hq6, hF⟩ := zbd_t hF
    refine zgoIw (w' := (zM ad k u5.2 now saved hist kept reason detail isSaved comes queue far isInText ahead roomAt rooms text length at_ errorPosition toldFrom toldTo isWrong before)) hw hA (zVw (As := [.int (2 : Int32), .int u3]) (rest := []) ⟨hx, hb, hml, hown, hts⟩ (mX5_fails l G k ad H.size u1.2 now saved hist kept reason detail isSaved comes queue far isInText ahead roomAt rooms text length at_ errorPosition toldFrom toldTo isWrong before (2 : Int32) u3 u5 hq6) (cwV 2 hts gX5_moves_X5_fails rfl rfl rfl kdX5_fails ⟨Nat.le_of_ble_eq_true rfl, Nat.le_of_ble_eq_true rfl⟩) hK hA hw 0 rfl rfl rfl rfl hl.1 rfl (Nat.le_of_ble_eq_true rfl) dX5_moves_27 ⟨Nat.le_of_ble_eq_true rfl, Nat.le_of_ble_eq_true rfl⟩) (fun H locs hw => ?_)
    refine lv_if_eq (tgt := 37) hx hb dX5_moves_30 (by decide) (fun hc => ?_) (fun hc => ?_)
    · have hF := zif_t hc hF
      refine lv_aload_n hx hb dX5_moves_37 rfl (lv_at hl 0 rfl) ?_
      refine lv_iload_n hx hb dX5_moves_38 rfl (lv_at hl 1 rfl) ?_
      obtain ⟨u7, hq8, hF⟩ := zbd_t hF
      refine zgoIw (w' := (zM ad k u5.2 now saved hist kept reason detail isSaved u7.2.1 u7.2.2.1 u7.2.2.2 isInText ahead roomAt rooms text length at_ errorPosition toldFrom toldTo isWrong before)) hw hA (zVw (As := [.int x1]) (rest := []) ⟨hx, hb, hml, hown, hts⟩ (mX5_countMoves l G k ad H.size u5.2 now saved hist kept reason detail isSaved comes queue far isInText ahead roomAt rooms text length at_ errorPosition toldFrom toldTo isWrong before x1 u7 hq8) (cwV 1 hts gX5_moves_X5_countMoves rfl rfl rfl kdX5_countMoves ⟨Nat.le_of_ble_eq_true rfl, Nat.le_of_ble_eq_true rfl⟩) hK hA hw 0 rfl rfl rfl rfl hl.1 rfl (Nat.le_of_ble_eq_true rfl) dX5_moves_39 ⟨Nat.le_of_ble_eq_true rfl, Nat.le_of_ble_eq_true rfl⟩) (fun H locs hw => ?_)
      obtain rfl := Option.some.inj hF
      exact hret _ _ _ _ rfl hw dX5_moves_42
    · have hF := zif_f hc hF
      refine lv_iconst (v := (0 : Int32)) hx hb dX5_moves_33 (by decide) ?_
      refine lv_goto (tgt := 42) hx hb dX5_moves_34 (by decide) ?_
      obtain rfl := Option.some.inj hF
      exact hret _ _ _ _ rfl hw dX5_moves_42
set_option maxHeartbeats 400000 in
set_option maxRecDepth 100000 in
theorem mX5_moves (l : Launch) (G : va_G) (k : Nat → ClassId) (ad : Nat → Nat) (sz : Nat) (thrown : Int32) (now : Nat → Int32) (saved : Nat → Int32) (hist : Nat → Nat → Int32) (kept : Int32) (reason : Int32) (detail : Int32) (isSaved : Int32) (comes : Nat → Int32) (queue : Nat → Int32) (far : Nat → Int32) (isInText : Int32) (ahead : Nat → Int32) (roomAt : Nat → Int32) (rooms : Int32) (text : Nat → Int32) (length : Int32) (at_ : Int32) (errorPosition : Int32) (toldFrom : Int32) (toldTo : Int32) (isWrong : Int32) (before : Nat → Int32) (p0 : Int32) (o : Int32 × Int32 × (Nat → Int32) × (Nat → Int32) × (Nat → Int32)) (hF : fX5_moves thrown now comes queue far p0 = some o) : zMI l yX5_moves wsX5_moves rmX5_moves G k (zM ad k thrown now saved hist kept reason detail isSaved comes queue far isInText ahead roomAt rooms text length at_ errorPosition toldFrom toldTo isWrong before) sz [.ref (ad 0), .int p0] o.1 (zM ad k o.2.1 now saved hist kept reason detail isSaved o.2.2.1 o.2.2.2.1 o.2.2.2.2 isInText ahead roomAt rooms text length at_ errorPosition toldFrom toldTo isWrong before) := by
  refine zof_I (cc := cX5_moves) (nL := 2) (own := RX5) (rt := .int) (by decide) rfl rfl (Nat.le_of_ble_eq_true rfl) ?_
  intro p e s m args below meth c A Q C0 hK hA hret ls hl hw
  have hl : lv_has ls 2 [(0, .ref (ad 0)), (1, .int p0)] := hl
  obtain ⟨hx, hb, hr, hml, hown, hts, hlocks⟩ := id C0
  obtain ⟨H, hH⟩ : ∃ z, z = s.heap := ⟨_, rfl⟩
  rw [← hH] at hw ⊢
  unfold fX5_moves at hF
  refine lv_aload_n hx hb dX5_moves_0 rfl (lv_at hl 0 rfl) ?_
  refine lv_iconst (v := (1 : Int32)) hx hb dX5_moves_1 (by decide) ?_
  refine lv_iload_n hx hb dX5_moves_2 rfl (lv_at hl 1 rfl) ?_
  obtain ⟨u1, hq2, hF⟩ := zbd_t hF
  refine zgoI (w' := (zM ad k thrown now saved hist kept reason detail isSaved comes queue far isInText ahead roomAt rooms text length at_ errorPosition toldFrom toldTo isWrong before)) hw hA [] rfl (zS (As := [.int p0]) (rest := [.int (1 : Int32), .ref (ad 0)]) ⟨hx, hb, hml, hown, hts⟩ (mX5_isSquare l G k  H.size  p0 u1 hq2) (va_cwS 1 hts gX5_moves_X5_isSquare rfl rfl rfl kdX5_isSquare ⟨Nat.le_of_ble_eq_true rfl, Nat.le_of_ble_eq_true rfl⟩) hK hA hw [] rfl (by decide) rfl hl.1 rfl (Nat.le_of_ble_eq_true rfl) dX5_moves_3 ⟨Nat.le_of_ble_eq_true rfl, Nat.le_of_ble_eq_true rfl⟩) rfl rfl rfl (fun H locs hw => ?_)
  refine lv_if_ne (tgt := 13) hx hb dX5_moves_6 (by decide) (fun hc => ?_) (fun hc => ?_)
  · have hF := zif_f hc hF
    refine lv_iconst (v := (0 : Int32)) hx hb dX5_moves_13 (by decide) ?_
    exact wX5_moves_14 C0 hK hA hret   _ _ _ _ _ _ _ hF _ _ _ hw (lv_sub hl [0, 1] rfl)
  · have hF := zif_t hc hF
    refine lv_iconst (v := (1 : Int32)) hx hb dX5_moves_9 (by decide) ?_
    refine lv_goto (tgt := 14) hx hb dX5_moves_10 (by decide) ?_
    exact wX5_moves_14 C0 hK hA hret   _ _ _ _ _ _ _ hF _ _ _ hw (lv_sub hl [0, 1] rfl)

/-! SealedBoardModel.captures(II)I -/
abbrev rmX5_captures : Room := { frames := 6, cells := 0, slots := 0, locals := 135 }
theorem kdX5_captures : yX5_captures.cls = RX5 ∧ yX5_captures.cls ≠ "java/lang/invoke/MethodHandle" ∧ yX5_captures.cls ≠ "java/lang/invoke/VarHandle" ∧ (parseMethodDescriptor yX5_captures.desc).map (fun d => d.parameters.length) = some 2 := by decide +kernel
theorem inX5_captures_X5 : ∀ w ∈ u_ws RX5 TX5 23, w ∈ wsX5_captures := by decide +kernel
def fX5_captures_51   (thrown : Int32) (now : Nat → Int32) (comes : Nat → Int32) (queue : Nat → Int32) (far : Nat → Int32) (ahead : Nat → Int32) (x1 : Int32) (x2 : Int32) (s0 : Int32) (s1 : Int32) : Option (Int32 × Int32 × (Nat → Int32) × (Nat → Int32) × (Nat → Int32) × (Nat → Int32) × (Nat → Int32)) := (zbd (fX5_fails thrown s1 s0) (fun u1 => (if u1.1 = 0 then (zbd (fX5_copyRow now ahead) (fun u3 => (zbd (fX5_go now x1 x2) (fun u5 => (zbd (fX5_copyRow u3 u5.2) (fun u7 => (some (u5.1, u1.2, u7, comes, queue, far, u3)))))))) else (some ((0 : Int32), u1.2, now, comes, queue, far, ahead)))))
def fX5_captures_46   (thrown : Int32) (now : Nat → Int32) (comes : Nat → Int32) (queue : Nat → Int32) (far : Nat → Int32) (ahead : Nat → Int32) (x1 : Int32) (x2 : Int32) (s0 : Int32) : Option (Int32 × Int32 × (Nat → Int32) × (Nat → Int32) × (Nat → Int32) × (Nat → Int32) × (Nat → Int32)) := (fX5_captures_51    thrown now comes queue far ahead x1 x2 (1 : Int32) s0)
def fX5_captures_21   (thrown : Int32) (now : Nat → Int32) (comes : Nat → Int32) (queue : Nat → Int32) (far : Nat → Int32) (ahead : Nat → Int32) (x1 : Int32) (x2 : Int32) (s0 : Int32) (s1 : Int32) : Option (Int32 × Int32 × (Nat → Int32) × (Nat → Int32) × (Nat → Int32) × (Nat → Int32) × (Nat → Int32)) := (zbd (fX5_fails thrown s1 s0) (fun u1 => (if u1.1 = 0 then (zbd (fX5_lacksPiece now x1) (fun u3 => (if u3 = 0 then (zbd (fX5_can now comes queue far x1 x2) (fun u5 => (if u5.1 = 0 then (fX5_captures_46    u1.2 now u5.2.1 u5.2.2.1 u5.2.2.2 ahead x1 x2 (2 : Int32)) else (fX5_captures_51    u1.2 now u5.2.1 u5.2.2.1 u5.2.2.2 ahead x1 x2 (0 : Int32) (2 : Int32))))) else (fX5_captures_46    u1.2 now comes queue far ahead x1 x2 (2 : Int32))))) else (some ((0 : Int32), u1.2, now, comes, queue, far, ahead)))))
def fX5_captures_16   (thrown : Int32) (now : Nat → Int32) (comes : Nat → Int32) (queue : Nat → Int32) (far : Nat → Int32) (ahead : Nat → Int32) (x1 : Int32) (x2 : Int32) (s0 : Int32) : Option (Int32 × Int32 × (Nat → Int32) × (Nat → Int32) × (Nat → Int32) × (Nat → Int32) × (Nat → Int32)) := (fX5_captures_21    thrown now comes queue far ahead x1 x2 (1 : Int32) s0)
def fX5_captures (thrown : Int32) (now : Nat → Int32) (comes : Nat → Int32) (queue : Nat → Int32) (far : Nat → Int32) (ahead : Nat → Int32) (p0 : Int32) (p1 : Int32) : Option (Int32 × Int32 × (Nat → Int32) × (Nat → Int32) × (Nat → Int32) × (Nat → Int32) × (Nat → Int32)) := (zbd (fX5_isSquare p0) (fun u1 => (if u1 = 0 then (fX5_captures_16    thrown now comes queue far ahead p0 p1 (1 : Int32)) else (zbd (fX5_isSquare p1) (fun u3 => (if u3 = 0 then (fX5_captures_16    thrown now comes queue far ahead p0 p1 (1 : Int32)) else (fX5_captures_21    thrown now comes queue far ahead p0 p1 (0 : Int32) (1 : Int32))))))))
set_option maxHeartbeats 400000 in
set_option maxRecDepth 100000 in
theorem wX5_captures_51 {p : Program} {l : Launch} {e : Env} {s : State} {m : MethodId} {args : Array Value} {below : List Frame} {meth : Method} {c : Code} {A : Nat → Prop} {Q : State → Prop} {G : va_G} {k : Nat → ClassId} {ad : Nat → Nat} {saved : Nat → Int32} {hist : Nat → Nat → Int32} {kept : Int32} {reason : Int32} {detail : Int32} {isSaved : Int32} {isInText : Int32} {roomAt : Nat → Int32} {rooms : Int32} {text : Nat → Int32} {length : Int32} {at_ : Int32} {errorPosition : Int32} {toldFrom : Int32} {toldTo : Int32} {isWrong : Int32} {before : Nat → Int32} {o : Int32 × Int32 × (Nat → Int32) × (Nat → Int32) × (Nat → Int32) × (Nat → Int32) × (Nat → Int32)} (C0 : zCx p s m args meth c wsX5_captures cX5_captures RX5 (some .int) 4) (hK : zKK G k A s s.heap) (hA : ∀ q : Nat, s.heap.size ≤ q → A q) (hret : zRI p l e rmX5_captures s m args below meth c cX5_captures G A 0 0 Q .int (zM ad k o.2.1 o.2.2.1 saved hist kept reason detail isSaved o.2.2.2.1 o.2.2.2.2.1 o.2.2.2.2.2.1 isInText o.2.2.2.2.2.2 roomAt rooms text length at_ errorPosition toldFrom toldTo isWrong before) o.1)  : ∀ (thrown : Int32) (now : Nat → Int32) (comes : Nat → Int32) (queue : Nat → Int32) (far : Nat → Int32) (ahead : Nat → Int32) (x1 : Int32) (x2 : Int32) (s0 : Int32) (s1 : Int32), fX5_captures_51   thrown now comes queue far ahead x1 x2 s0 s1 = some o → ∀ (H : Heap) (locs : List Loc) (ls : Array Slot), zWd G A s (zM ad k thrown now saved hist kept reason detail isSaved comes queue far isInText ahead roomAt rooms text length at_ errorPosition toldFrom toldTo isWrong before) H locs → lv_has ls 4 [(0, .ref (ad 0)), (1, .int x1), (2, .int x2)] → W p l e rmX5_captures s m args below meth c H locs 0 0 Q (F0 m 51 ls [.int s0, .int s1, .ref (ad 0)]) := by
  obtain ⟨hx, hb, hr, hml, hown, hts, hlocks⟩ := id C0
  intro thrown now comes queue far ahead x1 x2 s0 s1 hF H locs ls hw hl
  unfold fX5_captures_51 at hF
  obtain ⟨u1, hq2, hF⟩ := zbd_t hF
  refine zgoIw (w' := (zM ad k u1.2 now saved hist kept reason detail isSaved comes queue far isInText ahead roomAt rooms text length at_ errorPosition toldFrom toldTo isWrong before)) hw hA (zVw (As := [.int s1, .int s0]) (rest := []) ⟨hx, hb, hml, hown, hts⟩ (mX5_fails l G k ad H.size thrown now saved hist kept reason detail isSaved comes queue far isInText ahead roomAt rooms text length at_ errorPosition toldFrom toldTo isWrong before s1 s0 u1 hq2) (cwV 2 hts gX5_captures_X5_fails rfl rfl rfl kdX5_fails ⟨Nat.le_of_ble_eq_true rfl, Nat.le_of_ble_eq_true rfl⟩) hK hA hw 0 rfl rfl rfl rfl hl.1 rfl (Nat.le_of_ble_eq_true rfl) dX5_captures_51 ⟨Nat.le_of_ble_eq_true rfl, Nat.le_of_ble_eq_true rfl⟩) (fun H locs hw => ?_)
  refine lv_if_eq (tgt := 59) hx hb dX5_captures_54 (by decide) (fun hc => ?_) (fun hc => ?_)
  · have hF := zif_t hc hF
    refine lv_aload_n hx hb dX5_captures_59 rfl (lv_at hl 0 rfl) ?_
    refine va_get (D := G) (ci := 4) (v := .ref (ad 1)) (C := RX5) (T := TX5) (N := 23) hx hb hts inX5_captures_X5 hown hK.1 hw.1 0 rfl rfl 1 (by decide) (hts (.fieldLink RX5 9 "SealedBoardModel" "now" "[I") (by decide +kernel)) (fun _ h9 => h9) rfl dX5_captures_60 ?_
    refine lv_aload_n hx hb dX5_captures_63 rfl (lv_at hl 0 rfl) ?_
    refine va_get (D := G) (ci := 4) (v := .ref (ad 7)) (C := RX5) (T := TX5) (N := 23) hx hb hts inX5_captures_X5 hown hK.1 hw.1 0 rfl rfl 12 (by decide) (hts (.fieldLink RX5 31 "SealedBoardModel" "ahead" "[I") (by decide +kernel)) (fun _ h9 => h9) rfl dX5_captures_64 ?_
    obtain ⟨u3, hq4, hF⟩ := zbd_t hF
    refine zgoV (w' := (zM ad k u1.2 now saved hist kept reason detail isSaved comes queue far isInText u3 roomAt rooms text length at_ errorPosition toldFrom toldTo isWrong before)) hw hA [1, 7] rfl (zS (As := [.ref (ad 1), .ref (ad 7)]) (rest := []) ⟨hx, hb, hml, hown, hts⟩ (mX5_copyRow l G k (ad 1) (ad 7) H.size now ahead  u3 hq4) (va_cwS 2 hts gX5_captures_X5_copyRow rfl rfl rfl kdX5_copyRow ⟨Nat.le_of_ble_eq_true rfl, Nat.le_of_ble_eq_true rfl⟩) hK hA hw [1, 7] rfl (by decide) rfl hl.1 rfl (Nat.le_of_ble_eq_true rfl) dX5_captures_67 ⟨Nat.le_of_ble_eq_true rfl, Nat.le_of_ble_eq_true rfl⟩) rfl rfl rfl (fun H locs hw => ?_)
    refine lv_aload_n hx hb dX5_captures_70 rfl (lv_at hl 0 rfl) ?_
    refine lv_iload_n hx hb dX5_captures_71 rfl (lv_at hl 1 rfl) ?_
    refine lv_iload_n hx hb dX5_captures_72 rfl (lv_at hl 2 rfl) ?_
    obtain ⟨u5, hq6, hF⟩ := zbd_t hF
    refine zgoIw (w' := (zM ad k u1.2 u5.2 saved hist kept reason detail isSaved comes queue far isInText u3 roomAt rooms text length at_ errorPosition toldFrom toldTo isWrong before)) hw hA (zVw (As := [.int x1, .int x2]) (rest := []) ⟨hx, hb, hml, hown, hts⟩ (mX5_go l G k ad H.size u1.2 now saved hist kept reason detail isSaved comes queue far isInText u3 roomAt rooms text length at_ errorPosition toldFrom toldTo isWrong before x1 x2 u5 hq6) (cwV 2 hts gX5_captures_X5_go rfl rfl rfl kdX5_go ⟨Nat.le_of_ble_eq_true rfl, Nat.le_of_ble_eq_true rfl⟩) hK hA hw 0 rfl rfl rfl rfl hl.1 rfl (Nat.le_of_ble_eq_true rfl) dX5_captures_73 ⟨Nat.le_of_ble_eq_true rfl, Nat.le_of_ble_eq_true rfl⟩) (fun H locs hw => ?_)
    refine lv_istore_n (lv' := [(3, .int u5.1), (0, .ref (ad 0)), (1, .int x1), (2, .int x2)]) hx hb dX5_captures_76 rfl hl (by decide) rfl (fun ls hl => ?_)
    refine lv_aload_n hx hb dX5_captures_77 rfl (lv_at hl 1 rfl) ?_
    refine va_get (D := G) (ci := 4) (v := .ref (ad 7)) (C := RX5) (T := TX5) (N := 23) hx hb hts inX5_captures_X5 hown hK.1 hw.1 0 rfl rfl 12 (by decide) (hts (.fieldLink RX5 31 "SealedBoardModel" "ahead" "[I") (by decide +kernel)) (fun _ h9 => h9) rfl dX5_captures_78 ?_
    refine lv_aload_n hx hb dX5_captures_81 rfl (lv_at hl 1 rfl) ?_
    refine va_get (D := G) (ci := 4) (v := .ref (ad 1)) (C := RX5) (T := TX5) (N := 23) hx hb hts inX5_captures_X5 hown hK.1 hw.1 0 rfl rfl 1 (by decide) (hts (.fieldLink RX5 9 "SealedBoardModel" "now" "[I") (by decide +kernel)) (fun _ h9 => h9) rfl dX5_captures_82 ?_
    obtain ⟨u7, hq8, hF⟩ := zbd_t hF
    refine zgoV (w' := (zM ad k u1.2 u7 saved hist kept reason detail isSaved comes queue far isInText u3 roomAt rooms text length at_ errorPosition toldFrom toldTo isWrong before)) hw hA [7, 1] rfl (zS (As := [.ref (ad 7), .ref (ad 1)]) (rest := []) ⟨hx, hb, hml, hown, hts⟩ (mX5_copyRow l G k (ad 7) (ad 1) H.size u3 u5.2  u7 hq8) (va_cwS 2 hts gX5_captures_X5_copyRow rfl rfl rfl kdX5_copyRow ⟨Nat.le_of_ble_eq_true rfl, Nat.le_of_ble_eq_true rfl⟩) hK hA hw [7, 1] rfl (by decide) rfl hl.1 rfl (Nat.le_of_ble_eq_true rfl) dX5_captures_85 ⟨Nat.le_of_ble_eq_true rfl, Nat.le_of_ble_eq_true rfl⟩) rfl rfl rfl (fun H locs hw => ?_)
    refine lv_iload_n hx hb dX5_captures_88 rfl (lv_at hl 0 rfl) ?_
    obtain rfl := Option.some.inj hF
    exact hret _ _ _ _ rfl hw dX5_captures_89
  · have hF := zif_f hc hF
    refine lv_iconst (v := (0 : Int32)) hx hb dX5_captures_57 (by decide) ?_
    obtain rfl := Option.some.inj hF
    exact hret _ _ _ _ rfl hw dX5_captures_58
set_option maxHeartbeats 400000 in
set_option maxRecDepth 100000 in
theorem wX5_captures_46 {p : Program} {l : Launch} {e : Env} {s : State} {m : MethodId} {args : Array Value} {below : List Frame} {meth : Method} {c : Code} {A : Nat → Prop} {Q : State → Prop} {G : va_G} {k : Nat → ClassId} {ad : Nat → Nat} {saved : Nat → Int32} {hist : Nat → Nat → Int32} {kept : Int32} {reason : Int32} {detail : Int32} {isSaved : Int32} {isInText : Int32} {roomAt : Nat → Int32} {rooms : Int32} {text : Nat → Int32} {length : Int32} {at_ : Int32} {errorPosition : Int32} {toldFrom : Int32} {toldTo : Int32} {isWrong : Int32} {before : Nat → Int32} {o : Int32 × Int32 × (Nat → Int32) × (Nat → Int32) × (Nat → Int32) × (Nat → Int32) × (Nat → Int32)} (C0 : zCx p s m args meth c wsX5_captures cX5_captures RX5 (some .int) 4) (hK : zKK G k A s s.heap) (hA : ∀ q : Nat, s.heap.size ≤ q → A q) (hret : zRI p l e rmX5_captures s m args below meth c cX5_captures G A 0 0 Q .int (zM ad k o.2.1 o.2.2.1 saved hist kept reason detail isSaved o.2.2.2.1 o.2.2.2.2.1 o.2.2.2.2.2.1 isInText o.2.2.2.2.2.2 roomAt rooms text length at_ errorPosition toldFrom toldTo isWrong before) o.1)  : ∀ (thrown : Int32) (now : Nat → Int32) (comes : Nat → Int32) (queue : Nat → Int32) (far : Nat → Int32) (ahead : Nat → Int32) (x1 : Int32) (x2 : Int32) (s0 : Int32), fX5_captures_46   thrown now comes queue far ahead x1 x2 s0 = some o → ∀ (H : Heap) (locs : List Loc) (ls : Array Slot), zWd G A s (zM ad k thrown now saved hist kept reason detail isSaved comes queue far isInText ahead roomAt rooms text length at_ errorPosition toldFrom toldTo isWrong before) H locs → lv_has ls 4 [(0, .ref (ad 0)), (1, .int x1), (2, .int x2)] → W p l e rmX5_captures s m args below meth c H locs 0 0 Q (F0 m 46 ls [.int s0, .ref (ad 0)]) := by
  obtain ⟨hx, hb, hr, hml, hown, hts, hlocks⟩ := id C0
  intro thrown now comes queue far ahead x1 x2 s0 hF H locs ls hw hl
  unfold fX5_captures_46 at hF
  refine lv_iconst (v := (1 : Int32)) hx hb dX5_captures_46 (by decide) ?_
  refine lv_goto (tgt := 51) hx hb dX5_captures_47 (by decide) ?_
  exact wX5_captures_51 C0 hK hA hret   _ _ _ _ _ _ _ _ _ _ hF _ _ _ hw (lv_sub hl [0, 1, 2] rfl)
set_option maxHeartbeats 400000 in
set_option maxRecDepth 100000 in
theorem wX5_captures_21 {p : Program} {l : Launch} {e : Env} {s : State} {m : MethodId} {args : Array Value} {below : List Frame} {meth : Method} {c : Code} {A : Nat → Prop} {Q : State → Prop} {G : va_G} {k : Nat → ClassId} {ad : Nat → Nat} {saved : Nat → Int32} {hist : Nat → Nat → Int32} {kept : Int32} {reason : Int32} {detail : Int32} {isSaved : Int32} {isInText : Int32} {roomAt : Nat → Int32} {rooms : Int32} {text : Nat → Int32} {length : Int32} {at_ : Int32} {errorPosition : Int32} {toldFrom : Int32} {toldTo : Int32} {isWrong : Int32} {before : Nat → Int32} {o : Int32 × Int32 × (Nat → Int32) × (Nat → Int32) × (Nat → Int32) × (Nat → Int32) × (Nat → Int32)} (C0 : zCx p s m args meth c wsX5_captures cX5_captures RX5 (some .int) 4) (hK : zKK G k A s s.heap) (hA : ∀ q : Nat, s.heap.size ≤ q → A q) (hret : zRI p l e rmX5_captures s m args below meth c cX5_captures G A 0 0 Q .int (zM ad k o.2.1 o.2.2.1 saved hist kept reason detail isSaved o.2.2.2.1 o.2.2.2.2.1 o.2.2.2.2.2.1 isInText o.2.2.2.2.2.2 roomAt rooms text length at_ errorPosition toldFrom toldTo isWrong before) o.1)  : ∀ (thrown : Int32) (now : Nat → Int32) (comes : Nat → Int32) (queue : Nat → Int32) (far : Nat → Int32) (ahead : Nat → Int32) (x1 : Int32) (x2 : Int32) (s0 : Int32) (s1 : Int32), fX5_captures_21   thrown now comes queue far ahead x1 x2 s0 s1 = some o → ∀ (H : Heap) (locs : List Loc) (ls : Array Slot), zWd G A s (zM ad k thrown now saved hist kept reason detail isSaved comes queue far isInText ahead roomAt rooms text length at_ errorPosition toldFrom toldTo isWrong before) H locs → lv_has ls 4 [(0, .ref (ad 0)), (1, .int x1), (2, .int x2)] → W p l e rmX5_captures s m args below meth c H locs 0 0 Q (F0 m 21 ls [.int s0, .int s1, .ref (ad 0)]) := by
  obtain ⟨hx, hb, hr, hml, hown, hts, hlocks⟩ := id C0
  intro thrown now comes queue far ahead x1 x2 s0 s1 hF H locs ls hw hl
  unfold fX5_captures_21 at hF
  obtain ⟨u1, hq2, hF⟩ := zbd_t hF
  refine zgoIw (w' := (zM ad k u1.2 now saved hist kept reason detail isSaved comes queue far isInText ahead roomAt rooms text length at_ errorPosition toldFrom toldTo isWrong before)) hw hA (zVw (As := [.int s1, .int s0]) (rest := []) ⟨hx, hb, hml, hown, hts⟩ (mX5_fails l G k ad H.size thrown now saved hist kept reason detail isSaved comes queue far isInText ahead roomAt rooms text length at_ errorPosition toldFrom toldTo isWrong before s1 s0 u1 hq2) (cwV 2 hts gX5_captures_X5_fails rfl rfl rfl kdX5_fails ⟨Nat.le_of_ble_eq_true rfl, Nat.le_of_ble_eq_true rfl⟩) hK hA hw 0 rfl rfl rfl rfl hl.1 rfl (Nat.le_of_ble_eq_true rfl) dX5_captures_21 ⟨Nat.le_of_ble_eq_true rfl, Nat.le_of_ble_eq_true rfl⟩) (fun H locs hw => ?_)
  refine lv_if_ne (tgt := 57) hx hb dX5_captures_24 (by decide) (fun hc => ?_) (fun hc => ?_)
  · have hF := zif_f hc hF
    refine lv_iconst (v := (0 : Int32)) hx hb dX5_captures_57 (by decide) ?_
    obtain rfl := Option.some.inj hF
    exact hret _ _ _ _ rfl hw dX5_captures_58
  · have hF := zif_t hc hF
    refine lv_aload_n hx hb dX5_captures_27 rfl (lv_at hl 0 rfl) ?_
    refine lv_iconst (v := (2 : Int32)) hx hb dX5_captures_28 (by decide) ?_
    refine lv_aload_n hx hb dX5_captures_29 rfl (lv_at hl 0 rfl) ?_
    refine lv_iload_n hx hb dX5_captures_30 rfl (lv_at hl 1 rfl) ?_
    obtain ⟨u3, hq4, hF⟩ := zbd_t hF
    refine zgoIw (w' := (zM ad k u1.2 now saved hist kept reason detail isSaved comes queue far isInText ahead roomAt rooms text length at_ errorPosition toldFrom toldTo isWrong before)) hw hA (zVw (As := [.int x1]) (rest := [.int (2 : Int32), .ref (ad 0)]) ⟨hx, hb, hml, hown, hts⟩ (mX5_lacksPiece l G k ad H.size u1.2 now saved hist kept reason detail isSaved comes queue far isInText ahead roomAt rooms text length at_ errorPosition toldFrom toldTo isWrong before x1 u3 hq4) (cwV 1 hts gX5_captures_X5_lacksPiece rfl rfl rfl kdX5_lacksPiece ⟨Nat.le_of_ble_eq_true rfl, Nat.le_of_ble_eq_true rfl⟩) hK hA hw 0 rfl rfl rfl rfl hl.1 rfl (Nat.le_of_ble_eq_true rfl) dX5_captures_31 ⟨Nat.le_of_ble_eq_true rfl, Nat.le_of_ble_eq_true rfl⟩) (fun H locs hw => ?_)
    refine lv_if_ne (tgt := 46) hx hb dX5_captures_34 (by decide) (fun hc => ?_) (fun hc => ?_)
    · have hF := zif_f hc hF
      exact wX5_captures_46 C0 hK hA hret   _ _ _ _ _ _ _ _ _ hF _ _ _ hw (lv_sub hl [0, 1, 2] rfl)
    · have hF := zif_t hc hF
      refine lv_aload_n hx hb dX5_captures_37 rfl (lv_at hl 0 rfl) ?_
      refine lv_iload_n hx hb dX5_captures_38 rfl (lv_at hl 1 rfl) ?_
      refine lv_iload_n hx hb dX5_captures_39 rfl (lv_at hl 2 rfl) ?_
      obtain ⟨u5, hq6, hF⟩ := zbd_t hF
      refine zgoIw (w' := (zM ad k u1.2 now saved hist kept reason detail isSaved u5.2.1 u5.2.2.1 u5.2.2.2 isInText ahead roomAt rooms text length at_ errorPosition toldFrom toldTo isWrong before)) hw hA (zVw (As := [.int x1, .int x2]) (rest := [.int (2 : Int32), .ref (ad 0)]) ⟨hx, hb, hml, hown, hts⟩ (mX5_can l G k ad H.size u1.2 now saved hist kept reason detail isSaved comes queue far isInText ahead roomAt rooms text length at_ errorPosition toldFrom toldTo isWrong before x1 x2 u5 hq6) (cwV 2 hts gX5_captures_X5_can rfl rfl rfl kdX5_can ⟨Nat.le_of_ble_eq_true rfl, Nat.le_of_ble_eq_true rfl⟩) hK hA hw 0 rfl rfl rfl rfl hl.1 rfl (Nat.le_of_ble_eq_true rfl) dX5_captures_40 ⟨Nat.le_of_ble_eq_true rfl, Nat.le_of_ble_eq_true rfl⟩) (fun H locs hw => ?_)
      refine lv_if_ne (tgt := 50) hx hb dX5_captures_43 (by decide) (fun hc => ?_) (fun hc => ?_)
      · have hF := zif_f hc hF
        refine lv_iconst (v := (0 : Int32)) hx hb dX5_captures_50 (by decide) ?_
        exact wX5_captures_51 C0 hK hA hret   _ _ _ _ _ _ _ _ _ _ hF _ _ _ hw (lv_sub hl [0, 1, 2] rfl)
      · have hF := zif_t hc hF
        exact wX5_captures_46 C0 hK hA hret   _ _ _ _ _ _ _ _ _ hF _ _ _ hw (lv_sub hl [0, 1, 2] rfl)
set_option maxHeartbeats 400000 in
set_option maxRecDepth 100000 in
theorem wX5_captures_16 {p : Program} {l : Launch} {e : Env} {s : State} {m : MethodId} {args : Array Value} {below : List Frame} {meth : Method} {c : Code} {A : Nat → Prop} {Q : State → Prop} {G : va_G} {k : Nat → ClassId} {ad : Nat → Nat} {saved : Nat → Int32} {hist : Nat → Nat → Int32} {kept : Int32} {reason : Int32} {detail : Int32} {isSaved : Int32} {isInText : Int32} {roomAt : Nat → Int32} {rooms : Int32} {text : Nat → Int32} {length : Int32} {at_ : Int32} {errorPosition : Int32} {toldFrom : Int32} {toldTo : Int32} {isWrong : Int32} {before : Nat → Int32} {o : Int32 × Int32 × (Nat → Int32) × (Nat → Int32) × (Nat → Int32) × (Nat → Int32) × (Nat → Int32)} (C0 : zCx p s m args meth c wsX5_captures cX5_captures RX5 (some .int) 4) (hK : zKK G k A s s.heap) (hA : ∀ q : Nat, s.heap.size ≤ q → A q) (hret : zRI p l e rmX5_captures s m args below meth c cX5_captures G A 0 0 Q .int (zM ad k o.2.1 o.2.2.1 saved hist kept reason detail isSaved o.2.2.2.1 o.2.2.2.2.1 o.2.2.2.2.2.1 isInText o.2.2.2.2.2.2 roomAt rooms text length at_ errorPosition toldFrom toldTo isWrong before) o.1)  : ∀ (thrown : Int32) (now : Nat → Int32) (comes : Nat → Int32) (queue : Nat → Int32) (far : Nat → Int32) (ahead : Nat → Int32) (x1 : Int32) (x2 : Int32) (s0 : Int32), fX5_captures_16   thrown now comes queue far ahead x1 x2 s0 = some o → ∀ (H : Heap) (locs : List Loc) (ls : Array Slot), zWd G A s (zM ad k thrown now saved hist kept reason detail isSaved comes queue far isInText ahead roomAt rooms text length at_ errorPosition toldFrom toldTo isWrong before) H locs → lv_has ls 4 [(0, .ref (ad 0)), (1, .int x1), (2, .int x2)] → W p l e rmX5_captures s m args below meth c H locs 0 0 Q (F0 m 16 ls [.int s0, .ref (ad 0)]) := by
  obtain ⟨hx, hb, hr, hml, hown, hts, hlocks⟩ := id C0
  intro thrown now comes queue far ahead x1 x2 s0 hF H locs ls hw hl
  unfold fX5_captures_16 at hF
  refine lv_iconst (v := (1 : Int32)) hx hb dX5_captures_16 (by decide) ?_
  refine lv_goto (tgt := 21) hx hb dX5_captures_17 (by decide) ?_
  exact wX5_captures_21 C0 hK hA hret   _ _ _ _ _ _ _ _ _ _ hF _ _ _ hw (lv_sub hl [0, 1, 2] rfl)
set_option maxHeartbeats 400000 in
set_option maxRecDepth 100000 in
theorem mX5_captures (l : Launch) (G : va_G) (k : Nat → ClassId) (ad : Nat → Nat) (sz : Nat) (thrown : Int32) (now : Nat → Int32) (saved : Nat → Int32) (hist : Nat → Nat → Int32) (kept : Int32) (reason : Int32) (detail : Int32) (isSaved : Int32) (comes : Nat → Int32) (queue : Nat → Int32) (far : Nat → Int32) (isInText : Int32) (ahead : Nat → Int32) (roomAt : Nat → Int32) (rooms : Int32) (text : Nat → Int32) (length : Int32) (at_ : Int32) (errorPosition : Int32) (toldFrom : Int32) (toldTo : Int32) (isWrong : Int32) (before : Nat → Int32) (p0 : Int32) (p1 : Int32) (o : Int32 × Int32 × (Nat → Int32) × (Nat → Int32) × (Nat → Int32) × (Nat → Int32) × (Nat → Int32)) (hF : fX5_captures thrown now comes queue far ahead p0 p1 = some o) : zMI l yX5_captures wsX5_captures rmX5_captures G k (zM ad k thrown now saved hist kept reason detail isSaved comes queue far isInText ahead roomAt rooms text length at_ errorPosition toldFrom toldTo isWrong before) sz [.ref (ad 0), .int p0, .int p1] o.1 (zM ad k o.2.1 o.2.2.1 saved hist kept reason detail isSaved o.2.2.2.1 o.2.2.2.2.1 o.2.2.2.2.2.1 isInText o.2.2.2.2.2.2 roomAt rooms text length at_ errorPosition toldFrom toldTo isWrong before) := by
  refine zof_I (cc := cX5_captures) (nL := 4) (own := RX5) (rt := .int) (by decide) rfl rfl (Nat.le_of_ble_eq_true rfl) ?_
  intro p e s m args below meth c A Q C0 hK hA hret ls hl hw
  have hl : lv_has ls 4 [(0, .ref (ad 0)), (1, .int p0), (2, .int p1)] := hl
  obtain ⟨hx, hb, hr, hml, hown, hts, hlocks⟩ := id C0
  obtain ⟨H, hH⟩ : ∃ z, z = s.heap := ⟨_, rfl⟩
  rw [← hH] at hw ⊢
  unfold fX5_captures at hF
  refine lv_aload_n hx hb dX5_captures_0 rfl (lv_at hl 0 rfl) ?_
  refine lv_iconst (v := (1 : Int32)) hx hb dX5_captures_1 (by decide) ?_
  refine lv_iload_n hx hb dX5_captures_2 rfl (lv_at hl 1 rfl) ?_
  obtain ⟨u1, hq2, hF⟩ := zbd_t hF
  refine zgoI (w' := (zM ad k thrown now saved hist kept reason detail isSaved comes queue far isInText ahead roomAt rooms text length at_ errorPosition toldFrom toldTo isWrong before)) hw hA [] rfl (zS (As := [.int p0]) (rest := [.int (1 : Int32), .ref (ad 0)]) ⟨hx, hb, hml, hown, hts⟩ (mX5_isSquare l G k  H.size  p0 u1 hq2) (va_cwS 1 hts gX5_captures_X5_isSquare rfl rfl rfl kdX5_isSquare ⟨Nat.le_of_ble_eq_true rfl, Nat.le_of_ble_eq_true rfl⟩) hK hA hw [] rfl (by decide) rfl hl.1 rfl (Nat.le_of_ble_eq_true rfl) dX5_captures_3 ⟨Nat.le_of_ble_eq_true rfl, Nat.le_of_ble_eq_true rfl⟩) rfl rfl rfl (fun H locs hw => ?_)
  refine lv_if_eq (tgt := 16) hx hb dX5_captures_6 (by decide) (fun hc => ?_) (fun hc => ?_)
  · have hF := zif_t hc hF
    exact wX5_captures_16 C0 hK hA hret   _ _ _ _ _ _ _ _ _ hF _ _ _ hw (lv_sub hl [0, 1, 2] rfl)
  · have hF := zif_f hc hF
    refine lv_iload_n hx hb dX5_captures_9 rfl (lv_at hl 2 rfl) ?_
    obtain ⟨u3, hq4, hF⟩ := zbd_t hF
    refine zgoI (w' := (zM ad k thrown now saved hist kept reason detail isSaved comes queue far isInText ahead roomAt rooms text length at_ errorPosition toldFrom toldTo isWrong before)) hw hA [] rfl (zS (As := [.int p1]) (rest := [.int (1 : Int32), .ref (ad 0)]) ⟨hx, hb, hml, hown, hts⟩ (mX5_isSquare l G k  H.size  p1 u3 hq4) (va_cwS 1 hts gX5_captures_X5_isSquare rfl rfl rfl kdX5_isSquare ⟨Nat.le_of_ble_eq_true rfl, Nat.le_of_ble_eq_true rfl⟩) hK hA hw [] rfl (by decide) rfl hl.1 rfl (Nat.le_of_ble_eq_true rfl) dX5_captures_10 ⟨Nat.le_of_ble_eq_true rfl, Nat.le_of_ble_eq_true rfl⟩) rfl rfl rfl (fun H locs hw => ?_)
    refine lv_if_ne (tgt := 20) hx hb dX5_captures_13 (by decide) (fun hc => ?_) (fun hc => ?_)
    · have hF := zif_f hc hF
      refine lv_iconst (v := (0 : Int32)) hx hb dX5_captures_20 (by decide) ?_
      exact wX5_captures_21 C0 hK hA hret   _ _ _ _ _ _ _ _ _ _ hF _ _ _ hw (lv_sub hl [0, 1, 2] rfl)
    · have hF := zif_t hc hF
      exact wX5_captures_16 C0 hK hA hret   _ _ _ _ _ _ _ _ _ hF _ _ _ hw (lv_sub hl [0, 1, 2] rfl)

/-! SealedBoardModel.countIn(II)I -/
abbrev rmX5_countIn : Room := { frames := 2, cells := 0, slots := 0, locals := 42 }
theorem kdX5_countIn : yX5_countIn.cls = RX5 ∧ yX5_countIn.cls ≠ "java/lang/invoke/MethodHandle" ∧ yX5_countIn.cls ≠ "java/lang/invoke/VarHandle" ∧ (parseMethodDescriptor yX5_countIn.desc).map (fun d => d.parameters.length) = some 2 := by decide +kernel
theorem inX5_countIn_X5 : ∀ w ∈ u_ws RX5 TX5 23, w ∈ wsX5_countIn := by decide +kernel
def fX5_countIn_43 (k5 : Int32 → Int32 → Int32 → Int32 → Option (Int32)) (now : Nat → Int32) (roomAt : Nat → Int32) (x1 : Int32) (x2 : Int32) (x4 : Int32) (s0 : Int32) (s1 : Int32) : Option (Int32) := (zbn (s1 + s0) (fun a1 => (zbn (x4 + (1 : Int32)) (fun a2 => (k5 x1 x2 a1 a2)))))
def fX5_countIn_42 (k5 : Int32 → Int32 → Int32 → Int32 → Option (Int32)) (now : Nat → Int32) (roomAt : Nat → Int32) (x1 : Int32) (x2 : Int32) (x4 : Int32) (s0 : Int32) : Option (Int32) := (fX5_countIn_43 k5 now roomAt  x1 x2 x4 (0 : Int32) s0)
def fX5_countIn_5  (now : Nat → Int32) (roomAt : Nat → Int32) : Nat → Int32 → Int32 → Int32 → Int32 → Option (Int32)
  | 0, _, _, _, _ => none
  | n + 1, x1, x2, x3, x4 => (if (36 : Int32) ≤ x4 then (some (x3)) else (zck (zin x4 36) (if (roomAt x4.toNatClampNeg) = x1 then (zck (zin x4 76) (zbd (fX5_sideOf (now x4.toNatClampNeg)) (fun u3 => (if u3 = x2 then (fX5_countIn_43 (fun b0 b1 b2 b3 => fX5_countIn_5  now roomAt n b0 b1 b2 b3) now roomAt  x1 x2 x4 (1 : Int32) x3) else (fX5_countIn_42 (fun b0 b1 b2 b3 => fX5_countIn_5  now roomAt n b0 b1 b2 b3) now roomAt  x1 x2 x4 x3))))) else (fX5_countIn_42 (fun b0 b1 b2 b3 => fX5_countIn_5  now roomAt n b0 b1 b2 b3) now roomAt  x1 x2 x4 x3))))
def fX5_countIn (now : Nat → Int32) (roomAt : Nat → Int32) (p0 : Int32) (p1 : Int32) : Option (Int32) := (fX5_countIn_5  now roomAt zFu p0 p1 (0 : Int32) (0 : Int32))
set_option maxHeartbeats 400000 in
set_option maxRecDepth 100000 in
theorem wX5_countIn_43 {p : Program} {l : Launch} {e : Env} {s : State} {m : MethodId} {args : Array Value} {below : List Frame} {meth : Method} {c : Code} {A : Nat → Prop} {Q : State → Prop} {G : va_G} {k : Nat → ClassId} {ad : Nat → Nat} {thrown : Int32} {now : Nat → Int32} {saved : Nat → Int32} {hist : Nat → Nat → Int32} {kept : Int32} {reason : Int32} {detail : Int32} {isSaved : Int32} {comes : Nat → Int32} {queue : Nat → Int32} {far : Nat → Int32} {isInText : Int32} {ahead : Nat → Int32} {roomAt : Nat → Int32} {rooms : Int32} {text : Nat → Int32} {length : Int32} {at_ : Int32} {errorPosition : Int32} {toldFrom : Int32} {toldTo : Int32} {isWrong : Int32} {before : Nat → Int32} {o : Int32} (C0 : zCx p s m args meth c wsX5_countIn cX5_countIn RX5 (some .int) 5) (hK : zKK G k A s s.heap) (hA : ∀ q : Nat, s.heap.size ≤ q → A q) (hret : zRI p l e rmX5_countIn s m args below meth c cX5_countIn G A 0 0 Q .int (zM ad k thrown now saved hist kept reason detail isSaved comes queue far isInText ahead roomAt rooms text length at_ errorPosition toldFrom toldTo isWrong before) o) (k5 : Int32 → Int32 → Int32 → Int32 → Option (Int32)) (hk5 : ∀ (x1 : Int32) (x2 : Int32) (x3 : Int32) (x4 : Int32), k5 x1 x2 x3 x4 = some o → ∀ (H : Heap) (locs : List Loc) (ls : Array Slot), zWd G A s (zM ad k thrown now saved hist kept reason detail isSaved comes queue far isInText ahead roomAt rooms text length at_ errorPosition toldFrom toldTo isWrong before) H locs → lv_has ls 5 [(0, .ref (ad 0)), (1, .int x1), (2, .int x2), (3, .int x3), (4, .int x4)] → W p l e rmX5_countIn s m args below meth c H locs 0 0 Q (F0 m 5 ls [])) : ∀ (x1 : Int32) (x2 : Int32) (x4 : Int32) (s0 : Int32) (s1 : Int32), fX5_countIn_43 k5 now roomAt x1 x2 x4 s0 s1 = some o → ∀ (H : Heap) (locs : List Loc) (ls : Array Slot), zWd G A s (zM ad k thrown now saved hist kept reason detail isSaved comes queue far isInText ahead roomAt rooms text length at_ errorPosition toldFrom toldTo isWrong before) H locs → lv_has ls 5 [(0, .ref (ad 0)), (1, .int x1), (2, .int x2), (4, .int x4)] → W p l e rmX5_countIn s m args below meth c H locs 0 0 Q (F0 m 43 ls [.int s0, .int s1]) := by
  obtain ⟨hx, hb, hr, hml, hown, hts, hlocks⟩ := id C0
  intro x1 x2 x4 s0 s1 hF H locs ls hw hl
  unfold fX5_countIn_43 at hF
  refine lv_iadd hx hb dX5_countIn_43 ?_
  refine lv_topi (fun a1 ea1 => ?_)
  have hF := zbn_t ea1 hF
  refine lv_istore_n (lv' := [(3, .int a1), (0, .ref (ad 0)), (1, .int x1), (2, .int x2), (4, .int x4)]) hx hb dX5_countIn_44 rfl hl (by decide) rfl (fun ls hl => ?_)
  obtain ⟨a2, ea2⟩ : ∃ z : Int32, z = x4 + (1 : Int32) := ⟨_, rfl⟩
  have hF := zbn_t ea2 hF
  refine lv_iinc (v := a2) (lv' := [(4, .int a2), (3, .int a1), (0, .ref (ad 0)), (1, .int x1), (2, .int x2)]) hx hb dX5_countIn_45 hl (k := 4) rfl (by rw [ea2]; rfl) (by decide) rfl (fun ls hl => ?_)
  refine lv_goto (tgt := 5) hx hb dX5_countIn_48 (by decide) ?_
  exact hk5 _ _ _ _ hF _ _ _ hw (lv_sub hl [2, 3, 4, 1, 0] rfl)
set_option maxHeartbeats 400000 in
set_option maxRecDepth 100000 in
theorem wX5_countIn_42 {p : Program} {l : Launch} {e : Env} {s : State} {m : MethodId} {args : Array Value} {below : List Frame} {meth : Method} {c : Code} {A : Nat → Prop} {Q : State → Prop} {G : va_G} {k : Nat → ClassId} {ad : Nat → Nat} {thrown : Int32} {now : Nat → Int32} {saved : Nat → Int32} {hist : Nat → Nat → Int32} {kept : Int32} {reason : Int32} {detail : Int32} {isSaved : Int32} {comes : Nat → Int32} {queue : Nat → Int32} {far : Nat → Int32} {isInText : Int32} {ahead : Nat → Int32} {roomAt : Nat → Int32} {rooms : Int32} {text : Nat → Int32} {length : Int32} {at_ : Int32} {errorPosition : Int32} {toldFrom : Int32} {toldTo : Int32} {isWrong : Int32} {before : Nat → Int32} {o : Int32} (C0 : zCx p s m args meth c wsX5_countIn cX5_countIn RX5 (some .int) 5) (hK : zKK G k A s s.heap) (hA : ∀ q : Nat, s.heap.size ≤ q → A q) (hret : zRI p l e rmX5_countIn s m args below meth c cX5_countIn G A 0 0 Q .int (zM ad k thrown now saved hist kept reason detail isSaved comes queue far isInText ahead roomAt rooms text length at_ errorPosition toldFrom toldTo isWrong before) o) (k5 : Int32 → Int32 → Int32 → Int32 → Option (Int32)) (hk5 : ∀ (x1 : Int32) (x2 : Int32) (x3 : Int32) (x4 : Int32), k5 x1 x2 x3 x4 = some o → ∀ (H : Heap) (locs : List Loc) (ls : Array Slot), zWd G A s (zM ad k thrown now saved hist kept reason detail isSaved comes queue far isInText ahead roomAt rooms text length at_ errorPosition toldFrom toldTo isWrong before) H locs → lv_has ls 5 [(0, .ref (ad 0)), (1, .int x1), (2, .int x2), (3, .int x3), (4, .int x4)] → W p l e rmX5_countIn s m args below meth c H locs 0 0 Q (F0 m 5 ls [])) : ∀ (x1 : Int32) (x2 : Int32) (x4 : Int32) (s0 : Int32), fX5_countIn_42 k5 now roomAt x1 x2 x4 s0 = some o → ∀ (H : Heap) (locs : List Loc) (ls : Array Slot), zWd G A s (zM ad k thrown now saved hist kept reason detail isSaved comes queue far isInText ahead roomAt rooms text length at_ errorPosition toldFrom toldTo isWrong before) H locs → lv_has ls 5 [(0, .ref (ad 0)), (1, .int x1), (2, .int x2), (4, .int x4)] → W p l e rmX5_countIn s m args below meth c H locs 0 0 Q (F0 m 42 ls [.int s0]) := by
  obtain ⟨hx, hb, hr, hml, hown, hts, hlocks⟩ := id C0
  intro x1 x2 x4 s0 hF H locs ls hw hl
  unfold fX5_countIn_42 at hF
  refine lv_iconst (v := (0 : Int32)) hx hb dX5_countIn_42 (by decide) ?_
  exact wX5_countIn_43 C0 hK hA hret k5 hk5  _ _ _ _ _ hF _ _ _ hw (lv_sub hl [0, 1, 2, 3] rfl)
set_option maxHeartbeats 400000 in
set_option maxRecDepth 100000 in
theorem wX5_countIn_5 {p : Program} {l : Launch} {e : Env} {s : State} {m : MethodId} {args : Array Value} {below : List Frame} {meth : Method} {c : Code} {A : Nat → Prop} {Q : State → Prop} {G : va_G} {k : Nat → ClassId} {ad : Nat → Nat} {thrown : Int32} {now : Nat → Int32} {saved : Nat → Int32} {hist : Nat → Nat → Int32} {kept : Int32} {reason : Int32} {detail : Int32} {isSaved : Int32} {comes : Nat → Int32} {queue : Nat → Int32} {far : Nat → Int32} {isInText : Int32} {ahead : Nat → Int32} {roomAt : Nat → Int32} {rooms : Int32} {text : Nat → Int32} {length : Int32} {at_ : Int32} {errorPosition : Int32} {toldFrom : Int32} {toldTo : Int32} {isWrong : Int32} {before : Nat → Int32} {o : Int32} (C0 : zCx p s m args meth c wsX5_countIn cX5_countIn RX5 (some .int) 5) (hK : zKK G k A s s.heap) (hA : ∀ q : Nat, s.heap.size ≤ q → A q) (hret : zRI p l e rmX5_countIn s m args below meth c cX5_countIn G A 0 0 Q .int (zM ad k thrown now saved hist kept reason detail isSaved comes queue far isInText ahead roomAt rooms text length at_ errorPosition toldFrom toldTo isWrong before) o)  : ∀ (n : Nat) (x1 : Int32) (x2 : Int32) (x3 : Int32) (x4 : Int32), fX5_countIn_5  now roomAt n x1 x2 x3 x4 = some o → ∀ (H : Heap) (locs : List Loc) (ls : Array Slot), zWd G A s (zM ad k thrown now saved hist kept reason detail isSaved comes queue far isInText ahead roomAt rooms text length at_ errorPosition toldFrom toldTo isWrong before) H locs → lv_has ls 5 [(0, .ref (ad 0)), (1, .int x1), (2, .int x2), (3, .int x3), (4, .int x4)] → W p l e rmX5_countIn s m args below meth c H locs 0 0 Q (F0 m 5 ls []) := by
  obtain ⟨hx, hb, hr, hml, hown, hts, hlocks⟩ := id C0
  intro n
  induction n with
  | zero => intro x1 x2 x3 x4 hF; exact nomatch hF
  | succ n ih =>
    intro x1 x2 x3 x4 hF H locs ls hw hl
    rw [fX5_countIn_5] at hF
    refine lv_iload hx hb dX5_countIn_5 (lv_at hl 4 rfl) ?_
    refine lv_bipush (v := (36 : Int32)) hx hb dX5_countIn_7 (by decide) ?_
    refine lv_icmp_ge (tgt := 51) hx hb dX5_countIn_9 (by decide) (fun hc => ?_) (fun hc => ?_)
    · have hF := zif_t hc hF
      refine lv_iload_n hx hb dX5_countIn_51 rfl (lv_at hl 3 rfl) ?_
      obtain rfl := Option.some.inj hF
      exact hret _ _ _ _ rfl hw dX5_countIn_52
    · have hF := zif_f hc hF
      refine lv_iload_n hx hb dX5_countIn_12 rfl (lv_at hl 3 rfl) ?_
      refine lv_aload_n hx hb dX5_countIn_13 rfl (lv_at hl 0 rfl) ?_
      refine va_get (D := G) (ci := 4) (v := .ref (ad 8)) (C := RX5) (T := TX5) (N := 23) hx hb hts inX5_countIn_X5 hown hK.1 hw.1 0 rfl rfl 13 (by decide) (hts (.fieldLink RX5 34 "SealedBoardModel" "roomAt" "[I") (by decide +kernel)) (fun _ h9 => h9) rfl dX5_countIn_14 ?_
      refine lv_iload hx hb dX5_countIn_17 (lv_at hl 4 rfl) ?_
      obtain ⟨hi1, hF⟩ := zck_in hF
      refine va_iald hx hb hK.1 hw.1 8 2 rfl rfl hi1 dX5_countIn_19 ?_
      refine lv_iload_n hx hb dX5_countIn_20 rfl (lv_at hl 1 rfl) ?_
      refine lv_icmp_ne (tgt := 42) hx hb dX5_countIn_21 (by decide) (fun hc => ?_) (fun hc => ?_)
      · have hF := zif_f hc hF
        exact wX5_countIn_42 C0 hK hA hret (fun b0 b1 b2 b3 => fX5_countIn_5  now roomAt n b0 b1 b2 b3) ih  _ _ _ _ hF _ _ _ hw (lv_sub hl [0, 1, 2, 4] rfl)
      · have hF := zif_t hc hF
        refine lv_aload_n hx hb dX5_countIn_24 rfl (lv_at hl 0 rfl) ?_
        refine va_get (D := G) (ci := 4) (v := .ref (ad 1)) (C := RX5) (T := TX5) (N := 23) hx hb hts inX5_countIn_X5 hown hK.1 hw.1 0 rfl rfl 1 (by decide) (hts (.fieldLink RX5 9 "SealedBoardModel" "now" "[I") (by decide +kernel)) (fun _ h9 => h9) rfl dX5_countIn_25 ?_
        refine lv_iload hx hb dX5_countIn_28 (lv_at hl 4 rfl) ?_
        obtain ⟨hi2, hF⟩ := zck_in hF
        refine va_iald hx hb hK.1 hw.1 1 2 rfl rfl hi2 dX5_countIn_30 ?_
        obtain ⟨u3, hq4, hF⟩ := zbd_t hF
        refine zgoI (w' := (zM ad k thrown now saved hist kept reason detail isSaved comes queue far isInText ahead roomAt rooms text length at_ errorPosition toldFrom toldTo isWrong before)) hw hA [] rfl (zS (As := [.int (now x4.toNatClampNeg)]) (rest := [.int x3]) ⟨hx, hb, hml, hown, hts⟩ (mX5_sideOf l G k  H.size  (now x4.toNatClampNeg) u3 hq4) (va_cwS 1 hts gX5_countIn_X5_sideOf rfl rfl rfl kdX5_sideOf ⟨Nat.le_of_ble_eq_true rfl, Nat.le_of_ble_eq_true rfl⟩) hK hA hw [] rfl (by decide) rfl hl.1 rfl (Nat.le_of_ble_eq_true rfl) dX5_countIn_31 ⟨Nat.le_of_ble_eq_true rfl, Nat.le_of_ble_eq_true rfl⟩) rfl rfl rfl (fun H locs hw => ?_)
        refine lv_iload_n hx hb dX5_countIn_34 rfl (lv_at hl 2 rfl) ?_
        refine lv_icmp_ne (tgt := 42) hx hb dX5_countIn_35 (by decide) (fun hc => ?_) (fun hc => ?_)
        · have hF := zif_f hc hF
          exact wX5_countIn_42 C0 hK hA hret (fun b0 b1 b2 b3 => fX5_countIn_5  now roomAt n b0 b1 b2 b3) ih  _ _ _ _ hF _ _ _ hw (lv_sub hl [0, 1, 2, 4] rfl)
        · have hF := zif_t hc hF
          refine lv_iconst (v := (1 : Int32)) hx hb dX5_countIn_38 (by decide) ?_
          refine lv_goto (tgt := 43) hx hb dX5_countIn_39 (by decide) ?_
          exact wX5_countIn_43 C0 hK hA hret (fun b0 b1 b2 b3 => fX5_countIn_5  now roomAt n b0 b1 b2 b3) ih  _ _ _ _ _ hF _ _ _ hw (lv_sub hl [0, 1, 2, 4] rfl)
set_option maxHeartbeats 400000 in
set_option maxRecDepth 100000 in
theorem mX5_countIn (l : Launch) (G : va_G) (k : Nat → ClassId) (ad : Nat → Nat) (sz : Nat) (thrown : Int32) (now : Nat → Int32) (saved : Nat → Int32) (hist : Nat → Nat → Int32) (kept : Int32) (reason : Int32) (detail : Int32) (isSaved : Int32) (comes : Nat → Int32) (queue : Nat → Int32) (far : Nat → Int32) (isInText : Int32) (ahead : Nat → Int32) (roomAt : Nat → Int32) (rooms : Int32) (text : Nat → Int32) (length : Int32) (at_ : Int32) (errorPosition : Int32) (toldFrom : Int32) (toldTo : Int32) (isWrong : Int32) (before : Nat → Int32) (p0 : Int32) (p1 : Int32) (o : Int32) (hF : fX5_countIn now roomAt p0 p1 = some o) : zMI l yX5_countIn wsX5_countIn rmX5_countIn G k (zM ad k thrown now saved hist kept reason detail isSaved comes queue far isInText ahead roomAt rooms text length at_ errorPosition toldFrom toldTo isWrong before) sz [.ref (ad 0), .int p0, .int p1] o (zM ad k thrown now saved hist kept reason detail isSaved comes queue far isInText ahead roomAt rooms text length at_ errorPosition toldFrom toldTo isWrong before) := by
  refine zof_I (cc := cX5_countIn) (nL := 5) (own := RX5) (rt := .int) (by decide) rfl rfl (Nat.le_of_ble_eq_true rfl) ?_
  intro p e s m args below meth c A Q C0 hK hA hret ls hl hw
  have hl : lv_has ls 5 [(0, .ref (ad 0)), (1, .int p0), (2, .int p1)] := hl
  obtain ⟨hx, hb, hr, hml, hown, hts, hlocks⟩ := id C0
  obtain ⟨H, hH⟩ : ∃ z, z = s.heap := ⟨_, rfl⟩
  rw [← hH] at hw ⊢
  unfold fX5_countIn at hF
  refine lv_iconst (v := (0 : Int32)) hx hb dX5_countIn_0 (by decide) ?_
  refine lv_istore_n (lv' := [(3, .int (0 : Int32)), (0, .ref (ad 0)), (1, .int p0), (2, .int p1)]) hx hb dX5_countIn_1 rfl hl (by decide) rfl (fun ls hl => ?_)
  refine lv_iconst (v := (0 : Int32)) hx hb dX5_countIn_2 (by decide) ?_
  refine lv_istore (lv' := [(4, .int (0 : Int32)), (3, .int (0 : Int32)), (0, .ref (ad 0)), (1, .int p0), (2, .int p1)]) hx hb dX5_countIn_3 hl (by decide) rfl (fun ls hl => ?_)
  exact wX5_countIn_5 C0 hK hA hret  zFu _ _ _ _ hF _ _ _ hw (lv_sub hl [2, 3, 4, 1, 0] rfl)

/-! SealedBoardModel.spread(II)V -/
abbrev rmX5_spread : Room := { frames := 2, cells := 0, slots := 0, locals := 45 }
theorem kdX5_spread : yX5_spread.cls = RX5 ∧ yX5_spread.cls ≠ "java/lang/invoke/MethodHandle" ∧ yX5_spread.cls ≠ "java/lang/invoke/VarHandle" ∧ (parseMethodDescriptor yX5_spread.desc).map (fun d => d.parameters.length) = some 2 := by decide +kernel
theorem inX5_spread_X5 : ∀ w ∈ u_ws RX5 TX5 23, w ∈ wsX5_spread := by decide +kernel
def fX5_spread_98 (k31 : (Nat → Int32) → (Nat → Int32) → Int32 → Int32 → Int32 → Int32 → Option ((Nat → Int32) × (Nat → Int32))) (now : Nat → Int32) (rooms : Int32) (queue : Nat → Int32) (roomAt : Nat → Int32) (x1 : Int32) (x3 : Int32) (x4 : Int32) (x5 : Int32) : Option ((Nat → Int32) × (Nat → Int32)) := (zbn (x5 + (1 : Int32)) (fun a1 => (k31 queue roomAt x1 x3 x4 a1)))
def fX5_spread_31 (k22 : (Nat → Int32) → (Nat → Int32) → Int32 → Int32 → Int32 → Option ((Nat → Int32) × (Nat → Int32))) (now : Nat → Int32) (rooms : Int32) : Nat → (Nat → Int32) → (Nat → Int32) → Int32 → Int32 → Int32 → Int32 → Option ((Nat → Int32) × (Nat → Int32))
  | 0, _, _, _, _, _, _ => none
  | n + 1, queue, roomAt, x1, x3, x4, x5 => (if (4 : Int32) ≤ x5 then (zbn (x4 + (1 : Int32)) (fun a1 => (k22 queue roomAt x1 x3 a1))) else (zck (zin x4 36) (zbd (fX5_next (queue x4.toNatClampNeg) x5) (fun u3 => (if u3 < 0 then (fX5_spread_98 (fun b0 b1 b2 b3 b4 b5 => fX5_spread_31 k22 now rooms n b0 b1 b2 b3 b4 b5) now rooms  queue roomAt x1 x3 x4 x5) else (zbd (fX5_isOpen now x1 u3) (fun u5 => (if u5 = 0 then (fX5_spread_98 (fun b0 b1 b2 b3 b4 b5 => fX5_spread_31 k22 now rooms n b0 b1 b2 b3 b4 b5) now rooms  queue roomAt x1 x3 x4 x5) else (zck (zin u3 36) (if 0 ≤ (roomAt u3.toNatClampNeg) then (fX5_spread_98 (fun b0 b1 b2 b3 b4 b5 => fX5_spread_31 k22 now rooms n b0 b1 b2 b3 b4 b5) now rooms  queue roomAt x1 x3 x4 x5) else (zck (zin u3 36) (zck (zin x3 36) (zbn (x3 + (1 : Int32)) (fun a10 => (fX5_spread_98 (fun b0 b1 b2 b3 b4 b5 => fX5_spread_31 k22 now rooms n b0 b1 b2 b3 b4 b5) now rooms  (upd queue x3.toNatClampNeg u3) (upd roomAt u3.toNatClampNeg rooms) x1 a10 x4 x5)))))))))))))))
def fX5_spread_22  (now : Nat → Int32) (rooms : Int32) : Nat → (Nat → Int32) → (Nat → Int32) → Int32 → Int32 → Int32 → Option ((Nat → Int32) × (Nat → Int32))
  | 0, _, _, _, _, _ => none
  | n + 1, queue, roomAt, x1, x3, x4 => (if x3 ≤ x4 then (some (queue, roomAt)) else (fX5_spread_31 (fun b0 b1 b2 b3 b4 => fX5_spread_22  now rooms n b0 b1 b2 b3 b4) now rooms zFu queue roomAt x1 x3 x4 (0 : Int32)))
def fX5_spread (now : Nat → Int32) (queue : Nat → Int32) (roomAt : Nat → Int32) (rooms : Int32) (p0 : Int32) (p1 : Int32) : Option ((Nat → Int32) × (Nat → Int32)) := (zck (zin p1 36) (zck (zin (0 : Int32) 36) (fX5_spread_22  now rooms zFu (upd queue (0 : Int32).toNatClampNeg p1) (upd roomAt p1.toNatClampNeg rooms) p0 (1 : Int32) (0 : Int32))))
set_option maxHeartbeats 400000 in
set_option maxRecDepth 100000 in
theorem wX5_spread_98 {p : Program} {l : Launch} {e : Env} {s : State} {m : MethodId} {args : Array Value} {below : List Frame} {meth : Method} {c : Code} {A : Nat → Prop} {Q : State → Prop} {G : va_G} {k : Nat → ClassId} {ad : Nat → Nat} {thrown : Int32} {now : Nat → Int32} {saved : Nat → Int32} {hist : Nat → Nat → Int32} {kept : Int32} {reason : Int32} {detail : Int32} {isSaved : Int32} {comes : Nat → Int32} {far : Nat → Int32} {isInText : Int32} {ahead : Nat → Int32} {rooms : Int32} {text : Nat → Int32} {length : Int32} {at_ : Int32} {errorPosition : Int32} {toldFrom : Int32} {toldTo : Int32} {isWrong : Int32} {before : Nat → Int32} {o : (Nat → Int32) × (Nat → Int32)} (C0 : zCx p s m args meth c wsX5_spread cX5_spread RX5 none 7) (hK : zKK G k A s s.heap) (hA : ∀ q : Nat, s.heap.size ≤ q → A q) (hret : zRV p l e rmX5_spread s m args below meth c cX5_spread G A 0 0 Q (zM ad k thrown now saved hist kept reason detail isSaved comes o.1 far isInText ahead o.2 rooms text length at_ errorPosition toldFrom toldTo isWrong before)) (k31 : (Nat → Int32) → (Nat → Int32) → Int32 → Int32 → Int32 → Int32 → Option ((Nat → Int32) × (Nat → Int32))) (hk31 : ∀ (queue : Nat → Int32) (roomAt : Nat → Int32) (x1 : Int32) (x3 : Int32) (x4 : Int32) (x5 : Int32), k31 queue roomAt x1 x3 x4 x5 = some o → ∀ (H : Heap) (locs : List Loc) (ls : Array Slot), zWd G A s (zM ad k thrown now saved hist kept reason detail isSaved comes queue far isInText ahead roomAt rooms text length at_ errorPosition toldFrom toldTo isWrong before) H locs → lv_has ls 7 [(0, .ref (ad 0)), (1, .int x1), (3, .int x3), (4, .int x4), (5, .int x5)] → W p l e rmX5_spread s m args below meth c H locs 0 0 Q (F0 m 31 ls [])) : ∀ (queue : Nat → Int32) (roomAt : Nat → Int32) (x1 : Int32) (x3 : Int32) (x4 : Int32) (x5 : Int32), fX5_spread_98 k31 now rooms queue roomAt x1 x3 x4 x5 = some o → ∀ (H : Heap) (locs : List Loc) (ls : Array Slot), zWd G A s (zM ad k thrown now saved hist kept reason detail isSaved comes queue far isInText ahead roomAt rooms text length at_ errorPosition toldFrom toldTo isWrong before) H locs → lv_has ls 7 [(0, .ref (ad 0)), (1, .int x1), (3, .int x3), (4, .int x4), (5, .int x5)] → W p l e rmX5_spread s m args below meth c H locs 0 0 Q (F0 m 98 ls []) := by
  obtain ⟨hx, hb, hr, hml, hown, hts, hlocks⟩ := id C0
  intro queue roomAt x1 x3 x4 x5 hF H locs ls hw hl
  unfold fX5_spread_98 at hF
  obtain ⟨a1, ea1⟩ : ∃ z : Int32, z = x5 + (1 : Int32) := ⟨_, rfl⟩
  have hF := zbn_t ea1 hF
  refine lv_iinc (v := a1) (lv' := [(5, .int a1), (0, .ref (ad 0)), (1, .int x1), (3, .int x3), (4, .int x4)]) hx hb dX5_spread_98 hl (k := 4) rfl (by rw [ea1]; rfl) (by decide) rfl (fun ls hl => ?_)
  refine lv_goto (tgt := 31) hx hb dX5_spread_101 (by decide) ?_
  exact hk31 _ _ _ _ _ _ hF _ _ _ hw (lv_sub hl [1, 2, 3, 4, 0] rfl)
set_option maxHeartbeats 400000 in
set_option maxRecDepth 100000 in
theorem wX5_spread_31 {p : Program} {l : Launch} {e : Env} {s : State} {m : MethodId} {args : Array Value} {below : List Frame} {meth : Method} {c : Code} {A : Nat → Prop} {Q : State → Prop} {G : va_G} {k : Nat → ClassId} {ad : Nat → Nat} {thrown : Int32} {now : Nat → Int32} {saved : Nat → Int32} {hist : Nat → Nat → Int32} {kept : Int32} {reason : Int32} {detail : Int32} {isSaved : Int32} {comes : Nat → Int32} {far : Nat → Int32} {isInText : Int32} {ahead : Nat → Int32} {rooms : Int32} {text : Nat → Int32} {length : Int32} {at_ : Int32} {errorPosition : Int32} {toldFrom : Int32} {toldTo : Int32} {isWrong : Int32} {before : Nat → Int32} {o : (Nat → Int32) × (Nat → Int32)} (C0 : zCx p s m args meth c wsX5_spread cX5_spread RX5 none 7) (hK : zKK G k A s s.heap) (hA : ∀ q : Nat, s.heap.size ≤ q → A q) (hret : zRV p l e rmX5_spread s m args below meth c cX5_spread G A 0 0 Q (zM ad k thrown now saved hist kept reason detail isSaved comes o.1 far isInText ahead o.2 rooms text length at_ errorPosition toldFrom toldTo isWrong before)) (k22 : (Nat → Int32) → (Nat → Int32) → Int32 → Int32 → Int32 → Option ((Nat → Int32) × (Nat → Int32))) (hk22 : ∀ (queue : Nat → Int32) (roomAt : Nat → Int32) (x1 : Int32) (x3 : Int32) (x4 : Int32), k22 queue roomAt x1 x3 x4 = some o → ∀ (H : Heap) (locs : List Loc) (ls : Array Slot), zWd G A s (zM ad k thrown now saved hist kept reason detail isSaved comes queue far isInText ahead roomAt rooms text length at_ errorPosition toldFrom toldTo isWrong before) H locs → lv_has ls 7 [(0, .ref (ad 0)), (1, .int x1), (3, .int x3), (4, .int x4)] → W p l e rmX5_spread s m args below meth c H locs 0 0 Q (F0 m 22 ls [])) : ∀ (n : Nat) (queue : Nat → Int32) (roomAt : Nat → Int32) (x1 : Int32) (x3 : Int32) (x4 : Int32) (x5 : Int32), fX5_spread_31 k22 now rooms n queue roomAt x1 x3 x4 x5 = some o → ∀ (H : Heap) (locs : List Loc) (ls : Array Slot), zWd G A s (zM ad k thrown now saved hist kept reason detail isSaved comes queue far isInText ahead roomAt rooms text length at_ errorPosition toldFrom toldTo isWrong before) H locs → lv_has ls 7 [(0, .ref (ad 0)), (1, .int x1), (3, .int x3), (4, .int x4), (5, .int x5)] → W p l e rmX5_spread s m args below meth c H locs 0 0 Q (F0 m 31 ls []) := by
  obtain ⟨hx, hb, hr, hml, hown, hts, hlocks⟩ := id C0
  intro n
  induction n with
  | zero => intro queue roomAt x1 x3 x4 x5 hF; exact nomatch hF
  | succ n ih =>
    intro queue roomAt x1 x3 x4 x5 hF H locs ls hw hl
    rw [fX5_spread_31] at hF
    refine lv_iload hx hb dX5_spread_31 (lv_at hl 4 rfl) ?_
    refine lv_iconst (v := (4 : Int32)) hx hb dX5_spread_33 (by decide) ?_
    refine lv_icmp_ge (tgt := 104) hx hb dX5_spread_34 (by decide) (fun hc => ?_) (fun hc => ?_)
    · have hF := zif_t hc hF
      obtain ⟨a1, ea1⟩ : ∃ z : Int32, z = x4 + (1 : Int32) := ⟨_, rfl⟩
      have hF := zbn_t ea1 hF
      refine lv_iinc (v := a1) (lv' := [(4, .int a1), (0, .ref (ad 0)), (1, .int x1), (3, .int x3), (5, .int x5)]) hx hb dX5_spread_104 hl (k := 3) rfl (by rw [ea1]; rfl) (by decide) rfl (fun ls hl => ?_)
      refine lv_goto (tgt := 22) hx hb dX5_spread_107 (by decide) ?_
      exact hk22 _ _ _ _ _ hF _ _ _ hw (lv_sub hl [1, 2, 3, 0] rfl)
    · have hF := zif_f hc hF
      refine lv_aload_n hx hb dX5_spread_37 rfl (lv_at hl 0 rfl) ?_
      refine va_get (D := G) (ci := 4) (v := .ref (ad 5)) (C := RX5) (T := TX5) (N := 23) hx hb hts inX5_spread_X5 hown hK.1 hw.1 0 rfl rfl 9 (by decide) (hts (.fieldLink RX5 25 "SealedBoardModel" "queue" "[I") (by decide +kernel)) (fun _ h9 => h9) rfl dX5_spread_38 ?_
      refine lv_iload hx hb dX5_spread_41 (lv_at hl 3 rfl) ?_
      obtain ⟨hi2, hF⟩ := zck_in hF
      refine va_iald hx hb hK.1 hw.1 5 2 rfl rfl hi2 dX5_spread_43 ?_
      refine lv_iload hx hb dX5_spread_44 (lv_at hl 4 rfl) ?_
      obtain ⟨u3, hq4, hF⟩ := zbd_t hF
      refine zgoI (w' := (zM ad k thrown now saved hist kept reason detail isSaved comes queue far isInText ahead roomAt rooms text length at_ errorPosition toldFrom toldTo isWrong before)) hw hA [] rfl (zS (As := [.int (queue x4.toNatClampNeg), .int x5]) (rest := []) ⟨hx, hb, hml, hown, hts⟩ (mX5_next l G k  H.size  (queue x4.toNatClampNeg) x5 u3 hq4) (va_cwS 2 hts gX5_spread_X5_next rfl rfl rfl kdX5_next ⟨Nat.le_of_ble_eq_true rfl, Nat.le_of_ble_eq_true rfl⟩) hK hA hw [] rfl (by decide) rfl hl.1 rfl (Nat.le_of_ble_eq_true rfl) dX5_spread_46 ⟨Nat.le_of_ble_eq_true rfl, Nat.le_of_ble_eq_true rfl⟩) rfl rfl rfl (fun H locs hw => ?_)
      refine lv_istore (lv' := [(6, .int u3), (0, .ref (ad 0)), (1, .int x1), (3, .int x3), (4, .int x4), (5, .int x5)]) hx hb dX5_spread_49 hl (by decide) rfl (fun ls hl => ?_)
      refine lv_iload hx hb dX5_spread_51 (lv_at hl 0 rfl) ?_
      refine lv_if_lt (tgt := 98) hx hb dX5_spread_53 (by decide) (fun hc => ?_) (fun hc => ?_)
      · have hF := zif_t hc hF
        exact wX5_spread_98 C0 hK hA hret (fun b0 b1 b2 b3 b4 b5 => fX5_spread_31 k22 now rooms n b0 b1 b2 b3 b4 b5) ih  _ _ _ _ _ _ hF _ _ _ hw (lv_sub hl [1, 2, 3, 4, 5] rfl)
      · have hF := zif_f hc hF
        refine lv_aload_n hx hb dX5_spread_56 rfl (lv_at hl 1 rfl) ?_
        refine lv_iload_n hx hb dX5_spread_57 rfl (lv_at hl 2 rfl) ?_
        refine lv_iload hx hb dX5_spread_58 (lv_at hl 0 rfl) ?_
        obtain ⟨u5, hq6, hF⟩ := zbd_t hF
        refine zgoIw (w' := (zM ad k thrown now saved hist kept reason detail isSaved comes queue far isInText ahead roomAt rooms text length at_ errorPosition toldFrom toldTo isWrong before)) hw hA (zVw (As := [.int x1, .int u3]) (rest := []) ⟨hx, hb, hml, hown, hts⟩ (mX5_isOpen l G k ad H.size thrown now saved hist kept reason detail isSaved comes queue far isInText ahead roomAt rooms text length at_ errorPosition toldFrom toldTo isWrong before x1 u3 u5 hq6) (cwV 2 hts gX5_spread_X5_isOpen rfl rfl rfl kdX5_isOpen ⟨Nat.le_of_ble_eq_true rfl, Nat.le_of_ble_eq_true rfl⟩) hK hA hw 0 rfl rfl rfl rfl hl.1 rfl (Nat.le_of_ble_eq_true rfl) dX5_spread_60 ⟨Nat.le_of_ble_eq_true rfl, Nat.le_of_ble_eq_true rfl⟩) (fun H locs hw => ?_)
        refine lv_if_eq (tgt := 98) hx hb dX5_spread_63 (by decide) (fun hc => ?_) (fun hc => ?_)
        · have hF := zif_t hc hF
          exact wX5_spread_98 C0 hK hA hret (fun b0 b1 b2 b3 b4 b5 => fX5_spread_31 k22 now rooms n b0 b1 b2 b3 b4 b5) ih  _ _ _ _ _ _ hF _ _ _ hw (lv_sub hl [1, 2, 3, 4, 5] rfl)
        · have hF := zif_f hc hF
          refine lv_aload_n hx hb dX5_spread_66 rfl (lv_at hl 1 rfl) ?_
          refine va_get (D := G) (ci := 4) (v := .ref (ad 8)) (C := RX5) (T := TX5) (N := 23) hx hb hts inX5_spread_X5 hown hK.1 hw.1 0 rfl rfl 13 (by decide) (hts (.fieldLink RX5 34 "SealedBoardModel" "roomAt" "[I") (by decide +kernel)) (fun _ h9 => h9) rfl dX5_spread_67 ?_
          refine lv_iload hx hb dX5_spread_70 (lv_at hl 0 rfl) ?_
          obtain ⟨hi7, hF⟩ := zck_in hF
          refine va_iald hx hb hK.1 hw.1 8 2 rfl rfl hi7 dX5_spread_72 ?_
          refine lv_if_ge (tgt := 98) hx hb dX5_spread_73 (by decide) (fun hc => ?_) (fun hc => ?_)
          · have hF := zif_t hc hF
            exact wX5_spread_98 C0 hK hA hret (fun b0 b1 b2 b3 b4 b5 => fX5_spread_31 k22 now rooms n b0 b1 b2 b3 b4 b5) ih  _ _ _ _ _ _ hF _ _ _ hw (lv_sub hl [1, 2, 3, 4, 5] rfl)
          · have hF := zif_f hc hF
            refine lv_aload_n hx hb dX5_spread_76 rfl (lv_at hl 1 rfl) ?_
            refine va_get (D := G) (ci := 4) (v := .ref (ad 8)) (C := RX5) (T := TX5) (N := 23) hx hb hts inX5_spread_X5 hown hK.1 hw.1 0 rfl rfl 13 (by decide) (hts (.fieldLink RX5 34 "SealedBoardModel" "roomAt" "[I") (by decide +kernel)) (fun _ h9 => h9) rfl dX5_spread_77 ?_
            refine lv_iload hx hb dX5_spread_80 (lv_at hl 0 rfl) ?_
            refine lv_aload_n hx hb dX5_spread_82 rfl (lv_at hl 1 rfl) ?_
            refine va_get (D := G) (ci := 4) (v := .int rooms) (C := RX5) (T := TX5) (N := 23) hx hb hts inX5_spread_X5 hown hK.1 hw.1 0 rfl rfl 14 (by decide) (hts (.fieldLink RX5 207 "SealedBoardModel" "rooms" "I") (by decide +kernel)) (fun _ h9 => h9) rfl dX5_spread_83 ?_
            obtain ⟨hi8, hF⟩ := zck_in hF
            refine va_iast hx hb hK.1 hw.1 hw.2.1 hw.2.2 8 2 rfl rfl hi8 dX5_spread_86 (fun H locs hP hD hS => ?_)
            have hw : zWd G A s (zM ad k thrown now saved hist kept reason detail isSaved comes queue far isInText ahead (upd roomAt u3.toNatClampNeg rooms) rooms text length at_ errorPosition toldFrom toldTo isWrong before) H locs := ⟨hP, hD, hS⟩
            refine lv_aload_n hx hb dX5_spread_87 rfl (lv_at hl 1 rfl) ?_
            refine va_get (D := G) (ci := 4) (v := .ref (ad 5)) (C := RX5) (T := TX5) (N := 23) hx hb hts inX5_spread_X5 hown hK.1 hw.1 0 rfl rfl 9 (by decide) (hts (.fieldLink RX5 25 "SealedBoardModel" "queue" "[I") (by decide +kernel)) (fun _ h9 => h9) rfl dX5_spread_88 ?_
            refine lv_iload_n hx hb dX5_spread_91 rfl (lv_at hl 3 rfl) ?_
            refine lv_iload hx hb dX5_spread_92 (lv_at hl 0 rfl) ?_
            obtain ⟨hi9, hF⟩ := zck_in hF
            refine va_iast hx hb hK.1 hw.1 hw.2.1 hw.2.2 5 2 rfl rfl hi9 dX5_spread_94 (fun H locs hP hD hS => ?_)
            have hw : zWd G A s (zM ad k thrown now saved hist kept reason detail isSaved comes (upd queue x3.toNatClampNeg u3) far isInText ahead (upd roomAt u3.toNatClampNeg rooms) rooms text length at_ errorPosition toldFrom toldTo isWrong before) H locs := ⟨hP, hD, hS⟩
            obtain ⟨a10, ea10⟩ : ∃ z : Int32, z = x3 + (1 : Int32) := ⟨_, rfl⟩
            have hF := zbn_t ea10 hF
            refine lv_iinc (v := a10) (lv' := [(3, .int a10), (6, .int u3), (0, .ref (ad 0)), (1, .int x1), (4, .int x4), (5, .int x5)]) hx hb dX5_spread_95 hl (k := 3) rfl (by rw [ea10]; rfl) (by decide) rfl (fun ls hl => ?_)
            exact wX5_spread_98 C0 hK hA hret (fun b0 b1 b2 b3 b4 b5 => fX5_spread_31 k22 now rooms n b0 b1 b2 b3 b4 b5) ih  _ _ _ _ _ _ hF _ _ _ hw (lv_sub hl [2, 3, 0, 4, 5] rfl)
set_option maxHeartbeats 400000 in
set_option maxRecDepth 100000 in
theorem wX5_spread_22 {p : Program} {l : Launch} {e : Env} {s : State} {m : MethodId} {args : Array Value} {below : List Frame} {meth : Method} {c : Code} {A : Nat → Prop} {Q : State → Prop} {G : va_G} {k : Nat → ClassId} {ad : Nat → Nat} {thrown : Int32} {now : Nat → Int32} {saved : Nat → Int32} {hist : Nat → Nat → Int32} {kept : Int32} {reason : Int32} {detail : Int32} {isSaved : Int32} {comes : Nat → Int32} {far : Nat → Int32} {isInText : Int32} {ahead : Nat → Int32} {rooms : Int32} {text : Nat → Int32} {length : Int32} {at_ : Int32} {errorPosition : Int32} {toldFrom : Int32} {toldTo : Int32} {isWrong : Int32} {before : Nat → Int32} {o : (Nat → Int32) × (Nat → Int32)} (C0 : zCx p s m args meth c wsX5_spread cX5_spread RX5 none 7) (hK : zKK G k A s s.heap) (hA : ∀ q : Nat, s.heap.size ≤ q → A q) (hret : zRV p l e rmX5_spread s m args below meth c cX5_spread G A 0 0 Q (zM ad k thrown now saved hist kept reason detail isSaved comes o.1 far isInText ahead o.2 rooms text length at_ errorPosition toldFrom toldTo isWrong before))  : ∀ (n : Nat) (queue : Nat → Int32) (roomAt : Nat → Int32) (x1 : Int32) (x3 : Int32) (x4 : Int32), fX5_spread_22  now rooms n queue roomAt x1 x3 x4 = some o → ∀ (H : Heap) (locs : List Loc) (ls : Array Slot), zWd G A s (zM ad k thrown now saved hist kept reason detail isSaved comes queue far isInText ahead roomAt rooms text length at_ errorPosition toldFrom toldTo isWrong before) H locs → lv_has ls 7 [(0, .ref (ad 0)), (1, .int x1), (3, .int x3), (4, .int x4)] → W p l e rmX5_spread s m args below meth c H locs 0 0 Q (F0 m 22 ls []) := by
  obtain ⟨hx, hb, hr, hml, hown, hts, hlocks⟩ := id C0
  intro n
  induction n with
  | zero => intro queue roomAt x1 x3 x4 hF; exact nomatch hF
  | succ n ih =>
    intro queue roomAt x1 x3 x4 hF H locs ls hw hl
    rw [fX5_spread_22] at hF
    refine lv_iload hx hb dX5_spread_22 (lv_at hl 3 rfl) ?_
    refine lv_iload_n hx hb dX5_spread_24 rfl (lv_at hl 2 rfl) ?_
    refine lv_icmp_ge (tgt := 110) hx hb dX5_spread_25 (by decide) (fun hc => ?_) (fun hc => ?_)
    · have hF := zif_t hc hF
      obtain rfl := Option.some.inj hF
      exact hret _ _ _ _  hw dX5_spread_110
    · have hF := zif_f hc hF
      refine lv_iconst (v := (0 : Int32)) hx hb dX5_spread_28 (by decide) ?_
      refine lv_istore (lv' := [(5, .int (0 : Int32)), (0, .ref (ad 0)), (1, .int x1), (3, .int x3), (4, .int x4)]) hx hb dX5_spread_29 hl (by decide) rfl (fun ls hl => ?_)
      exact wX5_spread_31 C0 hK hA hret (fun b0 b1 b2 b3 b4 => fX5_spread_22  now rooms n b0 b1 b2 b3 b4) ih zFu _ _ _ _ _ _ hF _ _ _ hw (lv_sub hl [1, 2, 3, 4, 0] rfl)
set_option maxHeartbeats 400000 in
set_option maxRecDepth 100000 in
theorem mX5_spread (l : Launch) (G : va_G) (k : Nat → ClassId) (ad : Nat → Nat) (sz : Nat) (thrown : Int32) (now : Nat → Int32) (saved : Nat → Int32) (hist : Nat → Nat → Int32) (kept : Int32) (reason : Int32) (detail : Int32) (isSaved : Int32) (comes : Nat → Int32) (queue : Nat → Int32) (far : Nat → Int32) (isInText : Int32) (ahead : Nat → Int32) (roomAt : Nat → Int32) (rooms : Int32) (text : Nat → Int32) (length : Int32) (at_ : Int32) (errorPosition : Int32) (toldFrom : Int32) (toldTo : Int32) (isWrong : Int32) (before : Nat → Int32) (p0 : Int32) (p1 : Int32) (o : (Nat → Int32) × (Nat → Int32)) (hF : fX5_spread now queue roomAt rooms p0 p1 = some o) : zMV l yX5_spread wsX5_spread rmX5_spread G k (zM ad k thrown now saved hist kept reason detail isSaved comes queue far isInText ahead roomAt rooms text length at_ errorPosition toldFrom toldTo isWrong before) sz [.ref (ad 0), .int p0, .int p1] (zM ad k thrown now saved hist kept reason detail isSaved comes o.1 far isInText ahead o.2 rooms text length at_ errorPosition toldFrom toldTo isWrong before) := by
  refine zof_V (cc := cX5_spread) (nL := 7) (own := RX5) (by decide) rfl rfl (Nat.le_of_ble_eq_true rfl) ?_
  intro p e s m args below meth c A Q C0 hK hA hret ls hl hw
  have hl : lv_has ls 7 [(0, .ref (ad 0)), (1, .int p0), (2, .int p1)] := hl
  obtain ⟨hx, hb, hr, hml, hown, hts, hlocks⟩ := id C0
  obtain ⟨H, hH⟩ : ∃ z, z = s.heap := ⟨_, rfl⟩
  rw [← hH] at hw ⊢
  unfold fX5_spread at hF
  refine lv_aload_n hx hb dX5_spread_0 rfl (lv_at hl 0 rfl) ?_
  refine va_get (D := G) (ci := 4) (v := .ref (ad 8)) (C := RX5) (T := TX5) (N := 23) hx hb hts inX5_spread_X5 hown hK.1 hw.1 0 rfl rfl 13 (by decide) (hts (.fieldLink RX5 34 "SealedBoardModel" "roomAt" "[I") (by decide +kernel)) (fun _ h9 => h9) rfl dX5_spread_1 ?_
  refine lv_iload_n hx hb dX5_spread_4 rfl (lv_at hl 2 rfl) ?_
  refine lv_aload_n hx hb dX5_spread_5 rfl (lv_at hl 0 rfl) ?_
  refine va_get (D := G) (ci := 4) (v := .int rooms) (C := RX5) (T := TX5) (N := 23) hx hb hts inX5_spread_X5 hown hK.1 hw.1 0 rfl rfl 14 (by decide) (hts (.fieldLink RX5 207 "SealedBoardModel" "rooms" "I") (by decide +kernel)) (fun _ h9 => h9) rfl dX5_spread_6 ?_
  obtain ⟨hi1, hF⟩ := zck_in hF
  refine va_iast hx hb hK.1 hw.1 hw.2.1 hw.2.2 8 2 rfl rfl hi1 dX5_spread_9 (fun H locs hP hD hS => ?_)
  have hw : zWd G A s (zM ad k thrown now saved hist kept reason detail isSaved comes queue far isInText ahead (upd roomAt p1.toNatClampNeg rooms) rooms text length at_ errorPosition toldFrom toldTo isWrong before) H locs := ⟨hP, hD, hS⟩
  refine lv_aload_n hx hb dX5_spread_10 rfl (lv_at hl 0 rfl) ?_
  refine va_get (D := G) (ci := 4) (v := .ref (ad 5)) (C := RX5) (T := TX5) (N := 23) hx hb hts inX5_spread_X5 hown hK.1 hw.1 0 rfl rfl 9 (by decide) (hts (.fieldLink RX5 25 "SealedBoardModel" "queue" "[I") (by decide +kernel)) (fun _ h9 => h9) rfl dX5_spread_11 ?_
  refine lv_iconst (v := (0 : Int32)) hx hb dX5_spread_14 (by decide) ?_
  refine lv_iload_n hx hb dX5_spread_15 rfl (lv_at hl 2 rfl) ?_
  obtain ⟨hi2, hF⟩ := zck_in hF
  refine va_iast hx hb hK.1 hw.1 hw.2.1 hw.2.2 5 2 rfl rfl hi2 dX5_spread_16 (fun H locs hP hD hS => ?_)
  have hw : zWd G A s (zM ad k thrown now saved hist kept reason detail isSaved comes (upd queue (0 : Int32).toNatClampNeg p1) far isInText ahead (upd roomAt p1.toNatClampNeg rooms) rooms text length at_ errorPosition toldFrom toldTo isWrong before) H locs := ⟨hP, hD, hS⟩
  refine lv_iconst (v := (1 : Int32)) hx hb dX5_spread_17 (by decide) ?_
  refine lv_istore_n (lv' := [(3, .int (1 : Int32)), (0, .ref (ad 0)), (1, .int p0), (2, .int p1)]) hx hb dX5_spread_18 rfl hl (by decide) rfl (fun ls hl => ?_)
  refine lv_iconst (v := (0 : Int32)) hx hb dX5_spread_19 (by decide) ?_
  refine lv_istore (lv' := [(4, .int (0 : Int32)), (3, .int (1 : Int32)), (0, .ref (ad 0)), (1, .int p0), (2, .int p1)]) hx hb dX5_spread_20 hl (by decide) rfl (fun ls hl => ?_)
  exact wX5_spread_22 C0 hK hA hret  zFu _ _ _ _ _ hF _ _ _ hw (lv_sub hl [2, 3, 1, 0] rfl)

/-! SealedBoardModel.findRooms(I)V -/
abbrev rmX5_findRooms : Room := { frames := 3, cells := 0, slots := 0, locals := 71 }
theorem kdX5_findRooms : yX5_findRooms.cls = RX5 ∧ yX5_findRooms.cls ≠ "java/lang/invoke/MethodHandle" ∧ yX5_findRooms.cls ≠ "java/lang/invoke/VarHandle" ∧ (parseMethodDescriptor yX5_findRooms.desc).map (fun d => d.parameters.length) = some 1 := by decide +kernel
theorem inX5_findRooms_X5 : ∀ w ∈ u_ws RX5 TX5 23, w ∈ wsX5_findRooms := by decide +kernel
def fX5_findRooms_68 (k28 : (Nat → Int32) → (Nat → Int32) → Int32 → Int32 → Int32 → Option ((Nat → Int32) × (Nat → Int32) × Int32)) (now : Nat → Int32) (queue : Nat → Int32) (roomAt : Nat → Int32) (rooms : Int32) (x1 : Int32) (x2 : Int32) : Option ((Nat → Int32) × (Nat → Int32) × Int32) := (zbn (x2 + (1 : Int32)) (fun a1 => (k28 queue roomAt rooms x1 a1)))
def fX5_findRooms_28  (now : Nat → Int32) : Nat → (Nat → Int32) → (Nat → Int32) → Int32 → Int32 → Int32 → Option ((Nat → Int32) × (Nat → Int32) × Int32)
  | 0, _, _, _, _, _ => none
  | n + 1, queue, roomAt, rooms, x1, x2 => (if (36 : Int32) ≤ x2 then (some (queue, roomAt, rooms)) else (zbd (fX5_isOpen now x1 x2) (fun u1 => (if u1 = 0 then (fX5_findRooms_68 (fun b0 b1 b2 b3 b4 => fX5_findRooms_28  now n b0 b1 b2 b3 b4) now  queue roomAt rooms x1 x2) else (zck (zin x2 36) (if 0 ≤ (roomAt x2.toNatClampNeg) then (fX5_findRooms_68 (fun b0 b1 b2 b3 b4 => fX5_findRooms_28  now n b0 b1 b2 b3 b4) now  queue roomAt rooms x1 x2) else (zbd (fX5_spread now queue roomAt rooms x1 x2) (fun u4 => (fX5_findRooms_68 (fun b0 b1 b2 b3 b4 => fX5_findRooms_28  now n b0 b1 b2 b3 b4) now  u4.1 u4.2 (rooms + (1 : Int32)) x1 x2)))))))))
def fX5_findRooms_7  (now : Nat → Int32) : Nat → (Nat → Int32) → (Nat → Int32) → Int32 → Int32 → Int32 → Option ((Nat → Int32) × (Nat → Int32) × Int32)
  | 0, _, _, _, _, _ => none
  | n + 1, queue, roomAt, rooms, x1, x2 => (if (36 : Int32) ≤ x2 then (fX5_findRooms_28  now zFu queue roomAt rooms x1 (0 : Int32)) else (zck (zin x2 36) (zbn (x2 + (1 : Int32)) (fun a2 => (fX5_findRooms_7  now n queue (upd roomAt x2.toNatClampNeg (-1 : Int32)) rooms x1 a2)))))
def fX5_findRooms (now : Nat → Int32) (queue : Nat → Int32) (roomAt : Nat → Int32) (rooms : Int32) (p0 : Int32) : Option ((Nat → Int32) × (Nat → Int32) × Int32) := (fX5_findRooms_7  now zFu queue roomAt (0 : Int32) p0 (0 : Int32))
set_option maxHeartbeats 400000 in
set_option maxRecDepth 100000 in
theorem wX5_findRooms_68 {p : Program} {l : Launch} {e : Env} {s : State} {m : MethodId} {args : Array Value} {below : List Frame} {meth : Method} {c : Code} {A : Nat → Prop} {Q : State → Prop} {G : va_G} {k : Nat → ClassId} {ad : Nat → Nat} {thrown : Int32} {now : Nat → Int32} {saved : Nat → Int32} {hist : Nat → Nat → Int32} {kept : Int32} {reason : Int32} {detail : Int32} {isSaved : Int32} {comes : Nat → Int32} {far : Nat → Int32} {isInText : Int32} {ahead : Nat → Int32} {text : Nat → Int32} {length : Int32} {at_ : Int32} {errorPosition : Int32} {toldFrom : Int32} {toldTo : Int32} {isWrong : Int32} {before : Nat → Int32} {o : (Nat → Int32) × (Nat → Int32) × Int32} (C0 : zCx p s m args meth c wsX5_findRooms cX5_findRooms RX5 none 3) (hK : zKK G k A s s.heap) (hA : ∀ q : Nat, s.heap.size ≤ q → A q) (hret : zRV p l e rmX5_findRooms s m args below meth c cX5_findRooms G A 0 0 Q (zM ad k thrown now saved hist kept reason detail isSaved comes o.1 far isInText ahead o.2.1 o.2.2 text length at_ errorPosition toldFrom toldTo isWrong before)) (k28 : (Nat → Int32) → (Nat → Int32) → Int32 → Int32 → Int32 → Option ((Nat → Int32) × (Nat → Int32) × Int32)) (hk28 : ∀ (queue : Nat → Int32) (roomAt : Nat → Int32) (rooms : Int32) (x1 : Int32) (x2 : Int32), k28 queue roomAt rooms x1 x2 = some o → ∀ (H : Heap) (locs : List Loc) (ls : Array Slot), zWd G A s (zM ad k thrown now saved hist kept reason detail isSaved comes queue far isInText ahead roomAt rooms text length at_ errorPosition toldFrom toldTo isWrong before) H locs → lv_has ls 3 [(0, .ref (ad 0)), (1, .int x1), (2, .int x2)] → W p l e rmX5_findRooms s m args below meth c H locs 0 0 Q (F0 m 28 ls [])) : ∀ (queue : Nat → Int32) (roomAt : Nat → Int32) (rooms : Int32) (x1 : Int32) (x2 : Int32), fX5_findRooms_68 k28 now queue roomAt rooms x1 x2 = some o → ∀ (H : Heap) (locs : List Loc) (ls : Array Slot), zWd G A s (zM ad k thrown now saved hist kept reason detail isSaved comes queue far isInText ahead roomAt rooms text length at_ errorPosition toldFrom toldTo isWrong before) H locs → lv_has ls 3 [(0, .ref (ad 0)), (1, .int x1), (2, .int x2)] → W p l e rmX5_findRooms s m args below meth c H locs 0 0 Q (F0 m 68 ls []) := by
  obtain ⟨hx, hb, hr, hml, hown, hts, hlocks⟩ := id C0
  intro queue roomAt rooms x1 x2 hF H locs ls hw hl
  unfold fX5_findRooms_68 at hF
  obtain ⟨a1, ea1⟩ : ∃ z : Int32, z = x2 + (1 : Int32) := ⟨_, rfl⟩
  have hF := zbn_t ea1 hF
  refine lv_iinc (v := a1) (lv' := [(2, .int a1), (0, .ref (ad 0)), (1, .int x1)]) hx hb dX5_findRooms_68 hl (k := 2) rfl (by rw [ea1]; rfl) (by decide) rfl (fun ls hl => ?_)
  refine lv_goto (tgt := 28) hx hb dX5_findRooms_71 (by decide) ?_
  exact hk28 _ _ _ _ _ hF _ _ _ hw (lv_sub hl [1, 2, 0] rfl)
set_option maxHeartbeats 400000 in
set_option maxRecDepth 100000 in
theorem wX5_findRooms_28 {p : Program} {l : Launch} {e : Env} {s : State} {m : MethodId} {args : Array Value} {below : List Frame} {meth : Method} {c : Code} {A : Nat → Prop} {Q : State → Prop} {G : va_G} {k : Nat → ClassId} {ad : Nat → Nat} {thrown : Int32} {now : Nat → Int32} {saved : Nat → Int32} {hist : Nat → Nat → Int32} {kept : Int32} {reason : Int32} {detail : Int32} {isSaved : Int32} {comes : Nat → Int32} {far : Nat → Int32} {isInText : Int32} {ahead : Nat → Int32} {text : Nat → Int32} {length : Int32} {at_ : Int32} {errorPosition : Int32} {toldFrom : Int32} {toldTo : Int32} {isWrong : Int32} {before : Nat → Int32} {o : (Nat → Int32) × (Nat → Int32) × Int32} (C0 : zCx p s m args meth c wsX5_findRooms cX5_findRooms RX5 none 3) (hK : zKK G k A s s.heap) (hA : ∀ q : Nat, s.heap.size ≤ q → A q) (hret : zRV p l e rmX5_findRooms s m args below meth c cX5_findRooms G A 0 0 Q (zM ad k thrown now saved hist kept reason detail isSaved comes o.1 far isInText ahead o.2.1 o.2.2 text length at_ errorPosition toldFrom toldTo isWrong before))  : ∀ (n : Nat) (queue : Nat → Int32) (roomAt : Nat → Int32) (rooms : Int32) (x1 : Int32) (x2 : Int32), fX5_findRooms_28  now n queue roomAt rooms x1 x2 = some o → ∀ (H : Heap) (locs : List Loc) (ls : Array Slot), zWd G A s (zM ad k thrown now saved hist kept reason detail isSaved comes queue far isInText ahead roomAt rooms text length at_ errorPosition toldFrom toldTo isWrong before) H locs → lv_has ls 3 [(0, .ref (ad 0)), (1, .int x1), (2, .int x2)] → W p l e rmX5_findRooms s m args below meth c H locs 0 0 Q (F0 m 28 ls []) := by
  obtain ⟨hx, hb, hr, hml, hown, hts, hlocks⟩ := id C0
  intro n
  induction n with
  | zero => intro queue roomAt rooms x1 x2 hF; exact nomatch hF
  | succ n ih =>
    intro queue roomAt rooms x1 x2 hF H locs ls hw hl
    rw [fX5_findRooms_28] at hF
    refine lv_iload_n hx hb dX5_findRooms_28 rfl (lv_at hl 2 rfl) ?_
    refine lv_bipush (v := (36 : Int32)) hx hb dX5_findRooms_29 (by decide) ?_
    refine lv_icmp_ge (tgt := 74) hx hb dX5_findRooms_31 (by decide) (fun hc => ?_) (fun hc => ?_)
    · have hF := zif_t hc hF
      obtain rfl := Option.some.inj hF
      exact hret _ _ _ _  hw dX5_findRooms_74
    · have hF := zif_f hc hF
      refine lv_aload_n hx hb dX5_findRooms_34 rfl (lv_at hl 0 rfl) ?_
      refine lv_iload_n hx hb dX5_findRooms_35 rfl (lv_at hl 1 rfl) ?_
      refine lv_iload_n hx hb dX5_findRooms_36 rfl (lv_at hl 2 rfl) ?_
      obtain ⟨u1, hq2, hF⟩ := zbd_t hF
      refine zgoIw (w' := (zM ad k thrown now saved hist kept reason detail isSaved comes queue far isInText ahead roomAt rooms text length at_ errorPosition toldFrom toldTo isWrong before)) hw hA (zVw (As := [.int x1, .int x2]) (rest := []) ⟨hx, hb, hml, hown, hts⟩ (mX5_isOpen l G k ad H.size thrown now saved hist kept reason detail isSaved comes queue far isInText ahead roomAt rooms text length at_ errorPosition toldFrom toldTo isWrong before x1 x2 u1 hq2) (cwV 2 hts gX5_findRooms_X5_isOpen rfl rfl rfl kdX5_isOpen ⟨Nat.le_of_ble_eq_true rfl, Nat.le_of_ble_eq_true rfl⟩) hK hA hw 0 rfl rfl rfl rfl hl.1 rfl (Nat.le_of_ble_eq_true rfl) dX5_findRooms_37 ⟨Nat.le_of_ble_eq_true rfl, Nat.le_of_ble_eq_true rfl⟩) (fun H locs hw => ?_)
      refine lv_if_eq (tgt := 68) hx hb dX5_findRooms_40 (by decide) (fun hc => ?_) (fun hc => ?_)
      · have hF := zif_t hc hF
        exact wX5_findRooms_68 C0 hK hA hret (fun b0 b1 b2 b3 b4 => fX5_findRooms_28  now n b0 b1 b2 b3 b4) ih  _ _ _ _ _ hF _ _ _ hw (lv_sub hl [0, 1, 2] rfl)
      · have hF := zif_f hc hF
        refine lv_aload_n hx hb dX5_findRooms_43 rfl (lv_at hl 0 rfl) ?_
        refine va_get (D := G) (ci := 4) (v := .ref (ad 8)) (C := RX5) (T := TX5) (N := 23) hx hb hts inX5_findRooms_X5 hown hK.1 hw.1 0 rfl rfl 13 (by decide) (hts (.fieldLink RX5 34 "SealedBoardModel" "roomAt" "[I") (by decide +kernel)) (fun _ h9 => h9) rfl dX5_findRooms_44 ?_
        refine lv_iload_n hx hb dX5_findRooms_47 rfl (lv_at hl 2 rfl) ?_
        obtain ⟨hi3, hF⟩ := zck_in hF
        refine va_iald hx hb hK.1 hw.1 8 2 rfl rfl hi3 dX5_findRooms_48 ?_
        refine lv_if_ge (tgt := 68) hx hb dX5_findRooms_49 (by decide) (fun hc => ?_) (fun hc => ?_)
        · have hF := zif_t hc hF
          exact wX5_findRooms_68 C0 hK hA hret (fun b0 b1 b2 b3 b4 => fX5_findRooms_28  now n b0 b1 b2 b3 b4) ih  _ _ _ _ _ hF _ _ _ hw (lv_sub hl [0, 1, 2] rfl)
        · have hF := zif_f hc hF
          refine lv_aload_n hx hb dX5_findRooms_52 rfl (lv_at hl 0 rfl) ?_
          refine lv_iload_n hx hb dX5_findRooms_53 rfl (lv_at hl 1 rfl) ?_
          refine lv_iload_n hx hb dX5_findRooms_54 rfl (lv_at hl 2 rfl) ?_
          obtain ⟨u4, hq5, hF⟩ := zbd_t hF
          refine zgoVw (w' := (zM ad k thrown now saved hist kept reason detail isSaved comes u4.1 far isInText ahead u4.2 rooms text length at_ errorPosition toldFrom toldTo isWrong before)) hw hA (zVw (As := [.int x1, .int x2]) (rest := []) ⟨hx, hb, hml, hown, hts⟩ (mX5_spread l G k ad H.size thrown now saved hist kept reason detail isSaved comes queue far isInText ahead roomAt rooms text length at_ errorPosition toldFrom toldTo isWrong before x1 x2 u4 hq5) (cwV 2 hts gX5_findRooms_X5_spread rfl rfl rfl kdX5_spread ⟨Nat.le_of_ble_eq_true rfl, Nat.le_of_ble_eq_true rfl⟩) hK hA hw 0 rfl rfl rfl rfl hl.1 rfl (Nat.le_of_ble_eq_true rfl) dX5_findRooms_55 ⟨Nat.le_of_ble_eq_true rfl, Nat.le_of_ble_eq_true rfl⟩) (fun H locs hw => ?_)
          refine lv_aload_n hx hb dX5_findRooms_58 rfl (lv_at hl 0 rfl) ?_
          refine lv_dup hx hb dX5_findRooms_59 rfl ?_
          refine va_get (D := G) (ci := 4) (v := .int rooms) (C := RX5) (T := TX5) (N := 23) hx hb hts inX5_findRooms_X5 hown hK.1 hw.1 0 rfl rfl 14 (by decide) (hts (.fieldLink RX5 207 "SealedBoardModel" "rooms" "I") (by decide +kernel)) (fun _ h9 => h9) rfl dX5_findRooms_60 ?_
          refine lv_iconst (v := (1 : Int32)) hx hb dX5_findRooms_63 (by decide) ?_
          refine lv_iadd hx hb dX5_findRooms_64 ?_
          refine va_put (D := G) (ci := 4) (v := .int (rooms + (1 : Int32))) (ty := .int) (C := RX5) (T := TX5) (N := 23) hx hb hts inX5_findRooms_X5 tyX5 tyX5_ok nmX5 hown hK.1 hw.1 hw.2.1 hw.2.2 0 rfl rfl 14 (by decide) (hts (.fieldLink RX5 207 "SealedBoardModel" "rooms" "I") (by decide +kernel)) (fun _ h9 => h9) rfl (by decide +kernel) rfl rfl (Nat.le_of_ble_eq_true rfl) dX5_findRooms_65 (fun H locs hP hD hS => ?_)
          have hw : zWd G A s (zM ad k thrown now saved hist kept reason detail isSaved comes u4.1 far isInText ahead u4.2 (rooms + (1 : Int32)) text length at_ errorPosition toldFrom toldTo isWrong before) H locs := ⟨hP, hD, hS⟩
          exact wX5_findRooms_68 C0 hK hA hret (fun b0 b1 b2 b3 b4 => fX5_findRooms_28  now n b0 b1 b2 b3 b4) ih  _ _ _ _ _ hF _ _ _ hw (lv_sub hl [0, 1, 2] rfl)
set_option maxHeartbeats 400000 in
set_option maxRecDepth 100000 in
theorem wX5_findRooms_7 {p : Program} {l : Launch} {e : Env} {s : State} {m : MethodId} {args : Array Value} {below : List Frame} {meth : Method} {c : Code} {A : Nat → Prop} {Q : State → Prop} {G : va_G} {k : Nat → ClassId} {ad : Nat → Nat} {thrown : Int32} {now : Nat → Int32} {saved : Nat → Int32} {hist : Nat → Nat → Int32} {kept : Int32} {reason : Int32} {detail : Int32} {isSaved : Int32} {comes : Nat → Int32} {far : Nat → Int32} {isInText : Int32} {ahead : Nat → Int32} {text : Nat → Int32} {length : Int32} {at_ : Int32} {errorPosition : Int32} {toldFrom : Int32} {toldTo : Int32} {isWrong : Int32} {before : Nat → Int32} {o : (Nat → Int32) × (Nat → Int32) × Int32} (C0 : zCx p s m args meth c wsX5_findRooms cX5_findRooms RX5 none 3) (hK : zKK G k A s s.heap) (hA : ∀ q : Nat, s.heap.size ≤ q → A q) (hret : zRV p l e rmX5_findRooms s m args below meth c cX5_findRooms G A 0 0 Q (zM ad k thrown now saved hist kept reason detail isSaved comes o.1 far isInText ahead o.2.1 o.2.2 text length at_ errorPosition toldFrom toldTo isWrong before))  : ∀ (n : Nat) (queue : Nat → Int32) (roomAt : Nat → Int32) (rooms : Int32) (x1 : Int32) (x2 : Int32), fX5_findRooms_7  now n queue roomAt rooms x1 x2 = some o → ∀ (H : Heap) (locs : List Loc) (ls : Array Slot), zWd G A s (zM ad k thrown now saved hist kept reason detail isSaved comes queue far isInText ahead roomAt rooms text length at_ errorPosition toldFrom toldTo isWrong before) H locs → lv_has ls 3 [(0, .ref (ad 0)), (1, .int x1), (2, .int x2)] → W p l e rmX5_findRooms s m args below meth c H locs 0 0 Q (F0 m 7 ls []) := by
  obtain ⟨hx, hb, hr, hml, hown, hts, hlocks⟩ := id C0
  intro n
  induction n with
  | zero => intro queue roomAt rooms x1 x2 hF; exact nomatch hF
  | succ n ih =>
    intro queue roomAt rooms x1 x2 hF H locs ls hw hl
    rw [fX5_findRooms_7] at hF
    refine lv_iload_n hx hb dX5_findRooms_7 rfl (lv_at hl 2 rfl) ?_
    refine lv_bipush (v := (36 : Int32)) hx hb dX5_findRooms_8 (by decide) ?_
    refine lv_icmp_ge (tgt := 26) hx hb dX5_findRooms_10 (by decide) (fun hc => ?_) (fun hc => ?_)
    · have hF := zif_t hc hF
      refine lv_iconst (v := (0 : Int32)) hx hb dX5_findRooms_26 (by decide) ?_
      refine lv_istore_n (lv' := [(2, .int (0 : Int32)), (0, .ref (ad 0)), (1, .int x1)]) hx hb dX5_findRooms_27 rfl hl (by decide) rfl (fun ls hl => ?_)
      exact wX5_findRooms_28 C0 hK hA hret  zFu _ _ _ _ _ hF _ _ _ hw (lv_sub hl [1, 2, 0] rfl)
    · have hF := zif_f hc hF
      refine lv_aload_n hx hb dX5_findRooms_13 rfl (lv_at hl 0 rfl) ?_
      refine va_get (D := G) (ci := 4) (v := .ref (ad 8)) (C := RX5) (T := TX5) (N := 23) hx hb hts inX5_findRooms_X5 hown hK.1 hw.1 0 rfl rfl 13 (by decide) (hts (.fieldLink RX5 34 "SealedBoardModel" "roomAt" "[I") (by decide +kernel)) (fun _ h9 => h9) rfl dX5_findRooms_14 ?_
      refine lv_iload_n hx hb dX5_findRooms_17 rfl (lv_at hl 2 rfl) ?_
      refine lv_iconst (v := (-1 : Int32)) hx hb dX5_findRooms_18 (by decide) ?_
      obtain ⟨hi1, hF⟩ := zck_in hF
      refine va_iast hx hb hK.1 hw.1 hw.2.1 hw.2.2 8 2 rfl rfl hi1 dX5_findRooms_19 (fun H locs hP hD hS => ?_)
      have hw : zWd G A s (zM ad k thrown now saved hist kept reason detail isSaved comes queue far isInText ahead (upd roomAt x2.toNatClampNeg (-1 : Int32)) rooms text length at_ errorPosition toldFrom toldTo isWrong before) H locs := ⟨hP, hD, hS⟩
      obtain ⟨a2, ea2⟩ : ∃ z : Int32, z = x2 + (1 : Int32) := ⟨_, rfl⟩
      have hF := zbn_t ea2 hF
      refine lv_iinc (v := a2) (lv' := [(2, .int a2), (0, .ref (ad 0)), (1, .int x1)]) hx hb dX5_findRooms_20 hl (k := 2) rfl (by rw [ea2]; rfl) (by decide) rfl (fun ls hl => ?_)
      refine lv_goto (tgt := 7) hx hb dX5_findRooms_23 (by decide) ?_
      exact ih _ _ _ _ _ hF _ _ _ hw (lv_sub hl [1, 2, 0] rfl)
set_option maxHeartbeats 400000 in
set_option maxRecDepth 100000 in
theorem mX5_findRooms (l : Launch) (G : va_G) (k : Nat → ClassId) (ad : Nat → Nat) (sz : Nat) (thrown : Int32) (now : Nat → Int32) (saved : Nat → Int32) (hist : Nat → Nat → Int32) (kept : Int32) (reason : Int32) (detail : Int32) (isSaved : Int32) (comes : Nat → Int32) (queue : Nat → Int32) (far : Nat → Int32) (isInText : Int32) (ahead : Nat → Int32) (roomAt : Nat → Int32) (rooms : Int32) (text : Nat → Int32) (length : Int32) (at_ : Int32) (errorPosition : Int32) (toldFrom : Int32) (toldTo : Int32) (isWrong : Int32) (before : Nat → Int32) (p0 : Int32) (o : (Nat → Int32) × (Nat → Int32) × Int32) (hF : fX5_findRooms now queue roomAt rooms p0 = some o) : zMV l yX5_findRooms wsX5_findRooms rmX5_findRooms G k (zM ad k thrown now saved hist kept reason detail isSaved comes queue far isInText ahead roomAt rooms text length at_ errorPosition toldFrom toldTo isWrong before) sz [.ref (ad 0), .int p0] (zM ad k thrown now saved hist kept reason detail isSaved comes o.1 far isInText ahead o.2.1 o.2.2 text length at_ errorPosition toldFrom toldTo isWrong before) := by
  refine zof_V (cc := cX5_findRooms) (nL := 3) (own := RX5) (by decide) rfl rfl (Nat.le_of_ble_eq_true rfl) ?_
  intro p e s m args below meth c A Q C0 hK hA hret ls hl hw
  have hl : lv_has ls 3 [(0, .ref (ad 0)), (1, .int p0)] := hl
  obtain ⟨hx, hb, hr, hml, hown, hts, hlocks⟩ := id C0
  obtain ⟨H, hH⟩ : ∃ z, z = s.heap := ⟨_, rfl⟩
  rw [← hH] at hw ⊢
  unfold fX5_findRooms at hF
  refine lv_aload_n hx hb dX5_findRooms_0 rfl (lv_at hl 0 rfl) ?_
  refine lv_iconst (v := (0 : Int32)) hx hb dX5_findRooms_1 (by decide) ?_
  refine va_put (D := G) (ci := 4) (v := .int (0 : Int32)) (ty := .int) (C := RX5) (T := TX5) (N := 23) hx hb hts inX5_findRooms_X5 tyX5 tyX5_ok nmX5 hown hK.1 hw.1 hw.2.1 hw.2.2 0 rfl rfl 14 (by decide) (hts (.fieldLink RX5 207 "SealedBoardModel" "rooms" "I") (by decide +kernel)) (fun _ h9 => h9) rfl (by decide +kernel) rfl rfl (Nat.le_of_ble_eq_true rfl) dX5_findRooms_2 (fun H locs hP hD hS => ?_)
  have hw : zWd G A s (zM ad k thrown now saved hist kept reason detail isSaved comes queue far isInText ahead roomAt (0 : Int32) text length at_ errorPosition toldFrom toldTo isWrong before) H locs := ⟨hP, hD, hS⟩
  refine lv_iconst (v := (0 : Int32)) hx hb dX5_findRooms_5 (by decide) ?_
  refine lv_istore_n (lv' := [(2, .int (0 : Int32)), (0, .ref (ad 0)), (1, .int p0)]) hx hb dX5_findRooms_6 rfl hl (by decide) rfl (fun ls hl => ?_)
  exact wX5_findRooms_7 C0 hK hA hret  zFu _ _ _ _ _ hF _ _ _ hw (lv_sub hl [1, 2, 0] rfl)

/-! SealedBoardModel.squaresIn(I)I -/
abbrev rmX5_squaresIn : Room := { frames := 0, cells := 0, slots := 0, locals := 0 }
theorem kdX5_squaresIn : yX5_squaresIn.cls = RX5 ∧ yX5_squaresIn.cls ≠ "java/lang/invoke/MethodHandle" ∧ yX5_squaresIn.cls ≠ "java/lang/invoke/VarHandle" ∧ (parseMethodDescriptor yX5_squaresIn.desc).map (fun d => d.parameters.length) = some 1 := by decide +kernel
theorem inX5_squaresIn_X5 : ∀ w ∈ u_ws RX5 TX5 23, w ∈ wsX5_squaresIn := by decide +kernel
def fX5_squaresIn_26 (k4 : Int32 → Int32 → Int32 → Option (Int32)) (roomAt : Nat → Int32) (x1 : Int32) (x3 : Int32) (s0 : Int32) (s1 : Int32) : Option (Int32) := (zbn (s1 + s0) (fun a1 => (zbn (x3 + (1 : Int32)) (fun a2 => (k4 x1 a1 a2)))))
def fX5_squaresIn_4  (roomAt : Nat → Int32) : Nat → Int32 → Int32 → Int32 → Option (Int32)
  | 0, _, _, _ => none
  | n + 1, x1, x2, x3 => (if (36 : Int32) ≤ x3 then (some (x2)) else (zck (zin x3 36) (if (roomAt x3.toNatClampNeg) = x1 then (fX5_squaresIn_26 (fun b0 b1 b2 => fX5_squaresIn_4  roomAt n b0 b1 b2) roomAt  x1 x3 (1 : Int32) x2) else (fX5_squaresIn_26 (fun b0 b1 b2 => fX5_squaresIn_4  roomAt n b0 b1 b2) roomAt  x1 x3 (0 : Int32) x2))))
def fX5_squaresIn (roomAt : Nat → Int32) (p0 : Int32) : Option (Int32) := (fX5_squaresIn_4  roomAt zFu p0 (0 : Int32) (0 : Int32))
set_option maxHeartbeats 400000 in
set_option maxRecDepth 100000 in
theorem wX5_squaresIn_26 {p : Program} {l : Launch} {e : Env} {s : State} {m : MethodId} {args : Array Value} {below : List Frame} {meth : Method} {c : Code} {A : Nat → Prop} {Q : State → Prop} {G : va_G} {k : Nat → ClassId} {ad : Nat → Nat} {thrown : Int32} {now : Nat → Int32} {saved : Nat → Int32} {hist : Nat → Nat → Int32} {kept : Int32} {reason : Int32} {detail : Int32} {isSaved : Int32} {comes : Nat → Int32} {queue : Nat → Int32} {far : Nat → Int32} {isInText : Int32} {ahead : Nat → Int32} {roomAt : Nat → Int32} {rooms : Int32} {text : Nat → Int32} {length : Int32} {at_ : Int32} {errorPosition : Int32} {toldFrom : Int32} {toldTo : Int32} {isWrong : Int32} {before : Nat → Int32} {o : Int32} (C0 : zCx p s m args meth c wsX5_squaresIn cX5_squaresIn RX5 (some .int) 4) (hK : zKK G k A s s.heap) (hA : ∀ q : Nat, s.heap.size ≤ q → A q) (hret : zRI p l e rmX5_squaresIn s m args below meth c cX5_squaresIn G A 0 0 Q .int (zM ad k thrown now saved hist kept reason detail isSaved comes queue far isInText ahead roomAt rooms text length at_ errorPosition toldFrom toldTo isWrong before) o) (k4 : Int32 → Int32 → Int32 → Option (Int32)) (hk4 : ∀ (x1 : Int32) (x2 : Int32) (x3 : Int32), k4 x1 x2 x3 = some o → ∀ (H : Heap) (locs : List Loc) (ls : Array Slot), zWd G A s (zM ad k thrown now saved hist kept reason detail isSaved comes queue far isInText ahead roomAt rooms text length at_ errorPosition toldFrom toldTo isWrong before) H locs → lv_has ls 4 [(0, .ref (ad 0)), (1, .int x1), (2, .int x2), (3, .int x3)] → W p l e rmX5_squaresIn s m args below meth c H locs 0 0 Q (F0 m 4 ls [])) : ∀ (x1 : Int32) (x3 : Int32) (s0 : Int32) (s1 : Int32), fX5_squaresIn_26 k4 roomAt x1 x3 s0 s1 = some o → ∀ (H : Heap) (locs : List Loc) (ls : Array Slot), zWd G A s (zM ad k thrown now saved hist kept reason detail isSaved comes queue far isInText ahead roomAt rooms text length at_ errorPosition toldFrom toldTo isWrong before) H locs → lv_has ls 4 [(0, .ref (ad 0)), (1, .int x1), (3, .int x3)] → W p l e rmX5_squaresIn s m args below meth c H locs 0 0 Q (F0 m 26 ls [.int s0, .int s1]) := by
  obtain ⟨hx, hb, hr, hml, hown, hts, hlocks⟩ := id C0
  intro x1 x3 s0 s1 hF H locs ls hw hl
  unfold fX5_squaresIn_26 at hF
  refine lv_iadd hx hb dX5_squaresIn_26 ?_
  refine lv_topi (fun a1 ea1 => ?_)
  have hF := zbn_t ea1 hF
  refine lv_istore_n (lv' := [(2, .int a1), (0, .ref (ad 0)), (1, .int x1), (3, .int x3)]) hx hb dX5_squaresIn_27 rfl hl (by decide) rfl (fun ls hl => ?_)
  obtain ⟨a2, ea2⟩ : ∃ z : Int32, z = x3 + (1 : Int32) := ⟨_, rfl⟩
  have hF := zbn_t ea2 hF
  refine lv_iinc (v := a2) (lv' := [(3, .int a2), (2, .int a1), (0, .ref (ad 0)), (1, .int x1)]) hx hb dX5_squaresIn_28 hl (k := 3) rfl (by rw [ea2]; rfl) (by decide) rfl (fun ls hl => ?_)
  refine lv_goto (tgt := 4) hx hb dX5_squaresIn_31 (by decide) ?_
  exact hk4 _ _ _ hF _ _ _ hw (lv_sub hl [2, 3, 1, 0] rfl)
set_option maxHeartbeats 400000 in
set_option maxRecDepth 100000 in
theorem wX5_squaresIn_4 {p : Program} {l : Launch} {e : Env} {s : State} {m : MethodId} {args : Array Value} {below : List Frame} {meth : Method} {c : Code} {A : Nat → Prop} {Q : State → Prop} {G : va_G} {k : Nat → ClassId} {ad : Nat → Nat} {thrown : Int32} {now : Nat → Int32} {saved : Nat → Int32} {hist : Nat → Nat → Int32} {kept : Int32} {reason : Int32} {detail : Int32} {isSaved : Int32} {comes : Nat → Int32} {queue : Nat → Int32} {far : Nat → Int32} {isInText : Int32} {ahead : Nat → Int32} {roomAt : Nat → Int32} {rooms : Int32} {text : Nat → Int32} {length : Int32} {at_ : Int32} {errorPosition : Int32} {toldFrom : Int32} {toldTo : Int32} {isWrong : Int32} {before : Nat → Int32} {o : Int32} (C0 : zCx p s m args meth c wsX5_squaresIn cX5_squaresIn RX5 (some .int) 4) (hK : zKK G k A s s.heap) (hA : ∀ q : Nat, s.heap.size ≤ q → A q) (hret : zRI p l e rmX5_squaresIn s m args below meth c cX5_squaresIn G A 0 0 Q .int (zM ad k thrown now saved hist kept reason detail isSaved comes queue far isInText ahead roomAt rooms text length at_ errorPosition toldFrom toldTo isWrong before) o)  : ∀ (n : Nat) (x1 : Int32) (x2 : Int32) (x3 : Int32), fX5_squaresIn_4  roomAt n x1 x2 x3 = some o → ∀ (H : Heap) (locs : List Loc) (ls : Array Slot), zWd G A s (zM ad k thrown now saved hist kept reason detail isSaved comes queue far isInText ahead roomAt rooms text length at_ errorPosition toldFrom toldTo isWrong before) H locs → lv_has ls 4 [(0, .ref (ad 0)), (1, .int x1), (2, .int x2), (3, .int x3)] → W p l e rmX5_squaresIn s m args below meth c H locs 0 0 Q (F0 m 4 ls []) := by
  obtain ⟨hx, hb, hr, hml, hown, hts, hlocks⟩ := id C0
  intro n
  induction n with
  | zero => intro x1 x2 x3 hF; exact nomatch hF
  | succ n ih =>
    intro x1 x2 x3 hF H locs ls hw hl
    rw [fX5_squaresIn_4] at hF
    refine lv_iload_n hx hb dX5_squaresIn_4 rfl (lv_at hl 3 rfl) ?_
    refine lv_bipush (v := (36 : Int32)) hx hb dX5_squaresIn_5 (by decide) ?_
    refine lv_icmp_ge (tgt := 34) hx hb dX5_squaresIn_7 (by decide) (fun hc => ?_) (fun hc => ?_)
    · have hF := zif_t hc hF
      refine lv_iload_n hx hb dX5_squaresIn_34 rfl (lv_at hl 2 rfl) ?_
      obtain rfl := Option.some.inj hF
      exact hret _ _ _ _ rfl hw dX5_squaresIn_35
    · have hF := zif_f hc hF
      refine lv_iload_n hx hb dX5_squaresIn_10 rfl (lv_at hl 2 rfl) ?_
      refine lv_aload_n hx hb dX5_squaresIn_11 rfl (lv_at hl 0 rfl) ?_
      refine va_get (D := G) (ci := 4) (v := .ref (ad 8)) (C := RX5) (T := TX5) (N := 23) hx hb hts inX5_squaresIn_X5 hown hK.1 hw.1 0 rfl rfl 13 (by decide) (hts (.fieldLink RX5 34 "SealedBoardModel" "roomAt" "[I") (by decide +kernel)) (fun _ h9 => h9) rfl dX5_squaresIn_12 ?_
      refine lv_iload_n hx hb dX5_squaresIn_15 rfl (lv_at hl 3 rfl) ?_
      obtain ⟨hi1, hF⟩ := zck_in hF
      refine va_iald hx hb hK.1 hw.1 8 2 rfl rfl hi1 dX5_squaresIn_16 ?_
      refine lv_iload_n hx hb dX5_squaresIn_17 rfl (lv_at hl 1 rfl) ?_
      refine lv_icmp_ne (tgt := 25) hx hb dX5_squaresIn_18 (by decide) (fun hc => ?_) (fun hc => ?_)
      · have hF := zif_f hc hF
        refine lv_iconst (v := (0 : Int32)) hx hb dX5_squaresIn_25 (by decide) ?_
        exact wX5_squaresIn_26 C0 hK hA hret (fun b0 b1 b2 => fX5_squaresIn_4  roomAt n b0 b1 b2) ih  _ _ _ _ hF _ _ _ hw (lv_sub hl [0, 1, 3] rfl)
      · have hF := zif_t hc hF
        refine lv_iconst (v := (1 : Int32)) hx hb dX5_squaresIn_21 (by decide) ?_
        refine lv_goto (tgt := 26) hx hb dX5_squaresIn_22 (by decide) ?_
        exact wX5_squaresIn_26 C0 hK hA hret (fun b0 b1 b2 => fX5_squaresIn_4  roomAt n b0 b1 b2) ih  _ _ _ _ hF _ _ _ hw (lv_sub hl [0, 1, 3] rfl)
set_option maxHeartbeats 400000 in
set_option maxRecDepth 100000 in
theorem mX5_squaresIn (l : Launch) (G : va_G) (k : Nat → ClassId) (ad : Nat → Nat) (sz : Nat) (thrown : Int32) (now : Nat → Int32) (saved : Nat → Int32) (hist : Nat → Nat → Int32) (kept : Int32) (reason : Int32) (detail : Int32) (isSaved : Int32) (comes : Nat → Int32) (queue : Nat → Int32) (far : Nat → Int32) (isInText : Int32) (ahead : Nat → Int32) (roomAt : Nat → Int32) (rooms : Int32) (text : Nat → Int32) (length : Int32) (at_ : Int32) (errorPosition : Int32) (toldFrom : Int32) (toldTo : Int32) (isWrong : Int32) (before : Nat → Int32) (p0 : Int32) (o : Int32) (hF : fX5_squaresIn roomAt p0 = some o) : zMI l yX5_squaresIn wsX5_squaresIn rmX5_squaresIn G k (zM ad k thrown now saved hist kept reason detail isSaved comes queue far isInText ahead roomAt rooms text length at_ errorPosition toldFrom toldTo isWrong before) sz [.ref (ad 0), .int p0] o (zM ad k thrown now saved hist kept reason detail isSaved comes queue far isInText ahead roomAt rooms text length at_ errorPosition toldFrom toldTo isWrong before) := by
  refine zof_I (cc := cX5_squaresIn) (nL := 4) (own := RX5) (rt := .int) (by decide) rfl rfl (Nat.le_of_ble_eq_true rfl) ?_
  intro p e s m args below meth c A Q C0 hK hA hret ls hl hw
  have hl : lv_has ls 4 [(0, .ref (ad 0)), (1, .int p0)] := hl
  obtain ⟨hx, hb, hr, hml, hown, hts, hlocks⟩ := id C0
  obtain ⟨H, hH⟩ : ∃ z, z = s.heap := ⟨_, rfl⟩
  rw [← hH] at hw ⊢
  unfold fX5_squaresIn at hF
  refine lv_iconst (v := (0 : Int32)) hx hb dX5_squaresIn_0 (by decide) ?_
  refine lv_istore_n (lv' := [(2, .int (0 : Int32)), (0, .ref (ad 0)), (1, .int p0)]) hx hb dX5_squaresIn_1 rfl hl (by decide) rfl (fun ls hl => ?_)
  refine lv_iconst (v := (0 : Int32)) hx hb dX5_squaresIn_2 (by decide) ?_
  refine lv_istore_n (lv' := [(3, .int (0 : Int32)), (2, .int (0 : Int32)), (0, .ref (ad 0)), (1, .int p0)]) hx hb dX5_squaresIn_3 rfl hl (by decide) rfl (fun ls hl => ?_)
  exact wX5_squaresIn_4 C0 hK hA hret  zFu _ _ _ hF _ _ _ hw (lv_sub hl [2, 3, 1, 0] rfl)

/-! SealedBoardModel.countSealed(I)I -/
abbrev rmX5_countSealed : Room := { frames := 4, cells := 0, slots := 0, locals := 93 }
theorem kdX5_countSealed : yX5_countSealed.cls = RX5 ∧ yX5_countSealed.cls ≠ "java/lang/invoke/MethodHandle" ∧ yX5_countSealed.cls ≠ "java/lang/invoke/VarHandle" ∧ (parseMethodDescriptor yX5_countSealed.desc).map (fun d => d.parameters.length) = some 1 := by decide +kernel
theorem inX5_countSealed_X5 : ∀ w ∈ u_ws RX5 TX5 23, w ∈ wsX5_countSealed := by decide +kernel
def fX5_countSealed_36 (k9 : (Nat → Int32) → (Nat → Int32) → Int32 → Int32 → Int32 → Int32 → Option (Int32 × (Nat → Int32) × (Nat → Int32) × Int32)) (now : Nat → Int32) (queue : Nat → Int32) (roomAt : Nat → Int32) (rooms : Int32) (x1 : Int32) (x3 : Int32) (s0 : Int32) (s1 : Int32) : Option (Int32 × (Nat → Int32) × (Nat → Int32) × Int32) := (zbn (s1 + s0) (fun a1 => (zbn (x3 + (1 : Int32)) (fun a2 => (k9 queue roomAt rooms x1 a1 a2)))))
def fX5_countSealed_9  (now : Nat → Int32) : Nat → (Nat → Int32) → (Nat → Int32) → Int32 → Int32 → Int32 → Int32 → Option (Int32 × (Nat → Int32) × (Nat → Int32) × Int32)
  | 0, _, _, _, _, _, _ => none
  | n + 1, queue, roomAt, rooms, x1, x2, x3 => (if rooms ≤ x3 then (some (x2, queue, roomAt, rooms)) else (zbd (fX5_countIn now roomAt x3 x1) (fun u1 => (if u1 = 0 then (zbd (fX5_squaresIn roomAt x3) (fun u3 => (fX5_countSealed_36 (fun b0 b1 b2 b3 b4 b5 => fX5_countSealed_9  now n b0 b1 b2 b3 b4 b5) now  queue roomAt rooms x1 x3 u3 x2))) else (fX5_countSealed_36 (fun b0 b1 b2 b3 b4 b5 => fX5_countSealed_9  now n b0 b1 b2 b3 b4 b5) now  queue roomAt rooms x1 x3 (0 : Int32) x2)))))
def fX5_countSealed (now : Nat → Int32) (queue : Nat → Int32) (roomAt : Nat → Int32) (rooms : Int32) (p0 : Int32) : Option (Int32 × (Nat → Int32) × (Nat → Int32) × Int32) := (zbd (fX5_findRooms now queue roomAt rooms p0) (fun u1 => (fX5_countSealed_9  now zFu u1.1 u1.2.1 u1.2.2 p0 (0 : Int32) (0 : Int32))))
set_option maxHeartbeats 400000 in
set_option maxRecDepth 100000 in
theorem wX5_countSealed_36 {p : Program} {l : Launch} {e : Env} {s : State} {m : MethodId} {args : Array Value} {below : List Frame} {meth : Method} {c : Code} {A : Nat → Prop} {Q : State → Prop} {G : va_G} {k : Nat → ClassId} {ad : Nat → Nat} {thrown : Int32} {now : Nat → Int32} {saved : Nat → Int32} {hist : Nat → Nat → Int32} {kept : Int32} {reason : Int32} {detail : Int32} {isSaved : Int32} {comes : Nat → Int32} {far : Nat → Int32} {isInText : Int32} {ahead : Nat → Int32} {text : Nat → Int32} {length : Int32} {at_ : Int32} {errorPosition : Int32} {toldFrom : Int32} {toldTo : Int32} {isWrong : Int32} {before : Nat → Int32} {o : Int32 × (Nat → Int32) × (Nat → Int32) × Int32} (C0 : zCx p s m args meth c wsX5_countSealed cX5_countSealed RX5 (some .int) 4) (hK : zKK G k A s s.heap) (hA : ∀ q : Nat, s.heap.size ≤ q → A q) (hret : zRI p l e rmX5_countSealed s m args below meth c cX5_countSealed G A 0 0 Q .int (zM ad k thrown now saved hist kept reason detail isSaved comes o.2.1 far isInText ahead o.2.2.1 o.2.2.2 text length at_ errorPosition toldFrom toldTo isWrong before) o.1) (k9 : (Nat → Int32) → (Nat → Int32) → Int32 → Int32 → Int32 → Int32 → Option (Int32 × (Nat → Int32) × (Nat → Int32) × Int32)) (hk9 : ∀ (queue : Nat → Int32) (roomAt : Nat → Int32) (rooms : Int32) (x1 : Int32) (x2 : Int32) (x3 : Int32), k9 queue roomAt rooms x1 x2 x3 = some o → ∀ (H : Heap) (locs : List Loc) (ls : Array Slot), zWd G A s (zM ad k thrown now saved hist kept reason detail isSaved comes queue far isInText ahead roomAt rooms text length at_ errorPosition toldFrom toldTo isWrong before) H locs → lv_has ls 4 [(0, .ref (ad 0)), (1, .int x1), (2, .int x2), (3, .int x3)] → W p l e rmX5_countSealed s m args below meth c H locs 0 0 Q (F0 m 9 ls [])) : ∀ (queue : Nat → Int32) (roomAt : Nat → Int32) (rooms : Int32) (x1 : Int32) (x3 : Int32) (s0 : Int32) (s1 : Int32), fX5_countSealed_36 k9 now queue roomAt rooms x1 x3 s0 s1 = some o → ∀ (H : Heap) (locs : List Loc) (ls : Array Slot), zWd G A s (zM ad k thrown now saved hist kept reason detail isSaved comes queue far isInText ahead roomAt rooms text length at_ errorPosition toldFrom toldTo isWrong before) H locs → lv_has ls 4 [(0, .ref (ad 0)), (1, .int x1), (3, .int x3)] → W p l e rmX5_countSealed s m args below meth c H locs 0 0 Q (F0 m 36 ls [.int s0, .int s1]) := by
  obtain ⟨hx, hb, hr, hml, hown, hts, hlocks⟩ := id C0
  intro queue roomAt rooms x1 x3 s0 s1 hF H locs ls hw hl
  unfold fX5_countSealed_36 at hF
  refine lv_iadd hx hb dX5_countSealed_36 ?_
  refine lv_topi (fun a1 ea1 => ?_)
  have hF := zbn_t ea1 hF
  refine lv_istore_n (lv' := [(2, .int a1), (0, .ref (ad 0)), (1, .int x1), (3, .int x3)]) hx hb dX5_countSealed_37 rfl hl (by decide) rfl (fun ls hl => ?_)
  obtain ⟨a2, ea2⟩ : ∃ z : Int32, z = x3 + (1 : Int32) := ⟨_, rfl⟩
  have hF := zbn_t ea2 hF
  refine lv_iinc (v := a2) (lv' := [(3, .int a2), (2, .int a1), (0, .ref (ad 0)), (1, .int x1)]) hx hb dX5_countSealed_38 hl (k := 3) rfl (by rw [ea2]; rfl) (by decide) rfl (fun ls hl => ?_)
  refine lv_goto (tgt := 9) hx hb dX5_countSealed_41 (by decide) ?_
  exact hk9 _ _ _ _ _ _ hF _ _ _ hw (lv_sub hl [2, 3, 1, 0] rfl)
set_option maxHeartbeats 400000 in
set_option maxRecDepth 100000 in
theorem wX5_countSealed_9 {p : Program} {l : Launch} {e : Env} {s : State} {m : MethodId} {args : Array Value} {below : List Frame} {meth : Method} {c : Code} {A : Nat → Prop} {Q : State → Prop} {G : va_G} {k : Nat → ClassId} {ad : Nat → Nat} {thrown : Int32} {now : Nat → Int32} {saved : Nat → Int32} {hist : Nat → Nat → Int32} {kept : Int32} {reason : Int32} {detail : Int32} {isSaved : Int32} {comes : Nat → Int32} {far : Nat → Int32} {isInText : Int32} {ahead : Nat → Int32} {text : Nat → Int32} {length : Int32} {at_ : Int32} {errorPosition : Int32} {toldFrom : Int32} {toldTo : Int32} {isWrong : Int32} {before : Nat → Int32} {o : Int32 × (Nat → Int32) × (Nat → Int32) × Int32} (C0 : zCx p s m args meth c wsX5_countSealed cX5_countSealed RX5 (some .int) 4) (hK : zKK G k A s s.heap) (hA : ∀ q : Nat, s.heap.size ≤ q → A q) (hret : zRI p l e rmX5_countSealed s m args below meth c cX5_countSealed G A 0 0 Q .int (zM ad k thrown now saved hist kept reason detail isSaved comes o.2.1 far isInText ahead o.2.2.1 o.2.2.2 text length at_ errorPosition toldFrom toldTo isWrong before) o.1)  : ∀ (n : Nat) (queue : Nat → Int32) (roomAt : Nat → Int32) (rooms : Int32) (x1 : Int32) (x2 : Int32) (x3 : Int32), fX5_countSealed_9  now n queue roomAt rooms x1 x2 x3 = some o → ∀ (H : Heap) (locs : List Loc) (ls : Array Slot), zWd G A s (zM ad k thrown now saved hist kept reason detail isSaved comes queue far isInText ahead roomAt rooms text length at_ errorPosition toldFrom toldTo isWrong before) H locs → lv_has ls 4 [(0, .ref (ad 0)), (1, .int x1), (2, .int x2), (3, .int x3)] → W p l e rmX5_countSealed s m args below meth c H locs 0 0 Q (F0 m 9 ls []) := by
  obtain ⟨hx, hb, hr, hml, hown, hts, hlocks⟩ := id C0
  intro n
  induction n with
  | zero => intro queue roomAt rooms x1 x2 x3 hF; exact nomatch hF
  | succ n ih =>
    intro queue roomAt rooms x1 x2 x3 hF H locs ls hw hl
    rw [fX5_countSealed_9] at hF
    refine lv_iload_n hx hb dX5_countSealed_9 rfl (lv_at hl 3 rfl) ?_
    refine lv_aload_n hx hb dX5_countSealed_10 rfl (lv_at hl 0 rfl) ?_
    refine va_get (D := G) (ci := 4) (v := .int rooms) (C := RX5) (T := TX5) (N := 23) hx hb hts inX5_countSealed_X5 hown hK.1 hw.1 0 rfl rfl 14 (by decide) (hts (.fieldLink RX5 207 "SealedBoardModel" "rooms" "I") (by decide +kernel)) (fun _ h9 => h9) rfl dX5_countSealed_11 ?_
    refine lv_icmp_ge (tgt := 44) hx hb dX5_countSealed_14 (by decide) (fun hc => ?_) (fun hc => ?_)
    · have hF := zif_t hc hF
      refine lv_iload_n hx hb dX5_countSealed_44 rfl (lv_at hl 2 rfl) ?_
      obtain rfl := Option.some.inj hF
      exact hret _ _ _ _ rfl hw dX5_countSealed_45
    · have hF := zif_f hc hF
      refine lv_iload_n hx hb dX5_countSealed_17 rfl (lv_at hl 2 rfl) ?_
      refine lv_aload_n hx hb dX5_countSealed_18 rfl (lv_at hl 0 rfl) ?_
      refine lv_iload_n hx hb dX5_countSealed_19 rfl (lv_at hl 3 rfl) ?_
      refine lv_iload_n hx hb dX5_countSealed_20 rfl (lv_at hl 1 rfl) ?_
      obtain ⟨u1, hq2, hF⟩ := zbd_t hF
      refine zgoIw (w' := (zM ad k thrown now saved hist kept reason detail isSaved comes queue far isInText ahead roomAt rooms text length at_ errorPosition toldFrom toldTo isWrong before)) hw hA (zVw (As := [.int x3, .int x1]) (rest := [.int x2]) ⟨hx, hb, hml, hown, hts⟩ (mX5_countIn l G k ad H.size thrown now saved hist kept reason detail isSaved comes queue far isInText ahead roomAt rooms text length at_ errorPosition toldFrom toldTo isWrong before x3 x1 u1 hq2) (cwV 2 hts gX5_countSealed_X5_countIn rfl rfl rfl kdX5_countIn ⟨Nat.le_of_ble_eq_true rfl, Nat.le_of_ble_eq_true rfl⟩) hK hA hw 0 rfl rfl rfl rfl hl.1 rfl (Nat.le_of_ble_eq_true rfl) dX5_countSealed_21 ⟨Nat.le_of_ble_eq_true rfl, Nat.le_of_ble_eq_true rfl⟩) (fun H locs hw => ?_)
      refine lv_if_ne (tgt := 35) hx hb dX5_countSealed_24 (by decide) (fun hc => ?_) (fun hc => ?_)
      · have hF := zif_f hc hF
        refine lv_iconst (v := (0 : Int32)) hx hb dX5_countSealed_35 (by decide) ?_
        exact wX5_countSealed_36 C0 hK hA hret (fun b0 b1 b2 b3 b4 b5 => fX5_countSealed_9  now n b0 b1 b2 b3 b4 b5) ih  _ _ _ _ _ _ _ hF _ _ _ hw (lv_sub hl [0, 1, 3] rfl)
      · have hF := zif_t hc hF
        refine lv_aload_n hx hb dX5_countSealed_27 rfl (lv_at hl 0 rfl) ?_
        refine lv_iload_n hx hb dX5_countSealed_28 rfl (lv_at hl 3 rfl) ?_
        obtain ⟨u3, hq4, hF⟩ := zbd_t hF
        refine zgoIw (w' := (zM ad k thrown now saved hist kept reason detail isSaved comes queue far isInText ahead roomAt rooms text length at_ errorPosition toldFrom toldTo isWrong before)) hw hA (zVw (As := [.int x3]) (rest := [.int x2]) ⟨hx, hb, hml, hown, hts⟩ (mX5_squaresIn l G k ad H.size thrown now saved hist kept reason detail isSaved comes queue far isInText ahead roomAt rooms text length at_ errorPosition toldFrom toldTo isWrong before x3 u3 hq4) (cwV 1 hts gX5_countSealed_X5_squaresIn rfl rfl rfl kdX5_squaresIn ⟨Nat.le_of_ble_eq_true rfl, Nat.le_of_ble_eq_true rfl⟩) hK hA hw 0 rfl rfl rfl rfl hl.1 rfl (Nat.le_of_ble_eq_true rfl) dX5_countSealed_29 ⟨Nat.le_of_ble_eq_true rfl, Nat.le_of_ble_eq_true rfl⟩) (fun H locs hw => ?_)
        refine lv_goto (tgt := 36) hx hb dX5_countSealed_32 (by decide) ?_
        exact wX5_countSealed_36 C0 hK hA hret (fun b0 b1 b2 b3 b4 b5 => fX5_countSealed_9  now n b0 b1 b2 b3 b4 b5) ih  _ _ _ _ _ _ _ hF _ _ _ hw (lv_sub hl [0, 1, 3] rfl)
set_option maxHeartbeats 400000 in
set_option maxRecDepth 100000 in
theorem mX5_countSealed (l : Launch) (G : va_G) (k : Nat → ClassId) (ad : Nat → Nat) (sz : Nat) (thrown : Int32) (now : Nat → Int32) (saved : Nat → Int32) (hist : Nat → Nat → Int32) (kept : Int32) (reason : Int32) (detail : Int32) (isSaved : Int32) (comes : Nat → Int32) (queue : Nat → Int32) (far : Nat → Int32) (isInText : Int32) (ahead : Nat → Int32) (roomAt : Nat → Int32) (rooms : Int32) (text : Nat → Int32) (length : Int32) (at_ : Int32) (errorPosition : Int32) (toldFrom : Int32) (toldTo : Int32) (isWrong : Int32) (before : Nat → Int32) (p0 : Int32) (o : Int32 × (Nat → Int32) × (Nat → Int32) × Int32) (hF : fX5_countSealed now queue roomAt rooms p0 = some o) : zMI l yX5_countSealed wsX5_countSealed rmX5_countSealed G k (zM ad k thrown now saved hist kept reason detail isSaved comes queue far isInText ahead roomAt rooms text length at_ errorPosition toldFrom toldTo isWrong before) sz [.ref (ad 0), .int p0] o.1 (zM ad k thrown now saved hist kept reason detail isSaved comes o.2.1 far isInText ahead o.2.2.1 o.2.2.2 text length at_ errorPosition toldFrom toldTo isWrong before) := by
  refine zof_I (cc := cX5_countSealed) (nL := 4) (own := RX5) (rt := .int) (by decide) rfl rfl (Nat.le_of_ble_eq_true rfl) ?_
  intro p e s m args below meth c A Q C0 hK hA hret ls hl hw
  have hl : lv_has ls 4 [(0, .ref (ad 0)), (1, .int p0)] := hl
  obtain ⟨hx, hb, hr, hml, hown, hts, hlocks⟩ := id C0
  obtain ⟨H, hH⟩ : ∃ z, z = s.heap := ⟨_, rfl⟩
  rw [← hH] at hw ⊢
  unfold fX5_countSealed at hF
  refine lv_aload_n hx hb dX5_countSealed_0 rfl (lv_at hl 0 rfl) ?_
  refine lv_iload_n hx hb dX5_countSealed_1 rfl (lv_at hl 1 rfl) ?_
  obtain ⟨u1, hq2, hF⟩ := zbd_t hF
  refine zgoVw (w' := (zM ad k thrown now saved hist kept reason detail isSaved comes u1.1 far isInText ahead u1.2.1 u1.2.2 text length at_ errorPosition toldFrom toldTo isWrong before)) hw hA (zVw (As := [.int p0]) (rest := []) ⟨hx, hb, hml, hown, hts⟩ (mX5_findRooms l G k ad H.size thrown now saved hist kept reason detail isSaved comes queue far isInText ahead roomAt rooms text length at_ errorPosition toldFrom toldTo isWrong before p0 u1 hq2) (cwV 1 hts gX5_countSealed_X5_findRooms rfl rfl rfl kdX5_findRooms ⟨Nat.le_of_ble_eq_true rfl, Nat.le_of_ble_eq_true rfl⟩) hK hA hw 0 rfl rfl rfl rfl hl.1 rfl (Nat.le_of_ble_eq_true rfl) dX5_countSealed_2 ⟨Nat.le_of_ble_eq_true rfl, Nat.le_of_ble_eq_true rfl⟩) (fun H locs hw => ?_)
  refine lv_iconst (v := (0 : Int32)) hx hb dX5_countSealed_5 (by decide) ?_
  refine lv_istore_n (lv' := [(2, .int (0 : Int32)), (0, .ref (ad 0)), (1, .int p0)]) hx hb dX5_countSealed_6 rfl hl (by decide) rfl (fun ls hl => ?_)
  refine lv_iconst (v := (0 : Int32)) hx hb dX5_countSealed_7 (by decide) ?_
  refine lv_istore_n (lv' := [(3, .int (0 : Int32)), (2, .int (0 : Int32)), (0, .ref (ad 0)), (1, .int p0)]) hx hb dX5_countSealed_8 rfl hl (by decide) rfl (fun ls hl => ?_)
  exact wX5_countSealed_9 C0 hK hA hret  zFu _ _ _ _ _ _ hF _ _ _ hw (lv_sub hl [2, 3, 1, 0] rfl)

/-! SealedBoardModel.worthOf(II)I -/
abbrev rmX5_worthOf : Room := { frames := 5, cells := 0, slots := 0, locals := 116 }
theorem kdX5_worthOf : yX5_worthOf.cls = RX5 ∧ yX5_worthOf.cls ≠ "java/lang/invoke/MethodHandle" ∧ yX5_worthOf.cls ≠ "java/lang/invoke/VarHandle" ∧ (parseMethodDescriptor yX5_worthOf.desc).map (fun d => d.parameters.length) = some 2 := by decide +kernel
theorem inX5_worthOf_X5 : ∀ w ∈ u_ws RX5 TX5 23, w ∈ wsX5_worthOf := by decide +kernel
def fX5_worthOf (now : Nat → Int32) (queue : Nat → Int32) (ahead : Nat → Int32) (roomAt : Nat → Int32) (rooms : Int32) (p0 : Int32) (p1 : Int32) : Option (Int32 × (Nat → Int32) × (Nat → Int32) × (Nat → Int32) × (Nat → Int32) × Int32) := (zck (zin p0 76) (zbd (fX5_sideOf (now p0.toNatClampNeg)) (fun u2 => (zbn ((1 : Int32) - u2) (fun a4 => (zbd (fX5_copyRow now ahead) (fun u5 => (zbd (fX5_go now p0 p1) (fun u7 => (zbd (fX5_countSealed u7.2 queue roomAt rooms a4) (fun u9 => (zbd (fX5_copyRow u5 u7.2) (fun u11 => (some ((((10 : Int32) * u7.1) + u9.1), u11, u9.2.1, u5, u9.2.2.1, u9.2.2.2)))))))))))))))
set_option maxHeartbeats 400000 in
set_option maxRecDepth 100000 in
theorem mX5_worthOf (l : Launch) (G : va_G) (k : Nat → ClassId) (ad : Nat → Nat) (sz : Nat) (thrown : Int32) (now : Nat → Int32) (saved : Nat → Int32) (hist : Nat → Nat → Int32) (kept : Int32) (reason : Int32) (detail : Int32) (isSaved : Int32) (comes : Nat → Int32) (queue : Nat → Int32) (far : Nat → Int32) (isInText : Int32) (ahead : Nat → Int32) (roomAt : Nat → Int32) (rooms : Int32) (text : Nat → Int32) (length : Int32) (at_ : Int32) (errorPosition : Int32) (toldFrom : Int32) (toldTo : Int32) (isWrong : Int32) (before : Nat → Int32) (p0 : Int32) (p1 : Int32) (o : Int32 × (Nat → Int32) × (Nat → Int32) × (Nat → Int32) × (Nat → Int32) × Int32) (hF : fX5_worthOf now queue ahead roomAt rooms p0 p1 = some o) : zMI l yX5_worthOf wsX5_worthOf rmX5_worthOf G k (zM ad k thrown now saved hist kept reason detail isSaved comes queue far isInText ahead roomAt rooms text length at_ errorPosition toldFrom toldTo isWrong before) sz [.ref (ad 0), .int p0, .int p1] o.1 (zM ad k thrown o.2.1 saved hist kept reason detail isSaved comes o.2.2.1 far isInText o.2.2.2.1 o.2.2.2.2.1 o.2.2.2.2.2 text length at_ errorPosition toldFrom toldTo isWrong before) := by
  refine zof_I (cc := cX5_worthOf) (nL := 6) (own := RX5) (rt := .int) (by decide) rfl rfl (Nat.le_of_ble_eq_true rfl) ?_
  intro p e s m args below meth c A Q C0 hK hA hret ls hl hw
  have hl : lv_has ls 6 [(0, .ref (ad 0)), (1, .int p0), (2, .int p1)] := hl
  obtain ⟨hx, hb, hr, hml, hown, hts, hlocks⟩ := id C0
  obtain ⟨H, hH⟩ : ∃ z, z = s.heap := ⟨_, rfl⟩
  rw [← hH] at hw ⊢
  unfold fX5_worthOf at hF
  refine lv_iconst (v := (1 : Int32)) hx hb dX5_worthOf_0 (by decide) ?_
  refine lv_aload_n hx hb dX5_worthOf_1 rfl (lv_at hl 0 rfl) ?_
  refine va_get (D := G) (ci := 4) (v := .ref (ad 1)) (C := RX5) (T := TX5) (N := 23) hx hb hts inX5_worthOf_X5 hown hK.1 hw.1 0 rfl rfl 1 (by decide) (hts (.fieldLink RX5 9 "SealedBoardModel" "now" "[I") (by decide +kernel)) (fun _ h9 => h9) rfl dX5_worthOf_2 ?_
  refine lv_iload_n hx hb dX5_worthOf_5 rfl (lv_at hl 1 rfl) ?_
  obtain ⟨hi1, hF⟩ := zck_in hF
  refine va_iald hx hb hK.1 hw.1 1 2 rfl rfl hi1 dX5_worthOf_6 ?_
  obtain ⟨u2, hq3, hF⟩ := zbd_t hF
  refine zgoI (w' := (zM ad k thrown now saved hist kept reason detail isSaved comes queue far isInText ahead roomAt rooms text length at_ errorPosition toldFrom toldTo isWrong before)) hw hA [] rfl (zS (As := [.int (now p0.toNatClampNeg)]) (rest := [.int (1 : Int32)]) ⟨hx, hb, hml, hown, hts⟩ (mX5_sideOf l G k  H.size  (now p0.toNatClampNeg) u2 hq3) (va_cwS 1 hts gX5_worthOf_X5_sideOf rfl rfl rfl kdX5_sideOf ⟨Nat.le_of_ble_eq_true rfl, Nat.le_of_ble_eq_true rfl⟩) hK hA hw [] rfl (by decide) rfl hl.1 rfl (Nat.le_of_ble_eq_true rfl) dX5_worthOf_7 ⟨Nat.le_of_ble_eq_true rfl, Nat.le_of_ble_eq_true rfl⟩) rfl rfl rfl (fun H locs hw => ?_)
  refine lv_isub hx hb dX5_worthOf_10 ?_
  refine lv_topi (fun a4 ea4 => ?_)
  have hF := zbn_t ea4 hF
  refine lv_istore_n (lv' := [(3, .int a4), (0, .ref (ad 0)), (1, .int p0), (2, .int p1)]) hx hb dX5_worthOf_11 rfl hl (by decide) rfl (fun ls hl => ?_)
  refine lv_aload_n hx hb dX5_worthOf_12 rfl (lv_at hl 1 rfl) ?_
  refine va_get (D := G) (ci := 4) (v := .ref (ad 1)) (C := RX5) (T := TX5) (N := 23) hx hb hts inX5_worthOf_X5 hown hK.1 hw.1 0 rfl rfl 1 (by decide) (hts (.fieldLink RX5 9 "SealedBoardModel" "now" "[I") (by decide +kernel)) (fun _ h9 => h9) rfl dX5_worthOf_13 ?_
  refine lv_aload_n hx hb dX5_worthOf_16 rfl (lv_at hl 1 rfl) ?_
  refine va_get (D := G) (ci := 4) (v := .ref (ad 7)) (C := RX5) (T := TX5) (N := 23) hx hb hts inX5_worthOf_X5 hown hK.1 hw.1 0 rfl rfl 12 (by decide) (hts (.fieldLink RX5 31 "SealedBoardModel" "ahead" "[I") (by decide +kernel)) (fun _ h9 => h9) rfl dX5_worthOf_17 ?_
  obtain ⟨u5, hq6, hF⟩ := zbd_t hF
  refine zgoV (w' := (zM ad k thrown now saved hist kept reason detail isSaved comes queue far isInText u5 roomAt rooms text length at_ errorPosition toldFrom toldTo isWrong before)) hw hA [1, 7] rfl (zS (As := [.ref (ad 1), .ref (ad 7)]) (rest := []) ⟨hx, hb, hml, hown, hts⟩ (mX5_copyRow l G k (ad 1) (ad 7) H.size now ahead  u5 hq6) (va_cwS 2 hts gX5_worthOf_X5_copyRow rfl rfl rfl kdX5_copyRow ⟨Nat.le_of_ble_eq_true rfl, Nat.le_of_ble_eq_true rfl⟩) hK hA hw [1, 7] rfl (by decide) rfl hl.1 rfl (Nat.le_of_ble_eq_true rfl) dX5_worthOf_20 ⟨Nat.le_of_ble_eq_true rfl, Nat.le_of_ble_eq_true rfl⟩) rfl rfl rfl (fun H locs hw => ?_)
  refine lv_aload_n hx hb dX5_worthOf_23 rfl (lv_at hl 1 rfl) ?_
  refine lv_iload_n hx hb dX5_worthOf_24 rfl (lv_at hl 2 rfl) ?_
  refine lv_iload_n hx hb dX5_worthOf_25 rfl (lv_at hl 3 rfl) ?_
  obtain ⟨u7, hq8, hF⟩ := zbd_t hF
  refine zgoIw (w' := (zM ad k thrown u7.2 saved hist kept reason detail isSaved comes queue far isInText u5 roomAt rooms text length at_ errorPosition toldFrom toldTo isWrong before)) hw hA (zVw (As := [.int p0, .int p1]) (rest := []) ⟨hx, hb, hml, hown, hts⟩ (mX5_go l G k ad H.size thrown now saved hist kept reason detail isSaved comes queue far isInText u5 roomAt rooms text length at_ errorPosition toldFrom toldTo isWrong before p0 p1 u7 hq8) (cwV 2 hts gX5_worthOf_X5_go rfl rfl rfl kdX5_go ⟨Nat.le_of_ble_eq_true rfl, Nat.le_of_ble_eq_true rfl⟩) hK hA hw 0 rfl rfl rfl rfl hl.1 rfl (Nat.le_of_ble_eq_true rfl) dX5_worthOf_26 ⟨Nat.le_of_ble_eq_true rfl, Nat.le_of_ble_eq_true rfl⟩) (fun H locs hw => ?_)
  refine lv_istore (lv' := [(4, .int u7.1), (3, .int a4), (0, .ref (ad 0)), (1, .int p0), (2, .int p1)]) hx hb dX5_worthOf_29 hl (by decide) rfl (fun ls hl => ?_)
  refine lv_aload_n hx hb dX5_worthOf_31 rfl (lv_at hl 2 rfl) ?_
  refine lv_iload_n hx hb dX5_worthOf_32 rfl (lv_at hl 1 rfl) ?_
  obtain ⟨u9, hq10, hF⟩ := zbd_t hF
  refine zgoIw (w' := (zM ad k thrown u7.2 saved hist kept reason detail isSaved comes u9.2.1 far isInText u5 u9.2.2.1 u9.2.2.2 text length at_ errorPosition toldFrom toldTo isWrong before)) hw hA (zVw (As := [.int a4]) (rest := []) ⟨hx, hb, hml, hown, hts⟩ (mX5_countSealed l G k ad H.size thrown u7.2 saved hist kept reason detail isSaved comes queue far isInText u5 roomAt rooms text length at_ errorPosition toldFrom toldTo isWrong before a4 u9 hq10) (cwV 1 hts gX5_worthOf_X5_countSealed rfl rfl rfl kdX5_countSealed ⟨Nat.le_of_ble_eq_true rfl, Nat.le_of_ble_eq_true rfl⟩) hK hA hw 0 rfl rfl rfl rfl hl.1 rfl (Nat.le_of_ble_eq_true rfl) dX5_worthOf_33 ⟨Nat.le_of_ble_eq_true rfl, Nat.le_of_ble_eq_true rfl⟩) (fun H locs hw => ?_)
  refine lv_istore (lv' := [(5, .int u9.1), (4, .int u7.1), (3, .int a4), (0, .ref (ad 0)), (1, .int p0), (2, .int p1)]) hx hb dX5_worthOf_36 hl (by decide) rfl (fun ls hl => ?_)
  refine lv_aload_n hx hb dX5_worthOf_38 rfl (lv_at hl 3 rfl) ?_
  refine va_get (D := G) (ci := 4) (v := .ref (ad 7)) (C := RX5) (T := TX5) (N := 23) hx hb hts inX5_worthOf_X5 hown hK.1 hw.1 0 rfl rfl 12 (by decide) (hts (.fieldLink RX5 31 "SealedBoardModel" "ahead" "[I") (by decide +kernel)) (fun _ h9 => h9) rfl dX5_worthOf_39 ?_
  refine lv_aload_n hx hb dX5_worthOf_42 rfl (lv_at hl 3 rfl) ?_
  refine va_get (D := G) (ci := 4) (v := .ref (ad 1)) (C := RX5) (T := TX5) (N := 23) hx hb hts inX5_worthOf_X5 hown hK.1 hw.1 0 rfl rfl 1 (by decide) (hts (.fieldLink RX5 9 "SealedBoardModel" "now" "[I") (by decide +kernel)) (fun _ h9 => h9) rfl dX5_worthOf_43 ?_
  obtain ⟨u11, hq12, hF⟩ := zbd_t hF
  refine zgoV (w' := (zM ad k thrown u11 saved hist kept reason detail isSaved comes u9.2.1 far isInText u5 u9.2.2.1 u9.2.2.2 text length at_ errorPosition toldFrom toldTo isWrong before)) hw hA [7, 1] rfl (zS (As := [.ref (ad 7), .ref (ad 1)]) (rest := []) ⟨hx, hb, hml, hown, hts⟩ (mX5_copyRow l G k (ad 7) (ad 1) H.size u5 u7.2  u11 hq12) (va_cwS 2 hts gX5_worthOf_X5_copyRow rfl rfl rfl kdX5_copyRow ⟨Nat.le_of_ble_eq_true rfl, Nat.le_of_ble_eq_true rfl⟩) hK hA hw [7, 1] rfl (by decide) rfl hl.1 rfl (Nat.le_of_ble_eq_true rfl) dX5_worthOf_46 ⟨Nat.le_of_ble_eq_true rfl, Nat.le_of_ble_eq_true rfl⟩) rfl rfl rfl (fun H locs hw => ?_)
  refine lv_bipush (v := (10 : Int32)) hx hb dX5_worthOf_49 (by decide) ?_
  refine lv_iload hx hb dX5_worthOf_51 (lv_at hl 1 rfl) ?_
  refine lv_imul hx hb dX5_worthOf_53 ?_
  refine lv_iload hx hb dX5_worthOf_54 (lv_at hl 0 rfl) ?_
  refine lv_iadd hx hb dX5_worthOf_56 ?_
  obtain rfl := Option.some.inj hF
  exact hret _ _ _ _ rfl hw dX5_worthOf_57

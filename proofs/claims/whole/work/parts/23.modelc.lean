/-! SealedBoardModel.isBusy(I)Z -/
abbrev rmX5_isBusy : Room := { frames := 0, cells := 0, slots := 0, locals := 0 }
theorem kdX5_isBusy : yX5_isBusy.cls = RX5 ∧ yX5_isBusy.cls ≠ "java/lang/invoke/MethodHandle" ∧ yX5_isBusy.cls ≠ "java/lang/invoke/VarHandle" ∧ (parseMethodDescriptor yX5_isBusy.desc).map (fun d => d.parameters.length) = some 1 := by decide +kernel
theorem inX5_isBusy_X5 : ∀ w ∈ u_ws RX5 TX5 23, w ∈ wsX5_isBusy := by decide +kernel
def fX5_isBusy (now : Nat → Int32) (p0 : Int32) : Option (Int32) := (zck (zin (74 : Int32) 76) (if 0 < (now (74 : Int32).toNatClampNeg) then (some ((1 : Int32))) else (zck (zin p0 76) (if (now p0.toNatClampNeg) = 0 then (zck (zin ((36 : Int32) + p0) 76) (if (now ((36 : Int32) + p0).toNatClampNeg) = 0 then (some ((0 : Int32))) else (some ((1 : Int32))))) else (some ((1 : Int32)))))))
set_option maxHeartbeats 400000 in
set_option maxRecDepth 100000 in
theorem mX5_isBusy (l : Launch) (G : va_G) (k : Nat → ClassId) (ad : Nat → Nat) (sz : Nat) (thrown : Int32) (now : Nat → Int32) (saved : Nat → Int32) (hist : Nat → Nat → Int32) (kept : Int32) (reason : Int32) (detail : Int32) (isSaved : Int32) (comes : Nat → Int32) (queue : Nat → Int32) (far : Nat → Int32) (isInText : Int32) (ahead : Nat → Int32) (roomAt : Nat → Int32) (rooms : Int32) (text : Nat → Int32) (length : Int32) (at_ : Int32) (errorPosition : Int32) (toldFrom : Int32) (toldTo : Int32) (isWrong : Int32) (before : Nat → Int32) (p0 : Int32) (o : Int32) (hF : fX5_isBusy now p0 = some o) : zMI l yX5_isBusy wsX5_isBusy rmX5_isBusy G k (zM ad k thrown now saved hist kept reason detail isSaved comes queue far isInText ahead roomAt rooms text length at_ errorPosition toldFrom toldTo isWrong before) sz [.ref (ad 0), .int p0] o (zM ad k thrown now saved hist kept reason detail isSaved comes queue far isInText ahead roomAt rooms text length at_ errorPosition toldFrom toldTo isWrong before) := by
  refine zof_I (cc := cX5_isBusy) (nL := 2) (own := RX5) (rt := .boolean) (by decide) rfl rfl (Nat.le_of_ble_eq_true rfl) ?_
  intro p e s m args below meth c A Q C0 hK hA hret ls hl hw
  have hl : lv_has ls 2 [(0, .ref (ad 0)), (1, .int p0)] := hl
  obtain ⟨hx, hb, hr, hml, hown, hts, hlocks⟩ := id C0
  obtain ⟨H, hH⟩ : ∃ z, z = s.heap := ⟨_, rfl⟩
  rw [← hH] at hw ⊢
  unfold fX5_isBusy at hF
  refine lv_aload_n hx hb dX5_isBusy_0 rfl (lv_at hl 0 rfl) ?_
  refine va_get (D := G) (ci := 4) (v := .ref (ad 1)) (C := RX5) (T := TX5) (N := 23) hx hb hts inX5_isBusy_X5 hown hK.1 hw.1 0 rfl rfl 1 (by decide) (hts (.fieldLink RX5 9 "SealedBoardModel" "now" "[I") (by decide +kernel)) (fun _ h9 => h9) rfl dX5_isBusy_1 ?_
  refine lv_bipush (v := (74 : Int32)) hx hb dX5_isBusy_4 (by decide) ?_
  obtain ⟨hi1, hF⟩ := zck_in hF
  refine va_iald hx hb hK.1 hw.1 1 2 rfl rfl hi1 dX5_isBusy_6 ?_
  refine lv_if_gt (tgt := 31) hx hb dX5_isBusy_7 (by decide) (fun hc => ?_) (fun hc => ?_)
  · have hF := zif_t hc hF
    refine lv_iconst (v := (1 : Int32)) hx hb dX5_isBusy_31 (by decide) ?_
    refine lv_goto (tgt := 36) hx hb dX5_isBusy_32 (by decide) ?_
    obtain rfl := Option.some.inj hF
    exact hret _ _ _ _ (zbo_n (x := (1 : Int32)) (by decide)) hw dX5_isBusy_36
  · have hF := zif_f hc hF
    refine lv_aload_n hx hb dX5_isBusy_10 rfl (lv_at hl 0 rfl) ?_
    refine va_get (D := G) (ci := 4) (v := .ref (ad 1)) (C := RX5) (T := TX5) (N := 23) hx hb hts inX5_isBusy_X5 hown hK.1 hw.1 0 rfl rfl 1 (by decide) (hts (.fieldLink RX5 9 "SealedBoardModel" "now" "[I") (by decide +kernel)) (fun _ h9 => h9) rfl dX5_isBusy_11 ?_
    refine lv_iload_n hx hb dX5_isBusy_14 rfl (lv_at hl 1 rfl) ?_
    obtain ⟨hi2, hF⟩ := zck_in hF
    refine va_iald hx hb hK.1 hw.1 1 2 rfl rfl hi2 dX5_isBusy_15 ?_
    refine lv_if_ne (tgt := 31) hx hb dX5_isBusy_16 (by decide) (fun hc => ?_) (fun hc => ?_)
    · have hF := zif_f hc hF
      refine lv_iconst (v := (1 : Int32)) hx hb dX5_isBusy_31 (by decide) ?_
      refine lv_goto (tgt := 36) hx hb dX5_isBusy_32 (by decide) ?_
      obtain rfl := Option.some.inj hF
      exact hret _ _ _ _ (zbo_n (x := (1 : Int32)) (by decide)) hw dX5_isBusy_36
    · have hF := zif_t hc hF
      refine lv_aload_n hx hb dX5_isBusy_19 rfl (lv_at hl 0 rfl) ?_
      refine va_get (D := G) (ci := 4) (v := .ref (ad 1)) (C := RX5) (T := TX5) (N := 23) hx hb hts inX5_isBusy_X5 hown hK.1 hw.1 0 rfl rfl 1 (by decide) (hts (.fieldLink RX5 9 "SealedBoardModel" "now" "[I") (by decide +kernel)) (fun _ h9 => h9) rfl dX5_isBusy_20 ?_
      refine lv_bipush (v := (36 : Int32)) hx hb dX5_isBusy_23 (by decide) ?_
      refine lv_iload_n hx hb dX5_isBusy_25 rfl (lv_at hl 1 rfl) ?_
      refine lv_iadd hx hb dX5_isBusy_26 ?_
      obtain ⟨hi3, hF⟩ := zck_in hF
      refine va_iald hx hb hK.1 hw.1 1 2 rfl rfl hi3 dX5_isBusy_27 ?_
      refine lv_if_eq (tgt := 35) hx hb dX5_isBusy_28 (by decide) (fun hc => ?_) (fun hc => ?_)
      · have hF := zif_t hc hF
        refine lv_iconst (v := (0 : Int32)) hx hb dX5_isBusy_35 (by decide) ?_
        obtain rfl := Option.some.inj hF
        exact hret _ _ _ _ (zbo_n (x := (0 : Int32)) (by decide)) hw dX5_isBusy_36
      · have hF := zif_f hc hF
        refine lv_iconst (v := (1 : Int32)) hx hb dX5_isBusy_31 (by decide) ?_
        refine lv_goto (tgt := 36) hx hb dX5_isBusy_32 (by decide) ?_
        obtain rfl := Option.some.inj hF
        exact hret _ _ _ _ (zbo_n (x := (1 : Int32)) (by decide)) hw dX5_isBusy_36

/-! SealedBoardModel.lay(III)I -/
abbrev rmX5_lay : Room := { frames := 3, cells := 0, slots := 0, locals := 65 }
theorem kdX5_lay : yX5_lay.cls = RX5 ∧ yX5_lay.cls ≠ "java/lang/invoke/MethodHandle" ∧ yX5_lay.cls ≠ "java/lang/invoke/VarHandle" ∧ (parseMethodDescriptor yX5_lay.desc).map (fun d => d.parameters.length) = some 3 := by decide +kernel
theorem inX5_lay_X5 : ∀ w ∈ u_ws RX5 TX5 23, w ∈ wsX5_lay := by decide +kernel
def fX5_lay_77   (thrown : Int32) (now : Nat → Int32) (hist : Nat → Nat → Int32) (kept : Int32) (x1 : Int32) (x2 : Int32) (x3 : Int32) (s0 : Int32) (s1 : Int32) : Option (Int32 × Int32 × (Nat → Int32) × (Nat → Nat → Int32) × Int32) := (zbd (fX5_fails thrown s1 s0) (fun u1 => (if u1.1 = 0 then (zbd (fX5_remember now hist kept) (fun u3 => (zbd (fX5_codeOf x1 x2) (fun u5 => (zck (zin x3 76) (zbd (fX5_countPieces (upd now x3.toNatClampNeg u5) x1) (fun u8 => (some (u8, u1.2, (upd now x3.toNatClampNeg u5), u3.1, u3.2))))))))) else (some ((0 : Int32), u1.2, now, hist, kept)))))
def fX5_lay_76   (thrown : Int32) (now : Nat → Int32) (hist : Nat → Nat → Int32) (kept : Int32) (x1 : Int32) (x2 : Int32) (x3 : Int32) (s0 : Int32) : Option (Int32 × Int32 × (Nat → Int32) × (Nat → Nat → Int32) × Int32) := (fX5_lay_77    thrown now hist kept x1 x2 x3 (0 : Int32) s0)
def fX5_lay_72   (thrown : Int32) (now : Nat → Int32) (hist : Nat → Nat → Int32) (kept : Int32) (x1 : Int32) (x2 : Int32) (x3 : Int32) (s0 : Int32) : Option (Int32 × Int32 × (Nat → Int32) × (Nat → Nat → Int32) × Int32) := (fX5_lay_77    thrown now hist kept x1 x2 x3 (1 : Int32) s0)
def fX5_lay_43   (thrown : Int32) (now : Nat → Int32) (hist : Nat → Nat → Int32) (kept : Int32) (x1 : Int32) (x2 : Int32) (x3 : Int32) (s0 : Int32) (s1 : Int32) : Option (Int32 × Int32 × (Nat → Int32) × (Nat → Nat → Int32) × Int32) := (zbd (fX5_fails thrown s1 s0) (fun u1 => (if u1.1 = 0 then (zbd (fX5_isBusy now x3) (fun u3 => (if u3 = 0 then (if x2 = (3 : Int32) then (zbd (fX5_keeperOf now x1) (fun u5 => (if u5 < 0 then (fX5_lay_76    u1.2 now hist kept x1 x2 x3 (3 : Int32)) else (fX5_lay_72    u1.2 now hist kept x1 x2 x3 (3 : Int32))))) else (fX5_lay_76    u1.2 now hist kept x1 x2 x3 (3 : Int32))) else (fX5_lay_72    u1.2 now hist kept x1 x2 x3 (3 : Int32))))) else (some ((0 : Int32), u1.2, now, hist, kept)))))
def fX5_lay_21   (thrown : Int32) (now : Nat → Int32) (hist : Nat → Nat → Int32) (kept : Int32) (x1 : Int32) (x2 : Int32) (x3 : Int32) (s0 : Int32) (s1 : Int32) : Option (Int32 × Int32 × (Nat → Int32) × (Nat → Nat → Int32) × Int32) := (zbd (fX5_fails thrown s1 s0) (fun u1 => (if u1.1 = 0 then (zbd (fX5_isBetween x2 (0 : Int32) (3 : Int32)) (fun u3 => (if u3 = 0 then (fX5_lay_43    u1.2 now hist kept x1 x2 x3 (1 : Int32) (2 : Int32)) else (fX5_lay_43    u1.2 now hist kept x1 x2 x3 (0 : Int32) (2 : Int32))))) else (some ((0 : Int32), u1.2, now, hist, kept)))))
def fX5_lay_16   (thrown : Int32) (now : Nat → Int32) (hist : Nat → Nat → Int32) (kept : Int32) (x1 : Int32) (x2 : Int32) (x3 : Int32) (s0 : Int32) : Option (Int32 × Int32 × (Nat → Int32) × (Nat → Nat → Int32) × Int32) := (fX5_lay_21    thrown now hist kept x1 x2 x3 (1 : Int32) s0)
def fX5_lay (thrown : Int32) (now : Nat → Int32) (hist : Nat → Nat → Int32) (kept : Int32) (p0 : Int32) (p1 : Int32) (p2 : Int32) : Option (Int32 × Int32 × (Nat → Int32) × (Nat → Nat → Int32) × Int32) := (zbd (fX5_isSide p0) (fun u1 => (if u1 = 0 then (fX5_lay_16    thrown now hist kept p0 p1 p2 (1 : Int32)) else (zbd (fX5_isSquare p2) (fun u3 => (if u3 = 0 then (fX5_lay_16    thrown now hist kept p0 p1 p2 (1 : Int32)) else (fX5_lay_21    thrown now hist kept p0 p1 p2 (0 : Int32) (1 : Int32))))))))
set_option maxHeartbeats 400000 in
set_option maxRecDepth 100000 in
theorem wX5_lay_77 {p : Program} {l : Launch} {e : Env} {s : State} {m : MethodId} {args : Array Value} {below : List Frame} {meth : Method} {c : Code} {A : Nat → Prop} {Q : State → Prop} {G : va_G} {k : Nat → ClassId} {ad : Nat → Nat} {saved : Nat → Int32} {reason : Int32} {detail : Int32} {isSaved : Int32} {comes : Nat → Int32} {queue : Nat → Int32} {far : Nat → Int32} {isInText : Int32} {ahead : Nat → Int32} {roomAt : Nat → Int32} {rooms : Int32} {text : Nat → Int32} {length : Int32} {at_ : Int32} {errorPosition : Int32} {toldFrom : Int32} {toldTo : Int32} {isWrong : Int32} {before : Nat → Int32} {o : Int32 × Int32 × (Nat → Int32) × (Nat → Nat → Int32) × Int32} (C0 : zCx p s m args meth c wsX5_lay cX5_lay RX5 (some .int) 4) (hK : zKK G k A s s.heap) (hA : ∀ q : Nat, s.heap.size ≤ q → A q) (hret : zRI p l e rmX5_lay s m args below meth c cX5_lay G A 0 0 Q .int (zM ad k o.2.1 o.2.2.1 saved o.2.2.2.1 o.2.2.2.2 reason detail isSaved comes queue far isInText ahead roomAt rooms text length at_ errorPosition toldFrom toldTo isWrong before) o.1)  : ∀ (thrown : Int32) (now : Nat → Int32) (hist : Nat → Nat → Int32) (kept : Int32) (x1 : Int32) (x2 : Int32) (x3 : Int32) (s0 : Int32) (s1 : Int32), fX5_lay_77   thrown now hist kept x1 x2 x3 s0 s1 = some o → ∀ (H : Heap) (locs : List Loc) (ls : Array Slot), zWd G A s (zM ad k thrown now saved hist kept reason detail isSaved comes queue far isInText ahead roomAt rooms text length at_ errorPosition toldFrom toldTo isWrong before) H locs → lv_has ls 4 [(0, .ref (ad 0)), (1, .int x1), (2, .int x2), (3, .int x3)] → W p l e rmX5_lay s m args below meth c H locs 0 0 Q (F0 m 77 ls [.int s0, .int s1, .ref (ad 0)]) := by
  obtain ⟨hx, hb, hr, hml, hown, hts, hlocks⟩ := id C0
  intro thrown now hist kept x1 x2 x3 s0 s1 hF H locs ls hw hl
  unfold fX5_lay_77 at hF
  obtain ⟨u1, hq2, hF⟩ := zbd_t hF
  refine zgoIw (w' := (zM ad k u1.2 now saved hist kept reason detail isSaved comes queue far isInText ahead roomAt rooms text length at_ errorPosition toldFrom toldTo isWrong before)) hw hA (zVw (As := [.int s1, .int s0]) (rest := []) ⟨hx, hb, hml, hown, hts⟩ (mX5_fails l G k ad H.size thrown now saved hist kept reason detail isSaved comes queue far isInText ahead roomAt rooms text length at_ errorPosition toldFrom toldTo isWrong before s1 s0 u1 hq2) (cwV 2 hts gX5_lay_X5_fails rfl rfl rfl kdX5_fails ⟨Nat.le_of_ble_eq_true rfl, Nat.le_of_ble_eq_true rfl⟩) hK hA hw 0 rfl rfl rfl rfl hl.1 rfl (Nat.le_of_ble_eq_true rfl) dX5_lay_77 ⟨Nat.le_of_ble_eq_true rfl, Nat.le_of_ble_eq_true rfl⟩) (fun H locs hw => ?_)
  refine lv_if_eq (tgt := 85) hx hb dX5_lay_80 (by decide) (fun hc => ?_) (fun hc => ?_)
  · have hF := zif_t hc hF
    refine lv_aload_n hx hb dX5_lay_85 rfl (lv_at hl 0 rfl) ?_
    refine lv_aload_n hx hb dX5_lay_86 rfl (lv_at hl 0 rfl) ?_
    refine va_get (D := G) (ci := 4) (v := .ref (ad 1)) (C := RX5) (T := TX5) (N := 23) hx hb hts inX5_lay_X5 hown hK.1 hw.1 0 rfl rfl 1 (by decide) (hts (.fieldLink RX5 9 "SealedBoardModel" "now" "[I") (by decide +kernel)) (fun _ h9 => h9) rfl dX5_lay_87 ?_
    obtain ⟨u3, hq4, hF⟩ := zbd_t hF
    refine zgoVw (w' := (zM ad k u1.2 now saved u3.1 u3.2 reason detail isSaved comes queue far isInText ahead roomAt rooms text length at_ errorPosition toldFrom toldTo isWrong before)) hw hA (zVw (As := [.ref (ad 1)]) (rest := []) ⟨hx, hb, hml, hown, hts⟩ (mX5_remember l G k ad H.size u1.2 now saved hist kept reason detail isSaved comes queue far isInText ahead roomAt rooms text length at_ errorPosition toldFrom toldTo isWrong before  u3 hq4) (cwV 1 hts gX5_lay_X5_remember rfl rfl rfl kdX5_remember ⟨Nat.le_of_ble_eq_true rfl, Nat.le_of_ble_eq_true rfl⟩) hK hA hw 0 rfl rfl rfl rfl hl.1 rfl (Nat.le_of_ble_eq_true rfl) dX5_lay_90 ⟨Nat.le_of_ble_eq_true rfl, Nat.le_of_ble_eq_true rfl⟩) (fun H locs hw => ?_)
    refine lv_aload_n hx hb dX5_lay_93 rfl (lv_at hl 0 rfl) ?_
    refine va_get (D := G) (ci := 4) (v := .ref (ad 1)) (C := RX5) (T := TX5) (N := 23) hx hb hts inX5_lay_X5 hown hK.1 hw.1 0 rfl rfl 1 (by decide) (hts (.fieldLink RX5 9 "SealedBoardModel" "now" "[I") (by decide +kernel)) (fun _ h9 => h9) rfl dX5_lay_94 ?_
    refine lv_iload_n hx hb dX5_lay_97 rfl (lv_at hl 3 rfl) ?_
    refine lv_iload_n hx hb dX5_lay_98 rfl (lv_at hl 1 rfl) ?_
    refine lv_iload_n hx hb dX5_lay_99 rfl (lv_at hl 2 rfl) ?_
    obtain ⟨u5, hq6, hF⟩ := zbd_t hF
    refine zgoI (w' := (zM ad k u1.2 now saved u3.1 u3.2 reason detail isSaved comes queue far isInText ahead roomAt rooms text length at_ errorPosition toldFrom toldTo isWrong before)) hw hA [] rfl (zS (As := [.int x1, .int x2]) (rest := [.int x3, .ref (ad 1)]) ⟨hx, hb, hml, hown, hts⟩ (mX5_codeOf l G k  H.size  x1 x2 u5 hq6) (va_cwS 2 hts gX5_lay_X5_codeOf rfl rfl rfl kdX5_codeOf ⟨Nat.le_of_ble_eq_true rfl, Nat.le_of_ble_eq_true rfl⟩) hK hA hw [] rfl (by decide) rfl hl.1 rfl (Nat.le_of_ble_eq_true rfl) dX5_lay_100 ⟨Nat.le_of_ble_eq_true rfl, Nat.le_of_ble_eq_true rfl⟩) rfl rfl rfl (fun H locs hw => ?_)
    obtain ⟨hi7, hF⟩ := zck_in hF
    refine va_iast hx hb hK.1 hw.1 hw.2.1 hw.2.2 1 2 rfl rfl hi7 dX5_lay_103 (fun H locs hP hD hS => ?_)
    have hw : zWd G A s (zM ad k u1.2 (upd now x3.toNatClampNeg u5) saved u3.1 u3.2 reason detail isSaved comes queue far isInText ahead roomAt rooms text length at_ errorPosition toldFrom toldTo isWrong before) H locs := ⟨hP, hD, hS⟩
    refine lv_aload_n hx hb dX5_lay_104 rfl (lv_at hl 0 rfl) ?_
    refine lv_iload_n hx hb dX5_lay_105 rfl (lv_at hl 1 rfl) ?_
    obtain ⟨u8, hq9, hF⟩ := zbd_t hF
    refine zgoIw (w' := (zM ad k u1.2 (upd now x3.toNatClampNeg u5) saved u3.1 u3.2 reason detail isSaved comes queue far isInText ahead roomAt rooms text length at_ errorPosition toldFrom toldTo isWrong before)) hw hA (zVw (As := [.int x1]) (rest := []) ⟨hx, hb, hml, hown, hts⟩ (mX5_countPieces l G k ad H.size u1.2 (upd now x3.toNatClampNeg u5) saved u3.1 u3.2 reason detail isSaved comes queue far isInText ahead roomAt rooms text length at_ errorPosition toldFrom toldTo isWrong before x1 u8 hq9) (cwV 1 hts gX5_lay_X5_countPieces rfl rfl rfl kdX5_countPieces ⟨Nat.le_of_ble_eq_true rfl, Nat.le_of_ble_eq_true rfl⟩) hK hA hw 0 rfl rfl rfl rfl hl.1 rfl (Nat.le_of_ble_eq_true rfl) dX5_lay_106 ⟨Nat.le_of_ble_eq_true rfl, Nat.le_of_ble_eq_true rfl⟩) (fun H locs hw => ?_)
    obtain rfl := Option.some.inj hF
    exact hret _ _ _ _ rfl hw dX5_lay_109
  · have hF := zif_f hc hF
    refine lv_iconst (v := (0 : Int32)) hx hb dX5_lay_83 (by decide) ?_
    obtain rfl := Option.some.inj hF
    exact hret _ _ _ _ rfl hw dX5_lay_84
set_option maxHeartbeats 400000 in
set_option maxRecDepth 100000 in
theorem wX5_lay_76 {p : Program} {l : Launch} {e : Env} {s : State} {m : MethodId} {args : Array Value} {below : List Frame} {meth : Method} {c : Code} {A : Nat → Prop} {Q : State → Prop} {G : va_G} {k : Nat → ClassId} {ad : Nat → Nat} {saved : Nat → Int32} {reason : Int32} {detail : Int32} {isSaved : Int32} {comes : Nat → Int32} {queue : Nat → Int32} {far : Nat → Int32} {isInText : Int32} {ahead : Nat → Int32} {roomAt : Nat → Int32} {rooms : Int32} {text : Nat → Int32} {length : Int32} {at_ : Int32} {errorPosition : Int32} {toldFrom : Int32} {toldTo : Int32} {isWrong : Int32} {before : Nat → Int32} {o : Int32 × Int32 × (Nat → Int32) × (Nat → Nat → Int32) × Int32} (C0 : zCx p s m args meth c wsX5_lay cX5_lay RX5 (some .int) 4) (hK : zKK G k A s s.heap) (hA : ∀ q : Nat, s.heap.size ≤ q → A q) (hret : zRI p l e rmX5_lay s m args below meth c cX5_lay G A 0 0 Q .int (zM ad k o.2.1 o.2.2.1 saved o.2.2.2.1 o.2.2.2.2 reason detail isSaved comes queue far isInText ahead roomAt rooms text length at_ errorPosition toldFrom toldTo isWrong before) o.1)  : ∀ (thrown : Int32) (now : Nat → Int32) (hist : Nat → Nat → Int32) (kept : Int32) (x1 : Int32) (x2 : Int32) (x3 : Int32) (s0 : Int32), fX5_lay_76   thrown now hist kept x1 x2 x3 s0 = some o → ∀ (H : Heap) (locs : List Loc) (ls : Array Slot), zWd G A s (zM ad k thrown now saved hist kept reason detail isSaved comes queue far isInText ahead roomAt rooms text length at_ errorPosition toldFrom toldTo isWrong before) H locs → lv_has ls 4 [(0, .ref (ad 0)), (1, .int x1), (2, .int x2), (3, .int x3)] → W p l e rmX5_lay s m args below meth c H locs 0 0 Q (F0 m 76 ls [.int s0, .ref (ad 0)]) := by
  obtain ⟨hx, hb, hr, hml, hown, hts, hlocks⟩ := id C0
  intro thrown now hist kept x1 x2 x3 s0 hF H locs ls hw hl
  unfold fX5_lay_76 at hF
  refine lv_iconst (v := (0 : Int32)) hx hb dX5_lay_76 (by decide) ?_
  exact wX5_lay_77 C0 hK hA hret   _ _ _ _ _ _ _ _ _ hF _ _ _ hw (lv_sub hl [0, 1, 2, 3] rfl)
set_option maxHeartbeats 400000 in
set_option maxRecDepth 100000 in
theorem wX5_lay_72 {p : Program} {l : Launch} {e : Env} {s : State} {m : MethodId} {args : Array Value} {below : List Frame} {meth : Method} {c : Code} {A : Nat → Prop} {Q : State → Prop} {G : va_G} {k : Nat → ClassId} {ad : Nat → Nat} {saved : Nat → Int32} {reason : Int32} {detail : Int32} {isSaved : Int32} {comes : Nat → Int32} {queue : Nat → Int32} {far : Nat → Int32} {isInText : Int32} {ahead : Nat → Int32} {roomAt : Nat → Int32} {rooms : Int32} {text : Nat → Int32} {length : Int32} {at_ : Int32} {errorPosition : Int32} {toldFrom : Int32} {toldTo : Int32} {isWrong : Int32} {before : Nat → Int32} {o : Int32 × Int32 × (Nat → Int32) × (Nat → Nat → Int32) × Int32} (C0 : zCx p s m args meth c wsX5_lay cX5_lay RX5 (some .int) 4) (hK : zKK G k A s s.heap) (hA : ∀ q : Nat, s.heap.size ≤ q → A q) (hret : zRI p l e rmX5_lay s m args below meth c cX5_lay G A 0 0 Q .int (zM ad k o.2.1 o.2.2.1 saved o.2.2.2.1 o.2.2.2.2 reason detail isSaved comes queue far isInText ahead roomAt rooms text length at_ errorPosition toldFrom toldTo isWrong before) o.1)  : ∀ (thrown : Int32) (now : Nat → Int32) (hist : Nat → Nat → Int32) (kept : Int32) (x1 : Int32) (x2 : Int32) (x3 : Int32) (s0 : Int32), fX5_lay_72   thrown now hist kept x1 x2 x3 s0 = some o → ∀ (H : Heap) (locs : List Loc) (ls : Array Slot), zWd G A s (zM ad k thrown now saved hist kept reason detail isSaved comes queue far isInText ahead roomAt rooms text length at_ errorPosition toldFrom toldTo isWrong before) H locs → lv_has ls 4 [(0, .ref (ad 0)), (1, .int x1), (2, .int x2), (3, .int x3)] → W p l e rmX5_lay s m args below meth c H locs 0 0 Q (F0 m 72 ls [.int s0, .ref (ad 0)]) := by
  obtain ⟨hx, hb, hr, hml, hown, hts, hlocks⟩ := id C0
  intro thrown now hist kept x1 x2 x3 s0 hF H locs ls hw hl
  unfold fX5_lay_72 at hF
  refine lv_iconst (v := (1 : Int32)) hx hb dX5_lay_72 (by decide) ?_
  refine lv_goto (tgt := 77) hx hb dX5_lay_73 (by decide) ?_
  exact wX5_lay_77 C0 hK hA hret   _ _ _ _ _ _ _ _ _ hF _ _ _ hw (lv_sub hl [0, 1, 2, 3] rfl)
set_option maxHeartbeats 400000 in
set_option maxRecDepth 100000 in
theorem wX5_lay_43 {p : Program} {l : Launch} {e : Env} {s : State} {m : MethodId} {args : Array Value} {below : List Frame} {meth : Method} {c : Code} {A : Nat → Prop} {Q : State → Prop} {G : va_G} {k : Nat → ClassId} {ad : Nat → Nat} {saved : Nat → Int32} {reason : Int32} {detail : Int32} {isSaved : Int32} {comes : Nat → Int32} {queue : Nat → Int32} {far : Nat → Int32} {isInText : Int32} {ahead : Nat → Int32} {roomAt : Nat → Int32} {rooms : Int32} {text : Nat → Int32} {length : Int32} {at_ : Int32} {errorPosition : Int32} {toldFrom : Int32} {toldTo : Int32} {isWrong : Int32} {before : Nat → Int32} {o : Int32 × Int32 × (Nat → Int32) × (Nat → Nat → Int32) × Int32} (C0 : zCx p s m args meth c wsX5_lay cX5_lay RX5 (some .int) 4) (hK : zKK G k A s s.heap) (hA : ∀ q : Nat, s.heap.size ≤ q → A q) (hret : zRI p l e rmX5_lay s m args below meth c cX5_lay G A 0 0 Q .int (zM ad k o.2.1 o.2.2.1 saved o.2.2.2.1 o.2.2.2.2 reason detail isSaved comes queue far isInText ahead roomAt rooms text length at_ errorPosition toldFrom toldTo isWrong before) o.1)  : ∀ (thrown : Int32) (now : Nat → Int32) (hist : Nat → Nat → Int32) (kept : Int32) (x1 : Int32) (x2 : Int32) (x3 : Int32) (s0 : Int32) (s1 : Int32), fX5_lay_43   thrown now hist kept x1 x2 x3 s0 s1 = some o → ∀ (H : Heap) (locs : List Loc) (ls : Array Slot), zWd G A s (zM ad k thrown now saved hist kept reason detail isSaved comes queue far isInText ahead roomAt rooms text length at_ errorPosition toldFrom toldTo isWrong before) H locs → lv_has ls 4 [(0, .ref (ad 0)), (1, .int x1), (2, .int x2), (3, .int x3)] → W p l e rmX5_lay s m args below meth c H locs 0 0 Q (F0 m 43 ls [.int s0, .int s1, .ref (ad 0)]) := by
  obtain ⟨hx, hb, hr, hml, hown, hts, hlocks⟩ := id C0
  intro thrown now hist kept x1 x2 x3 s0 s1 hF H locs ls hw hl
  unfold fX5_lay_43 at hF
  obtain ⟨u1, hq2, hF⟩ := zbd_t hF
  refine zgoIw (w' := (zM ad k u1.2 now saved hist kept reason detail isSaved comes queue far isInText ahead roomAt rooms text length at_ errorPosition toldFrom toldTo isWrong before)) hw hA (zVw (As := [.int s1, .int s0]) (rest := []) ⟨hx, hb, hml, hown, hts⟩ (mX5_fails l G k ad H.size thrown now saved hist kept reason detail isSaved comes queue far isInText ahead roomAt rooms text length at_ errorPosition toldFrom toldTo isWrong before s1 s0 u1 hq2) (cwV 2 hts gX5_lay_X5_fails rfl rfl rfl kdX5_fails ⟨Nat.le_of_ble_eq_true rfl, Nat.le_of_ble_eq_true rfl⟩) hK hA hw 0 rfl rfl rfl rfl hl.1 rfl (Nat.le_of_ble_eq_true rfl) dX5_lay_43 ⟨Nat.le_of_ble_eq_true rfl, Nat.le_of_ble_eq_true rfl⟩) (fun H locs hw => ?_)
  refine lv_if_ne (tgt := 83) hx hb dX5_lay_46 (by decide) (fun hc => ?_) (fun hc => ?_)
  · have hF := zif_f hc hF
    refine lv_iconst (v := (0 : Int32)) hx hb dX5_lay_83 (by decide) ?_
    obtain rfl := Option.some.inj hF
    exact hret _ _ _ _ rfl hw dX5_lay_84
  · have hF := zif_t hc hF
    refine lv_aload_n hx hb dX5_lay_49 rfl (lv_at hl 0 rfl) ?_
    refine lv_iconst (v := (3 : Int32)) hx hb dX5_lay_50 (by decide) ?_
    refine lv_aload_n hx hb dX5_lay_51 rfl (lv_at hl 0 rfl) ?_
    refine lv_iload_n hx hb dX5_lay_52 rfl (lv_at hl 3 rfl) ?_
    obtain ⟨u3, hq4, hF⟩ := zbd_t hF
    refine zgoIw (w' := (zM ad k u1.2 now saved hist kept reason detail isSaved comes queue far isInText ahead roomAt rooms text length at_ errorPosition toldFrom toldTo isWrong before)) hw hA (zVw (As := [.int x3]) (rest := [.int (3 : Int32), .ref (ad 0)]) ⟨hx, hb, hml, hown, hts⟩ (mX5_isBusy l G k ad H.size u1.2 now saved hist kept reason detail isSaved comes queue far isInText ahead roomAt rooms text length at_ errorPosition toldFrom toldTo isWrong before x3 u3 hq4) (cwV 1 hts gX5_lay_X5_isBusy rfl rfl rfl kdX5_isBusy ⟨Nat.le_of_ble_eq_true rfl, Nat.le_of_ble_eq_true rfl⟩) hK hA hw 0 rfl rfl rfl rfl hl.1 rfl (Nat.le_of_ble_eq_true rfl) dX5_lay_53 ⟨Nat.le_of_ble_eq_true rfl, Nat.le_of_ble_eq_true rfl⟩) (fun H locs hw => ?_)
    refine lv_if_ne (tgt := 72) hx hb dX5_lay_56 (by decide) (fun hc => ?_) (fun hc => ?_)
    · have hF := zif_f hc hF
      exact wX5_lay_72 C0 hK hA hret   _ _ _ _ _ _ _ _ hF _ _ _ hw (lv_sub hl [0, 1, 2, 3] rfl)
    · have hF := zif_t hc hF
      refine lv_iload_n hx hb dX5_lay_59 rfl (lv_at hl 2 rfl) ?_
      refine lv_iconst (v := (3 : Int32)) hx hb dX5_lay_60 (by decide) ?_
      refine lv_icmp_ne (tgt := 76) hx hb dX5_lay_61 (by decide) (fun hc => ?_) (fun hc => ?_)
      · have hF := zif_f hc hF
        exact wX5_lay_76 C0 hK hA hret   _ _ _ _ _ _ _ _ hF _ _ _ hw (lv_sub hl [0, 1, 2, 3] rfl)
      · have hF := zif_t hc hF
        refine lv_aload_n hx hb dX5_lay_64 rfl (lv_at hl 0 rfl) ?_
        refine lv_iload_n hx hb dX5_lay_65 rfl (lv_at hl 1 rfl) ?_
        obtain ⟨u5, hq6, hF⟩ := zbd_t hF
        refine zgoIw (w' := (zM ad k u1.2 now saved hist kept reason detail isSaved comes queue far isInText ahead roomAt rooms text length at_ errorPosition toldFrom toldTo isWrong before)) hw hA (zVw (As := [.int x1]) (rest := [.int (3 : Int32), .ref (ad 0)]) ⟨hx, hb, hml, hown, hts⟩ (mX5_keeperOf l G k ad H.size u1.2 now saved hist kept reason detail isSaved comes queue far isInText ahead roomAt rooms text length at_ errorPosition toldFrom toldTo isWrong before x1 u5 hq6) (cwV 1 hts gX5_lay_X5_keeperOf rfl rfl rfl kdX5_keeperOf ⟨Nat.le_of_ble_eq_true rfl, Nat.le_of_ble_eq_true rfl⟩) hK hA hw 0 rfl rfl rfl rfl hl.1 rfl (Nat.le_of_ble_eq_true rfl) dX5_lay_66 ⟨Nat.le_of_ble_eq_true rfl, Nat.le_of_ble_eq_true rfl⟩) (fun H locs hw => ?_)
        refine lv_if_lt (tgt := 76) hx hb dX5_lay_69 (by decide) (fun hc => ?_) (fun hc => ?_)
        · have hF := zif_t hc hF
          exact wX5_lay_76 C0 hK hA hret   _ _ _ _ _ _ _ _ hF _ _ _ hw (lv_sub hl [0, 1, 2, 3] rfl)
        · have hF := zif_f hc hF
          exact wX5_lay_72 C0 hK hA hret   _ _ _ _ _ _ _ _ hF _ _ _ hw (lv_sub hl [0, 1, 2, 3] rfl)
set_option maxHeartbeats 400000 in
set_option maxRecDepth 100000 in
theorem wX5_lay_21 {p : Program} {l : Launch} {e : Env} {s : State} {m : MethodId} {args : Array Value} {below : List Frame} {meth : Method} {c : Code} {A : Nat → Prop} {Q : State → Prop} {G : va_G} {k : Nat → ClassId} {ad : Nat → Nat} {saved : Nat → Int32} {reason : Int32} {detail : Int32} {isSaved : Int32} {comes : Nat → Int32} {queue : Nat → Int32} {far : Nat → Int32} {isInText : Int32} {ahead : Nat → Int32} {roomAt : Nat → Int32} {rooms : Int32} {text : Nat → Int32} {length : Int32} {at_ : Int32} {errorPosition : Int32} {toldFrom : Int32} {toldTo : Int32} {isWrong : Int32} {before : Nat → Int32} {o : Int32 × Int32 × (Nat → Int32) × (Nat → Nat → Int32) × Int32} (C0 : zCx p s m args meth c wsX5_lay cX5_lay RX5 (some .int) 4) (hK : zKK G k A s s.heap) (hA : ∀ q : Nat, s.heap.size ≤ q → A q) (hret : zRI p l e rmX5_lay s m args below meth c cX5_lay G A 0 0 Q .int (zM ad k o.2.1 o.2.2.1 saved o.2.2.2.1 o.2.2.2.2 reason detail isSaved comes queue far isInText ahead roomAt rooms text length at_ errorPosition toldFrom toldTo isWrong before) o.1)  : ∀ (thrown : Int32) (now : Nat → Int32) (hist : Nat → Nat → Int32) (kept : Int32) (x1 : Int32) (x2 : Int32) (x3 : Int32) (s0 : Int32) (s1 : Int32), fX5_lay_21   thrown now hist kept x1 x2 x3 s0 s1 = some o → ∀ (H : Heap) (locs : List Loc) (ls : Array Slot), zWd G A s (zM ad k thrown now saved hist kept reason detail isSaved comes queue far isInText ahead roomAt rooms text length at_ errorPosition toldFrom toldTo isWrong before) H locs → lv_has ls 4 [(0, .ref (ad 0)), (1, .int x1), (2, .int x2), (3, .int x3)] → W p l e rmX5_lay s m args below meth c H locs 0 0 Q (F0 m 21 ls [.int s0, .int s1, .ref (ad 0)]) := by
  obtain ⟨hx, hb, hr, hml, hown, hts, hlocks⟩ := id C0
  intro thrown now hist kept x1 x2 x3 s0 s1 hF H locs ls hw hl
  unfold fX5_lay_21 at hF
  obtain ⟨u1, hq2, hF⟩ := zbd_t hF
  refine zgoIw (w' := (zM ad k u1.2 now saved hist kept reason detail isSaved comes queue far isInText ahead roomAt rooms text length at_ errorPosition toldFrom toldTo isWrong before)) hw hA (zVw (As := [.int s1, .int s0]) (rest := []) ⟨hx, hb, hml, hown, hts⟩ (mX5_fails l G k ad H.size thrown now saved hist kept reason detail isSaved comes queue far isInText ahead roomAt rooms text length at_ errorPosition toldFrom toldTo isWrong before s1 s0 u1 hq2) (cwV 2 hts gX5_lay_X5_fails rfl rfl rfl kdX5_fails ⟨Nat.le_of_ble_eq_true rfl, Nat.le_of_ble_eq_true rfl⟩) hK hA hw 0 rfl rfl rfl rfl hl.1 rfl (Nat.le_of_ble_eq_true rfl) dX5_lay_21 ⟨Nat.le_of_ble_eq_true rfl, Nat.le_of_ble_eq_true rfl⟩) (fun H locs hw => ?_)
  refine lv_if_ne (tgt := 83) hx hb dX5_lay_24 (by decide) (fun hc => ?_) (fun hc => ?_)
  · have hF := zif_f hc hF
    refine lv_iconst (v := (0 : Int32)) hx hb dX5_lay_83 (by decide) ?_
    obtain rfl := Option.some.inj hF
    exact hret _ _ _ _ rfl hw dX5_lay_84
  · have hF := zif_t hc hF
    refine lv_aload_n hx hb dX5_lay_27 rfl (lv_at hl 0 rfl) ?_
    refine lv_iconst (v := (2 : Int32)) hx hb dX5_lay_28 (by decide) ?_
    refine lv_iload_n hx hb dX5_lay_29 rfl (lv_at hl 2 rfl) ?_
    refine lv_iconst (v := (0 : Int32)) hx hb dX5_lay_30 (by decide) ?_
    refine lv_iconst (v := (3 : Int32)) hx hb dX5_lay_31 (by decide) ?_
    obtain ⟨u3, hq4, hF⟩ := zbd_t hF
    refine zgoI (w' := (zM ad k u1.2 now saved hist kept reason detail isSaved comes queue far isInText ahead roomAt rooms text length at_ errorPosition toldFrom toldTo isWrong before)) hw hA [] rfl (zS (As := [.int x2, .int (0 : Int32), .int (3 : Int32)]) (rest := [.int (2 : Int32), .ref (ad 0)]) ⟨hx, hb, hml, hown, hts⟩ (mX5_isBetween l G k  H.size  x2 (0 : Int32) (3 : Int32) u3 hq4) (va_cwS 3 hts gX5_lay_X5_isBetween rfl rfl rfl kdX5_isBetween ⟨Nat.le_of_ble_eq_true rfl, Nat.le_of_ble_eq_true rfl⟩) hK hA hw [] rfl (by decide) rfl hl.1 rfl (Nat.le_of_ble_eq_true rfl) dX5_lay_32 ⟨Nat.le_of_ble_eq_true rfl, Nat.le_of_ble_eq_true rfl⟩) rfl rfl rfl (fun H locs hw => ?_)
    refine lv_if_ne (tgt := 42) hx hb dX5_lay_35 (by decide) (fun hc => ?_) (fun hc => ?_)
    · have hF := zif_f hc hF
      refine lv_iconst (v := (0 : Int32)) hx hb dX5_lay_42 (by decide) ?_
      exact wX5_lay_43 C0 hK hA hret   _ _ _ _ _ _ _ _ _ hF _ _ _ hw (lv_sub hl [0, 1, 2, 3] rfl)
    · have hF := zif_t hc hF
      refine lv_iconst (v := (1 : Int32)) hx hb dX5_lay_38 (by decide) ?_
      refine lv_goto (tgt := 43) hx hb dX5_lay_39 (by decide) ?_
      exact wX5_lay_43 C0 hK hA hret   _ _ _ _ _ _ _ _ _ hF _ _ _ hw (lv_sub hl [0, 1, 2, 3] rfl)
set_option maxHeartbeats 400000 in
set_option maxRecDepth 100000 in
theorem wX5_lay_16 {p : Program} {l : Launch} {e : Env} {s : State} {m : MethodId} {args : Array Value} {below : List Frame} {meth : Method} {c : Code} {A : Nat → Prop} {Q : State → Prop} {G : va_G} {k : Nat → ClassId} {ad : Nat → Nat} {saved : Nat → Int32} {reason : Int32} {detail : Int32} {isSaved : Int32} {comes : Nat → Int32} {queue : Nat → Int32} {far : Nat → Int32} {isInText : Int32} {ahead : Nat → Int32} {roomAt : Nat → Int32} {rooms : Int32} {text : Nat → Int32} {length : Int32} {at_ : Int32} {errorPosition : Int32} {toldFrom : Int32} {toldTo : Int32} {isWrong : Int32} {before : Nat → Int32} {o : Int32 × Int32 × (Nat → Int32) × (Nat → Nat → Int32) × Int32} (C0 : zCx p s m args meth c wsX5_lay cX5_lay RX5 (some .int) 4) (hK : zKK G k A s s.heap) (hA : ∀ q : Nat, s.heap.size ≤ q → A q) (hret : zRI p l e rmX5_lay s m args below meth c cX5_lay G A 0 0 Q .int (zM ad k o.2.1 o.2.2.1 saved o.2.2.2.1 o.2.2.2.2 reason detail isSaved comes queue far isInText ahead roomAt rooms text length at_ errorPosition toldFrom toldTo isWrong before) o.1)  : ∀ (thrown : Int32) (now : Nat → Int32) (hist : Nat → Nat → Int32) (kept : Int32) (x1 : Int32) (x2 : Int32) (x3 : Int32) (s0 : Int32), fX5_lay_16   thrown now hist kept x1 x2 x3 s0 = some o → ∀ (H : Heap) (locs : List Loc) (ls : Array Slot), zWd G A s (zM ad k thrown now saved hist kept reason detail isSaved comes queue far isInText ahead roomAt rooms text length at_ errorPosition toldFrom toldTo isWrong before) H locs → lv_has ls 4 [(0, .ref (ad 0)), (1, .int x1), (2, .int x2), (3, .int x3)] → W p l e rmX5_lay s m args below meth c H locs 0 0 Q (F0 m 16 ls [.int s0, .ref (ad 0)]) := by
  obtain ⟨hx, hb, hr, hml, hown, hts, hlocks⟩ := id C0
  intro thrown now hist kept x1 x2 x3 s0 hF H locs ls hw hl
  unfold fX5_lay_16 at hF
  refine lv_iconst (v := (1 : Int32)) hx hb dX5_lay_16 (by decide) ?_
  refine lv_goto (tgt := 21) hx hb dX5_lay_17 (by decide) ?_
  exact wX5_lay_21 C0 hK hA hret   _ _ _ _ _ _ _ _ _ hF _ _ _ hw (lv_sub hl [0, 1, 2, 3] rfl)
set_option maxHeartbeats 400000 in
set_option maxRecDepth 100000 in
theorem mX5_lay (l : Launch) (G : va_G) (k : Nat → ClassId) (ad : Nat → Nat) (sz : Nat) (thrown : Int32) (now : Nat → Int32) (saved : Nat → Int32) (hist : Nat → Nat → Int32) (kept : Int32) (reason : Int32) (detail : Int32) (isSaved : Int32) (comes : Nat → Int32) (queue : Nat → Int32) (far : Nat → Int32) (isInText : Int32) (ahead : Nat → Int32) (roomAt : Nat → Int32) (rooms : Int32) (text : Nat → Int32) (length : Int32) (at_ : Int32) (errorPosition : Int32) (toldFrom : Int32) (toldTo : Int32) (isWrong : Int32) (before : Nat → Int32) (p0 : Int32) (p1 : Int32) (p2 : Int32) (o : Int32 × Int32 × (Nat → Int32) × (Nat → Nat → Int32) × Int32) (hF : fX5_lay thrown now hist kept p0 p1 p2 = some o) : zMI l yX5_lay wsX5_lay rmX5_lay G k (zM ad k thrown now saved hist kept reason detail isSaved comes queue far isInText ahead roomAt rooms text length at_ errorPosition toldFrom toldTo isWrong before) sz [.ref (ad 0), .int p0, .int p1, .int p2] o.1 (zM ad k o.2.1 o.2.2.1 saved o.2.2.2.1 o.2.2.2.2 reason detail isSaved comes queue far isInText ahead roomAt rooms text length at_ errorPosition toldFrom toldTo isWrong before) := by
  refine zof_I (cc := cX5_lay) (nL := 4) (own := RX5) (rt := .int) (by decide) rfl rfl (Nat.le_of_ble_eq_true rfl) ?_
  intro p e s m args below meth c A Q C0 hK hA hret ls hl hw
  have hl : lv_has ls 4 [(0, .ref (ad 0)), (1, .int p0), (2, .int p1), (3, .int p2)] := hl
  obtain ⟨hx, hb, hr, hml, hown, hts, hlocks⟩ := id C0
  obtain ⟨H, hH⟩ : ∃ z, z = s.heap := ⟨_, rfl⟩
  rw [← hH] at hw ⊢
  unfold fX5_lay at hF
  refine lv_aload_n hx hb dX5_lay_0 rfl (lv_at hl 0 rfl) ?_
  refine lv_iconst (v := (1 : Int32)) hx hb dX5_lay_1 (by decide) ?_
  refine lv_iload_n hx hb dX5_lay_2 rfl (lv_at hl 1 rfl) ?_
  obtain ⟨u1, hq2, hF⟩ := zbd_t hF
  refine zgoI (w' := (zM ad k thrown now saved hist kept reason detail isSaved comes queue far isInText ahead roomAt rooms text length at_ errorPosition toldFrom toldTo isWrong before)) hw hA [] rfl (zS (As := [.int p0]) (rest := [.int (1 : Int32), .ref (ad 0)]) ⟨hx, hb, hml, hown, hts⟩ (mX5_isSide l G k  H.size  p0 u1 hq2) (va_cwS 1 hts gX5_lay_X5_isSide rfl rfl rfl kdX5_isSide ⟨Nat.le_of_ble_eq_true rfl, Nat.le_of_ble_eq_true rfl⟩) hK hA hw [] rfl (by decide) rfl hl.1 rfl (Nat.le_of_ble_eq_true rfl) dX5_lay_3 ⟨Nat.le_of_ble_eq_true rfl, Nat.le_of_ble_eq_true rfl⟩) rfl rfl rfl (fun H locs hw => ?_)
  refine lv_if_eq (tgt := 16) hx hb dX5_lay_6 (by decide) (fun hc => ?_) (fun hc => ?_)
  · have hF := zif_t hc hF
    exact wX5_lay_16 C0 hK hA hret   _ _ _ _ _ _ _ _ hF _ _ _ hw (lv_sub hl [0, 1, 2, 3] rfl)
  · have hF := zif_f hc hF
    refine lv_iload_n hx hb dX5_lay_9 rfl (lv_at hl 3 rfl) ?_
    obtain ⟨u3, hq4, hF⟩ := zbd_t hF
    refine zgoI (w' := (zM ad k thrown now saved hist kept reason detail isSaved comes queue far isInText ahead roomAt rooms text length at_ errorPosition toldFrom toldTo isWrong before)) hw hA [] rfl (zS (As := [.int p2]) (rest := [.int (1 : Int32), .ref (ad 0)]) ⟨hx, hb, hml, hown, hts⟩ (mX5_isSquare l G k  H.size  p2 u3 hq4) (va_cwS 1 hts gX5_lay_X5_isSquare rfl rfl rfl kdX5_isSquare ⟨Nat.le_of_ble_eq_true rfl, Nat.le_of_ble_eq_true rfl⟩) hK hA hw [] rfl (by decide) rfl hl.1 rfl (Nat.le_of_ble_eq_true rfl) dX5_lay_10 ⟨Nat.le_of_ble_eq_true rfl, Nat.le_of_ble_eq_true rfl⟩) rfl rfl rfl (fun H locs hw => ?_)
    refine lv_if_ne (tgt := 20) hx hb dX5_lay_13 (by decide) (fun hc => ?_) (fun hc => ?_)
    · have hF := zif_f hc hF
      refine lv_iconst (v := (0 : Int32)) hx hb dX5_lay_20 (by decide) ?_
      exact wX5_lay_21 C0 hK hA hret   _ _ _ _ _ _ _ _ _ hF _ _ _ hw (lv_sub hl [0, 1, 2, 3] rfl)
    · have hF := zif_t hc hF
      exact wX5_lay_16 C0 hK hA hret   _ _ _ _ _ _ _ _ hF _ _ _ hw (lv_sub hl [0, 1, 2, 3] rfl)

/-! SealedBoardModel.wall(I)I -/
abbrev rmX5_wall : Room := { frames := 2, cells := 0, slots := 0, locals := 44 }
theorem kdX5_wall : yX5_wall.cls = RX5 ∧ yX5_wall.cls ≠ "java/lang/invoke/MethodHandle" ∧ yX5_wall.cls ≠ "java/lang/invoke/VarHandle" ∧ (parseMethodDescriptor yX5_wall.desc).map (fun d => d.parameters.length) = some 1 := by decide +kernel
theorem inX5_wall_X5 : ∀ w ∈ u_ws RX5 TX5 23, w ∈ wsX5_wall := by decide +kernel
def fX5_wall_14   (thrown : Int32) (now : Nat → Int32) (hist : Nat → Nat → Int32) (kept : Int32) (x1 : Int32) (s0 : Int32) (s1 : Int32) : Option (Int32 × Int32 × (Nat → Int32) × (Nat → Nat → Int32) × Int32) := (zbd (fX5_fails thrown s1 s0) (fun u1 => (if u1.1 = 0 then (zbd (fX5_isBusy now x1) (fun u3 => (zbd (fX5_fails u1.2 (2 : Int32) u3) (fun u5 => (if u5.1 = 0 then (zbd (fX5_remember now hist kept) (fun u7 => (zck (zin x1 76) (zbd (fX5_countWalls (upd now x1.toNatClampNeg (20 : Int32))) (fun u10 => (some (u10, u5.2, (upd now x1.toNatClampNeg (20 : Int32)), u7.1, u7.2))))))) else (some ((0 : Int32), u5.2, now, hist, kept))))))) else (some ((0 : Int32), u1.2, now, hist, kept)))))
def fX5_wall (thrown : Int32) (now : Nat → Int32) (hist : Nat → Nat → Int32) (kept : Int32) (p0 : Int32) : Option (Int32 × Int32 × (Nat → Int32) × (Nat → Nat → Int32) × Int32) := (zbd (fX5_isSquare p0) (fun u1 => (if u1 = 0 then (fX5_wall_14    thrown now hist kept p0 (1 : Int32) (1 : Int32)) else (fX5_wall_14    thrown now hist kept p0 (0 : Int32) (1 : Int32)))))
set_option maxHeartbeats 400000 in
set_option maxRecDepth 100000 in
theorem wX5_wall_14 {p : Program} {l : Launch} {e : Env} {s : State} {m : MethodId} {args : Array Value} {below : List Frame} {meth : Method} {c : Code} {A : Nat → Prop} {Q : State → Prop} {G : va_G} {k : Nat → ClassId} {ad : Nat → Nat} {saved : Nat → Int32} {reason : Int32} {detail : Int32} {isSaved : Int32} {comes : Nat → Int32} {queue : Nat → Int32} {far : Nat → Int32} {isInText : Int32} {ahead : Nat → Int32} {roomAt : Nat → Int32} {rooms : Int32} {text : Nat → Int32} {length : Int32} {at_ : Int32} {errorPosition : Int32} {toldFrom : Int32} {toldTo : Int32} {isWrong : Int32} {before : Nat → Int32} {o : Int32 × Int32 × (Nat → Int32) × (Nat → Nat → Int32) × Int32} (C0 : zCx p s m args meth c wsX5_wall cX5_wall RX5 (some .int) 2) (hK : zKK G k A s s.heap) (hA : ∀ q : Nat, s.heap.size ≤ q → A q) (hret : zRI p l e rmX5_wall s m args below meth c cX5_wall G A 0 0 Q .int (zM ad k o.2.1 o.2.2.1 saved o.2.2.2.1 o.2.2.2.2 reason detail isSaved comes queue far isInText ahead roomAt rooms text length at_ errorPosition toldFrom toldTo isWrong before) o.1)  : ∀ (thrown : Int32) (now : Nat → Int32) (hist : Nat → Nat → Int32) (kept : Int32) (x1 : Int32) (s0 : Int32) (s1 : Int32), fX5_wall_14   thrown now hist kept x1 s0 s1 = some o → ∀ (H : Heap) (locs : List Loc) (ls : Array Slot), zWd G A s (zM ad k thrown now saved hist kept reason detail isSaved comes queue far isInText ahead roomAt rooms text length at_ errorPosition toldFrom toldTo isWrong before) H locs → lv_has ls 2 [(0, .ref (ad 0)), (1, .int x1)] → W p l e rmX5_wall s m args below meth c H locs 0 0 Q (F0 m 14 ls [.int s0, .int s1, .ref (ad 0)]) := by
  obtain ⟨hx, hb, hr, hml, hown, hts, hlocks⟩ := id C0
  intro thrown now hist kept x1 s0 s1 hF H locs ls hw hl
  unfold fX5_wall_14 at hF
  obtain ⟨u1, hq2, hF⟩ := zbd_t hF
  refine zgoIw (w' := (zM ad k u1.2 now saved hist kept reason detail isSaved comes queue far isInText ahead roomAt rooms text length at_ errorPosition toldFrom toldTo isWrong before)) hw hA (zVw (As := [.int s1, .int s0]) (rest := []) ⟨hx, hb, hml, hown, hts⟩ (mX5_fails l G k ad H.size thrown now saved hist kept reason detail isSaved comes queue far isInText ahead roomAt rooms text length at_ errorPosition toldFrom toldTo isWrong before s1 s0 u1 hq2) (cwV 2 hts gX5_wall_X5_fails rfl rfl rfl kdX5_fails ⟨Nat.le_of_ble_eq_true rfl, Nat.le_of_ble_eq_true rfl⟩) hK hA hw 0 rfl rfl rfl rfl hl.1 rfl (Nat.le_of_ble_eq_true rfl) dX5_wall_14 ⟨Nat.le_of_ble_eq_true rfl, Nat.le_of_ble_eq_true rfl⟩) (fun H locs hw => ?_)
  refine lv_if_ne (tgt := 33) hx hb dX5_wall_17 (by decide) (fun hc => ?_) (fun hc => ?_)
  · have hF := zif_f hc hF
    refine lv_iconst (v := (0 : Int32)) hx hb dX5_wall_33 (by decide) ?_
    obtain rfl := Option.some.inj hF
    exact hret _ _ _ _ rfl hw dX5_wall_34
  · have hF := zif_t hc hF
    refine lv_aload_n hx hb dX5_wall_20 rfl (lv_at hl 0 rfl) ?_
    refine lv_iconst (v := (2 : Int32)) hx hb dX5_wall_21 (by decide) ?_
    refine lv_aload_n hx hb dX5_wall_22 rfl (lv_at hl 0 rfl) ?_
    refine lv_iload_n hx hb dX5_wall_23 rfl (lv_at hl 1 rfl) ?_
    obtain ⟨u3, hq4, hF⟩ := zbd_t hF
    refine zgoIw (w' := (zM ad k u1.2 now saved hist kept reason detail isSaved comes queue far isInText ahead roomAt rooms text length at_ errorPosition toldFrom toldTo isWrong before)) hw hA (zVw (As := [.int x1]) (rest := [.int (2 : Int32), .ref (ad 0)]) ⟨hx, hb, hml, hown, hts⟩ (mX5_isBusy l G k ad H.size u1.2 now saved hist kept reason detail isSaved comes queue far isInText ahead roomAt rooms text length at_ errorPosition toldFrom toldTo isWrong before x1 u3 hq4) (cwV 1 hts gX5_wall_X5_isBusy rfl rfl rfl kdX5_isBusy ⟨Nat.le_of_ble_eq_true rfl, Nat.le_of_ble_eq_true rfl⟩) hK hA hw 0 rfl rfl rfl rfl hl.1 rfl (Nat.le_of_ble_eq_true rfl) dX5_wall_24 ⟨Nat.le_of_ble_eq_true rfl, Nat.le_of_ble_eq_true rfl⟩) (fun H locs hw => ?_)
    obtain ⟨u5, hq6, hF⟩ := zbd_t hF
    refine zgoIw (w' := (zM ad k u5.2 now saved hist kept reason detail isSaved comes queue far isInText ahead roomAt rooms text length at_ errorPosition toldFrom toldTo isWrong before)) hw hA (zVw (As := [.int (2 : Int32), .int u3]) (rest := []) ⟨hx, hb, hml, hown, hts⟩ (mX5_fails l G k ad H.size u1.2 now saved hist kept reason detail isSaved comes queue far isInText ahead roomAt rooms text length at_ errorPosition toldFrom toldTo isWrong before (2 : Int32) u3 u5 hq6) (cwV 2 hts gX5_wall_X5_fails rfl rfl rfl kdX5_fails ⟨Nat.le_of_ble_eq_true rfl, Nat.le_of_ble_eq_true rfl⟩) hK hA hw 0 rfl rfl rfl rfl hl.1 rfl (Nat.le_of_ble_eq_true rfl) dX5_wall_27 ⟨Nat.le_of_ble_eq_true rfl, Nat.le_of_ble_eq_true rfl⟩) (fun H locs hw => ?_)
    refine lv_if_eq (tgt := 35) hx hb dX5_wall_30 (by decide) (fun hc => ?_) (fun hc => ?_)
    · have hF := zif_t hc hF
      refine lv_aload_n hx hb dX5_wall_35 rfl (lv_at hl 0 rfl) ?_
      refine lv_aload_n hx hb dX5_wall_36 rfl (lv_at hl 0 rfl) ?_
      refine va_get (D := G) (ci := 4) (v := .ref (ad 1)) (C := RX5) (T := TX5) (N := 23) hx hb hts inX5_wall_X5 hown hK.1 hw.1 0 rfl rfl 1 (by decide) (hts (.fieldLink RX5 9 "SealedBoardModel" "now" "[I") (by decide +kernel)) (fun _ h9 => h9) rfl dX5_wall_37 ?_
      obtain ⟨u7, hq8, hF⟩ := zbd_t hF
      refine zgoVw (w' := (zM ad k u5.2 now saved u7.1 u7.2 reason detail isSaved comes queue far isInText ahead roomAt rooms text length at_ errorPosition toldFrom toldTo isWrong before)) hw hA (zVw (As := [.ref (ad 1)]) (rest := []) ⟨hx, hb, hml, hown, hts⟩ (mX5_remember l G k ad H.size u5.2 now saved hist kept reason detail isSaved comes queue far isInText ahead roomAt rooms text length at_ errorPosition toldFrom toldTo isWrong before  u7 hq8) (cwV 1 hts gX5_wall_X5_remember rfl rfl rfl kdX5_remember ⟨Nat.le_of_ble_eq_true rfl, Nat.le_of_ble_eq_true rfl⟩) hK hA hw 0 rfl rfl rfl rfl hl.1 rfl (Nat.le_of_ble_eq_true rfl) dX5_wall_40 ⟨Nat.le_of_ble_eq_true rfl, Nat.le_of_ble_eq_true rfl⟩) (fun H locs hw => ?_)
      refine lv_aload_n hx hb dX5_wall_43 rfl (lv_at hl 0 rfl) ?_
      refine va_get (D := G) (ci := 4) (v := .ref (ad 1)) (C := RX5) (T := TX5) (N := 23) hx hb hts inX5_wall_X5 hown hK.1 hw.1 0 rfl rfl 1 (by decide) (hts (.fieldLink RX5 9 "SealedBoardModel" "now" "[I") (by decide +kernel)) (fun _ h9 => h9) rfl dX5_wall_44 ?_
      refine lv_iload_n hx hb dX5_wall_47 rfl (lv_at hl 1 rfl) ?_
      refine lv_bipush (v := (20 : Int32)) hx hb dX5_wall_48 (by decide) ?_
      obtain ⟨hi9, hF⟩ := zck_in hF
      refine va_iast hx hb hK.1 hw.1 hw.2.1 hw.2.2 1 2 rfl rfl hi9 dX5_wall_50 (fun H locs hP hD hS => ?_)
      have hw : zWd G A s (zM ad k u5.2 (upd now x1.toNatClampNeg (20 : Int32)) saved u7.1 u7.2 reason detail isSaved comes queue far isInText ahead roomAt rooms text length at_ errorPosition toldFrom toldTo isWrong before) H locs := ⟨hP, hD, hS⟩
      refine lv_aload_n hx hb dX5_wall_51 rfl (lv_at hl 0 rfl) ?_
      obtain ⟨u10, hq11, hF⟩ := zbd_t hF
      refine zgoIw (w' := (zM ad k u5.2 (upd now x1.toNatClampNeg (20 : Int32)) saved u7.1 u7.2 reason detail isSaved comes queue far isInText ahead roomAt rooms text length at_ errorPosition toldFrom toldTo isWrong before)) hw hA (zVw (As := []) (rest := []) ⟨hx, hb, hml, hown, hts⟩ (mX5_countWalls l G k ad H.size u5.2 (upd now x1.toNatClampNeg (20 : Int32)) saved u7.1 u7.2 reason detail isSaved comes queue far isInText ahead roomAt rooms text length at_ errorPosition toldFrom toldTo isWrong before  u10 hq11) (cwV 0 hts gX5_wall_X5_countWalls rfl rfl rfl kdX5_countWalls ⟨Nat.le_of_ble_eq_true rfl, Nat.le_of_ble_eq_true rfl⟩) hK hA hw 0 rfl rfl rfl rfl hl.1 rfl (Nat.le_of_ble_eq_true rfl) dX5_wall_52 ⟨Nat.le_of_ble_eq_true rfl, Nat.le_of_ble_eq_true rfl⟩) (fun H locs hw => ?_)
      obtain rfl := Option.some.inj hF
      exact hret _ _ _ _ rfl hw dX5_wall_55
    · have hF := zif_f hc hF
      refine lv_iconst (v := (0 : Int32)) hx hb dX5_wall_33 (by decide) ?_
      obtain rfl := Option.some.inj hF
      exact hret _ _ _ _ rfl hw dX5_wall_34
set_option maxHeartbeats 400000 in
set_option maxRecDepth 100000 in
theorem mX5_wall (l : Launch) (G : va_G) (k : Nat → ClassId) (ad : Nat → Nat) (sz : Nat) (thrown : Int32) (now : Nat → Int32) (saved : Nat → Int32) (hist : Nat → Nat → Int32) (kept : Int32) (reason : Int32) (detail : Int32) (isSaved : Int32) (comes : Nat → Int32) (queue : Nat → Int32) (far : Nat → Int32) (isInText : Int32) (ahead : Nat → Int32) (roomAt : Nat → Int32) (rooms : Int32) (text : Nat → Int32) (length : Int32) (at_ : Int32) (errorPosition : Int32) (toldFrom : Int32) (toldTo : Int32) (isWrong : Int32) (before : Nat → Int32) (p0 : Int32) (o : Int32 × Int32 × (Nat → Int32) × (Nat → Nat → Int32) × Int32) (hF : fX5_wall thrown now hist kept p0 = some o) : zMI l yX5_wall wsX5_wall rmX5_wall G k (zM ad k thrown now saved hist kept reason detail isSaved comes queue far isInText ahead roomAt rooms text length at_ errorPosition toldFrom toldTo isWrong before) sz [.ref (ad 0), .int p0] o.1 (zM ad k o.2.1 o.2.2.1 saved o.2.2.2.1 o.2.2.2.2 reason detail isSaved comes queue far isInText ahead roomAt rooms text length at_ errorPosition toldFrom toldTo isWrong before) := by
  refine zof_I (cc := cX5_wall) (nL := 2) (own := RX5) (rt := .int) (by decide) rfl rfl (Nat.le_of_ble_eq_true rfl) ?_
  intro p e s m args below meth c A Q C0 hK hA hret ls hl hw
  have hl : lv_has ls 2 [(0, .ref (ad 0)), (1, .int p0)] := hl
  obtain ⟨hx, hb, hr, hml, hown, hts, hlocks⟩ := id C0
  obtain ⟨H, hH⟩ : ∃ z, z = s.heap := ⟨_, rfl⟩
  rw [← hH] at hw ⊢
  unfold fX5_wall at hF
  refine lv_aload_n hx hb dX5_wall_0 rfl (lv_at hl 0 rfl) ?_
  refine lv_iconst (v := (1 : Int32)) hx hb dX5_wall_1 (by decide) ?_
  refine lv_iload_n hx hb dX5_wall_2 rfl (lv_at hl 1 rfl) ?_
  obtain ⟨u1, hq2, hF⟩ := zbd_t hF
  refine zgoI (w' := (zM ad k thrown now saved hist kept reason detail isSaved comes queue far isInText ahead roomAt rooms text length at_ errorPosition toldFrom toldTo isWrong before)) hw hA [] rfl (zS (As := [.int p0]) (rest := [.int (1 : Int32), .ref (ad 0)]) ⟨hx, hb, hml, hown, hts⟩ (mX5_isSquare l G k  H.size  p0 u1 hq2) (va_cwS 1 hts gX5_wall_X5_isSquare rfl rfl rfl kdX5_isSquare ⟨Nat.le_of_ble_eq_true rfl, Nat.le_of_ble_eq_true rfl⟩) hK hA hw [] rfl (by decide) rfl hl.1 rfl (Nat.le_of_ble_eq_true rfl) dX5_wall_3 ⟨Nat.le_of_ble_eq_true rfl, Nat.le_of_ble_eq_true rfl⟩) rfl rfl rfl (fun H locs hw => ?_)
  refine lv_if_ne (tgt := 13) hx hb dX5_wall_6 (by decide) (fun hc => ?_) (fun hc => ?_)
  · have hF := zif_f hc hF
    refine lv_iconst (v := (0 : Int32)) hx hb dX5_wall_13 (by decide) ?_
    exact wX5_wall_14 C0 hK hA hret   _ _ _ _ _ _ _ hF _ _ _ hw (lv_sub hl [0, 1] rfl)
  · have hF := zif_t hc hF
    refine lv_iconst (v := (1 : Int32)) hx hb dX5_wall_9 (by decide) ?_
    refine lv_goto (tgt := 14) hx hb dX5_wall_10 (by decide) ?_
    exact wX5_wall_14 C0 hK hA hret   _ _ _ _ _ _ _ hF _ _ _ hw (lv_sub hl [0, 1] rfl)

/-! SealedBoardModel.findNear(II)V -/
abbrev rmX5_findNear : Room := { frames := 3, cells := 0, slots := 0, locals := 65 }
theorem kdX5_findNear : yX5_findNear.cls = RX5 ∧ yX5_findNear.cls ≠ "java/lang/invoke/MethodHandle" ∧ yX5_findNear.cls ≠ "java/lang/invoke/VarHandle" ∧ (parseMethodDescriptor yX5_findNear.desc).map (fun d => d.parameters.length) = some 2 := by decide +kernel
theorem inX5_findNear_X5 : ∀ w ∈ u_ws RX5 TX5 23, w ∈ wsX5_findNear := by decide +kernel
def fX5_findNear_32 (k2 : (Nat → Int32) → Int32 → Int32 → Int32 → Option ((Nat → Int32))) (now : Nat → Int32) (comes : Nat → Int32) (x1 : Int32) (x2 : Int32) (x3 : Int32) : Option ((Nat → Int32)) := (zbn (x3 + (1 : Int32)) (fun a1 => (k2 comes x1 x2 a1)))
def fX5_findNear_2  (now : Nat → Int32) : Nat → (Nat → Int32) → Int32 → Int32 → Int32 → Option ((Nat → Int32))
  | 0, _, _, _, _ => none
  | n + 1, comes, x1, x2, x3 => (if (4 : Int32) ≤ x3 then (some (comes)) else (zbd (fX5_next x1 x3) (fun u1 => (zbd (fX5_mayStand now x2 u1) (fun u3 => (if u3 = 0 then (fX5_findNear_32 (fun b0 b1 b2 b3 => fX5_findNear_2  now n b0 b1 b2 b3) now  comes x1 x2 x3) else (zck (zin u1 36) (fX5_findNear_32 (fun b0 b1 b2 b3 => fX5_findNear_2  now n b0 b1 b2 b3) now  (upd comes u1.toNatClampNeg (vp_nar .boolean (1 : Int32))) x1 x2 x3))))))))
def fX5_findNear (now : Nat → Int32) (comes : Nat → Int32) (p0 : Int32) (p1 : Int32) : Option ((Nat → Int32)) := (fX5_findNear_2  now zFu comes p0 p1 (0 : Int32))
set_option maxHeartbeats 400000 in
set_option maxRecDepth 100000 in
theorem wX5_findNear_32 {p : Program} {l : Launch} {e : Env} {s : State} {m : MethodId} {args : Array Value} {below : List Frame} {meth : Method} {c : Code} {A : Nat → Prop} {Q : State → Prop} {G : va_G} {k : Nat → ClassId} {ad : Nat → Nat} {thrown : Int32} {now : Nat → Int32} {saved : Nat → Int32} {hist : Nat → Nat → Int32} {kept : Int32} {reason : Int32} {detail : Int32} {isSaved : Int32} {queue : Nat → Int32} {far : Nat → Int32} {isInText : Int32} {ahead : Nat → Int32} {roomAt : Nat → Int32} {rooms : Int32} {text : Nat → Int32} {length : Int32} {at_ : Int32} {errorPosition : Int32} {toldFrom : Int32} {toldTo : Int32} {isWrong : Int32} {before : Nat → Int32} {o : (Nat → Int32)} (C0 : zCx p s m args meth c wsX5_findNear cX5_findNear RX5 none 5) (hK : zKK G k A s s.heap) (hA : ∀ q : Nat, s.heap.size ≤ q → A q) (hret : zRV p l e rmX5_findNear s m args below meth c cX5_findNear G A 0 0 Q (zM ad k thrown now saved hist kept reason detail isSaved o queue far isInText ahead roomAt rooms text length at_ errorPosition toldFrom toldTo isWrong before)) (k2 : (Nat → Int32) → Int32 → Int32 → Int32 → Option ((Nat → Int32))) (hk2 : ∀ (comes : Nat → Int32) (x1 : Int32) (x2 : Int32) (x3 : Int32), k2 comes x1 x2 x3 = some o → ∀ (H : Heap) (locs : List Loc) (ls : Array Slot), zWd G A s (zM ad k thrown now saved hist kept reason detail isSaved comes queue far isInText ahead roomAt rooms text length at_ errorPosition toldFrom toldTo isWrong before) H locs → lv_has ls 5 [(0, .ref (ad 0)), (1, .int x1), (2, .int x2), (3, .int x3)] → W p l e rmX5_findNear s m args below meth c H locs 0 0 Q (F0 m 2 ls [])) : ∀ (comes : Nat → Int32) (x1 : Int32) (x2 : Int32) (x3 : Int32), fX5_findNear_32 k2 now comes x1 x2 x3 = some o → ∀ (H : Heap) (locs : List Loc) (ls : Array Slot), zWd G A s (zM ad k thrown now saved hist kept reason detail isSaved comes queue far isInText ahead roomAt rooms text length at_ errorPosition toldFrom toldTo isWrong before) H locs → lv_has ls 5 [(0, .ref (ad 0)), (1, .int x1), (2, .int x2), (3, .int x3)] → W p l e rmX5_findNear s m args below meth c H locs 0 0 Q (F0 m 32 ls []) := by
  obtain ⟨hx, hb, hr, hml, hown, hts, hlocks⟩ := id C0
  intro comes x1 x2 x3 hF H locs ls hw hl
  unfold fX5_findNear_32 at hF
  obtain ⟨a1, ea1⟩ : ∃ z : Int32, z = x3 + (1 : Int32) := ⟨_, rfl⟩
  have hF := zbn_t ea1 hF
  refine lv_iinc (v := a1) (lv' := [(3, .int a1), (0, .ref (ad 0)), (1, .int x1), (2, .int x2)]) hx hb dX5_findNear_32 hl (k := 3) rfl (by rw [ea1]; rfl) (by decide) rfl (fun ls hl => ?_)
  refine lv_goto (tgt := 2) hx hb dX5_findNear_35 (by decide) ?_
  exact hk2 _ _ _ _ hF _ _ _ hw (lv_sub hl [1, 2, 3, 0] rfl)
set_option maxHeartbeats 400000 in
set_option maxRecDepth 100000 in
theorem wX5_findNear_2 {p : Program} {l : Launch} {e : Env} {s : State} {m : MethodId} {args : Array Value} {below : List Frame} {meth : Method} {c : Code} {A : Nat → Prop} {Q : State → Prop} {G : va_G} {k : Nat → ClassId} {ad : Nat → Nat} {thrown : Int32} {now : Nat → Int32} {saved : Nat → Int32} {hist : Nat → Nat → Int32} {kept : Int32} {reason : Int32} {detail : Int32} {isSaved : Int32} {queue : Nat → Int32} {far : Nat → Int32} {isInText : Int32} {ahead : Nat → Int32} {roomAt : Nat → Int32} {rooms : Int32} {text : Nat → Int32} {length : Int32} {at_ : Int32} {errorPosition : Int32} {toldFrom : Int32} {toldTo : Int32} {isWrong : Int32} {before : Nat → Int32} {o : (Nat → Int32)} (C0 : zCx p s m args meth c wsX5_findNear cX5_findNear RX5 none 5) (hK : zKK G k A s s.heap) (hA : ∀ q : Nat, s.heap.size ≤ q → A q) (hret : zRV p l e rmX5_findNear s m args below meth c cX5_findNear G A 0 0 Q (zM ad k thrown now saved hist kept reason detail isSaved o queue far isInText ahead roomAt rooms text length at_ errorPosition toldFrom toldTo isWrong before))  : ∀ (n : Nat) (comes : Nat → Int32) (x1 : Int32) (x2 : Int32) (x3 : Int32), fX5_findNear_2  now n comes x1 x2 x3 = some o → ∀ (H : Heap) (locs : List Loc) (ls : Array Slot), zWd G A s (zM ad k thrown now saved hist kept reason detail isSaved comes queue far isInText ahead roomAt rooms text length at_ errorPosition toldFrom toldTo isWrong before) H locs → lv_has ls 5 [(0, .ref (ad 0)), (1, .int x1), (2, .int x2), (3, .int x3)] → W p l e rmX5_findNear s m args below meth c H locs 0 0 Q (F0 m 2 ls []) := by
  obtain ⟨hx, hb, hr, hml, hown, hts, hlocks⟩ := id C0
  intro n
  induction n with
  | zero => intro comes x1 x2 x3 hF; exact nomatch hF
  | succ n ih =>
    intro comes x1 x2 x3 hF H locs ls hw hl
    rw [fX5_findNear_2] at hF
    refine lv_iload_n hx hb dX5_findNear_2 rfl (lv_at hl 3 rfl) ?_
    refine lv_iconst (v := (4 : Int32)) hx hb dX5_findNear_3 (by decide) ?_
    refine lv_icmp_ge (tgt := 38) hx hb dX5_findNear_4 (by decide) (fun hc => ?_) (fun hc => ?_)
    · have hF := zif_t hc hF
      obtain rfl := Option.some.inj hF
      exact hret _ _ _ _  hw dX5_findNear_38
    · have hF := zif_f hc hF
      refine lv_iload_n hx hb dX5_findNear_7 rfl (lv_at hl 1 rfl) ?_
      refine lv_iload_n hx hb dX5_findNear_8 rfl (lv_at hl 3 rfl) ?_
      obtain ⟨u1, hq2, hF⟩ := zbd_t hF
      refine zgoI (w' := (zM ad k thrown now saved hist kept reason detail isSaved comes queue far isInText ahead roomAt rooms text length at_ errorPosition toldFrom toldTo isWrong before)) hw hA [] rfl (zS (As := [.int x1, .int x3]) (rest := []) ⟨hx, hb, hml, hown, hts⟩ (mX5_next l G k  H.size  x1 x3 u1 hq2) (va_cwS 2 hts gX5_findNear_X5_next rfl rfl rfl kdX5_next ⟨Nat.le_of_ble_eq_true rfl, Nat.le_of_ble_eq_true rfl⟩) hK hA hw [] rfl (by decide) rfl hl.1 rfl (Nat.le_of_ble_eq_true rfl) dX5_findNear_9 ⟨Nat.le_of_ble_eq_true rfl, Nat.le_of_ble_eq_true rfl⟩) rfl rfl rfl (fun H locs hw => ?_)
      refine lv_istore (lv' := [(4, .int u1), (0, .ref (ad 0)), (1, .int x1), (2, .int x2), (3, .int x3)]) hx hb dX5_findNear_12 hl (by decide) rfl (fun ls hl => ?_)
      refine lv_aload_n hx hb dX5_findNear_14 rfl (lv_at hl 1 rfl) ?_
      refine lv_iload_n hx hb dX5_findNear_15 rfl (lv_at hl 3 rfl) ?_
      refine lv_iload hx hb dX5_findNear_16 (lv_at hl 0 rfl) ?_
      obtain ⟨u3, hq4, hF⟩ := zbd_t hF
      refine zgoIw (w' := (zM ad k thrown now saved hist kept reason detail isSaved comes queue far isInText ahead roomAt rooms text length at_ errorPosition toldFrom toldTo isWrong before)) hw hA (zVw (As := [.int x2, .int u1]) (rest := []) ⟨hx, hb, hml, hown, hts⟩ (mX5_mayStand l G k ad H.size thrown now saved hist kept reason detail isSaved comes queue far isInText ahead roomAt rooms text length at_ errorPosition toldFrom toldTo isWrong before x2 u1 u3 hq4) (cwV 2 hts gX5_findNear_X5_mayStand rfl rfl rfl kdX5_mayStand ⟨Nat.le_of_ble_eq_true rfl, Nat.le_of_ble_eq_true rfl⟩) hK hA hw 0 rfl rfl rfl rfl hl.1 rfl (Nat.le_of_ble_eq_true rfl) dX5_findNear_18 ⟨Nat.le_of_ble_eq_true rfl, Nat.le_of_ble_eq_true rfl⟩) (fun H locs hw => ?_)
      refine lv_if_eq (tgt := 32) hx hb dX5_findNear_21 (by decide) (fun hc => ?_) (fun hc => ?_)
      · have hF := zif_t hc hF
        exact wX5_findNear_32 C0 hK hA hret (fun b0 b1 b2 b3 => fX5_findNear_2  now n b0 b1 b2 b3) ih  _ _ _ _ hF _ _ _ hw (lv_sub hl [1, 2, 3, 4] rfl)
      · have hF := zif_f hc hF
        refine lv_aload_n hx hb dX5_findNear_24 rfl (lv_at hl 1 rfl) ?_
        refine va_get (D := G) (ci := 4) (v := .ref (ad 4)) (C := RX5) (T := TX5) (N := 23) hx hb hts inX5_findNear_X5 hown hK.1 hw.1 0 rfl rfl 8 (by decide) (hts (.fieldLink RX5 21 "SealedBoardModel" "comes" "[Z") (by decide +kernel)) (fun _ h9 => h9) rfl dX5_findNear_25 ?_
        refine lv_iload hx hb dX5_findNear_28 (lv_at hl 0 rfl) ?_
        refine lv_iconst (v := (1 : Int32)) hx hb dX5_findNear_30 (by decide) ?_
        obtain ⟨hi5, hF⟩ := zck_in hF
        refine va_zast hx hb hK.1 hw.1 hw.2.1 hw.2.2 4 3 rfl rfl hi5 dX5_findNear_31 (fun H locs hP hD hS => ?_)
        have hw : zWd G A s (zM ad k thrown now saved hist kept reason detail isSaved (upd comes u1.toNatClampNeg (vp_nar .boolean (1 : Int32))) queue far isInText ahead roomAt rooms text length at_ errorPosition toldFrom toldTo isWrong before) H locs := ⟨hP, hD, hS⟩
        exact wX5_findNear_32 C0 hK hA hret (fun b0 b1 b2 b3 => fX5_findNear_2  now n b0 b1 b2 b3) ih  _ _ _ _ hF _ _ _ hw (lv_sub hl [1, 2, 3, 4] rfl)
set_option maxHeartbeats 400000 in
set_option maxRecDepth 100000 in
theorem mX5_findNear (l : Launch) (G : va_G) (k : Nat → ClassId) (ad : Nat → Nat) (sz : Nat) (thrown : Int32) (now : Nat → Int32) (saved : Nat → Int32) (hist : Nat → Nat → Int32) (kept : Int32) (reason : Int32) (detail : Int32) (isSaved : Int32) (comes : Nat → Int32) (queue : Nat → Int32) (far : Nat → Int32) (isInText : Int32) (ahead : Nat → Int32) (roomAt : Nat → Int32) (rooms : Int32) (text : Nat → Int32) (length : Int32) (at_ : Int32) (errorPosition : Int32) (toldFrom : Int32) (toldTo : Int32) (isWrong : Int32) (before : Nat → Int32) (p0 : Int32) (p1 : Int32) (o : (Nat → Int32)) (hF : fX5_findNear now comes p0 p1 = some o) : zMV l yX5_findNear wsX5_findNear rmX5_findNear G k (zM ad k thrown now saved hist kept reason detail isSaved comes queue far isInText ahead roomAt rooms text length at_ errorPosition toldFrom toldTo isWrong before) sz [.ref (ad 0), .int p0, .int p1] (zM ad k thrown now saved hist kept reason detail isSaved o queue far isInText ahead roomAt rooms text length at_ errorPosition toldFrom toldTo isWrong before) := by
  refine zof_V (cc := cX5_findNear) (nL := 5) (own := RX5) (by decide) rfl rfl (Nat.le_of_ble_eq_true rfl) ?_
  intro p e s m args below meth c A Q C0 hK hA hret ls hl hw
  have hl : lv_has ls 5 [(0, .ref (ad 0)), (1, .int p0), (2, .int p1)] := hl
  obtain ⟨hx, hb, hr, hml, hown, hts, hlocks⟩ := id C0
  obtain ⟨H, hH⟩ : ∃ z, z = s.heap := ⟨_, rfl⟩
  rw [← hH] at hw ⊢
  unfold fX5_findNear at hF
  refine lv_iconst (v := (0 : Int32)) hx hb dX5_findNear_0 (by decide) ?_
  refine lv_istore_n (lv' := [(3, .int (0 : Int32)), (0, .ref (ad 0)), (1, .int p0), (2, .int p1)]) hx hb dX5_findNear_1 rfl hl (by decide) rfl (fun ls hl => ?_)
  exact wX5_findNear_2 C0 hK hA hret  zFu _ _ _ _ hF _ _ _ hw (lv_sub hl [1, 2, 3, 0] rfl)

/-! SealedBoardModel.findStraight(II)V -/
abbrev rmX5_findStraight : Room := { frames := 3, cells := 0, slots := 0, locals := 65 }
theorem kdX5_findStraight : yX5_findStraight.cls = RX5 ∧ yX5_findStraight.cls ≠ "java/lang/invoke/MethodHandle" ∧ yX5_findStraight.cls ≠ "java/lang/invoke/VarHandle" ∧ (parseMethodDescriptor yX5_findStraight.desc).map (fun d => d.parameters.length) = some 2 := by decide +kernel
theorem inX5_findStraight_X5 : ∀ w ∈ u_ws RX5 TX5 23, w ∈ wsX5_findStraight := by decide +kernel
def fX5_findStraight_14 (k2 : (Nat → Int32) → Int32 → Int32 → Int32 → Option ((Nat → Int32))) (now : Nat → Int32) : Nat → (Nat → Int32) → Int32 → Int32 → Int32 → Int32 → Option ((Nat → Int32))
  | 0, _, _, _, _, _ => none
  | n + 1, comes, x1, x2, x3, x4 => (zbd (fX5_mayStand now x2 x4) (fun u1 => (if u1 = 0 then (zbn (x3 + (1 : Int32)) (fun a3 => (k2 comes x1 x2 a3))) else (zck (zin x4 36) (zbd (fX5_next x4 x3) (fun u5 => (fX5_findStraight_14 k2 now n (upd comes x4.toNatClampNeg (vp_nar .boolean (1 : Int32))) x1 x2 x3 u5)))))))
def fX5_findStraight_2  (now : Nat → Int32) : Nat → (Nat → Int32) → Int32 → Int32 → Int32 → Option ((Nat → Int32))
  | 0, _, _, _, _ => none
  | n + 1, comes, x1, x2, x3 => (if (4 : Int32) ≤ x3 then (some (comes)) else (zbd (fX5_next x1 x3) (fun u1 => (fX5_findStraight_14 (fun b0 b1 b2 b3 => fX5_findStraight_2  now n b0 b1 b2 b3) now zFu comes x1 x2 x3 u1))))
def fX5_findStraight (now : Nat → Int32) (comes : Nat → Int32) (p0 : Int32) (p1 : Int32) : Option ((Nat → Int32)) := (fX5_findStraight_2  now zFu comes p0 p1 (0 : Int32))
set_option maxHeartbeats 400000 in
set_option maxRecDepth 100000 in
theorem wX5_findStraight_14 {p : Program} {l : Launch} {e : Env} {s : State} {m : MethodId} {args : Array Value} {below : List Frame} {meth : Method} {c : Code} {A : Nat → Prop} {Q : State → Prop} {G : va_G} {k : Nat → ClassId} {ad : Nat → Nat} {thrown : Int32} {now : Nat → Int32} {saved : Nat → Int32} {hist : Nat → Nat → Int32} {kept : Int32} {reason : Int32} {detail : Int32} {isSaved : Int32} {queue : Nat → Int32} {far : Nat → Int32} {isInText : Int32} {ahead : Nat → Int32} {roomAt : Nat → Int32} {rooms : Int32} {text : Nat → Int32} {length : Int32} {at_ : Int32} {errorPosition : Int32} {toldFrom : Int32} {toldTo : Int32} {isWrong : Int32} {before : Nat → Int32} {o : (Nat → Int32)} (C0 : zCx p s m args meth c wsX5_findStraight cX5_findStraight RX5 none 5) (hK : zKK G k A s s.heap) (hA : ∀ q : Nat, s.heap.size ≤ q → A q) (hret : zRV p l e rmX5_findStraight s m args below meth c cX5_findStraight G A 0 0 Q (zM ad k thrown now saved hist kept reason detail isSaved o queue far isInText ahead roomAt rooms text length at_ errorPosition toldFrom toldTo isWrong before)) (k2 : (Nat → Int32) → Int32 → Int32 → Int32 → Option ((Nat → Int32))) (hk2 : ∀ (comes : Nat → Int32) (x1 : Int32) (x2 : Int32) (x3 : Int32), k2 comes x1 x2 x3 = some o → ∀ (H : Heap) (locs : List Loc) (ls : Array Slot), zWd G A s (zM ad k thrown now saved hist kept reason detail isSaved comes queue far isInText ahead roomAt rooms text length at_ errorPosition toldFrom toldTo isWrong before) H locs → lv_has ls 5 [(0, .ref (ad 0)), (1, .int x1), (2, .int x2), (3, .int x3)] → W p l e rmX5_findStraight s m args below meth c H locs 0 0 Q (F0 m 2 ls [])) : ∀ (n : Nat) (comes : Nat → Int32) (x1 : Int32) (x2 : Int32) (x3 : Int32) (x4 : Int32), fX5_findStraight_14 k2 now n comes x1 x2 x3 x4 = some o → ∀ (H : Heap) (locs : List Loc) (ls : Array Slot), zWd G A s (zM ad k thrown now saved hist kept reason detail isSaved comes queue far isInText ahead roomAt rooms text length at_ errorPosition toldFrom toldTo isWrong before) H locs → lv_has ls 5 [(0, .ref (ad 0)), (1, .int x1), (2, .int x2), (3, .int x3), (4, .int x4)] → W p l e rmX5_findStraight s m args below meth c H locs 0 0 Q (F0 m 14 ls []) := by
  obtain ⟨hx, hb, hr, hml, hown, hts, hlocks⟩ := id C0
  intro n
  induction n with
  | zero => intro comes x1 x2 x3 x4 hF; exact nomatch hF
  | succ n ih =>
    intro comes x1 x2 x3 x4 hF H locs ls hw hl
    rw [fX5_findStraight_14] at hF
    refine lv_aload_n hx hb dX5_findStraight_14 rfl (lv_at hl 0 rfl) ?_
    refine lv_iload_n hx hb dX5_findStraight_15 rfl (lv_at hl 2 rfl) ?_
    refine lv_iload hx hb dX5_findStraight_16 (lv_at hl 4 rfl) ?_
    obtain ⟨u1, hq2, hF⟩ := zbd_t hF
    refine zgoIw (w' := (zM ad k thrown now saved hist kept reason detail isSaved comes queue far isInText ahead roomAt rooms text length at_ errorPosition toldFrom toldTo isWrong before)) hw hA (zVw (As := [.int x2, .int x4]) (rest := []) ⟨hx, hb, hml, hown, hts⟩ (mX5_mayStand l G k ad H.size thrown now saved hist kept reason detail isSaved comes queue far isInText ahead roomAt rooms text length at_ errorPosition toldFrom toldTo isWrong before x2 x4 u1 hq2) (cwV 2 hts gX5_findStraight_X5_mayStand rfl rfl rfl kdX5_mayStand ⟨Nat.le_of_ble_eq_true rfl, Nat.le_of_ble_eq_true rfl⟩) hK hA hw 0 rfl rfl rfl rfl hl.1 rfl (Nat.le_of_ble_eq_true rfl) dX5_findStraight_18 ⟨Nat.le_of_ble_eq_true rfl, Nat.le_of_ble_eq_true rfl⟩) (fun H locs hw => ?_)
    refine lv_if_eq (tgt := 43) hx hb dX5_findStraight_21 (by decide) (fun hc => ?_) (fun hc => ?_)
    · have hF := zif_t hc hF
      obtain ⟨a3, ea3⟩ : ∃ z : Int32, z = x3 + (1 : Int32) := ⟨_, rfl⟩
      have hF := zbn_t ea3 hF
      refine lv_iinc (v := a3) (lv' := [(3, .int a3), (0, .ref (ad 0)), (1, .int x1), (2, .int x2), (4, .int x4)]) hx hb dX5_findStraight_43 hl (k := 3) rfl (by rw [ea3]; rfl) (by decide) rfl (fun ls hl => ?_)
      refine lv_goto (tgt := 2) hx hb dX5_findStraight_46 (by decide) ?_
      exact hk2 _ _ _ _ hF _ _ _ hw (lv_sub hl [1, 2, 3, 0] rfl)
    · have hF := zif_f hc hF
      refine lv_aload_n hx hb dX5_findStraight_24 rfl (lv_at hl 0 rfl) ?_
      refine va_get (D := G) (ci := 4) (v := .ref (ad 4)) (C := RX5) (T := TX5) (N := 23) hx hb hts inX5_findStraight_X5 hown hK.1 hw.1 0 rfl rfl 8 (by decide) (hts (.fieldLink RX5 21 "SealedBoardModel" "comes" "[Z") (by decide +kernel)) (fun _ h9 => h9) rfl dX5_findStraight_25 ?_
      refine lv_iload hx hb dX5_findStraight_28 (lv_at hl 4 rfl) ?_
      refine lv_iconst (v := (1 : Int32)) hx hb dX5_findStraight_30 (by decide) ?_
      obtain ⟨hi4, hF⟩ := zck_in hF
      refine va_zast hx hb hK.1 hw.1 hw.2.1 hw.2.2 4 3 rfl rfl hi4 dX5_findStraight_31 (fun H locs hP hD hS => ?_)
      have hw : zWd G A s (zM ad k thrown now saved hist kept reason detail isSaved (upd comes x4.toNatClampNeg (vp_nar .boolean (1 : Int32))) queue far isInText ahead roomAt rooms text length at_ errorPosition toldFrom toldTo isWrong before) H locs := ⟨hP, hD, hS⟩
      refine lv_iload hx hb dX5_findStraight_32 (lv_at hl 4 rfl) ?_
      refine lv_iload_n hx hb dX5_findStraight_34 rfl (lv_at hl 3 rfl) ?_
      obtain ⟨u5, hq6, hF⟩ := zbd_t hF
      refine zgoI (w' := (zM ad k thrown now saved hist kept reason detail isSaved (upd comes x4.toNatClampNeg (vp_nar .boolean (1 : Int32))) queue far isInText ahead roomAt rooms text length at_ errorPosition toldFrom toldTo isWrong before)) hw hA [] rfl (zS (As := [.int x4, .int x3]) (rest := []) ⟨hx, hb, hml, hown, hts⟩ (mX5_next l G k  H.size  x4 x3 u5 hq6) (va_cwS 2 hts gX5_findStraight_X5_next rfl rfl rfl kdX5_next ⟨Nat.le_of_ble_eq_true rfl, Nat.le_of_ble_eq_true rfl⟩) hK hA hw [] rfl (by decide) rfl hl.1 rfl (Nat.le_of_ble_eq_true rfl) dX5_findStraight_35 ⟨Nat.le_of_ble_eq_true rfl, Nat.le_of_ble_eq_true rfl⟩) rfl rfl rfl (fun H locs hw => ?_)
      refine lv_istore (lv' := [(4, .int u5), (0, .ref (ad 0)), (1, .int x1), (2, .int x2), (3, .int x3)]) hx hb dX5_findStraight_38 hl (by decide) rfl (fun ls hl => ?_)
      refine lv_goto (tgt := 14) hx hb dX5_findStraight_40 (by decide) ?_
      exact ih _ _ _ _ _ hF _ _ _ hw (lv_sub hl [1, 2, 3, 4, 0] rfl)
set_option maxHeartbeats 400000 in
set_option maxRecDepth 100000 in
theorem wX5_findStraight_2 {p : Program} {l : Launch} {e : Env} {s : State} {m : MethodId} {args : Array Value} {below : List Frame} {meth : Method} {c : Code} {A : Nat → Prop} {Q : State → Prop} {G : va_G} {k : Nat → ClassId} {ad : Nat → Nat} {thrown : Int32} {now : Nat → Int32} {saved : Nat → Int32} {hist : Nat → Nat → Int32} {kept : Int32} {reason : Int32} {detail : Int32} {isSaved : Int32} {queue : Nat → Int32} {far : Nat → Int32} {isInText : Int32} {ahead : Nat → Int32} {roomAt : Nat → Int32} {rooms : Int32} {text : Nat → Int32} {length : Int32} {at_ : Int32} {errorPosition : Int32} {toldFrom : Int32} {toldTo : Int32} {isWrong : Int32} {before : Nat → Int32} {o : (Nat → Int32)} (C0 : zCx p s m args meth c wsX5_findStraight cX5_findStraight RX5 none 5) (hK : zKK G k A s s.heap) (hA : ∀ q : Nat, s.heap.size ≤ q → A q) (hret : zRV p l e rmX5_findStraight s m args below meth c cX5_findStraight G A 0 0 Q (zM ad k thrown now saved hist kept reason detail isSaved o queue far isInText ahead roomAt rooms text length at_ errorPosition toldFrom toldTo isWrong before))  : ∀ (n : Nat) (comes : Nat → Int32) (x1 : Int32) (x2 : Int32) (x3 : Int32), fX5_findStraight_2  now n comes x1 x2 x3 = some o → ∀ (H : Heap) (locs : List Loc) (ls : Array Slot), zWd G A s (zM ad k thrown now saved hist kept reason detail isSaved comes queue far isInText ahead roomAt rooms text length at_ errorPosition toldFrom toldTo isWrong before) H locs → lv_has ls 5 [(0, .ref (ad 0)), (1, .int x1), (2, .int x2), (3, .int x3)] → W p l e rmX5_findStraight s m args below meth c H locs 0 0 Q (F0 m 2 ls []) := by
  obtain ⟨hx, hb, hr, hml, hown, hts, hlocks⟩ := id C0
  intro n
  induction n with
  | zero => intro comes x1 x2 x3 hF; exact nomatch hF
  | succ n ih =>
    intro comes x1 x2 x3 hF H locs ls hw hl
    rw [fX5_findStraight_2] at hF
    refine lv_iload_n hx hb dX5_findStraight_2 rfl (lv_at hl 3 rfl) ?_
    refine lv_iconst (v := (4 : Int32)) hx hb dX5_findStraight_3 (by decide) ?_
    refine lv_icmp_ge (tgt := 49) hx hb dX5_findStraight_4 (by decide) (fun hc => ?_) (fun hc => ?_)
    · have hF := zif_t hc hF
      obtain rfl := Option.some.inj hF
      exact hret _ _ _ _  hw dX5_findStraight_49
    · have hF := zif_f hc hF
      refine lv_iload_n hx hb dX5_findStraight_7 rfl (lv_at hl 1 rfl) ?_
      refine lv_iload_n hx hb dX5_findStraight_8 rfl (lv_at hl 3 rfl) ?_
      obtain ⟨u1, hq2, hF⟩ := zbd_t hF
      refine zgoI (w' := (zM ad k thrown now saved hist kept reason detail isSaved comes queue far isInText ahead roomAt rooms text length at_ errorPosition toldFrom toldTo isWrong before)) hw hA [] rfl (zS (As := [.int x1, .int x3]) (rest := []) ⟨hx, hb, hml, hown, hts⟩ (mX5_next l G k  H.size  x1 x3 u1 hq2) (va_cwS 2 hts gX5_findStraight_X5_next rfl rfl rfl kdX5_next ⟨Nat.le_of_ble_eq_true rfl, Nat.le_of_ble_eq_true rfl⟩) hK hA hw [] rfl (by decide) rfl hl.1 rfl (Nat.le_of_ble_eq_true rfl) dX5_findStraight_9 ⟨Nat.le_of_ble_eq_true rfl, Nat.le_of_ble_eq_true rfl⟩) rfl rfl rfl (fun H locs hw => ?_)
      refine lv_istore (lv' := [(4, .int u1), (0, .ref (ad 0)), (1, .int x1), (2, .int x2), (3, .int x3)]) hx hb dX5_findStraight_12 hl (by decide) rfl (fun ls hl => ?_)
      exact wX5_findStraight_14 C0 hK hA hret (fun b0 b1 b2 b3 => fX5_findStraight_2  now n b0 b1 b2 b3) ih zFu _ _ _ _ _ hF _ _ _ hw (lv_sub hl [1, 2, 3, 4, 0] rfl)
set_option maxHeartbeats 400000 in
set_option maxRecDepth 100000 in
theorem mX5_findStraight (l : Launch) (G : va_G) (k : Nat → ClassId) (ad : Nat → Nat) (sz : Nat) (thrown : Int32) (now : Nat → Int32) (saved : Nat → Int32) (hist : Nat → Nat → Int32) (kept : Int32) (reason : Int32) (detail : Int32) (isSaved : Int32) (comes : Nat → Int32) (queue : Nat → Int32) (far : Nat → Int32) (isInText : Int32) (ahead : Nat → Int32) (roomAt : Nat → Int32) (rooms : Int32) (text : Nat → Int32) (length : Int32) (at_ : Int32) (errorPosition : Int32) (toldFrom : Int32) (toldTo : Int32) (isWrong : Int32) (before : Nat → Int32) (p0 : Int32) (p1 : Int32) (o : (Nat → Int32)) (hF : fX5_findStraight now comes p0 p1 = some o) : zMV l yX5_findStraight wsX5_findStraight rmX5_findStraight G k (zM ad k thrown now saved hist kept reason detail isSaved comes queue far isInText ahead roomAt rooms text length at_ errorPosition toldFrom toldTo isWrong before) sz [.ref (ad 0), .int p0, .int p1] (zM ad k thrown now saved hist kept reason detail isSaved o queue far isInText ahead roomAt rooms text length at_ errorPosition toldFrom toldTo isWrong before) := by
  refine zof_V (cc := cX5_findStraight) (nL := 5) (own := RX5) (by decide) rfl rfl (Nat.le_of_ble_eq_true rfl) ?_
  intro p e s m args below meth c A Q C0 hK hA hret ls hl hw
  have hl : lv_has ls 5 [(0, .ref (ad 0)), (1, .int p0), (2, .int p1)] := hl
  obtain ⟨hx, hb, hr, hml, hown, hts, hlocks⟩ := id C0
  obtain ⟨H, hH⟩ : ∃ z, z = s.heap := ⟨_, rfl⟩
  rw [← hH] at hw ⊢
  unfold fX5_findStraight at hF
  refine lv_iconst (v := (0 : Int32)) hx hb dX5_findStraight_0 (by decide) ?_
  refine lv_istore_n (lv' := [(3, .int (0 : Int32)), (0, .ref (ad 0)), (1, .int p0), (2, .int p1)]) hx hb dX5_findStraight_1 rfl hl (by decide) rfl (fun ls hl => ?_)
  exact wX5_findStraight_2 C0 hK hA hret  zFu _ _ _ _ hF _ _ _ hw (lv_sub hl [1, 2, 3, 0] rfl)

/-! SealedBoardModel.findWalks(II)V -/
abbrev rmX5_findWalks : Room := { frames := 3, cells := 0, slots := 0, locals := 65 }
theorem kdX5_findWalks : yX5_findWalks.cls = RX5 ∧ yX5_findWalks.cls ≠ "java/lang/invoke/MethodHandle" ∧ yX5_findWalks.cls ≠ "java/lang/invoke/VarHandle" ∧ (parseMethodDescriptor yX5_findWalks.desc).map (fun d => d.parameters.length) = some 2 := by decide +kernel
theorem inX5_findWalks_X5 : ∀ w ∈ u_ws RX5 TX5 23, w ∈ wsX5_findWalks := by decide +kernel
def fX5_findWalks_130 (k19 : (Nat → Int32) → (Nat → Int32) → (Nat → Int32) → Int32 → Int32 → Int32 → Option ((Nat → Int32) × (Nat → Int32) × (Nat → Int32))) (now : Nat → Int32) (comes : Nat → Int32) (queue : Nat → Int32) (far : Nat → Int32) (x2 : Int32) (x3 : Int32) (x4 : Int32) : Option ((Nat → Int32) × (Nat → Int32) × (Nat → Int32)) := (zbn (x4 + (1 : Int32)) (fun a1 => (k19 comes queue far x2 x3 a1)))
def fX5_findWalks_124 (k28 : (Nat → Int32) → (Nat → Int32) → (Nat → Int32) → Int32 → Int32 → Int32 → Int32 → Option ((Nat → Int32) × (Nat → Int32) × (Nat → Int32))) (now : Nat → Int32) (comes : Nat → Int32) (queue : Nat → Int32) (far : Nat → Int32) (x2 : Int32) (x3 : Int32) (x4 : Int32) (x5 : Int32) : Option ((Nat → Int32) × (Nat → Int32) × (Nat → Int32)) := (zbn (x5 + (1 : Int32)) (fun a1 => (k28 comes queue far x2 x3 x4 a1)))
def fX5_findWalks_28 (k19 : (Nat → Int32) → (Nat → Int32) → (Nat → Int32) → Int32 → Int32 → Int32 → Option ((Nat → Int32) × (Nat → Int32) × (Nat → Int32))) (now : Nat → Int32) : Nat → (Nat → Int32) → (Nat → Int32) → (Nat → Int32) → Int32 → Int32 → Int32 → Int32 → Option ((Nat → Int32) × (Nat → Int32) × (Nat → Int32))
  | 0, _, _, _, _, _, _, _ => none
  | n + 1, comes, queue, far, x2, x3, x4, x5 => (if (4 : Int32) ≤ x5 then (fX5_findWalks_130 k19 now  comes queue far x2 x3 x4) else (zck (zin x4 36) (zck (zin (queue x4.toNatClampNeg) 36) (if (3 : Int32) ≤ (far (queue x4.toNatClampNeg).toNatClampNeg) then (fX5_findWalks_130 k19 now  comes queue far x2 x3 x4) else (zck (zin x4 36) (zbd (fX5_next (queue x4.toNatClampNeg) x5) (fun u4 => (zbd (fX5_mayStand now x2 u4) (fun u6 => (if u6 = 0 then (fX5_findWalks_124 (fun b0 b1 b2 b3 b4 b5 b6 => fX5_findWalks_28 k19 now n b0 b1 b2 b3 b4 b5 b6) now  comes queue far x2 x3 x4 x5) else (zck (zin u4 36) (if (comes u4.toNatClampNeg) = 0 then (zck (zin u4 36) (zck (zin x4 36) (zck (zin (queue x4.toNatClampNeg) 36) (zck (zin u4 36) (zck (zin x3 36) (zbn (x3 + (1 : Int32)) (fun a14 => (fX5_findWalks_124 (fun b0 b1 b2 b3 b4 b5 b6 => fX5_findWalks_28 k19 now n b0 b1 b2 b3 b4 b5 b6) now  (upd comes u4.toNatClampNeg (vp_nar .boolean (1 : Int32))) (upd queue x3.toNatClampNeg u4) (upd far u4.toNatClampNeg ((far (queue x4.toNatClampNeg).toNatClampNeg) + (1 : Int32))) x2 a14 x4 x5)))))))) else (fX5_findWalks_124 (fun b0 b1 b2 b3 b4 b5 b6 => fX5_findWalks_28 k19 now n b0 b1 b2 b3 b4 b5 b6) now  comes queue far x2 x3 x4 x5)))))))))))))
def fX5_findWalks_19  (now : Nat → Int32) : Nat → (Nat → Int32) → (Nat → Int32) → (Nat → Int32) → Int32 → Int32 → Int32 → Option ((Nat → Int32) × (Nat → Int32) × (Nat → Int32))
  | 0, _, _, _, _, _, _ => none
  | n + 1, comes, queue, far, x2, x3, x4 => (if x3 ≤ x4 then (some (comes, queue, far)) else (fX5_findWalks_28 (fun b0 b1 b2 b3 b4 b5 => fX5_findWalks_19  now n b0 b1 b2 b3 b4 b5) now zFu comes queue far x2 x3 x4 (0 : Int32)))
def fX5_findWalks (now : Nat → Int32) (comes : Nat → Int32) (queue : Nat → Int32) (far : Nat → Int32) (p0 : Int32) (p1 : Int32) : Option ((Nat → Int32) × (Nat → Int32) × (Nat → Int32)) := (zck (zin (0 : Int32) 36) (zck (zin p0 36) (fX5_findWalks_19  now zFu comes (upd queue (0 : Int32).toNatClampNeg p0) (upd far p0.toNatClampNeg (0 : Int32)) p1 (1 : Int32) (0 : Int32))))
set_option maxHeartbeats 400000 in
set_option maxRecDepth 100000 in
theorem wX5_findWalks_130 {p : Program} {l : Launch} {e : Env} {s : State} {m : MethodId} {args : Array Value} {below : List Frame} {meth : Method} {c : Code} {A : Nat → Prop} {Q : State → Prop} {G : va_G} {k : Nat → ClassId} {ad : Nat → Nat} {thrown : Int32} {now : Nat → Int32} {saved : Nat → Int32} {hist : Nat → Nat → Int32} {kept : Int32} {reason : Int32} {detail : Int32} {isSaved : Int32} {isInText : Int32} {ahead : Nat → Int32} {roomAt : Nat → Int32} {rooms : Int32} {text : Nat → Int32} {length : Int32} {at_ : Int32} {errorPosition : Int32} {toldFrom : Int32} {toldTo : Int32} {isWrong : Int32} {before : Nat → Int32} {o : (Nat → Int32) × (Nat → Int32) × (Nat → Int32)} (C0 : zCx p s m args meth c wsX5_findWalks cX5_findWalks RX5 none 7) (hK : zKK G k A s s.heap) (hA : ∀ q : Nat, s.heap.size ≤ q → A q) (hret : zRV p l e rmX5_findWalks s m args below meth c cX5_findWalks G A 0 0 Q (zM ad k thrown now saved hist kept reason detail isSaved o.1 o.2.1 o.2.2 isInText ahead roomAt rooms text length at_ errorPosition toldFrom toldTo isWrong before)) (k19 : (Nat → Int32) → (Nat → Int32) → (Nat → Int32) → Int32 → Int32 → Int32 → Option ((Nat → Int32) × (Nat → Int32) × (Nat → Int32))) (hk19 : ∀ (comes : Nat → Int32) (queue : Nat → Int32) (far : Nat → Int32) (x2 : Int32) (x3 : Int32) (x4 : Int32), k19 comes queue far x2 x3 x4 = some o → ∀ (H : Heap) (locs : List Loc) (ls : Array Slot), zWd G A s (zM ad k thrown now saved hist kept reason detail isSaved comes queue far isInText ahead roomAt rooms text length at_ errorPosition toldFrom toldTo isWrong before) H locs → lv_has ls 7 [(0, .ref (ad 0)), (2, .int x2), (3, .int x3), (4, .int x4)] → W p l e rmX5_findWalks s m args below meth c H locs 0 0 Q (F0 m 19 ls [])) : ∀ (comes : Nat → Int32) (queue : Nat → Int32) (far : Nat → Int32) (x2 : Int32) (x3 : Int32) (x4 : Int32), fX5_findWalks_130 k19 now comes queue far x2 x3 x4 = some o → ∀ (H : Heap) (locs : List Loc) (ls : Array Slot), zWd G A s (zM ad k thrown now saved hist kept reason detail isSaved comes queue far isInText ahead roomAt rooms text length at_ errorPosition toldFrom toldTo isWrong before) H locs → lv_has ls 7 [(0, .ref (ad 0)), (2, .int x2), (3, .int x3), (4, .int x4)] → W p l e rmX5_findWalks s m args below meth c H locs 0 0 Q (F0 m 130 ls []) := by
  obtain ⟨hx, hb, hr, hml, hown, hts, hlocks⟩ := id C0
  intro comes queue far x2 x3 x4 hF H locs ls hw hl
  unfold fX5_findWalks_130 at hF
  obtain ⟨a1, ea1⟩ : ∃ z : Int32, z = x4 + (1 : Int32) := ⟨_, rfl⟩
  have hF := zbn_t ea1 hF
  refine lv_iinc (v := a1) (lv' := [(4, .int a1), (0, .ref (ad 0)), (2, .int x2), (3, .int x3)]) hx hb dX5_findWalks_130 hl (k := 3) rfl (by rw [ea1]; rfl) (by decide) rfl (fun ls hl => ?_)
  refine lv_goto (tgt := 19) hx hb dX5_findWalks_133 (by decide) ?_
  exact hk19 _ _ _ _ _ _ hF _ _ _ hw (lv_sub hl [1, 2, 3, 0] rfl)
set_option maxHeartbeats 400000 in
set_option maxRecDepth 100000 in
theorem wX5_findWalks_124 {p : Program} {l : Launch} {e : Env} {s : State} {m : MethodId} {args : Array Value} {below : List Frame} {meth : Method} {c : Code} {A : Nat → Prop} {Q : State → Prop} {G : va_G} {k : Nat → ClassId} {ad : Nat → Nat} {thrown : Int32} {now : Nat → Int32} {saved : Nat → Int32} {hist : Nat → Nat → Int32} {kept : Int32} {reason : Int32} {detail : Int32} {isSaved : Int32} {isInText : Int32} {ahead : Nat → Int32} {roomAt : Nat → Int32} {rooms : Int32} {text : Nat → Int32} {length : Int32} {at_ : Int32} {errorPosition : Int32} {toldFrom : Int32} {toldTo : Int32} {isWrong : Int32} {before : Nat → Int32} {o : (Nat → Int32) × (Nat → Int32) × (Nat → Int32)} (C0 : zCx p s m args meth c wsX5_findWalks cX5_findWalks RX5 none 7) (hK : zKK G k A s s.heap) (hA : ∀ q : Nat, s.heap.size ≤ q → A q) (hret : zRV p l e rmX5_findWalks s m args below meth c cX5_findWalks G A 0 0 Q (zM ad k thrown now saved hist kept reason detail isSaved o.1 o.2.1 o.2.2 isInText ahead roomAt rooms text length at_ errorPosition toldFrom toldTo isWrong before)) (k28 : (Nat → Int32) → (Nat → Int32) → (Nat → Int32) → Int32 → Int32 → Int32 → Int32 → Option ((Nat → Int32) × (Nat → Int32) × (Nat → Int32))) (hk28 : ∀ (comes : Nat → Int32) (queue : Nat → Int32) (far : Nat → Int32) (x2 : Int32) (x3 : Int32) (x4 : Int32) (x5 : Int32), k28 comes queue far x2 x3 x4 x5 = some o → ∀ (H : Heap) (locs : List Loc) (ls : Array Slot), zWd G A s (zM ad k thrown now saved hist kept reason detail isSaved comes queue far isInText ahead roomAt rooms text length at_ errorPosition toldFrom toldTo isWrong before) H locs → lv_has ls 7 [(0, .ref (ad 0)), (2, .int x2), (3, .int x3), (4, .int x4), (5, .int x5)] → W p l e rmX5_findWalks s m args below meth c H locs 0 0 Q (F0 m 28 ls [])) : ∀ (comes : Nat → Int32) (queue : Nat → Int32) (far : Nat → Int32) (x2 : Int32) (x3 : Int32) (x4 : Int32) (x5 : Int32), fX5_findWalks_124 k28 now comes queue far x2 x3 x4 x5 = some o → ∀ (H : Heap) (locs : List Loc) (ls : Array Slot), zWd G A s (zM ad k thrown now saved hist kept reason detail isSaved comes queue far isInText ahead roomAt rooms text length at_ errorPosition toldFrom toldTo isWrong before) H locs → lv_has ls 7 [(0, .ref (ad 0)), (2, .int x2), (3, .int x3), (4, .int x4), (5, .int x5)] → W p l e rmX5_findWalks s m args below meth c H locs 0 0 Q (F0 m 124 ls []) := by
  obtain ⟨hx, hb, hr, hml, hown, hts, hlocks⟩ := id C0
  intro comes queue far x2 x3 x4 x5 hF H locs ls hw hl
  unfold fX5_findWalks_124 at hF
  obtain ⟨a1, ea1⟩ : ∃ z : Int32, z = x5 + (1 : Int32) := ⟨_, rfl⟩
  have hF := zbn_t ea1 hF
  refine lv_iinc (v := a1) (lv' := [(5, .int a1), (0, .ref (ad 0)), (2, .int x2), (3, .int x3), (4, .int x4)]) hx hb dX5_findWalks_124 hl (k := 4) rfl (by rw [ea1]; rfl) (by decide) rfl (fun ls hl => ?_)
  refine lv_goto (tgt := 28) hx hb dX5_findWalks_127 (by decide) ?_
  exact hk28 _ _ _ _ _ _ _ hF _ _ _ hw (lv_sub hl [1, 2, 3, 4, 0] rfl)
set_option maxHeartbeats 400000 in
set_option maxRecDepth 100000 in
theorem wX5_findWalks_28 {p : Program} {l : Launch} {e : Env} {s : State} {m : MethodId} {args : Array Value} {below : List Frame} {meth : Method} {c : Code} {A : Nat → Prop} {Q : State → Prop} {G : va_G} {k : Nat → ClassId} {ad : Nat → Nat} {thrown : Int32} {now : Nat → Int32} {saved : Nat → Int32} {hist : Nat → Nat → Int32} {kept : Int32} {reason : Int32} {detail : Int32} {isSaved : Int32} {isInText : Int32} {ahead : Nat → Int32} {roomAt : Nat → Int32} {rooms : Int32} {text : Nat → Int32} {length : Int32} {at_ : Int32} {errorPosition : Int32} {toldFrom : Int32} {toldTo : Int32} {isWrong : Int32} {before : Nat → Int32} {o : (Nat → Int32) × (Nat → Int32) × (Nat → Int32)} (C0 : zCx p s m args meth c wsX5_findWalks cX5_findWalks RX5 none 7) (hK : zKK G k A s s.heap) (hA : ∀ q : Nat, s.heap.size ≤ q → A q) (hret : zRV p l e rmX5_findWalks s m args below meth c cX5_findWalks G A 0 0 Q (zM ad k thrown now saved hist kept reason detail isSaved o.1 o.2.1 o.2.2 isInText ahead roomAt rooms text length at_ errorPosition toldFrom toldTo isWrong before)) (k19 : (Nat → Int32) → (Nat → Int32) → (Nat → Int32) → Int32 → Int32 → Int32 → Option ((Nat → Int32) × (Nat → Int32) × (Nat → Int32))) (hk19 : ∀ (comes : Nat → Int32) (queue : Nat → Int32) (far : Nat → Int32) (x2 : Int32) (x3 : Int32) (x4 : Int32), k19 comes queue far x2 x3 x4 = some o → ∀ (H : Heap) (locs : List Loc) (ls : Array Slot), zWd G A s (zM ad k thrown now saved hist kept reason detail isSaved comes queue far isInText ahead roomAt rooms text length at_ errorPosition toldFrom toldTo isWrong before) H locs → lv_has ls 7 [(0, .ref (ad 0)), (2, .int x2), (3, .int x3), (4, .int x4)] → W p l e rmX5_findWalks s m args below meth c H locs 0 0 Q (F0 m 19 ls [])) : ∀ (n : Nat) (comes : Nat → Int32) (queue : Nat → Int32) (far : Nat → Int32) (x2 : Int32) (x3 : Int32) (x4 : Int32) (x5 : Int32), fX5_findWalks_28 k19 now n comes queue far x2 x3 x4 x5 = some o → ∀ (H : Heap) (locs : List Loc) (ls : Array Slot), zWd G A s (zM ad k thrown now saved hist kept reason detail isSaved comes queue far isInText ahead roomAt rooms text length at_ errorPosition toldFrom toldTo isWrong before) H locs → lv_has ls 7 [(0, .ref (ad 0)), (2, .int x2), (3, .int x3), (4, .int x4), (5, .int x5)] → W p l e rmX5_findWalks s m args below meth c H locs 0 0 Q (F0 m 28 ls []) := by
  obtain ⟨hx, hb, hr, hml, hown, hts, hlocks⟩ := id C0
  intro n
  induction n with
  | zero => intro comes queue far x2 x3 x4 x5 hF; exact nomatch hF
  | succ n ih =>
    intro comes queue far x2 x3 x4 x5 hF H locs ls hw hl
    rw [fX5_findWalks_28] at hF
    refine lv_iload hx hb dX5_findWalks_28 (lv_at hl 4 rfl) ?_
    refine lv_iconst (v := (4 : Int32)) hx hb dX5_findWalks_30 (by decide) ?_
    refine lv_icmp_ge (tgt := 130) hx hb dX5_findWalks_31 (by decide) (fun hc => ?_) (fun hc => ?_)
    · have hF := zif_t hc hF
      exact wX5_findWalks_130 C0 hK hA hret k19 hk19  _ _ _ _ _ _ hF _ _ _ hw (lv_sub hl [0, 1, 2, 3] rfl)
    · have hF := zif_f hc hF
      refine lv_aload_n hx hb dX5_findWalks_34 rfl (lv_at hl 0 rfl) ?_
      refine va_get (D := G) (ci := 4) (v := .ref (ad 6)) (C := RX5) (T := TX5) (N := 23) hx hb hts inX5_findWalks_X5 hown hK.1 hw.1 0 rfl rfl 10 (by decide) (hts (.fieldLink RX5 28 "SealedBoardModel" "far" "[I") (by decide +kernel)) (fun _ h9 => h9) rfl dX5_findWalks_35 ?_
      refine lv_aload_n hx hb dX5_findWalks_38 rfl (lv_at hl 0 rfl) ?_
      refine va_get (D := G) (ci := 4) (v := .ref (ad 5)) (C := RX5) (T := TX5) (N := 23) hx hb hts inX5_findWalks_X5 hown hK.1 hw.1 0 rfl rfl 9 (by decide) (hts (.fieldLink RX5 25 "SealedBoardModel" "queue" "[I") (by decide +kernel)) (fun _ h9 => h9) rfl dX5_findWalks_39 ?_
      refine lv_iload hx hb dX5_findWalks_42 (lv_at hl 3 rfl) ?_
      obtain ⟨hi1, hF⟩ := zck_in hF
      refine va_iald hx hb hK.1 hw.1 5 2 rfl rfl hi1 dX5_findWalks_44 ?_
      obtain ⟨hi2, hF⟩ := zck_in hF
      refine va_iald hx hb hK.1 hw.1 6 2 rfl rfl hi2 dX5_findWalks_45 ?_
      refine lv_iconst (v := (3 : Int32)) hx hb dX5_findWalks_46 (by decide) ?_
      refine lv_icmp_ge (tgt := 130) hx hb dX5_findWalks_47 (by decide) (fun hc => ?_) (fun hc => ?_)
      · have hF := zif_t hc hF
        exact wX5_findWalks_130 C0 hK hA hret k19 hk19  _ _ _ _ _ _ hF _ _ _ hw (lv_sub hl [0, 1, 2, 3] rfl)
      · have hF := zif_f hc hF
        refine lv_aload_n hx hb dX5_findWalks_50 rfl (lv_at hl 0 rfl) ?_
        refine va_get (D := G) (ci := 4) (v := .ref (ad 5)) (C := RX5) (T := TX5) (N := 23) hx hb hts inX5_findWalks_X5 hown hK.1 hw.1 0 rfl rfl 9 (by decide) (hts (.fieldLink RX5 25 "SealedBoardModel" "queue" "[I") (by decide +kernel)) (fun _ h9 => h9) rfl dX5_findWalks_51 ?_
        refine lv_iload hx hb dX5_findWalks_54 (lv_at hl 3 rfl) ?_
        obtain ⟨hi3, hF⟩ := zck_in hF
        refine va_iald hx hb hK.1 hw.1 5 2 rfl rfl hi3 dX5_findWalks_56 ?_
        refine lv_iload hx hb dX5_findWalks_57 (lv_at hl 4 rfl) ?_
        obtain ⟨u4, hq5, hF⟩ := zbd_t hF
        refine zgoI (w' := (zM ad k thrown now saved hist kept reason detail isSaved comes queue far isInText ahead roomAt rooms text length at_ errorPosition toldFrom toldTo isWrong before)) hw hA [] rfl (zS (As := [.int (queue x4.toNatClampNeg), .int x5]) (rest := []) ⟨hx, hb, hml, hown, hts⟩ (mX5_next l G k  H.size  (queue x4.toNatClampNeg) x5 u4 hq5) (va_cwS 2 hts gX5_findWalks_X5_next rfl rfl rfl kdX5_next ⟨Nat.le_of_ble_eq_true rfl, Nat.le_of_ble_eq_true rfl⟩) hK hA hw [] rfl (by decide) rfl hl.1 rfl (Nat.le_of_ble_eq_true rfl) dX5_findWalks_59 ⟨Nat.le_of_ble_eq_true rfl, Nat.le_of_ble_eq_true rfl⟩) rfl rfl rfl (fun H locs hw => ?_)
        refine lv_istore (lv' := [(6, .int u4), (0, .ref (ad 0)), (2, .int x2), (3, .int x3), (4, .int x4), (5, .int x5)]) hx hb dX5_findWalks_62 hl (by decide) rfl (fun ls hl => ?_)
        refine lv_aload_n hx hb dX5_findWalks_64 rfl (lv_at hl 1 rfl) ?_
        refine lv_iload_n hx hb dX5_findWalks_65 rfl (lv_at hl 2 rfl) ?_
        refine lv_iload hx hb dX5_findWalks_66 (lv_at hl 0 rfl) ?_
        obtain ⟨u6, hq7, hF⟩ := zbd_t hF
        refine zgoIw (w' := (zM ad k thrown now saved hist kept reason detail isSaved comes queue far isInText ahead roomAt rooms text length at_ errorPosition toldFrom toldTo isWrong before)) hw hA (zVw (As := [.int x2, .int u4]) (rest := []) ⟨hx, hb, hml, hown, hts⟩ (mX5_mayStand l G k ad H.size thrown now saved hist kept reason detail isSaved comes queue far isInText ahead roomAt rooms text length at_ errorPosition toldFrom toldTo isWrong before x2 u4 u6 hq7) (cwV 2 hts gX5_findWalks_X5_mayStand rfl rfl rfl kdX5_mayStand ⟨Nat.le_of_ble_eq_true rfl, Nat.le_of_ble_eq_true rfl⟩) hK hA hw 0 rfl rfl rfl rfl hl.1 rfl (Nat.le_of_ble_eq_true rfl) dX5_findWalks_68 ⟨Nat.le_of_ble_eq_true rfl, Nat.le_of_ble_eq_true rfl⟩) (fun H locs hw => ?_)
        refine lv_if_eq (tgt := 124) hx hb dX5_findWalks_71 (by decide) (fun hc => ?_) (fun hc => ?_)
        · have hF := zif_t hc hF
          exact wX5_findWalks_124 C0 hK hA hret (fun b0 b1 b2 b3 b4 b5 b6 => fX5_findWalks_28 k19 now n b0 b1 b2 b3 b4 b5 b6) ih  _ _ _ _ _ _ _ hF _ _ _ hw (lv_sub hl [1, 2, 3, 4, 5] rfl)
        · have hF := zif_f hc hF
          refine lv_aload_n hx hb dX5_findWalks_74 rfl (lv_at hl 1 rfl) ?_
          refine va_get (D := G) (ci := 4) (v := .ref (ad 4)) (C := RX5) (T := TX5) (N := 23) hx hb hts inX5_findWalks_X5 hown hK.1 hw.1 0 rfl rfl 8 (by decide) (hts (.fieldLink RX5 21 "SealedBoardModel" "comes" "[Z") (by decide +kernel)) (fun _ h9 => h9) rfl dX5_findWalks_75 ?_
          refine lv_iload hx hb dX5_findWalks_78 (lv_at hl 0 rfl) ?_
          obtain ⟨hi8, hF⟩ := zck_in hF
          refine va_zald hx hb hK.1 hw.1 4 3 rfl rfl hi8 dX5_findWalks_80 ?_
          refine lv_if_ne (tgt := 124) hx hb dX5_findWalks_81 (by decide) (fun hc => ?_) (fun hc => ?_)
          · have hF := zif_f hc hF
            exact wX5_findWalks_124 C0 hK hA hret (fun b0 b1 b2 b3 b4 b5 b6 => fX5_findWalks_28 k19 now n b0 b1 b2 b3 b4 b5 b6) ih  _ _ _ _ _ _ _ hF _ _ _ hw (lv_sub hl [1, 2, 3, 4, 5] rfl)
          · have hF := zif_t hc hF
            refine lv_aload_n hx hb dX5_findWalks_84 rfl (lv_at hl 1 rfl) ?_
            refine va_get (D := G) (ci := 4) (v := .ref (ad 4)) (C := RX5) (T := TX5) (N := 23) hx hb hts inX5_findWalks_X5 hown hK.1 hw.1 0 rfl rfl 8 (by decide) (hts (.fieldLink RX5 21 "SealedBoardModel" "comes" "[Z") (by decide +kernel)) (fun _ h9 => h9) rfl dX5_findWalks_85 ?_
            refine lv_iload hx hb dX5_findWalks_88 (lv_at hl 0 rfl) ?_
            refine lv_iconst (v := (1 : Int32)) hx hb dX5_findWalks_90 (by decide) ?_
            obtain ⟨hi9, hF⟩ := zck_in hF
            refine va_zast hx hb hK.1 hw.1 hw.2.1 hw.2.2 4 3 rfl rfl hi9 dX5_findWalks_91 (fun H locs hP hD hS => ?_)
            have hw : zWd G A s (zM ad k thrown now saved hist kept reason detail isSaved (upd comes u4.toNatClampNeg (vp_nar .boolean (1 : Int32))) queue far isInText ahead roomAt rooms text length at_ errorPosition toldFrom toldTo isWrong before) H locs := ⟨hP, hD, hS⟩
            refine lv_aload_n hx hb dX5_findWalks_92 rfl (lv_at hl 1 rfl) ?_
            refine va_get (D := G) (ci := 4) (v := .ref (ad 6)) (C := RX5) (T := TX5) (N := 23) hx hb hts inX5_findWalks_X5 hown hK.1 hw.1 0 rfl rfl 10 (by decide) (hts (.fieldLink RX5 28 "SealedBoardModel" "far" "[I") (by decide +kernel)) (fun _ h9 => h9) rfl dX5_findWalks_93 ?_
            refine lv_iload hx hb dX5_findWalks_96 (lv_at hl 0 rfl) ?_
            refine lv_aload_n hx hb dX5_findWalks_98 rfl (lv_at hl 1 rfl) ?_
            refine va_get (D := G) (ci := 4) (v := .ref (ad 6)) (C := RX5) (T := TX5) (N := 23) hx hb hts inX5_findWalks_X5 hown hK.1 hw.1 0 rfl rfl 10 (by decide) (hts (.fieldLink RX5 28 "SealedBoardModel" "far" "[I") (by decide +kernel)) (fun _ h9 => h9) rfl dX5_findWalks_99 ?_
            refine lv_aload_n hx hb dX5_findWalks_102 rfl (lv_at hl 1 rfl) ?_
            refine va_get (D := G) (ci := 4) (v := .ref (ad 5)) (C := RX5) (T := TX5) (N := 23) hx hb hts inX5_findWalks_X5 hown hK.1 hw.1 0 rfl rfl 9 (by decide) (hts (.fieldLink RX5 25 "SealedBoardModel" "queue" "[I") (by decide +kernel)) (fun _ h9 => h9) rfl dX5_findWalks_103 ?_
            refine lv_iload hx hb dX5_findWalks_106 (lv_at hl 4 rfl) ?_
            obtain ⟨hi10, hF⟩ := zck_in hF
            refine va_iald hx hb hK.1 hw.1 5 2 rfl rfl hi10 dX5_findWalks_108 ?_
            obtain ⟨hi11, hF⟩ := zck_in hF
            refine va_iald hx hb hK.1 hw.1 6 2 rfl rfl hi11 dX5_findWalks_109 ?_
            refine lv_iconst (v := (1 : Int32)) hx hb dX5_findWalks_110 (by decide) ?_
            refine lv_iadd hx hb dX5_findWalks_111 ?_
            obtain ⟨hi12, hF⟩ := zck_in hF
            refine va_iast hx hb hK.1 hw.1 hw.2.1 hw.2.2 6 2 rfl rfl hi12 dX5_findWalks_112 (fun H locs hP hD hS => ?_)
            have hw : zWd G A s (zM ad k thrown now saved hist kept reason detail isSaved (upd comes u4.toNatClampNeg (vp_nar .boolean (1 : Int32))) queue (upd far u4.toNatClampNeg ((far (queue x4.toNatClampNeg).toNatClampNeg) + (1 : Int32))) isInText ahead roomAt rooms text length at_ errorPosition toldFrom toldTo isWrong before) H locs := ⟨hP, hD, hS⟩
            refine lv_aload_n hx hb dX5_findWalks_113 rfl (lv_at hl 1 rfl) ?_
            refine va_get (D := G) (ci := 4) (v := .ref (ad 5)) (C := RX5) (T := TX5) (N := 23) hx hb hts inX5_findWalks_X5 hown hK.1 hw.1 0 rfl rfl 9 (by decide) (hts (.fieldLink RX5 25 "SealedBoardModel" "queue" "[I") (by decide +kernel)) (fun _ h9 => h9) rfl dX5_findWalks_114 ?_
            refine lv_iload_n hx hb dX5_findWalks_117 rfl (lv_at hl 3 rfl) ?_
            refine lv_iload hx hb dX5_findWalks_118 (lv_at hl 0 rfl) ?_
            obtain ⟨hi13, hF⟩ := zck_in hF
            refine va_iast hx hb hK.1 hw.1 hw.2.1 hw.2.2 5 2 rfl rfl hi13 dX5_findWalks_120 (fun H locs hP hD hS => ?_)
            have hw : zWd G A s (zM ad k thrown now saved hist kept reason detail isSaved (upd comes u4.toNatClampNeg (vp_nar .boolean (1 : Int32))) (upd queue x3.toNatClampNeg u4) (upd far u4.toNatClampNeg ((far (queue x4.toNatClampNeg).toNatClampNeg) + (1 : Int32))) isInText ahead roomAt rooms text length at_ errorPosition toldFrom toldTo isWrong before) H locs := ⟨hP, hD, hS⟩
            obtain ⟨a14, ea14⟩ : ∃ z : Int32, z = x3 + (1 : Int32) := ⟨_, rfl⟩
            have hF := zbn_t ea14 hF
            refine lv_iinc (v := a14) (lv' := [(3, .int a14), (6, .int u4), (0, .ref (ad 0)), (2, .int x2), (4, .int x4), (5, .int x5)]) hx hb dX5_findWalks_121 hl (k := 3) rfl (by rw [ea14]; rfl) (by decide) rfl (fun ls hl => ?_)
            exact wX5_findWalks_124 C0 hK hA hret (fun b0 b1 b2 b3 b4 b5 b6 => fX5_findWalks_28 k19 now n b0 b1 b2 b3 b4 b5 b6) ih  _ _ _ _ _ _ _ hF _ _ _ hw (lv_sub hl [2, 3, 0, 4, 5] rfl)
set_option maxHeartbeats 400000 in
set_option maxRecDepth 100000 in
theorem wX5_findWalks_19 {p : Program} {l : Launch} {e : Env} {s : State} {m : MethodId} {args : Array Value} {below : List Frame} {meth : Method} {c : Code} {A : Nat → Prop} {Q : State → Prop} {G : va_G} {k : Nat → ClassId} {ad : Nat → Nat} {thrown : Int32} {now : Nat → Int32} {saved : Nat → Int32} {hist : Nat → Nat → Int32} {kept : Int32} {reason : Int32} {detail : Int32} {isSaved : Int32} {isInText : Int32} {ahead : Nat → Int32} {roomAt : Nat → Int32} {rooms : Int32} {text : Nat → Int32} {length : Int32} {at_ : Int32} {errorPosition : Int32} {toldFrom : Int32} {toldTo : Int32} {isWrong : Int32} {before : Nat → Int32} {o : (Nat → Int32) × (Nat → Int32) × (Nat → Int32)} (C0 : zCx p s m args meth c wsX5_findWalks cX5_findWalks RX5 none 7) (hK : zKK G k A s s.heap) (hA : ∀ q : Nat, s.heap.size ≤ q → A q) (hret : zRV p l e rmX5_findWalks s m args below meth c cX5_findWalks G A 0 0 Q (zM ad k thrown now saved hist kept reason detail isSaved o.1 o.2.1 o.2.2 isInText ahead roomAt rooms text length at_ errorPosition toldFrom toldTo isWrong before))  : ∀ (n : Nat) (comes : Nat → Int32) (queue : Nat → Int32) (far : Nat → Int32) (x2 : Int32) (x3 : Int32) (x4 : Int32), fX5_findWalks_19  now n comes queue far x2 x3 x4 = some o → ∀ (H : Heap) (locs : List Loc) (ls : Array Slot), zWd G A s (zM ad k thrown now saved hist kept reason detail isSaved comes queue far isInText ahead roomAt rooms text length at_ errorPosition toldFrom toldTo isWrong before) H locs → lv_has ls 7 [(0, .ref (ad 0)), (2, .int x2), (3, .int x3), (4, .int x4)] → W p l e rmX5_findWalks s m args below meth c H locs 0 0 Q (F0 m 19 ls []) := by
  obtain ⟨hx, hb, hr, hml, hown, hts, hlocks⟩ := id C0
  intro n
  induction n with
  | zero => intro comes queue far x2 x3 x4 hF; exact nomatch hF
  | succ n ih =>
    intro comes queue far x2 x3 x4 hF H locs ls hw hl
    rw [fX5_findWalks_19] at hF
    refine lv_iload hx hb dX5_findWalks_19 (lv_at hl 3 rfl) ?_
    refine lv_iload_n hx hb dX5_findWalks_21 rfl (lv_at hl 2 rfl) ?_
    refine lv_icmp_ge (tgt := 136) hx hb dX5_findWalks_22 (by decide) (fun hc => ?_) (fun hc => ?_)
    · have hF := zif_t hc hF
      obtain rfl := Option.some.inj hF
      exact hret _ _ _ _  hw dX5_findWalks_136
    · have hF := zif_f hc hF
      refine lv_iconst (v := (0 : Int32)) hx hb dX5_findWalks_25 (by decide) ?_
      refine lv_istore (lv' := [(5, .int (0 : Int32)), (0, .ref (ad 0)), (2, .int x2), (3, .int x3), (4, .int x4)]) hx hb dX5_findWalks_26 hl (by decide) rfl (fun ls hl => ?_)
      exact wX5_findWalks_28 C0 hK hA hret (fun b0 b1 b2 b3 b4 b5 => fX5_findWalks_19  now n b0 b1 b2 b3 b4 b5) ih zFu _ _ _ _ _ _ _ hF _ _ _ hw (lv_sub hl [1, 2, 3, 4, 0] rfl)
set_option maxHeartbeats 400000 in
set_option maxRecDepth 100000 in
theorem mX5_findWalks (l : Launch) (G : va_G) (k : Nat → ClassId) (ad : Nat → Nat) (sz : Nat) (thrown : Int32) (now : Nat → Int32) (saved : Nat → Int32) (hist : Nat → Nat → Int32) (kept : Int32) (reason : Int32) (detail : Int32) (isSaved : Int32) (comes : Nat → Int32) (queue : Nat → Int32) (far : Nat → Int32) (isInText : Int32) (ahead : Nat → Int32) (roomAt : Nat → Int32) (rooms : Int32) (text : Nat → Int32) (length : Int32) (at_ : Int32) (errorPosition : Int32) (toldFrom : Int32) (toldTo : Int32) (isWrong : Int32) (before : Nat → Int32) (p0 : Int32) (p1 : Int32) (o : (Nat → Int32) × (Nat → Int32) × (Nat → Int32)) (hF : fX5_findWalks now comes queue far p0 p1 = some o) : zMV l yX5_findWalks wsX5_findWalks rmX5_findWalks G k (zM ad k thrown now saved hist kept reason detail isSaved comes queue far isInText ahead roomAt rooms text length at_ errorPosition toldFrom toldTo isWrong before) sz [.ref (ad 0), .int p0, .int p1] (zM ad k thrown now saved hist kept reason detail isSaved o.1 o.2.1 o.2.2 isInText ahead roomAt rooms text length at_ errorPosition toldFrom toldTo isWrong before) := by
  refine zof_V (cc := cX5_findWalks) (nL := 7) (own := RX5) (by decide) rfl rfl (Nat.le_of_ble_eq_true rfl) ?_
  intro p e s m args below meth c A Q C0 hK hA hret ls hl hw
  have hl : lv_has ls 7 [(0, .ref (ad 0)), (1, .int p0), (2, .int p1)] := hl
  obtain ⟨hx, hb, hr, hml, hown, hts, hlocks⟩ := id C0
  obtain ⟨H, hH⟩ : ∃ z, z = s.heap := ⟨_, rfl⟩
  rw [← hH] at hw ⊢
  unfold fX5_findWalks at hF
  refine lv_iconst (v := (1 : Int32)) hx hb dX5_findWalks_0 (by decide) ?_
  refine lv_istore_n (lv' := [(3, .int (1 : Int32)), (0, .ref (ad 0)), (1, .int p0), (2, .int p1)]) hx hb dX5_findWalks_1 rfl hl (by decide) rfl (fun ls hl => ?_)
  refine lv_aload_n hx hb dX5_findWalks_2 rfl (lv_at hl 1 rfl) ?_
  refine va_get (D := G) (ci := 4) (v := .ref (ad 5)) (C := RX5) (T := TX5) (N := 23) hx hb hts inX5_findWalks_X5 hown hK.1 hw.1 0 rfl rfl 9 (by decide) (hts (.fieldLink RX5 25 "SealedBoardModel" "queue" "[I") (by decide +kernel)) (fun _ h9 => h9) rfl dX5_findWalks_3 ?_
  refine lv_iconst (v := (0 : Int32)) hx hb dX5_findWalks_6 (by decide) ?_
  refine lv_iload_n hx hb dX5_findWalks_7 rfl (lv_at hl 2 rfl) ?_
  obtain ⟨hi1, hF⟩ := zck_in hF
  refine va_iast hx hb hK.1 hw.1 hw.2.1 hw.2.2 5 2 rfl rfl hi1 dX5_findWalks_8 (fun H locs hP hD hS => ?_)
  have hw : zWd G A s (zM ad k thrown now saved hist kept reason detail isSaved comes (upd queue (0 : Int32).toNatClampNeg p0) far isInText ahead roomAt rooms text length at_ errorPosition toldFrom toldTo isWrong before) H locs := ⟨hP, hD, hS⟩
  refine lv_aload_n hx hb dX5_findWalks_9 rfl (lv_at hl 1 rfl) ?_
  refine va_get (D := G) (ci := 4) (v := .ref (ad 6)) (C := RX5) (T := TX5) (N := 23) hx hb hts inX5_findWalks_X5 hown hK.1 hw.1 0 rfl rfl 10 (by decide) (hts (.fieldLink RX5 28 "SealedBoardModel" "far" "[I") (by decide +kernel)) (fun _ h9 => h9) rfl dX5_findWalks_10 ?_
  refine lv_iload_n hx hb dX5_findWalks_13 rfl (lv_at hl 2 rfl) ?_
  refine lv_iconst (v := (0 : Int32)) hx hb dX5_findWalks_14 (by decide) ?_
  obtain ⟨hi2, hF⟩ := zck_in hF
  refine va_iast hx hb hK.1 hw.1 hw.2.1 hw.2.2 6 2 rfl rfl hi2 dX5_findWalks_15 (fun H locs hP hD hS => ?_)
  have hw : zWd G A s (zM ad k thrown now saved hist kept reason detail isSaved comes (upd queue (0 : Int32).toNatClampNeg p0) (upd far p0.toNatClampNeg (0 : Int32)) isInText ahead roomAt rooms text length at_ errorPosition toldFrom toldTo isWrong before) H locs := ⟨hP, hD, hS⟩
  refine lv_iconst (v := (0 : Int32)) hx hb dX5_findWalks_16 (by decide) ?_
  refine lv_istore (lv' := [(4, .int (0 : Int32)), (3, .int (1 : Int32)), (0, .ref (ad 0)), (1, .int p0), (2, .int p1)]) hx hb dX5_findWalks_17 hl (by decide) rfl (fun ls hl => ?_)
  exact wX5_findWalks_19 C0 hK hA hret  zFu _ _ _ _ _ _ hF _ _ _ hw (lv_sub hl [2, 4, 1, 0] rfl)

/-! SealedBoardModel.findMoves(I)V -/
abbrev rmX5_findMoves : Room := { frames := 4, cells := 0, slots := 0, locals := 91 }
theorem kdX5_findMoves : yX5_findMoves.cls = RX5 ∧ yX5_findMoves.cls ≠ "java/lang/invoke/MethodHandle" ∧ yX5_findMoves.cls ≠ "java/lang/invoke/VarHandle" ∧ (parseMethodDescriptor yX5_findMoves.desc).map (fun d => d.parameters.length) = some 1 := by decide +kernel
theorem inX5_findMoves_X5 : ∀ w ∈ u_ws RX5 TX5 23, w ∈ wsX5_findMoves := by decide +kernel
def fX5_findMoves_2  (now : Nat → Int32) : Nat → (Nat → Int32) → (Nat → Int32) → (Nat → Int32) → Int32 → Int32 → Option ((Nat → Int32) × (Nat → Int32) × (Nat → Int32))
  | 0, _, _, _, _, _ => none
  | n + 1, comes, queue, far, x1, x2 => (if (36 : Int32) ≤ x2 then (zck (zin x1 76) (zbd (fX5_sideOf (now x1.toNatClampNeg)) (fun u2 => (zck (zin x1 76) (zbd (fX5_kindOf (now x1.toNatClampNeg)) (fun u5 => (if u5 = (0 : Int32) then (zbd (fX5_findNear now comes x1 u2) (fun u8 => (some (u8, queue, far)))) else (if u5 = (1 : Int32) then (zbd (fX5_findStraight now comes x1 u2) (fun u11 => (some (u11, queue, far)))) else (if u5 = (2 : Int32) then (zbd (fX5_findWalks now comes queue far x1 u2) (fun u14 => (some (u14.1, u14.2.1, u14.2.2)))) else (if u5 = (3 : Int32) then (zbd (fX5_findNear now comes x1 u2) (fun u17 => (some (u17, queue, far)))) else (some (comes, queue, far)))))))))))) else (zck (zin x2 36) (zbn (x2 + (1 : Int32)) (fun a20 => (fX5_findMoves_2  now n (upd comes x2.toNatClampNeg (vp_nar .boolean (0 : Int32))) queue far x1 a20)))))
def fX5_findMoves (now : Nat → Int32) (comes : Nat → Int32) (queue : Nat → Int32) (far : Nat → Int32) (p0 : Int32) : Option ((Nat → Int32) × (Nat → Int32) × (Nat → Int32)) := (fX5_findMoves_2  now zFu comes queue far p0 (0 : Int32))
set_option maxHeartbeats 400000 in
set_option maxRecDepth 100000 in
theorem wX5_findMoves_2 {p : Program} {l : Launch} {e : Env} {s : State} {m : MethodId} {args : Array Value} {below : List Frame} {meth : Method} {c : Code} {A : Nat → Prop} {Q : State → Prop} {G : va_G} {k : Nat → ClassId} {ad : Nat → Nat} {thrown : Int32} {now : Nat → Int32} {saved : Nat → Int32} {hist : Nat → Nat → Int32} {kept : Int32} {reason : Int32} {detail : Int32} {isSaved : Int32} {isInText : Int32} {ahead : Nat → Int32} {roomAt : Nat → Int32} {rooms : Int32} {text : Nat → Int32} {length : Int32} {at_ : Int32} {errorPosition : Int32} {toldFrom : Int32} {toldTo : Int32} {isWrong : Int32} {before : Nat → Int32} {o : (Nat → Int32) × (Nat → Int32) × (Nat → Int32)} (C0 : zCx p s m args meth c wsX5_findMoves cX5_findMoves RX5 none 3) (hK : zKK G k A s s.heap) (hA : ∀ q : Nat, s.heap.size ≤ q → A q) (hret : zRV p l e rmX5_findMoves s m args below meth c cX5_findMoves G A 0 0 Q (zM ad k thrown now saved hist kept reason detail isSaved o.1 o.2.1 o.2.2 isInText ahead roomAt rooms text length at_ errorPosition toldFrom toldTo isWrong before))  : ∀ (n : Nat) (comes : Nat → Int32) (queue : Nat → Int32) (far : Nat → Int32) (x1 : Int32) (x2 : Int32), fX5_findMoves_2  now n comes queue far x1 x2 = some o → ∀ (H : Heap) (locs : List Loc) (ls : Array Slot), zWd G A s (zM ad k thrown now saved hist kept reason detail isSaved comes queue far isInText ahead roomAt rooms text length at_ errorPosition toldFrom toldTo isWrong before) H locs → lv_has ls 3 [(0, .ref (ad 0)), (1, .int x1), (2, .int x2)] → W p l e rmX5_findMoves s m args below meth c H locs 0 0 Q (F0 m 2 ls []) := by
  obtain ⟨hx, hb, hr, hml, hown, hts, hlocks⟩ := id C0
  intro n
  induction n with
  | zero => intro comes queue far x1 x2 hF; exact nomatch hF
  | succ n ih =>
    intro comes queue far x1 x2 hF H locs ls hw hl
    rw [fX5_findMoves_2] at hF
    refine lv_iload_n hx hb dX5_findMoves_2 rfl (lv_at hl 2 rfl) ?_
    refine lv_bipush (v := (36 : Int32)) hx hb dX5_findMoves_3 (by decide) ?_
    refine lv_icmp_ge (tgt := 21) hx hb dX5_findMoves_5 (by decide) (fun hc => ?_) (fun hc => ?_)
    · have hF := zif_t hc hF
      refine lv_aload_n hx hb dX5_findMoves_21 rfl (lv_at hl 0 rfl) ?_
      refine va_get (D := G) (ci := 4) (v := .ref (ad 1)) (C := RX5) (T := TX5) (N := 23) hx hb hts inX5_findMoves_X5 hown hK.1 hw.1 0 rfl rfl 1 (by decide) (hts (.fieldLink RX5 9 "SealedBoardModel" "now" "[I") (by decide +kernel)) (fun _ h9 => h9) rfl dX5_findMoves_22 ?_
      refine lv_iload_n hx hb dX5_findMoves_25 rfl (lv_at hl 1 rfl) ?_
      obtain ⟨hi1, hF⟩ := zck_in hF
      refine va_iald hx hb hK.1 hw.1 1 2 rfl rfl hi1 dX5_findMoves_26 ?_
      obtain ⟨u2, hq3, hF⟩ := zbd_t hF
      refine zgoI (w' := (zM ad k thrown now saved hist kept reason detail isSaved comes queue far isInText ahead roomAt rooms text length at_ errorPosition toldFrom toldTo isWrong before)) hw hA [] rfl (zS (As := [.int (now x1.toNatClampNeg)]) (rest := []) ⟨hx, hb, hml, hown, hts⟩ (mX5_sideOf l G k  H.size  (now x1.toNatClampNeg) u2 hq3) (va_cwS 1 hts gX5_findMoves_X5_sideOf rfl rfl rfl kdX5_sideOf ⟨Nat.le_of_ble_eq_true rfl, Nat.le_of_ble_eq_true rfl⟩) hK hA hw [] rfl (by decide) rfl hl.1 rfl (Nat.le_of_ble_eq_true rfl) dX5_findMoves_27 ⟨Nat.le_of_ble_eq_true rfl, Nat.le_of_ble_eq_true rfl⟩) rfl rfl rfl (fun H locs hw => ?_)
      refine lv_istore_n (lv' := [(2, .int u2), (0, .ref (ad 0)), (1, .int x1)]) hx hb dX5_findMoves_30 rfl hl (by decide) rfl (fun ls hl => ?_)
      refine lv_aload_n hx hb dX5_findMoves_31 rfl (lv_at hl 1 rfl) ?_
      refine va_get (D := G) (ci := 4) (v := .ref (ad 1)) (C := RX5) (T := TX5) (N := 23) hx hb hts inX5_findMoves_X5 hown hK.1 hw.1 0 rfl rfl 1 (by decide) (hts (.fieldLink RX5 9 "SealedBoardModel" "now" "[I") (by decide +kernel)) (fun _ h9 => h9) rfl dX5_findMoves_32 ?_
      refine lv_iload_n hx hb dX5_findMoves_35 rfl (lv_at hl 2 rfl) ?_
      obtain ⟨hi4, hF⟩ := zck_in hF
      refine va_iald hx hb hK.1 hw.1 1 2 rfl rfl hi4 dX5_findMoves_36 ?_
      obtain ⟨u5, hq6, hF⟩ := zbd_t hF
      refine zgoI (w' := (zM ad k thrown now saved hist kept reason detail isSaved comes queue far isInText ahead roomAt rooms text length at_ errorPosition toldFrom toldTo isWrong before)) hw hA [] rfl (zS (As := [.int (now x1.toNatClampNeg)]) (rest := []) ⟨hx, hb, hml, hown, hts⟩ (mX5_kindOf l G k  H.size  (now x1.toNatClampNeg) u5 hq6) (va_cwS 1 hts gX5_findMoves_X5_kindOf rfl rfl rfl kdX5_kindOf ⟨Nat.le_of_ble_eq_true rfl, Nat.le_of_ble_eq_true rfl⟩) hK hA hw [] rfl (by decide) rfl hl.1 rfl (Nat.le_of_ble_eq_true rfl) dX5_findMoves_37 ⟨Nat.le_of_ble_eq_true rfl, Nat.le_of_ble_eq_true rfl⟩) rfl rfl rfl (fun H locs hw => ?_)
      by_cases hc7 : u5 = (0 : Int32)
      · have hF := zif_t hc7 hF
        refine lv_tableIn (tgt := 72) (off := 32) hx hb dX5_findMoves_40 (by rw [hc7]; decide) (by rw [hc7]; decide) (by rw [hc7]; rfl) (by decide) ?_
        refine lv_aload_n hx hb dX5_findMoves_72 rfl (lv_at hl 1 rfl) ?_
        refine lv_iload_n hx hb dX5_findMoves_73 rfl (lv_at hl 2 rfl) ?_
        refine lv_iload_n hx hb dX5_findMoves_74 rfl (lv_at hl 0 rfl) ?_
        obtain ⟨u8, hq9, hF⟩ := zbd_t hF
        refine zgoVw (w' := (zM ad k thrown now saved hist kept reason detail isSaved u8 queue far isInText ahead roomAt rooms text length at_ errorPosition toldFrom toldTo isWrong before)) hw hA (zVw (As := [.int x1, .int u2]) (rest := []) ⟨hx, hb, hml, hown, hts⟩ (mX5_findNear l G k ad H.size thrown now saved hist kept reason detail isSaved comes queue far isInText ahead roomAt rooms text length at_ errorPosition toldFrom toldTo isWrong before x1 u2 u8 hq9) (cwV 2 hts gX5_findMoves_X5_findNear rfl rfl rfl kdX5_findNear ⟨Nat.le_of_ble_eq_true rfl, Nat.le_of_ble_eq_true rfl⟩) hK hA hw 0 rfl rfl rfl rfl hl.1 rfl (Nat.le_of_ble_eq_true rfl) dX5_findMoves_75 ⟨Nat.le_of_ble_eq_true rfl, Nat.le_of_ble_eq_true rfl⟩) (fun H locs hw => ?_)
        refine lv_goto (tgt := 99) hx hb dX5_findMoves_78 (by decide) ?_
        obtain rfl := Option.some.inj hF
        exact hret _ _ _ _  hw dX5_findMoves_99
      have hF := zif_f hc7 hF
      by_cases hc10 : u5 = (1 : Int32)
      · have hF := zif_t hc10 hF
        refine lv_tableIn (tgt := 81) (off := 41) hx hb dX5_findMoves_40 (by rw [hc10]; decide) (by rw [hc10]; decide) (by rw [hc10]; rfl) (by decide) ?_
        refine lv_aload_n hx hb dX5_findMoves_81 rfl (lv_at hl 1 rfl) ?_
        refine lv_iload_n hx hb dX5_findMoves_82 rfl (lv_at hl 2 rfl) ?_
        refine lv_iload_n hx hb dX5_findMoves_83 rfl (lv_at hl 0 rfl) ?_
        obtain ⟨u11, hq12, hF⟩ := zbd_t hF
        refine zgoVw (w' := (zM ad k thrown now saved hist kept reason detail isSaved u11 queue far isInText ahead roomAt rooms text length at_ errorPosition toldFrom toldTo isWrong before)) hw hA (zVw (As := [.int x1, .int u2]) (rest := []) ⟨hx, hb, hml, hown, hts⟩ (mX5_findStraight l G k ad H.size thrown now saved hist kept reason detail isSaved comes queue far isInText ahead roomAt rooms text length at_ errorPosition toldFrom toldTo isWrong before x1 u2 u11 hq12) (cwV 2 hts gX5_findMoves_X5_findStraight rfl rfl rfl kdX5_findStraight ⟨Nat.le_of_ble_eq_true rfl, Nat.le_of_ble_eq_true rfl⟩) hK hA hw 0 rfl rfl rfl rfl hl.1 rfl (Nat.le_of_ble_eq_true rfl) dX5_findMoves_84 ⟨Nat.le_of_ble_eq_true rfl, Nat.le_of_ble_eq_true rfl⟩) (fun H locs hw => ?_)
        refine lv_goto (tgt := 99) hx hb dX5_findMoves_87 (by decide) ?_
        obtain rfl := Option.some.inj hF
        exact hret _ _ _ _  hw dX5_findMoves_99
      have hF := zif_f hc10 hF
      by_cases hc13 : u5 = (2 : Int32)
      · have hF := zif_t hc13 hF
        refine lv_tableIn (tgt := 90) (off := 50) hx hb dX5_findMoves_40 (by rw [hc13]; decide) (by rw [hc13]; decide) (by rw [hc13]; rfl) (by decide) ?_
        refine lv_aload_n hx hb dX5_findMoves_90 rfl (lv_at hl 1 rfl) ?_
        refine lv_iload_n hx hb dX5_findMoves_91 rfl (lv_at hl 2 rfl) ?_
        refine lv_iload_n hx hb dX5_findMoves_92 rfl (lv_at hl 0 rfl) ?_
        obtain ⟨u14, hq15, hF⟩ := zbd_t hF
        refine zgoVw (w' := (zM ad k thrown now saved hist kept reason detail isSaved u14.1 u14.2.1 u14.2.2 isInText ahead roomAt rooms text length at_ errorPosition toldFrom toldTo isWrong before)) hw hA (zVw (As := [.int x1, .int u2]) (rest := []) ⟨hx, hb, hml, hown, hts⟩ (mX5_findWalks l G k ad H.size thrown now saved hist kept reason detail isSaved comes queue far isInText ahead roomAt rooms text length at_ errorPosition toldFrom toldTo isWrong before x1 u2 u14 hq15) (cwV 2 hts gX5_findMoves_X5_findWalks rfl rfl rfl kdX5_findWalks ⟨Nat.le_of_ble_eq_true rfl, Nat.le_of_ble_eq_true rfl⟩) hK hA hw 0 rfl rfl rfl rfl hl.1 rfl (Nat.le_of_ble_eq_true rfl) dX5_findMoves_93 ⟨Nat.le_of_ble_eq_true rfl, Nat.le_of_ble_eq_true rfl⟩) (fun H locs hw => ?_)
        refine lv_goto (tgt := 99) hx hb dX5_findMoves_96 (by decide) ?_
        obtain rfl := Option.some.inj hF
        exact hret _ _ _ _  hw dX5_findMoves_99
      have hF := zif_f hc13 hF
      by_cases hc16 : u5 = (3 : Int32)
      · have hF := zif_t hc16 hF
        refine lv_tableIn (tgt := 72) (off := 32) hx hb dX5_findMoves_40 (by rw [hc16]; decide) (by rw [hc16]; decide) (by rw [hc16]; rfl) (by decide) ?_
        refine lv_aload_n hx hb dX5_findMoves_72 rfl (lv_at hl 1 rfl) ?_
        refine lv_iload_n hx hb dX5_findMoves_73 rfl (lv_at hl 2 rfl) ?_
        refine lv_iload_n hx hb dX5_findMoves_74 rfl (lv_at hl 0 rfl) ?_
        obtain ⟨u17, hq18, hF⟩ := zbd_t hF
        refine zgoVw (w' := (zM ad k thrown now saved hist kept reason detail isSaved u17 queue far isInText ahead roomAt rooms text length at_ errorPosition toldFrom toldTo isWrong before)) hw hA (zVw (As := [.int x1, .int u2]) (rest := []) ⟨hx, hb, hml, hown, hts⟩ (mX5_findNear l G k ad H.size thrown now saved hist kept reason detail isSaved comes queue far isInText ahead roomAt rooms text length at_ errorPosition toldFrom toldTo isWrong before x1 u2 u17 hq18) (cwV 2 hts gX5_findMoves_X5_findNear rfl rfl rfl kdX5_findNear ⟨Nat.le_of_ble_eq_true rfl, Nat.le_of_ble_eq_true rfl⟩) hK hA hw 0 rfl rfl rfl rfl hl.1 rfl (Nat.le_of_ble_eq_true rfl) dX5_findMoves_75 ⟨Nat.le_of_ble_eq_true rfl, Nat.le_of_ble_eq_true rfl⟩) (fun H locs hw => ?_)
        refine lv_goto (tgt := 99) hx hb dX5_findMoves_78 (by decide) ?_
        obtain rfl := Option.some.inj hF
        exact hret _ _ _ _  hw dX5_findMoves_99
      have hF := zif_f hc16 hF
      refine lv_tableOut (tgt := 99) hx hb dX5_findMoves_40 (by
        have q0 : u5.toInt ≠ 0 := fun q => hc7 (Int32.toInt_inj.mp q)
        have q1 : u5.toInt ≠ 1 := fun q => hc10 (Int32.toInt_inj.mp q)
        have q2 : u5.toInt ≠ 2 := fun q => hc13 (Int32.toInt_inj.mp q)
        have q3 : u5.toInt ≠ 3 := fun q => hc16 (Int32.toInt_inj.mp q)
        omega) (by decide) ?_
      obtain rfl := Option.some.inj hF
      exact hret _ _ _ _  hw dX5_findMoves_99
    · have hF := zif_f hc hF
      refine lv_aload_n hx hb dX5_findMoves_8 rfl (lv_at hl 0 rfl) ?_
      refine va_get (D := G) (ci := 4) (v := .ref (ad 4)) (C := RX5) (T := TX5) (N := 23) hx hb hts inX5_findMoves_X5 hown hK.1 hw.1 0 rfl rfl 8 (by decide) (hts (.fieldLink RX5 21 "SealedBoardModel" "comes" "[Z") (by decide +kernel)) (fun _ h9 => h9) rfl dX5_findMoves_9 ?_
      refine lv_iload_n hx hb dX5_findMoves_12 rfl (lv_at hl 2 rfl) ?_
      refine lv_iconst (v := (0 : Int32)) hx hb dX5_findMoves_13 (by decide) ?_
      obtain ⟨hi19, hF⟩ := zck_in hF
      refine va_zast hx hb hK.1 hw.1 hw.2.1 hw.2.2 4 3 rfl rfl hi19 dX5_findMoves_14 (fun H locs hP hD hS => ?_)
      have hw : zWd G A s (zM ad k thrown now saved hist kept reason detail isSaved (upd comes x2.toNatClampNeg (vp_nar .boolean (0 : Int32))) queue far isInText ahead roomAt rooms text length at_ errorPosition toldFrom toldTo isWrong before) H locs := ⟨hP, hD, hS⟩
      obtain ⟨a20, ea20⟩ : ∃ z : Int32, z = x2 + (1 : Int32) := ⟨_, rfl⟩
      have hF := zbn_t ea20 hF
      refine lv_iinc (v := a20) (lv' := [(2, .int a20), (0, .ref (ad 0)), (1, .int x1)]) hx hb dX5_findMoves_15 hl (k := 2) rfl (by rw [ea20]; rfl) (by decide) rfl (fun ls hl => ?_)
      refine lv_goto (tgt := 2) hx hb dX5_findMoves_18 (by decide) ?_
      exact ih _ _ _ _ _ hF _ _ _ hw (lv_sub hl [1, 2, 0] rfl)
set_option maxHeartbeats 400000 in
set_option maxRecDepth 100000 in
theorem mX5_findMoves (l : Launch) (G : va_G) (k : Nat → ClassId) (ad : Nat → Nat) (sz : Nat) (thrown : Int32) (now : Nat → Int32) (saved : Nat → Int32) (hist : Nat → Nat → Int32) (kept : Int32) (reason : Int32) (detail : Int32) (isSaved : Int32) (comes : Nat → Int32) (queue : Nat → Int32) (far : Nat → Int32) (isInText : Int32) (ahead : Nat → Int32) (roomAt : Nat → Int32) (rooms : Int32) (text : Nat → Int32) (length : Int32) (at_ : Int32) (errorPosition : Int32) (toldFrom : Int32) (toldTo : Int32) (isWrong : Int32) (before : Nat → Int32) (p0 : Int32) (o : (Nat → Int32) × (Nat → Int32) × (Nat → Int32)) (hF : fX5_findMoves now comes queue far p0 = some o) : zMV l yX5_findMoves wsX5_findMoves rmX5_findMoves G k (zM ad k thrown now saved hist kept reason detail isSaved comes queue far isInText ahead roomAt rooms text length at_ errorPosition toldFrom toldTo isWrong before) sz [.ref (ad 0), .int p0] (zM ad k thrown now saved hist kept reason detail isSaved o.1 o.2.1 o.2.2 isInText ahead roomAt rooms text length at_ errorPosition toldFrom toldTo isWrong before) := by
  refine zof_V (cc := cX5_findMoves) (nL := 3) (own := RX5) (by decide) rfl rfl (Nat.le_of_ble_eq_true rfl) ?_
  intro p e s m args below meth c A Q C0 hK hA hret ls hl hw
  have hl : lv_has ls 3 [(0, .ref (ad 0)), (1, .int p0)] := hl
  obtain ⟨hx, hb, hr, hml, hown, hts, hlocks⟩ := id C0
  obtain ⟨H, hH⟩ : ∃ z, z = s.heap := ⟨_, rfl⟩
  rw [← hH] at hw ⊢
  unfold fX5_findMoves at hF
  refine lv_iconst (v := (0 : Int32)) hx hb dX5_findMoves_0 (by decide) ?_
  refine lv_istore_n (lv' := [(2, .int (0 : Int32)), (0, .ref (ad 0)), (1, .int p0)]) hx hb dX5_findMoves_1 rfl hl (by decide) rfl (fun ls hl => ?_)
  exact wX5_findMoves_2 C0 hK hA hret  zFu _ _ _ _ _ hF _ _ _ hw (lv_sub hl [1, 2, 0] rfl)

/-! SealedBoardModel.can(II)Z -/
abbrev rmX5_can : Room := { frames := 5, cells := 0, slots := 0, locals := 113 }
theorem kdX5_can : yX5_can.cls = RX5 ∧ yX5_can.cls ≠ "java/lang/invoke/MethodHandle" ∧ yX5_can.cls ≠ "java/lang/invoke/VarHandle" ∧ (parseMethodDescriptor yX5_can.desc).map (fun d => d.parameters.length) = some 2 := by decide +kernel
theorem inX5_can_X5 : ∀ w ∈ u_ws RX5 TX5 23, w ∈ wsX5_can := by decide +kernel
def fX5_can (now : Nat → Int32) (comes : Nat → Int32) (queue : Nat → Int32) (far : Nat → Int32) (p0 : Int32) (p1 : Int32) : Option (Int32 × (Nat → Int32) × (Nat → Int32) × (Nat → Int32)) := (zbd (fX5_findMoves now comes queue far p0) (fun u1 => (zck (zin p1 36) (zck (zbo (u1.1 p1.toNatClampNeg)) (some ((u1.1 p1.toNatClampNeg), u1.1, u1.2.1, u1.2.2))))))
set_option maxHeartbeats 400000 in
set_option maxRecDepth 100000 in
theorem mX5_can (l : Launch) (G : va_G) (k : Nat → ClassId) (ad : Nat → Nat) (sz : Nat) (thrown : Int32) (now : Nat → Int32) (saved : Nat → Int32) (hist : Nat → Nat → Int32) (kept : Int32) (reason : Int32) (detail : Int32) (isSaved : Int32) (comes : Nat → Int32) (queue : Nat → Int32) (far : Nat → Int32) (isInText : Int32) (ahead : Nat → Int32) (roomAt : Nat → Int32) (rooms : Int32) (text : Nat → Int32) (length : Int32) (at_ : Int32) (errorPosition : Int32) (toldFrom : Int32) (toldTo : Int32) (isWrong : Int32) (before : Nat → Int32) (p0 : Int32) (p1 : Int32) (o : Int32 × (Nat → Int32) × (Nat → Int32) × (Nat → Int32)) (hF : fX5_can now comes queue far p0 p1 = some o) : zMI l yX5_can wsX5_can rmX5_can G k (zM ad k thrown now saved hist kept reason detail isSaved comes queue far isInText ahead roomAt rooms text length at_ errorPosition toldFrom toldTo isWrong before) sz [.ref (ad 0), .int p0, .int p1] o.1 (zM ad k thrown now saved hist kept reason detail isSaved o.2.1 o.2.2.1 o.2.2.2 isInText ahead roomAt rooms text length at_ errorPosition toldFrom toldTo isWrong before) := by
  refine zof_I (cc := cX5_can) (nL := 3) (own := RX5) (rt := .boolean) (by decide) rfl rfl (Nat.le_of_ble_eq_true rfl) ?_
  intro p e s m args below meth c A Q C0 hK hA hret ls hl hw
  have hl : lv_has ls 3 [(0, .ref (ad 0)), (1, .int p0), (2, .int p1)] := hl
  obtain ⟨hx, hb, hr, hml, hown, hts, hlocks⟩ := id C0
  obtain ⟨H, hH⟩ : ∃ z, z = s.heap := ⟨_, rfl⟩
  rw [← hH] at hw ⊢
  unfold fX5_can at hF
  refine lv_aload_n hx hb dX5_can_0 rfl (lv_at hl 0 rfl) ?_
  refine lv_iload_n hx hb dX5_can_1 rfl (lv_at hl 1 rfl) ?_
  obtain ⟨u1, hq2, hF⟩ := zbd_t hF
  refine zgoVw (w' := (zM ad k thrown now saved hist kept reason detail isSaved u1.1 u1.2.1 u1.2.2 isInText ahead roomAt rooms text length at_ errorPosition toldFrom toldTo isWrong before)) hw hA (zVw (As := [.int p0]) (rest := []) ⟨hx, hb, hml, hown, hts⟩ (mX5_findMoves l G k ad H.size thrown now saved hist kept reason detail isSaved comes queue far isInText ahead roomAt rooms text length at_ errorPosition toldFrom toldTo isWrong before p0 u1 hq2) (cwV 1 hts gX5_can_X5_findMoves rfl rfl rfl kdX5_findMoves ⟨Nat.le_of_ble_eq_true rfl, Nat.le_of_ble_eq_true rfl⟩) hK hA hw 0 rfl rfl rfl rfl hl.1 rfl (Nat.le_of_ble_eq_true rfl) dX5_can_2 ⟨Nat.le_of_ble_eq_true rfl, Nat.le_of_ble_eq_true rfl⟩) (fun H locs hw => ?_)
  refine lv_aload_n hx hb dX5_can_5 rfl (lv_at hl 0 rfl) ?_
  refine va_get (D := G) (ci := 4) (v := .ref (ad 4)) (C := RX5) (T := TX5) (N := 23) hx hb hts inX5_can_X5 hown hK.1 hw.1 0 rfl rfl 8 (by decide) (hts (.fieldLink RX5 21 "SealedBoardModel" "comes" "[Z") (by decide +kernel)) (fun _ h9 => h9) rfl dX5_can_6 ?_
  refine lv_iload_n hx hb dX5_can_9 rfl (lv_at hl 2 rfl) ?_
  obtain ⟨hi3, hF⟩ := zck_in hF
  refine va_zald hx hb hK.1 hw.1 4 3 rfl rfl hi3 dX5_can_10 ?_
  obtain ⟨hz4, hF⟩ := zck_t hF
  obtain rfl := Option.some.inj hF
  exact hret _ _ _ _ (zbo_n hz4) hw dX5_can_11

/-! SealedBoardModel.countMoves(I)I -/
abbrev rmX5_countMoves : Room := { frames := 5, cells := 0, slots := 0, locals := 113 }
theorem kdX5_countMoves : yX5_countMoves.cls = RX5 ∧ yX5_countMoves.cls ≠ "java/lang/invoke/MethodHandle" ∧ yX5_countMoves.cls ≠ "java/lang/invoke/VarHandle" ∧ (parseMethodDescriptor yX5_countMoves.desc).map (fun d => d.parameters.length) = some 1 := by decide +kernel
theorem inX5_countMoves_X5 : ∀ w ∈ u_ws RX5 TX5 23, w ∈ wsX5_countMoves := by decide +kernel
def fX5_countMoves_30 (k9 : (Nat → Int32) → (Nat → Int32) → (Nat → Int32) → Int32 → Int32 → Option (Int32 × (Nat → Int32) × (Nat → Int32) × (Nat → Int32))) (now : Nat → Int32) (comes : Nat → Int32) (queue : Nat → Int32) (far : Nat → Int32) (x3 : Int32) (s0 : Int32) (s1 : Int32) : Option (Int32 × (Nat → Int32) × (Nat → Int32) × (Nat → Int32)) := (zbn (s1 + s0) (fun a1 => (zbn (x3 + (1 : Int32)) (fun a2 => (k9 comes queue far a1 a2)))))
def fX5_countMoves_9  (now : Nat → Int32) : Nat → (Nat → Int32) → (Nat → Int32) → (Nat → Int32) → Int32 → Int32 → Option (Int32 × (Nat → Int32) × (Nat → Int32) × (Nat → Int32))
  | 0, _, _, _, _, _ => none
  | n + 1, comes, queue, far, x2, x3 => (if (36 : Int32) ≤ x3 then (some (x2, comes, queue, far)) else (zck (zin x3 36) (if (comes x3.toNatClampNeg) = 0 then (fX5_countMoves_30 (fun b0 b1 b2 b3 b4 => fX5_countMoves_9  now n b0 b1 b2 b3 b4) now  comes queue far x3 (0 : Int32) x2) else (fX5_countMoves_30 (fun b0 b1 b2 b3 b4 => fX5_countMoves_9  now n b0 b1 b2 b3 b4) now  comes queue far x3 (1 : Int32) x2))))
def fX5_countMoves (now : Nat → Int32) (comes : Nat → Int32) (queue : Nat → Int32) (far : Nat → Int32) (p0 : Int32) : Option (Int32 × (Nat → Int32) × (Nat → Int32) × (Nat → Int32)) := (zbd (fX5_findMoves now comes queue far p0) (fun u1 => (fX5_countMoves_9  now zFu u1.1 u1.2.1 u1.2.2 (0 : Int32) (0 : Int32))))
set_option maxHeartbeats 400000 in
set_option maxRecDepth 100000 in
theorem wX5_countMoves_30 {p : Program} {l : Launch} {e : Env} {s : State} {m : MethodId} {args : Array Value} {below : List Frame} {meth : Method} {c : Code} {A : Nat → Prop} {Q : State → Prop} {G : va_G} {k : Nat → ClassId} {ad : Nat → Nat} {thrown : Int32} {now : Nat → Int32} {saved : Nat → Int32} {hist : Nat → Nat → Int32} {kept : Int32} {reason : Int32} {detail : Int32} {isSaved : Int32} {isInText : Int32} {ahead : Nat → Int32} {roomAt : Nat → Int32} {rooms : Int32} {text : Nat → Int32} {length : Int32} {at_ : Int32} {errorPosition : Int32} {toldFrom : Int32} {toldTo : Int32} {isWrong : Int32} {before : Nat → Int32} {o : Int32 × (Nat → Int32) × (Nat → Int32) × (Nat → Int32)} (C0 : zCx p s m args meth c wsX5_countMoves cX5_countMoves RX5 (some .int) 4) (hK : zKK G k A s s.heap) (hA : ∀ q : Nat, s.heap.size ≤ q → A q) (hret : zRI p l e rmX5_countMoves s m args below meth c cX5_countMoves G A 0 0 Q .int (zM ad k thrown now saved hist kept reason detail isSaved o.2.1 o.2.2.1 o.2.2.2 isInText ahead roomAt rooms text length at_ errorPosition toldFrom toldTo isWrong before) o.1) (k9 : (Nat → Int32) → (Nat → Int32) → (Nat → Int32) → Int32 → Int32 → Option (Int32 × (Nat → Int32) × (Nat → Int32) × (Nat → Int32))) (hk9 : ∀ (comes : Nat → Int32) (queue : Nat → Int32) (far : Nat → Int32) (x2 : Int32) (x3 : Int32), k9 comes queue far x2 x3 = some o → ∀ (H : Heap) (locs : List Loc) (ls : Array Slot), zWd G A s (zM ad k thrown now saved hist kept reason detail isSaved comes queue far isInText ahead roomAt rooms text length at_ errorPosition toldFrom toldTo isWrong before) H locs → lv_has ls 4 [(0, .ref (ad 0)), (2, .int x2), (3, .int x3)] → W p l e rmX5_countMoves s m args below meth c H locs 0 0 Q (F0 m 9 ls [])) : ∀ (comes : Nat → Int32) (queue : Nat → Int32) (far : Nat → Int32) (x3 : Int32) (s0 : Int32) (s1 : Int32), fX5_countMoves_30 k9 now comes queue far x3 s0 s1 = some o → ∀ (H : Heap) (locs : List Loc) (ls : Array Slot), zWd G A s (zM ad k thrown now saved hist kept reason detail isSaved comes queue far isInText ahead roomAt rooms text length at_ errorPosition toldFrom toldTo isWrong before) H locs → lv_has ls 4 [(0, .ref (ad 0)), (3, .int x3)] → W p l e rmX5_countMoves s m args below meth c H locs 0 0 Q (F0 m 30 ls [.int s0, .int s1]) := by
  obtain ⟨hx, hb, hr, hml, hown, hts, hlocks⟩ := id C0
  intro comes queue far x3 s0 s1 hF H locs ls hw hl
  unfold fX5_countMoves_30 at hF
  refine lv_iadd hx hb dX5_countMoves_30 ?_
  refine lv_topi (fun a1 ea1 => ?_)
  have hF := zbn_t ea1 hF
  refine lv_istore_n (lv' := [(2, .int a1), (0, .ref (ad 0)), (3, .int x3)]) hx hb dX5_countMoves_31 rfl hl (by decide) rfl (fun ls hl => ?_)
  obtain ⟨a2, ea2⟩ : ∃ z : Int32, z = x3 + (1 : Int32) := ⟨_, rfl⟩
  have hF := zbn_t ea2 hF
  refine lv_iinc (v := a2) (lv' := [(3, .int a2), (2, .int a1), (0, .ref (ad 0))]) hx hb dX5_countMoves_32 hl (k := 2) rfl (by rw [ea2]; rfl) (by decide) rfl (fun ls hl => ?_)
  refine lv_goto (tgt := 9) hx hb dX5_countMoves_35 (by decide) ?_
  exact hk9 _ _ _ _ _ hF _ _ _ hw (lv_sub hl [2, 1, 0] rfl)
set_option maxHeartbeats 400000 in
set_option maxRecDepth 100000 in
theorem wX5_countMoves_9 {p : Program} {l : Launch} {e : Env} {s : State} {m : MethodId} {args : Array Value} {below : List Frame} {meth : Method} {c : Code} {A : Nat → Prop} {Q : State → Prop} {G : va_G} {k : Nat → ClassId} {ad : Nat → Nat} {thrown : Int32} {now : Nat → Int32} {saved : Nat → Int32} {hist : Nat → Nat → Int32} {kept : Int32} {reason : Int32} {detail : Int32} {isSaved : Int32} {isInText : Int32} {ahead : Nat → Int32} {roomAt : Nat → Int32} {rooms : Int32} {text : Nat → Int32} {length : Int32} {at_ : Int32} {errorPosition : Int32} {toldFrom : Int32} {toldTo : Int32} {isWrong : Int32} {before : Nat → Int32} {o : Int32 × (Nat → Int32) × (Nat → Int32) × (Nat → Int32)} (C0 : zCx p s m args meth c wsX5_countMoves cX5_countMoves RX5 (some .int) 4) (hK : zKK G k A s s.heap) (hA : ∀ q : Nat, s.heap.size ≤ q → A q) (hret : zRI p l e rmX5_countMoves s m args below meth c cX5_countMoves G A 0 0 Q .int (zM ad k thrown now saved hist kept reason detail isSaved o.2.1 o.2.2.1 o.2.2.2 isInText ahead roomAt rooms text length at_ errorPosition toldFrom toldTo isWrong before) o.1)  : ∀ (n : Nat) (comes : Nat → Int32) (queue : Nat → Int32) (far : Nat → Int32) (x2 : Int32) (x3 : Int32), fX5_countMoves_9  now n comes queue far x2 x3 = some o → ∀ (H : Heap) (locs : List Loc) (ls : Array Slot), zWd G A s (zM ad k thrown now saved hist kept reason detail isSaved comes queue far isInText ahead roomAt rooms text length at_ errorPosition toldFrom toldTo isWrong before) H locs → lv_has ls 4 [(0, .ref (ad 0)), (2, .int x2), (3, .int x3)] → W p l e rmX5_countMoves s m args below meth c H locs 0 0 Q (F0 m 9 ls []) := by
  obtain ⟨hx, hb, hr, hml, hown, hts, hlocks⟩ := id C0
  intro n
  induction n with
  | zero => intro comes queue far x2 x3 hF; exact nomatch hF
  | succ n ih =>
    intro comes queue far x2 x3 hF H locs ls hw hl
    rw [fX5_countMoves_9] at hF
    refine lv_iload_n hx hb dX5_countMoves_9 rfl (lv_at hl 2 rfl) ?_
    refine lv_bipush (v := (36 : Int32)) hx hb dX5_countMoves_10 (by decide) ?_
    refine lv_icmp_ge (tgt := 38) hx hb dX5_countMoves_12 (by decide) (fun hc => ?_) (fun hc => ?_)
    · have hF := zif_t hc hF
      refine lv_iload_n hx hb dX5_countMoves_38 rfl (lv_at hl 1 rfl) ?_
      obtain rfl := Option.some.inj hF
      exact hret _ _ _ _ rfl hw dX5_countMoves_39
    · have hF := zif_f hc hF
      refine lv_iload_n hx hb dX5_countMoves_15 rfl (lv_at hl 1 rfl) ?_
      refine lv_aload_n hx hb dX5_countMoves_16 rfl (lv_at hl 0 rfl) ?_
      refine va_get (D := G) (ci := 4) (v := .ref (ad 4)) (C := RX5) (T := TX5) (N := 23) hx hb hts inX5_countMoves_X5 hown hK.1 hw.1 0 rfl rfl 8 (by decide) (hts (.fieldLink RX5 21 "SealedBoardModel" "comes" "[Z") (by decide +kernel)) (fun _ h9 => h9) rfl dX5_countMoves_17 ?_
      refine lv_iload_n hx hb dX5_countMoves_20 rfl (lv_at hl 2 rfl) ?_
      obtain ⟨hi1, hF⟩ := zck_in hF
      refine va_zald hx hb hK.1 hw.1 4 3 rfl rfl hi1 dX5_countMoves_21 ?_
      refine lv_if_eq (tgt := 29) hx hb dX5_countMoves_22 (by decide) (fun hc => ?_) (fun hc => ?_)
      · have hF := zif_t hc hF
        refine lv_iconst (v := (0 : Int32)) hx hb dX5_countMoves_29 (by decide) ?_
        exact wX5_countMoves_30 C0 hK hA hret (fun b0 b1 b2 b3 b4 => fX5_countMoves_9  now n b0 b1 b2 b3 b4) ih  _ _ _ _ _ _ hF _ _ _ hw (lv_sub hl [0, 2] rfl)
      · have hF := zif_f hc hF
        refine lv_iconst (v := (1 : Int32)) hx hb dX5_countMoves_25 (by decide) ?_
        refine lv_goto (tgt := 30) hx hb dX5_countMoves_26 (by decide) ?_
        exact wX5_countMoves_30 C0 hK hA hret (fun b0 b1 b2 b3 b4 => fX5_countMoves_9  now n b0 b1 b2 b3 b4) ih  _ _ _ _ _ _ hF _ _ _ hw (lv_sub hl [0, 2] rfl)
set_option maxHeartbeats 400000 in
set_option maxRecDepth 100000 in
theorem mX5_countMoves (l : Launch) (G : va_G) (k : Nat → ClassId) (ad : Nat → Nat) (sz : Nat) (thrown : Int32) (now : Nat → Int32) (saved : Nat → Int32) (hist : Nat → Nat → Int32) (kept : Int32) (reason : Int32) (detail : Int32) (isSaved : Int32) (comes : Nat → Int32) (queue : Nat → Int32) (far : Nat → Int32) (isInText : Int32) (ahead : Nat → Int32) (roomAt : Nat → Int32) (rooms : Int32) (text : Nat → Int32) (length : Int32) (at_ : Int32) (errorPosition : Int32) (toldFrom : Int32) (toldTo : Int32) (isWrong : Int32) (before : Nat → Int32) (p0 : Int32) (o : Int32 × (Nat → Int32) × (Nat → Int32) × (Nat → Int32)) (hF : fX5_countMoves now comes queue far p0 = some o) : zMI l yX5_countMoves wsX5_countMoves rmX5_countMoves G k (zM ad k thrown now saved hist kept reason detail isSaved comes queue far isInText ahead roomAt rooms text length at_ errorPosition toldFrom toldTo isWrong before) sz [.ref (ad 0), .int p0] o.1 (zM ad k thrown now saved hist kept reason detail isSaved o.2.1 o.2.2.1 o.2.2.2 isInText ahead roomAt rooms text length at_ errorPosition toldFrom toldTo isWrong before) := by
  refine zof_I (cc := cX5_countMoves) (nL := 4) (own := RX5) (rt := .int) (by decide) rfl rfl (Nat.le_of_ble_eq_true rfl) ?_
  intro p e s m args below meth c A Q C0 hK hA hret ls hl hw
  have hl : lv_has ls 4 [(0, .ref (ad 0)), (1, .int p0)] := hl
  obtain ⟨hx, hb, hr, hml, hown, hts, hlocks⟩ := id C0
  obtain ⟨H, hH⟩ : ∃ z, z = s.heap := ⟨_, rfl⟩
  rw [← hH] at hw ⊢
  unfold fX5_countMoves at hF
  refine lv_aload_n hx hb dX5_countMoves_0 rfl (lv_at hl 0 rfl) ?_
  refine lv_iload_n hx hb dX5_countMoves_1 rfl (lv_at hl 1 rfl) ?_
  obtain ⟨u1, hq2, hF⟩ := zbd_t hF
  refine zgoVw (w' := (zM ad k thrown now saved hist kept reason detail isSaved u1.1 u1.2.1 u1.2.2 isInText ahead roomAt rooms text length at_ errorPosition toldFrom toldTo isWrong before)) hw hA (zVw (As := [.int p0]) (rest := []) ⟨hx, hb, hml, hown, hts⟩ (mX5_findMoves l G k ad H.size thrown now saved hist kept reason detail isSaved comes queue far isInText ahead roomAt rooms text length at_ errorPosition toldFrom toldTo isWrong before p0 u1 hq2) (cwV 1 hts gX5_countMoves_X5_findMoves rfl rfl rfl kdX5_findMoves ⟨Nat.le_of_ble_eq_true rfl, Nat.le_of_ble_eq_true rfl⟩) hK hA hw 0 rfl rfl rfl rfl hl.1 rfl (Nat.le_of_ble_eq_true rfl) dX5_countMoves_2 ⟨Nat.le_of_ble_eq_true rfl, Nat.le_of_ble_eq_true rfl⟩) (fun H locs hw => ?_)
  refine lv_iconst (v := (0 : Int32)) hx hb dX5_countMoves_5 (by decide) ?_
  refine lv_istore_n (lv' := [(2, .int (0 : Int32)), (0, .ref (ad 0)), (1, .int p0)]) hx hb dX5_countMoves_6 rfl hl (by decide) rfl (fun ls hl => ?_)
  refine lv_iconst (v := (0 : Int32)) hx hb dX5_countMoves_7 (by decide) ?_
  refine lv_istore_n (lv' := [(3, .int (0 : Int32)), (2, .int (0 : Int32)), (0, .ref (ad 0)), (1, .int p0)]) hx hb dX5_countMoves_8 rfl hl (by decide) rfl (fun ls hl => ?_)
  exact wX5_countMoves_9 C0 hK hA hret  zFu _ _ _ _ _ hF _ _ _ hw (lv_sub hl [2, 1, 0] rfl)

/-! SealedBoardModel.hasMove(I)Z -/
abbrev rmX5_hasMove : Room := { frames := 6, cells := 0, slots := 0, locals := 136 }
theorem kdX5_hasMove : yX5_hasMove.cls = RX5 ∧ yX5_hasMove.cls ≠ "java/lang/invoke/MethodHandle" ∧ yX5_hasMove.cls ≠ "java/lang/invoke/VarHandle" ∧ (parseMethodDescriptor yX5_hasMove.desc).map (fun d => d.parameters.length) = some 1 := by decide +kernel
theorem inX5_hasMove_X5 : ∀ w ∈ u_ws RX5 TX5 23, w ∈ wsX5_hasMove := by decide +kernel
def fX5_hasMove_37 (k4 : (Nat → Int32) → (Nat → Int32) → (Nat → Int32) → Int32 → Int32 → Int32 → Option (Int32 × (Nat → Int32) × (Nat → Int32) × (Nat → Int32))) (now : Nat → Int32) (comes : Nat → Int32) (queue : Nat → Int32) (far : Nat → Int32) (x1 : Int32) (x3 : Int32) (s0 : Int32) (s1 : Int32) : Option (Int32 × (Nat → Int32) × (Nat → Int32) × (Nat → Int32)) := (zbn (s1 ||| s0) (fun a1 => (zbn (x3 + (1 : Int32)) (fun a2 => (k4 comes queue far x1 a1 a2)))))
def fX5_hasMove_36 (k4 : (Nat → Int32) → (Nat → Int32) → (Nat → Int32) → Int32 → Int32 → Int32 → Option (Int32 × (Nat → Int32) × (Nat → Int32) × (Nat → Int32))) (now : Nat → Int32) (comes : Nat → Int32) (queue : Nat → Int32) (far : Nat → Int32) (x1 : Int32) (x3 : Int32) (s0 : Int32) : Option (Int32 × (Nat → Int32) × (Nat → Int32) × (Nat → Int32)) := (fX5_hasMove_37 k4 now  comes queue far x1 x3 (0 : Int32) s0)
def fX5_hasMove_4  (now : Nat → Int32) : Nat → (Nat → Int32) → (Nat → Int32) → (Nat → Int32) → Int32 → Int32 → Int32 → Option (Int32 × (Nat → Int32) × (Nat → Int32) × (Nat → Int32))
  | 0, _, _, _, _, _, _ => none
  | n + 1, comes, queue, far, x1, x2, x3 => (if (36 : Int32) ≤ x3 then (zck (zbo x2) (some (x2, comes, queue, far))) else (zck (zin x3 76) (zbd (fX5_sideOf (now x3.toNatClampNeg)) (fun u3 => (if u3 = x1 then (zbd (fX5_countMoves now comes queue far x3) (fun u5 => (if u5.1 ≤ 0 then (fX5_hasMove_36 (fun b0 b1 b2 b3 b4 b5 => fX5_hasMove_4  now n b0 b1 b2 b3 b4 b5) now  u5.2.1 u5.2.2.1 u5.2.2.2 x1 x3 x2) else (fX5_hasMove_37 (fun b0 b1 b2 b3 b4 b5 => fX5_hasMove_4  now n b0 b1 b2 b3 b4 b5) now  u5.2.1 u5.2.2.1 u5.2.2.2 x1 x3 (1 : Int32) x2)))) else (fX5_hasMove_36 (fun b0 b1 b2 b3 b4 b5 => fX5_hasMove_4  now n b0 b1 b2 b3 b4 b5) now  comes queue far x1 x3 x2))))))
def fX5_hasMove (now : Nat → Int32) (comes : Nat → Int32) (queue : Nat → Int32) (far : Nat → Int32) (p0 : Int32) : Option (Int32 × (Nat → Int32) × (Nat → Int32) × (Nat → Int32)) := (fX5_hasMove_4  now zFu comes queue far p0 (0 : Int32) (0 : Int32))
set_option maxHeartbeats 400000 in
set_option maxRecDepth 100000 in
theorem wX5_hasMove_37 {p : Program} {l : Launch} {e : Env} {s : State} {m : MethodId} {args : Array Value} {below : List Frame} {meth : Method} {c : Code} {A : Nat → Prop} {Q : State → Prop} {G : va_G} {k : Nat → ClassId} {ad : Nat → Nat} {thrown : Int32} {now : Nat → Int32} {saved : Nat → Int32} {hist : Nat → Nat → Int32} {kept : Int32} {reason : Int32} {detail : Int32} {isSaved : Int32} {isInText : Int32} {ahead : Nat → Int32} {roomAt : Nat → Int32} {rooms : Int32} {text : Nat → Int32} {length : Int32} {at_ : Int32} {errorPosition : Int32} {toldFrom : Int32} {toldTo : Int32} {isWrong : Int32} {before : Nat → Int32} {o : Int32 × (Nat → Int32) × (Nat → Int32) × (Nat → Int32)} (C0 : zCx p s m args meth c wsX5_hasMove cX5_hasMove RX5 (some .boolean) 4) (hK : zKK G k A s s.heap) (hA : ∀ q : Nat, s.heap.size ≤ q → A q) (hret : zRI p l e rmX5_hasMove s m args below meth c cX5_hasMove G A 0 0 Q .boolean (zM ad k thrown now saved hist kept reason detail isSaved o.2.1 o.2.2.1 o.2.2.2 isInText ahead roomAt rooms text length at_ errorPosition toldFrom toldTo isWrong before) o.1) (k4 : (Nat → Int32) → (Nat → Int32) → (Nat → Int32) → Int32 → Int32 → Int32 → Option (Int32 × (Nat → Int32) × (Nat → Int32) × (Nat → Int32))) (hk4 : ∀ (comes : Nat → Int32) (queue : Nat → Int32) (far : Nat → Int32) (x1 : Int32) (x2 : Int32) (x3 : Int32), k4 comes queue far x1 x2 x3 = some o → ∀ (H : Heap) (locs : List Loc) (ls : Array Slot), zWd G A s (zM ad k thrown now saved hist kept reason detail isSaved comes queue far isInText ahead roomAt rooms text length at_ errorPosition toldFrom toldTo isWrong before) H locs → lv_has ls 4 [(0, .ref (ad 0)), (1, .int x1), (2, .int x2), (3, .int x3)] → W p l e rmX5_hasMove s m args below meth c H locs 0 0 Q (F0 m 4 ls [])) : ∀ (comes : Nat → Int32) (queue : Nat → Int32) (far : Nat → Int32) (x1 : Int32) (x3 : Int32) (s0 : Int32) (s1 : Int32), fX5_hasMove_37 k4 now comes queue far x1 x3 s0 s1 = some o → ∀ (H : Heap) (locs : List Loc) (ls : Array Slot), zWd G A s (zM ad k thrown now saved hist kept reason detail isSaved comes queue far isInText ahead roomAt rooms text length at_ errorPosition toldFrom toldTo isWrong before) H locs → lv_has ls 4 [(0, .ref (ad 0)), (1, .int x1), (3, .int x3)] → W p l e rmX5_hasMove s m args below meth c H locs 0 0 Q (F0 m 37 ls [.int s0, .int s1]) := by
  obtain ⟨hx, hb, hr, hml, hown, hts, hlocks⟩ := id C0
  intro comes queue far x1 x3 s0 s1 hF H locs ls hw hl
  unfold fX5_hasMove_37 at hF
  refine lv_ior hx hb dX5_hasMove_37 ?_
  refine lv_topi (fun a1 ea1 => ?_)
  have hF := zbn_t ea1 hF
  refine lv_istore_n (lv' := [(2, .int a1), (0, .ref (ad 0)), (1, .int x1), (3, .int x3)]) hx hb dX5_hasMove_38 rfl hl (by decide) rfl (fun ls hl => ?_)
  obtain ⟨a2, ea2⟩ : ∃ z : Int32, z = x3 + (1 : Int32) := ⟨_, rfl⟩
  have hF := zbn_t ea2 hF
  refine lv_iinc (v := a2) (lv' := [(3, .int a2), (2, .int a1), (0, .ref (ad 0)), (1, .int x1)]) hx hb dX5_hasMove_39 hl (k := 3) rfl (by rw [ea2]; rfl) (by decide) rfl (fun ls hl => ?_)
  refine lv_goto (tgt := 4) hx hb dX5_hasMove_42 (by decide) ?_
  exact hk4 _ _ _ _ _ _ hF _ _ _ hw (lv_sub hl [2, 3, 1, 0] rfl)
set_option maxHeartbeats 400000 in
set_option maxRecDepth 100000 in
theorem wX5_hasMove_36 {p : Program} {l : Launch} {e : Env} {s : State} {m : MethodId} {args : Array Value} {below : List Frame} {meth : Method} {c : Code} {A : Nat → Prop} {Q : State → Prop} {G : va_G} {k : Nat → ClassId} {ad : Nat → Nat} {thrown : Int32} {now : Nat → Int32} {saved : Nat → Int32} {hist : Nat → Nat → Int32} {kept : Int32} {reason : Int32} {detail : Int32} {isSaved : Int32} {isInText : Int32} {ahead : Nat → Int32} {roomAt : Nat → Int32} {rooms : Int32} {text : Nat → Int32} {length : Int32} {at_ : Int32} {errorPosition : Int32} {toldFrom : Int32} {toldTo : Int32} {isWrong : Int32} {before : Nat → Int32} {o : Int32 × (Nat → Int32) × (Nat → Int32) × (Nat → Int32)} (C0 : zCx p s m args meth c wsX5_hasMove cX5_hasMove RX5 (some .boolean) 4) (hK : zKK G k A s s.heap) (hA : ∀ q : Nat, s.heap.size ≤ q → A q) (hret : zRI p l e rmX5_hasMove s m args below meth c cX5_hasMove G A 0 0 Q .boolean (zM ad k thrown now saved hist kept reason detail isSaved o.2.1 o.2.2.1 o.2.2.2 isInText ahead roomAt rooms text length at_ errorPosition toldFrom toldTo isWrong before) o.1) (k4 : (Nat → Int32) → (Nat → Int32) → (Nat → Int32) → Int32 → Int32 → Int32 → Option (Int32 × (Nat → Int32) × (Nat → Int32) × (Nat → Int32))) (hk4 : ∀ (comes : Nat → Int32) (queue : Nat → Int32) (far : Nat → Int32) (x1 : Int32) (x2 : Int32) (x3 : Int32), k4 comes queue far x1 x2 x3 = some o → ∀ (H : Heap) (locs : List Loc) (ls : Array Slot), zWd G A s (zM ad k thrown now saved hist kept reason detail isSaved comes queue far isInText ahead roomAt rooms text length at_ errorPosition toldFrom toldTo isWrong before) H locs → lv_has ls 4 [(0, .ref (ad 0)), (1, .int x1), (2, .int x2), (3, .int x3)] → W p l e rmX5_hasMove s m args below meth c H locs 0 0 Q (F0 m 4 ls [])) : ∀ (comes : Nat → Int32) (queue : Nat → Int32) (far : Nat → Int32) (x1 : Int32) (x3 : Int32) (s0 : Int32), fX5_hasMove_36 k4 now comes queue far x1 x3 s0 = some o → ∀ (H : Heap) (locs : List Loc) (ls : Array Slot), zWd G A s (zM ad k thrown now saved hist kept reason detail isSaved comes queue far isInText ahead roomAt rooms text length at_ errorPosition toldFrom toldTo isWrong before) H locs → lv_has ls 4 [(0, .ref (ad 0)), (1, .int x1), (3, .int x3)] → W p l e rmX5_hasMove s m args below meth c H locs 0 0 Q (F0 m 36 ls [.int s0]) := by
  obtain ⟨hx, hb, hr, hml, hown, hts, hlocks⟩ := id C0
  intro comes queue far x1 x3 s0 hF H locs ls hw hl
  unfold fX5_hasMove_36 at hF
  refine lv_iconst (v := (0 : Int32)) hx hb dX5_hasMove_36 (by decide) ?_
  exact wX5_hasMove_37 C0 hK hA hret k4 hk4  _ _ _ _ _ _ _ hF _ _ _ hw (lv_sub hl [0, 1, 2] rfl)
set_option maxHeartbeats 400000 in
set_option maxRecDepth 100000 in
theorem wX5_hasMove_4 {p : Program} {l : Launch} {e : Env} {s : State} {m : MethodId} {args : Array Value} {below : List Frame} {meth : Method} {c : Code} {A : Nat → Prop} {Q : State → Prop} {G : va_G} {k : Nat → ClassId} {ad : Nat → Nat} {thrown : Int32} {now : Nat → Int32} {saved : Nat → Int32} {hist : Nat → Nat → Int32} {kept : Int32} {reason : Int32} {detail : Int32} {isSaved : Int32} {isInText : Int32} {ahead : Nat → Int32} {roomAt : Nat → Int32} {rooms : Int32} {text : Nat → Int32} {length : Int32} {at_ : Int32} {errorPosition : Int32} {toldFrom : Int32} {toldTo : Int32} {isWrong : Int32} {before : Nat → Int32} {o : Int32 × (Nat → Int32) × (Nat → Int32) × (Nat → Int32)} (C0 : zCx p s m args meth c wsX5_hasMove cX5_hasMove RX5 (some .boolean) 4) (hK : zKK G k A s s.heap) (hA : ∀ q : Nat, s.heap.size ≤ q → A q) (hret : zRI p l e rmX5_hasMove s m args below meth c cX5_hasMove G A 0 0 Q .boolean (zM ad k thrown now saved hist kept reason detail isSaved o.2.1 o.2.2.1 o.2.2.2 isInText ahead roomAt rooms text length at_ errorPosition toldFrom toldTo isWrong before) o.1)  : ∀ (n : Nat) (comes : Nat → Int32) (queue : Nat → Int32) (far : Nat → Int32) (x1 : Int32) (x2 : Int32) (x3 : Int32), fX5_hasMove_4  now n comes queue far x1 x2 x3 = some o → ∀ (H : Heap) (locs : List Loc) (ls : Array Slot), zWd G A s (zM ad k thrown now saved hist kept reason detail isSaved comes queue far isInText ahead roomAt rooms text length at_ errorPosition toldFrom toldTo isWrong before) H locs → lv_has ls 4 [(0, .ref (ad 0)), (1, .int x1), (2, .int x2), (3, .int x3)] → W p l e rmX5_hasMove s m args below meth c H locs 0 0 Q (F0 m 4 ls []) := by
  obtain ⟨hx, hb, hr, hml, hown, hts, hlocks⟩ := id C0
  intro n
  induction n with
  | zero => intro comes queue far x1 x2 x3 hF; exact nomatch hF
  | succ n ih =>
    intro comes queue far x1 x2 x3 hF H locs ls hw hl
    rw [fX5_hasMove_4] at hF
    refine lv_iload_n hx hb dX5_hasMove_4 rfl (lv_at hl 3 rfl) ?_
    refine lv_bipush (v := (36 : Int32)) hx hb dX5_hasMove_5 (by decide) ?_
    refine lv_icmp_ge (tgt := 45) hx hb dX5_hasMove_7 (by decide) (fun hc => ?_) (fun hc => ?_)
    · have hF := zif_t hc hF
      refine lv_iload_n hx hb dX5_hasMove_45 rfl (lv_at hl 2 rfl) ?_
      obtain ⟨hz1, hF⟩ := zck_t hF
      obtain rfl := Option.some.inj hF
      exact hret _ _ _ _ (zbo_n hz1) hw dX5_hasMove_46
    · have hF := zif_f hc hF
      refine lv_iload_n hx hb dX5_hasMove_10 rfl (lv_at hl 2 rfl) ?_
      refine lv_aload_n hx hb dX5_hasMove_11 rfl (lv_at hl 0 rfl) ?_
      refine va_get (D := G) (ci := 4) (v := .ref (ad 1)) (C := RX5) (T := TX5) (N := 23) hx hb hts inX5_hasMove_X5 hown hK.1 hw.1 0 rfl rfl 1 (by decide) (hts (.fieldLink RX5 9 "SealedBoardModel" "now" "[I") (by decide +kernel)) (fun _ h9 => h9) rfl dX5_hasMove_12 ?_
      refine lv_iload_n hx hb dX5_hasMove_15 rfl (lv_at hl 3 rfl) ?_
      obtain ⟨hi2, hF⟩ := zck_in hF
      refine va_iald hx hb hK.1 hw.1 1 2 rfl rfl hi2 dX5_hasMove_16 ?_
      obtain ⟨u3, hq4, hF⟩ := zbd_t hF
      refine zgoI (w' := (zM ad k thrown now saved hist kept reason detail isSaved comes queue far isInText ahead roomAt rooms text length at_ errorPosition toldFrom toldTo isWrong before)) hw hA [] rfl (zS (As := [.int (now x3.toNatClampNeg)]) (rest := [.int x2]) ⟨hx, hb, hml, hown, hts⟩ (mX5_sideOf l G k  H.size  (now x3.toNatClampNeg) u3 hq4) (va_cwS 1 hts gX5_hasMove_X5_sideOf rfl rfl rfl kdX5_sideOf ⟨Nat.le_of_ble_eq_true rfl, Nat.le_of_ble_eq_true rfl⟩) hK hA hw [] rfl (by decide) rfl hl.1 rfl (Nat.le_of_ble_eq_true rfl) dX5_hasMove_17 ⟨Nat.le_of_ble_eq_true rfl, Nat.le_of_ble_eq_true rfl⟩) rfl rfl rfl (fun H locs hw => ?_)
      refine lv_iload_n hx hb dX5_hasMove_20 rfl (lv_at hl 1 rfl) ?_
      refine lv_icmp_ne (tgt := 36) hx hb dX5_hasMove_21 (by decide) (fun hc => ?_) (fun hc => ?_)
      · have hF := zif_f hc hF
        exact wX5_hasMove_36 C0 hK hA hret (fun b0 b1 b2 b3 b4 b5 => fX5_hasMove_4  now n b0 b1 b2 b3 b4 b5) ih  _ _ _ _ _ _ hF _ _ _ hw (lv_sub hl [0, 1, 3] rfl)
      · have hF := zif_t hc hF
        refine lv_aload_n hx hb dX5_hasMove_24 rfl (lv_at hl 0 rfl) ?_
        refine lv_iload_n hx hb dX5_hasMove_25 rfl (lv_at hl 3 rfl) ?_
        obtain ⟨u5, hq6, hF⟩ := zbd_t hF
        refine zgoIw (w' := (zM ad k thrown now saved hist kept reason detail isSaved u5.2.1 u5.2.2.1 u5.2.2.2 isInText ahead roomAt rooms text length at_ errorPosition toldFrom toldTo isWrong before)) hw hA (zVw (As := [.int x3]) (rest := [.int x2]) ⟨hx, hb, hml, hown, hts⟩ (mX5_countMoves l G k ad H.size thrown now saved hist kept reason detail isSaved comes queue far isInText ahead roomAt rooms text length at_ errorPosition toldFrom toldTo isWrong before x3 u5 hq6) (cwV 1 hts gX5_hasMove_X5_countMoves rfl rfl rfl kdX5_countMoves ⟨Nat.le_of_ble_eq_true rfl, Nat.le_of_ble_eq_true rfl⟩) hK hA hw 0 rfl rfl rfl rfl hl.1 rfl (Nat.le_of_ble_eq_true rfl) dX5_hasMove_26 ⟨Nat.le_of_ble_eq_true rfl, Nat.le_of_ble_eq_true rfl⟩) (fun H locs hw => ?_)
        refine lv_if_le (tgt := 36) hx hb dX5_hasMove_29 (by decide) (fun hc => ?_) (fun hc => ?_)
        · have hF := zif_t hc hF
          exact wX5_hasMove_36 C0 hK hA hret (fun b0 b1 b2 b3 b4 b5 => fX5_hasMove_4  now n b0 b1 b2 b3 b4 b5) ih  _ _ _ _ _ _ hF _ _ _ hw (lv_sub hl [0, 1, 3] rfl)
        · have hF := zif_f hc hF
          refine lv_iconst (v := (1 : Int32)) hx hb dX5_hasMove_32 (by decide) ?_
          refine lv_goto (tgt := 37) hx hb dX5_hasMove_33 (by decide) ?_
          exact wX5_hasMove_37 C0 hK hA hret (fun b0 b1 b2 b3 b4 b5 => fX5_hasMove_4  now n b0 b1 b2 b3 b4 b5) ih  _ _ _ _ _ _ _ hF _ _ _ hw (lv_sub hl [0, 1, 3] rfl)
set_option maxHeartbeats 400000 in
set_option maxRecDepth 100000 in
theorem mX5_hasMove (l : Launch) (G : va_G) (k : Nat → ClassId) (ad : Nat → Nat) (sz : Nat) (thrown : Int32) (now : Nat → Int32) (saved : Nat → Int32) (hist : Nat → Nat → Int32) (kept : Int32) (reason : Int32) (detail : Int32) (isSaved : Int32) (comes : Nat → Int32) (queue : Nat → Int32) (far : Nat → Int32) (isInText : Int32) (ahead : Nat → Int32) (roomAt : Nat → Int32) (rooms : Int32) (text : Nat → Int32) (length : Int32) (at_ : Int32) (errorPosition : Int32) (toldFrom : Int32) (toldTo : Int32) (isWrong : Int32) (before : Nat → Int32) (p0 : Int32) (o : Int32 × (Nat → Int32) × (Nat → Int32) × (Nat → Int32)) (hF : fX5_hasMove now comes queue far p0 = some o) : zMI l yX5_hasMove wsX5_hasMove rmX5_hasMove G k (zM ad k thrown now saved hist kept reason detail isSaved comes queue far isInText ahead roomAt rooms text length at_ errorPosition toldFrom toldTo isWrong before) sz [.ref (ad 0), .int p0] o.1 (zM ad k thrown now saved hist kept reason detail isSaved o.2.1 o.2.2.1 o.2.2.2 isInText ahead roomAt rooms text length at_ errorPosition toldFrom toldTo isWrong before) := by
  refine zof_I (cc := cX5_hasMove) (nL := 4) (own := RX5) (rt := .boolean) (by decide) rfl rfl (Nat.le_of_ble_eq_true rfl) ?_
  intro p e s m args below meth c A Q C0 hK hA hret ls hl hw
  have hl : lv_has ls 4 [(0, .ref (ad 0)), (1, .int p0)] := hl
  obtain ⟨hx, hb, hr, hml, hown, hts, hlocks⟩ := id C0
  obtain ⟨H, hH⟩ : ∃ z, z = s.heap := ⟨_, rfl⟩
  rw [← hH] at hw ⊢
  unfold fX5_hasMove at hF
  refine lv_iconst (v := (0 : Int32)) hx hb dX5_hasMove_0 (by decide) ?_
  refine lv_istore_n (lv' := [(2, .int (0 : Int32)), (0, .ref (ad 0)), (1, .int p0)]) hx hb dX5_hasMove_1 rfl hl (by decide) rfl (fun ls hl => ?_)
  refine lv_iconst (v := (0 : Int32)) hx hb dX5_hasMove_2 (by decide) ?_
  refine lv_istore_n (lv' := [(3, .int (0 : Int32)), (2, .int (0 : Int32)), (0, .ref (ad 0)), (1, .int p0)]) hx hb dX5_hasMove_3 rfl hl (by decide) rfl (fun ls hl => ?_)
  exact wX5_hasMove_4 C0 hK hA hret  zFu _ _ _ _ _ _ hF _ _ _ hw (lv_sub hl [2, 3, 1, 0] rfl)

/-! SealedBoardModel.turn()I -/
abbrev rmX5_turn : Room := { frames := 0, cells := 0, slots := 0, locals := 0 }
theorem kdX5_turn : yX5_turn.cls = RX5 ∧ yX5_turn.cls ≠ "java/lang/invoke/MethodHandle" ∧ yX5_turn.cls ≠ "java/lang/invoke/VarHandle" ∧ (parseMethodDescriptor yX5_turn.desc).map (fun d => d.parameters.length) = some 0 := by decide +kernel
theorem inX5_turn_X5 : ∀ w ∈ u_ws RX5 TX5 23, w ∈ wsX5_turn := by decide +kernel
def fX5_turn (now : Nat → Int32) : Option (Int32) := (zck (zin (74 : Int32) 76) (some (((now (74 : Int32).toNatClampNeg) - (now (74 : Int32).toNatClampNeg) / (2 : Int32) * (2 : Int32)))))
set_option maxHeartbeats 400000 in
set_option maxRecDepth 100000 in
theorem mX5_turn (l : Launch) (G : va_G) (k : Nat → ClassId) (ad : Nat → Nat) (sz : Nat) (thrown : Int32) (now : Nat → Int32) (saved : Nat → Int32) (hist : Nat → Nat → Int32) (kept : Int32) (reason : Int32) (detail : Int32) (isSaved : Int32) (comes : Nat → Int32) (queue : Nat → Int32) (far : Nat → Int32) (isInText : Int32) (ahead : Nat → Int32) (roomAt : Nat → Int32) (rooms : Int32) (text : Nat → Int32) (length : Int32) (at_ : Int32) (errorPosition : Int32) (toldFrom : Int32) (toldTo : Int32) (isWrong : Int32) (before : Nat → Int32)  (o : Int32) (hF : fX5_turn now = some o) : zMI l yX5_turn wsX5_turn rmX5_turn G k (zM ad k thrown now saved hist kept reason detail isSaved comes queue far isInText ahead roomAt rooms text length at_ errorPosition toldFrom toldTo isWrong before) sz [.ref (ad 0)] o (zM ad k thrown now saved hist kept reason detail isSaved comes queue far isInText ahead roomAt rooms text length at_ errorPosition toldFrom toldTo isWrong before) := by
  refine zof_I (cc := cX5_turn) (nL := 1) (own := RX5) (rt := .int) (by decide) rfl rfl (Nat.le_of_ble_eq_true rfl) ?_
  intro p e s m args below meth c A Q C0 hK hA hret ls hl hw
  have hl : lv_has ls 1 [(0, .ref (ad 0))] := hl
  obtain ⟨hx, hb, hr, hml, hown, hts, hlocks⟩ := id C0
  obtain ⟨H, hH⟩ : ∃ z, z = s.heap := ⟨_, rfl⟩
  rw [← hH] at hw ⊢
  unfold fX5_turn at hF
  refine lv_aload_n hx hb dX5_turn_0 rfl (lv_at hl 0 rfl) ?_
  refine va_get (D := G) (ci := 4) (v := .ref (ad 1)) (C := RX5) (T := TX5) (N := 23) hx hb hts inX5_turn_X5 hown hK.1 hw.1 0 rfl rfl 1 (by decide) (hts (.fieldLink RX5 9 "SealedBoardModel" "now" "[I") (by decide +kernel)) (fun _ h9 => h9) rfl dX5_turn_1 ?_
  refine lv_bipush (v := (74 : Int32)) hx hb dX5_turn_4 (by decide) ?_
  obtain ⟨hi1, hF⟩ := zck_in hF
  refine va_iald hx hb hK.1 hw.1 1 2 rfl rfl hi1 dX5_turn_6 ?_
  refine lv_iconst (v := (2 : Int32)) hx hb dX5_turn_7 (by decide) ?_
  refine lv_irem hx hb dX5_turn_8 (by decide) ?_
  obtain rfl := Option.some.inj hF
  exact hret _ _ _ _ rfl hw dX5_turn_9

/-! SealedBoardModel.go(II)I -/
abbrev rmX5_go : Room := { frames := 2, cells := 0, slots := 0, locals := 45 }
theorem kdX5_go : yX5_go.cls = RX5 ∧ yX5_go.cls ≠ "java/lang/invoke/MethodHandle" ∧ yX5_go.cls ≠ "java/lang/invoke/VarHandle" ∧ (parseMethodDescriptor yX5_go.desc).map (fun d => d.parameters.length) = some 2 := by decide +kernel
theorem inX5_go_X5 : ∀ w ∈ u_ws RX5 TX5 23, w ∈ wsX5_go := by decide +kernel
def fX5_go_128 (k35 : (Nat → Int32) → Int32 → Int32 → Int32 → Int32 → Option (Int32 × (Nat → Int32)))  (now : Nat → Int32) (x2 : Int32) (x3 : Int32) (x4 : Int32) (x5 : Int32) : Option (Int32 × (Nat → Int32)) := (zbn (x5 + (1 : Int32)) (fun a1 => (k35 now x2 x3 x4 a1)))
def fX5_go_65 (k35 : (Nat → Int32) → Int32 → Int32 → Int32 → Int32 → Option (Int32 × (Nat → Int32)))  (now : Nat → Int32) (x2 : Int32) (x3 : Int32) (x4 : Int32) (x5 : Int32) (x6 : Int32) (s0 : Int32) : Option (Int32 × (Nat → Int32)) := (if s0 < 0 then (fX5_go_128 k35   now x2 x3 x4 x5) else (zck (zin x6 76) (zbd (fX5_sideOf (now x6.toNatClampNeg)) (fun u2 => (if u2 = ((1 : Int32) - x3) then (zck (zin s0 76) (zbd (fX5_sideOf (now s0.toNatClampNeg)) (fun u5 => (if u5 = x3 then (zck (zin x6 76) (zck (zin x6 76) (zck (zin ((36 : Int32) + x6) 76) (zbn (x4 + (1 : Int32)) (fun a10 => (fX5_go_128 k35   (upd (upd now x6.toNatClampNeg ((now x6.toNatClampNeg) + (20 : Int32))) ((36 : Int32) + x6).toNatClampNeg (0 : Int32)) x2 x3 a10 x5)))))) else (fX5_go_128 k35   now x2 x3 x4 x5))))) else (fX5_go_128 k35   now x2 x3 x4 x5))))))
def fX5_go_35   : Nat → (Nat → Int32) → Int32 → Int32 → Int32 → Int32 → Option (Int32 × (Nat → Int32))
  | 0, _, _, _, _, _ => none
  | n + 1, now, x2, x3, x4, x5 => (if (4 : Int32) ≤ x5 then (some (x4, now)) else (zbd (fX5_next x2 x5) (fun u1 => (if 0 ≤ u1 then (zbd (fX5_next u1 x5) (fun u3 => (fX5_go_65 (fun b0 b1 b2 b3 b4 => fX5_go_35   n b0 b1 b2 b3 b4)   now x2 x3 x4 x5 u1 u3))) else (fX5_go_65 (fun b0 b1 b2 b3 b4 => fX5_go_35   n b0 b1 b2 b3 b4)   now x2 x3 x4 x5 u1 (-1 : Int32))))))
def fX5_go (now : Nat → Int32) (p0 : Int32) (p1 : Int32) : Option (Int32 × (Nat → Int32)) := (zck (zin p0 76) (zbd (fX5_sideOf (now p0.toNatClampNeg)) (fun u2 => (zck (zin p0 76) (zck (zin p1 76) (zck (zin p0 76) (fX5_go_35   zFu (upd (upd now p1.toNatClampNeg (now p0.toNatClampNeg)) p0.toNatClampNeg (0 : Int32)) p1 u2 (0 : Int32) (0 : Int32))))))))
set_option maxHeartbeats 400000 in
set_option maxRecDepth 100000 in
theorem wX5_go_128 {p : Program} {l : Launch} {e : Env} {s : State} {m : MethodId} {args : Array Value} {below : List Frame} {meth : Method} {c : Code} {A : Nat → Prop} {Q : State → Prop} {G : va_G} {k : Nat → ClassId} {ad : Nat → Nat} {thrown : Int32} {saved : Nat → Int32} {hist : Nat → Nat → Int32} {kept : Int32} {reason : Int32} {detail : Int32} {isSaved : Int32} {comes : Nat → Int32} {queue : Nat → Int32} {far : Nat → Int32} {isInText : Int32} {ahead : Nat → Int32} {roomAt : Nat → Int32} {rooms : Int32} {text : Nat → Int32} {length : Int32} {at_ : Int32} {errorPosition : Int32} {toldFrom : Int32} {toldTo : Int32} {isWrong : Int32} {before : Nat → Int32} {o : Int32 × (Nat → Int32)} (C0 : zCx p s m args meth c wsX5_go cX5_go RX5 (some .int) 8) (hK : zKK G k A s s.heap) (hA : ∀ q : Nat, s.heap.size ≤ q → A q) (hret : zRI p l e rmX5_go s m args below meth c cX5_go G A 0 0 Q .int (zM ad k thrown o.2 saved hist kept reason detail isSaved comes queue far isInText ahead roomAt rooms text length at_ errorPosition toldFrom toldTo isWrong before) o.1) (k35 : (Nat → Int32) → Int32 → Int32 → Int32 → Int32 → Option (Int32 × (Nat → Int32))) (hk35 : ∀ (now : Nat → Int32) (x2 : Int32) (x3 : Int32) (x4 : Int32) (x5 : Int32), k35 now x2 x3 x4 x5 = some o → ∀ (H : Heap) (locs : List Loc) (ls : Array Slot), zWd G A s (zM ad k thrown now saved hist kept reason detail isSaved comes queue far isInText ahead roomAt rooms text length at_ errorPosition toldFrom toldTo isWrong before) H locs → lv_has ls 8 [(0, .ref (ad 0)), (2, .int x2), (3, .int x3), (4, .int x4), (5, .int x5)] → W p l e rmX5_go s m args below meth c H locs 0 0 Q (F0 m 35 ls [])) : ∀ (now : Nat → Int32) (x2 : Int32) (x3 : Int32) (x4 : Int32) (x5 : Int32), fX5_go_128 k35  now x2 x3 x4 x5 = some o → ∀ (H : Heap) (locs : List Loc) (ls : Array Slot), zWd G A s (zM ad k thrown now saved hist kept reason detail isSaved comes queue far isInText ahead roomAt rooms text length at_ errorPosition toldFrom toldTo isWrong before) H locs → lv_has ls 8 [(0, .ref (ad 0)), (2, .int x2), (3, .int x3), (4, .int x4), (5, .int x5)] → W p l e rmX5_go s m args below meth c H locs 0 0 Q (F0 m 128 ls []) := by
  obtain ⟨hx, hb, hr, hml, hown, hts, hlocks⟩ := id C0
  intro now x2 x3 x4 x5 hF H locs ls hw hl
  unfold fX5_go_128 at hF
  obtain ⟨a1, ea1⟩ : ∃ z : Int32, z = x5 + (1 : Int32) := ⟨_, rfl⟩
  have hF := zbn_t ea1 hF
  refine lv_iinc (v := a1) (lv' := [(5, .int a1), (0, .ref (ad 0)), (2, .int x2), (3, .int x3), (4, .int x4)]) hx hb dX5_go_128 hl (k := 4) rfl (by rw [ea1]; rfl) (by decide) rfl (fun ls hl => ?_)
  refine lv_goto (tgt := 35) hx hb dX5_go_131 (by decide) ?_
  exact hk35 _ _ _ _ _ hF _ _ _ hw (lv_sub hl [1, 2, 3, 4, 0] rfl)
set_option maxHeartbeats 400000 in
set_option maxRecDepth 100000 in
theorem wX5_go_65 {p : Program} {l : Launch} {e : Env} {s : State} {m : MethodId} {args : Array Value} {below : List Frame} {meth : Method} {c : Code} {A : Nat → Prop} {Q : State → Prop} {G : va_G} {k : Nat → ClassId} {ad : Nat → Nat} {thrown : Int32} {saved : Nat → Int32} {hist : Nat → Nat → Int32} {kept : Int32} {reason : Int32} {detail : Int32} {isSaved : Int32} {comes : Nat → Int32} {queue : Nat → Int32} {far : Nat → Int32} {isInText : Int32} {ahead : Nat → Int32} {roomAt : Nat → Int32} {rooms : Int32} {text : Nat → Int32} {length : Int32} {at_ : Int32} {errorPosition : Int32} {toldFrom : Int32} {toldTo : Int32} {isWrong : Int32} {before : Nat → Int32} {o : Int32 × (Nat → Int32)} (C0 : zCx p s m args meth c wsX5_go cX5_go RX5 (some .int) 8) (hK : zKK G k A s s.heap) (hA : ∀ q : Nat, s.heap.size ≤ q → A q) (hret : zRI p l e rmX5_go s m args below meth c cX5_go G A 0 0 Q .int (zM ad k thrown o.2 saved hist kept reason detail isSaved comes queue far isInText ahead roomAt rooms text length at_ errorPosition toldFrom toldTo isWrong before) o.1) (k35 : (Nat → Int32) → Int32 → Int32 → Int32 → Int32 → Option (Int32 × (Nat → Int32))) (hk35 : ∀ (now : Nat → Int32) (x2 : Int32) (x3 : Int32) (x4 : Int32) (x5 : Int32), k35 now x2 x3 x4 x5 = some o → ∀ (H : Heap) (locs : List Loc) (ls : Array Slot), zWd G A s (zM ad k thrown now saved hist kept reason detail isSaved comes queue far isInText ahead roomAt rooms text length at_ errorPosition toldFrom toldTo isWrong before) H locs → lv_has ls 8 [(0, .ref (ad 0)), (2, .int x2), (3, .int x3), (4, .int x4), (5, .int x5)] → W p l e rmX5_go s m args below meth c H locs 0 0 Q (F0 m 35 ls [])) : ∀ (now : Nat → Int32) (x2 : Int32) (x3 : Int32) (x4 : Int32) (x5 : Int32) (x6 : Int32) (s0 : Int32), fX5_go_65 k35  now x2 x3 x4 x5 x6 s0 = some o → ∀ (H : Heap) (locs : List Loc) (ls : Array Slot), zWd G A s (zM ad k thrown now saved hist kept reason detail isSaved comes queue far isInText ahead roomAt rooms text length at_ errorPosition toldFrom toldTo isWrong before) H locs → lv_has ls 8 [(0, .ref (ad 0)), (2, .int x2), (3, .int x3), (4, .int x4), (5, .int x5), (6, .int x6)] → W p l e rmX5_go s m args below meth c H locs 0 0 Q (F0 m 65 ls [.int s0]) := by
  obtain ⟨hx, hb, hr, hml, hown, hts, hlocks⟩ := id C0
  intro now x2 x3 x4 x5 x6 s0 hF H locs ls hw hl
  unfold fX5_go_65 at hF
  refine lv_istore (lv' := [(7, .int s0), (0, .ref (ad 0)), (2, .int x2), (3, .int x3), (4, .int x4), (5, .int x5), (6, .int x6)]) hx hb dX5_go_65 hl (by decide) rfl (fun ls hl => ?_)
  refine lv_iload hx hb dX5_go_67 (lv_at hl 0 rfl) ?_
  refine lv_if_lt (tgt := 128) hx hb dX5_go_69 (by decide) (fun hc => ?_) (fun hc => ?_)
  · have hF := zif_t hc hF
    exact wX5_go_128 C0 hK hA hret k35 hk35  _ _ _ _ _ hF _ _ _ hw (lv_sub hl [1, 2, 3, 4, 5] rfl)
  · have hF := zif_f hc hF
    refine lv_aload_n hx hb dX5_go_72 rfl (lv_at hl 1 rfl) ?_
    refine va_get (D := G) (ci := 4) (v := .ref (ad 1)) (C := RX5) (T := TX5) (N := 23) hx hb hts inX5_go_X5 hown hK.1 hw.1 0 rfl rfl 1 (by decide) (hts (.fieldLink RX5 9 "SealedBoardModel" "now" "[I") (by decide +kernel)) (fun _ h9 => h9) rfl dX5_go_73 ?_
    refine lv_iload hx hb dX5_go_76 (lv_at hl 6 rfl) ?_
    obtain ⟨hi1, hF⟩ := zck_in hF
    refine va_iald hx hb hK.1 hw.1 1 2 rfl rfl hi1 dX5_go_78 ?_
    obtain ⟨u2, hq3, hF⟩ := zbd_t hF
    refine zgoI (w' := (zM ad k thrown now saved hist kept reason detail isSaved comes queue far isInText ahead roomAt rooms text length at_ errorPosition toldFrom toldTo isWrong before)) hw hA [] rfl (zS (As := [.int (now x6.toNatClampNeg)]) (rest := []) ⟨hx, hb, hml, hown, hts⟩ (mX5_sideOf l G k  H.size  (now x6.toNatClampNeg) u2 hq3) (va_cwS 1 hts gX5_go_X5_sideOf rfl rfl rfl kdX5_sideOf ⟨Nat.le_of_ble_eq_true rfl, Nat.le_of_ble_eq_true rfl⟩) hK hA hw [] rfl (by decide) rfl hl.1 rfl (Nat.le_of_ble_eq_true rfl) dX5_go_79 ⟨Nat.le_of_ble_eq_true rfl, Nat.le_of_ble_eq_true rfl⟩) rfl rfl rfl (fun H locs hw => ?_)
    refine lv_iconst (v := (1 : Int32)) hx hb dX5_go_82 (by decide) ?_
    refine lv_iload_n hx hb dX5_go_83 rfl (lv_at hl 3 rfl) ?_
    refine lv_isub hx hb dX5_go_84 ?_
    refine lv_icmp_ne (tgt := 128) hx hb dX5_go_85 (by decide) (fun hc => ?_) (fun hc => ?_)
    · have hF := zif_f hc hF
      exact wX5_go_128 C0 hK hA hret k35 hk35  _ _ _ _ _ hF _ _ _ hw (lv_sub hl [1, 2, 3, 4, 5] rfl)
    · have hF := zif_t hc hF
      refine lv_aload_n hx hb dX5_go_88 rfl (lv_at hl 1 rfl) ?_
      refine va_get (D := G) (ci := 4) (v := .ref (ad 1)) (C := RX5) (T := TX5) (N := 23) hx hb hts inX5_go_X5 hown hK.1 hw.1 0 rfl rfl 1 (by decide) (hts (.fieldLink RX5 9 "SealedBoardModel" "now" "[I") (by decide +kernel)) (fun _ h9 => h9) rfl dX5_go_89 ?_
      refine lv_iload hx hb dX5_go_92 (lv_at hl 0 rfl) ?_
      obtain ⟨hi4, hF⟩ := zck_in hF
      refine va_iald hx hb hK.1 hw.1 1 2 rfl rfl hi4 dX5_go_94 ?_
      obtain ⟨u5, hq6, hF⟩ := zbd_t hF
      refine zgoI (w' := (zM ad k thrown now saved hist kept reason detail isSaved comes queue far isInText ahead roomAt rooms text length at_ errorPosition toldFrom toldTo isWrong before)) hw hA [] rfl (zS (As := [.int (now s0.toNatClampNeg)]) (rest := []) ⟨hx, hb, hml, hown, hts⟩ (mX5_sideOf l G k  H.size  (now s0.toNatClampNeg) u5 hq6) (va_cwS 1 hts gX5_go_X5_sideOf rfl rfl rfl kdX5_sideOf ⟨Nat.le_of_ble_eq_true rfl, Nat.le_of_ble_eq_true rfl⟩) hK hA hw [] rfl (by decide) rfl hl.1 rfl (Nat.le_of_ble_eq_true rfl) dX5_go_95 ⟨Nat.le_of_ble_eq_true rfl, Nat.le_of_ble_eq_true rfl⟩) rfl rfl rfl (fun H locs hw => ?_)
      refine lv_iload_n hx hb dX5_go_98 rfl (lv_at hl 3 rfl) ?_
      refine lv_icmp_ne (tgt := 128) hx hb dX5_go_99 (by decide) (fun hc => ?_) (fun hc => ?_)
      · have hF := zif_f hc hF
        exact wX5_go_128 C0 hK hA hret k35 hk35  _ _ _ _ _ hF _ _ _ hw (lv_sub hl [1, 2, 3, 4, 5] rfl)
      · have hF := zif_t hc hF
        refine lv_aload_n hx hb dX5_go_102 rfl (lv_at hl 1 rfl) ?_
        refine va_get (D := G) (ci := 4) (v := .ref (ad 1)) (C := RX5) (T := TX5) (N := 23) hx hb hts inX5_go_X5 hown hK.1 hw.1 0 rfl rfl 1 (by decide) (hts (.fieldLink RX5 9 "SealedBoardModel" "now" "[I") (by decide +kernel)) (fun _ h9 => h9) rfl dX5_go_103 ?_
        refine lv_iload hx hb dX5_go_106 (lv_at hl 6 rfl) ?_
        refine lv_dup2_11 hx hb dX5_go_108 rfl rfl ?_
        obtain ⟨hi7, hF⟩ := zck_in hF
        refine va_iald hx hb hK.1 hw.1 1 2 rfl rfl hi7 dX5_go_109 ?_
        refine lv_bipush (v := (20 : Int32)) hx hb dX5_go_110 (by decide) ?_
        refine lv_iadd hx hb dX5_go_112 ?_
        obtain ⟨hi8, hF⟩ := zck_in hF
        refine va_iast hx hb hK.1 hw.1 hw.2.1 hw.2.2 1 2 rfl rfl hi8 dX5_go_113 (fun H locs hP hD hS => ?_)
        have hw : zWd G A s (zM ad k thrown (upd now x6.toNatClampNeg ((now x6.toNatClampNeg) + (20 : Int32))) saved hist kept reason detail isSaved comes queue far isInText ahead roomAt rooms text length at_ errorPosition toldFrom toldTo isWrong before) H locs := ⟨hP, hD, hS⟩
        refine lv_aload_n hx hb dX5_go_114 rfl (lv_at hl 1 rfl) ?_
        refine va_get (D := G) (ci := 4) (v := .ref (ad 1)) (C := RX5) (T := TX5) (N := 23) hx hb hts inX5_go_X5 hown hK.1 hw.1 0 rfl rfl 1 (by decide) (hts (.fieldLink RX5 9 "SealedBoardModel" "now" "[I") (by decide +kernel)) (fun _ h9 => h9) rfl dX5_go_115 ?_
        refine lv_bipush (v := (36 : Int32)) hx hb dX5_go_118 (by decide) ?_
        refine lv_iload hx hb dX5_go_120 (lv_at hl 6 rfl) ?_
        refine lv_iadd hx hb dX5_go_122 ?_
        refine lv_iconst (v := (0 : Int32)) hx hb dX5_go_123 (by decide) ?_
        obtain ⟨hi9, hF⟩ := zck_in hF
        refine va_iast hx hb hK.1 hw.1 hw.2.1 hw.2.2 1 2 rfl rfl hi9 dX5_go_124 (fun H locs hP hD hS => ?_)
        have hw : zWd G A s (zM ad k thrown (upd (upd now x6.toNatClampNeg ((now x6.toNatClampNeg) + (20 : Int32))) ((36 : Int32) + x6).toNatClampNeg (0 : Int32)) saved hist kept reason detail isSaved comes queue far isInText ahead roomAt rooms text length at_ errorPosition toldFrom toldTo isWrong before) H locs := ⟨hP, hD, hS⟩
        obtain ⟨a10, ea10⟩ : ∃ z : Int32, z = x4 + (1 : Int32) := ⟨_, rfl⟩
        have hF := zbn_t ea10 hF
        refine lv_iinc (v := a10) (lv' := [(4, .int a10), (7, .int s0), (0, .ref (ad 0)), (2, .int x2), (3, .int x3), (5, .int x5), (6, .int x6)]) hx hb dX5_go_125 hl (k := 4) rfl (by rw [ea10]; rfl) (by decide) rfl (fun ls hl => ?_)
        exact wX5_go_128 C0 hK hA hret k35 hk35  _ _ _ _ _ hF _ _ _ hw (lv_sub hl [2, 3, 4, 0, 5] rfl)
set_option maxHeartbeats 400000 in
set_option maxRecDepth 100000 in
theorem wX5_go_35 {p : Program} {l : Launch} {e : Env} {s : State} {m : MethodId} {args : Array Value} {below : List Frame} {meth : Method} {c : Code} {A : Nat → Prop} {Q : State → Prop} {G : va_G} {k : Nat → ClassId} {ad : Nat → Nat} {thrown : Int32} {saved : Nat → Int32} {hist : Nat → Nat → Int32} {kept : Int32} {reason : Int32} {detail : Int32} {isSaved : Int32} {comes : Nat → Int32} {queue : Nat → Int32} {far : Nat → Int32} {isInText : Int32} {ahead : Nat → Int32} {roomAt : Nat → Int32} {rooms : Int32} {text : Nat → Int32} {length : Int32} {at_ : Int32} {errorPosition : Int32} {toldFrom : Int32} {toldTo : Int32} {isWrong : Int32} {before : Nat → Int32} {o : Int32 × (Nat → Int32)} (C0 : zCx p s m args meth c wsX5_go cX5_go RX5 (some .int) 8) (hK : zKK G k A s s.heap) (hA : ∀ q : Nat, s.heap.size ≤ q → A q) (hret : zRI p l e rmX5_go s m args below meth c cX5_go G A 0 0 Q .int (zM ad k thrown o.2 saved hist kept reason detail isSaved comes queue far isInText ahead roomAt rooms text length at_ errorPosition toldFrom toldTo isWrong before) o.1)  : ∀ (n : Nat) (now : Nat → Int32) (x2 : Int32) (x3 : Int32) (x4 : Int32) (x5 : Int32), fX5_go_35   n now x2 x3 x4 x5 = some o → ∀ (H : Heap) (locs : List Loc) (ls : Array Slot), zWd G A s (zM ad k thrown now saved hist kept reason detail isSaved comes queue far isInText ahead roomAt rooms text length at_ errorPosition toldFrom toldTo isWrong before) H locs → lv_has ls 8 [(0, .ref (ad 0)), (2, .int x2), (3, .int x3), (4, .int x4), (5, .int x5)] → W p l e rmX5_go s m args below meth c H locs 0 0 Q (F0 m 35 ls []) := by
  obtain ⟨hx, hb, hr, hml, hown, hts, hlocks⟩ := id C0
  intro n
  induction n with
  | zero => intro now x2 x3 x4 x5 hF; exact nomatch hF
  | succ n ih =>
    intro now x2 x3 x4 x5 hF H locs ls hw hl
    rw [fX5_go_35] at hF
    refine lv_iload hx hb dX5_go_35 (lv_at hl 4 rfl) ?_
    refine lv_iconst (v := (4 : Int32)) hx hb dX5_go_37 (by decide) ?_
    refine lv_icmp_ge (tgt := 134) hx hb dX5_go_38 (by decide) (fun hc => ?_) (fun hc => ?_)
    · have hF := zif_t hc hF
      refine lv_iload hx hb dX5_go_134 (lv_at hl 3 rfl) ?_
      obtain rfl := Option.some.inj hF
      exact hret _ _ _ _ rfl hw dX5_go_136
    · have hF := zif_f hc hF
      refine lv_iload_n hx hb dX5_go_41 rfl (lv_at hl 1 rfl) ?_
      refine lv_iload hx hb dX5_go_42 (lv_at hl 4 rfl) ?_
      obtain ⟨u1, hq2, hF⟩ := zbd_t hF
      refine zgoI (w' := (zM ad k thrown now saved hist kept reason detail isSaved comes queue far isInText ahead roomAt rooms text length at_ errorPosition toldFrom toldTo isWrong before)) hw hA [] rfl (zS (As := [.int x2, .int x5]) (rest := []) ⟨hx, hb, hml, hown, hts⟩ (mX5_next l G k  H.size  x2 x5 u1 hq2) (va_cwS 2 hts gX5_go_X5_next rfl rfl rfl kdX5_next ⟨Nat.le_of_ble_eq_true rfl, Nat.le_of_ble_eq_true rfl⟩) hK hA hw [] rfl (by decide) rfl hl.1 rfl (Nat.le_of_ble_eq_true rfl) dX5_go_44 ⟨Nat.le_of_ble_eq_true rfl, Nat.le_of_ble_eq_true rfl⟩) rfl rfl rfl (fun H locs hw => ?_)
      refine lv_istore (lv' := [(6, .int u1), (0, .ref (ad 0)), (2, .int x2), (3, .int x3), (4, .int x4), (5, .int x5)]) hx hb dX5_go_47 hl (by decide) rfl (fun ls hl => ?_)
      refine lv_iload hx hb dX5_go_49 (lv_at hl 0 rfl) ?_
      refine lv_if_ge (tgt := 58) hx hb dX5_go_51 (by decide) (fun hc => ?_) (fun hc => ?_)
      · have hF := zif_t hc hF
        refine lv_iload hx hb dX5_go_58 (lv_at hl 0 rfl) ?_
        refine lv_iload hx hb dX5_go_60 (lv_at hl 5 rfl) ?_
        obtain ⟨u3, hq4, hF⟩ := zbd_t hF
        refine zgoI (w' := (zM ad k thrown now saved hist kept reason detail isSaved comes queue far isInText ahead roomAt rooms text length at_ errorPosition toldFrom toldTo isWrong before)) hw hA [] rfl (zS (As := [.int u1, .int x5]) (rest := []) ⟨hx, hb, hml, hown, hts⟩ (mX5_next l G k  H.size  u1 x5 u3 hq4) (va_cwS 2 hts gX5_go_X5_next rfl rfl rfl kdX5_next ⟨Nat.le_of_ble_eq_true rfl, Nat.le_of_ble_eq_true rfl⟩) hK hA hw [] rfl (by decide) rfl hl.1 rfl (Nat.le_of_ble_eq_true rfl) dX5_go_62 ⟨Nat.le_of_ble_eq_true rfl, Nat.le_of_ble_eq_true rfl⟩) rfl rfl rfl (fun H locs hw => ?_)
        exact wX5_go_65 C0 hK hA hret (fun b0 b1 b2 b3 b4 => fX5_go_35   n b0 b1 b2 b3 b4) ih  _ _ _ _ _ _ _ hF _ _ _ hw (lv_sub hl [1, 2, 3, 4, 5, 0] rfl)
      · have hF := zif_f hc hF
        refine lv_iconst (v := (-1 : Int32)) hx hb dX5_go_54 (by decide) ?_
        refine lv_goto (tgt := 65) hx hb dX5_go_55 (by decide) ?_
        exact wX5_go_65 C0 hK hA hret (fun b0 b1 b2 b3 b4 => fX5_go_35   n b0 b1 b2 b3 b4) ih  _ _ _ _ _ _ _ hF _ _ _ hw (lv_sub hl [1, 2, 3, 4, 5, 0] rfl)
set_option maxHeartbeats 400000 in
set_option maxRecDepth 100000 in
theorem mX5_go (l : Launch) (G : va_G) (k : Nat → ClassId) (ad : Nat → Nat) (sz : Nat) (thrown : Int32) (now : Nat → Int32) (saved : Nat → Int32) (hist : Nat → Nat → Int32) (kept : Int32) (reason : Int32) (detail : Int32) (isSaved : Int32) (comes : Nat → Int32) (queue : Nat → Int32) (far : Nat → Int32) (isInText : Int32) (ahead : Nat → Int32) (roomAt : Nat → Int32) (rooms : Int32) (text : Nat → Int32) (length : Int32) (at_ : Int32) (errorPosition : Int32) (toldFrom : Int32) (toldTo : Int32) (isWrong : Int32) (before : Nat → Int32) (p0 : Int32) (p1 : Int32) (o : Int32 × (Nat → Int32)) (hF : fX5_go now p0 p1 = some o) : zMI l yX5_go wsX5_go rmX5_go G k (zM ad k thrown now saved hist kept reason detail isSaved comes queue far isInText ahead roomAt rooms text length at_ errorPosition toldFrom toldTo isWrong before) sz [.ref (ad 0), .int p0, .int p1] o.1 (zM ad k thrown o.2 saved hist kept reason detail isSaved comes queue far isInText ahead roomAt rooms text length at_ errorPosition toldFrom toldTo isWrong before) := by
  refine zof_I (cc := cX5_go) (nL := 8) (own := RX5) (rt := .int) (by decide) rfl rfl (Nat.le_of_ble_eq_true rfl) ?_
  intro p e s m args below meth c A Q C0 hK hA hret ls hl hw
  have hl : lv_has ls 8 [(0, .ref (ad 0)), (1, .int p0), (2, .int p1)] := hl
  obtain ⟨hx, hb, hr, hml, hown, hts, hlocks⟩ := id C0
  obtain ⟨H, hH⟩ : ∃ z, z = s.heap := ⟨_, rfl⟩
  rw [← hH] at hw ⊢
  unfold fX5_go at hF
  refine lv_aload_n hx hb dX5_go_0 rfl (lv_at hl 0 rfl) ?_
  refine va_get (D := G) (ci := 4) (v := .ref (ad 1)) (C := RX5) (T := TX5) (N := 23) hx hb hts inX5_go_X5 hown hK.1 hw.1 0 rfl rfl 1 (by decide) (hts (.fieldLink RX5 9 "SealedBoardModel" "now" "[I") (by decide +kernel)) (fun _ h9 => h9) rfl dX5_go_1 ?_
  refine lv_iload_n hx hb dX5_go_4 rfl (lv_at hl 1 rfl) ?_
  obtain ⟨hi1, hF⟩ := zck_in hF
  refine va_iald hx hb hK.1 hw.1 1 2 rfl rfl hi1 dX5_go_5 ?_
  obtain ⟨u2, hq3, hF⟩ := zbd_t hF
  refine zgoI (w' := (zM ad k thrown now saved hist kept reason detail isSaved comes queue far isInText ahead roomAt rooms text length at_ errorPosition toldFrom toldTo isWrong before)) hw hA [] rfl (zS (As := [.int (now p0.toNatClampNeg)]) (rest := []) ⟨hx, hb, hml, hown, hts⟩ (mX5_sideOf l G k  H.size  (now p0.toNatClampNeg) u2 hq3) (va_cwS 1 hts gX5_go_X5_sideOf rfl rfl rfl kdX5_sideOf ⟨Nat.le_of_ble_eq_true rfl, Nat.le_of_ble_eq_true rfl⟩) hK hA hw [] rfl (by decide) rfl hl.1 rfl (Nat.le_of_ble_eq_true rfl) dX5_go_6 ⟨Nat.le_of_ble_eq_true rfl, Nat.le_of_ble_eq_true rfl⟩) rfl rfl rfl (fun H locs hw => ?_)
  refine lv_istore_n (lv' := [(3, .int u2), (0, .ref (ad 0)), (1, .int p0), (2, .int p1)]) hx hb dX5_go_9 rfl hl (by decide) rfl (fun ls hl => ?_)
  refine lv_aload_n hx hb dX5_go_10 rfl (lv_at hl 1 rfl) ?_
  refine va_get (D := G) (ci := 4) (v := .ref (ad 1)) (C := RX5) (T := TX5) (N := 23) hx hb hts inX5_go_X5 hown hK.1 hw.1 0 rfl rfl 1 (by decide) (hts (.fieldLink RX5 9 "SealedBoardModel" "now" "[I") (by decide +kernel)) (fun _ h9 => h9) rfl dX5_go_11 ?_
  refine lv_iload_n hx hb dX5_go_14 rfl (lv_at hl 3 rfl) ?_
  refine lv_aload_n hx hb dX5_go_15 rfl (lv_at hl 1 rfl) ?_
  refine va_get (D := G) (ci := 4) (v := .ref (ad 1)) (C := RX5) (T := TX5) (N := 23) hx hb hts inX5_go_X5 hown hK.1 hw.1 0 rfl rfl 1 (by decide) (hts (.fieldLink RX5 9 "SealedBoardModel" "now" "[I") (by decide +kernel)) (fun _ h9 => h9) rfl dX5_go_16 ?_
  refine lv_iload_n hx hb dX5_go_19 rfl (lv_at hl 2 rfl) ?_
  obtain ⟨hi4, hF⟩ := zck_in hF
  refine va_iald hx hb hK.1 hw.1 1 2 rfl rfl hi4 dX5_go_20 ?_
  obtain ⟨hi5, hF⟩ := zck_in hF
  refine va_iast hx hb hK.1 hw.1 hw.2.1 hw.2.2 1 2 rfl rfl hi5 dX5_go_21 (fun H locs hP hD hS => ?_)
  have hw : zWd G A s (zM ad k thrown (upd now p1.toNatClampNeg (now p0.toNatClampNeg)) saved hist kept reason detail isSaved comes queue far isInText ahead roomAt rooms text length at_ errorPosition toldFrom toldTo isWrong before) H locs := ⟨hP, hD, hS⟩
  refine lv_aload_n hx hb dX5_go_22 rfl (lv_at hl 1 rfl) ?_
  refine va_get (D := G) (ci := 4) (v := .ref (ad 1)) (C := RX5) (T := TX5) (N := 23) hx hb hts inX5_go_X5 hown hK.1 hw.1 0 rfl rfl 1 (by decide) (hts (.fieldLink RX5 9 "SealedBoardModel" "now" "[I") (by decide +kernel)) (fun _ h9 => h9) rfl dX5_go_23 ?_
  refine lv_iload_n hx hb dX5_go_26 rfl (lv_at hl 2 rfl) ?_
  refine lv_iconst (v := (0 : Int32)) hx hb dX5_go_27 (by decide) ?_
  obtain ⟨hi6, hF⟩ := zck_in hF
  refine va_iast hx hb hK.1 hw.1 hw.2.1 hw.2.2 1 2 rfl rfl hi6 dX5_go_28 (fun H locs hP hD hS => ?_)
  have hw : zWd G A s (zM ad k thrown (upd (upd now p1.toNatClampNeg (now p0.toNatClampNeg)) p0.toNatClampNeg (0 : Int32)) saved hist kept reason detail isSaved comes queue far isInText ahead roomAt rooms text length at_ errorPosition toldFrom toldTo isWrong before) H locs := ⟨hP, hD, hS⟩
  refine lv_iconst (v := (0 : Int32)) hx hb dX5_go_29 (by decide) ?_
  refine lv_istore (lv' := [(4, .int (0 : Int32)), (3, .int u2), (0, .ref (ad 0)), (1, .int p0), (2, .int p1)]) hx hb dX5_go_30 hl (by decide) rfl (fun ls hl => ?_)
  refine lv_iconst (v := (0 : Int32)) hx hb dX5_go_32 (by decide) ?_
  refine lv_istore (lv' := [(5, .int (0 : Int32)), (4, .int (0 : Int32)), (3, .int u2), (0, .ref (ad 0)), (1, .int p0), (2, .int p1)]) hx hb dX5_go_33 hl (by decide) rfl (fun ls hl => ?_)
  exact wX5_go_35 C0 hK hA hret  zFu _ _ _ _ _ hF _ _ _ hw (lv_sub hl [3, 5, 2, 1, 0] rfl)

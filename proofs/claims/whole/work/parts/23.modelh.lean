/-! SealedBoardModel.account(I)I -/
abbrev rmX5_account : Room := { frames := 3, cells := 0, slots := 0, locals := 65 }
theorem kdX5_account : yX5_account.cls = RX5 ∧ yX5_account.cls ≠ "java/lang/invoke/MethodHandle" ∧ yX5_account.cls ≠ "java/lang/invoke/VarHandle" ∧ (parseMethodDescriptor yX5_account.desc).map (fun d => d.parameters.length) = some 1 := by decide +kernel
theorem inX5_account_X5 : ∀ w ∈ u_ws RX5 TX5 23, w ∈ wsX5_account := by decide +kernel
def fX5_account_17  (now : Nat → Int32) (kept : Int32) (length : Int32) (thrown : Int32) (x1 : Int32) (s0 : Int32) (s1 : Int32) : Option (Int32 × Int32) := (zbd (fX5_fails thrown s1 s0) (fun u1 => (if u1.1 = 0 then (if x1 = (0 : Int32) then (zbd (fX5_countPieces now x1) (fun u4 => (some (u4, u1.2)))) else (if x1 = (1 : Int32) then (zbd (fX5_countPieces now x1) (fun u7 => (some (u7, u1.2)))) else (if x1 = (2 : Int32) then (zbd (fX5_countWalls now) (fun u10 => (some (u10, u1.2)))) else (if x1 = (3 : Int32) then (zbd (fX5_countDoors now) (fun u13 => (some (u13, u1.2)))) else (if x1 = (4 : Int32) then (zck (zin (((72 : Int32) + x1) - (4 : Int32)) 76) (some ((now (((72 : Int32) + x1) - (4 : Int32)).toNatClampNeg), u1.2))) else (if x1 = (5 : Int32) then (zck (zin (((72 : Int32) + x1) - (4 : Int32)) 76) (some ((now (((72 : Int32) + x1) - (4 : Int32)).toNatClampNeg), u1.2))) else (if x1 = (6 : Int32) then (zck (zin (74 : Int32) 76) (some ((now (74 : Int32).toNatClampNeg), u1.2))) else (if x1 = (7 : Int32) then (zbd (fX5_turn now) (fun u22 => (some (u22, u1.2)))) else (if x1 = (8 : Int32) then (zck (zin (75 : Int32) 76) (some ((now (75 : Int32).toNatClampNeg), u1.2))) else (if x1 = (9 : Int32) then (some (length, u1.2)) else (some (kept, u1.2)))))))))))) else (some ((0 : Int32), u1.2)))))
def fX5_account (thrown : Int32) (now : Nat → Int32) (kept : Int32) (length : Int32) (p0 : Int32) : Option (Int32 × Int32) := (zbd (fX5_isBetween p0 (0 : Int32) (10 : Int32)) (fun u1 => (if u1 = 0 then (fX5_account_17  now kept length  thrown p0 (1 : Int32) (1 : Int32)) else (fX5_account_17  now kept length  thrown p0 (0 : Int32) (1 : Int32)))))
set_option maxHeartbeats 400000 in
set_option maxRecDepth 100000 in
theorem wX5_account_17 {p : Program} {l : Launch} {e : Env} {s : State} {m : MethodId} {args : Array Value} {below : List Frame} {meth : Method} {c : Code} {A : Nat → Prop} {Q : State → Prop} {G : va_G} {k : Nat → ClassId} {ad : Nat → Nat} {now : Nat → Int32} {saved : Nat → Int32} {hist : Nat → Nat → Int32} {kept : Int32} {reason : Int32} {detail : Int32} {isSaved : Int32} {comes : Nat → Int32} {queue : Nat → Int32} {far : Nat → Int32} {isInText : Int32} {ahead : Nat → Int32} {roomAt : Nat → Int32} {rooms : Int32} {text : Nat → Int32} {length : Int32} {at_ : Int32} {errorPosition : Int32} {toldFrom : Int32} {toldTo : Int32} {isWrong : Int32} {before : Nat → Int32} {o : Int32 × Int32} (C0 : zCx p s m args meth c wsX5_account cX5_account RX5 (some .int) 2) (hK : zKK G k A s s.heap) (hA : ∀ q : Nat, s.heap.size ≤ q → A q) (hret : zRI p l e rmX5_account s m args below meth c cX5_account G A 0 0 Q .int (zM ad k o.2 now saved hist kept reason detail isSaved comes queue far isInText ahead roomAt rooms text length at_ errorPosition toldFrom toldTo isWrong before) o.1)  : ∀ (thrown : Int32) (x1 : Int32) (s0 : Int32) (s1 : Int32), fX5_account_17  now kept length thrown x1 s0 s1 = some o → ∀ (H : Heap) (locs : List Loc) (ls : Array Slot), zWd G A s (zM ad k thrown now saved hist kept reason detail isSaved comes queue far isInText ahead roomAt rooms text length at_ errorPosition toldFrom toldTo isWrong before) H locs → lv_has ls 2 [(0, .ref (ad 0)), (1, .int x1)] → W p l e rmX5_account s m args below meth c H locs 0 0 Q (F0 m 17 ls [.int s0, .int s1, .ref (ad 0)]) := by
  obtain ⟨hx, hb, hr, hml, hown, hts, hlocks⟩ := id C0
  intro thrown x1 s0 s1 hF H locs ls hw hl
  unfold fX5_account_17 at hF
  obtain ⟨u1, hq2, hF⟩ := zbd_t hF
  refine zgoIw (w' := (zM ad k u1.2 now saved hist kept reason detail isSaved comes queue far isInText ahead roomAt rooms text length at_ errorPosition toldFrom toldTo isWrong before)) hw hA (zVw (As := [.int s1, .int s0]) (rest := []) ⟨hx, hb, hml, hown, hts⟩ (mX5_fails l G k ad H.size thrown now saved hist kept reason detail isSaved comes queue far isInText ahead roomAt rooms text length at_ errorPosition toldFrom toldTo isWrong before s1 s0 u1 hq2) (cwV 2 hts gX5_account_X5_fails rfl rfl rfl kdX5_fails ⟨Nat.le_of_ble_eq_true rfl, Nat.le_of_ble_eq_true rfl⟩) hK hA hw 0 rfl rfl rfl rfl hl.1 rfl (Nat.le_of_ble_eq_true rfl) dX5_account_17 ⟨Nat.le_of_ble_eq_true rfl, Nat.le_of_ble_eq_true rfl⟩) (fun H locs hw => ?_)
  refine lv_if_eq (tgt := 25) hx hb dX5_account_20 (by decide) (fun hc => ?_) (fun hc => ?_)
  · have hF := zif_t hc hF
    refine lv_iload_n hx hb dX5_account_25 rfl (lv_at hl 1 rfl) ?_
    by_cases hc3 : x1 = (0 : Int32)
    · have hF := zif_t hc3 hF
      refine lv_tableIn (tgt := 80) (off := 54) hx hb dX5_account_26 (by rw [hc3]; decide) (by rw [hc3]; decide) (by rw [hc3]; rfl) (by decide) ?_
      refine lv_aload_n hx hb dX5_account_80 rfl (lv_at hl 0 rfl) ?_
      refine lv_iload_n hx hb dX5_account_81 rfl (lv_at hl 1 rfl) ?_
      obtain ⟨u4, hq5, hF⟩ := zbd_t hF
      refine zgoIw (w' := (zM ad k u1.2 now saved hist kept reason detail isSaved comes queue far isInText ahead roomAt rooms text length at_ errorPosition toldFrom toldTo isWrong before)) hw hA (zVw (As := [.int x1]) (rest := []) ⟨hx, hb, hml, hown, hts⟩ (mX5_countPieces l G k ad H.size u1.2 now saved hist kept reason detail isSaved comes queue far isInText ahead roomAt rooms text length at_ errorPosition toldFrom toldTo isWrong before x1 u4 hq5) (cwV 1 hts gX5_account_X5_countPieces rfl rfl rfl kdX5_countPieces ⟨Nat.le_of_ble_eq_true rfl, Nat.le_of_ble_eq_true rfl⟩) hK hA hw 0 rfl rfl rfl rfl hl.1 rfl (Nat.le_of_ble_eq_true rfl) dX5_account_82 ⟨Nat.le_of_ble_eq_true rfl, Nat.le_of_ble_eq_true rfl⟩) (fun H locs hw => ?_)
      obtain rfl := Option.some.inj hF
      exact hret _ _ _ _ rfl hw dX5_account_85
    have hF := zif_f hc3 hF
    by_cases hc6 : x1 = (1 : Int32)
    · have hF := zif_t hc6 hF
      refine lv_tableIn (tgt := 80) (off := 54) hx hb dX5_account_26 (by rw [hc6]; decide) (by rw [hc6]; decide) (by rw [hc6]; rfl) (by decide) ?_
      refine lv_aload_n hx hb dX5_account_80 rfl (lv_at hl 0 rfl) ?_
      refine lv_iload_n hx hb dX5_account_81 rfl (lv_at hl 1 rfl) ?_
      obtain ⟨u7, hq8, hF⟩ := zbd_t hF
      refine zgoIw (w' := (zM ad k u1.2 now saved hist kept reason detail isSaved comes queue far isInText ahead roomAt rooms text length at_ errorPosition toldFrom toldTo isWrong before)) hw hA (zVw (As := [.int x1]) (rest := []) ⟨hx, hb, hml, hown, hts⟩ (mX5_countPieces l G k ad H.size u1.2 now saved hist kept reason detail isSaved comes queue far isInText ahead roomAt rooms text length at_ errorPosition toldFrom toldTo isWrong before x1 u7 hq8) (cwV 1 hts gX5_account_X5_countPieces rfl rfl rfl kdX5_countPieces ⟨Nat.le_of_ble_eq_true rfl, Nat.le_of_ble_eq_true rfl⟩) hK hA hw 0 rfl rfl rfl rfl hl.1 rfl (Nat.le_of_ble_eq_true rfl) dX5_account_82 ⟨Nat.le_of_ble_eq_true rfl, Nat.le_of_ble_eq_true rfl⟩) (fun H locs hw => ?_)
      obtain rfl := Option.some.inj hF
      exact hret _ _ _ _ rfl hw dX5_account_85
    have hF := zif_f hc6 hF
    by_cases hc9 : x1 = (2 : Int32)
    · have hF := zif_t hc9 hF
      refine lv_tableIn (tgt := 86) (off := 60) hx hb dX5_account_26 (by rw [hc9]; decide) (by rw [hc9]; decide) (by rw [hc9]; rfl) (by decide) ?_
      refine lv_aload_n hx hb dX5_account_86 rfl (lv_at hl 0 rfl) ?_
      obtain ⟨u10, hq11, hF⟩ := zbd_t hF
      refine zgoIw (w' := (zM ad k u1.2 now saved hist kept reason detail isSaved comes queue far isInText ahead roomAt rooms text length at_ errorPosition toldFrom toldTo isWrong before)) hw hA (zVw (As := []) (rest := []) ⟨hx, hb, hml, hown, hts⟩ (mX5_countWalls l G k ad H.size u1.2 now saved hist kept reason detail isSaved comes queue far isInText ahead roomAt rooms text length at_ errorPosition toldFrom toldTo isWrong before  u10 hq11) (cwV 0 hts gX5_account_X5_countWalls rfl rfl rfl kdX5_countWalls ⟨Nat.le_of_ble_eq_true rfl, Nat.le_of_ble_eq_true rfl⟩) hK hA hw 0 rfl rfl rfl rfl hl.1 rfl (Nat.le_of_ble_eq_true rfl) dX5_account_87 ⟨Nat.le_of_ble_eq_true rfl, Nat.le_of_ble_eq_true rfl⟩) (fun H locs hw => ?_)
      obtain rfl := Option.some.inj hF
      exact hret _ _ _ _ rfl hw dX5_account_90
    have hF := zif_f hc9 hF
    by_cases hc12 : x1 = (3 : Int32)
    · have hF := zif_t hc12 hF
      refine lv_tableIn (tgt := 91) (off := 65) hx hb dX5_account_26 (by rw [hc12]; decide) (by rw [hc12]; decide) (by rw [hc12]; rfl) (by decide) ?_
      refine lv_aload_n hx hb dX5_account_91 rfl (lv_at hl 0 rfl) ?_
      obtain ⟨u13, hq14, hF⟩ := zbd_t hF
      refine zgoIw (w' := (zM ad k u1.2 now saved hist kept reason detail isSaved comes queue far isInText ahead roomAt rooms text length at_ errorPosition toldFrom toldTo isWrong before)) hw hA (zVw (As := []) (rest := []) ⟨hx, hb, hml, hown, hts⟩ (mX5_countDoors l G k ad H.size u1.2 now saved hist kept reason detail isSaved comes queue far isInText ahead roomAt rooms text length at_ errorPosition toldFrom toldTo isWrong before  u13 hq14) (cwV 0 hts gX5_account_X5_countDoors rfl rfl rfl kdX5_countDoors ⟨Nat.le_of_ble_eq_true rfl, Nat.le_of_ble_eq_true rfl⟩) hK hA hw 0 rfl rfl rfl rfl hl.1 rfl (Nat.le_of_ble_eq_true rfl) dX5_account_92 ⟨Nat.le_of_ble_eq_true rfl, Nat.le_of_ble_eq_true rfl⟩) (fun H locs hw => ?_)
      obtain rfl := Option.some.inj hF
      exact hret _ _ _ _ rfl hw dX5_account_95
    have hF := zif_f hc12 hF
    by_cases hc15 : x1 = (4 : Int32)
    · have hF := zif_t hc15 hF
      refine lv_tableIn (tgt := 96) (off := 70) hx hb dX5_account_26 (by rw [hc15]; decide) (by rw [hc15]; decide) (by rw [hc15]; rfl) (by decide) ?_
      refine lv_aload_n hx hb dX5_account_96 rfl (lv_at hl 0 rfl) ?_
      refine va_get (D := G) (ci := 4) (v := .ref (ad 1)) (C := RX5) (T := TX5) (N := 23) hx hb hts inX5_account_X5 hown hK.1 hw.1 0 rfl rfl 1 (by decide) (hts (.fieldLink RX5 9 "SealedBoardModel" "now" "[I") (by decide +kernel)) (fun _ h9 => h9) rfl dX5_account_97 ?_
      refine lv_bipush (v := (72 : Int32)) hx hb dX5_account_100 (by decide) ?_
      refine lv_iload_n hx hb dX5_account_102 rfl (lv_at hl 1 rfl) ?_
      refine lv_iadd hx hb dX5_account_103 ?_
      refine lv_iconst (v := (4 : Int32)) hx hb dX5_account_104 (by decide) ?_
      refine lv_isub hx hb dX5_account_105 ?_
      obtain ⟨hi16, hF⟩ := zck_in hF
      refine va_iald hx hb hK.1 hw.1 1 2 rfl rfl hi16 dX5_account_106 ?_
      obtain rfl := Option.some.inj hF
      exact hret _ _ _ _ rfl hw dX5_account_107
    have hF := zif_f hc15 hF
    by_cases hc17 : x1 = (5 : Int32)
    · have hF := zif_t hc17 hF
      refine lv_tableIn (tgt := 96) (off := 70) hx hb dX5_account_26 (by rw [hc17]; decide) (by rw [hc17]; decide) (by rw [hc17]; rfl) (by decide) ?_
      refine lv_aload_n hx hb dX5_account_96 rfl (lv_at hl 0 rfl) ?_
      refine va_get (D := G) (ci := 4) (v := .ref (ad 1)) (C := RX5) (T := TX5) (N := 23) hx hb hts inX5_account_X5 hown hK.1 hw.1 0 rfl rfl 1 (by decide) (hts (.fieldLink RX5 9 "SealedBoardModel" "now" "[I") (by decide +kernel)) (fun _ h9 => h9) rfl dX5_account_97 ?_
      refine lv_bipush (v := (72 : Int32)) hx hb dX5_account_100 (by decide) ?_
      refine lv_iload_n hx hb dX5_account_102 rfl (lv_at hl 1 rfl) ?_
      refine lv_iadd hx hb dX5_account_103 ?_
      refine lv_iconst (v := (4 : Int32)) hx hb dX5_account_104 (by decide) ?_
      refine lv_isub hx hb dX5_account_105 ?_
      obtain ⟨hi18, hF⟩ := zck_in hF
      refine va_iald hx hb hK.1 hw.1 1 2 rfl rfl hi18 dX5_account_106 ?_
      obtain rfl := Option.some.inj hF
      exact hret _ _ _ _ rfl hw dX5_account_107
    have hF := zif_f hc17 hF
    by_cases hc19 : x1 = (6 : Int32)
    · have hF := zif_t hc19 hF
      refine lv_tableIn (tgt := 108) (off := 82) hx hb dX5_account_26 (by rw [hc19]; decide) (by rw [hc19]; decide) (by rw [hc19]; rfl) (by decide) ?_
      refine lv_aload_n hx hb dX5_account_108 rfl (lv_at hl 0 rfl) ?_
      refine va_get (D := G) (ci := 4) (v := .ref (ad 1)) (C := RX5) (T := TX5) (N := 23) hx hb hts inX5_account_X5 hown hK.1 hw.1 0 rfl rfl 1 (by decide) (hts (.fieldLink RX5 9 "SealedBoardModel" "now" "[I") (by decide +kernel)) (fun _ h9 => h9) rfl dX5_account_109 ?_
      refine lv_bipush (v := (74 : Int32)) hx hb dX5_account_112 (by decide) ?_
      obtain ⟨hi20, hF⟩ := zck_in hF
      refine va_iald hx hb hK.1 hw.1 1 2 rfl rfl hi20 dX5_account_114 ?_
      obtain rfl := Option.some.inj hF
      exact hret _ _ _ _ rfl hw dX5_account_115
    have hF := zif_f hc19 hF
    by_cases hc21 : x1 = (7 : Int32)
    · have hF := zif_t hc21 hF
      refine lv_tableIn (tgt := 116) (off := 90) hx hb dX5_account_26 (by rw [hc21]; decide) (by rw [hc21]; decide) (by rw [hc21]; rfl) (by decide) ?_
      refine lv_aload_n hx hb dX5_account_116 rfl (lv_at hl 0 rfl) ?_
      obtain ⟨u22, hq23, hF⟩ := zbd_t hF
      refine zgoIw (w' := (zM ad k u1.2 now saved hist kept reason detail isSaved comes queue far isInText ahead roomAt rooms text length at_ errorPosition toldFrom toldTo isWrong before)) hw hA (zVw (As := []) (rest := []) ⟨hx, hb, hml, hown, hts⟩ (mX5_turn l G k ad H.size u1.2 now saved hist kept reason detail isSaved comes queue far isInText ahead roomAt rooms text length at_ errorPosition toldFrom toldTo isWrong before  u22 hq23) (cwV 0 hts gX5_account_X5_turn rfl rfl rfl kdX5_turn ⟨Nat.le_of_ble_eq_true rfl, Nat.le_of_ble_eq_true rfl⟩) hK hA hw 0 rfl rfl rfl rfl hl.1 rfl (Nat.le_of_ble_eq_true rfl) dX5_account_117 ⟨Nat.le_of_ble_eq_true rfl, Nat.le_of_ble_eq_true rfl⟩) (fun H locs hw => ?_)
      obtain rfl := Option.some.inj hF
      exact hret _ _ _ _ rfl hw dX5_account_120
    have hF := zif_f hc21 hF
    by_cases hc24 : x1 = (8 : Int32)
    · have hF := zif_t hc24 hF
      refine lv_tableIn (tgt := 121) (off := 95) hx hb dX5_account_26 (by rw [hc24]; decide) (by rw [hc24]; decide) (by rw [hc24]; rfl) (by decide) ?_
      refine lv_aload_n hx hb dX5_account_121 rfl (lv_at hl 0 rfl) ?_
      refine va_get (D := G) (ci := 4) (v := .ref (ad 1)) (C := RX5) (T := TX5) (N := 23) hx hb hts inX5_account_X5 hown hK.1 hw.1 0 rfl rfl 1 (by decide) (hts (.fieldLink RX5 9 "SealedBoardModel" "now" "[I") (by decide +kernel)) (fun _ h9 => h9) rfl dX5_account_122 ?_
      refine lv_bipush (v := (75 : Int32)) hx hb dX5_account_125 (by decide) ?_
      obtain ⟨hi25, hF⟩ := zck_in hF
      refine va_iald hx hb hK.1 hw.1 1 2 rfl rfl hi25 dX5_account_127 ?_
      obtain rfl := Option.some.inj hF
      exact hret _ _ _ _ rfl hw dX5_account_128
    have hF := zif_f hc24 hF
    by_cases hc26 : x1 = (9 : Int32)
    · have hF := zif_t hc26 hF
      refine lv_tableIn (tgt := 129) (off := 103) hx hb dX5_account_26 (by rw [hc26]; decide) (by rw [hc26]; decide) (by rw [hc26]; rfl) (by decide) ?_
      refine lv_aload_n hx hb dX5_account_129 rfl (lv_at hl 0 rfl) ?_
      refine va_get (D := G) (ci := 4) (v := .int length) (C := RX5) (T := TX5) (N := 23) hx hb hts inX5_account_X5 hown hK.1 hw.1 0 rfl rfl 16 (by decide) (hts (.fieldLink RX5 234 "SealedBoardModel" "length" "I") (by decide +kernel)) (fun _ h9 => h9) rfl dX5_account_130 ?_
      obtain rfl := Option.some.inj hF
      exact hret _ _ _ _ rfl hw dX5_account_133
    have hF := zif_f hc26 hF
    refine lv_tableOut (tgt := 134) hx hb dX5_account_26 (by
      have q0 : x1.toInt ≠ 0 := fun q => hc3 (Int32.toInt_inj.mp q)
      have q1 : x1.toInt ≠ 1 := fun q => hc6 (Int32.toInt_inj.mp q)
      have q2 : x1.toInt ≠ 2 := fun q => hc9 (Int32.toInt_inj.mp q)
      have q3 : x1.toInt ≠ 3 := fun q => hc12 (Int32.toInt_inj.mp q)
      have q4 : x1.toInt ≠ 4 := fun q => hc15 (Int32.toInt_inj.mp q)
      have q5 : x1.toInt ≠ 5 := fun q => hc17 (Int32.toInt_inj.mp q)
      have q6 : x1.toInt ≠ 6 := fun q => hc19 (Int32.toInt_inj.mp q)
      have q7 : x1.toInt ≠ 7 := fun q => hc21 (Int32.toInt_inj.mp q)
      have q8 : x1.toInt ≠ 8 := fun q => hc24 (Int32.toInt_inj.mp q)
      have q9 : x1.toInt ≠ 9 := fun q => hc26 (Int32.toInt_inj.mp q)
      omega) (by decide) ?_
    refine lv_aload_n hx hb dX5_account_134 rfl (lv_at hl 0 rfl) ?_
    refine va_get (D := G) (ci := 4) (v := .int kept) (C := RX5) (T := TX5) (N := 23) hx hb hts inX5_account_X5 hown hK.1 hw.1 0 rfl rfl 4 (by decide) (hts (.fieldLink RX5 60 "SealedBoardModel" "kept" "I") (by decide +kernel)) (fun _ h9 => h9) rfl dX5_account_135 ?_
    obtain rfl := Option.some.inj hF
    exact hret _ _ _ _ rfl hw dX5_account_138
  · have hF := zif_f hc hF
    refine lv_iconst (v := (0 : Int32)) hx hb dX5_account_23 (by decide) ?_
    obtain rfl := Option.some.inj hF
    exact hret _ _ _ _ rfl hw dX5_account_24
set_option maxHeartbeats 400000 in
set_option maxRecDepth 100000 in
theorem mX5_account (l : Launch) (G : va_G) (k : Nat → ClassId) (ad : Nat → Nat) (sz : Nat) (thrown : Int32) (now : Nat → Int32) (saved : Nat → Int32) (hist : Nat → Nat → Int32) (kept : Int32) (reason : Int32) (detail : Int32) (isSaved : Int32) (comes : Nat → Int32) (queue : Nat → Int32) (far : Nat → Int32) (isInText : Int32) (ahead : Nat → Int32) (roomAt : Nat → Int32) (rooms : Int32) (text : Nat → Int32) (length : Int32) (at_ : Int32) (errorPosition : Int32) (toldFrom : Int32) (toldTo : Int32) (isWrong : Int32) (before : Nat → Int32) (p0 : Int32) (o : Int32 × Int32) (hF : fX5_account thrown now kept length p0 = some o) : zMI l yX5_account wsX5_account rmX5_account G k (zM ad k thrown now saved hist kept reason detail isSaved comes queue far isInText ahead roomAt rooms text length at_ errorPosition toldFrom toldTo isWrong before) sz [.ref (ad 0), .int p0] o.1 (zM ad k o.2 now saved hist kept reason detail isSaved comes queue far isInText ahead roomAt rooms text length at_ errorPosition toldFrom toldTo isWrong before) := by
  refine zof_I (cc := cX5_account) (nL := 2) (own := RX5) (rt := .int) (by decide) rfl rfl (Nat.le_of_ble_eq_true rfl) ?_
  intro p e s m args below meth c A Q C0 hK hA hret ls hl hw
  have hl : lv_has ls 2 [(0, .ref (ad 0)), (1, .int p0)] := hl
  obtain ⟨hx, hb, hr, hml, hown, hts, hlocks⟩ := id C0
  obtain ⟨H, hH⟩ : ∃ z, z = s.heap := ⟨_, rfl⟩
  rw [← hH] at hw ⊢
  unfold fX5_account at hF
  refine lv_aload_n hx hb dX5_account_0 rfl (lv_at hl 0 rfl) ?_
  refine lv_iconst (v := (1 : Int32)) hx hb dX5_account_1 (by decide) ?_
  refine lv_iload_n hx hb dX5_account_2 rfl (lv_at hl 1 rfl) ?_
  refine lv_iconst (v := (0 : Int32)) hx hb dX5_account_3 (by decide) ?_
  refine lv_bipush (v := (10 : Int32)) hx hb dX5_account_4 (by decide) ?_
  obtain ⟨u1, hq2, hF⟩ := zbd_t hF
  refine zgoI (w' := (zM ad k thrown now saved hist kept reason detail isSaved comes queue far isInText ahead roomAt rooms text length at_ errorPosition toldFrom toldTo isWrong before)) hw hA [] rfl (zS (As := [.int p0, .int (0 : Int32), .int (10 : Int32)]) (rest := [.int (1 : Int32), .ref (ad 0)]) ⟨hx, hb, hml, hown, hts⟩ (mX5_isBetween l G k  H.size  p0 (0 : Int32) (10 : Int32) u1 hq2) (va_cwS 3 hts gX5_account_X5_isBetween rfl rfl rfl kdX5_isBetween ⟨Nat.le_of_ble_eq_true rfl, Nat.le_of_ble_eq_true rfl⟩) hK hA hw [] rfl (by decide) rfl hl.1 rfl (Nat.le_of_ble_eq_true rfl) dX5_account_6 ⟨Nat.le_of_ble_eq_true rfl, Nat.le_of_ble_eq_true rfl⟩) rfl rfl rfl (fun H locs hw => ?_)
  refine lv_if_ne (tgt := 16) hx hb dX5_account_9 (by decide) (fun hc => ?_) (fun hc => ?_)
  · have hF := zif_f hc hF
    refine lv_iconst (v := (0 : Int32)) hx hb dX5_account_16 (by decide) ?_
    exact wX5_account_17 C0 hK hA hret   _ _ _ _ hF _ _ _ hw (lv_sub hl [0, 1] rfl)
  · have hF := zif_t hc hF
    refine lv_iconst (v := (1 : Int32)) hx hb dX5_account_12 (by decide) ?_
    refine lv_goto (tgt := 17) hx hb dX5_account_13 (by decide) ?_
    exact wX5_account_17 C0 hK hA hret   _ _ _ _ hF _ _ _ hw (lv_sub hl [0, 1] rfl)

/-! SealedBoardModel.undo()I -/
abbrev rmX5_undo : Room := { frames := 1, cells := 0, slots := 0, locals := 22 }
theorem kdX5_undo : yX5_undo.cls = RX5 ∧ yX5_undo.cls ≠ "java/lang/invoke/MethodHandle" ∧ yX5_undo.cls ≠ "java/lang/invoke/VarHandle" ∧ (parseMethodDescriptor yX5_undo.desc).map (fun d => d.parameters.length) = some 0 := by decide +kernel
theorem inX5_undo_X5 : ∀ w ∈ u_ws RX5 TX5 23, w ∈ wsX5_undo := by decide +kernel
def fX5_undo_14  (hist : Nat → Nat → Int32) (thrown : Int32) (now : Nat → Int32) (kept : Int32) (s0 : Int32) (s1 : Int32) : Option (Int32 × Int32 × (Nat → Int32) × Int32) := (zbd (fX5_fails thrown s1 s0) (fun u1 => (if u1.1 = 0 then (zck (zin (kept - (1 : Int32)) 6) (zbd (fX5_copyRow (hist ((kept - (1 : Int32)).toNatClampNeg)) now) (fun u4 => (some ((kept - (1 : Int32)), u1.2, u4, (kept - (1 : Int32))))))) else (some ((0 : Int32), u1.2, now, kept)))))
def fX5_undo (thrown : Int32) (now : Nat → Int32) (hist : Nat → Nat → Int32) (kept : Int32) : Option (Int32 × Int32 × (Nat → Int32) × Int32) := (if kept = 0 then (fX5_undo_14  hist  thrown now kept (1 : Int32) (1 : Int32)) else (fX5_undo_14  hist  thrown now kept (0 : Int32) (1 : Int32)))
set_option maxHeartbeats 400000 in
set_option maxRecDepth 100000 in
theorem wX5_undo_14 {p : Program} {l : Launch} {e : Env} {s : State} {m : MethodId} {args : Array Value} {below : List Frame} {meth : Method} {c : Code} {A : Nat → Prop} {Q : State → Prop} {G : va_G} {k : Nat → ClassId} {ad : Nat → Nat} {saved : Nat → Int32} {hist : Nat → Nat → Int32} {reason : Int32} {detail : Int32} {isSaved : Int32} {comes : Nat → Int32} {queue : Nat → Int32} {far : Nat → Int32} {isInText : Int32} {ahead : Nat → Int32} {roomAt : Nat → Int32} {rooms : Int32} {text : Nat → Int32} {length : Int32} {at_ : Int32} {errorPosition : Int32} {toldFrom : Int32} {toldTo : Int32} {isWrong : Int32} {before : Nat → Int32} {o : Int32 × Int32 × (Nat → Int32) × Int32} (C0 : zCx p s m args meth c wsX5_undo cX5_undo RX5 (some .int) 1) (hK : zKK G k A s s.heap) (hA : ∀ q : Nat, s.heap.size ≤ q → A q) (hret : zRI p l e rmX5_undo s m args below meth c cX5_undo G A 0 0 Q .int (zM ad k o.2.1 o.2.2.1 saved hist o.2.2.2 reason detail isSaved comes queue far isInText ahead roomAt rooms text length at_ errorPosition toldFrom toldTo isWrong before) o.1)  : ∀ (thrown : Int32) (now : Nat → Int32) (kept : Int32) (s0 : Int32) (s1 : Int32), fX5_undo_14  hist thrown now kept s0 s1 = some o → ∀ (H : Heap) (locs : List Loc) (ls : Array Slot), zWd G A s (zM ad k thrown now saved hist kept reason detail isSaved comes queue far isInText ahead roomAt rooms text length at_ errorPosition toldFrom toldTo isWrong before) H locs → lv_has ls 1 [(0, .ref (ad 0))] → W p l e rmX5_undo s m args below meth c H locs 0 0 Q (F0 m 14 ls [.int s0, .int s1, .ref (ad 0)]) := by
  obtain ⟨hx, hb, hr, hml, hown, hts, hlocks⟩ := id C0
  intro thrown now kept s0 s1 hF H locs ls hw hl
  unfold fX5_undo_14 at hF
  obtain ⟨u1, hq2, hF⟩ := zbd_t hF
  refine zgoIw (w' := (zM ad k u1.2 now saved hist kept reason detail isSaved comes queue far isInText ahead roomAt rooms text length at_ errorPosition toldFrom toldTo isWrong before)) hw hA (zVw (As := [.int s1, .int s0]) (rest := []) ⟨hx, hb, hml, hown, hts⟩ (mX5_fails l G k ad H.size thrown now saved hist kept reason detail isSaved comes queue far isInText ahead roomAt rooms text length at_ errorPosition toldFrom toldTo isWrong before s1 s0 u1 hq2) (cwV 2 hts gX5_undo_X5_fails rfl rfl rfl kdX5_fails ⟨Nat.le_of_ble_eq_true rfl, Nat.le_of_ble_eq_true rfl⟩) hK hA hw 0 rfl rfl rfl rfl hl.1 rfl (Nat.le_of_ble_eq_true rfl) dX5_undo_14 ⟨Nat.le_of_ble_eq_true rfl, Nat.le_of_ble_eq_true rfl⟩) (fun H locs hw => ?_)
  refine lv_if_eq (tgt := 22) hx hb dX5_undo_17 (by decide) (fun hc => ?_) (fun hc => ?_)
  · have hF := zif_t hc hF
    refine lv_aload_n hx hb dX5_undo_22 rfl (lv_at hl 0 rfl) ?_
    refine lv_dup hx hb dX5_undo_23 rfl ?_
    refine va_get (D := G) (ci := 4) (v := .int kept) (C := RX5) (T := TX5) (N := 23) hx hb hts inX5_undo_X5 hown hK.1 hw.1 0 rfl rfl 4 (by decide) (hts (.fieldLink RX5 60 "SealedBoardModel" "kept" "I") (by decide +kernel)) (fun _ h9 => h9) rfl dX5_undo_24 ?_
    refine lv_iconst (v := (1 : Int32)) hx hb dX5_undo_27 (by decide) ?_
    refine lv_isub hx hb dX5_undo_28 ?_
    refine va_put (D := G) (ci := 4) (v := .int (kept - (1 : Int32))) (ty := .int) (C := RX5) (T := TX5) (N := 23) hx hb hts inX5_undo_X5 tyX5 tyX5_ok nmX5 hown hK.1 hw.1 hw.2.1 hw.2.2 0 rfl rfl 4 (by decide) (hts (.fieldLink RX5 60 "SealedBoardModel" "kept" "I") (by decide +kernel)) (fun _ h9 => h9) rfl (by decide +kernel) rfl rfl (Nat.le_of_ble_eq_true rfl) dX5_undo_29 (fun H locs hP hD hS => ?_)
    have hw : zWd G A s (zM ad k u1.2 now saved hist (kept - (1 : Int32)) reason detail isSaved comes queue far isInText ahead roomAt rooms text length at_ errorPosition toldFrom toldTo isWrong before) H locs := ⟨hP, hD, hS⟩
    refine lv_aload_n hx hb dX5_undo_32 rfl (lv_at hl 0 rfl) ?_
    refine va_get (D := G) (ci := 4) (v := .ref (ad 3)) (C := RX5) (T := TX5) (N := 23) hx hb hts inX5_undo_X5 hown hK.1 hw.1 0 rfl rfl 3 (by decide) (hts (.fieldLink RX5 18 "SealedBoardModel" "history" "[[I") (by decide +kernel)) (fun _ h9 => h9) rfl dX5_undo_33 ?_
    refine lv_aload_n hx hb dX5_undo_36 rfl (lv_at hl 0 rfl) ?_
    refine va_get (D := G) (ci := 4) (v := .int (kept - (1 : Int32))) (C := RX5) (T := TX5) (N := 23) hx hb hts inX5_undo_X5 hown hK.1 hw.1 0 rfl rfl 4 (by decide) (hts (.fieldLink RX5 60 "SealedBoardModel" "kept" "I") (by decide +kernel)) (fun _ h9 => h9) rfl dX5_undo_37 ?_
    obtain ⟨hi3, hF⟩ := zck_in hF
    refine zhld hx hb hK.1 hw.1 hi3 dX5_undo_40 ?_
    refine lv_aload_n hx hb dX5_undo_41 rfl (lv_at hl 0 rfl) ?_
    refine va_get (D := G) (ci := 4) (v := .ref (ad 1)) (C := RX5) (T := TX5) (N := 23) hx hb hts inX5_undo_X5 hown hK.1 hw.1 0 rfl rfl 1 (by decide) (hts (.fieldLink RX5 9 "SealedBoardModel" "now" "[I") (by decide +kernel)) (fun _ h9 => h9) rfl dX5_undo_42 ?_
    obtain ⟨u4, hq5, hF⟩ := zbd_t hF
    refine zgoV (w' := (zM ad k u1.2 u4 saved hist (kept - (1 : Int32)) reason detail isSaved comes queue far isInText ahead roomAt rooms text length at_ errorPosition toldFrom toldTo isWrong before)) hw hA [11 + (kept - (1 : Int32)).toNatClampNeg, 1] (zM_hnow (ad := ad) (k := k) (thrown := u1.2) (now := now) (saved := saved) (hist := hist) (kept := (kept - (1 : Int32))) (reason := reason) (detail := detail) (isSaved := isSaved) (comes := comes) (queue := queue) (far := far) (isInText := isInText) (ahead := ahead) (roomAt := roomAt) (rooms := rooms) (text := text) (length := length) (at_ := at_) (errorPosition := errorPosition) (toldFrom := toldFrom) (toldTo := toldTo) (isWrong := isWrong) (before := before) (vp_lt hi3)).1 (zS (As := [.ref (ad (11 + (kept - (1 : Int32)).toNatClampNeg)), .ref (ad 1)]) (rest := []) ⟨hx, hb, hml, hown, hts⟩ (mX5_copyRow l G k (ad (11 + (kept - (1 : Int32)).toNatClampNeg)) (ad 1) H.size (hist ((kept - (1 : Int32)).toNatClampNeg)) now u4 hq5) (va_cwS 2 hts gX5_undo_X5_copyRow rfl rfl rfl kdX5_copyRow ⟨Nat.le_of_ble_eq_true rfl, Nat.le_of_ble_eq_true rfl⟩) hK hA hw [11 + (kept - (1 : Int32)).toNatClampNeg, 1] (zM_hnow (ad := ad) (k := k) (thrown := u1.2) (now := now) (saved := saved) (hist := hist) (kept := (kept - (1 : Int32))) (reason := reason) (detail := detail) (isSaved := isSaved) (comes := comes) (queue := queue) (far := far) (isInText := isInText) (ahead := ahead) (roomAt := roomAt) (rooms := rooms) (text := text) (length := length) (at_ := at_) (errorPosition := errorPosition) (toldFrom := toldFrom) (toldTo := toldTo) (isWrong := isWrong) (before := before) (vp_lt hi3)).1 (zM_hnow (ad := ad) (k := k) (thrown := u1.2) (now := now) (saved := saved) (hist := hist) (kept := (kept - (1 : Int32))) (reason := reason) (detail := detail) (isSaved := isSaved) (comes := comes) (queue := queue) (far := far) (isInText := isInText) (ahead := ahead) (roomAt := roomAt) (rooms := rooms) (text := text) (length := length) (at_ := at_) (errorPosition := errorPosition) (toldFrom := toldFrom) (toldTo := toldTo) (isWrong := isWrong) (before := before) (vp_lt hi3)).2.1 rfl hl.1 rfl (Nat.le_of_ble_eq_true rfl) dX5_undo_45 ⟨Nat.le_of_ble_eq_true rfl, Nat.le_of_ble_eq_true rfl⟩) rfl ((zM_hnow (ad := ad) (k := k) (thrown := u1.2) (now := now) (saved := saved) (hist := hist) (kept := (kept - (1 : Int32))) (reason := reason) (detail := detail) (isSaved := isSaved) (comes := comes) (queue := queue) (far := far) (isInText := isInText) (ahead := ahead) (roomAt := roomAt) (rooms := rooms) (text := text) (length := length) (at_ := at_) (errorPosition := errorPosition) (toldFrom := toldFrom) (toldTo := toldTo) (isWrong := isWrong) (before := before) (vp_lt hi3)).2.2.1 _) ((zM_hnow (ad := ad) (k := k) (thrown := u1.2) (now := now) (saved := saved) (hist := hist) (kept := (kept - (1 : Int32))) (reason := reason) (detail := detail) (isSaved := isSaved) (comes := comes) (queue := queue) (far := far) (isInText := isInText) (ahead := ahead) (roomAt := roomAt) (rooms := rooms) (text := text) (length := length) (at_ := at_) (errorPosition := errorPosition) (toldFrom := toldFrom) (toldTo := toldTo) (isWrong := isWrong) (before := before) (vp_lt hi3)).2.2.2 _) (fun H locs hw => ?_)
    refine lv_aload_n hx hb dX5_undo_48 rfl (lv_at hl 0 rfl) ?_
    refine va_get (D := G) (ci := 4) (v := .int (kept - (1 : Int32))) (C := RX5) (T := TX5) (N := 23) hx hb hts inX5_undo_X5 hown hK.1 hw.1 0 rfl rfl 4 (by decide) (hts (.fieldLink RX5 60 "SealedBoardModel" "kept" "I") (by decide +kernel)) (fun _ h9 => h9) rfl dX5_undo_49 ?_
    obtain rfl := Option.some.inj hF
    exact hret _ _ _ _ rfl hw dX5_undo_52
  · have hF := zif_f hc hF
    refine lv_iconst (v := (0 : Int32)) hx hb dX5_undo_20 (by decide) ?_
    obtain rfl := Option.some.inj hF
    exact hret _ _ _ _ rfl hw dX5_undo_21
set_option maxHeartbeats 400000 in
set_option maxRecDepth 100000 in
theorem mX5_undo (l : Launch) (G : va_G) (k : Nat → ClassId) (ad : Nat → Nat) (sz : Nat) (thrown : Int32) (now : Nat → Int32) (saved : Nat → Int32) (hist : Nat → Nat → Int32) (kept : Int32) (reason : Int32) (detail : Int32) (isSaved : Int32) (comes : Nat → Int32) (queue : Nat → Int32) (far : Nat → Int32) (isInText : Int32) (ahead : Nat → Int32) (roomAt : Nat → Int32) (rooms : Int32) (text : Nat → Int32) (length : Int32) (at_ : Int32) (errorPosition : Int32) (toldFrom : Int32) (toldTo : Int32) (isWrong : Int32) (before : Nat → Int32)  (o : Int32 × Int32 × (Nat → Int32) × Int32) (hF : fX5_undo thrown now hist kept = some o) : zMI l yX5_undo wsX5_undo rmX5_undo G k (zM ad k thrown now saved hist kept reason detail isSaved comes queue far isInText ahead roomAt rooms text length at_ errorPosition toldFrom toldTo isWrong before) sz [.ref (ad 0)] o.1 (zM ad k o.2.1 o.2.2.1 saved hist o.2.2.2 reason detail isSaved comes queue far isInText ahead roomAt rooms text length at_ errorPosition toldFrom toldTo isWrong before) := by
  refine zof_I (cc := cX5_undo) (nL := 1) (own := RX5) (rt := .int) (by decide) rfl rfl (Nat.le_of_ble_eq_true rfl) ?_
  intro p e s m args below meth c A Q C0 hK hA hret ls hl hw
  have hl : lv_has ls 1 [(0, .ref (ad 0))] := hl
  obtain ⟨hx, hb, hr, hml, hown, hts, hlocks⟩ := id C0
  obtain ⟨H, hH⟩ : ∃ z, z = s.heap := ⟨_, rfl⟩
  rw [← hH] at hw ⊢
  unfold fX5_undo at hF
  refine lv_aload_n hx hb dX5_undo_0 rfl (lv_at hl 0 rfl) ?_
  refine lv_iconst (v := (1 : Int32)) hx hb dX5_undo_1 (by decide) ?_
  refine lv_aload_n hx hb dX5_undo_2 rfl (lv_at hl 0 rfl) ?_
  refine va_get (D := G) (ci := 4) (v := .int kept) (C := RX5) (T := TX5) (N := 23) hx hb hts inX5_undo_X5 hown hK.1 hw.1 0 rfl rfl 4 (by decide) (hts (.fieldLink RX5 60 "SealedBoardModel" "kept" "I") (by decide +kernel)) (fun _ h9 => h9) rfl dX5_undo_3 ?_
  refine lv_if_ne (tgt := 13) hx hb dX5_undo_6 (by decide) (fun hc => ?_) (fun hc => ?_)
  · have hF := zif_f hc hF
    refine lv_iconst (v := (0 : Int32)) hx hb dX5_undo_13 (by decide) ?_
    exact wX5_undo_14 C0 hK hA hret   _ _ _ _ _ hF _ _ _ hw (lv_sub hl [0] rfl)
  · have hF := zif_t hc hF
    refine lv_iconst (v := (1 : Int32)) hx hb dX5_undo_9 (by decide) ?_
    refine lv_goto (tgt := 14) hx hb dX5_undo_10 (by decide) ?_
    exact wX5_undo_14 C0 hK hA hret   _ _ _ _ _ hF _ _ _ hw (lv_sub hl [0] rfl)

/-! SealedBoardModel.save()I -/
abbrev rmX5_save : Room := { frames := 4, cells := 0, slots := 0, locals := 85 }
theorem kdX5_save : yX5_save.cls = RX5 ∧ yX5_save.cls ≠ "java/lang/invoke/MethodHandle" ∧ yX5_save.cls ≠ "java/lang/invoke/VarHandle" ∧ (parseMethodDescriptor yX5_save.desc).map (fun d => d.parameters.length) = some 0 := by decide +kernel
theorem inX5_save_X5 : ∀ w ∈ u_ws RX5 TX5 23, w ∈ wsX5_save := by decide +kernel
def fX5_save (thrown : Int32) (now : Nat → Int32) (saved : Nat → Int32) (isSaved : Int32) : Option (Int32 × Int32 × (Nat → Int32) × Int32) := (zbd (fX5_copyRow now saved) (fun u1 => (zbd (fX5_allPieces now) (fun u3 => (some (u3, (0 : Int32), u1, (1 : Int32)))))))
set_option maxHeartbeats 400000 in
set_option maxRecDepth 100000 in
theorem mX5_save (l : Launch) (G : va_G) (k : Nat → ClassId) (ad : Nat → Nat) (sz : Nat) (thrown : Int32) (now : Nat → Int32) (saved : Nat → Int32) (hist : Nat → Nat → Int32) (kept : Int32) (reason : Int32) (detail : Int32) (isSaved : Int32) (comes : Nat → Int32) (queue : Nat → Int32) (far : Nat → Int32) (isInText : Int32) (ahead : Nat → Int32) (roomAt : Nat → Int32) (rooms : Int32) (text : Nat → Int32) (length : Int32) (at_ : Int32) (errorPosition : Int32) (toldFrom : Int32) (toldTo : Int32) (isWrong : Int32) (before : Nat → Int32)  (o : Int32 × Int32 × (Nat → Int32) × Int32) (hF : fX5_save thrown now saved isSaved = some o) : zMI l yX5_save wsX5_save rmX5_save G k (zM ad k thrown now saved hist kept reason detail isSaved comes queue far isInText ahead roomAt rooms text length at_ errorPosition toldFrom toldTo isWrong before) sz [.ref (ad 0)] o.1 (zM ad k o.2.1 now o.2.2.1 hist kept reason detail o.2.2.2 comes queue far isInText ahead roomAt rooms text length at_ errorPosition toldFrom toldTo isWrong before) := by
  refine zof_I (cc := cX5_save) (nL := 1) (own := RX5) (rt := .int) (by decide) rfl rfl (Nat.le_of_ble_eq_true rfl) ?_
  intro p e s m args below meth c A Q C0 hK hA hret ls hl hw
  have hl : lv_has ls 1 [(0, .ref (ad 0))] := hl
  obtain ⟨hx, hb, hr, hml, hown, hts, hlocks⟩ := id C0
  obtain ⟨H, hH⟩ : ∃ z, z = s.heap := ⟨_, rfl⟩
  rw [← hH] at hw ⊢
  unfold fX5_save at hF
  refine lv_aload_n hx hb dX5_save_0 rfl (lv_at hl 0 rfl) ?_
  refine lv_iconst (v := (0 : Int32)) hx hb dX5_save_1 (by decide) ?_
  refine va_put (D := G) (ci := 4) (v := .int (0 : Int32)) (ty := .int) (C := RX5) (T := TX5) (N := 23) hx hb hts inX5_save_X5 tyX5 tyX5_ok nmX5 hown hK.1 hw.1 hw.2.1 hw.2.2 0 rfl rfl 0 (by decide) (hts (.fieldLink RX5 51 "SealedBoardModel" "thrown" "I") (by decide +kernel)) (fun _ h9 => h9) rfl (by decide +kernel) rfl rfl (Nat.le_of_ble_eq_true rfl) dX5_save_2 (fun H locs hP hD hS => ?_)
  have hw : zWd G A s (zM ad k (0 : Int32) now saved hist kept reason detail isSaved comes queue far isInText ahead roomAt rooms text length at_ errorPosition toldFrom toldTo isWrong before) H locs := ⟨hP, hD, hS⟩
  refine lv_aload_n hx hb dX5_save_5 rfl (lv_at hl 0 rfl) ?_
  refine lv_iconst (v := (1 : Int32)) hx hb dX5_save_6 (by decide) ?_
  refine va_put (D := G) (ci := 4) (v := .int (1 : Int32)) (ty := .boolean) (C := RX5) (T := TX5) (N := 23) hx hb hts inX5_save_X5 tyX5 tyX5_ok nmX5 hown hK.1 hw.1 hw.2.1 hw.2.2 0 rfl rfl 7 (by decide) (hts (.fieldLink RX5 293 "SealedBoardModel" "isSaved" "Z") (by decide +kernel)) (fun _ h9 => h9) rfl (by decide +kernel) rfl rfl (Nat.le_of_ble_eq_true rfl) dX5_save_7 (fun H locs hP hD hS => ?_)
  have hw : zWd G A s (zM ad k (0 : Int32) now saved hist kept reason detail (1 : Int32) comes queue far isInText ahead roomAt rooms text length at_ errorPosition toldFrom toldTo isWrong before) H locs := ⟨hP, hD, hS⟩
  refine lv_aload_n hx hb dX5_save_10 rfl (lv_at hl 0 rfl) ?_
  refine va_get (D := G) (ci := 4) (v := .ref (ad 1)) (C := RX5) (T := TX5) (N := 23) hx hb hts inX5_save_X5 hown hK.1 hw.1 0 rfl rfl 1 (by decide) (hts (.fieldLink RX5 9 "SealedBoardModel" "now" "[I") (by decide +kernel)) (fun _ h9 => h9) rfl dX5_save_11 ?_
  refine lv_aload_n hx hb dX5_save_14 rfl (lv_at hl 0 rfl) ?_
  refine va_get (D := G) (ci := 4) (v := .ref (ad 2)) (C := RX5) (T := TX5) (N := 23) hx hb hts inX5_save_X5 hown hK.1 hw.1 0 rfl rfl 2 (by decide) (hts (.fieldLink RX5 13 "SealedBoardModel" "saved" "[I") (by decide +kernel)) (fun _ h9 => h9) rfl dX5_save_15 ?_
  obtain ⟨u1, hq2, hF⟩ := zbd_t hF
  refine zgoV (w' := (zM ad k (0 : Int32) now u1 hist kept reason detail (1 : Int32) comes queue far isInText ahead roomAt rooms text length at_ errorPosition toldFrom toldTo isWrong before)) hw hA [1, 2] rfl (zS (As := [.ref (ad 1), .ref (ad 2)]) (rest := []) ⟨hx, hb, hml, hown, hts⟩ (mX5_copyRow l G k (ad 1) (ad 2) H.size now saved  u1 hq2) (va_cwS 2 hts gX5_save_X5_copyRow rfl rfl rfl kdX5_copyRow ⟨Nat.le_of_ble_eq_true rfl, Nat.le_of_ble_eq_true rfl⟩) hK hA hw [1, 2] rfl (by decide) rfl hl.1 rfl (Nat.le_of_ble_eq_true rfl) dX5_save_18 ⟨Nat.le_of_ble_eq_true rfl, Nat.le_of_ble_eq_true rfl⟩) rfl rfl rfl (fun H locs hw => ?_)
  refine lv_aload_n hx hb dX5_save_21 rfl (lv_at hl 0 rfl) ?_
  obtain ⟨u3, hq4, hF⟩ := zbd_t hF
  refine zgoIw (w' := (zM ad k (0 : Int32) now u1 hist kept reason detail (1 : Int32) comes queue far isInText ahead roomAt rooms text length at_ errorPosition toldFrom toldTo isWrong before)) hw hA (zVw (As := []) (rest := []) ⟨hx, hb, hml, hown, hts⟩ (mX5_allPieces l G k ad H.size (0 : Int32) now u1 hist kept reason detail (1 : Int32) comes queue far isInText ahead roomAt rooms text length at_ errorPosition toldFrom toldTo isWrong before  u3 hq4) (cwV 0 hts gX5_save_X5_allPieces rfl rfl rfl kdX5_allPieces ⟨Nat.le_of_ble_eq_true rfl, Nat.le_of_ble_eq_true rfl⟩) hK hA hw 0 rfl rfl rfl rfl hl.1 rfl (Nat.le_of_ble_eq_true rfl) dX5_save_22 ⟨Nat.le_of_ble_eq_true rfl, Nat.le_of_ble_eq_true rfl⟩) (fun H locs hw => ?_)
  obtain rfl := Option.some.inj hF
  exact hret _ _ _ _ rfl hw dX5_save_25

/-! SealedBoardModel.restore()I -/
abbrev rmX5_restore : Room := { frames := 4, cells := 0, slots := 0, locals := 85 }
theorem kdX5_restore : yX5_restore.cls = RX5 ∧ yX5_restore.cls ≠ "java/lang/invoke/MethodHandle" ∧ yX5_restore.cls ≠ "java/lang/invoke/VarHandle" ∧ (parseMethodDescriptor yX5_restore.desc).map (fun d => d.parameters.length) = some 0 := by decide +kernel
theorem inX5_restore_X5 : ∀ w ∈ u_ws RX5 TX5 23, w ∈ wsX5_restore := by decide +kernel
def fX5_restore_14  (saved : Nat → Int32) (isSaved : Int32) (thrown : Int32) (now : Nat → Int32) (kept : Int32) (s0 : Int32) (s1 : Int32) : Option (Int32 × Int32 × (Nat → Int32) × Int32) := (zbd (fX5_fails thrown s1 s0) (fun u1 => (if u1.1 = 0 then (zbd (fX5_copyRow saved now) (fun u3 => (zbd (fX5_allPieces u3) (fun u5 => (some (u5, u1.2, u3, (0 : Int32))))))) else (some ((0 : Int32), u1.2, now, kept)))))
def fX5_restore (thrown : Int32) (now : Nat → Int32) (saved : Nat → Int32) (kept : Int32) (isSaved : Int32) : Option (Int32 × Int32 × (Nat → Int32) × Int32) := (if isSaved = 0 then (fX5_restore_14  saved isSaved  thrown now kept (1 : Int32) (1 : Int32)) else (fX5_restore_14  saved isSaved  thrown now kept (0 : Int32) (1 : Int32)))
set_option maxHeartbeats 400000 in
set_option maxRecDepth 100000 in
theorem wX5_restore_14 {p : Program} {l : Launch} {e : Env} {s : State} {m : MethodId} {args : Array Value} {below : List Frame} {meth : Method} {c : Code} {A : Nat → Prop} {Q : State → Prop} {G : va_G} {k : Nat → ClassId} {ad : Nat → Nat} {saved : Nat → Int32} {hist : Nat → Nat → Int32} {reason : Int32} {detail : Int32} {isSaved : Int32} {comes : Nat → Int32} {queue : Nat → Int32} {far : Nat → Int32} {isInText : Int32} {ahead : Nat → Int32} {roomAt : Nat → Int32} {rooms : Int32} {text : Nat → Int32} {length : Int32} {at_ : Int32} {errorPosition : Int32} {toldFrom : Int32} {toldTo : Int32} {isWrong : Int32} {before : Nat → Int32} {o : Int32 × Int32 × (Nat → Int32) × Int32} (C0 : zCx p s m args meth c wsX5_restore cX5_restore RX5 (some .int) 1) (hK : zKK G k A s s.heap) (hA : ∀ q : Nat, s.heap.size ≤ q → A q) (hret : zRI p l e rmX5_restore s m args below meth c cX5_restore G A 0 0 Q .int (zM ad k o.2.1 o.2.2.1 saved hist o.2.2.2 reason detail isSaved comes queue far isInText ahead roomAt rooms text length at_ errorPosition toldFrom toldTo isWrong before) o.1)  : ∀ (thrown : Int32) (now : Nat → Int32) (kept : Int32) (s0 : Int32) (s1 : Int32), fX5_restore_14  saved isSaved thrown now kept s0 s1 = some o → ∀ (H : Heap) (locs : List Loc) (ls : Array Slot), zWd G A s (zM ad k thrown now saved hist kept reason detail isSaved comes queue far isInText ahead roomAt rooms text length at_ errorPosition toldFrom toldTo isWrong before) H locs → lv_has ls 1 [(0, .ref (ad 0))] → W p l e rmX5_restore s m args below meth c H locs 0 0 Q (F0 m 14 ls [.int s0, .int s1, .ref (ad 0)]) := by
  obtain ⟨hx, hb, hr, hml, hown, hts, hlocks⟩ := id C0
  intro thrown now kept s0 s1 hF H locs ls hw hl
  unfold fX5_restore_14 at hF
  obtain ⟨u1, hq2, hF⟩ := zbd_t hF
  refine zgoIw (w' := (zM ad k u1.2 now saved hist kept reason detail isSaved comes queue far isInText ahead roomAt rooms text length at_ errorPosition toldFrom toldTo isWrong before)) hw hA (zVw (As := [.int s1, .int s0]) (rest := []) ⟨hx, hb, hml, hown, hts⟩ (mX5_fails l G k ad H.size thrown now saved hist kept reason detail isSaved comes queue far isInText ahead roomAt rooms text length at_ errorPosition toldFrom toldTo isWrong before s1 s0 u1 hq2) (cwV 2 hts gX5_restore_X5_fails rfl rfl rfl kdX5_fails ⟨Nat.le_of_ble_eq_true rfl, Nat.le_of_ble_eq_true rfl⟩) hK hA hw 0 rfl rfl rfl rfl hl.1 rfl (Nat.le_of_ble_eq_true rfl) dX5_restore_14 ⟨Nat.le_of_ble_eq_true rfl, Nat.le_of_ble_eq_true rfl⟩) (fun H locs hw => ?_)
  refine lv_if_eq (tgt := 22) hx hb dX5_restore_17 (by decide) (fun hc => ?_) (fun hc => ?_)
  · have hF := zif_t hc hF
    refine lv_aload_n hx hb dX5_restore_22 rfl (lv_at hl 0 rfl) ?_
    refine va_get (D := G) (ci := 4) (v := .ref (ad 2)) (C := RX5) (T := TX5) (N := 23) hx hb hts inX5_restore_X5 hown hK.1 hw.1 0 rfl rfl 2 (by decide) (hts (.fieldLink RX5 13 "SealedBoardModel" "saved" "[I") (by decide +kernel)) (fun _ h9 => h9) rfl dX5_restore_23 ?_
    refine lv_aload_n hx hb dX5_restore_26 rfl (lv_at hl 0 rfl) ?_
    refine va_get (D := G) (ci := 4) (v := .ref (ad 1)) (C := RX5) (T := TX5) (N := 23) hx hb hts inX5_restore_X5 hown hK.1 hw.1 0 rfl rfl 1 (by decide) (hts (.fieldLink RX5 9 "SealedBoardModel" "now" "[I") (by decide +kernel)) (fun _ h9 => h9) rfl dX5_restore_27 ?_
    obtain ⟨u3, hq4, hF⟩ := zbd_t hF
    refine zgoV (w' := (zM ad k u1.2 u3 saved hist kept reason detail isSaved comes queue far isInText ahead roomAt rooms text length at_ errorPosition toldFrom toldTo isWrong before)) hw hA [2, 1] rfl (zS (As := [.ref (ad 2), .ref (ad 1)]) (rest := []) ⟨hx, hb, hml, hown, hts⟩ (mX5_copyRow l G k (ad 2) (ad 1) H.size saved now  u3 hq4) (va_cwS 2 hts gX5_restore_X5_copyRow rfl rfl rfl kdX5_copyRow ⟨Nat.le_of_ble_eq_true rfl, Nat.le_of_ble_eq_true rfl⟩) hK hA hw [2, 1] rfl (by decide) rfl hl.1 rfl (Nat.le_of_ble_eq_true rfl) dX5_restore_30 ⟨Nat.le_of_ble_eq_true rfl, Nat.le_of_ble_eq_true rfl⟩) rfl rfl rfl (fun H locs hw => ?_)
    refine lv_aload_n hx hb dX5_restore_33 rfl (lv_at hl 0 rfl) ?_
    refine lv_iconst (v := (0 : Int32)) hx hb dX5_restore_34 (by decide) ?_
    refine va_put (D := G) (ci := 4) (v := .int (0 : Int32)) (ty := .int) (C := RX5) (T := TX5) (N := 23) hx hb hts inX5_restore_X5 tyX5 tyX5_ok nmX5 hown hK.1 hw.1 hw.2.1 hw.2.2 0 rfl rfl 4 (by decide) (hts (.fieldLink RX5 60 "SealedBoardModel" "kept" "I") (by decide +kernel)) (fun _ h9 => h9) rfl (by decide +kernel) rfl rfl (Nat.le_of_ble_eq_true rfl) dX5_restore_35 (fun H locs hP hD hS => ?_)
    have hw : zWd G A s (zM ad k u1.2 u3 saved hist (0 : Int32) reason detail isSaved comes queue far isInText ahead roomAt rooms text length at_ errorPosition toldFrom toldTo isWrong before) H locs := ⟨hP, hD, hS⟩
    refine lv_aload_n hx hb dX5_restore_38 rfl (lv_at hl 0 rfl) ?_
    obtain ⟨u5, hq6, hF⟩ := zbd_t hF
    refine zgoIw (w' := (zM ad k u1.2 u3 saved hist (0 : Int32) reason detail isSaved comes queue far isInText ahead roomAt rooms text length at_ errorPosition toldFrom toldTo isWrong before)) hw hA (zVw (As := []) (rest := []) ⟨hx, hb, hml, hown, hts⟩ (mX5_allPieces l G k ad H.size u1.2 u3 saved hist (0 : Int32) reason detail isSaved comes queue far isInText ahead roomAt rooms text length at_ errorPosition toldFrom toldTo isWrong before  u5 hq6) (cwV 0 hts gX5_restore_X5_allPieces rfl rfl rfl kdX5_allPieces ⟨Nat.le_of_ble_eq_true rfl, Nat.le_of_ble_eq_true rfl⟩) hK hA hw 0 rfl rfl rfl rfl hl.1 rfl (Nat.le_of_ble_eq_true rfl) dX5_restore_39 ⟨Nat.le_of_ble_eq_true rfl, Nat.le_of_ble_eq_true rfl⟩) (fun H locs hw => ?_)
    obtain rfl := Option.some.inj hF
    exact hret _ _ _ _ rfl hw dX5_restore_42
  · have hF := zif_f hc hF
    refine lv_iconst (v := (0 : Int32)) hx hb dX5_restore_20 (by decide) ?_
    obtain rfl := Option.some.inj hF
    exact hret _ _ _ _ rfl hw dX5_restore_21
set_option maxHeartbeats 400000 in
set_option maxRecDepth 100000 in
theorem mX5_restore (l : Launch) (G : va_G) (k : Nat → ClassId) (ad : Nat → Nat) (sz : Nat) (thrown : Int32) (now : Nat → Int32) (saved : Nat → Int32) (hist : Nat → Nat → Int32) (kept : Int32) (reason : Int32) (detail : Int32) (isSaved : Int32) (comes : Nat → Int32) (queue : Nat → Int32) (far : Nat → Int32) (isInText : Int32) (ahead : Nat → Int32) (roomAt : Nat → Int32) (rooms : Int32) (text : Nat → Int32) (length : Int32) (at_ : Int32) (errorPosition : Int32) (toldFrom : Int32) (toldTo : Int32) (isWrong : Int32) (before : Nat → Int32)  (o : Int32 × Int32 × (Nat → Int32) × Int32) (hF : fX5_restore thrown now saved kept isSaved = some o) : zMI l yX5_restore wsX5_restore rmX5_restore G k (zM ad k thrown now saved hist kept reason detail isSaved comes queue far isInText ahead roomAt rooms text length at_ errorPosition toldFrom toldTo isWrong before) sz [.ref (ad 0)] o.1 (zM ad k o.2.1 o.2.2.1 saved hist o.2.2.2 reason detail isSaved comes queue far isInText ahead roomAt rooms text length at_ errorPosition toldFrom toldTo isWrong before) := by
  refine zof_I (cc := cX5_restore) (nL := 1) (own := RX5) (rt := .int) (by decide) rfl rfl (Nat.le_of_ble_eq_true rfl) ?_
  intro p e s m args below meth c A Q C0 hK hA hret ls hl hw
  have hl : lv_has ls 1 [(0, .ref (ad 0))] := hl
  obtain ⟨hx, hb, hr, hml, hown, hts, hlocks⟩ := id C0
  obtain ⟨H, hH⟩ : ∃ z, z = s.heap := ⟨_, rfl⟩
  rw [← hH] at hw ⊢
  unfold fX5_restore at hF
  refine lv_aload_n hx hb dX5_restore_0 rfl (lv_at hl 0 rfl) ?_
  refine lv_iconst (v := (1 : Int32)) hx hb dX5_restore_1 (by decide) ?_
  refine lv_aload_n hx hb dX5_restore_2 rfl (lv_at hl 0 rfl) ?_
  refine va_get (D := G) (ci := 4) (v := .int isSaved) (C := RX5) (T := TX5) (N := 23) hx hb hts inX5_restore_X5 hown hK.1 hw.1 0 rfl rfl 7 (by decide) (hts (.fieldLink RX5 293 "SealedBoardModel" "isSaved" "Z") (by decide +kernel)) (fun _ h9 => h9) rfl dX5_restore_3 ?_
  refine lv_if_ne (tgt := 13) hx hb dX5_restore_6 (by decide) (fun hc => ?_) (fun hc => ?_)
  · have hF := zif_f hc hF
    refine lv_iconst (v := (0 : Int32)) hx hb dX5_restore_13 (by decide) ?_
    exact wX5_restore_14 C0 hK hA hret   _ _ _ _ _ hF _ _ _ hw (lv_sub hl [0] rfl)
  · have hF := zif_t hc hF
    refine lv_iconst (v := (1 : Int32)) hx hb dX5_restore_9 (by decide) ?_
    refine lv_goto (tgt := 14) hx hb dX5_restore_10 (by decide) ?_
    exact wX5_restore_14 C0 hK hA hret   _ _ _ _ _ hF _ _ _ hw (lv_sub hl [0] rfl)

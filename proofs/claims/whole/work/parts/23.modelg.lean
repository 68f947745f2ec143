/-! SealedBoardModel.append(C)I -/
abbrev rmX5_append : Room := { frames := 1, cells := 0, slots := 0, locals := 22 }
theorem kdX5_append : yX5_append.cls = RX5 ∧ yX5_append.cls ≠ "java/lang/invoke/MethodHandle" ∧ yX5_append.cls ≠ "java/lang/invoke/VarHandle" ∧ (parseMethodDescriptor yX5_append.desc).map (fun d => d.parameters.length) = some 1 := by decide +kernel
theorem inX5_append_X5 : ∀ w ∈ u_ws RX5 TX5 23, w ∈ wsX5_append := by decide +kernel
def fX5_append_40   (thrown : Int32) (text : Nat → Int32) (length : Int32) (x1 : Int32) (s0 : Int32) (s1 : Int32) : Option (Int32 × Int32 × (Nat → Int32) × Int32) := (zbd (fX5_fails thrown s1 s0) (fun u1 => (if u1.1 = 0 then (zck (zin length 60) (some ((length + (1 : Int32)), u1.2, (upd text length.toNatClampNeg (vp_nar .char x1)), (length + (1 : Int32))))) else (some ((0 : Int32), u1.2, text, length)))))
def fX5_append_18   (thrown : Int32) (text : Nat → Int32) (length : Int32) (x1 : Int32) (s0 : Int32) (s1 : Int32) : Option (Int32 × Int32 × (Nat → Int32) × Int32) := (zbd (fX5_fails thrown s1 s0) (fun u1 => (if u1.1 = 0 then (if length = (60 : Int32) then (fX5_append_40    u1.2 text length x1 (1 : Int32) (2 : Int32)) else (fX5_append_40    u1.2 text length x1 (0 : Int32) (2 : Int32))) else (some ((0 : Int32), u1.2, text, length)))))
def fX5_append (thrown : Int32) (text : Nat → Int32) (length : Int32) (p0 : Int32) : Option (Int32 × Int32 × (Nat → Int32) × Int32) := (zbd (fX5_isBetween p0 (32 : Int32) (126 : Int32)) (fun u1 => (if u1 = 0 then (fX5_append_18    thrown text length p0 (1 : Int32) (1 : Int32)) else (fX5_append_18    thrown text length p0 (0 : Int32) (1 : Int32)))))
set_option maxHeartbeats 400000 in
set_option maxRecDepth 100000 in
theorem wX5_append_40 {p : Program} {l : Launch} {e : Env} {s : State} {m : MethodId} {args : Array Value} {below : List Frame} {meth : Method} {c : Code} {A : Nat → Prop} {Q : State → Prop} {G : va_G} {k : Nat → ClassId} {ad : Nat → Nat} {now : Nat → Int32} {saved : Nat → Int32} {hist : Nat → Nat → Int32} {kept : Int32} {reason : Int32} {detail : Int32} {isSaved : Int32} {comes : Nat → Int32} {queue : Nat → Int32} {far : Nat → Int32} {isInText : Int32} {ahead : Nat → Int32} {roomAt : Nat → Int32} {rooms : Int32} {at_ : Int32} {errorPosition : Int32} {toldFrom : Int32} {toldTo : Int32} {isWrong : Int32} {before : Nat → Int32} {o : Int32 × Int32 × (Nat → Int32) × Int32} (C0 : zCx p s m args meth c wsX5_append cX5_append RX5 (some .int) 2) (hK : zKK G k A s s.heap) (hA : ∀ q : Nat, s.heap.size ≤ q → A q) (hret : zRI p l e rmX5_append s m args below meth c cX5_append G A 0 0 Q .int (zM ad k o.2.1 now saved hist kept reason detail isSaved comes queue far isInText ahead roomAt rooms o.2.2.1 o.2.2.2 at_ errorPosition toldFrom toldTo isWrong before) o.1)  : ∀ (thrown : Int32) (text : Nat → Int32) (length : Int32) (x1 : Int32) (s0 : Int32) (s1 : Int32), fX5_append_40   thrown text length x1 s0 s1 = some o → ∀ (H : Heap) (locs : List Loc) (ls : Array Slot), zWd G A s (zM ad k thrown now saved hist kept reason detail isSaved comes queue far isInText ahead roomAt rooms text length at_ errorPosition toldFrom toldTo isWrong before) H locs → lv_has ls 2 [(0, .ref (ad 0)), (1, .int x1)] → W p l e rmX5_append s m args below meth c H locs 0 0 Q (F0 m 40 ls [.int s0, .int s1, .ref (ad 0)]) := by
  obtain ⟨hx, hb, hr, hml, hown, hts, hlocks⟩ := id C0
  intro thrown text length x1 s0 s1 hF H locs ls hw hl
  unfold fX5_append_40 at hF
  obtain ⟨u1, hq2, hF⟩ := zbd_t hF
  refine zgoIw (w' := (zM ad k u1.2 now saved hist kept reason detail isSaved comes queue far isInText ahead roomAt rooms text length at_ errorPosition toldFrom toldTo isWrong before)) hw hA (zVw (As := [.int s1, .int s0]) (rest := []) ⟨hx, hb, hml, hown, hts⟩ (mX5_fails l G k ad H.size thrown now saved hist kept reason detail isSaved comes queue far isInText ahead roomAt rooms text length at_ errorPosition toldFrom toldTo isWrong before s1 s0 u1 hq2) (cwV 2 hts gX5_append_X5_fails rfl rfl rfl kdX5_fails ⟨Nat.le_of_ble_eq_true rfl, Nat.le_of_ble_eq_true rfl⟩) hK hA hw 0 rfl rfl rfl rfl hl.1 rfl (Nat.le_of_ble_eq_true rfl) dX5_append_40 ⟨Nat.le_of_ble_eq_true rfl, Nat.le_of_ble_eq_true rfl⟩) (fun H locs hw => ?_)
  refine lv_if_eq (tgt := 48) hx hb dX5_append_43 (by decide) (fun hc => ?_) (fun hc => ?_)
  · have hF := zif_t hc hF
    refine lv_aload_n hx hb dX5_append_48 rfl (lv_at hl 0 rfl) ?_
    refine va_get (D := G) (ci := 4) (v := .ref (ad 9)) (C := RX5) (T := TX5) (N := 23) hx hb hts inX5_append_X5 hown hK.1 hw.1 0 rfl rfl 15 (by decide) (hts (.fieldLink RX5 37 "SealedBoardModel" "text" "[C") (by decide +kernel)) (fun _ h9 => h9) rfl dX5_append_49 ?_
    refine lv_aload_n hx hb dX5_append_52 rfl (lv_at hl 0 rfl) ?_
    refine va_get (D := G) (ci := 4) (v := .int length) (C := RX5) (T := TX5) (N := 23) hx hb hts inX5_append_X5 hown hK.1 hw.1 0 rfl rfl 16 (by decide) (hts (.fieldLink RX5 234 "SealedBoardModel" "length" "I") (by decide +kernel)) (fun _ h9 => h9) rfl dX5_append_53 ?_
    refine lv_iload_n hx hb dX5_append_56 rfl (lv_at hl 1 rfl) ?_
    obtain ⟨hi3, hF⟩ := zck_in hF
    refine va_cast hx hb hK.1 hw.1 hw.2.1 hw.2.2 9 1 rfl rfl hi3 dX5_append_57 (fun H locs hP hD hS => ?_)
    have hw : zWd G A s (zM ad k u1.2 now saved hist kept reason detail isSaved comes queue far isInText ahead roomAt rooms (upd text length.toNatClampNeg (vp_nar .char x1)) length at_ errorPosition toldFrom toldTo isWrong before) H locs := ⟨hP, hD, hS⟩
    refine lv_aload_n hx hb dX5_append_58 rfl (lv_at hl 0 rfl) ?_
    refine lv_dup hx hb dX5_append_59 rfl ?_
    refine va_get (D := G) (ci := 4) (v := .int length) (C := RX5) (T := TX5) (N := 23) hx hb hts inX5_append_X5 hown hK.1 hw.1 0 rfl rfl 16 (by decide) (hts (.fieldLink RX5 234 "SealedBoardModel" "length" "I") (by decide +kernel)) (fun _ h9 => h9) rfl dX5_append_60 ?_
    refine lv_iconst (v := (1 : Int32)) hx hb dX5_append_63 (by decide) ?_
    refine lv_iadd hx hb dX5_append_64 ?_
    refine va_put (D := G) (ci := 4) (v := .int (length + (1 : Int32))) (ty := .int) (C := RX5) (T := TX5) (N := 23) hx hb hts inX5_append_X5 tyX5 tyX5_ok nmX5 hown hK.1 hw.1 hw.2.1 hw.2.2 0 rfl rfl 16 (by decide) (hts (.fieldLink RX5 234 "SealedBoardModel" "length" "I") (by decide +kernel)) (fun _ h9 => h9) rfl (by decide +kernel) rfl rfl (Nat.le_of_ble_eq_true rfl) dX5_append_65 (fun H locs hP hD hS => ?_)
    have hw : zWd G A s (zM ad k u1.2 now saved hist kept reason detail isSaved comes queue far isInText ahead roomAt rooms (upd text length.toNatClampNeg (vp_nar .char x1)) (length + (1 : Int32)) at_ errorPosition toldFrom toldTo isWrong before) H locs := ⟨hP, hD, hS⟩
    refine lv_aload_n hx hb dX5_append_68 rfl (lv_at hl 0 rfl) ?_
    refine va_get (D := G) (ci := 4) (v := .int (length + (1 : Int32))) (C := RX5) (T := TX5) (N := 23) hx hb hts inX5_append_X5 hown hK.1 hw.1 0 rfl rfl 16 (by decide) (hts (.fieldLink RX5 234 "SealedBoardModel" "length" "I") (by decide +kernel)) (fun _ h9 => h9) rfl dX5_append_69 ?_
    obtain rfl := Option.some.inj hF
    exact hret _ _ _ _ rfl hw dX5_append_72
  · have hF := zif_f hc hF
    refine lv_iconst (v := (0 : Int32)) hx hb dX5_append_46 (by decide) ?_
    obtain rfl := Option.some.inj hF
    exact hret _ _ _ _ rfl hw dX5_append_47
set_option maxHeartbeats 400000 in
set_option maxRecDepth 100000 in
theorem wX5_append_18 {p : Program} {l : Launch} {e : Env} {s : State} {m : MethodId} {args : Array Value} {below : List Frame} {meth : Method} {c : Code} {A : Nat → Prop} {Q : State → Prop} {G : va_G} {k : Nat → ClassId} {ad : Nat → Nat} {now : Nat → Int32} {saved : Nat → Int32} {hist : Nat → Nat → Int32} {kept : Int32} {reason : Int32} {detail : Int32} {isSaved : Int32} {comes : Nat → Int32} {queue : Nat → Int32} {far : Nat → Int32} {isInText : Int32} {ahead : Nat → Int32} {roomAt : Nat → Int32} {rooms : Int32} {at_ : Int32} {errorPosition : Int32} {toldFrom : Int32} {toldTo : Int32} {isWrong : Int32} {before : Nat → Int32} {o : Int32 × Int32 × (Nat → Int32) × Int32} (C0 : zCx p s m args meth c wsX5_append cX5_append RX5 (some .int) 2) (hK : zKK G k A s s.heap) (hA : ∀ q : Nat, s.heap.size ≤ q → A q) (hret : zRI p l e rmX5_append s m args below meth c cX5_append G A 0 0 Q .int (zM ad k o.2.1 now saved hist kept reason detail isSaved comes queue far isInText ahead roomAt rooms o.2.2.1 o.2.2.2 at_ errorPosition toldFrom toldTo isWrong before) o.1)  : ∀ (thrown : Int32) (text : Nat → Int32) (length : Int32) (x1 : Int32) (s0 : Int32) (s1 : Int32), fX5_append_18   thrown text length x1 s0 s1 = some o → ∀ (H : Heap) (locs : List Loc) (ls : Array Slot), zWd G A s (zM ad k thrown now saved hist kept reason detail isSaved comes queue far isInText ahead roomAt rooms text length at_ errorPosition toldFrom toldTo isWrong before) H locs → lv_has ls 2 [(0, .ref (ad 0)), (1, .int x1)] → W p l e rmX5_append s m args below meth c H locs 0 0 Q (F0 m 18 ls [.int s0, .int s1, .ref (ad 0)]) := by
  obtain ⟨hx, hb, hr, hml, hown, hts, hlocks⟩ := id C0
  intro thrown text length x1 s0 s1 hF H locs ls hw hl
  unfold fX5_append_18 at hF
  obtain ⟨u1, hq2, hF⟩ := zbd_t hF
  refine zgoIw (w' := (zM ad k u1.2 now saved hist kept reason detail isSaved comes queue far isInText ahead roomAt rooms text length at_ errorPosition toldFrom toldTo isWrong before)) hw hA (zVw (As := [.int s1, .int s0]) (rest := []) ⟨hx, hb, hml, hown, hts⟩ (mX5_fails l G k ad H.size thrown now saved hist kept reason detail isSaved comes queue far isInText ahead roomAt rooms text length at_ errorPosition toldFrom toldTo isWrong before s1 s0 u1 hq2) (cwV 2 hts gX5_append_X5_fails rfl rfl rfl kdX5_fails ⟨Nat.le_of_ble_eq_true rfl, Nat.le_of_ble_eq_true rfl⟩) hK hA hw 0 rfl rfl rfl rfl hl.1 rfl (Nat.le_of_ble_eq_true rfl) dX5_append_18 ⟨Nat.le_of_ble_eq_true rfl, Nat.le_of_ble_eq_true rfl⟩) (fun H locs hw => ?_)
  refine lv_if_ne (tgt := 46) hx hb dX5_append_21 (by decide) (fun hc => ?_) (fun hc => ?_)
  · have hF := zif_f hc hF
    refine lv_iconst (v := (0 : Int32)) hx hb dX5_append_46 (by decide) ?_
    obtain rfl := Option.some.inj hF
    exact hret _ _ _ _ rfl hw dX5_append_47
  · have hF := zif_t hc hF
    refine lv_aload_n hx hb dX5_append_24 rfl (lv_at hl 0 rfl) ?_
    refine lv_iconst (v := (2 : Int32)) hx hb dX5_append_25 (by decide) ?_
    refine lv_aload_n hx hb dX5_append_26 rfl (lv_at hl 0 rfl) ?_
    refine va_get (D := G) (ci := 4) (v := .int length) (C := RX5) (T := TX5) (N := 23) hx hb hts inX5_append_X5 hown hK.1 hw.1 0 rfl rfl 16 (by decide) (hts (.fieldLink RX5 234 "SealedBoardModel" "length" "I") (by decide +kernel)) (fun _ h9 => h9) rfl dX5_append_27 ?_
    refine lv_bipush (v := (60 : Int32)) hx hb dX5_append_30 (by decide) ?_
    refine lv_icmp_ne (tgt := 39) hx hb dX5_append_32 (by decide) (fun hc => ?_) (fun hc => ?_)
    · have hF := zif_f hc hF
      refine lv_iconst (v := (0 : Int32)) hx hb dX5_append_39 (by decide) ?_
      exact wX5_append_40 C0 hK hA hret   _ _ _ _ _ _ hF _ _ _ hw (lv_sub hl [0, 1] rfl)
    · have hF := zif_t hc hF
      refine lv_iconst (v := (1 : Int32)) hx hb dX5_append_35 (by decide) ?_
      refine lv_goto (tgt := 40) hx hb dX5_append_36 (by decide) ?_
      exact wX5_append_40 C0 hK hA hret   _ _ _ _ _ _ hF _ _ _ hw (lv_sub hl [0, 1] rfl)
set_option maxHeartbeats 400000 in
set_option maxRecDepth 100000 in
theorem mX5_append (l : Launch) (G : va_G) (k : Nat → ClassId) (ad : Nat → Nat) (sz : Nat) (thrown : Int32) (now : Nat → Int32) (saved : Nat → Int32) (hist : Nat → Nat → Int32) (kept : Int32) (reason : Int32) (detail : Int32) (isSaved : Int32) (comes : Nat → Int32) (queue : Nat → Int32) (far : Nat → Int32) (isInText : Int32) (ahead : Nat → Int32) (roomAt : Nat → Int32) (rooms : Int32) (text : Nat → Int32) (length : Int32) (at_ : Int32) (errorPosition : Int32) (toldFrom : Int32) (toldTo : Int32) (isWrong : Int32) (before : Nat → Int32) (p0 : Int32) (o : Int32 × Int32 × (Nat → Int32) × Int32) (hF : fX5_append thrown text length p0 = some o) : zMI l yX5_append wsX5_append rmX5_append G k (zM ad k thrown now saved hist kept reason detail isSaved comes queue far isInText ahead roomAt rooms text length at_ errorPosition toldFrom toldTo isWrong before) sz [.ref (ad 0), .int p0] o.1 (zM ad k o.2.1 now saved hist kept reason detail isSaved comes queue far isInText ahead roomAt rooms o.2.2.1 o.2.2.2 at_ errorPosition toldFrom toldTo isWrong before) := by
  refine zof_I (cc := cX5_append) (nL := 2) (own := RX5) (rt := .int) (by decide) rfl rfl (Nat.le_of_ble_eq_true rfl) ?_
  intro p e s m args below meth c A Q C0 hK hA hret ls hl hw
  have hl : lv_has ls 2 [(0, .ref (ad 0)), (1, .int p0)] := hl
  obtain ⟨hx, hb, hr, hml, hown, hts, hlocks⟩ := id C0
  obtain ⟨H, hH⟩ : ∃ z, z = s.heap := ⟨_, rfl⟩
  rw [← hH] at hw ⊢
  unfold fX5_append at hF
  refine lv_aload_n hx hb dX5_append_0 rfl (lv_at hl 0 rfl) ?_
  refine lv_iconst (v := (1 : Int32)) hx hb dX5_append_1 (by decide) ?_
  refine lv_iload_n hx hb dX5_append_2 rfl (lv_at hl 1 rfl) ?_
  refine lv_bipush (v := (32 : Int32)) hx hb dX5_append_3 (by decide) ?_
  refine lv_bipush (v := (126 : Int32)) hx hb dX5_append_5 (by decide) ?_
  obtain ⟨u1, hq2, hF⟩ := zbd_t hF
  refine zgoI (w' := (zM ad k thrown now saved hist kept reason detail isSaved comes queue far isInText ahead roomAt rooms text length at_ errorPosition toldFrom toldTo isWrong before)) hw hA [] rfl (zS (As := [.int p0, .int (32 : Int32), .int (126 : Int32)]) (rest := [.int (1 : Int32), .ref (ad 0)]) ⟨hx, hb, hml, hown, hts⟩ (mX5_isBetween l G k  H.size  p0 (32 : Int32) (126 : Int32) u1 hq2) (va_cwS 3 hts gX5_append_X5_isBetween rfl rfl rfl kdX5_isBetween ⟨Nat.le_of_ble_eq_true rfl, Nat.le_of_ble_eq_true rfl⟩) hK hA hw [] rfl (by decide) rfl hl.1 rfl (Nat.le_of_ble_eq_true rfl) dX5_append_7 ⟨Nat.le_of_ble_eq_true rfl, Nat.le_of_ble_eq_true rfl⟩) rfl rfl rfl (fun H locs hw => ?_)
  refine lv_if_ne (tgt := 17) hx hb dX5_append_10 (by decide) (fun hc => ?_) (fun hc => ?_)
  · have hF := zif_f hc hF
    refine lv_iconst (v := (0 : Int32)) hx hb dX5_append_17 (by decide) ?_
    exact wX5_append_18 C0 hK hA hret   _ _ _ _ _ _ hF _ _ _ hw (lv_sub hl [0, 1] rfl)
  · have hF := zif_t hc hF
    refine lv_iconst (v := (1 : Int32)) hx hb dX5_append_13 (by decide) ?_
    refine lv_goto (tgt := 18) hx hb dX5_append_14 (by decide) ?_
    exact wX5_append_18 C0 hK hA hret   _ _ _ _ _ _ hF _ _ _ hw (lv_sub hl [0, 1] rfl)

/-! SealedBoardModel.sees(CC)Z -/
abbrev rmX5_sees : Room := { frames := 1, cells := 0, slots := 0, locals := 22 }
theorem kdX5_sees : yX5_sees.cls = RX5 ∧ yX5_sees.cls ≠ "java/lang/invoke/MethodHandle" ∧ yX5_sees.cls ≠ "java/lang/invoke/VarHandle" ∧ (parseMethodDescriptor yX5_sees.desc).map (fun d => d.parameters.length) = some 2 := by decide +kernel
theorem inX5_sees_X5 : ∀ w ∈ u_ws RX5 TX5 23, w ∈ wsX5_sees := by decide +kernel
def fX5_sees (text : Nat → Int32) (length : Int32) (at_ : Int32) (isWrong : Int32) (p0 : Int32) (p1 : Int32) : Option (Int32) := (if isWrong = 0 then (if length ≤ at_ then (some ((0 : Int32))) else (zck (zin at_ 60) (zbd (fX5_isBetween (text at_.toNatClampNeg) p0 p1) (fun u2 => (if u2 = 0 then (some ((0 : Int32))) else (some ((1 : Int32)))))))) else (some ((0 : Int32))))
set_option maxHeartbeats 400000 in
set_option maxRecDepth 100000 in
theorem mX5_sees (l : Launch) (G : va_G) (k : Nat → ClassId) (ad : Nat → Nat) (sz : Nat) (thrown : Int32) (now : Nat → Int32) (saved : Nat → Int32) (hist : Nat → Nat → Int32) (kept : Int32) (reason : Int32) (detail : Int32) (isSaved : Int32) (comes : Nat → Int32) (queue : Nat → Int32) (far : Nat → Int32) (isInText : Int32) (ahead : Nat → Int32) (roomAt : Nat → Int32) (rooms : Int32) (text : Nat → Int32) (length : Int32) (at_ : Int32) (errorPosition : Int32) (toldFrom : Int32) (toldTo : Int32) (isWrong : Int32) (before : Nat → Int32) (p0 : Int32) (p1 : Int32) (o : Int32) (hF : fX5_sees text length at_ isWrong p0 p1 = some o) : zMI l yX5_sees wsX5_sees rmX5_sees G k (zM ad k thrown now saved hist kept reason detail isSaved comes queue far isInText ahead roomAt rooms text length at_ errorPosition toldFrom toldTo isWrong before) sz [.ref (ad 0), .int p0, .int p1] o (zM ad k thrown now saved hist kept reason detail isSaved comes queue far isInText ahead roomAt rooms text length at_ errorPosition toldFrom toldTo isWrong before) := by
  refine zof_I (cc := cX5_sees) (nL := 3) (own := RX5) (rt := .boolean) (by decide) rfl rfl (Nat.le_of_ble_eq_true rfl) ?_
  intro p e s m args below meth c A Q C0 hK hA hret ls hl hw
  have hl : lv_has ls 3 [(0, .ref (ad 0)), (1, .int p0), (2, .int p1)] := hl
  obtain ⟨hx, hb, hr, hml, hown, hts, hlocks⟩ := id C0
  obtain ⟨H, hH⟩ : ∃ z, z = s.heap := ⟨_, rfl⟩
  rw [← hH] at hw ⊢
  unfold fX5_sees at hF
  refine lv_aload_n hx hb dX5_sees_0 rfl (lv_at hl 0 rfl) ?_
  refine va_get (D := G) (ci := 4) (v := .int isWrong) (C := RX5) (T := TX5) (N := 23) hx hb hts inX5_sees_X5 hown hK.1 hw.1 0 rfl rfl 21 (by decide) (hts (.fieldLink RX5 237 "SealedBoardModel" "isWrong" "Z") (by decide +kernel)) (fun _ h9 => h9) rfl dX5_sees_1 ?_
  refine lv_if_ne (tgt := 39) hx hb dX5_sees_4 (by decide) (fun hc => ?_) (fun hc => ?_)
  · have hF := zif_f hc hF
    refine lv_iconst (v := (0 : Int32)) hx hb dX5_sees_39 (by decide) ?_
    obtain rfl := Option.some.inj hF
    exact hret _ _ _ _ (zbo_n (x := (0 : Int32)) (by decide)) hw dX5_sees_40
  · have hF := zif_t hc hF
    refine lv_aload_n hx hb dX5_sees_7 rfl (lv_at hl 0 rfl) ?_
    refine va_get (D := G) (ci := 4) (v := .int at_) (C := RX5) (T := TX5) (N := 23) hx hb hts inX5_sees_X5 hown hK.1 hw.1 0 rfl rfl 17 (by decide) (hts (.fieldLink RX5 240 "SealedBoardModel" "at" "I") (by decide +kernel)) (fun _ h9 => h9) rfl dX5_sees_8 ?_
    refine lv_aload_n hx hb dX5_sees_11 rfl (lv_at hl 0 rfl) ?_
    refine va_get (D := G) (ci := 4) (v := .int length) (C := RX5) (T := TX5) (N := 23) hx hb hts inX5_sees_X5 hown hK.1 hw.1 0 rfl rfl 16 (by decide) (hts (.fieldLink RX5 234 "SealedBoardModel" "length" "I") (by decide +kernel)) (fun _ h9 => h9) rfl dX5_sees_12 ?_
    refine lv_icmp_ge (tgt := 39) hx hb dX5_sees_15 (by decide) (fun hc => ?_) (fun hc => ?_)
    · have hF := zif_t hc hF
      refine lv_iconst (v := (0 : Int32)) hx hb dX5_sees_39 (by decide) ?_
      obtain rfl := Option.some.inj hF
      exact hret _ _ _ _ (zbo_n (x := (0 : Int32)) (by decide)) hw dX5_sees_40
    · have hF := zif_f hc hF
      refine lv_aload_n hx hb dX5_sees_18 rfl (lv_at hl 0 rfl) ?_
      refine va_get (D := G) (ci := 4) (v := .ref (ad 9)) (C := RX5) (T := TX5) (N := 23) hx hb hts inX5_sees_X5 hown hK.1 hw.1 0 rfl rfl 15 (by decide) (hts (.fieldLink RX5 37 "SealedBoardModel" "text" "[C") (by decide +kernel)) (fun _ h9 => h9) rfl dX5_sees_19 ?_
      refine lv_aload_n hx hb dX5_sees_22 rfl (lv_at hl 0 rfl) ?_
      refine va_get (D := G) (ci := 4) (v := .int at_) (C := RX5) (T := TX5) (N := 23) hx hb hts inX5_sees_X5 hown hK.1 hw.1 0 rfl rfl 17 (by decide) (hts (.fieldLink RX5 240 "SealedBoardModel" "at" "I") (by decide +kernel)) (fun _ h9 => h9) rfl dX5_sees_23 ?_
      obtain ⟨hi1, hF⟩ := zck_in hF
      refine va_cald hx hb hK.1 hw.1 9 1 rfl rfl hi1 dX5_sees_26 ?_
      refine lv_iload_n hx hb dX5_sees_27 rfl (lv_at hl 1 rfl) ?_
      refine lv_iload_n hx hb dX5_sees_28 rfl (lv_at hl 2 rfl) ?_
      obtain ⟨u2, hq3, hF⟩ := zbd_t hF
      refine zgoI (w' := (zM ad k thrown now saved hist kept reason detail isSaved comes queue far isInText ahead roomAt rooms text length at_ errorPosition toldFrom toldTo isWrong before)) hw hA [] rfl (zS (As := [.int (text at_.toNatClampNeg), .int p0, .int p1]) (rest := []) ⟨hx, hb, hml, hown, hts⟩ (mX5_isBetween l G k  H.size  (text at_.toNatClampNeg) p0 p1 u2 hq3) (va_cwS 3 hts gX5_sees_X5_isBetween rfl rfl rfl kdX5_isBetween ⟨Nat.le_of_ble_eq_true rfl, Nat.le_of_ble_eq_true rfl⟩) hK hA hw [] rfl (by decide) rfl hl.1 rfl (Nat.le_of_ble_eq_true rfl) dX5_sees_29 ⟨Nat.le_of_ble_eq_true rfl, Nat.le_of_ble_eq_true rfl⟩) rfl rfl rfl (fun H locs hw => ?_)
      refine lv_if_eq (tgt := 39) hx hb dX5_sees_32 (by decide) (fun hc => ?_) (fun hc => ?_)
      · have hF := zif_t hc hF
        refine lv_iconst (v := (0 : Int32)) hx hb dX5_sees_39 (by decide) ?_
        obtain rfl := Option.some.inj hF
        exact hret _ _ _ _ (zbo_n (x := (0 : Int32)) (by decide)) hw dX5_sees_40
      · have hF := zif_f hc hF
        refine lv_iconst (v := (1 : Int32)) hx hb dX5_sees_35 (by decide) ?_
        refine lv_goto (tgt := 40) hx hb dX5_sees_36 (by decide) ?_
        obtain rfl := Option.some.inj hF
        exact hret _ _ _ _ (zbo_n (x := (1 : Int32)) (by decide)) hw dX5_sees_40

/-! SealedBoardModel.takes(C)Z -/
abbrev rmX5_takes : Room := { frames := 2, cells := 0, slots := 0, locals := 44 }
theorem kdX5_takes : yX5_takes.cls = RX5 ∧ yX5_takes.cls ≠ "java/lang/invoke/MethodHandle" ∧ yX5_takes.cls ≠ "java/lang/invoke/VarHandle" ∧ (parseMethodDescriptor yX5_takes.desc).map (fun d => d.parameters.length) = some 1 := by decide +kernel
theorem inX5_takes_X5 : ∀ w ∈ u_ws RX5 TX5 23, w ∈ wsX5_takes := by decide +kernel
def fX5_takes_21  (text : Nat → Int32) (length : Int32) (isWrong : Int32) (at_ : Int32) (x2 : Int32) (s0 : Int32) (s1 : Int32) : Option (Int32 × Int32) := (zck (zbo x2) (some (x2, (s1 + s0))))
def fX5_takes (text : Nat → Int32) (length : Int32) (at_ : Int32) (isWrong : Int32) (p0 : Int32) : Option (Int32 × Int32) := (zbd (fX5_sees text length at_ isWrong p0 p0) (fun u1 => (if u1 = 0 then (fX5_takes_21  text length isWrong  at_ u1 (0 : Int32) at_) else (fX5_takes_21  text length isWrong  at_ u1 (1 : Int32) at_))))
set_option maxHeartbeats 400000 in
set_option maxRecDepth 100000 in
theorem wX5_takes_21 {p : Program} {l : Launch} {e : Env} {s : State} {m : MethodId} {args : Array Value} {below : List Frame} {meth : Method} {c : Code} {A : Nat → Prop} {Q : State → Prop} {G : va_G} {k : Nat → ClassId} {ad : Nat → Nat} {thrown : Int32} {now : Nat → Int32} {saved : Nat → Int32} {hist : Nat → Nat → Int32} {kept : Int32} {reason : Int32} {detail : Int32} {isSaved : Int32} {comes : Nat → Int32} {queue : Nat → Int32} {far : Nat → Int32} {isInText : Int32} {ahead : Nat → Int32} {roomAt : Nat → Int32} {rooms : Int32} {text : Nat → Int32} {length : Int32} {errorPosition : Int32} {toldFrom : Int32} {toldTo : Int32} {isWrong : Int32} {before : Nat → Int32} {o : Int32 × Int32} (C0 : zCx p s m args meth c wsX5_takes cX5_takes RX5 (some .boolean) 3) (hK : zKK G k A s s.heap) (hA : ∀ q : Nat, s.heap.size ≤ q → A q) (hret : zRI p l e rmX5_takes s m args below meth c cX5_takes G A 0 0 Q .boolean (zM ad k thrown now saved hist kept reason detail isSaved comes queue far isInText ahead roomAt rooms text length o.2 errorPosition toldFrom toldTo isWrong before) o.1)  : ∀ (at_ : Int32) (x2 : Int32) (s0 : Int32) (s1 : Int32), fX5_takes_21  text length isWrong at_ x2 s0 s1 = some o → ∀ (H : Heap) (locs : List Loc) (ls : Array Slot), zWd G A s (zM ad k thrown now saved hist kept reason detail isSaved comes queue far isInText ahead roomAt rooms text length at_ errorPosition toldFrom toldTo isWrong before) H locs → lv_has ls 3 [(2, .int x2)] → W p l e rmX5_takes s m args below meth c H locs 0 0 Q (F0 m 21 ls [.int s0, .int s1, .ref (ad 0)]) := by
  obtain ⟨hx, hb, hr, hml, hown, hts, hlocks⟩ := id C0
  intro at_ x2 s0 s1 hF H locs ls hw hl
  unfold fX5_takes_21 at hF
  refine lv_iadd hx hb dX5_takes_21 ?_
  refine va_put (D := G) (ci := 4) (v := .int (s1 + s0)) (ty := .int) (C := RX5) (T := TX5) (N := 23) hx hb hts inX5_takes_X5 tyX5 tyX5_ok nmX5 hown hK.1 hw.1 hw.2.1 hw.2.2 0 rfl rfl 17 (by decide) (hts (.fieldLink RX5 240 "SealedBoardModel" "at" "I") (by decide +kernel)) (fun _ h9 => h9) rfl (by decide +kernel) rfl rfl (Nat.le_of_ble_eq_true rfl) dX5_takes_22 (fun H locs hP hD hS => ?_)
  have hw : zWd G A s (zM ad k thrown now saved hist kept reason detail isSaved comes queue far isInText ahead roomAt rooms text length (s1 + s0) errorPosition toldFrom toldTo isWrong before) H locs := ⟨hP, hD, hS⟩
  refine lv_iload_n hx hb dX5_takes_25 rfl (lv_at hl 0 rfl) ?_
  obtain ⟨hz1, hF⟩ := zck_t hF
  obtain rfl := Option.some.inj hF
  exact hret _ _ _ _ (zbo_n hz1) hw dX5_takes_26
set_option maxHeartbeats 400000 in
set_option maxRecDepth 100000 in
theorem mX5_takes (l : Launch) (G : va_G) (k : Nat → ClassId) (ad : Nat → Nat) (sz : Nat) (thrown : Int32) (now : Nat → Int32) (saved : Nat → Int32) (hist : Nat → Nat → Int32) (kept : Int32) (reason : Int32) (detail : Int32) (isSaved : Int32) (comes : Nat → Int32) (queue : Nat → Int32) (far : Nat → Int32) (isInText : Int32) (ahead : Nat → Int32) (roomAt : Nat → Int32) (rooms : Int32) (text : Nat → Int32) (length : Int32) (at_ : Int32) (errorPosition : Int32) (toldFrom : Int32) (toldTo : Int32) (isWrong : Int32) (before : Nat → Int32) (p0 : Int32) (o : Int32 × Int32) (hF : fX5_takes text length at_ isWrong p0 = some o) : zMI l yX5_takes wsX5_takes rmX5_takes G k (zM ad k thrown now saved hist kept reason detail isSaved comes queue far isInText ahead roomAt rooms text length at_ errorPosition toldFrom toldTo isWrong before) sz [.ref (ad 0), .int p0] o.1 (zM ad k thrown now saved hist kept reason detail isSaved comes queue far isInText ahead roomAt rooms text length o.2 errorPosition toldFrom toldTo isWrong before) := by
  refine zof_I (cc := cX5_takes) (nL := 3) (own := RX5) (rt := .boolean) (by decide) rfl rfl (Nat.le_of_ble_eq_true rfl) ?_
  intro p e s m args below meth c A Q C0 hK hA hret ls hl hw
  have hl : lv_has ls 3 [(0, .ref (ad 0)), (1, .int p0)] := hl
  obtain ⟨hx, hb, hr, hml, hown, hts, hlocks⟩ := id C0
  obtain ⟨H, hH⟩ : ∃ z, z = s.heap := ⟨_, rfl⟩
  rw [← hH] at hw ⊢
  unfold fX5_takes at hF
  refine lv_aload_n hx hb dX5_takes_0 rfl (lv_at hl 0 rfl) ?_
  refine lv_iload_n hx hb dX5_takes_1 rfl (lv_at hl 1 rfl) ?_
  refine lv_iload_n hx hb dX5_takes_2 rfl (lv_at hl 1 rfl) ?_
  obtain ⟨u1, hq2, hF⟩ := zbd_t hF
  refine zgoIw (w' := (zM ad k thrown now saved hist kept reason detail isSaved comes queue far isInText ahead roomAt rooms text length at_ errorPosition toldFrom toldTo isWrong before)) hw hA (zVw (As := [.int p0, .int p0]) (rest := []) ⟨hx, hb, hml, hown, hts⟩ (mX5_sees l G k ad H.size thrown now saved hist kept reason detail isSaved comes queue far isInText ahead roomAt rooms text length at_ errorPosition toldFrom toldTo isWrong before p0 p0 u1 hq2) (cwV 2 hts gX5_takes_X5_sees rfl rfl rfl kdX5_sees ⟨Nat.le_of_ble_eq_true rfl, Nat.le_of_ble_eq_true rfl⟩) hK hA hw 0 rfl rfl rfl rfl hl.1 rfl (Nat.le_of_ble_eq_true rfl) dX5_takes_3 ⟨Nat.le_of_ble_eq_true rfl, Nat.le_of_ble_eq_true rfl⟩) (fun H locs hw => ?_)
  refine lv_istore_n (lv' := [(2, .int u1), (0, .ref (ad 0)), (1, .int p0)]) hx hb dX5_takes_6 rfl hl (by decide) rfl (fun ls hl => ?_)
  refine lv_aload_n hx hb dX5_takes_7 rfl (lv_at hl 1 rfl) ?_
  refine lv_dup hx hb dX5_takes_8 rfl ?_
  refine va_get (D := G) (ci := 4) (v := .int at_) (C := RX5) (T := TX5) (N := 23) hx hb hts inX5_takes_X5 hown hK.1 hw.1 0 rfl rfl 17 (by decide) (hts (.fieldLink RX5 240 "SealedBoardModel" "at" "I") (by decide +kernel)) (fun _ h9 => h9) rfl dX5_takes_9 ?_
  refine lv_iload_n hx hb dX5_takes_12 rfl (lv_at hl 0 rfl) ?_
  refine lv_if_eq (tgt := 20) hx hb dX5_takes_13 (by decide) (fun hc => ?_) (fun hc => ?_)
  · have hF := zif_t hc hF
    refine lv_iconst (v := (0 : Int32)) hx hb dX5_takes_20 (by decide) ?_
    exact wX5_takes_21 C0 hK hA hret   _ _ _ _ hF _ _ _ hw (lv_sub hl [0] rfl)
  · have hF := zif_f hc hF
    refine lv_iconst (v := (1 : Int32)) hx hb dX5_takes_16 (by decide) ?_
    refine lv_goto (tgt := 21) hx hb dX5_takes_17 (by decide) ?_
    exact wX5_takes_21 C0 hK hA hret   _ _ _ _ hF _ _ _ hw (lv_sub hl [0] rfl)

/-! SealedBoardModel.readSquare()I -/
abbrev rmX5_readSquare : Room := { frames := 2, cells := 0, slots := 0, locals := 44 }
theorem kdX5_readSquare : yX5_readSquare.cls = RX5 ∧ yX5_readSquare.cls ≠ "java/lang/invoke/MethodHandle" ∧ yX5_readSquare.cls ≠ "java/lang/invoke/VarHandle" ∧ (parseMethodDescriptor yX5_readSquare.desc).map (fun d => d.parameters.length) = some 0 := by decide +kernel
theorem inX5_readSquare_X5 : ∀ w ∈ u_ws RX5 TX5 23, w ∈ wsX5_readSquare := by decide +kernel
def fX5_readSquare_136  (text : Nat → Int32) (length : Int32) (at_ : Int32) (isWrong : Int32) (x1 : Int32) (x2 : Int32) (s0 : Int32) (s1 : Int32) : Option (Int32 × Int32 × Int32) := (some (((x2 * (6 : Int32)) + x1), (s1 + s0), isWrong))
def fX5_readSquare_118  (text : Nat → Int32) (length : Int32) (at_ : Int32) (isWrong : Int32) (x1 : Int32) (s0 : Int32) : Option (Int32 × Int32 × Int32) := (if isWrong = 0 then (fX5_readSquare_136  text length  at_ isWrong x1 s0 (1 : Int32) at_) else (fX5_readSquare_136  text length  at_ isWrong x1 s0 (0 : Int32) at_))
def fX5_readSquare_91  (text : Nat → Int32) (length : Int32) (at_ : Int32) (isWrong : Int32) (x1 : Int32) (s0 : Int32) (s1 : Int32) : Option (Int32 × Int32 × Int32) := (zck (zbo (s1 ||| s0)) (if (s1 ||| s0) = 0 then (zck (zin at_ 60) (fX5_readSquare_118  text length  at_ (s1 ||| s0) x1 ((text at_.toNatClampNeg) - (49 : Int32)))) else (fX5_readSquare_118  text length  at_ (s1 ||| s0) x1 (0 : Int32))))
def fX5_readSquare_66  (text : Nat → Int32) (length : Int32) (at_ : Int32) (isWrong : Int32) (x1 : Int32) (s0 : Int32) (s1 : Int32) : Option (Int32 × Int32 × Int32) := (zbd (fX5_sees text length (s1 + s0) isWrong (49 : Int32) (54 : Int32)) (fun u1 => (if u1 = 0 then (fX5_readSquare_91  text length  (s1 + s0) isWrong x1 (1 : Int32) isWrong) else (fX5_readSquare_91  text length  (s1 + s0) isWrong x1 (0 : Int32) isWrong))))
def fX5_readSquare_48  (text : Nat → Int32) (length : Int32) (at_ : Int32) (isWrong : Int32) (s0 : Int32) : Option (Int32 × Int32 × Int32) := (if isWrong = 0 then (fX5_readSquare_66  text length  at_ isWrong s0 (1 : Int32) at_) else (fX5_readSquare_66  text length  at_ isWrong s0 (0 : Int32) at_))
def fX5_readSquare_21  (text : Nat → Int32) (length : Int32) (at_ : Int32) (isWrong : Int32) (s0 : Int32) (s1 : Int32) : Option (Int32 × Int32 × Int32) := (zck (zbo (s1 ||| s0)) (if (s1 ||| s0) = 0 then (zck (zin at_ 60) (fX5_readSquare_48  text length  at_ (s1 ||| s0) ((text at_.toNatClampNeg) - (97 : Int32)))) else (fX5_readSquare_48  text length  at_ (s1 ||| s0) (0 : Int32))))
def fX5_readSquare (text : Nat → Int32) (length : Int32) (at_ : Int32) (isWrong : Int32) : Option (Int32 × Int32 × Int32) := (zbd (fX5_sees text length at_ isWrong (97 : Int32) (102 : Int32)) (fun u1 => (if u1 = 0 then (fX5_readSquare_21  text length  at_ isWrong (1 : Int32) isWrong) else (fX5_readSquare_21  text length  at_ isWrong (0 : Int32) isWrong))))
set_option maxHeartbeats 400000 in
set_option maxRecDepth 100000 in
theorem wX5_readSquare_136 {p : Program} {l : Launch} {e : Env} {s : State} {m : MethodId} {args : Array Value} {below : List Frame} {meth : Method} {c : Code} {A : Nat → Prop} {Q : State → Prop} {G : va_G} {k : Nat → ClassId} {ad : Nat → Nat} {thrown : Int32} {now : Nat → Int32} {saved : Nat → Int32} {hist : Nat → Nat → Int32} {kept : Int32} {reason : Int32} {detail : Int32} {isSaved : Int32} {comes : Nat → Int32} {queue : Nat → Int32} {far : Nat → Int32} {isInText : Int32} {ahead : Nat → Int32} {roomAt : Nat → Int32} {rooms : Int32} {text : Nat → Int32} {length : Int32} {errorPosition : Int32} {toldFrom : Int32} {toldTo : Int32} {before : Nat → Int32} {o : Int32 × Int32 × Int32} (C0 : zCx p s m args meth c wsX5_readSquare cX5_readSquare RX5 (some .int) 3) (hK : zKK G k A s s.heap) (hA : ∀ q : Nat, s.heap.size ≤ q → A q) (hret : zRI p l e rmX5_readSquare s m args below meth c cX5_readSquare G A 0 0 Q .int (zM ad k thrown now saved hist kept reason detail isSaved comes queue far isInText ahead roomAt rooms text length o.2.1 errorPosition toldFrom toldTo o.2.2 before) o.1)  : ∀ (at_ : Int32) (isWrong : Int32) (x1 : Int32) (x2 : Int32) (s0 : Int32) (s1 : Int32), fX5_readSquare_136  text length at_ isWrong x1 x2 s0 s1 = some o → ∀ (H : Heap) (locs : List Loc) (ls : Array Slot), zWd G A s (zM ad k thrown now saved hist kept reason detail isSaved comes queue far isInText ahead roomAt rooms text length at_ errorPosition toldFrom toldTo isWrong before) H locs → lv_has ls 3 [(1, .int x1), (2, .int x2)] → W p l e rmX5_readSquare s m args below meth c H locs 0 0 Q (F0 m 136 ls [.int s0, .int s1, .ref (ad 0)]) := by
  obtain ⟨hx, hb, hr, hml, hown, hts, hlocks⟩ := id C0
  intro at_ isWrong x1 x2 s0 s1 hF H locs ls hw hl
  unfold fX5_readSquare_136 at hF
  refine lv_iadd hx hb dX5_readSquare_136 ?_
  refine va_put (D := G) (ci := 4) (v := .int (s1 + s0)) (ty := .int) (C := RX5) (T := TX5) (N := 23) hx hb hts inX5_readSquare_X5 tyX5 tyX5_ok nmX5 hown hK.1 hw.1 hw.2.1 hw.2.2 0 rfl rfl 17 (by decide) (hts (.fieldLink RX5 240 "SealedBoardModel" "at" "I") (by decide +kernel)) (fun _ h9 => h9) rfl (by decide +kernel) rfl rfl (Nat.le_of_ble_eq_true rfl) dX5_readSquare_137 (fun H locs hP hD hS => ?_)
  have hw : zWd G A s (zM ad k thrown now saved hist kept reason detail isSaved comes queue far isInText ahead roomAt rooms text length (s1 + s0) errorPosition toldFrom toldTo isWrong before) H locs := ⟨hP, hD, hS⟩
  refine lv_iload_n hx hb dX5_readSquare_140 rfl (lv_at hl 1 rfl) ?_
  refine lv_bipush (v := (6 : Int32)) hx hb dX5_readSquare_141 (by decide) ?_
  refine lv_imul hx hb dX5_readSquare_143 ?_
  refine lv_iload_n hx hb dX5_readSquare_144 rfl (lv_at hl 0 rfl) ?_
  refine lv_iadd hx hb dX5_readSquare_145 ?_
  obtain rfl := Option.some.inj hF
  exact hret _ _ _ _ rfl hw dX5_readSquare_146
set_option maxHeartbeats 400000 in
set_option maxRecDepth 100000 in
theorem wX5_readSquare_118 {p : Program} {l : Launch} {e : Env} {s : State} {m : MethodId} {args : Array Value} {below : List Frame} {meth : Method} {c : Code} {A : Nat → Prop} {Q : State → Prop} {G : va_G} {k : Nat → ClassId} {ad : Nat → Nat} {thrown : Int32} {now : Nat → Int32} {saved : Nat → Int32} {hist : Nat → Nat → Int32} {kept : Int32} {reason : Int32} {detail : Int32} {isSaved : Int32} {comes : Nat → Int32} {queue : Nat → Int32} {far : Nat → Int32} {isInText : Int32} {ahead : Nat → Int32} {roomAt : Nat → Int32} {rooms : Int32} {text : Nat → Int32} {length : Int32} {errorPosition : Int32} {toldFrom : Int32} {toldTo : Int32} {before : Nat → Int32} {o : Int32 × Int32 × Int32} (C0 : zCx p s m args meth c wsX5_readSquare cX5_readSquare RX5 (some .int) 3) (hK : zKK G k A s s.heap) (hA : ∀ q : Nat, s.heap.size ≤ q → A q) (hret : zRI p l e rmX5_readSquare s m args below meth c cX5_readSquare G A 0 0 Q .int (zM ad k thrown now saved hist kept reason detail isSaved comes queue far isInText ahead roomAt rooms text length o.2.1 errorPosition toldFrom toldTo o.2.2 before) o.1)  : ∀ (at_ : Int32) (isWrong : Int32) (x1 : Int32) (s0 : Int32), fX5_readSquare_118  text length at_ isWrong x1 s0 = some o → ∀ (H : Heap) (locs : List Loc) (ls : Array Slot), zWd G A s (zM ad k thrown now saved hist kept reason detail isSaved comes queue far isInText ahead roomAt rooms text length at_ errorPosition toldFrom toldTo isWrong before) H locs → lv_has ls 3 [(0, .ref (ad 0)), (1, .int x1)] → W p l e rmX5_readSquare s m args below meth c H locs 0 0 Q (F0 m 118 ls [.int s0]) := by
  obtain ⟨hx, hb, hr, hml, hown, hts, hlocks⟩ := id C0
  intro at_ isWrong x1 s0 hF H locs ls hw hl
  unfold fX5_readSquare_118 at hF
  refine lv_istore_n (lv' := [(2, .int s0), (0, .ref (ad 0)), (1, .int x1)]) hx hb dX5_readSquare_118 rfl hl (by decide) rfl (fun ls hl => ?_)
  refine lv_aload_n hx hb dX5_readSquare_119 rfl (lv_at hl 1 rfl) ?_
  refine lv_dup hx hb dX5_readSquare_120 rfl ?_
  refine va_get (D := G) (ci := 4) (v := .int at_) (C := RX5) (T := TX5) (N := 23) hx hb hts inX5_readSquare_X5 hown hK.1 hw.1 0 rfl rfl 17 (by decide) (hts (.fieldLink RX5 240 "SealedBoardModel" "at" "I") (by decide +kernel)) (fun _ h9 => h9) rfl dX5_readSquare_121 ?_
  refine lv_aload_n hx hb dX5_readSquare_124 rfl (lv_at hl 1 rfl) ?_
  refine va_get (D := G) (ci := 4) (v := .int isWrong) (C := RX5) (T := TX5) (N := 23) hx hb hts inX5_readSquare_X5 hown hK.1 hw.1 0 rfl rfl 21 (by decide) (hts (.fieldLink RX5 237 "SealedBoardModel" "isWrong" "Z") (by decide +kernel)) (fun _ h9 => h9) rfl dX5_readSquare_125 ?_
  refine lv_if_eq (tgt := 135) hx hb dX5_readSquare_128 (by decide) (fun hc => ?_) (fun hc => ?_)
  · have hF := zif_t hc hF
    refine lv_iconst (v := (1 : Int32)) hx hb dX5_readSquare_135 (by decide) ?_
    exact wX5_readSquare_136 C0 hK hA hret   _ _ _ _ _ _ hF _ _ _ hw (lv_sub hl [2, 0] rfl)
  · have hF := zif_f hc hF
    refine lv_iconst (v := (0 : Int32)) hx hb dX5_readSquare_131 (by decide) ?_
    refine lv_goto (tgt := 136) hx hb dX5_readSquare_132 (by decide) ?_
    exact wX5_readSquare_136 C0 hK hA hret   _ _ _ _ _ _ hF _ _ _ hw (lv_sub hl [2, 0] rfl)
set_option maxHeartbeats 400000 in
set_option maxRecDepth 100000 in
theorem wX5_readSquare_91 {p : Program} {l : Launch} {e : Env} {s : State} {m : MethodId} {args : Array Value} {below : List Frame} {meth : Method} {c : Code} {A : Nat → Prop} {Q : State → Prop} {G : va_G} {k : Nat → ClassId} {ad : Nat → Nat} {thrown : Int32} {now : Nat → Int32} {saved : Nat → Int32} {hist : Nat → Nat → Int32} {kept : Int32} {reason : Int32} {detail : Int32} {isSaved : Int32} {comes : Nat → Int32} {queue : Nat → Int32} {far : Nat → Int32} {isInText : Int32} {ahead : Nat → Int32} {roomAt : Nat → Int32} {rooms : Int32} {text : Nat → Int32} {length : Int32} {errorPosition : Int32} {toldFrom : Int32} {toldTo : Int32} {before : Nat → Int32} {o : Int32 × Int32 × Int32} (C0 : zCx p s m args meth c wsX5_readSquare cX5_readSquare RX5 (some .int) 3) (hK : zKK G k A s s.heap) (hA : ∀ q : Nat, s.heap.size ≤ q → A q) (hret : zRI p l e rmX5_readSquare s m args below meth c cX5_readSquare G A 0 0 Q .int (zM ad k thrown now saved hist kept reason detail isSaved comes queue far isInText ahead roomAt rooms text length o.2.1 errorPosition toldFrom toldTo o.2.2 before) o.1)  : ∀ (at_ : Int32) (isWrong : Int32) (x1 : Int32) (s0 : Int32) (s1 : Int32), fX5_readSquare_91  text length at_ isWrong x1 s0 s1 = some o → ∀ (H : Heap) (locs : List Loc) (ls : Array Slot), zWd G A s (zM ad k thrown now saved hist kept reason detail isSaved comes queue far isInText ahead roomAt rooms text length at_ errorPosition toldFrom toldTo isWrong before) H locs → lv_has ls 3 [(0, .ref (ad 0)), (1, .int x1)] → W p l e rmX5_readSquare s m args below meth c H locs 0 0 Q (F0 m 91 ls [.int s0, .int s1, .ref (ad 0)]) := by
  obtain ⟨hx, hb, hr, hml, hown, hts, hlocks⟩ := id C0
  intro at_ isWrong x1 s0 s1 hF H locs ls hw hl
  unfold fX5_readSquare_91 at hF
  refine lv_ior hx hb dX5_readSquare_91 ?_
  obtain ⟨hz2, hF⟩ := zck_t hF
  refine va_put (D := G) (ci := 4) (v := .int (s1 ||| s0)) (ty := .boolean) (C := RX5) (T := TX5) (N := 23) hx hb hts inX5_readSquare_X5 tyX5 tyX5_ok nmX5 hown hK.1 hw.1 hw.2.1 hw.2.2 0 rfl rfl 21 (by decide) (hts (.fieldLink RX5 237 "SealedBoardModel" "isWrong" "Z") (by decide +kernel)) (fun _ h9 => h9) rfl (by decide +kernel) (zbo_n hz2) (zbo_f hz2) (Nat.le_of_ble_eq_true rfl) dX5_readSquare_92 (fun H locs hP hD hS => ?_)
  have hw : zWd G A s (zM ad k thrown now saved hist kept reason detail isSaved comes queue far isInText ahead roomAt rooms text length at_ errorPosition toldFrom toldTo (s1 ||| s0) before) H locs := ⟨hP, hD, hS⟩
  refine lv_aload_n hx hb dX5_readSquare_95 rfl (lv_at hl 0 rfl) ?_
  refine va_get (D := G) (ci := 4) (v := .int (s1 ||| s0)) (C := RX5) (T := TX5) (N := 23) hx hb hts inX5_readSquare_X5 hown hK.1 hw.1 0 rfl rfl 21 (by decide) (hts (.fieldLink RX5 237 "SealedBoardModel" "isWrong" "Z") (by decide +kernel)) (fun _ h9 => h9) rfl dX5_readSquare_96 ?_
  refine lv_if_eq (tgt := 106) hx hb dX5_readSquare_99 (by decide) (fun hc => ?_) (fun hc => ?_)
  · have hF := zif_t hc hF
    refine lv_aload_n hx hb dX5_readSquare_106 rfl (lv_at hl 0 rfl) ?_
    refine va_get (D := G) (ci := 4) (v := .ref (ad 9)) (C := RX5) (T := TX5) (N := 23) hx hb hts inX5_readSquare_X5 hown hK.1 hw.1 0 rfl rfl 15 (by decide) (hts (.fieldLink RX5 37 "SealedBoardModel" "text" "[C") (by decide +kernel)) (fun _ h9 => h9) rfl dX5_readSquare_107 ?_
    refine lv_aload_n hx hb dX5_readSquare_110 rfl (lv_at hl 0 rfl) ?_
    refine va_get (D := G) (ci := 4) (v := .int at_) (C := RX5) (T := TX5) (N := 23) hx hb hts inX5_readSquare_X5 hown hK.1 hw.1 0 rfl rfl 17 (by decide) (hts (.fieldLink RX5 240 "SealedBoardModel" "at" "I") (by decide +kernel)) (fun _ h9 => h9) rfl dX5_readSquare_111 ?_
    obtain ⟨hi1, hF⟩ := zck_in hF
    refine va_cald hx hb hK.1 hw.1 9 1 rfl rfl hi1 dX5_readSquare_114 ?_
    refine lv_bipush (v := (49 : Int32)) hx hb dX5_readSquare_115 (by decide) ?_
    refine lv_isub hx hb dX5_readSquare_117 ?_
    exact wX5_readSquare_118 C0 hK hA hret   _ _ _ _ hF _ _ _ hw (lv_sub hl [0, 1] rfl)
  · have hF := zif_f hc hF
    refine lv_iconst (v := (0 : Int32)) hx hb dX5_readSquare_102 (by decide) ?_
    refine lv_goto (tgt := 118) hx hb dX5_readSquare_103 (by decide) ?_
    exact wX5_readSquare_118 C0 hK hA hret   _ _ _ _ hF _ _ _ hw (lv_sub hl [0, 1] rfl)
set_option maxHeartbeats 400000 in
set_option maxRecDepth 100000 in
theorem wX5_readSquare_66 {p : Program} {l : Launch} {e : Env} {s : State} {m : MethodId} {args : Array Value} {below : List Frame} {meth : Method} {c : Code} {A : Nat → Prop} {Q : State → Prop} {G : va_G} {k : Nat → ClassId} {ad : Nat → Nat} {thrown : Int32} {now : Nat → Int32} {saved : Nat → Int32} {hist : Nat → Nat → Int32} {kept : Int32} {reason : Int32} {detail : Int32} {isSaved : Int32} {comes : Nat → Int32} {queue : Nat → Int32} {far : Nat → Int32} {isInText : Int32} {ahead : Nat → Int32} {roomAt : Nat → Int32} {rooms : Int32} {text : Nat → Int32} {length : Int32} {errorPosition : Int32} {toldFrom : Int32} {toldTo : Int32} {before : Nat → Int32} {o : Int32 × Int32 × Int32} (C0 : zCx p s m args meth c wsX5_readSquare cX5_readSquare RX5 (some .int) 3) (hK : zKK G k A s s.heap) (hA : ∀ q : Nat, s.heap.size ≤ q → A q) (hret : zRI p l e rmX5_readSquare s m args below meth c cX5_readSquare G A 0 0 Q .int (zM ad k thrown now saved hist kept reason detail isSaved comes queue far isInText ahead roomAt rooms text length o.2.1 errorPosition toldFrom toldTo o.2.2 before) o.1)  : ∀ (at_ : Int32) (isWrong : Int32) (x1 : Int32) (s0 : Int32) (s1 : Int32), fX5_readSquare_66  text length at_ isWrong x1 s0 s1 = some o → ∀ (H : Heap) (locs : List Loc) (ls : Array Slot), zWd G A s (zM ad k thrown now saved hist kept reason detail isSaved comes queue far isInText ahead roomAt rooms text length at_ errorPosition toldFrom toldTo isWrong before) H locs → lv_has ls 3 [(0, .ref (ad 0)), (1, .int x1)] → W p l e rmX5_readSquare s m args below meth c H locs 0 0 Q (F0 m 66 ls [.int s0, .int s1, .ref (ad 0)]) := by
  obtain ⟨hx, hb, hr, hml, hown, hts, hlocks⟩ := id C0
  intro at_ isWrong x1 s0 s1 hF H locs ls hw hl
  unfold fX5_readSquare_66 at hF
  refine lv_iadd hx hb dX5_readSquare_66 ?_
  refine va_put (D := G) (ci := 4) (v := .int (s1 + s0)) (ty := .int) (C := RX5) (T := TX5) (N := 23) hx hb hts inX5_readSquare_X5 tyX5 tyX5_ok nmX5 hown hK.1 hw.1 hw.2.1 hw.2.2 0 rfl rfl 17 (by decide) (hts (.fieldLink RX5 240 "SealedBoardModel" "at" "I") (by decide +kernel)) (fun _ h9 => h9) rfl (by decide +kernel) rfl rfl (Nat.le_of_ble_eq_true rfl) dX5_readSquare_67 (fun H locs hP hD hS => ?_)
  have hw : zWd G A s (zM ad k thrown now saved hist kept reason detail isSaved comes queue far isInText ahead roomAt rooms text length (s1 + s0) errorPosition toldFrom toldTo isWrong before) H locs := ⟨hP, hD, hS⟩
  refine lv_aload_n hx hb dX5_readSquare_70 rfl (lv_at hl 0 rfl) ?_
  refine lv_dup hx hb dX5_readSquare_71 rfl ?_
  refine va_get (D := G) (ci := 4) (v := .int isWrong) (C := RX5) (T := TX5) (N := 23) hx hb hts inX5_readSquare_X5 hown hK.1 hw.1 0 rfl rfl 21 (by decide) (hts (.fieldLink RX5 237 "SealedBoardModel" "isWrong" "Z") (by decide +kernel)) (fun _ h9 => h9) rfl dX5_readSquare_72 ?_
  refine lv_aload_n hx hb dX5_readSquare_75 rfl (lv_at hl 0 rfl) ?_
  refine lv_bipush (v := (49 : Int32)) hx hb dX5_readSquare_76 (by decide) ?_
  refine lv_bipush (v := (54 : Int32)) hx hb dX5_readSquare_78 (by decide) ?_
  obtain ⟨u1, hq2, hF⟩ := zbd_t hF
  refine zgoIw (w' := (zM ad k thrown now saved hist kept reason detail isSaved comes queue far isInText ahead roomAt rooms text length (s1 + s0) errorPosition toldFrom toldTo isWrong before)) hw hA (zVw (As := [.int (49 : Int32), .int (54 : Int32)]) (rest := [.int isWrong, .ref (ad 0)]) ⟨hx, hb, hml, hown, hts⟩ (mX5_sees l G k ad H.size thrown now saved hist kept reason detail isSaved comes queue far isInText ahead roomAt rooms text length (s1 + s0) errorPosition toldFrom toldTo isWrong before (49 : Int32) (54 : Int32) u1 hq2) (cwV 2 hts gX5_readSquare_X5_sees rfl rfl rfl kdX5_sees ⟨Nat.le_of_ble_eq_true rfl, Nat.le_of_ble_eq_true rfl⟩) hK hA hw 0 rfl rfl rfl rfl hl.1 rfl (Nat.le_of_ble_eq_true rfl) dX5_readSquare_80 ⟨Nat.le_of_ble_eq_true rfl, Nat.le_of_ble_eq_true rfl⟩) (fun H locs hw => ?_)
  refine lv_if_ne (tgt := 90) hx hb dX5_readSquare_83 (by decide) (fun hc => ?_) (fun hc => ?_)
  · have hF := zif_f hc hF
    refine lv_iconst (v := (0 : Int32)) hx hb dX5_readSquare_90 (by decide) ?_
    exact wX5_readSquare_91 C0 hK hA hret   _ _ _ _ _ hF _ _ _ hw (lv_sub hl [0, 1] rfl)
  · have hF := zif_t hc hF
    refine lv_iconst (v := (1 : Int32)) hx hb dX5_readSquare_86 (by decide) ?_
    refine lv_goto (tgt := 91) hx hb dX5_readSquare_87 (by decide) ?_
    exact wX5_readSquare_91 C0 hK hA hret   _ _ _ _ _ hF _ _ _ hw (lv_sub hl [0, 1] rfl)
set_option maxHeartbeats 400000 in
set_option maxRecDepth 100000 in
theorem wX5_readSquare_48 {p : Program} {l : Launch} {e : Env} {s : State} {m : MethodId} {args : Array Value} {below : List Frame} {meth : Method} {c : Code} {A : Nat → Prop} {Q : State → Prop} {G : va_G} {k : Nat → ClassId} {ad : Nat → Nat} {thrown : Int32} {now : Nat → Int32} {saved : Nat → Int32} {hist : Nat → Nat → Int32} {kept : Int32} {reason : Int32} {detail : Int32} {isSaved : Int32} {comes : Nat → Int32} {queue : Nat → Int32} {far : Nat → Int32} {isInText : Int32} {ahead : Nat → Int32} {roomAt : Nat → Int32} {rooms : Int32} {text : Nat → Int32} {length : Int32} {errorPosition : Int32} {toldFrom : Int32} {toldTo : Int32} {before : Nat → Int32} {o : Int32 × Int32 × Int32} (C0 : zCx p s m args meth c wsX5_readSquare cX5_readSquare RX5 (some .int) 3) (hK : zKK G k A s s.heap) (hA : ∀ q : Nat, s.heap.size ≤ q → A q) (hret : zRI p l e rmX5_readSquare s m args below meth c cX5_readSquare G A 0 0 Q .int (zM ad k thrown now saved hist kept reason detail isSaved comes queue far isInText ahead roomAt rooms text length o.2.1 errorPosition toldFrom toldTo o.2.2 before) o.1)  : ∀ (at_ : Int32) (isWrong : Int32) (s0 : Int32), fX5_readSquare_48  text length at_ isWrong s0 = some o → ∀ (H : Heap) (locs : List Loc) (ls : Array Slot), zWd G A s (zM ad k thrown now saved hist kept reason detail isSaved comes queue far isInText ahead roomAt rooms text length at_ errorPosition toldFrom toldTo isWrong before) H locs → lv_has ls 3 [(0, .ref (ad 0))] → W p l e rmX5_readSquare s m args below meth c H locs 0 0 Q (F0 m 48 ls [.int s0]) := by
  obtain ⟨hx, hb, hr, hml, hown, hts, hlocks⟩ := id C0
  intro at_ isWrong s0 hF H locs ls hw hl
  unfold fX5_readSquare_48 at hF
  refine lv_istore_n (lv' := [(1, .int s0), (0, .ref (ad 0))]) hx hb dX5_readSquare_48 rfl hl (by decide) rfl (fun ls hl => ?_)
  refine lv_aload_n hx hb dX5_readSquare_49 rfl (lv_at hl 1 rfl) ?_
  refine lv_dup hx hb dX5_readSquare_50 rfl ?_
  refine va_get (D := G) (ci := 4) (v := .int at_) (C := RX5) (T := TX5) (N := 23) hx hb hts inX5_readSquare_X5 hown hK.1 hw.1 0 rfl rfl 17 (by decide) (hts (.fieldLink RX5 240 "SealedBoardModel" "at" "I") (by decide +kernel)) (fun _ h9 => h9) rfl dX5_readSquare_51 ?_
  refine lv_aload_n hx hb dX5_readSquare_54 rfl (lv_at hl 1 rfl) ?_
  refine va_get (D := G) (ci := 4) (v := .int isWrong) (C := RX5) (T := TX5) (N := 23) hx hb hts inX5_readSquare_X5 hown hK.1 hw.1 0 rfl rfl 21 (by decide) (hts (.fieldLink RX5 237 "SealedBoardModel" "isWrong" "Z") (by decide +kernel)) (fun _ h9 => h9) rfl dX5_readSquare_55 ?_
  refine lv_if_eq (tgt := 65) hx hb dX5_readSquare_58 (by decide) (fun hc => ?_) (fun hc => ?_)
  · have hF := zif_t hc hF
    refine lv_iconst (v := (1 : Int32)) hx hb dX5_readSquare_65 (by decide) ?_
    exact wX5_readSquare_66 C0 hK hA hret   _ _ _ _ _ hF _ _ _ hw (lv_sub hl [1, 0] rfl)
  · have hF := zif_f hc hF
    refine lv_iconst (v := (0 : Int32)) hx hb dX5_readSquare_61 (by decide) ?_
    refine lv_goto (tgt := 66) hx hb dX5_readSquare_62 (by decide) ?_
    exact wX5_readSquare_66 C0 hK hA hret   _ _ _ _ _ hF _ _ _ hw (lv_sub hl [1, 0] rfl)
set_option maxHeartbeats 400000 in
set_option maxRecDepth 100000 in
theorem wX5_readSquare_21 {p : Program} {l : Launch} {e : Env} {s : State} {m : MethodId} {args : Array Value} {below : List Frame} {meth : Method} {c : Code} {A : Nat → Prop} {Q : State → Prop} {G : va_G} {k : Nat → ClassId} {ad : Nat → Nat} {thrown : Int32} {now : Nat → Int32} {saved : Nat → Int32} {hist : Nat → Nat → Int32} {kept : Int32} {reason : Int32} {detail : Int32} {isSaved : Int32} {comes : Nat → Int32} {queue : Nat → Int32} {far : Nat → Int32} {isInText : Int32} {ahead : Nat → Int32} {roomAt : Nat → Int32} {rooms : Int32} {text : Nat → Int32} {length : Int32} {errorPosition : Int32} {toldFrom : Int32} {toldTo : Int32} {before : Nat → Int32} {o : Int32 × Int32 × Int32} (C0 : zCx p s m args meth c wsX5_readSquare cX5_readSquare RX5 (some .int) 3) (hK : zKK G k A s s.heap) (hA : ∀ q : Nat, s.heap.size ≤ q → A q) (hret : zRI p l e rmX5_readSquare s m args below meth c cX5_readSquare G A 0 0 Q .int (zM ad k thrown now saved hist kept reason detail isSaved comes queue far isInText ahead roomAt rooms text length o.2.1 errorPosition toldFrom toldTo o.2.2 before) o.1)  : ∀ (at_ : Int32) (isWrong : Int32) (s0 : Int32) (s1 : Int32), fX5_readSquare_21  text length at_ isWrong s0 s1 = some o → ∀ (H : Heap) (locs : List Loc) (ls : Array Slot), zWd G A s (zM ad k thrown now saved hist kept reason detail isSaved comes queue far isInText ahead roomAt rooms text length at_ errorPosition toldFrom toldTo isWrong before) H locs → lv_has ls 3 [(0, .ref (ad 0))] → W p l e rmX5_readSquare s m args below meth c H locs 0 0 Q (F0 m 21 ls [.int s0, .int s1, .ref (ad 0)]) := by
  obtain ⟨hx, hb, hr, hml, hown, hts, hlocks⟩ := id C0
  intro at_ isWrong s0 s1 hF H locs ls hw hl
  unfold fX5_readSquare_21 at hF
  refine lv_ior hx hb dX5_readSquare_21 ?_
  obtain ⟨hz2, hF⟩ := zck_t hF
  refine va_put (D := G) (ci := 4) (v := .int (s1 ||| s0)) (ty := .boolean) (C := RX5) (T := TX5) (N := 23) hx hb hts inX5_readSquare_X5 tyX5 tyX5_ok nmX5 hown hK.1 hw.1 hw.2.1 hw.2.2 0 rfl rfl 21 (by decide) (hts (.fieldLink RX5 237 "SealedBoardModel" "isWrong" "Z") (by decide +kernel)) (fun _ h9 => h9) rfl (by decide +kernel) (zbo_n hz2) (zbo_f hz2) (Nat.le_of_ble_eq_true rfl) dX5_readSquare_22 (fun H locs hP hD hS => ?_)
  have hw : zWd G A s (zM ad k thrown now saved hist kept reason detail isSaved comes queue far isInText ahead roomAt rooms text length at_ errorPosition toldFrom toldTo (s1 ||| s0) before) H locs := ⟨hP, hD, hS⟩
  refine lv_aload_n hx hb dX5_readSquare_25 rfl (lv_at hl 0 rfl) ?_
  refine va_get (D := G) (ci := 4) (v := .int (s1 ||| s0)) (C := RX5) (T := TX5) (N := 23) hx hb hts inX5_readSquare_X5 hown hK.1 hw.1 0 rfl rfl 21 (by decide) (hts (.fieldLink RX5 237 "SealedBoardModel" "isWrong" "Z") (by decide +kernel)) (fun _ h9 => h9) rfl dX5_readSquare_26 ?_
  refine lv_if_eq (tgt := 36) hx hb dX5_readSquare_29 (by decide) (fun hc => ?_) (fun hc => ?_)
  · have hF := zif_t hc hF
    refine lv_aload_n hx hb dX5_readSquare_36 rfl (lv_at hl 0 rfl) ?_
    refine va_get (D := G) (ci := 4) (v := .ref (ad 9)) (C := RX5) (T := TX5) (N := 23) hx hb hts inX5_readSquare_X5 hown hK.1 hw.1 0 rfl rfl 15 (by decide) (hts (.fieldLink RX5 37 "SealedBoardModel" "text" "[C") (by decide +kernel)) (fun _ h9 => h9) rfl dX5_readSquare_37 ?_
    refine lv_aload_n hx hb dX5_readSquare_40 rfl (lv_at hl 0 rfl) ?_
    refine va_get (D := G) (ci := 4) (v := .int at_) (C := RX5) (T := TX5) (N := 23) hx hb hts inX5_readSquare_X5 hown hK.1 hw.1 0 rfl rfl 17 (by decide) (hts (.fieldLink RX5 240 "SealedBoardModel" "at" "I") (by decide +kernel)) (fun _ h9 => h9) rfl dX5_readSquare_41 ?_
    obtain ⟨hi1, hF⟩ := zck_in hF
    refine va_cald hx hb hK.1 hw.1 9 1 rfl rfl hi1 dX5_readSquare_44 ?_
    refine lv_bipush (v := (97 : Int32)) hx hb dX5_readSquare_45 (by decide) ?_
    refine lv_isub hx hb dX5_readSquare_47 ?_
    exact wX5_readSquare_48 C0 hK hA hret   _ _ _ hF _ _ _ hw (lv_sub hl [0] rfl)
  · have hF := zif_f hc hF
    refine lv_iconst (v := (0 : Int32)) hx hb dX5_readSquare_32 (by decide) ?_
    refine lv_goto (tgt := 48) hx hb dX5_readSquare_33 (by decide) ?_
    exact wX5_readSquare_48 C0 hK hA hret   _ _ _ hF _ _ _ hw (lv_sub hl [0] rfl)
set_option maxHeartbeats 400000 in
set_option maxRecDepth 100000 in
theorem mX5_readSquare (l : Launch) (G : va_G) (k : Nat → ClassId) (ad : Nat → Nat) (sz : Nat) (thrown : Int32) (now : Nat → Int32) (saved : Nat → Int32) (hist : Nat → Nat → Int32) (kept : Int32) (reason : Int32) (detail : Int32) (isSaved : Int32) (comes : Nat → Int32) (queue : Nat → Int32) (far : Nat → Int32) (isInText : Int32) (ahead : Nat → Int32) (roomAt : Nat → Int32) (rooms : Int32) (text : Nat → Int32) (length : Int32) (at_ : Int32) (errorPosition : Int32) (toldFrom : Int32) (toldTo : Int32) (isWrong : Int32) (before : Nat → Int32)  (o : Int32 × Int32 × Int32) (hF : fX5_readSquare text length at_ isWrong = some o) : zMI l yX5_readSquare wsX5_readSquare rmX5_readSquare G k (zM ad k thrown now saved hist kept reason detail isSaved comes queue far isInText ahead roomAt rooms text length at_ errorPosition toldFrom toldTo isWrong before) sz [.ref (ad 0)] o.1 (zM ad k thrown now saved hist kept reason detail isSaved comes queue far isInText ahead roomAt rooms text length o.2.1 errorPosition toldFrom toldTo o.2.2 before) := by
  refine zof_I (cc := cX5_readSquare) (nL := 3) (own := RX5) (rt := .int) (by decide) rfl rfl (Nat.le_of_ble_eq_true rfl) ?_
  intro p e s m args below meth c A Q C0 hK hA hret ls hl hw
  have hl : lv_has ls 3 [(0, .ref (ad 0))] := hl
  obtain ⟨hx, hb, hr, hml, hown, hts, hlocks⟩ := id C0
  obtain ⟨H, hH⟩ : ∃ z, z = s.heap := ⟨_, rfl⟩
  rw [← hH] at hw ⊢
  unfold fX5_readSquare at hF
  refine lv_aload_n hx hb dX5_readSquare_0 rfl (lv_at hl 0 rfl) ?_
  refine lv_dup hx hb dX5_readSquare_1 rfl ?_
  refine va_get (D := G) (ci := 4) (v := .int isWrong) (C := RX5) (T := TX5) (N := 23) hx hb hts inX5_readSquare_X5 hown hK.1 hw.1 0 rfl rfl 21 (by decide) (hts (.fieldLink RX5 237 "SealedBoardModel" "isWrong" "Z") (by decide +kernel)) (fun _ h9 => h9) rfl dX5_readSquare_2 ?_
  refine lv_aload_n hx hb dX5_readSquare_5 rfl (lv_at hl 0 rfl) ?_
  refine lv_bipush (v := (97 : Int32)) hx hb dX5_readSquare_6 (by decide) ?_
  refine lv_bipush (v := (102 : Int32)) hx hb dX5_readSquare_8 (by decide) ?_
  obtain ⟨u1, hq2, hF⟩ := zbd_t hF
  refine zgoIw (w' := (zM ad k thrown now saved hist kept reason detail isSaved comes queue far isInText ahead roomAt rooms text length at_ errorPosition toldFrom toldTo isWrong before)) hw hA (zVw (As := [.int (97 : Int32), .int (102 : Int32)]) (rest := [.int isWrong, .ref (ad 0)]) ⟨hx, hb, hml, hown, hts⟩ (mX5_sees l G k ad H.size thrown now saved hist kept reason detail isSaved comes queue far isInText ahead roomAt rooms text length at_ errorPosition toldFrom toldTo isWrong before (97 : Int32) (102 : Int32) u1 hq2) (cwV 2 hts gX5_readSquare_X5_sees rfl rfl rfl kdX5_sees ⟨Nat.le_of_ble_eq_true rfl, Nat.le_of_ble_eq_true rfl⟩) hK hA hw 0 rfl rfl rfl rfl hl.1 rfl (Nat.le_of_ble_eq_true rfl) dX5_readSquare_10 ⟨Nat.le_of_ble_eq_true rfl, Nat.le_of_ble_eq_true rfl⟩) (fun H locs hw => ?_)
  refine lv_if_ne (tgt := 20) hx hb dX5_readSquare_13 (by decide) (fun hc => ?_) (fun hc => ?_)
  · have hF := zif_f hc hF
    refine lv_iconst (v := (0 : Int32)) hx hb dX5_readSquare_20 (by decide) ?_
    exact wX5_readSquare_21 C0 hK hA hret   _ _ _ _ hF _ _ _ hw (lv_sub hl [0] rfl)
  · have hF := zif_t hc hF
    refine lv_iconst (v := (1 : Int32)) hx hb dX5_readSquare_16 (by decide) ?_
    refine lv_goto (tgt := 21) hx hb dX5_readSquare_17 (by decide) ?_
    exact wX5_readSquare_21 C0 hK hA hret   _ _ _ _ hF _ _ _ hw (lv_sub hl [0] rfl)

/-! SealedBoardModel.readTurn()C -/
abbrev rmX5_readTurn : Room := { frames := 3, cells := 0, slots := 0, locals := 66 }
theorem kdX5_readTurn : yX5_readTurn.cls = RX5 ∧ yX5_readTurn.cls ≠ "java/lang/invoke/MethodHandle" ∧ yX5_readTurn.cls ≠ "java/lang/invoke/VarHandle" ∧ (parseMethodDescriptor yX5_readTurn.desc).map (fun d => d.parameters.length) = some 0 := by decide +kernel
theorem inX5_readTurn_X5 : ∀ w ∈ u_ws RX5 TX5 23, w ∈ wsX5_readTurn := by decide +kernel
def fX5_readTurn_64  (text : Nat → Int32) (length : Int32) (at_ : Int32) (toldFrom : Int32) (toldTo : Int32) (isWrong : Int32) (x1 : Int32) (s0 : Int32) (s1 : Int32) : Option (Int32 × Int32 × Int32 × Int32 × Int32) := (zck (zbo (s1 ||| s0)) (zbd (fX5_readSquare text length at_ (s1 ||| s0)) (fun u1 => (zck (zch x1) (some (x1, u1.2.1, toldFrom, u1.1, u1.2.2))))))
def fX5_readTurn_30  (text : Nat → Int32) (length : Int32) (at_ : Int32) (toldFrom : Int32) (toldTo : Int32) (isWrong : Int32) (s0 : Int32) : Option (Int32 × Int32 × Int32 × Int32 × Int32) := (zbd (fX5_readSquare text length at_ isWrong) (fun u1 => (if s0 = (45 : Int32) then (zbd (fX5_takes text length u1.2.1 u1.2.2 (45 : Int32)) (fun u4 => (if u4.1 = 0 then (fX5_readTurn_64  text length  u4.2 u1.1 toldTo u1.2.2 s0 (1 : Int32) u1.2.2) else (fX5_readTurn_64  text length  u4.2 u1.1 toldTo u1.2.2 s0 (0 : Int32) u1.2.2)))) else (zck (zch s0) (some (s0, u1.2.1, u1.1, toldTo, u1.2.2))))))
def fX5_readTurn (text : Nat → Int32) (length : Int32) (at_ : Int32) (toldFrom : Int32) (toldTo : Int32) (isWrong : Int32) : Option (Int32 × Int32 × Int32 × Int32 × Int32) := (zbd (fX5_takes text length at_ isWrong (43 : Int32)) (fun u1 => (if u1.1 = 0 then (zbd (fX5_takes text length u1.2 isWrong (42 : Int32)) (fun u3 => (if u3.1 = 0 then (fX5_readTurn_30  text length  u3.2 toldFrom toldTo isWrong (45 : Int32)) else (fX5_readTurn_30  text length  u3.2 toldFrom toldTo isWrong (42 : Int32))))) else (fX5_readTurn_30  text length  u1.2 toldFrom toldTo isWrong (43 : Int32)))))
set_option maxHeartbeats 400000 in
set_option maxRecDepth 100000 in
theorem wX5_readTurn_64 {p : Program} {l : Launch} {e : Env} {s : State} {m : MethodId} {args : Array Value} {below : List Frame} {meth : Method} {c : Code} {A : Nat → Prop} {Q : State → Prop} {G : va_G} {k : Nat → ClassId} {ad : Nat → Nat} {thrown : Int32} {now : Nat → Int32} {saved : Nat → Int32} {hist : Nat → Nat → Int32} {kept : Int32} {reason : Int32} {detail : Int32} {isSaved : Int32} {comes : Nat → Int32} {queue : Nat → Int32} {far : Nat → Int32} {isInText : Int32} {ahead : Nat → Int32} {roomAt : Nat → Int32} {rooms : Int32} {text : Nat → Int32} {length : Int32} {errorPosition : Int32} {before : Nat → Int32} {o : Int32 × Int32 × Int32 × Int32 × Int32} (C0 : zCx p s m args meth c wsX5_readTurn cX5_readTurn RX5 (some .char) 2) (hK : zKK G k A s s.heap) (hA : ∀ q : Nat, s.heap.size ≤ q → A q) (hret : zRI p l e rmX5_readTurn s m args below meth c cX5_readTurn G A 0 0 Q .char (zM ad k thrown now saved hist kept reason detail isSaved comes queue far isInText ahead roomAt rooms text length o.2.1 errorPosition o.2.2.1 o.2.2.2.1 o.2.2.2.2 before) o.1)  : ∀ (at_ : Int32) (toldFrom : Int32) (toldTo : Int32) (isWrong : Int32) (x1 : Int32) (s0 : Int32) (s1 : Int32), fX5_readTurn_64  text length at_ toldFrom toldTo isWrong x1 s0 s1 = some o → ∀ (H : Heap) (locs : List Loc) (ls : Array Slot), zWd G A s (zM ad k thrown now saved hist kept reason detail isSaved comes queue far isInText ahead roomAt rooms text length at_ errorPosition toldFrom toldTo isWrong before) H locs → lv_has ls 2 [(0, .ref (ad 0)), (1, .int x1)] → W p l e rmX5_readTurn s m args below meth c H locs 0 0 Q (F0 m 64 ls [.int s0, .int s1, .ref (ad 0)]) := by
  obtain ⟨hx, hb, hr, hml, hown, hts, hlocks⟩ := id C0
  intro at_ toldFrom toldTo isWrong x1 s0 s1 hF H locs ls hw hl
  unfold fX5_readTurn_64 at hF
  refine lv_ior hx hb dX5_readTurn_64 ?_
  obtain ⟨hz4, hF⟩ := zck_t hF
  refine va_put (D := G) (ci := 4) (v := .int (s1 ||| s0)) (ty := .boolean) (C := RX5) (T := TX5) (N := 23) hx hb hts inX5_readTurn_X5 tyX5 tyX5_ok nmX5 hown hK.1 hw.1 hw.2.1 hw.2.2 0 rfl rfl 21 (by decide) (hts (.fieldLink RX5 237 "SealedBoardModel" "isWrong" "Z") (by decide +kernel)) (fun _ h9 => h9) rfl (by decide +kernel) (zbo_n hz4) (zbo_f hz4) (Nat.le_of_ble_eq_true rfl) dX5_readTurn_65 (fun H locs hP hD hS => ?_)
  have hw : zWd G A s (zM ad k thrown now saved hist kept reason detail isSaved comes queue far isInText ahead roomAt rooms text length at_ errorPosition toldFrom toldTo (s1 ||| s0) before) H locs := ⟨hP, hD, hS⟩
  refine lv_aload_n hx hb dX5_readTurn_68 rfl (lv_at hl 0 rfl) ?_
  refine lv_aload_n hx hb dX5_readTurn_69 rfl (lv_at hl 0 rfl) ?_
  obtain ⟨u1, hq2, hF⟩ := zbd_t hF
  refine zgoIw (w' := (zM ad k thrown now saved hist kept reason detail isSaved comes queue far isInText ahead roomAt rooms text length u1.2.1 errorPosition toldFrom toldTo u1.2.2 before)) hw hA (zVw (As := []) (rest := [.ref (ad 0)]) ⟨hx, hb, hml, hown, hts⟩ (mX5_readSquare l G k ad H.size thrown now saved hist kept reason detail isSaved comes queue far isInText ahead roomAt rooms text length at_ errorPosition toldFrom toldTo (s1 ||| s0) before  u1 hq2) (cwV 0 hts gX5_readTurn_X5_readSquare rfl rfl rfl kdX5_readSquare ⟨Nat.le_of_ble_eq_true rfl, Nat.le_of_ble_eq_true rfl⟩) hK hA hw 0 rfl rfl rfl rfl hl.1 rfl (Nat.le_of_ble_eq_true rfl) dX5_readTurn_70 ⟨Nat.le_of_ble_eq_true rfl, Nat.le_of_ble_eq_true rfl⟩) (fun H locs hw => ?_)
  refine va_put (D := G) (ci := 4) (v := .int u1.1) (ty := .int) (C := RX5) (T := TX5) (N := 23) hx hb hts inX5_readTurn_X5 tyX5 tyX5_ok nmX5 hown hK.1 hw.1 hw.2.1 hw.2.2 0 rfl rfl 20 (by decide) (hts (.fieldLink RX5 257 "SealedBoardModel" "toldTo" "I") (by decide +kernel)) (fun _ h9 => h9) rfl (by decide +kernel) rfl rfl (Nat.le_of_ble_eq_true rfl) dX5_readTurn_73 (fun H locs hP hD hS => ?_)
  have hw : zWd G A s (zM ad k thrown now saved hist kept reason detail isSaved comes queue far isInText ahead roomAt rooms text length u1.2.1 errorPosition toldFrom u1.1 u1.2.2 before) H locs := ⟨hP, hD, hS⟩
  refine lv_iload_n hx hb dX5_readTurn_76 rfl (lv_at hl 1 rfl) ?_
  obtain ⟨hz3, hF⟩ := zck_t hF
  obtain rfl := Option.some.inj hF
  exact hret _ _ _ _ (zch_n hz3) hw dX5_readTurn_77
set_option maxHeartbeats 400000 in
set_option maxRecDepth 100000 in
theorem wX5_readTurn_30 {p : Program} {l : Launch} {e : Env} {s : State} {m : MethodId} {args : Array Value} {below : List Frame} {meth : Method} {c : Code} {A : Nat → Prop} {Q : State → Prop} {G : va_G} {k : Nat → ClassId} {ad : Nat → Nat} {thrown : Int32} {now : Nat → Int32} {saved : Nat → Int32} {hist : Nat → Nat → Int32} {kept : Int32} {reason : Int32} {detail : Int32} {isSaved : Int32} {comes : Nat → Int32} {queue : Nat → Int32} {far : Nat → Int32} {isInText : Int32} {ahead : Nat → Int32} {roomAt : Nat → Int32} {rooms : Int32} {text : Nat → Int32} {length : Int32} {errorPosition : Int32} {before : Nat → Int32} {o : Int32 × Int32 × Int32 × Int32 × Int32} (C0 : zCx p s m args meth c wsX5_readTurn cX5_readTurn RX5 (some .char) 2) (hK : zKK G k A s s.heap) (hA : ∀ q : Nat, s.heap.size ≤ q → A q) (hret : zRI p l e rmX5_readTurn s m args below meth c cX5_readTurn G A 0 0 Q .char (zM ad k thrown now saved hist kept reason detail isSaved comes queue far isInText ahead roomAt rooms text length o.2.1 errorPosition o.2.2.1 o.2.2.2.1 o.2.2.2.2 before) o.1)  : ∀ (at_ : Int32) (toldFrom : Int32) (toldTo : Int32) (isWrong : Int32) (s0 : Int32), fX5_readTurn_30  text length at_ toldFrom toldTo isWrong s0 = some o → ∀ (H : Heap) (locs : List Loc) (ls : Array Slot), zWd G A s (zM ad k thrown now saved hist kept reason detail isSaved comes queue far isInText ahead roomAt rooms text length at_ errorPosition toldFrom toldTo isWrong before) H locs → lv_has ls 2 [(0, .ref (ad 0))] → W p l e rmX5_readTurn s m args below meth c H locs 0 0 Q (F0 m 30 ls [.int s0]) := by
  obtain ⟨hx, hb, hr, hml, hown, hts, hlocks⟩ := id C0
  intro at_ toldFrom toldTo isWrong s0 hF H locs ls hw hl
  unfold fX5_readTurn_30 at hF
  refine lv_istore_n (lv' := [(1, .int s0), (0, .ref (ad 0))]) hx hb dX5_readTurn_30 rfl hl (by decide) rfl (fun ls hl => ?_)
  refine lv_aload_n hx hb dX5_readTurn_31 rfl (lv_at hl 1 rfl) ?_
  refine lv_aload_n hx hb dX5_readTurn_32 rfl (lv_at hl 1 rfl) ?_
  obtain ⟨u1, hq2, hF⟩ := zbd_t hF
  refine zgoIw (w' := (zM ad k thrown now saved hist kept reason detail isSaved comes queue far isInText ahead roomAt rooms text length u1.2.1 errorPosition toldFrom toldTo u1.2.2 before)) hw hA (zVw (As := []) (rest := [.ref (ad 0)]) ⟨hx, hb, hml, hown, hts⟩ (mX5_readSquare l G k ad H.size thrown now saved hist kept reason detail isSaved comes queue far isInText ahead roomAt rooms text length at_ errorPosition toldFrom toldTo isWrong before  u1 hq2) (cwV 0 hts gX5_readTurn_X5_readSquare rfl rfl rfl kdX5_readSquare ⟨Nat.le_of_ble_eq_true rfl, Nat.le_of_ble_eq_true rfl⟩) hK hA hw 0 rfl rfl rfl rfl hl.1 rfl (Nat.le_of_ble_eq_true rfl) dX5_readTurn_33 ⟨Nat.le_of_ble_eq_true rfl, Nat.le_of_ble_eq_true rfl⟩) (fun H locs hw => ?_)
  refine va_put (D := G) (ci := 4) (v := .int u1.1) (ty := .int) (C := RX5) (T := TX5) (N := 23) hx hb hts inX5_readTurn_X5 tyX5 tyX5_ok nmX5 hown hK.1 hw.1 hw.2.1 hw.2.2 0 rfl rfl 19 (by decide) (hts (.fieldLink RX5 254 "SealedBoardModel" "toldFrom" "I") (by decide +kernel)) (fun _ h9 => h9) rfl (by decide +kernel) rfl rfl (Nat.le_of_ble_eq_true rfl) dX5_readTurn_36 (fun H locs hP hD hS => ?_)
  have hw : zWd G A s (zM ad k thrown now saved hist kept reason detail isSaved comes queue far isInText ahead roomAt rooms text length u1.2.1 errorPosition u1.1 toldTo u1.2.2 before) H locs := ⟨hP, hD, hS⟩
  refine lv_iload_n hx hb dX5_readTurn_39 rfl (lv_at hl 0 rfl) ?_
  refine lv_bipush (v := (45 : Int32)) hx hb dX5_readTurn_40 (by decide) ?_
  refine lv_icmp_ne (tgt := 76) hx hb dX5_readTurn_42 (by decide) (fun hc => ?_) (fun hc => ?_)
  · have hF := zif_f hc hF
    refine lv_iload_n hx hb dX5_readTurn_76 rfl (lv_at hl 0 rfl) ?_
    obtain ⟨hz3, hF⟩ := zck_t hF
    obtain rfl := Option.some.inj hF
    exact hret _ _ _ _ (zch_n hz3) hw dX5_readTurn_77
  · have hF := zif_t hc hF
    refine lv_aload_n hx hb dX5_readTurn_45 rfl (lv_at hl 1 rfl) ?_
    refine lv_dup hx hb dX5_readTurn_46 rfl ?_
    refine va_get (D := G) (ci := 4) (v := .int u1.2.2) (C := RX5) (T := TX5) (N := 23) hx hb hts inX5_readTurn_X5 hown hK.1 hw.1 0 rfl rfl 21 (by decide) (hts (.fieldLink RX5 237 "SealedBoardModel" "isWrong" "Z") (by decide +kernel)) (fun _ h9 => h9) rfl dX5_readTurn_47 ?_
    refine lv_aload_n hx hb dX5_readTurn_50 rfl (lv_at hl 1 rfl) ?_
    refine lv_bipush (v := (45 : Int32)) hx hb dX5_readTurn_51 (by decide) ?_
    obtain ⟨u4, hq5, hF⟩ := zbd_t hF
    refine zgoIw (w' := (zM ad k thrown now saved hist kept reason detail isSaved comes queue far isInText ahead roomAt rooms text length u4.2 errorPosition u1.1 toldTo u1.2.2 before)) hw hA (zVw (As := [.int (45 : Int32)]) (rest := [.int u1.2.2, .ref (ad 0)]) ⟨hx, hb, hml, hown, hts⟩ (mX5_takes l G k ad H.size thrown now saved hist kept reason detail isSaved comes queue far isInText ahead roomAt rooms text length u1.2.1 errorPosition u1.1 toldTo u1.2.2 before (45 : Int32) u4 hq5) (cwV 1 hts gX5_readTurn_X5_takes rfl rfl rfl kdX5_takes ⟨Nat.le_of_ble_eq_true rfl, Nat.le_of_ble_eq_true rfl⟩) hK hA hw 0 rfl rfl rfl rfl hl.1 rfl (Nat.le_of_ble_eq_true rfl) dX5_readTurn_53 ⟨Nat.le_of_ble_eq_true rfl, Nat.le_of_ble_eq_true rfl⟩) (fun H locs hw => ?_)
    refine lv_if_ne (tgt := 63) hx hb dX5_readTurn_56 (by decide) (fun hc => ?_) (fun hc => ?_)
    · have hF := zif_f hc hF
      refine lv_iconst (v := (0 : Int32)) hx hb dX5_readTurn_63 (by decide) ?_
      exact wX5_readTurn_64 C0 hK hA hret   _ _ _ _ _ _ _ hF _ _ _ hw (lv_sub hl [1, 0] rfl)
    · have hF := zif_t hc hF
      refine lv_iconst (v := (1 : Int32)) hx hb dX5_readTurn_59 (by decide) ?_
      refine lv_goto (tgt := 64) hx hb dX5_readTurn_60 (by decide) ?_
      exact wX5_readTurn_64 C0 hK hA hret   _ _ _ _ _ _ _ hF _ _ _ hw (lv_sub hl [1, 0] rfl)
set_option maxHeartbeats 400000 in
set_option maxRecDepth 100000 in
theorem mX5_readTurn (l : Launch) (G : va_G) (k : Nat → ClassId) (ad : Nat → Nat) (sz : Nat) (thrown : Int32) (now : Nat → Int32) (saved : Nat → Int32) (hist : Nat → Nat → Int32) (kept : Int32) (reason : Int32) (detail : Int32) (isSaved : Int32) (comes : Nat → Int32) (queue : Nat → Int32) (far : Nat → Int32) (isInText : Int32) (ahead : Nat → Int32) (roomAt : Nat → Int32) (rooms : Int32) (text : Nat → Int32) (length : Int32) (at_ : Int32) (errorPosition : Int32) (toldFrom : Int32) (toldTo : Int32) (isWrong : Int32) (before : Nat → Int32)  (o : Int32 × Int32 × Int32 × Int32 × Int32) (hF : fX5_readTurn text length at_ toldFrom toldTo isWrong = some o) : zMI l yX5_readTurn wsX5_readTurn rmX5_readTurn G k (zM ad k thrown now saved hist kept reason detail isSaved comes queue far isInText ahead roomAt rooms text length at_ errorPosition toldFrom toldTo isWrong before) sz [.ref (ad 0)] o.1 (zM ad k thrown now saved hist kept reason detail isSaved comes queue far isInText ahead roomAt rooms text length o.2.1 errorPosition o.2.2.1 o.2.2.2.1 o.2.2.2.2 before) := by
  refine zof_I (cc := cX5_readTurn) (nL := 2) (own := RX5) (rt := .char) (by decide) rfl rfl (Nat.le_of_ble_eq_true rfl) ?_
  intro p e s m args below meth c A Q C0 hK hA hret ls hl hw
  have hl : lv_has ls 2 [(0, .ref (ad 0))] := hl
  obtain ⟨hx, hb, hr, hml, hown, hts, hlocks⟩ := id C0
  obtain ⟨H, hH⟩ : ∃ z, z = s.heap := ⟨_, rfl⟩
  rw [← hH] at hw ⊢
  unfold fX5_readTurn at hF
  refine lv_aload_n hx hb dX5_readTurn_0 rfl (lv_at hl 0 rfl) ?_
  refine lv_bipush (v := (43 : Int32)) hx hb dX5_readTurn_1 (by decide) ?_
  obtain ⟨u1, hq2, hF⟩ := zbd_t hF
  refine zgoIw (w' := (zM ad k thrown now saved hist kept reason detail isSaved comes queue far isInText ahead roomAt rooms text length u1.2 errorPosition toldFrom toldTo isWrong before)) hw hA (zVw (As := [.int (43 : Int32)]) (rest := []) ⟨hx, hb, hml, hown, hts⟩ (mX5_takes l G k ad H.size thrown now saved hist kept reason detail isSaved comes queue far isInText ahead roomAt rooms text length at_ errorPosition toldFrom toldTo isWrong before (43 : Int32) u1 hq2) (cwV 1 hts gX5_readTurn_X5_takes rfl rfl rfl kdX5_takes ⟨Nat.le_of_ble_eq_true rfl, Nat.le_of_ble_eq_true rfl⟩) hK hA hw 0 rfl rfl rfl rfl hl.1 rfl (Nat.le_of_ble_eq_true rfl) dX5_readTurn_3 ⟨Nat.le_of_ble_eq_true rfl, Nat.le_of_ble_eq_true rfl⟩) (fun H locs hw => ?_)
  refine lv_if_eq (tgt := 14) hx hb dX5_readTurn_6 (by decide) (fun hc => ?_) (fun hc => ?_)
  · have hF := zif_t hc hF
    refine lv_aload_n hx hb dX5_readTurn_14 rfl (lv_at hl 0 rfl) ?_
    refine lv_bipush (v := (42 : Int32)) hx hb dX5_readTurn_15 (by decide) ?_
    obtain ⟨u3, hq4, hF⟩ := zbd_t hF
    refine zgoIw (w' := (zM ad k thrown now saved hist kept reason detail isSaved comes queue far isInText ahead roomAt rooms text length u3.2 errorPosition toldFrom toldTo isWrong before)) hw hA (zVw (As := [.int (42 : Int32)]) (rest := []) ⟨hx, hb, hml, hown, hts⟩ (mX5_takes l G k ad H.size thrown now saved hist kept reason detail isSaved comes queue far isInText ahead roomAt rooms text length u1.2 errorPosition toldFrom toldTo isWrong before (42 : Int32) u3 hq4) (cwV 1 hts gX5_readTurn_X5_takes rfl rfl rfl kdX5_takes ⟨Nat.le_of_ble_eq_true rfl, Nat.le_of_ble_eq_true rfl⟩) hK hA hw 0 rfl rfl rfl rfl hl.1 rfl (Nat.le_of_ble_eq_true rfl) dX5_readTurn_17 ⟨Nat.le_of_ble_eq_true rfl, Nat.le_of_ble_eq_true rfl⟩) (fun H locs hw => ?_)
    refine lv_if_eq (tgt := 28) hx hb dX5_readTurn_20 (by decide) (fun hc => ?_) (fun hc => ?_)
    · have hF := zif_t hc hF
      refine lv_bipush (v := (45 : Int32)) hx hb dX5_readTurn_28 (by decide) ?_
      exact wX5_readTurn_30 C0 hK hA hret   _ _ _ _ _ hF _ _ _ hw (lv_sub hl [0] rfl)
    · have hF := zif_f hc hF
      refine lv_bipush (v := (42 : Int32)) hx hb dX5_readTurn_23 (by decide) ?_
      refine lv_goto (tgt := 30) hx hb dX5_readTurn_25 (by decide) ?_
      exact wX5_readTurn_30 C0 hK hA hret   _ _ _ _ _ hF _ _ _ hw (lv_sub hl [0] rfl)
  · have hF := zif_f hc hF
    refine lv_bipush (v := (43 : Int32)) hx hb dX5_readTurn_9 (by decide) ?_
    refine lv_goto (tgt := 30) hx hb dX5_readTurn_11 (by decide) ?_
    exact wX5_readTurn_30 C0 hK hA hret   _ _ _ _ _ hF _ _ _ hw (lv_sub hl [0] rfl)

/-! SealedBoardModel.countTurns()I -/
abbrev rmX5_countTurns : Room := { frames := 4, cells := 0, slots := 0, locals := 87 }
theorem kdX5_countTurns : yX5_countTurns.cls = RX5 ∧ yX5_countTurns.cls ≠ "java/lang/invoke/MethodHandle" ∧ yX5_countTurns.cls ≠ "java/lang/invoke/VarHandle" ∧ (parseMethodDescriptor yX5_countTurns.desc).map (fun d => d.parameters.length) = some 0 := by decide +kernel
theorem inX5_countTurns_X5 : ∀ w ∈ u_ws RX5 TX5 23, w ∈ wsX5_countTurns := by decide +kernel
def fX5_countTurns_50 (k17 : Int32 → Int32 → Int32 → Int32 → Int32 → Option (Int32 × Int32 × Int32 × Int32 × Int32)) (text : Nat → Int32) (length : Int32) (at_ : Int32) (toldFrom : Int32) (toldTo : Int32) (isWrong : Int32) (x1 : Int32) (s0 : Int32) : Option (Int32 × Int32 × Int32 × Int32 × Int32) := (zck (zbo s0) (zbd (fX5_readTurn text length at_ toldFrom toldTo s0) (fun u1 => (zbn (x1 + (1 : Int32)) (fun a3 => (k17 u1.2.1 u1.2.2.1 u1.2.2.2.1 u1.2.2.2.2 a3))))))
def fX5_countTurns_17  (text : Nat → Int32) (length : Int32) : Nat → Int32 → Int32 → Int32 → Int32 → Int32 → Option (Int32 × Int32 × Int32 × Int32 × Int32)
  | 0, _, _, _, _, _ => none
  | n + 1, at_, toldFrom, toldTo, isWrong, x1 => (if isWrong = 0 then (if length ≤ at_ then (some (x1, at_, toldFrom, toldTo, isWrong)) else (zbd (fX5_takes text length at_ isWrong (59 : Int32)) (fun u1 => (if u1.1 = 0 then (fX5_countTurns_50 (fun b0 b1 b2 b3 b4 => fX5_countTurns_17  text length n b0 b1 b2 b3 b4) text length  u1.2 toldFrom toldTo isWrong x1 (1 : Int32)) else (fX5_countTurns_50 (fun b0 b1 b2 b3 b4 => fX5_countTurns_17  text length n b0 b1 b2 b3 b4) text length  u1.2 toldFrom toldTo isWrong x1 (0 : Int32)))))) else (some (x1, at_, toldFrom, toldTo, isWrong)))
def fX5_countTurns (text : Nat → Int32) (length : Int32) (at_ : Int32) (toldFrom : Int32) (toldTo : Int32) (isWrong : Int32) : Option (Int32 × Int32 × Int32 × Int32 × Int32) := (zbd (fX5_readTurn text length (0 : Int32) toldFrom toldTo (0 : Int32)) (fun u1 => (fX5_countTurns_17  text length zFu u1.2.1 u1.2.2.1 u1.2.2.2.1 u1.2.2.2.2 (1 : Int32))))
set_option maxHeartbeats 400000 in
set_option maxRecDepth 100000 in
theorem wX5_countTurns_50 {p : Program} {l : Launch} {e : Env} {s : State} {m : MethodId} {args : Array Value} {below : List Frame} {meth : Method} {c : Code} {A : Nat → Prop} {Q : State → Prop} {G : va_G} {k : Nat → ClassId} {ad : Nat → Nat} {thrown : Int32} {now : Nat → Int32} {saved : Nat → Int32} {hist : Nat → Nat → Int32} {kept : Int32} {reason : Int32} {detail : Int32} {isSaved : Int32} {comes : Nat → Int32} {queue : Nat → Int32} {far : Nat → Int32} {isInText : Int32} {ahead : Nat → Int32} {roomAt : Nat → Int32} {rooms : Int32} {text : Nat → Int32} {length : Int32} {errorPosition : Int32} {before : Nat → Int32} {o : Int32 × Int32 × Int32 × Int32 × Int32} (C0 : zCx p s m args meth c wsX5_countTurns cX5_countTurns RX5 (some .int) 2) (hK : zKK G k A s s.heap) (hA : ∀ q : Nat, s.heap.size ≤ q → A q) (hret : zRI p l e rmX5_countTurns s m args below meth c cX5_countTurns G A 0 0 Q .int (zM ad k thrown now saved hist kept reason detail isSaved comes queue far isInText ahead roomAt rooms text length o.2.1 errorPosition o.2.2.1 o.2.2.2.1 o.2.2.2.2 before) o.1) (k17 : Int32 → Int32 → Int32 → Int32 → Int32 → Option (Int32 × Int32 × Int32 × Int32 × Int32)) (hk17 : ∀ (at_ : Int32) (toldFrom : Int32) (toldTo : Int32) (isWrong : Int32) (x1 : Int32), k17 at_ toldFrom toldTo isWrong x1 = some o → ∀ (H : Heap) (locs : List Loc) (ls : Array Slot), zWd G A s (zM ad k thrown now saved hist kept reason detail isSaved comes queue far isInText ahead roomAt rooms text length at_ errorPosition toldFrom toldTo isWrong before) H locs → lv_has ls 2 [(0, .ref (ad 0)), (1, .int x1)] → W p l e rmX5_countTurns s m args below meth c H locs 0 0 Q (F0 m 17 ls [])) : ∀ (at_ : Int32) (toldFrom : Int32) (toldTo : Int32) (isWrong : Int32) (x1 : Int32) (s0 : Int32), fX5_countTurns_50 k17 text length at_ toldFrom toldTo isWrong x1 s0 = some o → ∀ (H : Heap) (locs : List Loc) (ls : Array Slot), zWd G A s (zM ad k thrown now saved hist kept reason detail isSaved comes queue far isInText ahead roomAt rooms text length at_ errorPosition toldFrom toldTo isWrong before) H locs → lv_has ls 2 [(0, .ref (ad 0)), (1, .int x1)] → W p l e rmX5_countTurns s m args below meth c H locs 0 0 Q (F0 m 50 ls [.int s0, .ref (ad 0)]) := by
  obtain ⟨hx, hb, hr, hml, hown, hts, hlocks⟩ := id C0
  intro at_ toldFrom toldTo isWrong x1 s0 hF H locs ls hw hl
  unfold fX5_countTurns_50 at hF
  obtain ⟨hz4, hF⟩ := zck_t hF
  refine va_put (D := G) (ci := 4) (v := .int s0) (ty := .boolean) (C := RX5) (T := TX5) (N := 23) hx hb hts inX5_countTurns_X5 tyX5 tyX5_ok nmX5 hown hK.1 hw.1 hw.2.1 hw.2.2 0 rfl rfl 21 (by decide) (hts (.fieldLink RX5 237 "SealedBoardModel" "isWrong" "Z") (by decide +kernel)) (fun _ h9 => h9) rfl (by decide +kernel) (zbo_n hz4) (zbo_f hz4) (Nat.le_of_ble_eq_true rfl) dX5_countTurns_50 (fun H locs hP hD hS => ?_)
  have hw : zWd G A s (zM ad k thrown now saved hist kept reason detail isSaved comes queue far isInText ahead roomAt rooms text length at_ errorPosition toldFrom toldTo s0 before) H locs := ⟨hP, hD, hS⟩
  refine lv_aload_n hx hb dX5_countTurns_53 rfl (lv_at hl 0 rfl) ?_
  obtain ⟨u1, hq2, hF⟩ := zbd_t hF
  refine zgoIw (w' := (zM ad k thrown now saved hist kept reason detail isSaved comes queue far isInText ahead roomAt rooms text length u1.2.1 errorPosition u1.2.2.1 u1.2.2.2.1 u1.2.2.2.2 before)) hw hA (zVw (As := []) (rest := []) ⟨hx, hb, hml, hown, hts⟩ (mX5_readTurn l G k ad H.size thrown now saved hist kept reason detail isSaved comes queue far isInText ahead roomAt rooms text length at_ errorPosition toldFrom toldTo s0 before  u1 hq2) (cwV 0 hts gX5_countTurns_X5_readTurn rfl rfl rfl kdX5_readTurn ⟨Nat.le_of_ble_eq_true rfl, Nat.le_of_ble_eq_true rfl⟩) hK hA hw 0 rfl rfl rfl rfl hl.1 rfl (Nat.le_of_ble_eq_true rfl) dX5_countTurns_54 ⟨Nat.le_of_ble_eq_true rfl, Nat.le_of_ble_eq_true rfl⟩) (fun H locs hw => ?_)
  refine lv_pop hx hb dX5_countTurns_57 rfl ?_
  obtain ⟨a3, ea3⟩ : ∃ z : Int32, z = x1 + (1 : Int32) := ⟨_, rfl⟩
  have hF := zbn_t ea3 hF
  refine lv_iinc (v := a3) (lv' := [(1, .int a3), (0, .ref (ad 0))]) hx hb dX5_countTurns_58 hl (k := 1) rfl (by rw [ea3]; rfl) (by decide) rfl (fun ls hl => ?_)
  refine lv_goto (tgt := 17) hx hb dX5_countTurns_61 (by decide) ?_
  exact hk17 _ _ _ _ _ hF _ _ _ hw (lv_sub hl [1, 0] rfl)
set_option maxHeartbeats 400000 in
set_option maxRecDepth 100000 in
theorem wX5_countTurns_17 {p : Program} {l : Launch} {e : Env} {s : State} {m : MethodId} {args : Array Value} {below : List Frame} {meth : Method} {c : Code} {A : Nat → Prop} {Q : State → Prop} {G : va_G} {k : Nat → ClassId} {ad : Nat → Nat} {thrown : Int32} {now : Nat → Int32} {saved : Nat → Int32} {hist : Nat → Nat → Int32} {kept : Int32} {reason : Int32} {detail : Int32} {isSaved : Int32} {comes : Nat → Int32} {queue : Nat → Int32} {far : Nat → Int32} {isInText : Int32} {ahead : Nat → Int32} {roomAt : Nat → Int32} {rooms : Int32} {text : Nat → Int32} {length : Int32} {errorPosition : Int32} {before : Nat → Int32} {o : Int32 × Int32 × Int32 × Int32 × Int32} (C0 : zCx p s m args meth c wsX5_countTurns cX5_countTurns RX5 (some .int) 2) (hK : zKK G k A s s.heap) (hA : ∀ q : Nat, s.heap.size ≤ q → A q) (hret : zRI p l e rmX5_countTurns s m args below meth c cX5_countTurns G A 0 0 Q .int (zM ad k thrown now saved hist kept reason detail isSaved comes queue far isInText ahead roomAt rooms text length o.2.1 errorPosition o.2.2.1 o.2.2.2.1 o.2.2.2.2 before) o.1)  : ∀ (n : Nat) (at_ : Int32) (toldFrom : Int32) (toldTo : Int32) (isWrong : Int32) (x1 : Int32), fX5_countTurns_17  text length n at_ toldFrom toldTo isWrong x1 = some o → ∀ (H : Heap) (locs : List Loc) (ls : Array Slot), zWd G A s (zM ad k thrown now saved hist kept reason detail isSaved comes queue far isInText ahead roomAt rooms text length at_ errorPosition toldFrom toldTo isWrong before) H locs → lv_has ls 2 [(0, .ref (ad 0)), (1, .int x1)] → W p l e rmX5_countTurns s m args below meth c H locs 0 0 Q (F0 m 17 ls []) := by
  obtain ⟨hx, hb, hr, hml, hown, hts, hlocks⟩ := id C0
  intro n
  induction n with
  | zero => intro at_ toldFrom toldTo isWrong x1 hF; exact nomatch hF
  | succ n ih =>
    intro at_ toldFrom toldTo isWrong x1 hF H locs ls hw hl
    rw [fX5_countTurns_17] at hF
    refine lv_aload_n hx hb dX5_countTurns_17 rfl (lv_at hl 0 rfl) ?_
    refine va_get (D := G) (ci := 4) (v := .int isWrong) (C := RX5) (T := TX5) (N := 23) hx hb hts inX5_countTurns_X5 hown hK.1 hw.1 0 rfl rfl 21 (by decide) (hts (.fieldLink RX5 237 "SealedBoardModel" "isWrong" "Z") (by decide +kernel)) (fun _ h9 => h9) rfl dX5_countTurns_18 ?_
    refine lv_if_ne (tgt := 64) hx hb dX5_countTurns_21 (by decide) (fun hc => ?_) (fun hc => ?_)
    · have hF := zif_f hc hF
      refine lv_iload_n hx hb dX5_countTurns_64 rfl (lv_at hl 1 rfl) ?_
      obtain rfl := Option.some.inj hF
      exact hret _ _ _ _ rfl hw dX5_countTurns_65
    · have hF := zif_t hc hF
      refine lv_aload_n hx hb dX5_countTurns_24 rfl (lv_at hl 0 rfl) ?_
      refine va_get (D := G) (ci := 4) (v := .int at_) (C := RX5) (T := TX5) (N := 23) hx hb hts inX5_countTurns_X5 hown hK.1 hw.1 0 rfl rfl 17 (by decide) (hts (.fieldLink RX5 240 "SealedBoardModel" "at" "I") (by decide +kernel)) (fun _ h9 => h9) rfl dX5_countTurns_25 ?_
      refine lv_aload_n hx hb dX5_countTurns_28 rfl (lv_at hl 0 rfl) ?_
      refine va_get (D := G) (ci := 4) (v := .int length) (C := RX5) (T := TX5) (N := 23) hx hb hts inX5_countTurns_X5 hown hK.1 hw.1 0 rfl rfl 16 (by decide) (hts (.fieldLink RX5 234 "SealedBoardModel" "length" "I") (by decide +kernel)) (fun _ h9 => h9) rfl dX5_countTurns_29 ?_
      refine lv_icmp_ge (tgt := 64) hx hb dX5_countTurns_32 (by decide) (fun hc => ?_) (fun hc => ?_)
      · have hF := zif_t hc hF
        refine lv_iload_n hx hb dX5_countTurns_64 rfl (lv_at hl 1 rfl) ?_
        obtain rfl := Option.some.inj hF
        exact hret _ _ _ _ rfl hw dX5_countTurns_65
      · have hF := zif_f hc hF
        refine lv_aload_n hx hb dX5_countTurns_35 rfl (lv_at hl 0 rfl) ?_
        refine lv_aload_n hx hb dX5_countTurns_36 rfl (lv_at hl 0 rfl) ?_
        refine lv_bipush (v := (59 : Int32)) hx hb dX5_countTurns_37 (by decide) ?_
        obtain ⟨u1, hq2, hF⟩ := zbd_t hF
        refine zgoIw (w' := (zM ad k thrown now saved hist kept reason detail isSaved comes queue far isInText ahead roomAt rooms text length u1.2 errorPosition toldFrom toldTo isWrong before)) hw hA (zVw (As := [.int (59 : Int32)]) (rest := [.ref (ad 0)]) ⟨hx, hb, hml, hown, hts⟩ (mX5_takes l G k ad H.size thrown now saved hist kept reason detail isSaved comes queue far isInText ahead roomAt rooms text length at_ errorPosition toldFrom toldTo isWrong before (59 : Int32) u1 hq2) (cwV 1 hts gX5_countTurns_X5_takes rfl rfl rfl kdX5_takes ⟨Nat.le_of_ble_eq_true rfl, Nat.le_of_ble_eq_true rfl⟩) hK hA hw 0 rfl rfl rfl rfl hl.1 rfl (Nat.le_of_ble_eq_true rfl) dX5_countTurns_39 ⟨Nat.le_of_ble_eq_true rfl, Nat.le_of_ble_eq_true rfl⟩) (fun H locs hw => ?_)
        refine lv_if_ne (tgt := 49) hx hb dX5_countTurns_42 (by decide) (fun hc => ?_) (fun hc => ?_)
        · have hF := zif_f hc hF
          refine lv_iconst (v := (0 : Int32)) hx hb dX5_countTurns_49 (by decide) ?_
          exact wX5_countTurns_50 C0 hK hA hret (fun b0 b1 b2 b3 b4 => fX5_countTurns_17  text length n b0 b1 b2 b3 b4) ih  _ _ _ _ _ _ hF _ _ _ hw (lv_sub hl [0, 1] rfl)
        · have hF := zif_t hc hF
          refine lv_iconst (v := (1 : Int32)) hx hb dX5_countTurns_45 (by decide) ?_
          refine lv_goto (tgt := 50) hx hb dX5_countTurns_46 (by decide) ?_
          exact wX5_countTurns_50 C0 hK hA hret (fun b0 b1 b2 b3 b4 => fX5_countTurns_17  text length n b0 b1 b2 b3 b4) ih  _ _ _ _ _ _ hF _ _ _ hw (lv_sub hl [0, 1] rfl)
set_option maxHeartbeats 400000 in
set_option maxRecDepth 100000 in
theorem mX5_countTurns (l : Launch) (G : va_G) (k : Nat → ClassId) (ad : Nat → Nat) (sz : Nat) (thrown : Int32) (now : Nat → Int32) (saved : Nat → Int32) (hist : Nat → Nat → Int32) (kept : Int32) (reason : Int32) (detail : Int32) (isSaved : Int32) (comes : Nat → Int32) (queue : Nat → Int32) (far : Nat → Int32) (isInText : Int32) (ahead : Nat → Int32) (roomAt : Nat → Int32) (rooms : Int32) (text : Nat → Int32) (length : Int32) (at_ : Int32) (errorPosition : Int32) (toldFrom : Int32) (toldTo : Int32) (isWrong : Int32) (before : Nat → Int32)  (o : Int32 × Int32 × Int32 × Int32 × Int32) (hF : fX5_countTurns text length at_ toldFrom toldTo isWrong = some o) : zMI l yX5_countTurns wsX5_countTurns rmX5_countTurns G k (zM ad k thrown now saved hist kept reason detail isSaved comes queue far isInText ahead roomAt rooms text length at_ errorPosition toldFrom toldTo isWrong before) sz [.ref (ad 0)] o.1 (zM ad k thrown now saved hist kept reason detail isSaved comes queue far isInText ahead roomAt rooms text length o.2.1 errorPosition o.2.2.1 o.2.2.2.1 o.2.2.2.2 before) := by
  refine zof_I (cc := cX5_countTurns) (nL := 2) (own := RX5) (rt := .int) (by decide) rfl rfl (Nat.le_of_ble_eq_true rfl) ?_
  intro p e s m args below meth c A Q C0 hK hA hret ls hl hw
  have hl : lv_has ls 2 [(0, .ref (ad 0))] := hl
  obtain ⟨hx, hb, hr, hml, hown, hts, hlocks⟩ := id C0
  obtain ⟨H, hH⟩ : ∃ z, z = s.heap := ⟨_, rfl⟩
  rw [← hH] at hw ⊢
  unfold fX5_countTurns at hF
  refine lv_aload_n hx hb dX5_countTurns_0 rfl (lv_at hl 0 rfl) ?_
  refine lv_iconst (v := (0 : Int32)) hx hb dX5_countTurns_1 (by decide) ?_
  refine va_put (D := G) (ci := 4) (v := .int (0 : Int32)) (ty := .int) (C := RX5) (T := TX5) (N := 23) hx hb hts inX5_countTurns_X5 tyX5 tyX5_ok nmX5 hown hK.1 hw.1 hw.2.1 hw.2.2 0 rfl rfl 17 (by decide) (hts (.fieldLink RX5 240 "SealedBoardModel" "at" "I") (by decide +kernel)) (fun _ h9 => h9) rfl (by decide +kernel) rfl rfl (Nat.le_of_ble_eq_true rfl) dX5_countTurns_2 (fun H locs hP hD hS => ?_)
  have hw : zWd G A s (zM ad k thrown now saved hist kept reason detail isSaved comes queue far isInText ahead roomAt rooms text length (0 : Int32) errorPosition toldFrom toldTo isWrong before) H locs := ⟨hP, hD, hS⟩
  refine lv_aload_n hx hb dX5_countTurns_5 rfl (lv_at hl 0 rfl) ?_
  refine lv_iconst (v := (0 : Int32)) hx hb dX5_countTurns_6 (by decide) ?_
  refine va_put (D := G) (ci := 4) (v := .int (0 : Int32)) (ty := .boolean) (C := RX5) (T := TX5) (N := 23) hx hb hts inX5_countTurns_X5 tyX5 tyX5_ok nmX5 hown hK.1 hw.1 hw.2.1 hw.2.2 0 rfl rfl 21 (by decide) (hts (.fieldLink RX5 237 "SealedBoardModel" "isWrong" "Z") (by decide +kernel)) (fun _ h9 => h9) rfl (by decide +kernel) rfl rfl (Nat.le_of_ble_eq_true rfl) dX5_countTurns_7 (fun H locs hP hD hS => ?_)
  have hw : zWd G A s (zM ad k thrown now saved hist kept reason detail isSaved comes queue far isInText ahead roomAt rooms text length (0 : Int32) errorPosition toldFrom toldTo (0 : Int32) before) H locs := ⟨hP, hD, hS⟩
  refine lv_iconst (v := (1 : Int32)) hx hb dX5_countTurns_10 (by decide) ?_
  refine lv_istore_n (lv' := [(1, .int (1 : Int32)), (0, .ref (ad 0))]) hx hb dX5_countTurns_11 rfl hl (by decide) rfl (fun ls hl => ?_)
  refine lv_aload_n hx hb dX5_countTurns_12 rfl (lv_at hl 1 rfl) ?_
  obtain ⟨u1, hq2, hF⟩ := zbd_t hF
  refine zgoIw (w' := (zM ad k thrown now saved hist kept reason detail isSaved comes queue far isInText ahead roomAt rooms text length u1.2.1 errorPosition u1.2.2.1 u1.2.2.2.1 u1.2.2.2.2 before)) hw hA (zVw (As := []) (rest := []) ⟨hx, hb, hml, hown, hts⟩ (mX5_readTurn l G k ad H.size thrown now saved hist kept reason detail isSaved comes queue far isInText ahead roomAt rooms text length (0 : Int32) errorPosition toldFrom toldTo (0 : Int32) before  u1 hq2) (cwV 0 hts gX5_countTurns_X5_readTurn rfl rfl rfl kdX5_readTurn ⟨Nat.le_of_ble_eq_true rfl, Nat.le_of_ble_eq_true rfl⟩) hK hA hw 0 rfl rfl rfl rfl hl.1 rfl (Nat.le_of_ble_eq_true rfl) dX5_countTurns_13 ⟨Nat.le_of_ble_eq_true rfl, Nat.le_of_ble_eq_true rfl⟩) (fun H locs hw => ?_)
  refine lv_pop hx hb dX5_countTurns_16 rfl ?_
  exact wX5_countTurns_17 C0 hK hA hret  zFu _ _ _ _ _ hF _ _ _ hw (lv_sub hl [1, 0] rfl)

/-! SealedBoardModel.take(C)V -/
abbrev rmX5_take : Room := { frames := 10, cells := 0, slots := 0, locals := 228 }
theorem kdX5_take : yX5_take.cls = RX5 ∧ yX5_take.cls ≠ "java/lang/invoke/MethodHandle" ∧ yX5_take.cls ≠ "java/lang/invoke/VarHandle" ∧ (parseMethodDescriptor yX5_take.desc).map (fun d => d.parameters.length) = some 1 := by decide +kernel
theorem inX5_take_X5 : ∀ w ∈ u_ws RX5 TX5 23, w ∈ wsX5_take := by decide +kernel
def fX5_take (thrown : Int32) (now : Nat → Int32) (hist : Nat → Nat → Int32) (kept : Int32) (reason : Int32) (detail : Int32) (comes : Nat → Int32) (queue : Nat → Int32) (far : Nat → Int32) (isInText : Int32) (toldFrom : Int32) (toldTo : Int32) (p0 : Int32) : Option (Int32 × (Nat → Int32) × (Nat → Nat → Int32) × Int32 × Int32 × Int32 × (Nat → Int32) × (Nat → Int32) × (Nat → Int32)) := (if p0 = (43 : Int32) then (zbd (fX5_door thrown now hist kept reason detail comes queue far isInText toldFrom) (fun u5 => (some (u5.2.1, u5.2.2.1, u5.2.2.2.1, u5.2.2.2.2.1, u5.2.2.2.2.2.1, u5.2.2.2.2.2.2.1, u5.2.2.2.2.2.2.2.1, u5.2.2.2.2.2.2.2.2.1, u5.2.2.2.2.2.2.2.2.2)))) else (if p0 = (42 : Int32) then (zbd (fX5_buy thrown now hist kept reason detail comes queue far isInText toldFrom) (fun u3 => (some (u3.2.1, u3.2.2.1, u3.2.2.2.1, u3.2.2.2.2.1, u3.2.2.2.2.2.1, u3.2.2.2.2.2.2.1, u3.2.2.2.2.2.2.2.1, u3.2.2.2.2.2.2.2.2.1, u3.2.2.2.2.2.2.2.2.2)))) else (zbd (fX5_move thrown now hist kept reason detail comes queue far isInText toldFrom toldTo) (fun u1 => (some (u1.2.1, u1.2.2.1, u1.2.2.2.1, u1.2.2.2.2.1, u1.2.2.2.2.2.1, u1.2.2.2.2.2.2.1, u1.2.2.2.2.2.2.2.1, u1.2.2.2.2.2.2.2.2.1, u1.2.2.2.2.2.2.2.2.2))))))
set_option maxHeartbeats 400000 in
set_option maxRecDepth 100000 in
theorem mX5_take (l : Launch) (G : va_G) (k : Nat → ClassId) (ad : Nat → Nat) (sz : Nat) (thrown : Int32) (now : Nat → Int32) (saved : Nat → Int32) (hist : Nat → Nat → Int32) (kept : Int32) (reason : Int32) (detail : Int32) (isSaved : Int32) (comes : Nat → Int32) (queue : Nat → Int32) (far : Nat → Int32) (isInText : Int32) (ahead : Nat → Int32) (roomAt : Nat → Int32) (rooms : Int32) (text : Nat → Int32) (length : Int32) (at_ : Int32) (errorPosition : Int32) (toldFrom : Int32) (toldTo : Int32) (isWrong : Int32) (before : Nat → Int32) (p0 : Int32) (o : Int32 × (Nat → Int32) × (Nat → Nat → Int32) × Int32 × Int32 × Int32 × (Nat → Int32) × (Nat → Int32) × (Nat → Int32)) (hF : fX5_take thrown now hist kept reason detail comes queue far isInText toldFrom toldTo p0 = some o) : zMV l yX5_take wsX5_take rmX5_take G k (zM ad k thrown now saved hist kept reason detail isSaved comes queue far isInText ahead roomAt rooms text length at_ errorPosition toldFrom toldTo isWrong before) sz [.ref (ad 0), .int p0] (zM ad k o.1 o.2.1 saved o.2.2.1 o.2.2.2.1 o.2.2.2.2.1 o.2.2.2.2.2.1 isSaved o.2.2.2.2.2.2.1 o.2.2.2.2.2.2.2.1 o.2.2.2.2.2.2.2.2 isInText ahead roomAt rooms text length at_ errorPosition toldFrom toldTo isWrong before) := by
  refine zof_V (cc := cX5_take) (nL := 2) (own := RX5) (by decide) rfl rfl (Nat.le_of_ble_eq_true rfl) ?_
  intro p e s m args below meth c A Q C0 hK hA hret ls hl hw
  have hl : lv_has ls 2 [(0, .ref (ad 0)), (1, .int p0)] := hl
  obtain ⟨hx, hb, hr, hml, hown, hts, hlocks⟩ := id C0
  obtain ⟨H, hH⟩ : ∃ z, z = s.heap := ⟨_, rfl⟩
  rw [← hH] at hw ⊢
  unfold fX5_take at hF
  refine lv_iload_n hx hb dX5_take_0 rfl (lv_at hl 1 rfl) ?_
  refine lv_bipush (v := (43 : Int32)) hx hb dX5_take_1 (by decide) ?_
  refine lv_icmp_ne (tgt := 18) hx hb dX5_take_3 (by decide) (fun hc => ?_) (fun hc => ?_)
  · have hF := zif_f hc hF
    refine lv_iload_n hx hb dX5_take_18 rfl (lv_at hl 1 rfl) ?_
    refine lv_bipush (v := (42 : Int32)) hx hb dX5_take_19 (by decide) ?_
    refine lv_icmp_ne (tgt := 36) hx hb dX5_take_21 (by decide) (fun hc => ?_) (fun hc => ?_)
    · have hF := zif_f hc hF
      refine lv_aload_n hx hb dX5_take_36 rfl (lv_at hl 0 rfl) ?_
      refine lv_aload_n hx hb dX5_take_37 rfl (lv_at hl 0 rfl) ?_
      refine va_get (D := G) (ci := 4) (v := .int toldFrom) (C := RX5) (T := TX5) (N := 23) hx hb hts inX5_take_X5 hown hK.1 hw.1 0 rfl rfl 19 (by decide) (hts (.fieldLink RX5 254 "SealedBoardModel" "toldFrom" "I") (by decide +kernel)) (fun _ h9 => h9) rfl dX5_take_38 ?_
      refine lv_aload_n hx hb dX5_take_41 rfl (lv_at hl 0 rfl) ?_
      refine va_get (D := G) (ci := 4) (v := .int toldTo) (C := RX5) (T := TX5) (N := 23) hx hb hts inX5_take_X5 hown hK.1 hw.1 0 rfl rfl 20 (by decide) (hts (.fieldLink RX5 257 "SealedBoardModel" "toldTo" "I") (by decide +kernel)) (fun _ h9 => h9) rfl dX5_take_42 ?_
      obtain ⟨u1, hq2, hF⟩ := zbd_t hF
      refine zgoIw (w' := (zM ad k u1.2.1 u1.2.2.1 saved u1.2.2.2.1 u1.2.2.2.2.1 u1.2.2.2.2.2.1 u1.2.2.2.2.2.2.1 isSaved u1.2.2.2.2.2.2.2.1 u1.2.2.2.2.2.2.2.2.1 u1.2.2.2.2.2.2.2.2.2 isInText ahead roomAt rooms text length at_ errorPosition toldFrom toldTo isWrong before)) hw hA (zVw (As := [.int toldFrom, .int toldTo]) (rest := []) ⟨hx, hb, hml, hown, hts⟩ (mX5_move l G k ad H.size thrown now saved hist kept reason detail isSaved comes queue far isInText ahead roomAt rooms text length at_ errorPosition toldFrom toldTo isWrong before toldFrom toldTo u1 hq2) (cwV 2 hts gX5_take_X5_move rfl rfl rfl kdX5_move ⟨Nat.le_of_ble_eq_true rfl, Nat.le_of_ble_eq_true rfl⟩) hK hA hw 0 rfl rfl rfl rfl hl.1 rfl (Nat.le_of_ble_eq_true rfl) dX5_take_45 ⟨Nat.le_of_ble_eq_true rfl, Nat.le_of_ble_eq_true rfl⟩) (fun H locs hw => ?_)
      refine lv_pop hx hb dX5_take_48 rfl ?_
      obtain rfl := Option.some.inj hF
      exact hret _ _ _ _  hw dX5_take_49
    · have hF := zif_t hc hF
      refine lv_aload_n hx hb dX5_take_24 rfl (lv_at hl 0 rfl) ?_
      refine lv_aload_n hx hb dX5_take_25 rfl (lv_at hl 0 rfl) ?_
      refine va_get (D := G) (ci := 4) (v := .int toldFrom) (C := RX5) (T := TX5) (N := 23) hx hb hts inX5_take_X5 hown hK.1 hw.1 0 rfl rfl 19 (by decide) (hts (.fieldLink RX5 254 "SealedBoardModel" "toldFrom" "I") (by decide +kernel)) (fun _ h9 => h9) rfl dX5_take_26 ?_
      obtain ⟨u3, hq4, hF⟩ := zbd_t hF
      refine zgoIw (w' := (zM ad k u3.2.1 u3.2.2.1 saved u3.2.2.2.1 u3.2.2.2.2.1 u3.2.2.2.2.2.1 u3.2.2.2.2.2.2.1 isSaved u3.2.2.2.2.2.2.2.1 u3.2.2.2.2.2.2.2.2.1 u3.2.2.2.2.2.2.2.2.2 isInText ahead roomAt rooms text length at_ errorPosition toldFrom toldTo isWrong before)) hw hA (zVw (As := [.int toldFrom]) (rest := []) ⟨hx, hb, hml, hown, hts⟩ (mX5_buy l G k ad H.size thrown now saved hist kept reason detail isSaved comes queue far isInText ahead roomAt rooms text length at_ errorPosition toldFrom toldTo isWrong before toldFrom u3 hq4) (cwV 1 hts gX5_take_X5_buy rfl rfl rfl kdX5_buy ⟨Nat.le_of_ble_eq_true rfl, Nat.le_of_ble_eq_true rfl⟩) hK hA hw 0 rfl rfl rfl rfl hl.1 rfl (Nat.le_of_ble_eq_true rfl) dX5_take_29 ⟨Nat.le_of_ble_eq_true rfl, Nat.le_of_ble_eq_true rfl⟩) (fun H locs hw => ?_)
      refine lv_pop hx hb dX5_take_32 rfl ?_
      refine lv_goto (tgt := 49) hx hb dX5_take_33 (by decide) ?_
      obtain rfl := Option.some.inj hF
      exact hret _ _ _ _  hw dX5_take_49
  · have hF := zif_t hc hF
    refine lv_aload_n hx hb dX5_take_6 rfl (lv_at hl 0 rfl) ?_
    refine lv_aload_n hx hb dX5_take_7 rfl (lv_at hl 0 rfl) ?_
    refine va_get (D := G) (ci := 4) (v := .int toldFrom) (C := RX5) (T := TX5) (N := 23) hx hb hts inX5_take_X5 hown hK.1 hw.1 0 rfl rfl 19 (by decide) (hts (.fieldLink RX5 254 "SealedBoardModel" "toldFrom" "I") (by decide +kernel)) (fun _ h9 => h9) rfl dX5_take_8 ?_
    obtain ⟨u5, hq6, hF⟩ := zbd_t hF
    refine zgoIw (w' := (zM ad k u5.2.1 u5.2.2.1 saved u5.2.2.2.1 u5.2.2.2.2.1 u5.2.2.2.2.2.1 u5.2.2.2.2.2.2.1 isSaved u5.2.2.2.2.2.2.2.1 u5.2.2.2.2.2.2.2.2.1 u5.2.2.2.2.2.2.2.2.2 isInText ahead roomAt rooms text length at_ errorPosition toldFrom toldTo isWrong before)) hw hA (zVw (As := [.int toldFrom]) (rest := []) ⟨hx, hb, hml, hown, hts⟩ (mX5_door l G k ad H.size thrown now saved hist kept reason detail isSaved comes queue far isInText ahead roomAt rooms text length at_ errorPosition toldFrom toldTo isWrong before toldFrom u5 hq6) (cwV 1 hts gX5_take_X5_door rfl rfl rfl kdX5_door ⟨Nat.le_of_ble_eq_true rfl, Nat.le_of_ble_eq_true rfl⟩) hK hA hw 0 rfl rfl rfl rfl hl.1 rfl (Nat.le_of_ble_eq_true rfl) dX5_take_11 ⟨Nat.le_of_ble_eq_true rfl, Nat.le_of_ble_eq_true rfl⟩) (fun H locs hw => ?_)
    refine lv_pop hx hb dX5_take_14 rfl ?_
    refine lv_goto (tgt := 49) hx hb dX5_take_15 (by decide) ?_
    obtain rfl := Option.some.inj hF
    exact hret _ _ _ _  hw dX5_take_49

/-! SealedBoardModel.read()I -/
abbrev rmX5_read : Room := { frames := 11, cells := 0, slots := 0, locals := 249 }
theorem kdX5_read : yX5_read.cls = RX5 ∧ yX5_read.cls ≠ "java/lang/invoke/MethodHandle" ∧ yX5_read.cls ≠ "java/lang/invoke/VarHandle" ∧ (parseMethodDescriptor yX5_read.desc).map (fun d => d.parameters.length) = some 0 := by decide +kernel
theorem inX5_read_X5 : ∀ w ∈ u_ws RX5 TX5 23, w ∈ wsX5_read := by decide +kernel
def fX5_read_138  (text : Nat → Int32) (thrown : Int32) (now : Nat → Int32) (hist : Nat → Nat → Int32) (kept : Int32) (reason : Int32) (detail : Int32) (comes : Nat → Int32) (queue : Nat → Int32) (far : Nat → Int32) (isInText : Int32) (length : Int32) (at_ : Int32) (errorPosition : Int32) (toldFrom : Int32) (toldTo : Int32) (isWrong : Int32) (before : Nat → Int32) (x1 : Int32) (s0 : Int32) (s1 : Int32) : Option (Int32 × Int32 × (Nat → Int32) × (Nat → Nat → Int32) × Int32 × Int32 × Int32 × (Nat → Int32) × (Nat → Int32) × (Nat → Int32) × Int32 × Int32 × Int32 × Int32 × Int32 × Int32 × Int32 × (Nat → Int32)) := (zbd (fX5_fails thrown s1 s0) (fun u1 => (if u1.1 = 0 then (zbd (fX5_remember_vbefore hist kept before) (fun u3 => (some (x1, u1.2, now, u3.1, u3.2, reason, detail, comes, queue, far, isInText, length, at_, errorPosition, toldFrom, toldTo, isWrong, before)))) else (zbd (fX5_copyRow before now) (fun u5 => (some ((0 : Int32), u1.2, u5, hist, kept, reason, detail, comes, queue, far, isInText, length, at_, errorPosition, toldFrom, toldTo, isWrong, before)))))))
def fX5_read_117  (text : Nat → Int32) (thrown : Int32) (now : Nat → Int32) (hist : Nat → Nat → Int32) (kept : Int32) (reason : Int32) (detail : Int32) (comes : Nat → Int32) (queue : Nat → Int32) (far : Nat → Int32) (isInText : Int32) (length : Int32) (at_ : Int32) (errorPosition : Int32) (toldFrom : Int32) (toldTo : Int32) (isWrong : Int32) (before : Nat → Int32) (x1 : Int32) (x2 : Int32) : Option (Int32 × Int32 × (Nat → Int32) × (Nat → Nat → Int32) × Int32 × Int32 × Int32 × (Nat → Int32) × (Nat → Int32) × (Nat → Int32) × Int32 × Int32 × Int32 × Int32 × Int32 × Int32 × Int32 × (Nat → Int32)) := (if x2 = 0 then (fX5_read_138  text  thrown now hist kept reason detail comes queue far (0 : Int32) (0 : Int32) at_ errorPosition toldFrom toldTo isWrong before x1 (1 : Int32) (2 : Int32)) else (fX5_read_138  text  thrown now hist kept reason detail comes queue far (0 : Int32) (0 : Int32) at_ errorPosition toldFrom toldTo isWrong before x1 (0 : Int32) (2 : Int32)))
def fX5_read_110 (k71 : Int32 → (Nat → Int32) → (Nat → Nat → Int32) → Int32 → Int32 → Int32 → (Nat → Int32) → (Nat → Int32) → (Nat → Int32) → Int32 → Int32 → Int32 → Int32 → Int32 → Int32 → Int32 → (Nat → Int32) → Int32 → Int32 → Int32 → Option (Int32 × Int32 × (Nat → Int32) × (Nat → Nat → Int32) × Int32 × Int32 × Int32 × (Nat → Int32) × (Nat → Int32) × (Nat → Int32) × Int32 × Int32 × Int32 × Int32 × Int32 × Int32 × Int32 × (Nat → Int32))) (text : Nat → Int32) (thrown : Int32) (now : Nat → Int32) (hist : Nat → Nat → Int32) (kept : Int32) (reason : Int32) (detail : Int32) (comes : Nat → Int32) (queue : Nat → Int32) (far : Nat → Int32) (isInText : Int32) (length : Int32) (at_ : Int32) (errorPosition : Int32) (toldFrom : Int32) (toldTo : Int32) (isWrong : Int32) (before : Nat → Int32) (x1 : Int32) (x3 : Int32) (s0 : Int32) : Option (Int32 × Int32 × (Nat → Int32) × (Nat → Nat → Int32) × Int32 × Int32 × Int32 × (Nat → Int32) × (Nat → Int32) × (Nat → Int32) × Int32 × Int32 × Int32 × Int32 × Int32 × Int32 × Int32 × (Nat → Int32)) := (zbn (x3 + (1 : Int32)) (fun a1 => (k71 thrown now hist kept reason detail comes queue far isInText length at_ errorPosition toldFrom toldTo isWrong before x1 s0 a1)))
def fX5_read_71  (text : Nat → Int32) : Nat → Int32 → (Nat → Int32) → (Nat → Nat → Int32) → Int32 → Int32 → Int32 → (Nat → Int32) → (Nat → Int32) → (Nat → Int32) → Int32 → Int32 → Int32 → Int32 → Int32 → Int32 → Int32 → (Nat → Int32) → Int32 → Int32 → Int32 → Option (Int32 × Int32 × (Nat → Int32) × (Nat → Nat → Int32) × Int32 × Int32 × Int32 × (Nat → Int32) × (Nat → Int32) × (Nat → Int32) × Int32 × Int32 × Int32 × Int32 × Int32 × Int32 × Int32 × (Nat → Int32))
  | 0, _, _, _, _, _, _, _, _, _, _, _, _, _, _, _, _, _, _, _, _ => none
  | n + 1, thrown, now, hist, kept, reason, detail, comes, queue, far, isInText, length, at_, errorPosition, toldFrom, toldTo, isWrong, before, x1, x2, x3 => (if x1 ≤ x3 then (fX5_read_117  text  thrown now hist kept reason detail comes queue far isInText length at_ errorPosition toldFrom toldTo isWrong before x1 x2) else (if x2 = 0 then (fX5_read_117  text  thrown now hist kept reason detail comes queue far isInText length at_ errorPosition toldFrom toldTo isWrong before x1 x2) else (zbd (fX5_readTurn text length at_ toldFrom toldTo isWrong) (fun u1 => (zbd (fX5_take thrown now hist kept reason detail comes queue far isInText u1.2.2.1 u1.2.2.2.1 u1.1) (fun u3 => (if u3.1 = 0 then (fX5_read_110 (fun b0 b1 b2 b3 b4 b5 b6 b7 b8 b9 b10 b11 b12 b13 b14 b15 b16 b17 b18 b19 => fX5_read_71  text n b0 b1 b2 b3 b4 b5 b6 b7 b8 b9 b10 b11 b12 b13 b14 b15 b16 b17 b18 b19) text  u3.1 u3.2.1 u3.2.2.1 u3.2.2.2.1 u3.2.2.2.2.1 u3.2.2.2.2.2.1 u3.2.2.2.2.2.2.1 u3.2.2.2.2.2.2.2.1 u3.2.2.2.2.2.2.2.2 isInText length (u1.2.1 + (1 : Int32)) errorPosition u1.2.2.1 u1.2.2.2.1 u1.2.2.2.2 before x1 x3 (1 : Int32)) else (fX5_read_110 (fun b0 b1 b2 b3 b4 b5 b6 b7 b8 b9 b10 b11 b12 b13 b14 b15 b16 b17 b18 b19 => fX5_read_71  text n b0 b1 b2 b3 b4 b5 b6 b7 b8 b9 b10 b11 b12 b13 b14 b15 b16 b17 b18 b19) text  u3.1 u3.2.1 u3.2.2.1 u3.2.2.2.1 u3.2.2.2.2.1 u3.2.2.2.2.2.1 u3.2.2.2.2.2.2.1 u3.2.2.2.2.2.2.2.1 u3.2.2.2.2.2.2.2.2 isInText length (u1.2.1 + (1 : Int32)) errorPosition u1.2.2.1 u1.2.2.2.1 u1.2.2.2.2 before x1 x3 (0 : Int32)))))))))
def fX5_read_24  (text : Nat → Int32) (thrown : Int32) (now : Nat → Int32) (hist : Nat → Nat → Int32) (kept : Int32) (reason : Int32) (detail : Int32) (comes : Nat → Int32) (queue : Nat → Int32) (far : Nat → Int32) (isInText : Int32) (length : Int32) (at_ : Int32) (errorPosition : Int32) (toldFrom : Int32) (toldTo : Int32) (isWrong : Int32) (before : Nat → Int32) (x1 : Int32) (s0 : Int32) : Option (Int32 × Int32 × (Nat → Int32) × (Nat → Nat → Int32) × Int32 × Int32 × Int32 × (Nat → Int32) × (Nat → Int32) × (Nat → Int32) × Int32 × Int32 × Int32 × Int32 × Int32 × Int32 × Int32 × (Nat → Int32)) := (zbd (fX5_fails thrown (1 : Int32) isWrong) (fun u1 => (if u1.1 = 0 then (zbd (fX5_copyRow now before) (fun u3 => (fX5_read_71  text zFu u1.2 now hist kept reason detail comes queue far (1 : Int32) length (0 : Int32) s0 toldFrom toldTo isWrong u3 x1 (1 : Int32) (0 : Int32)))) else (some ((0 : Int32), u1.2, now, hist, kept, reason, detail, comes, queue, far, isInText, (0 : Int32), at_, s0, toldFrom, toldTo, isWrong, before)))))
def fX5_read (thrown : Int32) (now : Nat → Int32) (hist : Nat → Nat → Int32) (kept : Int32) (reason : Int32) (detail : Int32) (comes : Nat → Int32) (queue : Nat → Int32) (far : Nat → Int32) (isInText : Int32) (text : Nat → Int32) (length : Int32) (at_ : Int32) (errorPosition : Int32) (toldFrom : Int32) (toldTo : Int32) (isWrong : Int32) (before : Nat → Int32) : Option (Int32 × Int32 × (Nat → Int32) × (Nat → Nat → Int32) × Int32 × Int32 × Int32 × (Nat → Int32) × (Nat → Int32) × (Nat → Int32) × Int32 × Int32 × Int32 × Int32 × Int32 × Int32 × Int32 × (Nat → Int32)) := (zbd (fX5_countTurns text length at_ toldFrom toldTo isWrong) (fun u1 => (if u1.2.2.2.2 = 0 then (fX5_read_24  text  thrown now hist kept reason detail comes queue far isInText length u1.2.1 errorPosition u1.2.2.1 u1.2.2.2.1 u1.2.2.2.2 before u1.1 errorPosition) else (fX5_read_24  text  thrown now hist kept reason detail comes queue far isInText length u1.2.1 errorPosition u1.2.2.1 u1.2.2.2.1 u1.2.2.2.2 before u1.1 u1.2.1))))
set_option maxHeartbeats 400000 in
set_option maxRecDepth 100000 in
theorem wX5_read_138 {p : Program} {l : Launch} {e : Env} {s : State} {m : MethodId} {args : Array Value} {below : List Frame} {meth : Method} {c : Code} {A : Nat → Prop} {Q : State → Prop} {G : va_G} {k : Nat → ClassId} {ad : Nat → Nat} {saved : Nat → Int32} {isSaved : Int32} {ahead : Nat → Int32} {roomAt : Nat → Int32} {rooms : Int32} {text : Nat → Int32} {o : Int32 × Int32 × (Nat → Int32) × (Nat → Nat → Int32) × Int32 × Int32 × Int32 × (Nat → Int32) × (Nat → Int32) × (Nat → Int32) × Int32 × Int32 × Int32 × Int32 × Int32 × Int32 × Int32 × (Nat → Int32)} (C0 : zCx p s m args meth c wsX5_read cX5_read RX5 (some .int) 4) (hK : zKK G k A s s.heap) (hA : ∀ q : Nat, s.heap.size ≤ q → A q) (hret : zRI p l e rmX5_read s m args below meth c cX5_read G A 0 0 Q .int (zM ad k o.2.1 o.2.2.1 saved o.2.2.2.1 o.2.2.2.2.1 o.2.2.2.2.2.1 o.2.2.2.2.2.2.1 isSaved o.2.2.2.2.2.2.2.1 o.2.2.2.2.2.2.2.2.1 o.2.2.2.2.2.2.2.2.2.1 o.2.2.2.2.2.2.2.2.2.2.1 ahead roomAt rooms text o.2.2.2.2.2.2.2.2.2.2.2.1 o.2.2.2.2.2.2.2.2.2.2.2.2.1 o.2.2.2.2.2.2.2.2.2.2.2.2.2.1 o.2.2.2.2.2.2.2.2.2.2.2.2.2.2.1 o.2.2.2.2.2.2.2.2.2.2.2.2.2.2.2.1 o.2.2.2.2.2.2.2.2.2.2.2.2.2.2.2.2.1 o.2.2.2.2.2.2.2.2.2.2.2.2.2.2.2.2.2) o.1)  : ∀ (thrown : Int32) (now : Nat → Int32) (hist : Nat → Nat → Int32) (kept : Int32) (reason : Int32) (detail : Int32) (comes : Nat → Int32) (queue : Nat → Int32) (far : Nat → Int32) (isInText : Int32) (length : Int32) (at_ : Int32) (errorPosition : Int32) (toldFrom : Int32) (toldTo : Int32) (isWrong : Int32) (before : Nat → Int32) (x1 : Int32) (s0 : Int32) (s1 : Int32), fX5_read_138  text thrown now hist kept reason detail comes queue far isInText length at_ errorPosition toldFrom toldTo isWrong before x1 s0 s1 = some o → ∀ (H : Heap) (locs : List Loc) (ls : Array Slot), zWd G A s (zM ad k thrown now saved hist kept reason detail isSaved comes queue far isInText ahead roomAt rooms text length at_ errorPosition toldFrom toldTo isWrong before) H locs → lv_has ls 4 [(0, .ref (ad 0)), (1, .int x1)] → W p l e rmX5_read s m args below meth c H locs 0 0 Q (F0 m 138 ls [.int s0, .int s1, .ref (ad 0)]) := by
  obtain ⟨hx, hb, hr, hml, hown, hts, hlocks⟩ := id C0
  intro thrown now hist kept reason detail comes queue far isInText length at_ errorPosition toldFrom toldTo isWrong before x1 s0 s1 hF H locs ls hw hl
  unfold fX5_read_138 at hF
  obtain ⟨u1, hq2, hF⟩ := zbd_t hF
  refine zgoIw (w' := (zM ad k u1.2 now saved hist kept reason detail isSaved comes queue far isInText ahead roomAt rooms text length at_ errorPosition toldFrom toldTo isWrong before)) hw hA (zVw (As := [.int s1, .int s0]) (rest := []) ⟨hx, hb, hml, hown, hts⟩ (mX5_fails l G k ad H.size thrown now saved hist kept reason detail isSaved comes queue far isInText ahead roomAt rooms text length at_ errorPosition toldFrom toldTo isWrong before s1 s0 u1 hq2) (cwV 2 hts gX5_read_X5_fails rfl rfl rfl kdX5_fails ⟨Nat.le_of_ble_eq_true rfl, Nat.le_of_ble_eq_true rfl⟩) hK hA hw 0 rfl rfl rfl rfl hl.1 rfl (Nat.le_of_ble_eq_true rfl) dX5_read_138 ⟨Nat.le_of_ble_eq_true rfl, Nat.le_of_ble_eq_true rfl⟩) (fun H locs hw => ?_)
  refine lv_if_eq (tgt := 157) hx hb dX5_read_141 (by decide) (fun hc => ?_) (fun hc => ?_)
  · have hF := zif_t hc hF
    refine lv_aload_n hx hb dX5_read_157 rfl (lv_at hl 0 rfl) ?_
    refine lv_aload_n hx hb dX5_read_158 rfl (lv_at hl 0 rfl) ?_
    refine va_get (D := G) (ci := 4) (v := .ref (ad 10)) (C := RX5) (T := TX5) (N := 23) hx hb hts inX5_read_X5 hown hK.1 hw.1 0 rfl rfl 22 (by decide) (hts (.fieldLink RX5 45 "SealedBoardModel" "before" "[I") (by decide +kernel)) (fun _ h9 => h9) rfl dX5_read_159 ?_
    obtain ⟨u3, hq4, hF⟩ := zbd_t hF
    refine zgoVw (w' := (zM ad k u1.2 now saved u3.1 u3.2 reason detail isSaved comes queue far isInText ahead roomAt rooms text length at_ errorPosition toldFrom toldTo isWrong before)) hw hA (zVw (As := [.ref (ad 10)]) (rest := []) ⟨hx, hb, hml, hown, hts⟩ (mX5_remember_vbefore l G k ad H.size u1.2 now saved hist kept reason detail isSaved comes queue far isInText ahead roomAt rooms text length at_ errorPosition toldFrom toldTo isWrong before  u3 hq4) (cwV 1 hts gX5_read_X5_remember rfl rfl rfl kdX5_remember ⟨Nat.le_of_ble_eq_true rfl, Nat.le_of_ble_eq_true rfl⟩) hK hA hw 0 rfl rfl rfl rfl hl.1 rfl (Nat.le_of_ble_eq_true rfl) dX5_read_162 ⟨Nat.le_of_ble_eq_true rfl, Nat.le_of_ble_eq_true rfl⟩) (fun H locs hw => ?_)
    refine lv_iload_n hx hb dX5_read_165 rfl (lv_at hl 1 rfl) ?_
    obtain rfl := Option.some.inj hF
    exact hret _ _ _ _ rfl hw dX5_read_166
  · have hF := zif_f hc hF
    refine lv_aload_n hx hb dX5_read_144 rfl (lv_at hl 0 rfl) ?_
    refine va_get (D := G) (ci := 4) (v := .ref (ad 10)) (C := RX5) (T := TX5) (N := 23) hx hb hts inX5_read_X5 hown hK.1 hw.1 0 rfl rfl 22 (by decide) (hts (.fieldLink RX5 45 "SealedBoardModel" "before" "[I") (by decide +kernel)) (fun _ h9 => h9) rfl dX5_read_145 ?_
    refine lv_aload_n hx hb dX5_read_148 rfl (lv_at hl 0 rfl) ?_
    refine va_get (D := G) (ci := 4) (v := .ref (ad 1)) (C := RX5) (T := TX5) (N := 23) hx hb hts inX5_read_X5 hown hK.1 hw.1 0 rfl rfl 1 (by decide) (hts (.fieldLink RX5 9 "SealedBoardModel" "now" "[I") (by decide +kernel)) (fun _ h9 => h9) rfl dX5_read_149 ?_
    obtain ⟨u5, hq6, hF⟩ := zbd_t hF
    refine zgoV (w' := (zM ad k u1.2 u5 saved hist kept reason detail isSaved comes queue far isInText ahead roomAt rooms text length at_ errorPosition toldFrom toldTo isWrong before)) hw hA [10, 1] rfl (zS (As := [.ref (ad 10), .ref (ad 1)]) (rest := []) ⟨hx, hb, hml, hown, hts⟩ (mX5_copyRow l G k (ad 10) (ad 1) H.size before now  u5 hq6) (va_cwS 2 hts gX5_read_X5_copyRow rfl rfl rfl kdX5_copyRow ⟨Nat.le_of_ble_eq_true rfl, Nat.le_of_ble_eq_true rfl⟩) hK hA hw [10, 1] rfl (by decide) rfl hl.1 rfl (Nat.le_of_ble_eq_true rfl) dX5_read_152 ⟨Nat.le_of_ble_eq_true rfl, Nat.le_of_ble_eq_true rfl⟩) rfl rfl rfl (fun H locs hw => ?_)
    refine lv_iconst (v := (0 : Int32)) hx hb dX5_read_155 (by decide) ?_
    obtain rfl := Option.some.inj hF
    exact hret _ _ _ _ rfl hw dX5_read_156
set_option maxHeartbeats 400000 in
set_option maxRecDepth 100000 in
theorem wX5_read_117 {p : Program} {l : Launch} {e : Env} {s : State} {m : MethodId} {args : Array Value} {below : List Frame} {meth : Method} {c : Code} {A : Nat → Prop} {Q : State → Prop} {G : va_G} {k : Nat → ClassId} {ad : Nat → Nat} {saved : Nat → Int32} {isSaved : Int32} {ahead : Nat → Int32} {roomAt : Nat → Int32} {rooms : Int32} {text : Nat → Int32} {o : Int32 × Int32 × (Nat → Int32) × (Nat → Nat → Int32) × Int32 × Int32 × Int32 × (Nat → Int32) × (Nat → Int32) × (Nat → Int32) × Int32 × Int32 × Int32 × Int32 × Int32 × Int32 × Int32 × (Nat → Int32)} (C0 : zCx p s m args meth c wsX5_read cX5_read RX5 (some .int) 4) (hK : zKK G k A s s.heap) (hA : ∀ q : Nat, s.heap.size ≤ q → A q) (hret : zRI p l e rmX5_read s m args below meth c cX5_read G A 0 0 Q .int (zM ad k o.2.1 o.2.2.1 saved o.2.2.2.1 o.2.2.2.2.1 o.2.2.2.2.2.1 o.2.2.2.2.2.2.1 isSaved o.2.2.2.2.2.2.2.1 o.2.2.2.2.2.2.2.2.1 o.2.2.2.2.2.2.2.2.2.1 o.2.2.2.2.2.2.2.2.2.2.1 ahead roomAt rooms text o.2.2.2.2.2.2.2.2.2.2.2.1 o.2.2.2.2.2.2.2.2.2.2.2.2.1 o.2.2.2.2.2.2.2.2.2.2.2.2.2.1 o.2.2.2.2.2.2.2.2.2.2.2.2.2.2.1 o.2.2.2.2.2.2.2.2.2.2.2.2.2.2.2.1 o.2.2.2.2.2.2.2.2.2.2.2.2.2.2.2.2.1 o.2.2.2.2.2.2.2.2.2.2.2.2.2.2.2.2.2) o.1)  : ∀ (thrown : Int32) (now : Nat → Int32) (hist : Nat → Nat → Int32) (kept : Int32) (reason : Int32) (detail : Int32) (comes : Nat → Int32) (queue : Nat → Int32) (far : Nat → Int32) (isInText : Int32) (length : Int32) (at_ : Int32) (errorPosition : Int32) (toldFrom : Int32) (toldTo : Int32) (isWrong : Int32) (before : Nat → Int32) (x1 : Int32) (x2 : Int32), fX5_read_117  text thrown now hist kept reason detail comes queue far isInText length at_ errorPosition toldFrom toldTo isWrong before x1 x2 = some o → ∀ (H : Heap) (locs : List Loc) (ls : Array Slot), zWd G A s (zM ad k thrown now saved hist kept reason detail isSaved comes queue far isInText ahead roomAt rooms text length at_ errorPosition toldFrom toldTo isWrong before) H locs → lv_has ls 4 [(0, .ref (ad 0)), (1, .int x1), (2, .int x2)] → W p l e rmX5_read s m args below meth c H locs 0 0 Q (F0 m 117 ls []) := by
  obtain ⟨hx, hb, hr, hml, hown, hts, hlocks⟩ := id C0
  intro thrown now hist kept reason detail comes queue far isInText length at_ errorPosition toldFrom toldTo isWrong before x1 x2 hF H locs ls hw hl
  unfold fX5_read_117 at hF
  refine lv_aload_n hx hb dX5_read_117 rfl (lv_at hl 0 rfl) ?_
  refine lv_iconst (v := (0 : Int32)) hx hb dX5_read_118 (by decide) ?_
  refine va_put (D := G) (ci := 4) (v := .int (0 : Int32)) (ty := .boolean) (C := RX5) (T := TX5) (N := 23) hx hb hts inX5_read_X5 tyX5 tyX5_ok nmX5 hown hK.1 hw.1 hw.2.1 hw.2.2 0 rfl rfl 11 (by decide) (hts (.fieldLink RX5 176 "SealedBoardModel" "isInText" "Z") (by decide +kernel)) (fun _ h9 => h9) rfl (by decide +kernel) rfl rfl (Nat.le_of_ble_eq_true rfl) dX5_read_119 (fun H locs hP hD hS => ?_)
  have hw : zWd G A s (zM ad k thrown now saved hist kept reason detail isSaved comes queue far (0 : Int32) ahead roomAt rooms text length at_ errorPosition toldFrom toldTo isWrong before) H locs := ⟨hP, hD, hS⟩
  refine lv_aload_n hx hb dX5_read_122 rfl (lv_at hl 0 rfl) ?_
  refine lv_iconst (v := (0 : Int32)) hx hb dX5_read_123 (by decide) ?_
  refine va_put (D := G) (ci := 4) (v := .int (0 : Int32)) (ty := .int) (C := RX5) (T := TX5) (N := 23) hx hb hts inX5_read_X5 tyX5 tyX5_ok nmX5 hown hK.1 hw.1 hw.2.1 hw.2.2 0 rfl rfl 16 (by decide) (hts (.fieldLink RX5 234 "SealedBoardModel" "length" "I") (by decide +kernel)) (fun _ h9 => h9) rfl (by decide +kernel) rfl rfl (Nat.le_of_ble_eq_true rfl) dX5_read_124 (fun H locs hP hD hS => ?_)
  have hw : zWd G A s (zM ad k thrown now saved hist kept reason detail isSaved comes queue far (0 : Int32) ahead roomAt rooms text (0 : Int32) at_ errorPosition toldFrom toldTo isWrong before) H locs := ⟨hP, hD, hS⟩
  refine lv_aload_n hx hb dX5_read_127 rfl (lv_at hl 0 rfl) ?_
  refine lv_iconst (v := (2 : Int32)) hx hb dX5_read_128 (by decide) ?_
  refine lv_iload_n hx hb dX5_read_129 rfl (lv_at hl 2 rfl) ?_
  refine lv_if_ne (tgt := 137) hx hb dX5_read_130 (by decide) (fun hc => ?_) (fun hc => ?_)
  · have hF := zif_f hc hF
    refine lv_iconst (v := (0 : Int32)) hx hb dX5_read_137 (by decide) ?_
    exact wX5_read_138 C0 hK hA hret   _ _ _ _ _ _ _ _ _ _ _ _ _ _ _ _ _ _ _ _ hF _ _ _ hw (lv_sub hl [0, 1] rfl)
  · have hF := zif_t hc hF
    refine lv_iconst (v := (1 : Int32)) hx hb dX5_read_133 (by decide) ?_
    refine lv_goto (tgt := 138) hx hb dX5_read_134 (by decide) ?_
    exact wX5_read_138 C0 hK hA hret   _ _ _ _ _ _ _ _ _ _ _ _ _ _ _ _ _ _ _ _ hF _ _ _ hw (lv_sub hl [0, 1] rfl)
set_option maxHeartbeats 400000 in
set_option maxRecDepth 100000 in
theorem wX5_read_110 {p : Program} {l : Launch} {e : Env} {s : State} {m : MethodId} {args : Array Value} {below : List Frame} {meth : Method} {c : Code} {A : Nat → Prop} {Q : State → Prop} {G : va_G} {k : Nat → ClassId} {ad : Nat → Nat} {saved : Nat → Int32} {isSaved : Int32} {ahead : Nat → Int32} {roomAt : Nat → Int32} {rooms : Int32} {text : Nat → Int32} {o : Int32 × Int32 × (Nat → Int32) × (Nat → Nat → Int32) × Int32 × Int32 × Int32 × (Nat → Int32) × (Nat → Int32) × (Nat → Int32) × Int32 × Int32 × Int32 × Int32 × Int32 × Int32 × Int32 × (Nat → Int32)} (C0 : zCx p s m args meth c wsX5_read cX5_read RX5 (some .int) 4) (hK : zKK G k A s s.heap) (hA : ∀ q : Nat, s.heap.size ≤ q → A q) (hret : zRI p l e rmX5_read s m args below meth c cX5_read G A 0 0 Q .int (zM ad k o.2.1 o.2.2.1 saved o.2.2.2.1 o.2.2.2.2.1 o.2.2.2.2.2.1 o.2.2.2.2.2.2.1 isSaved o.2.2.2.2.2.2.2.1 o.2.2.2.2.2.2.2.2.1 o.2.2.2.2.2.2.2.2.2.1 o.2.2.2.2.2.2.2.2.2.2.1 ahead roomAt rooms text o.2.2.2.2.2.2.2.2.2.2.2.1 o.2.2.2.2.2.2.2.2.2.2.2.2.1 o.2.2.2.2.2.2.2.2.2.2.2.2.2.1 o.2.2.2.2.2.2.2.2.2.2.2.2.2.2.1 o.2.2.2.2.2.2.2.2.2.2.2.2.2.2.2.1 o.2.2.2.2.2.2.2.2.2.2.2.2.2.2.2.2.1 o.2.2.2.2.2.2.2.2.2.2.2.2.2.2.2.2.2) o.1) (k71 : Int32 → (Nat → Int32) → (Nat → Nat → Int32) → Int32 → Int32 → Int32 → (Nat → Int32) → (Nat → Int32) → (Nat → Int32) → Int32 → Int32 → Int32 → Int32 → Int32 → Int32 → Int32 → (Nat → Int32) → Int32 → Int32 → Int32 → Option (Int32 × Int32 × (Nat → Int32) × (Nat → Nat → Int32) × Int32 × Int32 × Int32 × (Nat → Int32) × (Nat → Int32) × (Nat → Int32) × Int32 × Int32 × Int32 × Int32 × Int32 × Int32 × Int32 × (Nat → Int32))) (hk71 : ∀ (thrown : Int32) (now : Nat → Int32) (hist : Nat → Nat → Int32) (kept : Int32) (reason : Int32) (detail : Int32) (comes : Nat → Int32) (queue : Nat → Int32) (far : Nat → Int32) (isInText : Int32) (length : Int32) (at_ : Int32) (errorPosition : Int32) (toldFrom : Int32) (toldTo : Int32) (isWrong : Int32) (before : Nat → Int32) (x1 : Int32) (x2 : Int32) (x3 : Int32), k71 thrown now hist kept reason detail comes queue far isInText length at_ errorPosition toldFrom toldTo isWrong before x1 x2 x3 = some o → ∀ (H : Heap) (locs : List Loc) (ls : Array Slot), zWd G A s (zM ad k thrown now saved hist kept reason detail isSaved comes queue far isInText ahead roomAt rooms text length at_ errorPosition toldFrom toldTo isWrong before) H locs → lv_has ls 4 [(0, .ref (ad 0)), (1, .int x1), (2, .int x2), (3, .int x3)] → W p l e rmX5_read s m args below meth c H locs 0 0 Q (F0 m 71 ls [])) : ∀ (thrown : Int32) (now : Nat → Int32) (hist : Nat → Nat → Int32) (kept : Int32) (reason : Int32) (detail : Int32) (comes : Nat → Int32) (queue : Nat → Int32) (far : Nat → Int32) (isInText : Int32) (length : Int32) (at_ : Int32) (errorPosition : Int32) (toldFrom : Int32) (toldTo : Int32) (isWrong : Int32) (before : Nat → Int32) (x1 : Int32) (x3 : Int32) (s0 : Int32), fX5_read_110 k71 text thrown now hist kept reason detail comes queue far isInText length at_ errorPosition toldFrom toldTo isWrong before x1 x3 s0 = some o → ∀ (H : Heap) (locs : List Loc) (ls : Array Slot), zWd G A s (zM ad k thrown now saved hist kept reason detail isSaved comes queue far isInText ahead roomAt rooms text length at_ errorPosition toldFrom toldTo isWrong before) H locs → lv_has ls 4 [(0, .ref (ad 0)), (1, .int x1), (3, .int x3)] → W p l e rmX5_read s m args below meth c H locs 0 0 Q (F0 m 110 ls [.int s0]) := by
  obtain ⟨hx, hb, hr, hml, hown, hts, hlocks⟩ := id C0
  intro thrown now hist kept reason detail comes queue far isInText length at_ errorPosition toldFrom toldTo isWrong before x1 x3 s0 hF H locs ls hw hl
  unfold fX5_read_110 at hF
  refine lv_istore_n (lv' := [(2, .int s0), (0, .ref (ad 0)), (1, .int x1), (3, .int x3)]) hx hb dX5_read_110 rfl hl (by decide) rfl (fun ls hl => ?_)
  obtain ⟨a1, ea1⟩ : ∃ z : Int32, z = x3 + (1 : Int32) := ⟨_, rfl⟩
  have hF := zbn_t ea1 hF
  refine lv_iinc (v := a1) (lv' := [(3, .int a1), (2, .int s0), (0, .ref (ad 0)), (1, .int x1)]) hx hb dX5_read_111 hl (k := 3) rfl (by rw [ea1]; rfl) (by decide) rfl (fun ls hl => ?_)
  refine lv_goto (tgt := 71) hx hb dX5_read_114 (by decide) ?_
  exact hk71 _ _ _ _ _ _ _ _ _ _ _ _ _ _ _ _ _ _ _ _ hF _ _ _ hw (lv_sub hl [2, 3, 1, 0] rfl)
set_option maxHeartbeats 400000 in
set_option maxRecDepth 100000 in
theorem wX5_read_71 {p : Program} {l : Launch} {e : Env} {s : State} {m : MethodId} {args : Array Value} {below : List Frame} {meth : Method} {c : Code} {A : Nat → Prop} {Q : State → Prop} {G : va_G} {k : Nat → ClassId} {ad : Nat → Nat} {saved : Nat → Int32} {isSaved : Int32} {ahead : Nat → Int32} {roomAt : Nat → Int32} {rooms : Int32} {text : Nat → Int32} {o : Int32 × Int32 × (Nat → Int32) × (Nat → Nat → Int32) × Int32 × Int32 × Int32 × (Nat → Int32) × (Nat → Int32) × (Nat → Int32) × Int32 × Int32 × Int32 × Int32 × Int32 × Int32 × Int32 × (Nat → Int32)} (C0 : zCx p s m args meth c wsX5_read cX5_read RX5 (some .int) 4) (hK : zKK G k A s s.heap) (hA : ∀ q : Nat, s.heap.size ≤ q → A q) (hret : zRI p l e rmX5_read s m args below meth c cX5_read G A 0 0 Q .int (zM ad k o.2.1 o.2.2.1 saved o.2.2.2.1 o.2.2.2.2.1 o.2.2.2.2.2.1 o.2.2.2.2.2.2.1 isSaved o.2.2.2.2.2.2.2.1 o.2.2.2.2.2.2.2.2.1 o.2.2.2.2.2.2.2.2.2.1 o.2.2.2.2.2.2.2.2.2.2.1 ahead roomAt rooms text o.2.2.2.2.2.2.2.2.2.2.2.1 o.2.2.2.2.2.2.2.2.2.2.2.2.1 o.2.2.2.2.2.2.2.2.2.2.2.2.2.1 o.2.2.2.2.2.2.2.2.2.2.2.2.2.2.1 o.2.2.2.2.2.2.2.2.2.2.2.2.2.2.2.1 o.2.2.2.2.2.2.2.2.2.2.2.2.2.2.2.2.1 o.2.2.2.2.2.2.2.2.2.2.2.2.2.2.2.2.2) o.1)  : ∀ (n : Nat) (thrown : Int32) (now : Nat → Int32) (hist : Nat → Nat → Int32) (kept : Int32) (reason : Int32) (detail : Int32) (comes : Nat → Int32) (queue : Nat → Int32) (far : Nat → Int32) (isInText : Int32) (length : Int32) (at_ : Int32) (errorPosition : Int32) (toldFrom : Int32) (toldTo : Int32) (isWrong : Int32) (before : Nat → Int32) (x1 : Int32) (x2 : Int32) (x3 : Int32), fX5_read_71  text n thrown now hist kept reason detail comes queue far isInText length at_ errorPosition toldFrom toldTo isWrong before x1 x2 x3 = some o → ∀ (H : Heap) (locs : List Loc) (ls : Array Slot), zWd G A s (zM ad k thrown now saved hist kept reason detail isSaved comes queue far isInText ahead roomAt rooms text length at_ errorPosition toldFrom toldTo isWrong before) H locs → lv_has ls 4 [(0, .ref (ad 0)), (1, .int x1), (2, .int x2), (3, .int x3)] → W p l e rmX5_read s m args below meth c H locs 0 0 Q (F0 m 71 ls []) := by
  obtain ⟨hx, hb, hr, hml, hown, hts, hlocks⟩ := id C0
  intro n
  induction n with
  | zero => intro thrown now hist kept reason detail comes queue far isInText length at_ errorPosition toldFrom toldTo isWrong before x1 x2 x3 hF; exact nomatch hF
  | succ n ih =>
    intro thrown now hist kept reason detail comes queue far isInText length at_ errorPosition toldFrom toldTo isWrong before x1 x2 x3 hF H locs ls hw hl
    rw [fX5_read_71] at hF
    refine lv_iload_n hx hb dX5_read_71 rfl (lv_at hl 3 rfl) ?_
    refine lv_iload_n hx hb dX5_read_72 rfl (lv_at hl 1 rfl) ?_
    refine lv_icmp_ge (tgt := 117) hx hb dX5_read_73 (by decide) (fun hc => ?_) (fun hc => ?_)
    · have hF := zif_t hc hF
      exact wX5_read_117 C0 hK hA hret   _ _ _ _ _ _ _ _ _ _ _ _ _ _ _ _ _ _ _ hF _ _ _ hw (lv_sub hl [0, 1, 2] rfl)
    · have hF := zif_f hc hF
      refine lv_iload_n hx hb dX5_read_76 rfl (lv_at hl 2 rfl) ?_
      refine lv_if_eq (tgt := 117) hx hb dX5_read_77 (by decide) (fun hc => ?_) (fun hc => ?_)
      · have hF := zif_t hc hF
        exact wX5_read_117 C0 hK hA hret   _ _ _ _ _ _ _ _ _ _ _ _ _ _ _ _ _ _ _ hF _ _ _ hw (lv_sub hl [0, 1, 2] rfl)
      · have hF := zif_f hc hF
        refine lv_aload_n hx hb dX5_read_80 rfl (lv_at hl 0 rfl) ?_
        refine lv_aload_n hx hb dX5_read_81 rfl (lv_at hl 0 rfl) ?_
        obtain ⟨u1, hq2, hF⟩ := zbd_t hF
        refine zgoIw (w' := (zM ad k thrown now saved hist kept reason detail isSaved comes queue far isInText ahead roomAt rooms text length u1.2.1 errorPosition u1.2.2.1 u1.2.2.2.1 u1.2.2.2.2 before)) hw hA (zVw (As := []) (rest := [.ref (ad 0)]) ⟨hx, hb, hml, hown, hts⟩ (mX5_readTurn l G k ad H.size thrown now saved hist kept reason detail isSaved comes queue far isInText ahead roomAt rooms text length at_ errorPosition toldFrom toldTo isWrong before  u1 hq2) (cwV 0 hts gX5_read_X5_readTurn rfl rfl rfl kdX5_readTurn ⟨Nat.le_of_ble_eq_true rfl, Nat.le_of_ble_eq_true rfl⟩) hK hA hw 0 rfl rfl rfl rfl hl.1 rfl (Nat.le_of_ble_eq_true rfl) dX5_read_82 ⟨Nat.le_of_ble_eq_true rfl, Nat.le_of_ble_eq_true rfl⟩) (fun H locs hw => ?_)
        obtain ⟨u3, hq4, hF⟩ := zbd_t hF
        refine zgoVw (w' := (zM ad k u3.1 u3.2.1 saved u3.2.2.1 u3.2.2.2.1 u3.2.2.2.2.1 u3.2.2.2.2.2.1 isSaved u3.2.2.2.2.2.2.1 u3.2.2.2.2.2.2.2.1 u3.2.2.2.2.2.2.2.2 isInText ahead roomAt rooms text length u1.2.1 errorPosition u1.2.2.1 u1.2.2.2.1 u1.2.2.2.2 before)) hw hA (zVw (As := [.int u1.1]) (rest := []) ⟨hx, hb, hml, hown, hts⟩ (mX5_take l G k ad H.size thrown now saved hist kept reason detail isSaved comes queue far isInText ahead roomAt rooms text length u1.2.1 errorPosition u1.2.2.1 u1.2.2.2.1 u1.2.2.2.2 before u1.1 u3 hq4) (cwV 1 hts gX5_read_X5_take rfl rfl rfl kdX5_take ⟨Nat.le_of_ble_eq_true rfl, Nat.le_of_ble_eq_true rfl⟩) hK hA hw 0 rfl rfl rfl rfl hl.1 rfl (Nat.le_of_ble_eq_true rfl) dX5_read_85 ⟨Nat.le_of_ble_eq_true rfl, Nat.le_of_ble_eq_true rfl⟩) (fun H locs hw => ?_)
        refine lv_aload_n hx hb dX5_read_88 rfl (lv_at hl 0 rfl) ?_
        refine lv_dup hx hb dX5_read_89 rfl ?_
        refine va_get (D := G) (ci := 4) (v := .int u1.2.1) (C := RX5) (T := TX5) (N := 23) hx hb hts inX5_read_X5 hown hK.1 hw.1 0 rfl rfl 17 (by decide) (hts (.fieldLink RX5 240 "SealedBoardModel" "at" "I") (by decide +kernel)) (fun _ h9 => h9) rfl dX5_read_90 ?_
        refine lv_iconst (v := (1 : Int32)) hx hb dX5_read_93 (by decide) ?_
        refine lv_iadd hx hb dX5_read_94 ?_
        refine va_put (D := G) (ci := 4) (v := .int (u1.2.1 + (1 : Int32))) (ty := .int) (C := RX5) (T := TX5) (N := 23) hx hb hts inX5_read_X5 tyX5 tyX5_ok nmX5 hown hK.1 hw.1 hw.2.1 hw.2.2 0 rfl rfl 17 (by decide) (hts (.fieldLink RX5 240 "SealedBoardModel" "at" "I") (by decide +kernel)) (fun _ h9 => h9) rfl (by decide +kernel) rfl rfl (Nat.le_of_ble_eq_true rfl) dX5_read_95 (fun H locs hP hD hS => ?_)
        have hw : zWd G A s (zM ad k u3.1 u3.2.1 saved u3.2.2.1 u3.2.2.2.1 u3.2.2.2.2.1 u3.2.2.2.2.2.1 isSaved u3.2.2.2.2.2.2.1 u3.2.2.2.2.2.2.2.1 u3.2.2.2.2.2.2.2.2 isInText ahead roomAt rooms text length (u1.2.1 + (1 : Int32)) errorPosition u1.2.2.1 u1.2.2.2.1 u1.2.2.2.2 before) H locs := ⟨hP, hD, hS⟩
        refine lv_aload_n hx hb dX5_read_98 rfl (lv_at hl 0 rfl) ?_
        refine va_get (D := G) (ci := 4) (v := .int u3.1) (C := RX5) (T := TX5) (N := 23) hx hb hts inX5_read_X5 hown hK.1 hw.1 0 rfl rfl 0 (by decide) (hts (.fieldLink RX5 51 "SealedBoardModel" "thrown" "I") (by decide +kernel)) (fun _ h9 => h9) rfl dX5_read_99 ?_
        refine lv_if_ne (tgt := 109) hx hb dX5_read_102 (by decide) (fun hc => ?_) (fun hc => ?_)
        · have hF := zif_f hc hF
          refine lv_iconst (v := (0 : Int32)) hx hb dX5_read_109 (by decide) ?_
          exact wX5_read_110 C0 hK hA hret (fun b0 b1 b2 b3 b4 b5 b6 b7 b8 b9 b10 b11 b12 b13 b14 b15 b16 b17 b18 b19 => fX5_read_71  text n b0 b1 b2 b3 b4 b5 b6 b7 b8 b9 b10 b11 b12 b13 b14 b15 b16 b17 b18 b19) ih  _ _ _ _ _ _ _ _ _ _ _ _ _ _ _ _ _ _ _ _ hF _ _ _ hw (lv_sub hl [0, 1, 3] rfl)
        · have hF := zif_t hc hF
          refine lv_iconst (v := (1 : Int32)) hx hb dX5_read_105 (by decide) ?_
          refine lv_goto (tgt := 110) hx hb dX5_read_106 (by decide) ?_
          exact wX5_read_110 C0 hK hA hret (fun b0 b1 b2 b3 b4 b5 b6 b7 b8 b9 b10 b11 b12 b13 b14 b15 b16 b17 b18 b19 => fX5_read_71  text n b0 b1 b2 b3 b4 b5 b6 b7 b8 b9 b10 b11 b12 b13 b14 b15 b16 b17 b18 b19) ih  _ _ _ _ _ _ _ _ _ _ _ _ _ _ _ _ _ _ _ _ hF _ _ _ hw (lv_sub hl [0, 1, 3] rfl)
set_option maxHeartbeats 400000 in
set_option maxRecDepth 100000 in
theorem wX5_read_24 {p : Program} {l : Launch} {e : Env} {s : State} {m : MethodId} {args : Array Value} {below : List Frame} {meth : Method} {c : Code} {A : Nat → Prop} {Q : State → Prop} {G : va_G} {k : Nat → ClassId} {ad : Nat → Nat} {saved : Nat → Int32} {isSaved : Int32} {ahead : Nat → Int32} {roomAt : Nat → Int32} {rooms : Int32} {text : Nat → Int32} {o : Int32 × Int32 × (Nat → Int32) × (Nat → Nat → Int32) × Int32 × Int32 × Int32 × (Nat → Int32) × (Nat → Int32) × (Nat → Int32) × Int32 × Int32 × Int32 × Int32 × Int32 × Int32 × Int32 × (Nat → Int32)} (C0 : zCx p s m args meth c wsX5_read cX5_read RX5 (some .int) 4) (hK : zKK G k A s s.heap) (hA : ∀ q : Nat, s.heap.size ≤ q → A q) (hret : zRI p l e rmX5_read s m args below meth c cX5_read G A 0 0 Q .int (zM ad k o.2.1 o.2.2.1 saved o.2.2.2.1 o.2.2.2.2.1 o.2.2.2.2.2.1 o.2.2.2.2.2.2.1 isSaved o.2.2.2.2.2.2.2.1 o.2.2.2.2.2.2.2.2.1 o.2.2.2.2.2.2.2.2.2.1 o.2.2.2.2.2.2.2.2.2.2.1 ahead roomAt rooms text o.2.2.2.2.2.2.2.2.2.2.2.1 o.2.2.2.2.2.2.2.2.2.2.2.2.1 o.2.2.2.2.2.2.2.2.2.2.2.2.2.1 o.2.2.2.2.2.2.2.2.2.2.2.2.2.2.1 o.2.2.2.2.2.2.2.2.2.2.2.2.2.2.2.1 o.2.2.2.2.2.2.2.2.2.2.2.2.2.2.2.2.1 o.2.2.2.2.2.2.2.2.2.2.2.2.2.2.2.2.2) o.1)  : ∀ (thrown : Int32) (now : Nat → Int32) (hist : Nat → Nat → Int32) (kept : Int32) (reason : Int32) (detail : Int32) (comes : Nat → Int32) (queue : Nat → Int32) (far : Nat → Int32) (isInText : Int32) (length : Int32) (at_ : Int32) (errorPosition : Int32) (toldFrom : Int32) (toldTo : Int32) (isWrong : Int32) (before : Nat → Int32) (x1 : Int32) (s0 : Int32), fX5_read_24  text thrown now hist kept reason detail comes queue far isInText length at_ errorPosition toldFrom toldTo isWrong before x1 s0 = some o → ∀ (H : Heap) (locs : List Loc) (ls : Array Slot), zWd G A s (zM ad k thrown now saved hist kept reason detail isSaved comes queue far isInText ahead roomAt rooms text length at_ errorPosition toldFrom toldTo isWrong before) H locs → lv_has ls 4 [(0, .ref (ad 0)), (1, .int x1)] → W p l e rmX5_read s m args below meth c H locs 0 0 Q (F0 m 24 ls [.int s0, .ref (ad 0)]) := by
  obtain ⟨hx, hb, hr, hml, hown, hts, hlocks⟩ := id C0
  intro thrown now hist kept reason detail comes queue far isInText length at_ errorPosition toldFrom toldTo isWrong before x1 s0 hF H locs ls hw hl
  unfold fX5_read_24 at hF
  refine va_put (D := G) (ci := 4) (v := .int s0) (ty := .int) (C := RX5) (T := TX5) (N := 23) hx hb hts inX5_read_X5 tyX5 tyX5_ok nmX5 hown hK.1 hw.1 hw.2.1 hw.2.2 0 rfl rfl 18 (by decide) (hts (.fieldLink RX5 41 "SealedBoardModel" "errorPosition" "I") (by decide +kernel)) (fun _ h9 => h9) rfl (by decide +kernel) rfl rfl (Nat.le_of_ble_eq_true rfl) dX5_read_24 (fun H locs hP hD hS => ?_)
  have hw : zWd G A s (zM ad k thrown now saved hist kept reason detail isSaved comes queue far isInText ahead roomAt rooms text length at_ s0 toldFrom toldTo isWrong before) H locs := ⟨hP, hD, hS⟩
  refine lv_aload_n hx hb dX5_read_27 rfl (lv_at hl 0 rfl) ?_
  refine lv_iconst (v := (1 : Int32)) hx hb dX5_read_28 (by decide) ?_
  refine lv_aload_n hx hb dX5_read_29 rfl (lv_at hl 0 rfl) ?_
  refine va_get (D := G) (ci := 4) (v := .int isWrong) (C := RX5) (T := TX5) (N := 23) hx hb hts inX5_read_X5 hown hK.1 hw.1 0 rfl rfl 21 (by decide) (hts (.fieldLink RX5 237 "SealedBoardModel" "isWrong" "Z") (by decide +kernel)) (fun _ h9 => h9) rfl dX5_read_30 ?_
  obtain ⟨u1, hq2, hF⟩ := zbd_t hF
  refine zgoIw (w' := (zM ad k u1.2 now saved hist kept reason detail isSaved comes queue far isInText ahead roomAt rooms text length at_ s0 toldFrom toldTo isWrong before)) hw hA (zVw (As := [.int (1 : Int32), .int isWrong]) (rest := []) ⟨hx, hb, hml, hown, hts⟩ (mX5_fails l G k ad H.size thrown now saved hist kept reason detail isSaved comes queue far isInText ahead roomAt rooms text length at_ s0 toldFrom toldTo isWrong before (1 : Int32) isWrong u1 hq2) (cwV 2 hts gX5_read_X5_fails rfl rfl rfl kdX5_fails ⟨Nat.le_of_ble_eq_true rfl, Nat.le_of_ble_eq_true rfl⟩) hK hA hw 0 rfl rfl rfl rfl hl.1 rfl (Nat.le_of_ble_eq_true rfl) dX5_read_33 ⟨Nat.le_of_ble_eq_true rfl, Nat.le_of_ble_eq_true rfl⟩) (fun H locs hw => ?_)
  refine lv_if_eq (tgt := 46) hx hb dX5_read_36 (by decide) (fun hc => ?_) (fun hc => ?_)
  · have hF := zif_t hc hF
    refine lv_aload_n hx hb dX5_read_46 rfl (lv_at hl 0 rfl) ?_
    refine va_get (D := G) (ci := 4) (v := .ref (ad 1)) (C := RX5) (T := TX5) (N := 23) hx hb hts inX5_read_X5 hown hK.1 hw.1 0 rfl rfl 1 (by decide) (hts (.fieldLink RX5 9 "SealedBoardModel" "now" "[I") (by decide +kernel)) (fun _ h9 => h9) rfl dX5_read_47 ?_
    refine lv_aload_n hx hb dX5_read_50 rfl (lv_at hl 0 rfl) ?_
    refine va_get (D := G) (ci := 4) (v := .ref (ad 10)) (C := RX5) (T := TX5) (N := 23) hx hb hts inX5_read_X5 hown hK.1 hw.1 0 rfl rfl 22 (by decide) (hts (.fieldLink RX5 45 "SealedBoardModel" "before" "[I") (by decide +kernel)) (fun _ h9 => h9) rfl dX5_read_51 ?_
    obtain ⟨u3, hq4, hF⟩ := zbd_t hF
    refine zgoV (w' := (zM ad k u1.2 now saved hist kept reason detail isSaved comes queue far isInText ahead roomAt rooms text length at_ s0 toldFrom toldTo isWrong u3)) hw hA [1, 10] rfl (zS (As := [.ref (ad 1), .ref (ad 10)]) (rest := []) ⟨hx, hb, hml, hown, hts⟩ (mX5_copyRow l G k (ad 1) (ad 10) H.size now before  u3 hq4) (va_cwS 2 hts gX5_read_X5_copyRow rfl rfl rfl kdX5_copyRow ⟨Nat.le_of_ble_eq_true rfl, Nat.le_of_ble_eq_true rfl⟩) hK hA hw [1, 10] rfl (by decide) rfl hl.1 rfl (Nat.le_of_ble_eq_true rfl) dX5_read_54 ⟨Nat.le_of_ble_eq_true rfl, Nat.le_of_ble_eq_true rfl⟩) rfl rfl rfl (fun H locs hw => ?_)
    refine lv_aload_n hx hb dX5_read_57 rfl (lv_at hl 0 rfl) ?_
    refine lv_iconst (v := (1 : Int32)) hx hb dX5_read_58 (by decide) ?_
    refine va_put (D := G) (ci := 4) (v := .int (1 : Int32)) (ty := .boolean) (C := RX5) (T := TX5) (N := 23) hx hb hts inX5_read_X5 tyX5 tyX5_ok nmX5 hown hK.1 hw.1 hw.2.1 hw.2.2 0 rfl rfl 11 (by decide) (hts (.fieldLink RX5 176 "SealedBoardModel" "isInText" "Z") (by decide +kernel)) (fun _ h9 => h9) rfl (by decide +kernel) rfl rfl (Nat.le_of_ble_eq_true rfl) dX5_read_59 (fun H locs hP hD hS => ?_)
    have hw : zWd G A s (zM ad k u1.2 now saved hist kept reason detail isSaved comes queue far (1 : Int32) ahead roomAt rooms text length at_ s0 toldFrom toldTo isWrong u3) H locs := ⟨hP, hD, hS⟩
    refine lv_iconst (v := (1 : Int32)) hx hb dX5_read_62 (by decide) ?_
    refine lv_istore_n (lv' := [(2, .int (1 : Int32)), (0, .ref (ad 0)), (1, .int x1)]) hx hb dX5_read_63 rfl hl (by decide) rfl (fun ls hl => ?_)
    refine lv_aload_n hx hb dX5_read_64 rfl (lv_at hl 1 rfl) ?_
    refine lv_iconst (v := (0 : Int32)) hx hb dX5_read_65 (by decide) ?_
    refine va_put (D := G) (ci := 4) (v := .int (0 : Int32)) (ty := .int) (C := RX5) (T := TX5) (N := 23) hx hb hts inX5_read_X5 tyX5 tyX5_ok nmX5 hown hK.1 hw.1 hw.2.1 hw.2.2 0 rfl rfl 17 (by decide) (hts (.fieldLink RX5 240 "SealedBoardModel" "at" "I") (by decide +kernel)) (fun _ h9 => h9) rfl (by decide +kernel) rfl rfl (Nat.le_of_ble_eq_true rfl) dX5_read_66 (fun H locs hP hD hS => ?_)
    have hw : zWd G A s (zM ad k u1.2 now saved hist kept reason detail isSaved comes queue far (1 : Int32) ahead roomAt rooms text length (0 : Int32) s0 toldFrom toldTo isWrong u3) H locs := ⟨hP, hD, hS⟩
    refine lv_iconst (v := (0 : Int32)) hx hb dX5_read_69 (by decide) ?_
    refine lv_istore_n (lv' := [(3, .int (0 : Int32)), (2, .int (1 : Int32)), (0, .ref (ad 0)), (1, .int x1)]) hx hb dX5_read_70 rfl hl (by decide) rfl (fun ls hl => ?_)
    exact wX5_read_71 C0 hK hA hret  zFu _ _ _ _ _ _ _ _ _ _ _ _ _ _ _ _ _ _ _ _ hF _ _ _ hw (lv_sub hl [2, 3, 1, 0] rfl)
  · have hF := zif_f hc hF
    refine lv_aload_n hx hb dX5_read_39 rfl (lv_at hl 0 rfl) ?_
    refine lv_iconst (v := (0 : Int32)) hx hb dX5_read_40 (by decide) ?_
    refine va_put (D := G) (ci := 4) (v := .int (0 : Int32)) (ty := .int) (C := RX5) (T := TX5) (N := 23) hx hb hts inX5_read_X5 tyX5 tyX5_ok nmX5 hown hK.1 hw.1 hw.2.1 hw.2.2 0 rfl rfl 16 (by decide) (hts (.fieldLink RX5 234 "SealedBoardModel" "length" "I") (by decide +kernel)) (fun _ h9 => h9) rfl (by decide +kernel) rfl rfl (Nat.le_of_ble_eq_true rfl) dX5_read_41 (fun H locs hP hD hS => ?_)
    have hw : zWd G A s (zM ad k u1.2 now saved hist kept reason detail isSaved comes queue far isInText ahead roomAt rooms text (0 : Int32) at_ s0 toldFrom toldTo isWrong before) H locs := ⟨hP, hD, hS⟩
    refine lv_iconst (v := (0 : Int32)) hx hb dX5_read_44 (by decide) ?_
    obtain rfl := Option.some.inj hF
    exact hret _ _ _ _ rfl hw dX5_read_45
set_option maxHeartbeats 400000 in
set_option maxRecDepth 100000 in
theorem mX5_read (l : Launch) (G : va_G) (k : Nat → ClassId) (ad : Nat → Nat) (sz : Nat) (thrown : Int32) (now : Nat → Int32) (saved : Nat → Int32) (hist : Nat → Nat → Int32) (kept : Int32) (reason : Int32) (detail : Int32) (isSaved : Int32) (comes : Nat → Int32) (queue : Nat → Int32) (far : Nat → Int32) (isInText : Int32) (ahead : Nat → Int32) (roomAt : Nat → Int32) (rooms : Int32) (text : Nat → Int32) (length : Int32) (at_ : Int32) (errorPosition : Int32) (toldFrom : Int32) (toldTo : Int32) (isWrong : Int32) (before : Nat → Int32)  (o : Int32 × Int32 × (Nat → Int32) × (Nat → Nat → Int32) × Int32 × Int32 × Int32 × (Nat → Int32) × (Nat → Int32) × (Nat → Int32) × Int32 × Int32 × Int32 × Int32 × Int32 × Int32 × Int32 × (Nat → Int32)) (hF : fX5_read thrown now hist kept reason detail comes queue far isInText text length at_ errorPosition toldFrom toldTo isWrong before = some o) : zMI l yX5_read wsX5_read rmX5_read G k (zM ad k thrown now saved hist kept reason detail isSaved comes queue far isInText ahead roomAt rooms text length at_ errorPosition toldFrom toldTo isWrong before) sz [.ref (ad 0)] o.1 (zM ad k o.2.1 o.2.2.1 saved o.2.2.2.1 o.2.2.2.2.1 o.2.2.2.2.2.1 o.2.2.2.2.2.2.1 isSaved o.2.2.2.2.2.2.2.1 o.2.2.2.2.2.2.2.2.1 o.2.2.2.2.2.2.2.2.2.1 o.2.2.2.2.2.2.2.2.2.2.1 ahead roomAt rooms text o.2.2.2.2.2.2.2.2.2.2.2.1 o.2.2.2.2.2.2.2.2.2.2.2.2.1 o.2.2.2.2.2.2.2.2.2.2.2.2.2.1 o.2.2.2.2.2.2.2.2.2.2.2.2.2.2.1 o.2.2.2.2.2.2.2.2.2.2.2.2.2.2.2.1 o.2.2.2.2.2.2.2.2.2.2.2.2.2.2.2.2.1 o.2.2.2.2.2.2.2.2.2.2.2.2.2.2.2.2.2) := by
  refine zof_I (cc := cX5_read) (nL := 4) (own := RX5) (rt := .int) (by decide) rfl rfl (Nat.le_of_ble_eq_true rfl) ?_
  intro p e s m args below meth c A Q C0 hK hA hret ls hl hw
  have hl : lv_has ls 4 [(0, .ref (ad 0))] := hl
  obtain ⟨hx, hb, hr, hml, hown, hts, hlocks⟩ := id C0
  obtain ⟨H, hH⟩ : ∃ z, z = s.heap := ⟨_, rfl⟩
  rw [← hH] at hw ⊢
  unfold fX5_read at hF
  refine lv_aload_n hx hb dX5_read_0 rfl (lv_at hl 0 rfl) ?_
  obtain ⟨u1, hq2, hF⟩ := zbd_t hF
  refine zgoIw (w' := (zM ad k thrown now saved hist kept reason detail isSaved comes queue far isInText ahead roomAt rooms text length u1.2.1 errorPosition u1.2.2.1 u1.2.2.2.1 u1.2.2.2.2 before)) hw hA (zVw (As := []) (rest := []) ⟨hx, hb, hml, hown, hts⟩ (mX5_countTurns l G k ad H.size thrown now saved hist kept reason detail isSaved comes queue far isInText ahead roomAt rooms text length at_ errorPosition toldFrom toldTo isWrong before  u1 hq2) (cwV 0 hts gX5_read_X5_countTurns rfl rfl rfl kdX5_countTurns ⟨Nat.le_of_ble_eq_true rfl, Nat.le_of_ble_eq_true rfl⟩) hK hA hw 0 rfl rfl rfl rfl hl.1 rfl (Nat.le_of_ble_eq_true rfl) dX5_read_1 ⟨Nat.le_of_ble_eq_true rfl, Nat.le_of_ble_eq_true rfl⟩) (fun H locs hw => ?_)
  refine lv_istore_n (lv' := [(1, .int u1.1), (0, .ref (ad 0))]) hx hb dX5_read_4 rfl hl (by decide) rfl (fun ls hl => ?_)
  refine lv_aload_n hx hb dX5_read_5 rfl (lv_at hl 1 rfl) ?_
  refine lv_aload_n hx hb dX5_read_6 rfl (lv_at hl 1 rfl) ?_
  refine va_get (D := G) (ci := 4) (v := .int u1.2.2.2.2) (C := RX5) (T := TX5) (N := 23) hx hb hts inX5_read_X5 hown hK.1 hw.1 0 rfl rfl 21 (by decide) (hts (.fieldLink RX5 237 "SealedBoardModel" "isWrong" "Z") (by decide +kernel)) (fun _ h9 => h9) rfl dX5_read_7 ?_
  refine lv_if_eq (tgt := 20) hx hb dX5_read_10 (by decide) (fun hc => ?_) (fun hc => ?_)
  · have hF := zif_t hc hF
    refine lv_aload_n hx hb dX5_read_20 rfl (lv_at hl 1 rfl) ?_
    refine va_get (D := G) (ci := 4) (v := .int errorPosition) (C := RX5) (T := TX5) (N := 23) hx hb hts inX5_read_X5 hown hK.1 hw.1 0 rfl rfl 18 (by decide) (hts (.fieldLink RX5 41 "SealedBoardModel" "errorPosition" "I") (by decide +kernel)) (fun _ h9 => h9) rfl dX5_read_21 ?_
    exact wX5_read_24 C0 hK hA hret   _ _ _ _ _ _ _ _ _ _ _ _ _ _ _ _ _ _ _ hF _ _ _ hw (lv_sub hl [1, 0] rfl)
  · have hF := zif_f hc hF
    refine lv_aload_n hx hb dX5_read_13 rfl (lv_at hl 1 rfl) ?_
    refine va_get (D := G) (ci := 4) (v := .int u1.2.1) (C := RX5) (T := TX5) (N := 23) hx hb hts inX5_read_X5 hown hK.1 hw.1 0 rfl rfl 17 (by decide) (hts (.fieldLink RX5 240 "SealedBoardModel" "at" "I") (by decide +kernel)) (fun _ h9 => h9) rfl dX5_read_14 ?_
    refine lv_goto (tgt := 24) hx hb dX5_read_17 (by decide) ?_
    exact wX5_read_24 C0 hK hA hret   _ _ _ _ _ _ _ _ _ _ _ _ _ _ _ _ _ _ _ hF _ _ _ hw (lv_sub hl [1, 0] rfl)

/-! SealedBoardModel.errorPosition()I -/
abbrev rmX5_errorPosition : Room := { frames := 1, cells := 0, slots := 0, locals := 22 }
theorem kdX5_errorPosition : yX5_errorPosition.cls = RX5 ∧ yX5_errorPosition.cls ≠ "java/lang/invoke/MethodHandle" ∧ yX5_errorPosition.cls ≠ "java/lang/invoke/VarHandle" ∧ (parseMethodDescriptor yX5_errorPosition.desc).map (fun d => d.parameters.length) = some 0 := by decide +kernel
theorem inX5_errorPosition_X5 : ∀ w ∈ u_ws RX5 TX5 23, w ∈ wsX5_errorPosition := by decide +kernel
def fX5_errorPosition_14  (errorPosition : Int32) (thrown : Int32) (s0 : Int32) (s1 : Int32) : Option (Int32 × Int32) := (zbd (fX5_fails thrown s1 s0) (fun u1 => (if u1.1 = 0 then (some (errorPosition, u1.2)) else (some ((0 : Int32), u1.2)))))
def fX5_errorPosition (thrown : Int32) (errorPosition : Int32) : Option (Int32 × Int32) := (if 0 ≤ errorPosition then (fX5_errorPosition_14  errorPosition  thrown (0 : Int32) (1 : Int32)) else (fX5_errorPosition_14  errorPosition  thrown (1 : Int32) (1 : Int32)))
set_option maxHeartbeats 400000 in
set_option maxRecDepth 100000 in
theorem wX5_errorPosition_14 {p : Program} {l : Launch} {e : Env} {s : State} {m : MethodId} {args : Array Value} {below : List Frame} {meth : Method} {c : Code} {A : Nat → Prop} {Q : State → Prop} {G : va_G} {k : Nat → ClassId} {ad : Nat → Nat} {now : Nat → Int32} {saved : Nat → Int32} {hist : Nat → Nat → Int32} {kept : Int32} {reason : Int32} {detail : Int32} {isSaved : Int32} {comes : Nat → Int32} {queue : Nat → Int32} {far : Nat → Int32} {isInText : Int32} {ahead : Nat → Int32} {roomAt : Nat → Int32} {rooms : Int32} {text : Nat → Int32} {length : Int32} {at_ : Int32} {errorPosition : Int32} {toldFrom : Int32} {toldTo : Int32} {isWrong : Int32} {before : Nat → Int32} {o : Int32 × Int32} (C0 : zCx p s m args meth c wsX5_errorPosition cX5_errorPosition RX5 (some .int) 1) (hK : zKK G k A s s.heap) (hA : ∀ q : Nat, s.heap.size ≤ q → A q) (hret : zRI p l e rmX5_errorPosition s m args below meth c cX5_errorPosition G A 0 0 Q .int (zM ad k o.2 now saved hist kept reason detail isSaved comes queue far isInText ahead roomAt rooms text length at_ errorPosition toldFrom toldTo isWrong before) o.1)  : ∀ (thrown : Int32) (s0 : Int32) (s1 : Int32), fX5_errorPosition_14  errorPosition thrown s0 s1 = some o → ∀ (H : Heap) (locs : List Loc) (ls : Array Slot), zWd G A s (zM ad k thrown now saved hist kept reason detail isSaved comes queue far isInText ahead roomAt rooms text length at_ errorPosition toldFrom toldTo isWrong before) H locs → lv_has ls 1 [(0, .ref (ad 0))] → W p l e rmX5_errorPosition s m args below meth c H locs 0 0 Q (F0 m 14 ls [.int s0, .int s1, .ref (ad 0)]) := by
  obtain ⟨hx, hb, hr, hml, hown, hts, hlocks⟩ := id C0
  intro thrown s0 s1 hF H locs ls hw hl
  unfold fX5_errorPosition_14 at hF
  obtain ⟨u1, hq2, hF⟩ := zbd_t hF
  refine zgoIw (w' := (zM ad k u1.2 now saved hist kept reason detail isSaved comes queue far isInText ahead roomAt rooms text length at_ errorPosition toldFrom toldTo isWrong before)) hw hA (zVw (As := [.int s1, .int s0]) (rest := []) ⟨hx, hb, hml, hown, hts⟩ (mX5_fails l G k ad H.size thrown now saved hist kept reason detail isSaved comes queue far isInText ahead roomAt rooms text length at_ errorPosition toldFrom toldTo isWrong before s1 s0 u1 hq2) (cwV 2 hts gX5_errorPosition_X5_fails rfl rfl rfl kdX5_fails ⟨Nat.le_of_ble_eq_true rfl, Nat.le_of_ble_eq_true rfl⟩) hK hA hw 0 rfl rfl rfl rfl hl.1 rfl (Nat.le_of_ble_eq_true rfl) dX5_errorPosition_14 ⟨Nat.le_of_ble_eq_true rfl, Nat.le_of_ble_eq_true rfl⟩) (fun H locs hw => ?_)
  refine lv_if_eq (tgt := 24) hx hb dX5_errorPosition_17 (by decide) (fun hc => ?_) (fun hc => ?_)
  · have hF := zif_t hc hF
    refine lv_aload_n hx hb dX5_errorPosition_24 rfl (lv_at hl 0 rfl) ?_
    refine va_get (D := G) (ci := 4) (v := .int errorPosition) (C := RX5) (T := TX5) (N := 23) hx hb hts inX5_errorPosition_X5 hown hK.1 hw.1 0 rfl rfl 18 (by decide) (hts (.fieldLink RX5 41 "SealedBoardModel" "errorPosition" "I") (by decide +kernel)) (fun _ h9 => h9) rfl dX5_errorPosition_25 ?_
    obtain rfl := Option.some.inj hF
    exact hret _ _ _ _ rfl hw dX5_errorPosition_28
  · have hF := zif_f hc hF
    refine lv_iconst (v := (0 : Int32)) hx hb dX5_errorPosition_20 (by decide) ?_
    refine lv_goto (tgt := 28) hx hb dX5_errorPosition_21 (by decide) ?_
    obtain rfl := Option.some.inj hF
    exact hret _ _ _ _ rfl hw dX5_errorPosition_28
set_option maxHeartbeats 400000 in
set_option maxRecDepth 100000 in
theorem mX5_errorPosition (l : Launch) (G : va_G) (k : Nat → ClassId) (ad : Nat → Nat) (sz : Nat) (thrown : Int32) (now : Nat → Int32) (saved : Nat → Int32) (hist : Nat → Nat → Int32) (kept : Int32) (reason : Int32) (detail : Int32) (isSaved : Int32) (comes : Nat → Int32) (queue : Nat → Int32) (far : Nat → Int32) (isInText : Int32) (ahead : Nat → Int32) (roomAt : Nat → Int32) (rooms : Int32) (text : Nat → Int32) (length : Int32) (at_ : Int32) (errorPosition : Int32) (toldFrom : Int32) (toldTo : Int32) (isWrong : Int32) (before : Nat → Int32)  (o : Int32 × Int32) (hF : fX5_errorPosition thrown errorPosition = some o) : zMI l yX5_errorPosition wsX5_errorPosition rmX5_errorPosition G k (zM ad k thrown now saved hist kept reason detail isSaved comes queue far isInText ahead roomAt rooms text length at_ errorPosition toldFrom toldTo isWrong before) sz [.ref (ad 0)] o.1 (zM ad k o.2 now saved hist kept reason detail isSaved comes queue far isInText ahead roomAt rooms text length at_ errorPosition toldFrom toldTo isWrong before) := by
  refine zof_I (cc := cX5_errorPosition) (nL := 1) (own := RX5) (rt := .int) (by decide) rfl rfl (Nat.le_of_ble_eq_true rfl) ?_
  intro p e s m args below meth c A Q C0 hK hA hret ls hl hw
  have hl : lv_has ls 1 [(0, .ref (ad 0))] := hl
  obtain ⟨hx, hb, hr, hml, hown, hts, hlocks⟩ := id C0
  obtain ⟨H, hH⟩ : ∃ z, z = s.heap := ⟨_, rfl⟩
  rw [← hH] at hw ⊢
  unfold fX5_errorPosition at hF
  refine lv_aload_n hx hb dX5_errorPosition_0 rfl (lv_at hl 0 rfl) ?_
  refine lv_iconst (v := (1 : Int32)) hx hb dX5_errorPosition_1 (by decide) ?_
  refine lv_aload_n hx hb dX5_errorPosition_2 rfl (lv_at hl 0 rfl) ?_
  refine va_get (D := G) (ci := 4) (v := .int errorPosition) (C := RX5) (T := TX5) (N := 23) hx hb hts inX5_errorPosition_X5 hown hK.1 hw.1 0 rfl rfl 18 (by decide) (hts (.fieldLink RX5 41 "SealedBoardModel" "errorPosition" "I") (by decide +kernel)) (fun _ h9 => h9) rfl dX5_errorPosition_3 ?_
  refine lv_if_ge (tgt := 13) hx hb dX5_errorPosition_6 (by decide) (fun hc => ?_) (fun hc => ?_)
  · have hF := zif_t hc hF
    refine lv_iconst (v := (0 : Int32)) hx hb dX5_errorPosition_13 (by decide) ?_
    exact wX5_errorPosition_14 C0 hK hA hret   _ _ _ hF _ _ _ hw (lv_sub hl [0] rfl)
  · have hF := zif_f hc hF
    refine lv_iconst (v := (1 : Int32)) hx hb dX5_errorPosition_9 (by decide) ?_
    refine lv_goto (tgt := 14) hx hb dX5_errorPosition_10 (by decide) ?_
    exact wX5_errorPosition_14 C0 hK hA hret   _ _ _ hF _ _ _ hw (lv_sub hl [0] rfl)

/-! SealedBoardModel.reason(Z)I -/
abbrev rmX5_reason : Room := { frames := 1, cells := 0, slots := 0, locals := 22 }
theorem kdX5_reason : yX5_reason.cls = RX5 ∧ yX5_reason.cls ≠ "java/lang/invoke/MethodHandle" ∧ yX5_reason.cls ≠ "java/lang/invoke/VarHandle" ∧ (parseMethodDescriptor yX5_reason.desc).map (fun d => d.parameters.length) = some 1 := by decide +kernel
theorem inX5_reason_X5 : ∀ w ∈ u_ws RX5 TX5 23, w ∈ wsX5_reason := by decide +kernel
def fX5_reason_14  (reason : Int32) (detail : Int32) (thrown : Int32) (x1 : Int32) (s0 : Int32) (s1 : Int32) : Option (Int32 × Int32) := (zbd (fX5_fails thrown s1 s0) (fun u1 => (if u1.1 = 0 then (if x1 = 0 then (some (reason, u1.2)) else (some (detail, u1.2))) else (some ((0 : Int32), u1.2)))))
def fX5_reason (thrown : Int32) (reason : Int32) (detail : Int32) (p0 : Int32) : Option (Int32 × Int32) := (if reason = 0 then (fX5_reason_14  reason detail  thrown p0 (1 : Int32) (1 : Int32)) else (fX5_reason_14  reason detail  thrown p0 (0 : Int32) (1 : Int32)))
set_option maxHeartbeats 400000 in
set_option maxRecDepth 100000 in
theorem wX5_reason_14 {p : Program} {l : Launch} {e : Env} {s : State} {m : MethodId} {args : Array Value} {below : List Frame} {meth : Method} {c : Code} {A : Nat → Prop} {Q : State → Prop} {G : va_G} {k : Nat → ClassId} {ad : Nat → Nat} {now : Nat → Int32} {saved : Nat → Int32} {hist : Nat → Nat → Int32} {kept : Int32} {reason : Int32} {detail : Int32} {isSaved : Int32} {comes : Nat → Int32} {queue : Nat → Int32} {far : Nat → Int32} {isInText : Int32} {ahead : Nat → Int32} {roomAt : Nat → Int32} {rooms : Int32} {text : Nat → Int32} {length : Int32} {at_ : Int32} {errorPosition : Int32} {toldFrom : Int32} {toldTo : Int32} {isWrong : Int32} {before : Nat → Int32} {o : Int32 × Int32} (C0 : zCx p s m args meth c wsX5_reason cX5_reason RX5 (some .int) 2) (hK : zKK G k A s s.heap) (hA : ∀ q : Nat, s.heap.size ≤ q → A q) (hret : zRI p l e rmX5_reason s m args below meth c cX5_reason G A 0 0 Q .int (zM ad k o.2 now saved hist kept reason detail isSaved comes queue far isInText ahead roomAt rooms text length at_ errorPosition toldFrom toldTo isWrong before) o.1)  : ∀ (thrown : Int32) (x1 : Int32) (s0 : Int32) (s1 : Int32), fX5_reason_14  reason detail thrown x1 s0 s1 = some o → ∀ (H : Heap) (locs : List Loc) (ls : Array Slot), zWd G A s (zM ad k thrown now saved hist kept reason detail isSaved comes queue far isInText ahead roomAt rooms text length at_ errorPosition toldFrom toldTo isWrong before) H locs → lv_has ls 2 [(0, .ref (ad 0)), (1, .int x1)] → W p l e rmX5_reason s m args below meth c H locs 0 0 Q (F0 m 14 ls [.int s0, .int s1, .ref (ad 0)]) := by
  obtain ⟨hx, hb, hr, hml, hown, hts, hlocks⟩ := id C0
  intro thrown x1 s0 s1 hF H locs ls hw hl
  unfold fX5_reason_14 at hF
  obtain ⟨u1, hq2, hF⟩ := zbd_t hF
  refine zgoIw (w' := (zM ad k u1.2 now saved hist kept reason detail isSaved comes queue far isInText ahead roomAt rooms text length at_ errorPosition toldFrom toldTo isWrong before)) hw hA (zVw (As := [.int s1, .int s0]) (rest := []) ⟨hx, hb, hml, hown, hts⟩ (mX5_fails l G k ad H.size thrown now saved hist kept reason detail isSaved comes queue far isInText ahead roomAt rooms text length at_ errorPosition toldFrom toldTo isWrong before s1 s0 u1 hq2) (cwV 2 hts gX5_reason_X5_fails rfl rfl rfl kdX5_fails ⟨Nat.le_of_ble_eq_true rfl, Nat.le_of_ble_eq_true rfl⟩) hK hA hw 0 rfl rfl rfl rfl hl.1 rfl (Nat.le_of_ble_eq_true rfl) dX5_reason_14 ⟨Nat.le_of_ble_eq_true rfl, Nat.le_of_ble_eq_true rfl⟩) (fun H locs hw => ?_)
  refine lv_if_eq (tgt := 24) hx hb dX5_reason_17 (by decide) (fun hc => ?_) (fun hc => ?_)
  · have hF := zif_t hc hF
    refine lv_iload_n hx hb dX5_reason_24 rfl (lv_at hl 1 rfl) ?_
    refine lv_if_eq (tgt := 35) hx hb dX5_reason_25 (by decide) (fun hc => ?_) (fun hc => ?_)
    · have hF := zif_t hc hF
      refine lv_aload_n hx hb dX5_reason_35 rfl (lv_at hl 0 rfl) ?_
      refine va_get (D := G) (ci := 4) (v := .int reason) (C := RX5) (T := TX5) (N := 23) hx hb hts inX5_reason_X5 hown hK.1 hw.1 0 rfl rfl 5 (by decide) (hts (.fieldLink RX5 54 "SealedBoardModel" "reason" "I") (by decide +kernel)) (fun _ h9 => h9) rfl dX5_reason_36 ?_
      obtain rfl := Option.some.inj hF
      exact hret _ _ _ _ rfl hw dX5_reason_39
    · have hF := zif_f hc hF
      refine lv_aload_n hx hb dX5_reason_28 rfl (lv_at hl 0 rfl) ?_
      refine va_get (D := G) (ci := 4) (v := .int detail) (C := RX5) (T := TX5) (N := 23) hx hb hts inX5_reason_X5 hown hK.1 hw.1 0 rfl rfl 6 (by decide) (hts (.fieldLink RX5 57 "SealedBoardModel" "detail" "I") (by decide +kernel)) (fun _ h9 => h9) rfl dX5_reason_29 ?_
      refine lv_goto (tgt := 39) hx hb dX5_reason_32 (by decide) ?_
      obtain rfl := Option.some.inj hF
      exact hret _ _ _ _ rfl hw dX5_reason_39
  · have hF := zif_f hc hF
    refine lv_iconst (v := (0 : Int32)) hx hb dX5_reason_20 (by decide) ?_
    refine lv_goto (tgt := 39) hx hb dX5_reason_21 (by decide) ?_
    obtain rfl := Option.some.inj hF
    exact hret _ _ _ _ rfl hw dX5_reason_39
set_option maxHeartbeats 400000 in
set_option maxRecDepth 100000 in
theorem mX5_reason (l : Launch) (G : va_G) (k : Nat → ClassId) (ad : Nat → Nat) (sz : Nat) (thrown : Int32) (now : Nat → Int32) (saved : Nat → Int32) (hist : Nat → Nat → Int32) (kept : Int32) (reason : Int32) (detail : Int32) (isSaved : Int32) (comes : Nat → Int32) (queue : Nat → Int32) (far : Nat → Int32) (isInText : Int32) (ahead : Nat → Int32) (roomAt : Nat → Int32) (rooms : Int32) (text : Nat → Int32) (length : Int32) (at_ : Int32) (errorPosition : Int32) (toldFrom : Int32) (toldTo : Int32) (isWrong : Int32) (before : Nat → Int32) (p0 : Int32) (o : Int32 × Int32) (hF : fX5_reason thrown reason detail p0 = some o) : zMI l yX5_reason wsX5_reason rmX5_reason G k (zM ad k thrown now saved hist kept reason detail isSaved comes queue far isInText ahead roomAt rooms text length at_ errorPosition toldFrom toldTo isWrong before) sz [.ref (ad 0), .int p0] o.1 (zM ad k o.2 now saved hist kept reason detail isSaved comes queue far isInText ahead roomAt rooms text length at_ errorPosition toldFrom toldTo isWrong before) := by
  refine zof_I (cc := cX5_reason) (nL := 2) (own := RX5) (rt := .int) (by decide) rfl rfl (Nat.le_of_ble_eq_true rfl) ?_
  intro p e s m args below meth c A Q C0 hK hA hret ls hl hw
  have hl : lv_has ls 2 [(0, .ref (ad 0)), (1, .int p0)] := hl
  obtain ⟨hx, hb, hr, hml, hown, hts, hlocks⟩ := id C0
  obtain ⟨H, hH⟩ : ∃ z, z = s.heap := ⟨_, rfl⟩
  rw [← hH] at hw ⊢
  unfold fX5_reason at hF
  refine lv_aload_n hx hb dX5_reason_0 rfl (lv_at hl 0 rfl) ?_
  refine lv_iconst (v := (1 : Int32)) hx hb dX5_reason_1 (by decide) ?_
  refine lv_aload_n hx hb dX5_reason_2 rfl (lv_at hl 0 rfl) ?_
  refine va_get (D := G) (ci := 4) (v := .int reason) (C := RX5) (T := TX5) (N := 23) hx hb hts inX5_reason_X5 hown hK.1 hw.1 0 rfl rfl 5 (by decide) (hts (.fieldLink RX5 54 "SealedBoardModel" "reason" "I") (by decide +kernel)) (fun _ h9 => h9) rfl dX5_reason_3 ?_
  refine lv_if_ne (tgt := 13) hx hb dX5_reason_6 (by decide) (fun hc => ?_) (fun hc => ?_)
  · have hF := zif_f hc hF
    refine lv_iconst (v := (0 : Int32)) hx hb dX5_reason_13 (by decide) ?_
    exact wX5_reason_14 C0 hK hA hret   _ _ _ _ hF _ _ _ hw (lv_sub hl [0, 1] rfl)
  · have hF := zif_t hc hF
    refine lv_iconst (v := (1 : Int32)) hx hb dX5_reason_9 (by decide) ?_
    refine lv_goto (tgt := 14) hx hb dX5_reason_10 (by decide) ?_
    exact wX5_reason_14 C0 hK hA hret   _ _ _ _ hF _ _ _ hw (lv_sub hl [0, 1] rfl)

/-! SealedBoardModel.picture(I)C -/
abbrev rmX5_picture : Room := { frames := 4, cells := 0, slots := 0, locals := 85 }
theorem kdX5_picture : yX5_picture.cls = RX5 ∧ yX5_picture.cls ≠ "java/lang/invoke/MethodHandle" ∧ yX5_picture.cls ≠ "java/lang/invoke/VarHandle" ∧ (parseMethodDescriptor yX5_picture.desc).map (fun d => d.parameters.length) = some 1 := by decide +kernel
theorem inX5_picture_X5 : ∀ w ∈ u_ws RX5 TX5 23, w ∈ wsX5_picture := by decide +kernel
def fX5_picture_14  (now : Nat → Int32) (thrown : Int32) (x1 : Int32) (s0 : Int32) (s1 : Int32) : Option (Int32 × Int32) := (zbd (fX5_fails thrown s1 s0) (fun u1 => (if u1.1 = 0 then (zck (zin x1 76) (zbn (now x1.toNatClampNeg) (fun a4 => (zck (zin ((36 : Int32) + x1) 76) (zbn (now ((36 : Int32) + x1).toNatClampNeg) (fun a6 => (zbd (fX5_isWall now x1) (fun u7 => (if u7 = 0 then (if a4 = 0 then (if a6 = 0 then (zck (zch (46 : Int32)) (some ((46 : Int32), u1.2))) else (if a6 = (1 : Int32) then (zck (zch (40 : Int32)) (some ((40 : Int32), u1.2))) else (zck (zch (41 : Int32)) (some ((41 : Int32), u1.2))))) else (zbd (fX5_sideOf a4) (fun u9 => (if u9 = 0 then (zbd (fX5_kindOf a4) (fun u17 => (zck (zin u17 4) (zck (zch (zsc [85, 73, 87, 75] u17)) (some ((zsc [85, 73, 87, 75] u17), u1.2)))))) else (zbd (fX5_kindOf a4) (fun u12 => (zck (zin u12 4) (zck (zch (zsc [117, 105, 119, 107] u12)) (some ((zsc [117, 105, 119, 107] u12), u1.2)))))))))) else (zck (zch (35 : Int32)) (some ((35 : Int32), u1.2)))))))))))) else (zck (zch (0 : Int32)) (some ((0 : Int32), u1.2))))))
def fX5_picture (thrown : Int32) (now : Nat → Int32) (p0 : Int32) : Option (Int32 × Int32) := (zbd (fX5_isSquare p0) (fun u1 => (if u1 = 0 then (fX5_picture_14  now  thrown p0 (1 : Int32) (1 : Int32)) else (fX5_picture_14  now  thrown p0 (0 : Int32) (1 : Int32)))))
set_option maxHeartbeats 400000 in
set_option maxRecDepth 100000 in
theorem wX5_picture_14 {p : Program} {l : Launch} {e : Env} {s : State} {m : MethodId} {args : Array Value} {below : List Frame} {meth : Method} {c : Code} {A : Nat → Prop} {Q : State → Prop} {G : va_G} {k : Nat → ClassId} {ad : Nat → Nat} {now : Nat → Int32} {saved : Nat → Int32} {hist : Nat → Nat → Int32} {kept : Int32} {reason : Int32} {detail : Int32} {isSaved : Int32} {comes : Nat → Int32} {queue : Nat → Int32} {far : Nat → Int32} {isInText : Int32} {ahead : Nat → Int32} {roomAt : Nat → Int32} {rooms : Int32} {text : Nat → Int32} {length : Int32} {at_ : Int32} {errorPosition : Int32} {toldFrom : Int32} {toldTo : Int32} {isWrong : Int32} {before : Nat → Int32} {o : Int32 × Int32} (C0 : zCx p s m args meth c wsX5_picture cX5_picture RX5 (some .char) 4) (hK : zKK G k A s s.heap) (hA : ∀ q : Nat, s.heap.size ≤ q → A q) (hret : zRI p l e rmX5_picture s m args below meth c cX5_picture G A 0 0 Q .char (zM ad k o.2 now saved hist kept reason detail isSaved comes queue far isInText ahead roomAt rooms text length at_ errorPosition toldFrom toldTo isWrong before) o.1)  : ∀ (thrown : Int32) (x1 : Int32) (s0 : Int32) (s1 : Int32), fX5_picture_14  now thrown x1 s0 s1 = some o → ∀ (H : Heap) (locs : List Loc) (ls : Array Slot), zWd G A s (zM ad k thrown now saved hist kept reason detail isSaved comes queue far isInText ahead roomAt rooms text length at_ errorPosition toldFrom toldTo isWrong before) H locs → lv_has ls 4 [(0, .ref (ad 0)), (1, .int x1)] → W p l e rmX5_picture s m args below meth c H locs 0 0 Q (F0 m 14 ls [.int s0, .int s1, .ref (ad 0)]) := by
  obtain ⟨hx, hb, hr, hml, hown, hts, hlocks⟩ := id C0
  intro thrown x1 s0 s1 hF H locs ls hw hl
  unfold fX5_picture_14 at hF
  obtain ⟨u1, hq2, hF⟩ := zbd_t hF
  refine zgoIw (w' := (zM ad k u1.2 now saved hist kept reason detail isSaved comes queue far isInText ahead roomAt rooms text length at_ errorPosition toldFrom toldTo isWrong before)) hw hA (zVw (As := [.int s1, .int s0]) (rest := []) ⟨hx, hb, hml, hown, hts⟩ (mX5_fails l G k ad H.size thrown now saved hist kept reason detail isSaved comes queue far isInText ahead roomAt rooms text length at_ errorPosition toldFrom toldTo isWrong before s1 s0 u1 hq2) (cwV 2 hts gX5_picture_X5_fails rfl rfl rfl kdX5_fails ⟨Nat.le_of_ble_eq_true rfl, Nat.le_of_ble_eq_true rfl⟩) hK hA hw 0 rfl rfl rfl rfl hl.1 rfl (Nat.le_of_ble_eq_true rfl) dX5_picture_14 ⟨Nat.le_of_ble_eq_true rfl, Nat.le_of_ble_eq_true rfl⟩) (fun H locs hw => ?_)
  refine lv_if_eq (tgt := 22) hx hb dX5_picture_17 (by decide) (fun hc => ?_) (fun hc => ?_)
  · have hF := zif_t hc hF
    refine lv_aload_n hx hb dX5_picture_22 rfl (lv_at hl 0 rfl) ?_
    refine va_get (D := G) (ci := 4) (v := .ref (ad 1)) (C := RX5) (T := TX5) (N := 23) hx hb hts inX5_picture_X5 hown hK.1 hw.1 0 rfl rfl 1 (by decide) (hts (.fieldLink RX5 9 "SealedBoardModel" "now" "[I") (by decide +kernel)) (fun _ h9 => h9) rfl dX5_picture_23 ?_
    refine lv_iload_n hx hb dX5_picture_26 rfl (lv_at hl 1 rfl) ?_
    obtain ⟨hi3, hF⟩ := zck_in hF
    refine va_iald hx hb hK.1 hw.1 1 2 rfl rfl hi3 dX5_picture_27 ?_
    refine lv_topi (fun a4 ea4 => ?_)
    have hF := zbn_t ea4 hF
    refine lv_istore_n (lv' := [(2, .int a4), (0, .ref (ad 0)), (1, .int x1)]) hx hb dX5_picture_28 rfl hl (by decide) rfl (fun ls hl => ?_)
    refine lv_aload_n hx hb dX5_picture_29 rfl (lv_at hl 1 rfl) ?_
    refine va_get (D := G) (ci := 4) (v := .ref (ad 1)) (C := RX5) (T := TX5) (N := 23) hx hb hts inX5_picture_X5 hown hK.1 hw.1 0 rfl rfl 1 (by decide) (hts (.fieldLink RX5 9 "SealedBoardModel" "now" "[I") (by decide +kernel)) (fun _ h9 => h9) rfl dX5_picture_30 ?_
    refine lv_bipush (v := (36 : Int32)) hx hb dX5_picture_33 (by decide) ?_
    refine lv_iload_n hx hb dX5_picture_35 rfl (lv_at hl 2 rfl) ?_
    refine lv_iadd hx hb dX5_picture_36 ?_
    obtain ⟨hi5, hF⟩ := zck_in hF
    refine va_iald hx hb hK.1 hw.1 1 2 rfl rfl hi5 dX5_picture_37 ?_
    refine lv_topi (fun a6 ea6 => ?_)
    have hF := zbn_t ea6 hF
    refine lv_istore_n (lv' := [(3, .int a6), (2, .int a4), (0, .ref (ad 0)), (1, .int x1)]) hx hb dX5_picture_38 rfl hl (by decide) rfl (fun ls hl => ?_)
    refine lv_aload_n hx hb dX5_picture_39 rfl (lv_at hl 2 rfl) ?_
    refine lv_iload_n hx hb dX5_picture_40 rfl (lv_at hl 3 rfl) ?_
    obtain ⟨u7, hq8, hF⟩ := zbd_t hF
    refine zgoIw (w' := (zM ad k u1.2 now saved hist kept reason detail isSaved comes queue far isInText ahead roomAt rooms text length at_ errorPosition toldFrom toldTo isWrong before)) hw hA (zVw (As := [.int x1]) (rest := []) ⟨hx, hb, hml, hown, hts⟩ (mX5_isWall l G k ad H.size u1.2 now saved hist kept reason detail isSaved comes queue far isInText ahead roomAt rooms text length at_ errorPosition toldFrom toldTo isWrong before x1 u7 hq8) (cwV 1 hts gX5_picture_X5_isWall rfl rfl rfl kdX5_isWall ⟨Nat.le_of_ble_eq_true rfl, Nat.le_of_ble_eq_true rfl⟩) hK hA hw 0 rfl rfl rfl rfl hl.1 rfl (Nat.le_of_ble_eq_true rfl) dX5_picture_41 ⟨Nat.le_of_ble_eq_true rfl, Nat.le_of_ble_eq_true rfl⟩) (fun H locs hw => ?_)
    refine lv_if_eq (tgt := 50) hx hb dX5_picture_44 (by decide) (fun hc => ?_) (fun hc => ?_)
    · have hF := zif_t hc hF
      refine lv_iload_n hx hb dX5_picture_50 rfl (lv_at hl 1 rfl) ?_
      refine lv_if_ne (tgt := 76) hx hb dX5_picture_51 (by decide) (fun hc => ?_) (fun hc => ?_)
      · have hF := zif_f hc hF
        refine lv_iload_n hx hb dX5_picture_76 rfl (lv_at hl 1 rfl) ?_
        obtain ⟨u9, hq10, hF⟩ := zbd_t hF
        refine zgoI (w' := (zM ad k u1.2 now saved hist kept reason detail isSaved comes queue far isInText ahead roomAt rooms text length at_ errorPosition toldFrom toldTo isWrong before)) hw hA [] rfl (zS (As := [.int a4]) (rest := []) ⟨hx, hb, hml, hown, hts⟩ (mX5_sideOf l G k  H.size  a4 u9 hq10) (va_cwS 1 hts gX5_picture_X5_sideOf rfl rfl rfl kdX5_sideOf ⟨Nat.le_of_ble_eq_true rfl, Nat.le_of_ble_eq_true rfl⟩) hK hA hw [] rfl (by decide) rfl hl.1 rfl (Nat.le_of_ble_eq_true rfl) dX5_picture_77 ⟨Nat.le_of_ble_eq_true rfl, Nat.le_of_ble_eq_true rfl⟩) rfl rfl rfl (fun H locs hw => ?_)
        refine lv_if_ne (tgt := 89) hx hb dX5_picture_80 (by decide) (fun hc => ?_) (fun hc => ?_)
        · have hF := zif_f hc hF
          obtain ⟨q11, vq11, hSq11, hRq11⟩ := hK.2.2.2.2.2.2.2.2.1
          refine va_ldcSw hx hb hown hRq11 dX5_picture_89 ?_
          refine lv_iload_n hx hb dX5_picture_92 rfl (lv_at hl 1 rfl) ?_
          obtain ⟨u12, hq13, hF⟩ := zbd_t hF
          refine zgoI (w' := (zM ad k u1.2 now saved hist kept reason detail isSaved comes queue far isInText ahead roomAt rooms text length at_ errorPosition toldFrom toldTo isWrong before)) hw hA [] rfl (zS (As := [.int a4]) (rest := [.ref q11]) ⟨hx, hb, hml, hown, hts⟩ (mX5_kindOf l G k  H.size  a4 u12 hq13) (va_cwS 1 hts gX5_picture_X5_kindOf rfl rfl rfl kdX5_kindOf ⟨Nat.le_of_ble_eq_true rfl, Nat.le_of_ble_eq_true rfl⟩) hK hA hw [] rfl (by decide) rfl hl.1 rfl (Nat.le_of_ble_eq_true rfl) dX5_picture_93 ⟨Nat.le_of_ble_eq_true rfl, Nat.le_of_ble_eq_true rfl⟩) rfl rfl rfl (fun H locs hw => ?_)
          obtain ⟨hi14, hF⟩ := zck_in hF
          refine zgoI (r := zsc [117, 105, 119, 107] u12) (wc := []) (wc' := []) (w' := (zM ad k u1.2 now saved hist kept reason detail isSaved comes queue far isInText ahead roomAt rooms text length at_ errorPosition toldFrom toldTo isWrong before)) hw hA [] rfl (zVs (As := [.int u12]) (rest := []) ⟨hx, hb, hml, hown, hts⟩ (mJ0_charAt l G k H.size [117, 105, 119, 107] q11 vq11 u12 hi14) (cwV 1 hts gX5_picture_J0_charAt_5068e rfl rfl rfl kdJ0_charAt ⟨Nat.le_of_ble_eq_true rfl, Nat.le_of_ble_eq_true rfl⟩) hK hA hw hSq11 rfl hl.1 rfl (Nat.le_of_ble_eq_true rfl) dX5_picture_96 ⟨Nat.le_of_ble_eq_true rfl, Nat.le_of_ble_eq_true rfl⟩) rfl rfl rfl (fun H locs hw => ?_)
          obtain ⟨hz15, hF⟩ := zck_t hF
          obtain rfl := Option.some.inj hF
          exact hret _ _ _ _ (zch_n hz15) hw dX5_picture_99
        · have hF := zif_t hc hF
          obtain ⟨q16, vq16, hSq16, hRq16⟩ := hK.2.2.2.2.2.2.2.1
          refine va_ldcSw hx hb hown hRq16 dX5_picture_83 ?_
          refine lv_goto (tgt := 92) hx hb dX5_picture_86 (by decide) ?_
          refine lv_iload_n hx hb dX5_picture_92 rfl (lv_at hl 1 rfl) ?_
          obtain ⟨u17, hq18, hF⟩ := zbd_t hF
          refine zgoI (w' := (zM ad k u1.2 now saved hist kept reason detail isSaved comes queue far isInText ahead roomAt rooms text length at_ errorPosition toldFrom toldTo isWrong before)) hw hA [] rfl (zS (As := [.int a4]) (rest := [.ref q16]) ⟨hx, hb, hml, hown, hts⟩ (mX5_kindOf l G k  H.size  a4 u17 hq18) (va_cwS 1 hts gX5_picture_X5_kindOf rfl rfl rfl kdX5_kindOf ⟨Nat.le_of_ble_eq_true rfl, Nat.le_of_ble_eq_true rfl⟩) hK hA hw [] rfl (by decide) rfl hl.1 rfl (Nat.le_of_ble_eq_true rfl) dX5_picture_93 ⟨Nat.le_of_ble_eq_true rfl, Nat.le_of_ble_eq_true rfl⟩) rfl rfl rfl (fun H locs hw => ?_)
          obtain ⟨hi19, hF⟩ := zck_in hF
          refine zgoI (r := zsc [85, 73, 87, 75] u17) (wc := []) (wc' := []) (w' := (zM ad k u1.2 now saved hist kept reason detail isSaved comes queue far isInText ahead roomAt rooms text length at_ errorPosition toldFrom toldTo isWrong before)) hw hA [] rfl (zVs (As := [.int u17]) (rest := []) ⟨hx, hb, hml, hown, hts⟩ (mJ0_charAt l G k H.size [85, 73, 87, 75] q16 vq16 u17 hi19) (cwV 1 hts gX5_picture_J0_charAt_5068e rfl rfl rfl kdJ0_charAt ⟨Nat.le_of_ble_eq_true rfl, Nat.le_of_ble_eq_true rfl⟩) hK hA hw hSq16 rfl hl.1 rfl (Nat.le_of_ble_eq_true rfl) dX5_picture_96 ⟨Nat.le_of_ble_eq_true rfl, Nat.le_of_ble_eq_true rfl⟩) rfl rfl rfl (fun H locs hw => ?_)
          obtain ⟨hz20, hF⟩ := zck_t hF
          obtain rfl := Option.some.inj hF
          exact hret _ _ _ _ (zch_n hz20) hw dX5_picture_99
      · have hF := zif_t hc hF
        refine lv_iload_n hx hb dX5_picture_54 rfl (lv_at hl 0 rfl) ?_
        refine lv_if_ne (tgt := 63) hx hb dX5_picture_55 (by decide) (fun hc => ?_) (fun hc => ?_)
        · have hF := zif_f hc hF
          refine lv_iload_n hx hb dX5_picture_63 rfl (lv_at hl 0 rfl) ?_
          refine lv_iconst (v := (1 : Int32)) hx hb dX5_picture_64 (by decide) ?_
          refine lv_icmp_ne (tgt := 73) hx hb dX5_picture_65 (by decide) (fun hc => ?_) (fun hc => ?_)
          · have hF := zif_f hc hF
            refine lv_bipush (v := (41 : Int32)) hx hb dX5_picture_73 (by decide) ?_
            obtain ⟨hz21, hF⟩ := zck_t hF
            obtain rfl := Option.some.inj hF
            exact hret _ _ _ _ (zch_n hz21) hw dX5_picture_75
          · have hF := zif_t hc hF
            refine lv_bipush (v := (40 : Int32)) hx hb dX5_picture_68 (by decide) ?_
            refine lv_goto (tgt := 75) hx hb dX5_picture_70 (by decide) ?_
            obtain ⟨hz22, hF⟩ := zck_t hF
            obtain rfl := Option.some.inj hF
            exact hret _ _ _ _ (zch_n hz22) hw dX5_picture_75
        · have hF := zif_t hc hF
          refine lv_bipush (v := (46 : Int32)) hx hb dX5_picture_58 (by decide) ?_
          refine lv_goto (tgt := 75) hx hb dX5_picture_60 (by decide) ?_
          obtain ⟨hz23, hF⟩ := zck_t hF
          obtain rfl := Option.some.inj hF
          exact hret _ _ _ _ (zch_n hz23) hw dX5_picture_75
    · have hF := zif_f hc hF
      refine lv_bipush (v := (35 : Int32)) hx hb dX5_picture_47 (by decide) ?_
      obtain ⟨hz24, hF⟩ := zck_t hF
      obtain rfl := Option.some.inj hF
      exact hret _ _ _ _ (zch_n hz24) hw dX5_picture_49
  · have hF := zif_f hc hF
    refine lv_iconst (v := (0 : Int32)) hx hb dX5_picture_20 (by decide) ?_
    obtain ⟨hz25, hF⟩ := zck_t hF
    obtain rfl := Option.some.inj hF
    exact hret _ _ _ _ (zch_n hz25) hw dX5_picture_21
set_option maxHeartbeats 400000 in
set_option maxRecDepth 100000 in
theorem mX5_picture (l : Launch) (G : va_G) (k : Nat → ClassId) (ad : Nat → Nat) (sz : Nat) (thrown : Int32) (now : Nat → Int32) (saved : Nat → Int32) (hist : Nat → Nat → Int32) (kept : Int32) (reason : Int32) (detail : Int32) (isSaved : Int32) (comes : Nat → Int32) (queue : Nat → Int32) (far : Nat → Int32) (isInText : Int32) (ahead : Nat → Int32) (roomAt : Nat → Int32) (rooms : Int32) (text : Nat → Int32) (length : Int32) (at_ : Int32) (errorPosition : Int32) (toldFrom : Int32) (toldTo : Int32) (isWrong : Int32) (before : Nat → Int32) (p0 : Int32) (o : Int32 × Int32) (hF : fX5_picture thrown now p0 = some o) : zMI l yX5_picture wsX5_picture rmX5_picture G k (zM ad k thrown now saved hist kept reason detail isSaved comes queue far isInText ahead roomAt rooms text length at_ errorPosition toldFrom toldTo isWrong before) sz [.ref (ad 0), .int p0] o.1 (zM ad k o.2 now saved hist kept reason detail isSaved comes queue far isInText ahead roomAt rooms text length at_ errorPosition toldFrom toldTo isWrong before) := by
  refine zof_I (cc := cX5_picture) (nL := 4) (own := RX5) (rt := .char) (by decide) rfl rfl (Nat.le_of_ble_eq_true rfl) ?_
  intro p e s m args below meth c A Q C0 hK hA hret ls hl hw
  have hl : lv_has ls 4 [(0, .ref (ad 0)), (1, .int p0)] := hl
  obtain ⟨hx, hb, hr, hml, hown, hts, hlocks⟩ := id C0
  obtain ⟨H, hH⟩ : ∃ z, z = s.heap := ⟨_, rfl⟩
  rw [← hH] at hw ⊢
  unfold fX5_picture at hF
  refine lv_aload_n hx hb dX5_picture_0 rfl (lv_at hl 0 rfl) ?_
  refine lv_iconst (v := (1 : Int32)) hx hb dX5_picture_1 (by decide) ?_
  refine lv_iload_n hx hb dX5_picture_2 rfl (lv_at hl 1 rfl) ?_
  obtain ⟨u1, hq2, hF⟩ := zbd_t hF
  refine zgoI (w' := (zM ad k thrown now saved hist kept reason detail isSaved comes queue far isInText ahead roomAt rooms text length at_ errorPosition toldFrom toldTo isWrong before)) hw hA [] rfl (zS (As := [.int p0]) (rest := [.int (1 : Int32), .ref (ad 0)]) ⟨hx, hb, hml, hown, hts⟩ (mX5_isSquare l G k  H.size  p0 u1 hq2) (va_cwS 1 hts gX5_picture_X5_isSquare rfl rfl rfl kdX5_isSquare ⟨Nat.le_of_ble_eq_true rfl, Nat.le_of_ble_eq_true rfl⟩) hK hA hw [] rfl (by decide) rfl hl.1 rfl (Nat.le_of_ble_eq_true rfl) dX5_picture_3 ⟨Nat.le_of_ble_eq_true rfl, Nat.le_of_ble_eq_true rfl⟩) rfl rfl rfl (fun H locs hw => ?_)
  refine lv_if_ne (tgt := 13) hx hb dX5_picture_6 (by decide) (fun hc => ?_) (fun hc => ?_)
  · have hF := zif_f hc hF
    refine lv_iconst (v := (0 : Int32)) hx hb dX5_picture_13 (by decide) ?_
    exact wX5_picture_14 C0 hK hA hret   _ _ _ _ hF _ _ _ hw (lv_sub hl [0, 1] rfl)
  · have hF := zif_t hc hF
    refine lv_iconst (v := (1 : Int32)) hx hb dX5_picture_9 (by decide) ?_
    refine lv_goto (tgt := 14) hx hb dX5_picture_10 (by decide) ?_
    exact wX5_picture_14 C0 hK hA hret   _ _ _ _ hF _ _ _ hw (lv_sub hl [0, 1] rfl)

/-! SealedBoardModel.countDoors()I -/
abbrev rmX5_countDoors : Room := { frames := 0, cells := 0, slots := 0, locals := 0 }
theorem kdX5_countDoors : yX5_countDoors.cls = RX5 ∧ yX5_countDoors.cls ≠ "java/lang/invoke/MethodHandle" ∧ yX5_countDoors.cls ≠ "java/lang/invoke/VarHandle" ∧ (parseMethodDescriptor yX5_countDoors.desc).map (fun d => d.parameters.length) = some 0 := by decide +kernel
theorem inX5_countDoors_X5 : ∀ w ∈ u_ws RX5 TX5 23, w ∈ wsX5_countDoors := by decide +kernel
def fX5_countDoors_28 (k4 : Int32 → Int32 → Option (Int32)) (now : Nat → Int32) (x2 : Int32) (s0 : Int32) (s1 : Int32) : Option (Int32) := (zbn (s1 + s0) (fun a1 => (zbn (x2 + (1 : Int32)) (fun a2 => (k4 a1 a2)))))
def fX5_countDoors_4  (now : Nat → Int32) : Nat → Int32 → Int32 → Option (Int32)
  | 0, _, _ => none
  | n + 1, x1, x2 => (if (36 : Int32) ≤ x2 then (some (x1)) else (zck (zin ((36 : Int32) + x2) 76) (if (now ((36 : Int32) + x2).toNatClampNeg) ≤ 0 then (fX5_countDoors_28 (fun b0 b1 => fX5_countDoors_4  now n b0 b1) now  x2 (0 : Int32) x1) else (fX5_countDoors_28 (fun b0 b1 => fX5_countDoors_4  now n b0 b1) now  x2 (1 : Int32) x1))))
def fX5_countDoors (now : Nat → Int32) : Option (Int32) := (fX5_countDoors_4  now zFu (0 : Int32) (0 : Int32))
set_option maxHeartbeats 400000 in
set_option maxRecDepth 100000 in
theorem wX5_countDoors_28 {p : Program} {l : Launch} {e : Env} {s : State} {m : MethodId} {args : Array Value} {below : List Frame} {meth : Method} {c : Code} {A : Nat → Prop} {Q : State → Prop} {G : va_G} {k : Nat → ClassId} {ad : Nat → Nat} {thrown : Int32} {now : Nat → Int32} {saved : Nat → Int32} {hist : Nat → Nat → Int32} {kept : Int32} {reason : Int32} {detail : Int32} {isSaved : Int32} {comes : Nat → Int32} {queue : Nat → Int32} {far : Nat → Int32} {isInText : Int32} {ahead : Nat → Int32} {roomAt : Nat → Int32} {rooms : Int32} {text : Nat → Int32} {length : Int32} {at_ : Int32} {errorPosition : Int32} {toldFrom : Int32} {toldTo : Int32} {isWrong : Int32} {before : Nat → Int32} {o : Int32} (C0 : zCx p s m args meth c wsX5_countDoors cX5_countDoors RX5 (some .int) 3) (hK : zKK G k A s s.heap) (hA : ∀ q : Nat, s.heap.size ≤ q → A q) (hret : zRI p l e rmX5_countDoors s m args below meth c cX5_countDoors G A 0 0 Q .int (zM ad k thrown now saved hist kept reason detail isSaved comes queue far isInText ahead roomAt rooms text length at_ errorPosition toldFrom toldTo isWrong before) o) (k4 : Int32 → Int32 → Option (Int32)) (hk4 : ∀ (x1 : Int32) (x2 : Int32), k4 x1 x2 = some o → ∀ (H : Heap) (locs : List Loc) (ls : Array Slot), zWd G A s (zM ad k thrown now saved hist kept reason detail isSaved comes queue far isInText ahead roomAt rooms text length at_ errorPosition toldFrom toldTo isWrong before) H locs → lv_has ls 3 [(0, .ref (ad 0)), (1, .int x1), (2, .int x2)] → W p l e rmX5_countDoors s m args below meth c H locs 0 0 Q (F0 m 4 ls [])) : ∀ (x2 : Int32) (s0 : Int32) (s1 : Int32), fX5_countDoors_28 k4 now x2 s0 s1 = some o → ∀ (H : Heap) (locs : List Loc) (ls : Array Slot), zWd G A s (zM ad k thrown now saved hist kept reason detail isSaved comes queue far isInText ahead roomAt rooms text length at_ errorPosition toldFrom toldTo isWrong before) H locs → lv_has ls 3 [(0, .ref (ad 0)), (2, .int x2)] → W p l e rmX5_countDoors s m args below meth c H locs 0 0 Q (F0 m 28 ls [.int s0, .int s1]) := by
  obtain ⟨hx, hb, hr, hml, hown, hts, hlocks⟩ := id C0
  intro x2 s0 s1 hF H locs ls hw hl
  unfold fX5_countDoors_28 at hF
  refine lv_iadd hx hb dX5_countDoors_28 ?_
  refine lv_topi (fun a1 ea1 => ?_)
  have hF := zbn_t ea1 hF
  refine lv_istore_n (lv' := [(1, .int a1), (0, .ref (ad 0)), (2, .int x2)]) hx hb dX5_countDoors_29 rfl hl (by decide) rfl (fun ls hl => ?_)
  obtain ⟨a2, ea2⟩ : ∃ z : Int32, z = x2 + (1 : Int32) := ⟨_, rfl⟩
  have hF := zbn_t ea2 hF
  refine lv_iinc (v := a2) (lv' := [(2, .int a2), (1, .int a1), (0, .ref (ad 0))]) hx hb dX5_countDoors_30 hl (k := 2) rfl (by rw [ea2]; rfl) (by decide) rfl (fun ls hl => ?_)
  refine lv_goto (tgt := 4) hx hb dX5_countDoors_33 (by decide) ?_
  exact hk4 _ _ hF _ _ _ hw (lv_sub hl [2, 1, 0] rfl)
set_option maxHeartbeats 400000 in
set_option maxRecDepth 100000 in
theorem wX5_countDoors_4 {p : Program} {l : Launch} {e : Env} {s : State} {m : MethodId} {args : Array Value} {below : List Frame} {meth : Method} {c : Code} {A : Nat → Prop} {Q : State → Prop} {G : va_G} {k : Nat → ClassId} {ad : Nat → Nat} {thrown : Int32} {now : Nat → Int32} {saved : Nat → Int32} {hist : Nat → Nat → Int32} {kept : Int32} {reason : Int32} {detail : Int32} {isSaved : Int32} {comes : Nat → Int32} {queue : Nat → Int32} {far : Nat → Int32} {isInText : Int32} {ahead : Nat → Int32} {roomAt : Nat → Int32} {rooms : Int32} {text : Nat → Int32} {length : Int32} {at_ : Int32} {errorPosition : Int32} {toldFrom : Int32} {toldTo : Int32} {isWrong : Int32} {before : Nat → Int32} {o : Int32} (C0 : zCx p s m args meth c wsX5_countDoors cX5_countDoors RX5 (some .int) 3) (hK : zKK G k A s s.heap) (hA : ∀ q : Nat, s.heap.size ≤ q → A q) (hret : zRI p l e rmX5_countDoors s m args below meth c cX5_countDoors G A 0 0 Q .int (zM ad k thrown now saved hist kept reason detail isSaved comes queue far isInText ahead roomAt rooms text length at_ errorPosition toldFrom toldTo isWrong before) o)  : ∀ (n : Nat) (x1 : Int32) (x2 : Int32), fX5_countDoors_4  now n x1 x2 = some o → ∀ (H : Heap) (locs : List Loc) (ls : Array Slot), zWd G A s (zM ad k thrown now saved hist kept reason detail isSaved comes queue far isInText ahead roomAt rooms text length at_ errorPosition toldFrom toldTo isWrong before) H locs → lv_has ls 3 [(0, .ref (ad 0)), (1, .int x1), (2, .int x2)] → W p l e rmX5_countDoors s m args below meth c H locs 0 0 Q (F0 m 4 ls []) := by
  obtain ⟨hx, hb, hr, hml, hown, hts, hlocks⟩ := id C0
  intro n
  induction n with
  | zero => intro x1 x2 hF; exact nomatch hF
  | succ n ih =>
    intro x1 x2 hF H locs ls hw hl
    rw [fX5_countDoors_4] at hF
    refine lv_iload_n hx hb dX5_countDoors_4 rfl (lv_at hl 2 rfl) ?_
    refine lv_bipush (v := (36 : Int32)) hx hb dX5_countDoors_5 (by decide) ?_
    refine lv_icmp_ge (tgt := 36) hx hb dX5_countDoors_7 (by decide) (fun hc => ?_) (fun hc => ?_)
    · have hF := zif_t hc hF
      refine lv_iload_n hx hb dX5_countDoors_36 rfl (lv_at hl 1 rfl) ?_
      obtain rfl := Option.some.inj hF
      exact hret _ _ _ _ rfl hw dX5_countDoors_37
    · have hF := zif_f hc hF
      refine lv_iload_n hx hb dX5_countDoors_10 rfl (lv_at hl 1 rfl) ?_
      refine lv_aload_n hx hb dX5_countDoors_11 rfl (lv_at hl 0 rfl) ?_
      refine va_get (D := G) (ci := 4) (v := .ref (ad 1)) (C := RX5) (T := TX5) (N := 23) hx hb hts inX5_countDoors_X5 hown hK.1 hw.1 0 rfl rfl 1 (by decide) (hts (.fieldLink RX5 9 "SealedBoardModel" "now" "[I") (by decide +kernel)) (fun _ h9 => h9) rfl dX5_countDoors_12 ?_
      refine lv_bipush (v := (36 : Int32)) hx hb dX5_countDoors_15 (by decide) ?_
      refine lv_iload_n hx hb dX5_countDoors_17 rfl (lv_at hl 2 rfl) ?_
      refine lv_iadd hx hb dX5_countDoors_18 ?_
      obtain ⟨hi1, hF⟩ := zck_in hF
      refine va_iald hx hb hK.1 hw.1 1 2 rfl rfl hi1 dX5_countDoors_19 ?_
      refine lv_if_le (tgt := 27) hx hb dX5_countDoors_20 (by decide) (fun hc => ?_) (fun hc => ?_)
      · have hF := zif_t hc hF
        refine lv_iconst (v := (0 : Int32)) hx hb dX5_countDoors_27 (by decide) ?_
        exact wX5_countDoors_28 C0 hK hA hret (fun b0 b1 => fX5_countDoors_4  now n b0 b1) ih  _ _ _ hF _ _ _ hw (lv_sub hl [0, 2] rfl)
      · have hF := zif_f hc hF
        refine lv_iconst (v := (1 : Int32)) hx hb dX5_countDoors_23 (by decide) ?_
        refine lv_goto (tgt := 28) hx hb dX5_countDoors_24 (by decide) ?_
        exact wX5_countDoors_28 C0 hK hA hret (fun b0 b1 => fX5_countDoors_4  now n b0 b1) ih  _ _ _ hF _ _ _ hw (lv_sub hl [0, 2] rfl)
set_option maxHeartbeats 400000 in
set_option maxRecDepth 100000 in
theorem mX5_countDoors (l : Launch) (G : va_G) (k : Nat → ClassId) (ad : Nat → Nat) (sz : Nat) (thrown : Int32) (now : Nat → Int32) (saved : Nat → Int32) (hist : Nat → Nat → Int32) (kept : Int32) (reason : Int32) (detail : Int32) (isSaved : Int32) (comes : Nat → Int32) (queue : Nat → Int32) (far : Nat → Int32) (isInText : Int32) (ahead : Nat → Int32) (roomAt : Nat → Int32) (rooms : Int32) (text : Nat → Int32) (length : Int32) (at_ : Int32) (errorPosition : Int32) (toldFrom : Int32) (toldTo : Int32) (isWrong : Int32) (before : Nat → Int32)  (o : Int32) (hF : fX5_countDoors now = some o) : zMI l yX5_countDoors wsX5_countDoors rmX5_countDoors G k (zM ad k thrown now saved hist kept reason detail isSaved comes queue far isInText ahead roomAt rooms text length at_ errorPosition toldFrom toldTo isWrong before) sz [.ref (ad 0)] o (zM ad k thrown now saved hist kept reason detail isSaved comes queue far isInText ahead roomAt rooms text length at_ errorPosition toldFrom toldTo isWrong before) := by
  refine zof_I (cc := cX5_countDoors) (nL := 3) (own := RX5) (rt := .int) (by decide) rfl rfl (Nat.le_of_ble_eq_true rfl) ?_
  intro p e s m args below meth c A Q C0 hK hA hret ls hl hw
  have hl : lv_has ls 3 [(0, .ref (ad 0))] := hl
  obtain ⟨hx, hb, hr, hml, hown, hts, hlocks⟩ := id C0
  obtain ⟨H, hH⟩ : ∃ z, z = s.heap := ⟨_, rfl⟩
  rw [← hH] at hw ⊢
  unfold fX5_countDoors at hF
  refine lv_iconst (v := (0 : Int32)) hx hb dX5_countDoors_0 (by decide) ?_
  refine lv_istore_n (lv' := [(1, .int (0 : Int32)), (0, .ref (ad 0))]) hx hb dX5_countDoors_1 rfl hl (by decide) rfl (fun ls hl => ?_)
  refine lv_iconst (v := (0 : Int32)) hx hb dX5_countDoors_2 (by decide) ?_
  refine lv_istore_n (lv' := [(2, .int (0 : Int32)), (1, .int (0 : Int32)), (0, .ref (ad 0))]) hx hb dX5_countDoors_3 rfl hl (by decide) rfl (fun ls hl => ?_)
  exact wX5_countDoors_4 C0 hK hA hret  zFu _ _ hF _ _ _ hw (lv_sub hl [2, 1, 0] rfl)

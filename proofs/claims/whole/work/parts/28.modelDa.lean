/-! SealedBoardModel.sealedShare(I)D -/
abbrev rmX5_sealedShare : Room := { frames := 5, cells := 0, slots := 0, locals := 116 }
theorem kdX5_sealedShare : yX5_sealedShare.cls = RX5 ∧ yX5_sealedShare.cls ≠ "java/lang/invoke/MethodHandle" ∧ yX5_sealedShare.cls ≠ "java/lang/invoke/VarHandle" ∧ (parseMethodDescriptor yX5_sealedShare.desc).map (fun d => d.parameters.length) = some 1 := by decide +kernel
def fX5_sealedShare_41  (now : Nat → Int32) (thrown : Int32) (queue : Nat → Int32) (roomAt : Nat → Int32) (rooms : Int32) : Option (UInt64 × Int32 × (Nat → Int32) × (Nat → Int32) × Int32) := (some ((0 : UInt64), thrown, queue, roomAt, rooms))
def fX5_sealedShare_35  (now : Nat → Int32) (thrown : Int32) (queue : Nat → Int32) (roomAt : Nat → Int32) (rooms : Int32) (x1 : Int32) (s0 : Int32) (s1 : Int32) : Option (UInt64 × Int32 × (Nat → Int32) × (Nat → Int32) × Int32) := (zbd (fX5_fails thrown s1 s0) (fun u1 => (if u1.1 = 0 then (zbd (fX5_countSealed now queue roomAt rooms x1) (fun u3 => (zbd (fX5_countOpen now x1) (fun u5 => (zck (zdn (FP.ddiv (FP.i2d u3.1) (FP.i2d u5))) (some ((FP.ddiv (FP.i2d u3.1) (FP.i2d u5)), u1.2, u3.2.1, u3.2.2.1, u3.2.2.2))))))) else (fX5_sealedShare_41  now  u1.2 queue roomAt rooms))))
def fX5_sealedShare_14  (now : Nat → Int32) (thrown : Int32) (queue : Nat → Int32) (roomAt : Nat → Int32) (rooms : Int32) (x1 : Int32) (s0 : Int32) (s1 : Int32) : Option (UInt64 × Int32 × (Nat → Int32) × (Nat → Int32) × Int32) := (zbd (fX5_fails thrown s1 s0) (fun u1 => (if u1.1 = 0 then (zbd (fX5_countOpen now x1) (fun u3 => (if u3 = 0 then (fX5_sealedShare_35  now  u1.2 queue roomAt rooms x1 (1 : Int32) (2 : Int32)) else (fX5_sealedShare_35  now  u1.2 queue roomAt rooms x1 (0 : Int32) (2 : Int32))))) else (fX5_sealedShare_41  now  u1.2 queue roomAt rooms))))
def fX5_sealedShare (thrown : Int32) (now : Nat → Int32) (queue : Nat → Int32) (roomAt : Nat → Int32) (rooms : Int32) (p0 : Int32) : Option (UInt64 × Int32 × (Nat → Int32) × (Nat → Int32) × Int32) := (zbd (fX5_isSide p0) (fun u1 => (if u1 = 0 then (fX5_sealedShare_14  now  thrown queue roomAt rooms p0 (1 : Int32) (1 : Int32)) else (fX5_sealedShare_14  now  thrown queue roomAt rooms p0 (0 : Int32) (1 : Int32)))))
set_option maxHeartbeats 400000 in
set_option maxRecDepth 100000 in
theorem wX5_sealedShare_41 {p : Program} {l : Launch} {e : Env} {s : State} {m : MethodId} {args : Array Value} {below : List Frame} {meth : Method} {c : Code} {A : Nat → Prop} {Q : State → Prop} {G : va_G} {k : Nat → ClassId} {ad : Nat → Nat} {now : Nat → Int32} {saved : Nat → Int32} {hist : Nat → Nat → Int32} {kept : Int32} {reason : Int32} {detail : Int32} {isSaved : Int32} {comes : Nat → Int32} {far : Nat → Int32} {isInText : Int32} {ahead : Nat → Int32} {text : Nat → Int32} {length : Int32} {at_ : Int32} {errorPosition : Int32} {toldFrom : Int32} {toldTo : Int32} {isWrong : Int32} {before : Nat → Int32} {o : UInt64 × Int32 × (Nat → Int32) × (Nat → Int32) × Int32} (C0 : zCx p s m args meth c wsX5_sealedShare cX5_sealedShare RX5 (some .double) 2) (hK : zKK G k A s s.heap) (hA : ∀ q : Nat, s.heap.size ≤ q → A q) (hret : zRD p l e rmX5_sealedShare s m args below meth c cX5_sealedShare G A 0 0 Q (zM ad k o.2.1 now saved hist kept reason detail isSaved comes o.2.2.1 far isInText ahead o.2.2.2.1 o.2.2.2.2 text length at_ errorPosition toldFrom toldTo isWrong before) o.1)  : ∀ (thrown : Int32) (queue : Nat → Int32) (roomAt : Nat → Int32) (rooms : Int32), fX5_sealedShare_41  now thrown queue roomAt rooms = some o → ∀ (H : Heap) (locs : List Loc) (ls : Array Slot), zWd G A s (zM ad k thrown now saved hist kept reason detail isSaved comes queue far isInText ahead roomAt rooms text length at_ errorPosition toldFrom toldTo isWrong before) H locs → lv_has ls 2 [] → W p l e rmX5_sealedShare s m args below meth c H locs 0 0 Q (F0 m 41 ls []) := by
  obtain ⟨hx, hb, hr, hml, hown, hts, hlocks⟩ := id C0
  intro thrown queue roomAt rooms hF H locs ls hw hl
  unfold fX5_sealedShare_41 at hF
  refine lv_dconst0 hx hb dX5_sealedShare_41 ?_
  obtain rfl := Option.some.inj hF
  exact hret _ _ _ _  hw dX5_sealedShare_42
set_option maxHeartbeats 400000 in
set_option maxRecDepth 100000 in
theorem wX5_sealedShare_35 {p : Program} {l : Launch} {e : Env} {s : State} {m : MethodId} {args : Array Value} {below : List Frame} {meth : Method} {c : Code} {A : Nat → Prop} {Q : State → Prop} {G : va_G} {k : Nat → ClassId} {ad : Nat → Nat} {now : Nat → Int32} {saved : Nat → Int32} {hist : Nat → Nat → Int32} {kept : Int32} {reason : Int32} {detail : Int32} {isSaved : Int32} {comes : Nat → Int32} {far : Nat → Int32} {isInText : Int32} {ahead : Nat → Int32} {text : Nat → Int32} {length : Int32} {at_ : Int32} {errorPosition : Int32} {toldFrom : Int32} {toldTo : Int32} {isWrong : Int32} {before : Nat → Int32} {o : UInt64 × Int32 × (Nat → Int32) × (Nat → Int32) × Int32} (C0 : zCx p s m args meth c wsX5_sealedShare cX5_sealedShare RX5 (some .double) 2) (hK : zKK G k A s s.heap) (hA : ∀ q : Nat, s.heap.size ≤ q → A q) (hret : zRD p l e rmX5_sealedShare s m args below meth c cX5_sealedShare G A 0 0 Q (zM ad k o.2.1 now saved hist kept reason detail isSaved comes o.2.2.1 far isInText ahead o.2.2.2.1 o.2.2.2.2 text length at_ errorPosition toldFrom toldTo isWrong before) o.1)  : ∀ (thrown : Int32) (queue : Nat → Int32) (roomAt : Nat → Int32) (rooms : Int32) (x1 : Int32) (s0 : Int32) (s1 : Int32), fX5_sealedShare_35  now thrown queue roomAt rooms x1 s0 s1 = some o → ∀ (H : Heap) (locs : List Loc) (ls : Array Slot), zWd G A s (zM ad k thrown now saved hist kept reason detail isSaved comes queue far isInText ahead roomAt rooms text length at_ errorPosition toldFrom toldTo isWrong before) H locs → lv_has ls 2 [(0, .ref (ad 0)), (1, .int x1)] → W p l e rmX5_sealedShare s m args below meth c H locs 0 0 Q (F0 m 35 ls [.int s0, .int s1, .ref (ad 0)]) := by
  obtain ⟨hx, hb, hr, hml, hown, hts, hlocks⟩ := id C0
  intro thrown queue roomAt rooms x1 s0 s1 hF H locs ls hw hl
  unfold fX5_sealedShare_35 at hF
  obtain ⟨u1, hq2, hF⟩ := zbd_t hF
  refine zgoIw (w' := (zM ad k u1.2 now saved hist kept reason detail isSaved comes queue far isInText ahead roomAt rooms text length at_ errorPosition toldFrom toldTo isWrong before)) hw hA (zVw (As := [.int s1, .int s0]) (rest := []) ⟨hx, hb, hml, hown, hts⟩ (mX5_fails l G k ad H.size thrown now saved hist kept reason detail isSaved comes queue far isInText ahead roomAt rooms text length at_ errorPosition toldFrom toldTo isWrong before s1 s0 u1 hq2) (cwV 2 hts gX5_sealedShare_X5_fails rfl rfl rfl kdX5_fails ⟨Nat.le_of_ble_eq_true rfl, Nat.le_of_ble_eq_true rfl⟩) hK hA hw 0 rfl rfl rfl rfl hl.1 rfl (Nat.le_of_ble_eq_true rfl) dX5_sealedShare_35 ⟨Nat.le_of_ble_eq_true rfl, Nat.le_of_ble_eq_true rfl⟩) (fun H locs hw => ?_)
  refine lv_if_eq (tgt := 43) hx hb dX5_sealedShare_38 (by decide) (fun hc => ?_) (fun hc => ?_)
  · have hF := zif_t hc hF
    refine lv_aload_n hx hb dX5_sealedShare_43 rfl (lv_at hl 0 rfl) ?_
    refine lv_iload_n hx hb dX5_sealedShare_44 rfl (lv_at hl 1 rfl) ?_
    obtain ⟨u3, hq4, hF⟩ := zbd_t hF
    refine zgoIw (w' := (zM ad k u1.2 now saved hist kept reason detail isSaved comes u3.2.1 far isInText ahead u3.2.2.1 u3.2.2.2 text length at_ errorPosition toldFrom toldTo isWrong before)) hw hA (zVw (As := [.int x1]) (rest := []) ⟨hx, hb, hml, hown, hts⟩ (mX5_countSealed l G k ad H.size u1.2 now saved hist kept reason detail isSaved comes queue far isInText ahead roomAt rooms text length at_ errorPosition toldFrom toldTo isWrong before x1 u3 hq4) (cwV 1 hts gX5_sealedShare_X5_countSealed rfl rfl rfl kdX5_countSealed ⟨Nat.le_of_ble_eq_true rfl, Nat.le_of_ble_eq_true rfl⟩) hK hA hw 0 rfl rfl rfl rfl hl.1 rfl (Nat.le_of_ble_eq_true rfl) dX5_sealedShare_45 ⟨Nat.le_of_ble_eq_true rfl, Nat.le_of_ble_eq_true rfl⟩) (fun H locs hw => ?_)
    refine lv_i2d hx hb dX5_sealedShare_48 ?_
    refine lv_aload_n hx hb dX5_sealedShare_49 rfl (lv_at hl 0 rfl) ?_
    refine lv_iload_n hx hb dX5_sealedShare_50 rfl (lv_at hl 1 rfl) ?_
    obtain ⟨u5, hq6, hF⟩ := zbd_t hF
    refine zgoIw (w' := (zM ad k u1.2 now saved hist kept reason detail isSaved comes u3.2.1 far isInText ahead u3.2.2.1 u3.2.2.2 text length at_ errorPosition toldFrom toldTo isWrong before)) hw hA (zVw (As := [.int x1]) (rest := [.double (FP.i2d u3.1)]) ⟨hx, hb, hml, hown, hts⟩ (mX5_countOpen l G k ad H.size u1.2 now saved hist kept reason detail isSaved comes u3.2.1 far isInText ahead u3.2.2.1 u3.2.2.2 text length at_ errorPosition toldFrom toldTo isWrong before x1 u5 hq6) (cwV 1 hts gX5_sealedShare_X5_countOpen rfl rfl rfl kdX5_countOpen ⟨Nat.le_of_ble_eq_true rfl, Nat.le_of_ble_eq_true rfl⟩) hK hA hw 0 rfl rfl rfl rfl hl.1 rfl (Nat.le_of_ble_eq_true rfl) dX5_sealedShare_51 ⟨Nat.le_of_ble_eq_true rfl, Nat.le_of_ble_eq_true rfl⟩) (fun H locs hw => ?_)
    refine lv_i2d hx hb dX5_sealedShare_54 ?_
    obtain ⟨hd7, hF⟩ := zck_t hF
    refine lv_ddiv hx hb dX5_sealedShare_55 (zdn_t hd7) ?_
    obtain rfl := Option.some.inj hF
    exact hret _ _ _ _  hw dX5_sealedShare_56
  · have hF := zif_f hc hF
    exact wX5_sealedShare_41 C0 hK hA hret   _ _ _ _ hF _ _ _ hw (lv_sub hl [] rfl)
set_option maxHeartbeats 400000 in
set_option maxRecDepth 100000 in
theorem wX5_sealedShare_14 {p : Program} {l : Launch} {e : Env} {s : State} {m : MethodId} {args : Array Value} {below : List Frame} {meth : Method} {c : Code} {A : Nat → Prop} {Q : State → Prop} {G : va_G} {k : Nat → ClassId} {ad : Nat → Nat} {now : Nat → Int32} {saved : Nat → Int32} {hist : Nat → Nat → Int32} {kept : Int32} {reason : Int32} {detail : Int32} {isSaved : Int32} {comes : Nat → Int32} {far : Nat → Int32} {isInText : Int32} {ahead : Nat → Int32} {text : Nat → Int32} {length : Int32} {at_ : Int32} {errorPosition : Int32} {toldFrom : Int32} {toldTo : Int32} {isWrong : Int32} {before : Nat → Int32} {o : UInt64 × Int32 × (Nat → Int32) × (Nat → Int32) × Int32} (C0 : zCx p s m args meth c wsX5_sealedShare cX5_sealedShare RX5 (some .double) 2) (hK : zKK G k A s s.heap) (hA : ∀ q : Nat, s.heap.size ≤ q → A q) (hret : zRD p l e rmX5_sealedShare s m args below meth c cX5_sealedShare G A 0 0 Q (zM ad k o.2.1 now saved hist kept reason detail isSaved comes o.2.2.1 far isInText ahead o.2.2.2.1 o.2.2.2.2 text length at_ errorPosition toldFrom toldTo isWrong before) o.1)  : ∀ (thrown : Int32) (queue : Nat → Int32) (roomAt : Nat → Int32) (rooms : Int32) (x1 : Int32) (s0 : Int32) (s1 : Int32), fX5_sealedShare_14  now thrown queue roomAt rooms x1 s0 s1 = some o → ∀ (H : Heap) (locs : List Loc) (ls : Array Slot), zWd G A s (zM ad k thrown now saved hist kept reason detail isSaved comes queue far isInText ahead roomAt rooms text length at_ errorPosition toldFrom toldTo isWrong before) H locs → lv_has ls 2 [(0, .ref (ad 0)), (1, .int x1)] → W p l e rmX5_sealedShare s m args below meth c H locs 0 0 Q (F0 m 14 ls [.int s0, .int s1, .ref (ad 0)]) := by
  obtain ⟨hx, hb, hr, hml, hown, hts, hlocks⟩ := id C0
  intro thrown queue roomAt rooms x1 s0 s1 hF H locs ls hw hl
  unfold fX5_sealedShare_14 at hF
  obtain ⟨u1, hq2, hF⟩ := zbd_t hF
  refine zgoIw (w' := (zM ad k u1.2 now saved hist kept reason detail isSaved comes queue far isInText ahead roomAt rooms text length at_ errorPosition toldFrom toldTo isWrong before)) hw hA (zVw (As := [.int s1, .int s0]) (rest := []) ⟨hx, hb, hml, hown, hts⟩ (mX5_fails l G k ad H.size thrown now saved hist kept reason detail isSaved comes queue far isInText ahead roomAt rooms text length at_ errorPosition toldFrom toldTo isWrong before s1 s0 u1 hq2) (cwV 2 hts gX5_sealedShare_X5_fails rfl rfl rfl kdX5_fails ⟨Nat.le_of_ble_eq_true rfl, Nat.le_of_ble_eq_true rfl⟩) hK hA hw 0 rfl rfl rfl rfl hl.1 rfl (Nat.le_of_ble_eq_true rfl) dX5_sealedShare_14 ⟨Nat.le_of_ble_eq_true rfl, Nat.le_of_ble_eq_true rfl⟩) (fun H locs hw => ?_)
  refine lv_if_ne (tgt := 41) hx hb dX5_sealedShare_17 (by decide) (fun hc => ?_) (fun hc => ?_)
  · have hF := zif_f hc hF
    exact wX5_sealedShare_41 C0 hK hA hret   _ _ _ _ hF _ _ _ hw (lv_sub hl [] rfl)
  · have hF := zif_t hc hF
    refine lv_aload_n hx hb dX5_sealedShare_20 rfl (lv_at hl 0 rfl) ?_
    refine lv_iconst (v := (2 : Int32)) hx hb dX5_sealedShare_21 (by decide) ?_
    refine lv_aload_n hx hb dX5_sealedShare_22 rfl (lv_at hl 0 rfl) ?_
    refine lv_iload_n hx hb dX5_sealedShare_23 rfl (lv_at hl 1 rfl) ?_
    obtain ⟨u3, hq4, hF⟩ := zbd_t hF
    refine zgoIw (w' := (zM ad k u1.2 now saved hist kept reason detail isSaved comes queue far isInText ahead roomAt rooms text length at_ errorPosition toldFrom toldTo isWrong before)) hw hA (zVw (As := [.int x1]) (rest := [.int (2 : Int32), .ref (ad 0)]) ⟨hx, hb, hml, hown, hts⟩ (mX5_countOpen l G k ad H.size u1.2 now saved hist kept reason detail isSaved comes queue far isInText ahead roomAt rooms text length at_ errorPosition toldFrom toldTo isWrong before x1 u3 hq4) (cwV 1 hts gX5_sealedShare_X5_countOpen rfl rfl rfl kdX5_countOpen ⟨Nat.le_of_ble_eq_true rfl, Nat.le_of_ble_eq_true rfl⟩) hK hA hw 0 rfl rfl rfl rfl hl.1 rfl (Nat.le_of_ble_eq_true rfl) dX5_sealedShare_24 ⟨Nat.le_of_ble_eq_true rfl, Nat.le_of_ble_eq_true rfl⟩) (fun H locs hw => ?_)
    refine lv_if_ne (tgt := 34) hx hb dX5_sealedShare_27 (by decide) (fun hc => ?_) (fun hc => ?_)
    · have hF := zif_f hc hF
      refine lv_iconst (v := (0 : Int32)) hx hb dX5_sealedShare_34 (by decide) ?_
      exact wX5_sealedShare_35 C0 hK hA hret   _ _ _ _ _ _ _ hF _ _ _ hw (lv_sub hl [0, 1] rfl)
    · have hF := zif_t hc hF
      refine lv_iconst (v := (1 : Int32)) hx hb dX5_sealedShare_30 (by decide) ?_
      refine lv_goto (tgt := 35) hx hb dX5_sealedShare_31 (by decide) ?_
      exact wX5_sealedShare_35 C0 hK hA hret   _ _ _ _ _ _ _ hF _ _ _ hw (lv_sub hl [0, 1] rfl)
set_option maxHeartbeats 400000 in
set_option maxRecDepth 100000 in
theorem mX5_sealedShare (l : Launch) (G : va_G) (k : Nat → ClassId) (ad : Nat → Nat) (sz : Nat) (thrown : Int32) (now : Nat → Int32) (saved : Nat → Int32) (hist : Nat → Nat → Int32) (kept : Int32) (reason : Int32) (detail : Int32) (isSaved : Int32) (comes : Nat → Int32) (queue : Nat → Int32) (far : Nat → Int32) (isInText : Int32) (ahead : Nat → Int32) (roomAt : Nat → Int32) (rooms : Int32) (text : Nat → Int32) (length : Int32) (at_ : Int32) (errorPosition : Int32) (toldFrom : Int32) (toldTo : Int32) (isWrong : Int32) (before : Nat → Int32) (p0 : Int32) (o : UInt64 × Int32 × (Nat → Int32) × (Nat → Int32) × Int32) (hF : fX5_sealedShare thrown now queue roomAt rooms p0 = some o) : zMD l yX5_sealedShare wsX5_sealedShare rmX5_sealedShare G k (zM ad k thrown now saved hist kept reason detail isSaved comes queue far isInText ahead roomAt rooms text length at_ errorPosition toldFrom toldTo isWrong before) sz [.ref (ad 0), .int p0] o.1 (zM ad k o.2.1 now saved hist kept reason detail isSaved comes o.2.2.1 far isInText ahead o.2.2.2.1 o.2.2.2.2 text length at_ errorPosition toldFrom toldTo isWrong before) := by
  refine zof_D (cc := cX5_sealedShare) (nL := 2) (own := RX5) (by decide) rfl rfl (Nat.le_of_ble_eq_true rfl) ?_
  intro p e s m args below meth c A Q C0 hK hA hret ls hl hw
  have hl : lv_has ls 2 [(0, .ref (ad 0)), (1, .int p0)] := hl
  obtain ⟨hx, hb, hr, hml, hown, hts, hlocks⟩ := id C0
  obtain ⟨H, hH⟩ : ∃ z, z = s.heap := ⟨_, rfl⟩
  rw [← hH] at hw ⊢
  unfold fX5_sealedShare at hF
  refine lv_aload_n hx hb dX5_sealedShare_0 rfl (lv_at hl 0 rfl) ?_
  refine lv_iconst (v := (1 : Int32)) hx hb dX5_sealedShare_1 (by decide) ?_
  refine lv_iload_n hx hb dX5_sealedShare_2 rfl (lv_at hl 1 rfl) ?_
  obtain ⟨u1, hq2, hF⟩ := zbd_t hF
  refine zgoI (w' := (zM ad k thrown now saved hist kept reason detail isSaved comes queue far isInText ahead roomAt rooms text length at_ errorPosition toldFrom toldTo isWrong before)) hw hA [] rfl (zS (As := [.int p0]) (rest := [.int (1 : Int32), .ref (ad 0)]) ⟨hx, hb, hml, hown, hts⟩ (mX5_isSide l G k  H.size  p0 u1 hq2) (va_cwS 1 hts gX5_sealedShare_X5_isSide rfl rfl rfl kdX5_isSide ⟨Nat.le_of_ble_eq_true rfl, Nat.le_of_ble_eq_true rfl⟩) hK hA hw [] rfl (by decide) rfl hl.1 rfl (Nat.le_of_ble_eq_true rfl) dX5_sealedShare_3 ⟨Nat.le_of_ble_eq_true rfl, Nat.le_of_ble_eq_true rfl⟩) rfl rfl rfl (fun H locs hw => ?_)
  refine lv_if_ne (tgt := 13) hx hb dX5_sealedShare_6 (by decide) (fun hc => ?_) (fun hc => ?_)
  · have hF := zif_f hc hF
    refine lv_iconst (v := (0 : Int32)) hx hb dX5_sealedShare_13 (by decide) ?_
    exact wX5_sealedShare_14 C0 hK hA hret   _ _ _ _ _ _ _ hF _ _ _ hw (lv_sub hl [0, 1] rfl)
  · have hF := zif_t hc hF
    refine lv_iconst (v := (1 : Int32)) hx hb dX5_sealedShare_9 (by decide) ?_
    refine lv_goto (tgt := 14) hx hb dX5_sealedShare_10 (by decide) ?_
    exact wX5_sealedShare_14 C0 hK hA hret   _ _ _ _ _ _ _ hF _ _ _ hw (lv_sub hl [0, 1] rfl)

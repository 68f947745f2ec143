/-! SealedBoardModel.kindOf(I)I -/
abbrev rmX5_kindOf : Room := { frames := 1, cells := 0, slots := 0, locals := 22 }
theorem kdX5_kindOf : yX5_kindOf.cls ≠ "java/lang/invoke/MethodHandle" ∧ yX5_kindOf.cls ≠ "java/lang/invoke/VarHandle" ∧ (parseMethodDescriptor yX5_kindOf.desc).map (fun d => d.parameters.length) = some 1 := by decide +kernel
def fX5_kindOf (p0 : Int32) : Option (Int32) := (zbd (fX5_isBetween p0 (1 : Int32) (8 : Int32)) (fun u1 => (if u1 = 0 then (some ((-1 : Int32))) else (some (((p0 - (1 : Int32)) - (p0 - (1 : Int32)) / (4 : Int32) * (4 : Int32)))))))
set_option maxHeartbeats 400000 in
set_option maxRecDepth 100000 in
theorem mX5_kindOf (l : Launch) (G : va_G) (k : Nat → ClassId)  (sz : Nat)  (p0 : Int32) (o : Int32) (hF : fX5_kindOf p0 = some o) : zMI l yX5_kindOf wsX5_kindOf rmX5_kindOf G k (zE0 k) sz [.int p0] o (zE0 k) := by
  refine zof_I (cc := cX5_kindOf) (nL := 1) (own := RX5) (rt := .int) (by decide) rfl rfl (Nat.le_of_ble_eq_true rfl) ?_
  intro p e s m args below meth c A Q C0 hK hA hret ls hl hw
  have hl : lv_has ls 1 [(0, .int p0)] := hl
  obtain ⟨hx, hb, hr, hml, hown, hts, hlocks⟩ := id C0
  obtain ⟨H, hH⟩ : ∃ z, z = s.heap := ⟨_, rfl⟩
  rw [← hH] at hw ⊢
  unfold fX5_kindOf at hF
  refine lv_iload_n hx hb dX5_kindOf_0 rfl (lv_at hl 0 rfl) ?_
  refine lv_iconst (v := (1 : Int32)) hx hb dX5_kindOf_1 (by decide) ?_
  refine lv_bipush (v := (8 : Int32)) hx hb dX5_kindOf_2 (by decide) ?_
  obtain ⟨u1, hq2, hF⟩ := zbd_t hF
  refine zgoI (w' := (zE0 k)) hw hA [] rfl (zS (As := [.int p0, .int (1 : Int32), .int (8 : Int32)]) (rest := []) ⟨hx, hb, hml, hown, hts⟩ (mX5_isBetween l G k  H.size  p0 (1 : Int32) (8 : Int32) u1 hq2) (va_cwS 3 hts gX5_kindOf_X5_isBetween rfl rfl rfl kdX5_isBetween ⟨Nat.le_of_ble_eq_true rfl, Nat.le_of_ble_eq_true rfl⟩) hK hA hw [] rfl (by decide) rfl hl.1 rfl (Nat.le_of_ble_eq_true rfl) dX5_kindOf_4 ⟨Nat.le_of_ble_eq_true rfl, Nat.le_of_ble_eq_true rfl⟩) rfl rfl rfl (fun H locs hw => ?_)
  refine lv_if_eq (tgt := 18) hx hb dX5_kindOf_7 (by decide) (fun hc => ?_) (fun hc => ?_)
  · have hF := zif_t hc hF
    refine lv_iconst (v := (-1 : Int32)) hx hb dX5_kindOf_18 (by decide) ?_
    obtain rfl := Option.some.inj hF
    exact hret _ _ _ _ rfl hw dX5_kindOf_19
  · have hF := zif_f hc hF
    refine lv_iload_n hx hb dX5_kindOf_10 rfl (lv_at hl 0 rfl) ?_
    refine lv_iconst (v := (1 : Int32)) hx hb dX5_kindOf_11 (by decide) ?_
    refine lv_isub hx hb dX5_kindOf_12 ?_
    refine lv_iconst (v := (4 : Int32)) hx hb dX5_kindOf_13 (by decide) ?_
    refine lv_irem hx hb dX5_kindOf_14 (by decide) ?_
    refine lv_goto (tgt := 19) hx hb dX5_kindOf_15 (by decide) ?_
    obtain rfl := Option.some.inj hF
    exact hret _ _ _ _ rfl hw dX5_kindOf_19

/-! SealedBoardModel.isWall(I)Z -/
abbrev rmX5_isWall : Room := { frames := 0, cells := 0, slots := 0, locals := 0 }
theorem kdX5_isWall : yX5_isWall.cls = RX5 ∧ yX5_isWall.cls ≠ "java/lang/invoke/MethodHandle" ∧ yX5_isWall.cls ≠ "java/lang/invoke/VarHandle" ∧ (parseMethodDescriptor yX5_isWall.desc).map (fun d => d.parameters.length) = some 1 := by decide +kernel
theorem inX5_isWall_X5 : ∀ w ∈ u_ws RX5 TX5 23, w ∈ wsX5_isWall := by decide +kernel
def fX5_isWall (now : Nat → Int32) (p0 : Int32) : Option (Int32) := (zck (zin p0 76) (if (now p0.toNatClampNeg) < (20 : Int32) then (some ((0 : Int32))) else (some ((1 : Int32)))))
set_option maxHeartbeats 400000 in
set_option maxRecDepth 100000 in
theorem mX5_isWall (l : Launch) (G : va_G) (k : Nat → ClassId) (ad : Nat → Nat) (sz : Nat) (thrown : Int32) (now : Nat → Int32) (saved : Nat → Int32) (hist : Nat → Nat → Int32) (kept : Int32) (reason : Int32) (detail : Int32) (isSaved : Int32) (comes : Nat → Int32) (queue : Nat → Int32) (far : Nat → Int32) (isInText : Int32) (ahead : Nat → Int32) (roomAt : Nat → Int32) (rooms : Int32) (text : Nat → Int32) (length : Int32) (at_ : Int32) (errorPosition : Int32) (toldFrom : Int32) (toldTo : Int32) (isWrong : Int32) (before : Nat → Int32) (p0 : Int32) (o : Int32) (hF : fX5_isWall now p0 = some o) : zMI l yX5_isWall wsX5_isWall rmX5_isWall G k (zM ad k thrown now saved hist kept reason detail isSaved comes queue far isInText ahead roomAt rooms text length at_ errorPosition toldFrom toldTo isWrong before) sz [.ref (ad 0), .int p0] o (zM ad k thrown now saved hist kept reason detail isSaved comes queue far isInText ahead roomAt rooms text length at_ errorPosition toldFrom toldTo isWrong before) := by
  refine zof_I (cc := cX5_isWall) (nL := 2) (own := RX5) (rt := .boolean) (by decide) rfl rfl (Nat.le_of_ble_eq_true rfl) ?_
  intro p e s m args below meth c A Q C0 hK hA hret ls hl hw
  have hl : lv_has ls 2 [(0, .ref (ad 0)), (1, .int p0)] := hl
  obtain ⟨hx, hb, hr, hml, hown, hts, hlocks⟩ := id C0
  obtain ⟨H, hH⟩ : ∃ z, z = s.heap := ⟨_, rfl⟩
  rw [← hH] at hw ⊢
  unfold fX5_isWall at hF
  refine lv_aload_n hx hb dX5_isWall_0 rfl (lv_at hl 0 rfl) ?_
  refine va_get (D := G) (ci := 4) (v := .ref (ad 1)) (C := RX5) (T := TX5) (N := 23) hx hb hts inX5_isWall_X5 hown hK.1 hw.1 0 rfl rfl 1 (by decide) (hts (.fieldLink RX5 9 "SealedBoardModel" "now" "[I") (by decide +kernel)) (fun _ h9 => h9) rfl dX5_isWall_1 ?_
  refine lv_iload_n hx hb dX5_isWall_4 rfl (lv_at hl 1 rfl) ?_
  obtain ⟨hi1, hF⟩ := zck_in hF
  refine va_iald hx hb hK.1 hw.1 1 2 rfl rfl hi1 dX5_isWall_5 ?_
  refine lv_bipush (v := (20 : Int32)) hx hb dX5_isWall_6 (by decide) ?_
  refine lv_icmp_lt (tgt := 15) hx hb dX5_isWall_8 (by decide) (fun hc => ?_) (fun hc => ?_)
  · have hF := zif_t hc hF
    refine lv_iconst (v := (0 : Int32)) hx hb dX5_isWall_15 (by decide) ?_
    obtain rfl := Option.some.inj hF
    exact hret _ _ _ _ (zbo_n (x := (0 : Int32)) (by decide)) hw dX5_isWall_16
  · have hF := zif_f hc hF
    refine lv_iconst (v := (1 : Int32)) hx hb dX5_isWall_11 (by decide) ?_
    refine lv_goto (tgt := 16) hx hb dX5_isWall_12 (by decide) ?_
    obtain rfl := Option.some.inj hF
    exact hret _ _ _ _ (zbo_n (x := (1 : Int32)) (by decide)) hw dX5_isWall_16

/-! SealedBoardModel.next(II)I -/
abbrev rmX5_next : Room := { frames := 1, cells := 0, slots := 0, locals := 22 }
theorem kdX5_next : yX5_next.cls ≠ "java/lang/invoke/MethodHandle" ∧ yX5_next.cls ≠ "java/lang/invoke/VarHandle" ∧ (parseMethodDescriptor yX5_next.desc).map (fun d => d.parameters.length) = some 2 := by decide +kernel
def fX5_next_47   (x2 : Int32) (s0 : Int32) (s1 : Int32) : Option (Int32) := (zbn (s1 + s0) (fun a1 => (zbd (fX5_isBetween x2 (0 : Int32) (5 : Int32)) (fun u2 => (if u2 = 0 then (some ((-1 : Int32))) else (zbd (fX5_isBetween a1 (0 : Int32) (5 : Int32)) (fun u4 => (if u4 = 0 then (some ((-1 : Int32))) else (some (((x2 * (6 : Int32)) + a1)))))))))))
def fX5_next_22   (x0 : Int32) (x1 : Int32) (s0 : Int32) (s1 : Int32) : Option (Int32) := (zbn (s1 + s0) (fun a1 => (if x1 = (1 : Int32) then (fX5_next_47    a1 (1 : Int32) (x0 - x0 / (6 : Int32) * (6 : Int32))) else (if x1 = (3 : Int32) then (fX5_next_47    a1 (-1 : Int32) (x0 - x0 / (6 : Int32) * (6 : Int32))) else (fX5_next_47    a1 (0 : Int32) (x0 - x0 / (6 : Int32) * (6 : Int32)))))))
def fX5_next (p0 : Int32) (p1 : Int32) : Option (Int32) := (if p1 = 0 then (fX5_next_22    p0 p1 (-1 : Int32) (p0 / (6 : Int32))) else (if p1 = (2 : Int32) then (fX5_next_22    p0 p1 (1 : Int32) (p0 / (6 : Int32))) else (fX5_next_22    p0 p1 (0 : Int32) (p0 / (6 : Int32)))))
set_option maxHeartbeats 400000 in
set_option maxRecDepth 100000 in
theorem wX5_next_47 {p : Program} {l : Launch} {e : Env} {s : State} {m : MethodId} {args : Array Value} {below : List Frame} {meth : Method} {c : Code} {A : Nat → Prop} {Q : State → Prop} {G : va_G} {k : Nat → ClassId}   {o : Int32} (C0 : zCx p s m args meth c wsX5_next cX5_next RX5 (some .int) 4) (hK : zKK G k A s s.heap) (hA : ∀ q : Nat, s.heap.size ≤ q → A q) (hret : zRI p l e rmX5_next s m args below meth c cX5_next G A 0 0 Q .int (zE0 k) o)  : ∀ (x2 : Int32) (s0 : Int32) (s1 : Int32), fX5_next_47   x2 s0 s1 = some o → ∀ (H : Heap) (locs : List Loc) (ls : Array Slot), zWd G A s (zE0 k) H locs → lv_has ls 4 [(2, .int x2)] → W p l e rmX5_next s m args below meth c H locs 0 0 Q (F0 m 47 ls [.int s0, .int s1]) := by
  obtain ⟨hx, hb, hr, hml, hown, hts, hlocks⟩ := id C0
  intro x2 s0 s1 hF H locs ls hw hl
  unfold fX5_next_47 at hF
  refine lv_iadd hx hb dX5_next_47 ?_
  refine lv_topi (fun a1 ea1 => ?_)
  have hF := zbn_t ea1 hF
  refine lv_istore_n (lv' := [(3, .int a1), (2, .int x2)]) hx hb dX5_next_48 rfl hl (by decide) rfl (fun ls hl => ?_)
  refine lv_iload_n hx hb dX5_next_49 rfl (lv_at hl 1 rfl) ?_
  refine lv_iconst (v := (0 : Int32)) hx hb dX5_next_50 (by decide) ?_
  refine lv_iconst (v := (5 : Int32)) hx hb dX5_next_51 (by decide) ?_
  obtain ⟨u2, hq3, hF⟩ := zbd_t hF
  refine zgoI (w' := (zE0 k)) hw hA [] rfl (zS (As := [.int x2, .int (0 : Int32), .int (5 : Int32)]) (rest := []) ⟨hx, hb, hml, hown, hts⟩ (mX5_isBetween l G k  H.size  x2 (0 : Int32) (5 : Int32) u2 hq3) (va_cwS 3 hts gX5_next_X5_isBetween rfl rfl rfl kdX5_isBetween ⟨Nat.le_of_ble_eq_true rfl, Nat.le_of_ble_eq_true rfl⟩) hK hA hw [] rfl (by decide) rfl hl.1 rfl (Nat.le_of_ble_eq_true rfl) dX5_next_52 ⟨Nat.le_of_ble_eq_true rfl, Nat.le_of_ble_eq_true rfl⟩) rfl rfl rfl (fun H locs hw => ?_)
  refine lv_if_eq (tgt := 76) hx hb dX5_next_55 (by decide) (fun hc => ?_) (fun hc => ?_)
  · have hF := zif_t hc hF
    refine lv_iconst (v := (-1 : Int32)) hx hb dX5_next_76 (by decide) ?_
    obtain rfl := Option.some.inj hF
    exact hret _ _ _ _ rfl hw dX5_next_77
  · have hF := zif_f hc hF
    refine lv_iload_n hx hb dX5_next_58 rfl (lv_at hl 0 rfl) ?_
    refine lv_iconst (v := (0 : Int32)) hx hb dX5_next_59 (by decide) ?_
    refine lv_iconst (v := (5 : Int32)) hx hb dX5_next_60 (by decide) ?_
    obtain ⟨u4, hq5, hF⟩ := zbd_t hF
    refine zgoI (w' := (zE0 k)) hw hA [] rfl (zS (As := [.int a1, .int (0 : Int32), .int (5 : Int32)]) (rest := []) ⟨hx, hb, hml, hown, hts⟩ (mX5_isBetween l G k  H.size  a1 (0 : Int32) (5 : Int32) u4 hq5) (va_cwS 3 hts gX5_next_X5_isBetween rfl rfl rfl kdX5_isBetween ⟨Nat.le_of_ble_eq_true rfl, Nat.le_of_ble_eq_true rfl⟩) hK hA hw [] rfl (by decide) rfl hl.1 rfl (Nat.le_of_ble_eq_true rfl) dX5_next_61 ⟨Nat.le_of_ble_eq_true rfl, Nat.le_of_ble_eq_true rfl⟩) rfl rfl rfl (fun H locs hw => ?_)
    refine lv_if_eq (tgt := 76) hx hb dX5_next_64 (by decide) (fun hc => ?_) (fun hc => ?_)
    · have hF := zif_t hc hF
      refine lv_iconst (v := (-1 : Int32)) hx hb dX5_next_76 (by decide) ?_
      obtain rfl := Option.some.inj hF
      exact hret _ _ _ _ rfl hw dX5_next_77
    · have hF := zif_f hc hF
      refine lv_iload_n hx hb dX5_next_67 rfl (lv_at hl 1 rfl) ?_
      refine lv_bipush (v := (6 : Int32)) hx hb dX5_next_68 (by decide) ?_
      refine lv_imul hx hb dX5_next_70 ?_
      refine lv_iload_n hx hb dX5_next_71 rfl (lv_at hl 0 rfl) ?_
      refine lv_iadd hx hb dX5_next_72 ?_
      refine lv_goto (tgt := 77) hx hb dX5_next_73 (by decide) ?_
      obtain rfl := Option.some.inj hF
      exact hret _ _ _ _ rfl hw dX5_next_77
set_option maxHeartbeats 400000 in
set_option maxRecDepth 100000 in
theorem wX5_next_22 {p : Program} {l : Launch} {e : Env} {s : State} {m : MethodId} {args : Array Value} {below : List Frame} {meth : Method} {c : Code} {A : Nat → Prop} {Q : State → Prop} {G : va_G} {k : Nat → ClassId}   {o : Int32} (C0 : zCx p s m args meth c wsX5_next cX5_next RX5 (some .int) 4) (hK : zKK G k A s s.heap) (hA : ∀ q : Nat, s.heap.size ≤ q → A q) (hret : zRI p l e rmX5_next s m args below meth c cX5_next G A 0 0 Q .int (zE0 k) o)  : ∀ (x0 : Int32) (x1 : Int32) (s0 : Int32) (s1 : Int32), fX5_next_22   x0 x1 s0 s1 = some o → ∀ (H : Heap) (locs : List Loc) (ls : Array Slot), zWd G A s (zE0 k) H locs → lv_has ls 4 [(0, .int x0), (1, .int x1)] → W p l e rmX5_next s m args below meth c H locs 0 0 Q (F0 m 22 ls [.int s0, .int s1]) := by
  obtain ⟨hx, hb, hr, hml, hown, hts, hlocks⟩ := id C0
  intro x0 x1 s0 s1 hF H locs ls hw hl
  unfold fX5_next_22 at hF
  refine lv_iadd hx hb dX5_next_22 ?_
  refine lv_topi (fun a1 ea1 => ?_)
  have hF := zbn_t ea1 hF
  refine lv_istore_n (lv' := [(2, .int a1), (0, .int x0), (1, .int x1)]) hx hb dX5_next_23 rfl hl (by decide) rfl (fun ls hl => ?_)
  refine lv_iload_n hx hb dX5_next_24 rfl (lv_at hl 1 rfl) ?_
  refine lv_bipush (v := (6 : Int32)) hx hb dX5_next_25 (by decide) ?_
  refine lv_irem hx hb dX5_next_27 (by decide) ?_
  refine lv_iload_n hx hb dX5_next_28 rfl (lv_at hl 2 rfl) ?_
  refine lv_iconst (v := (1 : Int32)) hx hb dX5_next_29 (by decide) ?_
  refine lv_icmp_ne (tgt := 37) hx hb dX5_next_30 (by decide) (fun hc => ?_) (fun hc => ?_)
  · have hF := zif_f hc hF
    refine lv_iload_n hx hb dX5_next_37 rfl (lv_at hl 2 rfl) ?_
    refine lv_iconst (v := (3 : Int32)) hx hb dX5_next_38 (by decide) ?_
    refine lv_icmp_ne (tgt := 46) hx hb dX5_next_39 (by decide) (fun hc => ?_) (fun hc => ?_)
    · have hF := zif_f hc hF
      refine lv_iconst (v := (0 : Int32)) hx hb dX5_next_46 (by decide) ?_
      exact wX5_next_47 C0 hK hA hret   _ _ _ hF _ _ _ hw (lv_sub hl [0] rfl)
    · have hF := zif_t hc hF
      refine lv_iconst (v := (-1 : Int32)) hx hb dX5_next_42 (by decide) ?_
      refine lv_goto (tgt := 47) hx hb dX5_next_43 (by decide) ?_
      exact wX5_next_47 C0 hK hA hret   _ _ _ hF _ _ _ hw (lv_sub hl [0] rfl)
  · have hF := zif_t hc hF
    refine lv_iconst (v := (1 : Int32)) hx hb dX5_next_33 (by decide) ?_
    refine lv_goto (tgt := 47) hx hb dX5_next_34 (by decide) ?_
    exact wX5_next_47 C0 hK hA hret   _ _ _ hF _ _ _ hw (lv_sub hl [0] rfl)
set_option maxHeartbeats 400000 in
set_option maxRecDepth 100000 in
theorem mX5_next (l : Launch) (G : va_G) (k : Nat → ClassId)  (sz : Nat)  (p0 : Int32) (p1 : Int32) (o : Int32) (hF : fX5_next p0 p1 = some o) : zMI l yX5_next wsX5_next rmX5_next G k (zE0 k) sz [.int p0, .int p1] o (zE0 k) := by
  refine zof_I (cc := cX5_next) (nL := 4) (own := RX5) (rt := .int) (by decide) rfl rfl (Nat.le_of_ble_eq_true rfl) ?_
  intro p e s m args below meth c A Q C0 hK hA hret ls hl hw
  have hl : lv_has ls 4 [(0, .int p0), (1, .int p1)] := hl
  obtain ⟨hx, hb, hr, hml, hown, hts, hlocks⟩ := id C0
  obtain ⟨H, hH⟩ : ∃ z, z = s.heap := ⟨_, rfl⟩
  rw [← hH] at hw ⊢
  unfold fX5_next at hF
  refine lv_iload_n hx hb dX5_next_0 rfl (lv_at hl 0 rfl) ?_
  refine lv_bipush (v := (6 : Int32)) hx hb dX5_next_1 (by decide) ?_
  refine lv_idiv hx hb dX5_next_3 (by decide) ?_
  refine lv_iload_n hx hb dX5_next_4 rfl (lv_at hl 1 rfl) ?_
  refine lv_if_ne (tgt := 12) hx hb dX5_next_5 (by decide) (fun hc => ?_) (fun hc => ?_)
  · have hF := zif_f hc hF
    refine lv_iload_n hx hb dX5_next_12 rfl (lv_at hl 1 rfl) ?_
    refine lv_iconst (v := (2 : Int32)) hx hb dX5_next_13 (by decide) ?_
    refine lv_icmp_ne (tgt := 21) hx hb dX5_next_14 (by decide) (fun hc => ?_) (fun hc => ?_)
    · have hF := zif_f hc hF
      refine lv_iconst (v := (0 : Int32)) hx hb dX5_next_21 (by decide) ?_
      exact wX5_next_22 C0 hK hA hret   _ _ _ _ hF _ _ _ hw (lv_sub hl [0, 1] rfl)
    · have hF := zif_t hc hF
      refine lv_iconst (v := (1 : Int32)) hx hb dX5_next_17 (by decide) ?_
      refine lv_goto (tgt := 22) hx hb dX5_next_18 (by decide) ?_
      exact wX5_next_22 C0 hK hA hret   _ _ _ _ hF _ _ _ hw (lv_sub hl [0, 1] rfl)
  · have hF := zif_t hc hF
    refine lv_iconst (v := (-1 : Int32)) hx hb dX5_next_8 (by decide) ?_
    refine lv_goto (tgt := 22) hx hb dX5_next_9 (by decide) ?_
    exact wX5_next_22 C0 hK hA hret   _ _ _ _ hF _ _ _ hw (lv_sub hl [0, 1] rfl)

/-! SealedBoardModel.isOpen(II)Z -/
abbrev rmX5_isOpen : Room := { frames := 1, cells := 0, slots := 0, locals := 21 }
theorem kdX5_isOpen : yX5_isOpen.cls = RX5 ∧ yX5_isOpen.cls ≠ "java/lang/invoke/MethodHandle" ∧ yX5_isOpen.cls ≠ "java/lang/invoke/VarHandle" ∧ (parseMethodDescriptor yX5_isOpen.desc).map (fun d => d.parameters.length) = some 2 := by decide +kernel
theorem inX5_isOpen_X5 : ∀ w ∈ u_ws RX5 TX5 23, w ∈ wsX5_isOpen := by decide +kernel
def fX5_isOpen (now : Nat → Int32) (p0 : Int32) (p1 : Int32) : Option (Int32) := (zbd (fX5_isWall now p1) (fun u1 => (if u1 = 0 then (zck (zin ((36 : Int32) + p1) 76) (if (now ((36 : Int32) + p1).toNatClampNeg) = ((2 : Int32) - p0) then (some ((0 : Int32))) else (some ((1 : Int32))))) else (some ((0 : Int32))))))
set_option maxHeartbeats 400000 in
set_option maxRecDepth 100000 in
theorem mX5_isOpen (l : Launch) (G : va_G) (k : Nat → ClassId) (ad : Nat → Nat) (sz : Nat) (thrown : Int32) (now : Nat → Int32) (saved : Nat → Int32) (hist : Nat → Nat → Int32) (kept : Int32) (reason : Int32) (detail : Int32) (isSaved : Int32) (comes : Nat → Int32) (queue : Nat → Int32) (far : Nat → Int32) (isInText : Int32) (ahead : Nat → Int32) (roomAt : Nat → Int32) (rooms : Int32) (text : Nat → Int32) (length : Int32) (at_ : Int32) (errorPosition : Int32) (toldFrom : Int32) (toldTo : Int32) (isWrong : Int32) (before : Nat → Int32) (p0 : Int32) (p1 : Int32) (o : Int32) (hF : fX5_isOpen now p0 p1 = some o) : zMI l yX5_isOpen wsX5_isOpen rmX5_isOpen G k (zM ad k thrown now saved hist kept reason detail isSaved comes queue far isInText ahead roomAt rooms text length at_ errorPosition toldFrom toldTo isWrong before) sz [.ref (ad 0), .int p0, .int p1] o (zM ad k thrown now saved hist kept reason detail isSaved comes queue far isInText ahead roomAt rooms text length at_ errorPosition toldFrom toldTo isWrong before) := by
  refine zof_I (cc := cX5_isOpen) (nL := 3) (own := RX5) (rt := .boolean) (by decide) rfl rfl (Nat.le_of_ble_eq_true rfl) ?_
  intro p e s m args below meth c A Q C0 hK hA hret ls hl hw
  have hl : lv_has ls 3 [(0, .ref (ad 0)), (1, .int p0), (2, .int p1)] := hl
  obtain ⟨hx, hb, hr, hml, hown, hts, hlocks⟩ := id C0
  obtain ⟨H, hH⟩ : ∃ z, z = s.heap := ⟨_, rfl⟩
  rw [← hH] at hw ⊢
  unfold fX5_isOpen at hF
  refine lv_aload_n hx hb dX5_isOpen_0 rfl (lv_at hl 0 rfl) ?_
  refine lv_iload_n hx hb dX5_isOpen_1 rfl (lv_at hl 2 rfl) ?_
  obtain ⟨u1, hq2, hF⟩ := zbd_t hF
  refine zgoIw (w' := (zM ad k thrown now saved hist kept reason detail isSaved comes queue far isInText ahead roomAt rooms text length at_ errorPosition toldFrom toldTo isWrong before)) hw hA (zVw (As := [.int p1]) (rest := []) ⟨hx, hb, hml, hown, hts⟩ (mX5_isWall l G k ad H.size thrown now saved hist kept reason detail isSaved comes queue far isInText ahead roomAt rooms text length at_ errorPosition toldFrom toldTo isWrong before p1 u1 hq2) (cwV 1 hts gX5_isOpen_X5_isWall rfl rfl rfl kdX5_isWall ⟨Nat.le_of_ble_eq_true rfl, Nat.le_of_ble_eq_true rfl⟩) hK hA hw 0 rfl rfl rfl rfl hl.1 rfl (Nat.le_of_ble_eq_true rfl) dX5_isOpen_2 ⟨Nat.le_of_ble_eq_true rfl, Nat.le_of_ble_eq_true rfl⟩) (fun H locs hw => ?_)
  refine lv_if_ne (tgt := 27) hx hb dX5_isOpen_5 (by decide) (fun hc => ?_) (fun hc => ?_)
  · have hF := zif_f hc hF
    refine lv_iconst (v := (0 : Int32)) hx hb dX5_isOpen_27 (by decide) ?_
    obtain rfl := Option.some.inj hF
    exact hret _ _ _ _ (zbo_n (x := (0 : Int32)) (by decide)) hw dX5_isOpen_28
  · have hF := zif_t hc hF
    refine lv_aload_n hx hb dX5_isOpen_8 rfl (lv_at hl 0 rfl) ?_
    refine va_get (D := G) (ci := 4) (v := .ref (ad 1)) (C := RX5) (T := TX5) (N := 23) hx hb hts inX5_isOpen_X5 hown hK.1 hw.1 0 rfl rfl 1 (by decide) (hts (.fieldLink RX5 9 "SealedBoardModel" "now" "[I") (by decide +kernel)) (fun _ h9 => h9) rfl dX5_isOpen_9 ?_
    refine lv_bipush (v := (36 : Int32)) hx hb dX5_isOpen_12 (by decide) ?_
    refine lv_iload_n hx hb dX5_isOpen_14 rfl (lv_at hl 2 rfl) ?_
    refine lv_iadd hx hb dX5_isOpen_15 ?_
    obtain ⟨hi3, hF⟩ := zck_in hF
    refine va_iald hx hb hK.1 hw.1 1 2 rfl rfl hi3 dX5_isOpen_16 ?_
    refine lv_iconst (v := (2 : Int32)) hx hb dX5_isOpen_17 (by decide) ?_
    refine lv_iload_n hx hb dX5_isOpen_18 rfl (lv_at hl 1 rfl) ?_
    refine lv_isub hx hb dX5_isOpen_19 ?_
    refine lv_icmp_eq (tgt := 27) hx hb dX5_isOpen_20 (by decide) (fun hc => ?_) (fun hc => ?_)
    · have hF := zif_t hc hF
      refine lv_iconst (v := (0 : Int32)) hx hb dX5_isOpen_27 (by decide) ?_
      obtain rfl := Option.some.inj hF
      exact hret _ _ _ _ (zbo_n (x := (0 : Int32)) (by decide)) hw dX5_isOpen_28
    · have hF := zif_f hc hF
      refine lv_iconst (v := (1 : Int32)) hx hb dX5_isOpen_23 (by decide) ?_
      refine lv_goto (tgt := 28) hx hb dX5_isOpen_24 (by decide) ?_
      obtain rfl := Option.some.inj hF
      exact hret _ _ _ _ (zbo_n (x := (1 : Int32)) (by decide)) hw dX5_isOpen_28

/-! SealedBoardModel.mayStand(II)Z -/
abbrev rmX5_mayStand : Room := { frames := 2, cells := 0, slots := 0, locals := 43 }
theorem kdX5_mayStand : yX5_mayStand.cls = RX5 ∧ yX5_mayStand.cls ≠ "java/lang/invoke/MethodHandle" ∧ yX5_mayStand.cls ≠ "java/lang/invoke/VarHandle" ∧ (parseMethodDescriptor yX5_mayStand.desc).map (fun d => d.parameters.length) = some 2 := by decide +kernel
theorem inX5_mayStand_X5 : ∀ w ∈ u_ws RX5 TX5 23, w ∈ wsX5_mayStand := by decide +kernel
def fX5_mayStand (now : Nat → Int32) (p0 : Int32) (p1 : Int32) : Option (Int32) := (if p1 < 0 then (some ((0 : Int32))) else (zbd (fX5_isOpen now p0 p1) (fun u1 => (if u1 = 0 then (some ((0 : Int32))) else (zck (zin p1 76) (if (now p1.toNatClampNeg) = 0 then (some ((1 : Int32))) else (some ((0 : Int32)))))))))
set_option maxHeartbeats 400000 in
set_option maxRecDepth 100000 in
theorem mX5_mayStand (l : Launch) (G : va_G) (k : Nat → ClassId) (ad : Nat → Nat) (sz : Nat) (thrown : Int32) (now : Nat → Int32) (saved : Nat → Int32) (hist : Nat → Nat → Int32) (kept : Int32) (reason : Int32) (detail : Int32) (isSaved : Int32) (comes : Nat → Int32) (queue : Nat → Int32) (far : Nat → Int32) (isInText : Int32) (ahead : Nat → Int32) (roomAt : Nat → Int32) (rooms : Int32) (text : Nat → Int32) (length : Int32) (at_ : Int32) (errorPosition : Int32) (toldFrom : Int32) (toldTo : Int32) (isWrong : Int32) (before : Nat → Int32) (p0 : Int32) (p1 : Int32) (o : Int32) (hF : fX5_mayStand now p0 p1 = some o) : zMI l yX5_mayStand wsX5_mayStand rmX5_mayStand G k (zM ad k thrown now saved hist kept reason detail isSaved comes queue far isInText ahead roomAt rooms text length at_ errorPosition toldFrom toldTo isWrong before) sz [.ref (ad 0), .int p0, .int p1] o (zM ad k thrown now saved hist kept reason detail isSaved comes queue far isInText ahead roomAt rooms text length at_ errorPosition toldFrom toldTo isWrong before) := by
  refine zof_I (cc := cX5_mayStand) (nL := 3) (own := RX5) (rt := .boolean) (by decide) rfl rfl (Nat.le_of_ble_eq_true rfl) ?_
  intro p e s m args below meth c A Q C0 hK hA hret ls hl hw
  have hl : lv_has ls 3 [(0, .ref (ad 0)), (1, .int p0), (2, .int p1)] := hl
  obtain ⟨hx, hb, hr, hml, hown, hts, hlocks⟩ := id C0
  obtain ⟨H, hH⟩ : ∃ z, z = s.heap := ⟨_, rfl⟩
  rw [← hH] at hw ⊢
  unfold fX5_mayStand at hF
  refine lv_iload_n hx hb dX5_mayStand_0 rfl (lv_at hl 2 rfl) ?_
  refine lv_if_lt (tgt := 26) hx hb dX5_mayStand_1 (by decide) (fun hc => ?_) (fun hc => ?_)
  · have hF := zif_t hc hF
    refine lv_iconst (v := (0 : Int32)) hx hb dX5_mayStand_26 (by decide) ?_
    obtain rfl := Option.some.inj hF
    exact hret _ _ _ _ (zbo_n (x := (0 : Int32)) (by decide)) hw dX5_mayStand_27
  · have hF := zif_f hc hF
    refine lv_aload_n hx hb dX5_mayStand_4 rfl (lv_at hl 0 rfl) ?_
    refine lv_iload_n hx hb dX5_mayStand_5 rfl (lv_at hl 1 rfl) ?_
    refine lv_iload_n hx hb dX5_mayStand_6 rfl (lv_at hl 2 rfl) ?_
    obtain ⟨u1, hq2, hF⟩ := zbd_t hF
    refine zgoIw (w' := (zM ad k thrown now saved hist kept reason detail isSaved comes queue far isInText ahead roomAt rooms text length at_ errorPosition toldFrom toldTo isWrong before)) hw hA (zVw (As := [.int p0, .int p1]) (rest := []) ⟨hx, hb, hml, hown, hts⟩ (mX5_isOpen l G k ad H.size thrown now saved hist kept reason detail isSaved comes queue far isInText ahead roomAt rooms text length at_ errorPosition toldFrom toldTo isWrong before p0 p1 u1 hq2) (cwV 2 hts gX5_mayStand_X5_isOpen rfl rfl rfl kdX5_isOpen ⟨Nat.le_of_ble_eq_true rfl, Nat.le_of_ble_eq_true rfl⟩) hK hA hw 0 rfl rfl rfl rfl hl.1 rfl (Nat.le_of_ble_eq_true rfl) dX5_mayStand_7 ⟨Nat.le_of_ble_eq_true rfl, Nat.le_of_ble_eq_true rfl⟩) (fun H locs hw => ?_)
    refine lv_if_eq (tgt := 26) hx hb dX5_mayStand_10 (by decide) (fun hc => ?_) (fun hc => ?_)
    · have hF := zif_t hc hF
      refine lv_iconst (v := (0 : Int32)) hx hb dX5_mayStand_26 (by decide) ?_
      obtain rfl := Option.some.inj hF
      exact hret _ _ _ _ (zbo_n (x := (0 : Int32)) (by decide)) hw dX5_mayStand_27
    · have hF := zif_f hc hF
      refine lv_aload_n hx hb dX5_mayStand_13 rfl (lv_at hl 0 rfl) ?_
      refine va_get (D := G) (ci := 4) (v := .ref (ad 1)) (C := RX5) (T := TX5) (N := 23) hx hb hts inX5_mayStand_X5 hown hK.1 hw.1 0 rfl rfl 1 (by decide) (hts (.fieldLink RX5 9 "SealedBoardModel" "now" "[I") (by decide +kernel)) (fun _ h9 => h9) rfl dX5_mayStand_14 ?_
      refine lv_iload_n hx hb dX5_mayStand_17 rfl (lv_at hl 2 rfl) ?_
      obtain ⟨hi3, hF⟩ := zck_in hF
      refine va_iald hx hb hK.1 hw.1 1 2 rfl rfl hi3 dX5_mayStand_18 ?_
      refine lv_if_ne (tgt := 26) hx hb dX5_mayStand_19 (by decide) (fun hc => ?_) (fun hc => ?_)
      · have hF := zif_f hc hF
        refine lv_iconst (v := (0 : Int32)) hx hb dX5_mayStand_26 (by decide) ?_
        obtain rfl := Option.some.inj hF
        exact hret _ _ _ _ (zbo_n (x := (0 : Int32)) (by decide)) hw dX5_mayStand_27
      · have hF := zif_t hc hF
        refine lv_iconst (v := (1 : Int32)) hx hb dX5_mayStand_22 (by decide) ?_
        refine lv_goto (tgt := 27) hx hb dX5_mayStand_23 (by decide) ?_
        obtain rfl := Option.some.inj hF
        exact hret _ _ _ _ (zbo_n (x := (1 : Int32)) (by decide)) hw dX5_mayStand_27

/-! SealedBoardModel.countPieces(I)I -/
abbrev rmX5_countPieces : Room := { frames := 2, cells := 0, slots := 0, locals := 42 }
theorem kdX5_countPieces : yX5_countPieces.cls = RX5 ∧ yX5_countPieces.cls ≠ "java/lang/invoke/MethodHandle" ∧ yX5_countPieces.cls ≠ "java/lang/invoke/VarHandle" ∧ (parseMethodDescriptor yX5_countPieces.desc).map (fun d => d.parameters.length) = some 1 := by decide +kernel
theorem inX5_countPieces_X5 : ∀ w ∈ u_ws RX5 TX5 23, w ∈ wsX5_countPieces := by decide +kernel
def fX5_countPieces_29 (k4 : Int32 → Int32 → Int32 → Option (Int32)) (now : Nat → Int32) (x1 : Int32) (x3 : Int32) (s0 : Int32) (s1 : Int32) : Option (Int32) := (zbn (s1 + s0) (fun a1 => (zbn (x3 + (1 : Int32)) (fun a2 => (k4 x1 a1 a2)))))
def fX5_countPieces_4  (now : Nat → Int32) : Nat → Int32 → Int32 → Int32 → Option (Int32)
  | 0, _, _, _ => none
  | n + 1, x1, x2, x3 => (if (36 : Int32) ≤ x3 then (some (x2)) else (zck (zin x3 76) (zbd (fX5_sideOf (now x3.toNatClampNeg)) (fun u2 => (if u2 = x1 then (fX5_countPieces_29 (fun b0 b1 b2 => fX5_countPieces_4  now n b0 b1 b2) now  x1 x3 (1 : Int32) x2) else (fX5_countPieces_29 (fun b0 b1 b2 => fX5_countPieces_4  now n b0 b1 b2) now  x1 x3 (0 : Int32) x2))))))
def fX5_countPieces (now : Nat → Int32) (p0 : Int32) : Option (Int32) := (fX5_countPieces_4  now zFu p0 (0 : Int32) (0 : Int32))
set_option maxHeartbeats 400000 in
set_option maxRecDepth 100000 in
theorem wX5_countPieces_29 {p : Program} {l : Launch} {e : Env} {s : State} {m : MethodId} {args : Array Value} {below : List Frame} {meth : Method} {c : Code} {A : Nat → Prop} {Q : State → Prop} {G : va_G} {k : Nat → ClassId} {ad : Nat → Nat} {thrown : Int32} {now : Nat → Int32} {saved : Nat → Int32} {hist : Nat → Nat → Int32} {kept : Int32} {reason : Int32} {detail : Int32} {isSaved : Int32} {comes : Nat → Int32} {queue : Nat → Int32} {far : Nat → Int32} {isInText : Int32} {ahead : Nat → Int32} {roomAt : Nat → Int32} {rooms : Int32} {text : Nat → Int32} {length : Int32} {at_ : Int32} {errorPosition : Int32} {toldFrom : Int32} {toldTo : Int32} {isWrong : Int32} {before : Nat → Int32} {o : Int32} (C0 : zCx p s m args meth c wsX5_countPieces cX5_countPieces RX5 (some .int) 4) (hK : zKK G k A s s.heap) (hA : ∀ q : Nat, s.heap.size ≤ q → A q) (hret : zRI p l e rmX5_countPieces s m args below meth c cX5_countPieces G A 0 0 Q .int (zM ad k thrown now saved hist kept reason detail isSaved comes queue far isInText ahead roomAt rooms text length at_ errorPosition toldFrom toldTo isWrong before) o) (k4 : Int32 → Int32 → Int32 → Option (Int32)) (hk4 : ∀ (x1 : Int32) (x2 : Int32) (x3 : Int32), k4 x1 x2 x3 = some o → ∀ (H : Heap) (locs : List Loc) (ls : Array Slot), zWd G A s (zM ad k thrown now saved hist kept reason detail isSaved comes queue far isInText ahead roomAt rooms text length at_ errorPosition toldFrom toldTo isWrong before) H locs → lv_has ls 4 [(0, .ref (ad 0)), (1, .int x1), (2, .int x2), (3, .int x3)] → W p l e rmX5_countPieces s m args below meth c H locs 0 0 Q (F0 m 4 ls [])) : ∀ (x1 : Int32) (x3 : Int32) (s0 : Int32) (s1 : Int32), fX5_countPieces_29 k4 now x1 x3 s0 s1 = some o → ∀ (H : Heap) (locs : List Loc) (ls : Array Slot), zWd G A s (zM ad k thrown now saved hist kept reason detail isSaved comes queue far isInText ahead roomAt rooms text length at_ errorPosition toldFrom toldTo isWrong before) H locs → lv_has ls 4 [(0, .ref (ad 0)), (1, .int x1), (3, .int x3)] → W p l e rmX5_countPieces s m args below meth c H locs 0 0 Q (F0 m 29 ls [.int s0, .int s1]) := by
  obtain ⟨hx, hb, hr, hml, hown, hts, hlocks⟩ := id C0
  intro x1 x3 s0 s1 hF H locs ls hw hl
  unfold fX5_countPieces_29 at hF
  refine lv_iadd hx hb dX5_countPieces_29 ?_
  refine lv_topi (fun a1 ea1 => ?_)
  have hF := zbn_t ea1 hF
  refine lv_istore_n (lv' := [(2, .int a1), (0, .ref (ad 0)), (1, .int x1), (3, .int x3)]) hx hb dX5_countPieces_30 rfl hl (by decide) rfl (fun ls hl => ?_)
  obtain ⟨a2, ea2⟩ : ∃ z : Int32, z = x3 + (1 : Int32) := ⟨_, rfl⟩
  have hF := zbn_t ea2 hF
  refine lv_iinc (v := a2) (lv' := [(3, .int a2), (2, .int a1), (0, .ref (ad 0)), (1, .int x1)]) hx hb dX5_countPieces_31 hl (k := 3) rfl (by rw [ea2]; rfl) (by decide) rfl (fun ls hl => ?_)
  refine lv_goto (tgt := 4) hx hb dX5_countPieces_34 (by decide) ?_
  exact hk4 _ _ _ hF _ _ _ hw (lv_sub hl [2, 3, 1, 0] rfl)
set_option maxHeartbeats 400000 in
set_option maxRecDepth 100000 in
theorem wX5_countPieces_4 {p : Program} {l : Launch} {e : Env} {s : State} {m : MethodId} {args : Array Value} {below : List Frame} {meth : Method} {c : Code} {A : Nat → Prop} {Q : State → Prop} {G : va_G} {k : Nat → ClassId} {ad : Nat → Nat} {thrown : Int32} {now : Nat → Int32} {saved : Nat → Int32} {hist : Nat → Nat → Int32} {kept : Int32} {reason : Int32} {detail : Int32} {isSaved : Int32} {comes : Nat → Int32} {queue : Nat → Int32} {far : Nat → Int32} {isInText : Int32} {ahead : Nat → Int32} {roomAt : Nat → Int32} {rooms : Int32} {text : Nat → Int32} {length : Int32} {at_ : Int32} {errorPosition : Int32} {toldFrom : Int32} {toldTo : Int32} {isWrong : Int32} {before : Nat → Int32} {o : Int32} (C0 : zCx p s m args meth c wsX5_countPieces cX5_countPieces RX5 (some .int) 4) (hK : zKK G k A s s.heap) (hA : ∀ q : Nat, s.heap.size ≤ q → A q) (hret : zRI p l e rmX5_countPieces s m args below meth c cX5_countPieces G A 0 0 Q .int (zM ad k thrown now saved hist kept reason detail isSaved comes queue far isInText ahead roomAt rooms text length at_ errorPosition toldFrom toldTo isWrong before) o)  : ∀ (n : Nat) (x1 : Int32) (x2 : Int32) (x3 : Int32), fX5_countPieces_4  now n x1 x2 x3 = some o → ∀ (H : Heap) (locs : List Loc) (ls : Array Slot), zWd G A s (zM ad k thrown now saved hist kept reason detail isSaved comes queue far isInText ahead roomAt rooms text length at_ errorPosition toldFrom toldTo isWrong before) H locs → lv_has ls 4 [(0, .ref (ad 0)), (1, .int x1), (2, .int x2), (3, .int x3)] → W p l e rmX5_countPieces s m args below meth c H locs 0 0 Q (F0 m 4 ls []) := by
  obtain ⟨hx, hb, hr, hml, hown, hts, hlocks⟩ := id C0
  intro n
  induction n with
  | zero => intro x1 x2 x3 hF; exact nomatch hF
  | succ n ih =>
    intro x1 x2 x3 hF H locs ls hw hl
    rw [fX5_countPieces_4] at hF
    refine lv_iload_n hx hb dX5_countPieces_4 rfl (lv_at hl 3 rfl) ?_
    refine lv_bipush (v := (36 : Int32)) hx hb dX5_countPieces_5 (by decide) ?_
    refine lv_icmp_ge (tgt := 37) hx hb dX5_countPieces_7 (by decide) (fun hc => ?_) (fun hc => ?_)
    · have hF := zif_t hc hF
      refine lv_iload_n hx hb dX5_countPieces_37 rfl (lv_at hl 2 rfl) ?_
      obtain rfl := Option.some.inj hF
      exact hret _ _ _ _ rfl hw dX5_countPieces_38
    · have hF := zif_f hc hF
      refine lv_iload_n hx hb dX5_countPieces_10 rfl (lv_at hl 2 rfl) ?_
      refine lv_aload_n hx hb dX5_countPieces_11 rfl (lv_at hl 0 rfl) ?_
      refine va_get (D := G) (ci := 4) (v := .ref (ad 1)) (C := RX5) (T := TX5) (N := 23) hx hb hts inX5_countPieces_X5 hown hK.1 hw.1 0 rfl rfl 1 (by decide) (hts (.fieldLink RX5 9 "SealedBoardModel" "now" "[I") (by decide +kernel)) (fun _ h9 => h9) rfl dX5_countPieces_12 ?_
      refine lv_iload_n hx hb dX5_countPieces_15 rfl (lv_at hl 3 rfl) ?_
      obtain ⟨hi1, hF⟩ := zck_in hF
      refine va_iald hx hb hK.1 hw.1 1 2 rfl rfl hi1 dX5_countPieces_16 ?_
      obtain ⟨u2, hq3, hF⟩ := zbd_t hF
      refine zgoI (w' := (zM ad k thrown now saved hist kept reason detail isSaved comes queue far isInText ahead roomAt rooms text length at_ errorPosition toldFrom toldTo isWrong before)) hw hA [] rfl (zS (As := [.int (now x3.toNatClampNeg)]) (rest := [.int x2]) ⟨hx, hb, hml, hown, hts⟩ (mX5_sideOf l G k  H.size  (now x3.toNatClampNeg) u2 hq3) (va_cwS 1 hts gX5_countPieces_X5_sideOf rfl rfl rfl kdX5_sideOf ⟨Nat.le_of_ble_eq_true rfl, Nat.le_of_ble_eq_true rfl⟩) hK hA hw [] rfl (by decide) rfl hl.1 rfl (Nat.le_of_ble_eq_true rfl) dX5_countPieces_17 ⟨Nat.le_of_ble_eq_true rfl, Nat.le_of_ble_eq_true rfl⟩) rfl rfl rfl (fun H locs hw => ?_)
      refine lv_iload_n hx hb dX5_countPieces_20 rfl (lv_at hl 1 rfl) ?_
      refine lv_icmp_ne (tgt := 28) hx hb dX5_countPieces_21 (by decide) (fun hc => ?_) (fun hc => ?_)
      · have hF := zif_f hc hF
        refine lv_iconst (v := (0 : Int32)) hx hb dX5_countPieces_28 (by decide) ?_
        exact wX5_countPieces_29 C0 hK hA hret (fun b0 b1 b2 => fX5_countPieces_4  now n b0 b1 b2) ih  _ _ _ _ hF _ _ _ hw (lv_sub hl [0, 1, 3] rfl)
      · have hF := zif_t hc hF
        refine lv_iconst (v := (1 : Int32)) hx hb dX5_countPieces_24 (by decide) ?_
        refine lv_goto (tgt := 29) hx hb dX5_countPieces_25 (by decide) ?_
        exact wX5_countPieces_29 C0 hK hA hret (fun b0 b1 b2 => fX5_countPieces_4  now n b0 b1 b2) ih  _ _ _ _ hF _ _ _ hw (lv_sub hl [0, 1, 3] rfl)
set_option maxHeartbeats 400000 in
set_option maxRecDepth 100000 in
theorem mX5_countPieces (l : Launch) (G : va_G) (k : Nat → ClassId) (ad : Nat → Nat) (sz : Nat) (thrown : Int32) (now : Nat → Int32) (saved : Nat → Int32) (hist : Nat → Nat → Int32) (kept : Int32) (reason : Int32) (detail : Int32) (isSaved : Int32) (comes : Nat → Int32) (queue : Nat → Int32) (far : Nat → Int32) (isInText : Int32) (ahead : Nat → Int32) (roomAt : Nat → Int32) (rooms : Int32) (text : Nat → Int32) (length : Int32) (at_ : Int32) (errorPosition : Int32) (toldFrom : Int32) (toldTo : Int32) (isWrong : Int32) (before : Nat → Int32) (p0 : Int32) (o : Int32) (hF : fX5_countPieces now p0 = some o) : zMI l yX5_countPieces wsX5_countPieces rmX5_countPieces G k (zM ad k thrown now saved hist kept reason detail isSaved comes queue far isInText ahead roomAt rooms text length at_ errorPosition toldFrom toldTo isWrong before) sz [.ref (ad 0), .int p0] o (zM ad k thrown now saved hist kept reason detail isSaved comes queue far isInText ahead roomAt rooms text length at_ errorPosition toldFrom toldTo isWrong before) := by
  refine zof_I (cc := cX5_countPieces) (nL := 4) (own := RX5) (rt := .int) (by decide) rfl rfl (Nat.le_of_ble_eq_true rfl) ?_
  intro p e s m args below meth c A Q C0 hK hA hret ls hl hw
  have hl : lv_has ls 4 [(0, .ref (ad 0)), (1, .int p0)] := hl
  obtain ⟨hx, hb, hr, hml, hown, hts, hlocks⟩ := id C0
  obtain ⟨H, hH⟩ : ∃ z, z = s.heap := ⟨_, rfl⟩
  rw [← hH] at hw ⊢
  unfold fX5_countPieces at hF
  refine lv_iconst (v := (0 : Int32)) hx hb dX5_countPieces_0 (by decide) ?_
  refine lv_istore_n (lv' := [(2, .int (0 : Int32)), (0, .ref (ad 0)), (1, .int p0)]) hx hb dX5_countPieces_1 rfl hl (by decide) rfl (fun ls hl => ?_)
  refine lv_iconst (v := (0 : Int32)) hx hb dX5_countPieces_2 (by decide) ?_
  refine lv_istore_n (lv' := [(3, .int (0 : Int32)), (2, .int (0 : Int32)), (0, .ref (ad 0)), (1, .int p0)]) hx hb dX5_countPieces_3 rfl hl (by decide) rfl (fun ls hl => ?_)
  exact wX5_countPieces_4 C0 hK hA hret  zFu _ _ _ hF _ _ _ hw (lv_sub hl [2, 3, 1, 0] rfl)

/-! SealedBoardModel.allPieces()I -/
abbrev rmX5_allPieces : Room := { frames := 3, cells := 0, slots := 0, locals := 65 }
theorem kdX5_allPieces : yX5_allPieces.cls = RX5 ∧ yX5_allPieces.cls ≠ "java/lang/invoke/MethodHandle" ∧ yX5_allPieces.cls ≠ "java/lang/invoke/VarHandle" ∧ (parseMethodDescriptor yX5_allPieces.desc).map (fun d => d.parameters.length) = some 0 := by decide +kernel
def fX5_allPieces (now : Nat → Int32) : Option (Int32) := (zbd (fX5_countPieces now (0 : Int32)) (fun u1 => (zbd (fX5_countPieces now (1 : Int32)) (fun u3 => (some ((u1 + u3)))))))
set_option maxHeartbeats 400000 in
set_option maxRecDepth 100000 in
theorem mX5_allPieces (l : Launch) (G : va_G) (k : Nat → ClassId) (ad : Nat → Nat) (sz : Nat) (thrown : Int32) (now : Nat → Int32) (saved : Nat → Int32) (hist : Nat → Nat → Int32) (kept : Int32) (reason : Int32) (detail : Int32) (isSaved : Int32) (comes : Nat → Int32) (queue : Nat → Int32) (far : Nat → Int32) (isInText : Int32) (ahead : Nat → Int32) (roomAt : Nat → Int32) (rooms : Int32) (text : Nat → Int32) (length : Int32) (at_ : Int32) (errorPosition : Int32) (toldFrom : Int32) (toldTo : Int32) (isWrong : Int32) (before : Nat → Int32)  (o : Int32) (hF : fX5_allPieces now = some o) : zMI l yX5_allPieces wsX5_allPieces rmX5_allPieces G k (zM ad k thrown now saved hist kept reason detail isSaved comes queue far isInText ahead roomAt rooms text length at_ errorPosition toldFrom toldTo isWrong before) sz [.ref (ad 0)] o (zM ad k thrown now saved hist kept reason detail isSaved comes queue far isInText ahead roomAt rooms text length at_ errorPosition toldFrom toldTo isWrong before) := by
  refine zof_I (cc := cX5_allPieces) (nL := 1) (own := RX5) (rt := .int) (by decide) rfl rfl (Nat.le_of_ble_eq_true rfl) ?_
  intro p e s m args below meth c A Q C0 hK hA hret ls hl hw
  have hl : lv_has ls 1 [(0, .ref (ad 0))] := hl
  obtain ⟨hx, hb, hr, hml, hown, hts, hlocks⟩ := id C0
  obtain ⟨H, hH⟩ : ∃ z, z = s.heap := ⟨_, rfl⟩
  rw [← hH] at hw ⊢
  unfold fX5_allPieces at hF
  refine lv_aload_n hx hb dX5_allPieces_0 rfl (lv_at hl 0 rfl) ?_
  refine lv_iconst (v := (0 : Int32)) hx hb dX5_allPieces_1 (by decide) ?_
  obtain ⟨u1, hq2, hF⟩ := zbd_t hF
  refine zgoIw (w' := (zM ad k thrown now saved hist kept reason detail isSaved comes queue far isInText ahead roomAt rooms text length at_ errorPosition toldFrom toldTo isWrong before)) hw hA (zVw (As := [.int (0 : Int32)]) (rest := []) ⟨hx, hb, hml, hown, hts⟩ (mX5_countPieces l G k ad H.size thrown now saved hist kept reason detail isSaved comes queue far isInText ahead roomAt rooms text length at_ errorPosition toldFrom toldTo isWrong before (0 : Int32) u1 hq2) (cwV 1 hts gX5_allPieces_X5_countPieces rfl rfl rfl kdX5_countPieces ⟨Nat.le_of_ble_eq_true rfl, Nat.le_of_ble_eq_true rfl⟩) hK hA hw 0 rfl rfl rfl rfl hl.1 rfl (Nat.le_of_ble_eq_true rfl) dX5_allPieces_2 ⟨Nat.le_of_ble_eq_true rfl, Nat.le_of_ble_eq_true rfl⟩) (fun H locs hw => ?_)
  refine lv_aload_n hx hb dX5_allPieces_5 rfl (lv_at hl 0 rfl) ?_
  refine lv_iconst (v := (1 : Int32)) hx hb dX5_allPieces_6 (by decide) ?_
  obtain ⟨u3, hq4, hF⟩ := zbd_t hF
  refine zgoIw (w' := (zM ad k thrown now saved hist kept reason detail isSaved comes queue far isInText ahead roomAt rooms text length at_ errorPosition toldFrom toldTo isWrong before)) hw hA (zVw (As := [.int (1 : Int32)]) (rest := [.int u1]) ⟨hx, hb, hml, hown, hts⟩ (mX5_countPieces l G k ad H.size thrown now saved hist kept reason detail isSaved comes queue far isInText ahead roomAt rooms text length at_ errorPosition toldFrom toldTo isWrong before (1 : Int32) u3 hq4) (cwV 1 hts gX5_allPieces_X5_countPieces rfl rfl rfl kdX5_countPieces ⟨Nat.le_of_ble_eq_true rfl, Nat.le_of_ble_eq_true rfl⟩) hK hA hw 0 rfl rfl rfl rfl hl.1 rfl (Nat.le_of_ble_eq_true rfl) dX5_allPieces_7 ⟨Nat.le_of_ble_eq_true rfl, Nat.le_of_ble_eq_true rfl⟩) (fun H locs hw => ?_)
  refine lv_iadd hx hb dX5_allPieces_10 ?_
  obtain rfl := Option.some.inj hF
  exact hret _ _ _ _ rfl hw dX5_allPieces_11

/-! SealedBoardModel.countWalls()I -/
abbrev rmX5_countWalls : Room := { frames := 1, cells := 0, slots := 0, locals := 21 }
theorem kdX5_countWalls : yX5_countWalls.cls = RX5 ∧ yX5_countWalls.cls ≠ "java/lang/invoke/MethodHandle" ∧ yX5_countWalls.cls ≠ "java/lang/invoke/VarHandle" ∧ (parseMethodDescriptor yX5_countWalls.desc).map (fun d => d.parameters.length) = some 0 := by decide +kernel
def fX5_countWalls_24 (k4 : Int32 → Int32 → Option (Int32)) (now : Nat → Int32) (x2 : Int32) (s0 : Int32) (s1 : Int32) : Option (Int32) := (zbn (s1 + s0) (fun a1 => (zbn (x2 + (1 : Int32)) (fun a2 => (k4 a1 a2)))))
def fX5_countWalls_4  (now : Nat → Int32) : Nat → Int32 → Int32 → Option (Int32)
  | 0, _, _ => none
  | n + 1, x1, x2 => (if (36 : Int32) ≤ x2 then (some (x1)) else (zbd (fX5_isWall now x2) (fun u1 => (if u1 = 0 then (fX5_countWalls_24 (fun b0 b1 => fX5_countWalls_4  now n b0 b1) now  x2 (0 : Int32) x1) else (fX5_countWalls_24 (fun b0 b1 => fX5_countWalls_4  now n b0 b1) now  x2 (1 : Int32) x1)))))
def fX5_countWalls (now : Nat → Int32) : Option (Int32) := (fX5_countWalls_4  now zFu (0 : Int32) (0 : Int32))
set_option maxHeartbeats 400000 in
set_option maxRecDepth 100000 in
theorem wX5_countWalls_24 {p : Program} {l : Launch} {e : Env} {s : State} {m : MethodId} {args : Array Value} {below : List Frame} {meth : Method} {c : Code} {A : Nat → Prop} {Q : State → Prop} {G : va_G} {k : Nat → ClassId} {ad : Nat → Nat} {thrown : Int32} {now : Nat → Int32} {saved : Nat → Int32} {hist : Nat → Nat → Int32} {kept : Int32} {reason : Int32} {detail : Int32} {isSaved : Int32} {comes : Nat → Int32} {queue : Nat → Int32} {far : Nat → Int32} {isInText : Int32} {ahead : Nat → Int32} {roomAt : Nat → Int32} {rooms : Int32} {text : Nat → Int32} {length : Int32} {at_ : Int32} {errorPosition : Int32} {toldFrom : Int32} {toldTo : Int32} {isWrong : Int32} {before : Nat → Int32} {o : Int32} (C0 : zCx p s m args meth c wsX5_countWalls cX5_countWalls RX5 (some .int) 3) (hK : zKK G k A s s.heap) (hA : ∀ q : Nat, s.heap.size ≤ q → A q) (hret : zRI p l e rmX5_countWalls s m args below meth c cX5_countWalls G A 0 0 Q .int (zM ad k thrown now saved hist kept reason detail isSaved comes queue far isInText ahead roomAt rooms text length at_ errorPosition toldFrom toldTo isWrong before) o) (k4 : Int32 → Int32 → Option (Int32)) (hk4 : ∀ (x1 : Int32) (x2 : Int32), k4 x1 x2 = some o → ∀ (H : Heap) (locs : List Loc) (ls : Array Slot), zWd G A s (zM ad k thrown now saved hist kept reason detail isSaved comes queue far isInText ahead roomAt rooms text length at_ errorPosition toldFrom toldTo isWrong before) H locs → lv_has ls 3 [(0, .ref (ad 0)), (1, .int x1), (2, .int x2)] → W p l e rmX5_countWalls s m args below meth c H locs 0 0 Q (F0 m 4 ls [])) : ∀ (x2 : Int32) (s0 : Int32) (s1 : Int32), fX5_countWalls_24 k4 now x2 s0 s1 = some o → ∀ (H : Heap) (locs : List Loc) (ls : Array Slot), zWd G A s (zM ad k thrown now saved hist kept reason detail isSaved comes queue far isInText ahead roomAt rooms text length at_ errorPosition toldFrom toldTo isWrong before) H locs → lv_has ls 3 [(0, .ref (ad 0)), (2, .int x2)] → W p l e rmX5_countWalls s m args below meth c H locs 0 0 Q (F0 m 24 ls [.int s0, .int s1]) := by
  obtain ⟨hx, hb, hr, hml, hown, hts, hlocks⟩ := id C0
  intro x2 s0 s1 hF H locs ls hw hl
  unfold fX5_countWalls_24 at hF
  refine lv_iadd hx hb dX5_countWalls_24 ?_
  refine lv_topi (fun a1 ea1 => ?_)
  have hF := zbn_t ea1 hF
  refine lv_istore_n (lv' := [(1, .int a1), (0, .ref (ad 0)), (2, .int x2)]) hx hb dX5_countWalls_25 rfl hl (by decide) rfl (fun ls hl => ?_)
  obtain ⟨a2, ea2⟩ : ∃ z : Int32, z = x2 + (1 : Int32) := ⟨_, rfl⟩
  have hF := zbn_t ea2 hF
  refine lv_iinc (v := a2) (lv' := [(2, .int a2), (1, .int a1), (0, .ref (ad 0))]) hx hb dX5_countWalls_26 hl (k := 2) rfl (by rw [ea2]; rfl) (by decide) rfl (fun ls hl => ?_)
  refine lv_goto (tgt := 4) hx hb dX5_countWalls_29 (by decide) ?_
  exact hk4 _ _ hF _ _ _ hw (lv_sub hl [2, 1, 0] rfl)
set_option maxHeartbeats 400000 in
set_option maxRecDepth 100000 in
theorem wX5_countWalls_4 {p : Program} {l : Launch} {e : Env} {s : State} {m : MethodId} {args : Array Value} {below : List Frame} {meth : Method} {c : Code} {A : Nat → Prop} {Q : State → Prop} {G : va_G} {k : Nat → ClassId} {ad : Nat → Nat} {thrown : Int32} {now : Nat → Int32} {saved : Nat → Int32} {hist : Nat → Nat → Int32} {kept : Int32} {reason : Int32} {detail : Int32} {isSaved : Int32} {comes : Nat → Int32} {queue : Nat → Int32} {far : Nat → Int32} {isInText : Int32} {ahead : Nat → Int32} {roomAt : Nat → Int32} {rooms : Int32} {text : Nat → Int32} {length : Int32} {at_ : Int32} {errorPosition : Int32} {toldFrom : Int32} {toldTo : Int32} {isWrong : Int32} {before : Nat → Int32} {o : Int32} (C0 : zCx p s m args meth c wsX5_countWalls cX5_countWalls RX5 (some .int) 3) (hK : zKK G k A s s.heap) (hA : ∀ q : Nat, s.heap.size ≤ q → A q) (hret : zRI p l e rmX5_countWalls s m args below meth c cX5_countWalls G A 0 0 Q .int (zM ad k thrown now saved hist kept reason detail isSaved comes queue far isInText ahead roomAt rooms text length at_ errorPosition toldFrom toldTo isWrong before) o)  : ∀ (n : Nat) (x1 : Int32) (x2 : Int32), fX5_countWalls_4  now n x1 x2 = some o → ∀ (H : Heap) (locs : List Loc) (ls : Array Slot), zWd G A s (zM ad k thrown now saved hist kept reason detail isSaved comes queue far isInText ahead roomAt rooms text length at_ errorPosition toldFrom toldTo isWrong before) H locs → lv_has ls 3 [(0, .ref (ad 0)), (1, .int x1), (2, .int x2)] → W p l e rmX5_countWalls s m args below meth c H locs 0 0 Q (F0 m 4 ls []) := by
  obtain ⟨hx, hb, hr, hml, hown, hts, hlocks⟩ := id C0
  intro n
  induction n with
  | zero => intro x1 x2 hF; exact nomatch hF
  | succ n ih =>
    intro x1 x2 hF H locs ls hw hl
    rw [fX5_countWalls_4] at hF
    refine lv_iload_n hx hb dX5_countWalls_4 rfl (lv_at hl 2 rfl) ?_
    refine lv_bipush (v := (36 : Int32)) hx hb dX5_countWalls_5 (by decide) ?_
    refine lv_icmp_ge (tgt := 32) hx hb dX5_countWalls_7 (by decide) (fun hc => ?_) (fun hc => ?_)
    · have hF := zif_t hc hF
      refine lv_iload_n hx hb dX5_countWalls_32 rfl (lv_at hl 1 rfl) ?_
      obtain rfl := Option.some.inj hF
      exact hret _ _ _ _ rfl hw dX5_countWalls_33
    · have hF := zif_f hc hF
      refine lv_iload_n hx hb dX5_countWalls_10 rfl (lv_at hl 1 rfl) ?_
      refine lv_aload_n hx hb dX5_countWalls_11 rfl (lv_at hl 0 rfl) ?_
      refine lv_iload_n hx hb dX5_countWalls_12 rfl (lv_at hl 2 rfl) ?_
      obtain ⟨u1, hq2, hF⟩ := zbd_t hF
      refine zgoIw (w' := (zM ad k thrown now saved hist kept reason detail isSaved comes queue far isInText ahead roomAt rooms text length at_ errorPosition toldFrom toldTo isWrong before)) hw hA (zVw (As := [.int x2]) (rest := [.int x1]) ⟨hx, hb, hml, hown, hts⟩ (mX5_isWall l G k ad H.size thrown now saved hist kept reason detail isSaved comes queue far isInText ahead roomAt rooms text length at_ errorPosition toldFrom toldTo isWrong before x2 u1 hq2) (cwV 1 hts gX5_countWalls_X5_isWall rfl rfl rfl kdX5_isWall ⟨Nat.le_of_ble_eq_true rfl, Nat.le_of_ble_eq_true rfl⟩) hK hA hw 0 rfl rfl rfl rfl hl.1 rfl (Nat.le_of_ble_eq_true rfl) dX5_countWalls_13 ⟨Nat.le_of_ble_eq_true rfl, Nat.le_of_ble_eq_true rfl⟩) (fun H locs hw => ?_)
      refine lv_if_eq (tgt := 23) hx hb dX5_countWalls_16 (by decide) (fun hc => ?_) (fun hc => ?_)
      · have hF := zif_t hc hF
        refine lv_iconst (v := (0 : Int32)) hx hb dX5_countWalls_23 (by decide) ?_
        exact wX5_countWalls_24 C0 hK hA hret (fun b0 b1 => fX5_countWalls_4  now n b0 b1) ih  _ _ _ hF _ _ _ hw (lv_sub hl [0, 2] rfl)
      · have hF := zif_f hc hF
        refine lv_iconst (v := (1 : Int32)) hx hb dX5_countWalls_19 (by decide) ?_
        refine lv_goto (tgt := 24) hx hb dX5_countWalls_20 (by decide) ?_
        exact wX5_countWalls_24 C0 hK hA hret (fun b0 b1 => fX5_countWalls_4  now n b0 b1) ih  _ _ _ hF _ _ _ hw (lv_sub hl [0, 2] rfl)
set_option maxHeartbeats 400000 in
set_option maxRecDepth 100000 in
theorem mX5_countWalls (l : Launch) (G : va_G) (k : Nat → ClassId) (ad : Nat → Nat) (sz : Nat) (thrown : Int32) (now : Nat → Int32) (saved : Nat → Int32) (hist : Nat → Nat → Int32) (kept : Int32) (reason : Int32) (detail : Int32) (isSaved : Int32) (comes : Nat → Int32) (queue : Nat → Int32) (far : Nat → Int32) (isInText : Int32) (ahead : Nat → Int32) (roomAt : Nat → Int32) (rooms : Int32) (text : Nat → Int32) (length : Int32) (at_ : Int32) (errorPosition : Int32) (toldFrom : Int32) (toldTo : Int32) (isWrong : Int32) (before : Nat → Int32)  (o : Int32) (hF : fX5_countWalls now = some o) : zMI l yX5_countWalls wsX5_countWalls rmX5_countWalls G k (zM ad k thrown now saved hist kept reason detail isSaved comes queue far isInText ahead roomAt rooms text length at_ errorPosition toldFrom toldTo isWrong before) sz [.ref (ad 0)] o (zM ad k thrown now saved hist kept reason detail isSaved comes queue far isInText ahead roomAt rooms text length at_ errorPosition toldFrom toldTo isWrong before) := by
  refine zof_I (cc := cX5_countWalls) (nL := 3) (own := RX5) (rt := .int) (by decide) rfl rfl (Nat.le_of_ble_eq_true rfl) ?_
  intro p e s m args below meth c A Q C0 hK hA hret ls hl hw
  have hl : lv_has ls 3 [(0, .ref (ad 0))] := hl
  obtain ⟨hx, hb, hr, hml, hown, hts, hlocks⟩ := id C0
  obtain ⟨H, hH⟩ : ∃ z, z = s.heap := ⟨_, rfl⟩
  rw [← hH] at hw ⊢
  unfold fX5_countWalls at hF
  refine lv_iconst (v := (0 : Int32)) hx hb dX5_countWalls_0 (by decide) ?_
  refine lv_istore_n (lv' := [(1, .int (0 : Int32)), (0, .ref (ad 0))]) hx hb dX5_countWalls_1 rfl hl (by decide) rfl (fun ls hl => ?_)
  refine lv_iconst (v := (0 : Int32)) hx hb dX5_countWalls_2 (by decide) ?_
  refine lv_istore_n (lv' := [(2, .int (0 : Int32)), (1, .int (0 : Int32)), (0, .ref (ad 0))]) hx hb dX5_countWalls_3 rfl hl (by decide) rfl (fun ls hl => ?_)
  exact wX5_countWalls_4 C0 hK hA hret  zFu _ _ hF _ _ _ hw (lv_sub hl [2, 1, 0] rfl)

/-! SealedBoardModel.keeperOf(I)I -/
abbrev rmX5_keeperOf : Room := { frames := 1, cells := 0, slots := 0, locals := 21 }
theorem kdX5_keeperOf : yX5_keeperOf.cls = RX5 ∧ yX5_keeperOf.cls ≠ "java/lang/invoke/MethodHandle" ∧ yX5_keeperOf.cls ≠ "java/lang/invoke/VarHandle" ∧ (parseMethodDescriptor yX5_keeperOf.desc).map (fun d => d.parameters.length) = some 1 := by decide +kernel
theorem inX5_keeperOf_X5 : ∀ w ∈ u_ws RX5 TX5 23, w ∈ wsX5_keeperOf := by decide +kernel
def fX5_keeperOf_2  (now : Nat → Int32) : Nat → Int32 → Int32 → Option (Int32)
  | 0, _, _ => none
  | n + 1, x1, x2 => (if (36 : Int32) ≤ x2 then (some ((-1 : Int32))) else (zck (zin x2 76) (zbd (fX5_codeOf x1 (3 : Int32)) (fun u2 => (if (now x2.toNatClampNeg) = u2 then (some (x2)) else (zbn (x2 + (1 : Int32)) (fun a4 => (fX5_keeperOf_2  now n x1 a4))))))))
def fX5_keeperOf (now : Nat → Int32) (p0 : Int32) : Option (Int32) := (fX5_keeperOf_2  now zFu p0 (0 : Int32))
set_option maxHeartbeats 400000 in
set_option maxRecDepth 100000 in
theorem wX5_keeperOf_2 {p : Program} {l : Launch} {e : Env} {s : State} {m : MethodId} {args : Array Value} {below : List Frame} {meth : Method} {c : Code} {A : Nat → Prop} {Q : State → Prop} {G : va_G} {k : Nat → ClassId} {ad : Nat → Nat} {thrown : Int32} {now : Nat → Int32} {saved : Nat → Int32} {hist : Nat → Nat → Int32} {kept : Int32} {reason : Int32} {detail : Int32} {isSaved : Int32} {comes : Nat → Int32} {queue : Nat → Int32} {far : Nat → Int32} {isInText : Int32} {ahead : Nat → Int32} {roomAt : Nat → Int32} {rooms : Int32} {text : Nat → Int32} {length : Int32} {at_ : Int32} {errorPosition : Int32} {toldFrom : Int32} {toldTo : Int32} {isWrong : Int32} {before : Nat → Int32} {o : Int32} (C0 : zCx p s m args meth c wsX5_keeperOf cX5_keeperOf RX5 (some .int) 3) (hK : zKK G k A s s.heap) (hA : ∀ q : Nat, s.heap.size ≤ q → A q) (hret : zRI p l e rmX5_keeperOf s m args below meth c cX5_keeperOf G A 0 0 Q .int (zM ad k thrown now saved hist kept reason detail isSaved comes queue far isInText ahead roomAt rooms text length at_ errorPosition toldFrom toldTo isWrong before) o)  : ∀ (n : Nat) (x1 : Int32) (x2 : Int32), fX5_keeperOf_2  now n x1 x2 = some o → ∀ (H : Heap) (locs : List Loc) (ls : Array Slot), zWd G A s (zM ad k thrown now saved hist kept reason detail isSaved comes queue far isInText ahead roomAt rooms text length at_ errorPosition toldFrom toldTo isWrong before) H locs → lv_has ls 3 [(0, .ref (ad 0)), (1, .int x1), (2, .int x2)] → W p l e rmX5_keeperOf s m args below meth c H locs 0 0 Q (F0 m 2 ls []) := by
  obtain ⟨hx, hb, hr, hml, hown, hts, hlocks⟩ := id C0
  intro n
  induction n with
  | zero => intro x1 x2 hF; exact nomatch hF
  | succ n ih =>
    intro x1 x2 hF H locs ls hw hl
    rw [fX5_keeperOf_2] at hF
    refine lv_iload_n hx hb dX5_keeperOf_2 rfl (lv_at hl 2 rfl) ?_
    refine lv_bipush (v := (36 : Int32)) hx hb dX5_keeperOf_3 (by decide) ?_
    refine lv_icmp_ge (tgt := 30) hx hb dX5_keeperOf_5 (by decide) (fun hc => ?_) (fun hc => ?_)
    · have hF := zif_t hc hF
      refine lv_iconst (v := (-1 : Int32)) hx hb dX5_keeperOf_30 (by decide) ?_
      obtain rfl := Option.some.inj hF
      exact hret _ _ _ _ rfl hw dX5_keeperOf_31
    · have hF := zif_f hc hF
      refine lv_aload_n hx hb dX5_keeperOf_8 rfl (lv_at hl 0 rfl) ?_
      refine va_get (D := G) (ci := 4) (v := .ref (ad 1)) (C := RX5) (T := TX5) (N := 23) hx hb hts inX5_keeperOf_X5 hown hK.1 hw.1 0 rfl rfl 1 (by decide) (hts (.fieldLink RX5 9 "SealedBoardModel" "now" "[I") (by decide +kernel)) (fun _ h9 => h9) rfl dX5_keeperOf_9 ?_
      refine lv_iload_n hx hb dX5_keeperOf_12 rfl (lv_at hl 2 rfl) ?_
      obtain ⟨hi1, hF⟩ := zck_in hF
      refine va_iald hx hb hK.1 hw.1 1 2 rfl rfl hi1 dX5_keeperOf_13 ?_
      refine lv_iload_n hx hb dX5_keeperOf_14 rfl (lv_at hl 1 rfl) ?_
      refine lv_iconst (v := (3 : Int32)) hx hb dX5_keeperOf_15 (by decide) ?_
      obtain ⟨u2, hq3, hF⟩ := zbd_t hF
      refine zgoI (w' := (zM ad k thrown now saved hist kept reason detail isSaved comes queue far isInText ahead roomAt rooms text length at_ errorPosition toldFrom toldTo isWrong before)) hw hA [] rfl (zS (As := [.int x1, .int (3 : Int32)]) (rest := [.int (now x2.toNatClampNeg)]) ⟨hx, hb, hml, hown, hts⟩ (mX5_codeOf l G k  H.size  x1 (3 : Int32) u2 hq3) (va_cwS 2 hts gX5_keeperOf_X5_codeOf rfl rfl rfl kdX5_codeOf ⟨Nat.le_of_ble_eq_true rfl, Nat.le_of_ble_eq_true rfl⟩) hK hA hw [] rfl (by decide) rfl hl.1 rfl (Nat.le_of_ble_eq_true rfl) dX5_keeperOf_16 ⟨Nat.le_of_ble_eq_true rfl, Nat.le_of_ble_eq_true rfl⟩) rfl rfl rfl (fun H locs hw => ?_)
      refine lv_icmp_ne (tgt := 24) hx hb dX5_keeperOf_19 (by decide) (fun hc => ?_) (fun hc => ?_)
      · have hF := zif_f hc hF
        obtain ⟨a4, ea4⟩ : ∃ z : Int32, z = x2 + (1 : Int32) := ⟨_, rfl⟩
        have hF := zbn_t ea4 hF
        refine lv_iinc (v := a4) (lv' := [(2, .int a4), (0, .ref (ad 0)), (1, .int x1)]) hx hb dX5_keeperOf_24 hl (k := 2) rfl (by rw [ea4]; rfl) (by decide) rfl (fun ls hl => ?_)
        refine lv_goto (tgt := 2) hx hb dX5_keeperOf_27 (by decide) ?_
        exact ih _ _ hF _ _ _ hw (lv_sub hl [1, 2, 0] rfl)
      · have hF := zif_t hc hF
        refine lv_iload_n hx hb dX5_keeperOf_22 rfl (lv_at hl 2 rfl) ?_
        obtain rfl := Option.some.inj hF
        exact hret _ _ _ _ rfl hw dX5_keeperOf_23
set_option maxHeartbeats 400000 in
set_option maxRecDepth 100000 in
theorem mX5_keeperOf (l : Launch) (G : va_G) (k : Nat → ClassId) (ad : Nat → Nat) (sz : Nat) (thrown : Int32) (now : Nat → Int32) (saved : Nat → Int32) (hist : Nat → Nat → Int32) (kept : Int32) (reason : Int32) (detail : Int32) (isSaved : Int32) (comes : Nat → Int32) (queue : Nat → Int32) (far : Nat → Int32) (isInText : Int32) (ahead : Nat → Int32) (roomAt : Nat → Int32) (rooms : Int32) (text : Nat → Int32) (length : Int32) (at_ : Int32) (errorPosition : Int32) (toldFrom : Int32) (toldTo : Int32) (isWrong : Int32) (before : Nat → Int32) (p0 : Int32) (o : Int32) (hF : fX5_keeperOf now p0 = some o) : zMI l yX5_keeperOf wsX5_keeperOf rmX5_keeperOf G k (zM ad k thrown now saved hist kept reason detail isSaved comes queue far isInText ahead roomAt rooms text length at_ errorPosition toldFrom toldTo isWrong before) sz [.ref (ad 0), .int p0] o (zM ad k thrown now saved hist kept reason detail isSaved comes queue far isInText ahead roomAt rooms text length at_ errorPosition toldFrom toldTo isWrong before) := by
  refine zof_I (cc := cX5_keeperOf) (nL := 3) (own := RX5) (rt := .int) (by decide) rfl rfl (Nat.le_of_ble_eq_true rfl) ?_
  intro p e s m args below meth c A Q C0 hK hA hret ls hl hw
  have hl : lv_has ls 3 [(0, .ref (ad 0)), (1, .int p0)] := hl
  obtain ⟨hx, hb, hr, hml, hown, hts, hlocks⟩ := id C0
  obtain ⟨H, hH⟩ : ∃ z, z = s.heap := ⟨_, rfl⟩
  rw [← hH] at hw ⊢
  unfold fX5_keeperOf at hF
  refine lv_iconst (v := (0 : Int32)) hx hb dX5_keeperOf_0 (by decide) ?_
  refine lv_istore_n (lv' := [(2, .int (0 : Int32)), (0, .ref (ad 0)), (1, .int p0)]) hx hb dX5_keeperOf_1 rfl hl (by decide) rfl (fun ls hl => ?_)
  exact wX5_keeperOf_2 C0 hK hA hret  zFu _ _ hF _ _ _ hw (lv_sub hl [1, 2, 0] rfl)

/-! SealedBoardModel.kindAt(I)I -/
abbrev rmX5_kindAt : Room := { frames := 0, cells := 0, slots := 0, locals := 0 }
theorem kdX5_kindAt : yX5_kindAt.cls ≠ "java/lang/invoke/MethodHandle" ∧ yX5_kindAt.cls ≠ "java/lang/invoke/VarHandle" ∧ (parseMethodDescriptor yX5_kindAt.desc).map (fun d => d.parameters.length) = some 1 := by decide +kernel
def fX5_kindAt (p0 : Int32) : Option (Int32) := (if p0 = 0 then (some ((0 : Int32))) else (if p0 = (5 : Int32) then (some ((0 : Int32))) else (if p0 = (1 : Int32) then (some ((1 : Int32))) else (if p0 = (4 : Int32) then (some ((1 : Int32))) else (if p0 = (2 : Int32) then (some ((3 : Int32))) else (some ((2 : Int32))))))))
set_option maxHeartbeats 400000 in
set_option maxRecDepth 100000 in
theorem mX5_kindAt (l : Launch) (G : va_G) (k : Nat → ClassId)  (sz : Nat)  (p0 : Int32) (o : Int32) (hF : fX5_kindAt p0 = some o) : zMI l yX5_kindAt wsX5_kindAt rmX5_kindAt G k (zE0 k) sz [.int p0] o (zE0 k) := by
  refine zof_I (cc := cX5_kindAt) (nL := 1) (own := RX5) (rt := .int) (by decide) rfl rfl (Nat.le_of_ble_eq_true rfl) ?_
  intro p e s m args below meth c A Q C0 hK hA hret ls hl hw
  have hl : lv_has ls 1 [(0, .int p0)] := hl
  obtain ⟨hx, hb, hr, hml, hown, hts, hlocks⟩ := id C0
  obtain ⟨H, hH⟩ : ∃ z, z = s.heap := ⟨_, rfl⟩
  rw [← hH] at hw ⊢
  unfold fX5_kindAt at hF
  refine lv_iload_n hx hb dX5_kindAt_0 rfl (lv_at hl 0 rfl) ?_
  refine lv_if_eq (tgt := 9) hx hb dX5_kindAt_1 (by decide) (fun hc => ?_) (fun hc => ?_)
  · have hF := zif_t hc hF
    refine lv_iconst (v := (0 : Int32)) hx hb dX5_kindAt_9 (by decide) ?_
    refine lv_goto (tgt := 37) hx hb dX5_kindAt_10 (by decide) ?_
    obtain rfl := Option.some.inj hF
    exact hret _ _ _ _ rfl hw dX5_kindAt_37
  · have hF := zif_f hc hF
    refine lv_iload_n hx hb dX5_kindAt_4 rfl (lv_at hl 0 rfl) ?_
    refine lv_iconst (v := (5 : Int32)) hx hb dX5_kindAt_5 (by decide) ?_
    refine lv_icmp_ne (tgt := 13) hx hb dX5_kindAt_6 (by decide) (fun hc => ?_) (fun hc => ?_)
    · have hF := zif_f hc hF
      refine lv_iload_n hx hb dX5_kindAt_13 rfl (lv_at hl 0 rfl) ?_
      refine lv_iconst (v := (1 : Int32)) hx hb dX5_kindAt_14 (by decide) ?_
      refine lv_icmp_eq (tgt := 23) hx hb dX5_kindAt_15 (by decide) (fun hc => ?_) (fun hc => ?_)
      · have hF := zif_t hc hF
        refine lv_iconst (v := (1 : Int32)) hx hb dX5_kindAt_23 (by decide) ?_
        refine lv_goto (tgt := 37) hx hb dX5_kindAt_24 (by decide) ?_
        obtain rfl := Option.some.inj hF
        exact hret _ _ _ _ rfl hw dX5_kindAt_37
      · have hF := zif_f hc hF
        refine lv_iload_n hx hb dX5_kindAt_18 rfl (lv_at hl 0 rfl) ?_
        refine lv_iconst (v := (4 : Int32)) hx hb dX5_kindAt_19 (by decide) ?_
        refine lv_icmp_ne (tgt := 27) hx hb dX5_kindAt_20 (by decide) (fun hc => ?_) (fun hc => ?_)
        · have hF := zif_f hc hF
          refine lv_iload_n hx hb dX5_kindAt_27 rfl (lv_at hl 0 rfl) ?_
          refine lv_iconst (v := (2 : Int32)) hx hb dX5_kindAt_28 (by decide) ?_
          refine lv_icmp_ne (tgt := 36) hx hb dX5_kindAt_29 (by decide) (fun hc => ?_) (fun hc => ?_)
          · have hF := zif_f hc hF
            refine lv_iconst (v := (2 : Int32)) hx hb dX5_kindAt_36 (by decide) ?_
            obtain rfl := Option.some.inj hF
            exact hret _ _ _ _ rfl hw dX5_kindAt_37
          · have hF := zif_t hc hF
            refine lv_iconst (v := (3 : Int32)) hx hb dX5_kindAt_32 (by decide) ?_
            refine lv_goto (tgt := 37) hx hb dX5_kindAt_33 (by decide) ?_
            obtain rfl := Option.some.inj hF
            exact hret _ _ _ _ rfl hw dX5_kindAt_37
        · have hF := zif_t hc hF
          refine lv_iconst (v := (1 : Int32)) hx hb dX5_kindAt_23 (by decide) ?_
          refine lv_goto (tgt := 37) hx hb dX5_kindAt_24 (by decide) ?_
          obtain rfl := Option.some.inj hF
          exact hret _ _ _ _ rfl hw dX5_kindAt_37
    · have hF := zif_t hc hF
      refine lv_iconst (v := (0 : Int32)) hx hb dX5_kindAt_9 (by decide) ?_
      refine lv_goto (tgt := 37) hx hb dX5_kindAt_10 (by decide) ?_
      obtain rfl := Option.some.inj hF
      exact hret _ _ _ _ rfl hw dX5_kindAt_37

/-! SealedBoardModel.start()I -/
abbrev rmX5_start : Room := { frames := 4, cells := 0, slots := 0, locals := 85 }
theorem kdX5_start : yX5_start.cls = RX5 ∧ yX5_start.cls ≠ "java/lang/invoke/MethodHandle" ∧ yX5_start.cls ≠ "java/lang/invoke/VarHandle" ∧ (parseMethodDescriptor yX5_start.desc).map (fun d => d.parameters.length) = some 0 := by decide +kernel
theorem inX5_start_X5 : ∀ w ∈ u_ws RX5 TX5 23, w ∈ wsX5_start := by decide +kernel
def fX5_start_19   : Nat → Int32 → (Nat → Int32) → (Nat → Nat → Int32) → Int32 → Int32 → Option (Int32 × Int32 × (Nat → Int32) × (Nat → Nat → Int32) × Int32)
  | 0, _, _, _, _, _ => none
  | n + 1, thrown, now, hist, kept, x1 => (if (6 : Int32) ≤ x1 then (zbd (fX5_allPieces now) (fun u1 => (some (u1, thrown, now, hist, kept)))) else (zbd (fX5_kindAt x1) (fun u3 => (zbd (fX5_codeOf (0 : Int32) u3) (fun u5 => (zck (zin x1 76) (zbd (fX5_kindAt x1) (fun u8 => (zbd (fX5_codeOf (1 : Int32) u8) (fun u10 => (zck (zin ((30 : Int32) + x1) 76) (zbn (x1 + (1 : Int32)) (fun a13 => (fX5_start_19   n thrown (upd (upd now x1.toNatClampNeg u5) ((30 : Int32) + x1).toNatClampNeg u10) hist kept a13))))))))))))))
def fX5_start (thrown : Int32) (now : Nat → Int32) (hist : Nat → Nat → Int32) (kept : Int32) : Option (Int32 × Int32 × (Nat → Int32) × (Nat → Nat → Int32) × Int32) := (zbd (fX5_remember now hist kept) (fun u1 => (zbd (fX5_empty now) (fun u3 => (fX5_start_19   zFu (0 : Int32) u3 u1.1 u1.2 (0 : Int32))))))
set_option maxHeartbeats 400000 in
set_option maxRecDepth 100000 in
theorem wX5_start_19 {p : Program} {l : Launch} {e : Env} {s : State} {m : MethodId} {args : Array Value} {below : List Frame} {meth : Method} {c : Code} {A : Nat → Prop} {Q : State → Prop} {G : va_G} {k : Nat → ClassId} {ad : Nat → Nat} {saved : Nat → Int32} {reason : Int32} {detail : Int32} {isSaved : Int32} {comes : Nat → Int32} {queue : Nat → Int32} {far : Nat → Int32} {isInText : Int32} {ahead : Nat → Int32} {roomAt : Nat → Int32} {rooms : Int32} {text : Nat → Int32} {length : Int32} {at_ : Int32} {errorPosition : Int32} {toldFrom : Int32} {toldTo : Int32} {isWrong : Int32} {before : Nat → Int32} {o : Int32 × Int32 × (Nat → Int32) × (Nat → Nat → Int32) × Int32} (C0 : zCx p s m args meth c wsX5_start cX5_start RX5 (some .int) 2) (hK : zKK G k A s s.heap) (hA : ∀ q : Nat, s.heap.size ≤ q → A q) (hret : zRI p l e rmX5_start s m args below meth c cX5_start G A 0 0 Q .int (zM ad k o.2.1 o.2.2.1 saved o.2.2.2.1 o.2.2.2.2 reason detail isSaved comes queue far isInText ahead roomAt rooms text length at_ errorPosition toldFrom toldTo isWrong before) o.1)  : ∀ (n : Nat) (thrown : Int32) (now : Nat → Int32) (hist : Nat → Nat → Int32) (kept : Int32) (x1 : Int32), fX5_start_19   n thrown now hist kept x1 = some o → ∀ (H : Heap) (locs : List Loc) (ls : Array Slot), zWd G A s (zM ad k thrown now saved hist kept reason detail isSaved comes queue far isInText ahead roomAt rooms text length at_ errorPosition toldFrom toldTo isWrong before) H locs → lv_has ls 2 [(0, .ref (ad 0)), (1, .int x1)] → W p l e rmX5_start s m args below meth c H locs 0 0 Q (F0 m 19 ls []) := by
  obtain ⟨hx, hb, hr, hml, hown, hts, hlocks⟩ := id C0
  intro n
  induction n with
  | zero => intro thrown now hist kept x1 hF; exact nomatch hF
  | succ n ih =>
    intro thrown now hist kept x1 hF H locs ls hw hl
    rw [fX5_start_19] at hF
    refine lv_iload_n hx hb dX5_start_19 rfl (lv_at hl 1 rfl) ?_
    refine lv_bipush (v := (6 : Int32)) hx hb dX5_start_20 (by decide) ?_
    refine lv_icmp_ge (tgt := 62) hx hb dX5_start_22 (by decide) (fun hc => ?_) (fun hc => ?_)
    · have hF := zif_t hc hF
      refine lv_aload_n hx hb dX5_start_62 rfl (lv_at hl 0 rfl) ?_
      obtain ⟨u1, hq2, hF⟩ := zbd_t hF
      refine zgoIw (w' := (zM ad k thrown now saved hist kept reason detail isSaved comes queue far isInText ahead roomAt rooms text length at_ errorPosition toldFrom toldTo isWrong before)) hw hA (zVw (As := []) (rest := []) ⟨hx, hb, hml, hown, hts⟩ (mX5_allPieces l G k ad H.size thrown now saved hist kept reason detail isSaved comes queue far isInText ahead roomAt rooms text length at_ errorPosition toldFrom toldTo isWrong before  u1 hq2) (cwV 0 hts gX5_start_X5_allPieces rfl rfl rfl kdX5_allPieces ⟨Nat.le_of_ble_eq_true rfl, Nat.le_of_ble_eq_true rfl⟩) hK hA hw 0 rfl rfl rfl rfl hl.1 rfl (Nat.le_of_ble_eq_true rfl) dX5_start_63 ⟨Nat.le_of_ble_eq_true rfl, Nat.le_of_ble_eq_true rfl⟩) (fun H locs hw => ?_)
      obtain rfl := Option.some.inj hF
      exact hret _ _ _ _ rfl hw dX5_start_66
    · have hF := zif_f hc hF
      refine lv_aload_n hx hb dX5_start_25 rfl (lv_at hl 0 rfl) ?_
      refine va_get (D := G) (ci := 4) (v := .ref (ad 1)) (C := RX5) (T := TX5) (N := 23) hx hb hts inX5_start_X5 hown hK.1 hw.1 0 rfl rfl 1 (by decide) (hts (.fieldLink RX5 9 "SealedBoardModel" "now" "[I") (by decide +kernel)) (fun _ h9 => h9) rfl dX5_start_26 ?_
      refine lv_iload_n hx hb dX5_start_29 rfl (lv_at hl 1 rfl) ?_
      refine lv_iconst (v := (0 : Int32)) hx hb dX5_start_30 (by decide) ?_
      refine lv_iload_n hx hb dX5_start_31 rfl (lv_at hl 1 rfl) ?_
      obtain ⟨u3, hq4, hF⟩ := zbd_t hF
      refine zgoI (w' := (zM ad k thrown now saved hist kept reason detail isSaved comes queue far isInText ahead roomAt rooms text length at_ errorPosition toldFrom toldTo isWrong before)) hw hA [] rfl (zS (As := [.int x1]) (rest := [.int (0 : Int32), .int x1, .ref (ad 1)]) ⟨hx, hb, hml, hown, hts⟩ (mX5_kindAt l G k  H.size  x1 u3 hq4) (va_cwS 1 hts gX5_start_X5_kindAt rfl rfl rfl kdX5_kindAt ⟨Nat.le_of_ble_eq_true rfl, Nat.le_of_ble_eq_true rfl⟩) hK hA hw [] rfl (by decide) rfl hl.1 rfl (Nat.le_of_ble_eq_true rfl) dX5_start_32 ⟨Nat.le_of_ble_eq_true rfl, Nat.le_of_ble_eq_true rfl⟩) rfl rfl rfl (fun H locs hw => ?_)
      obtain ⟨u5, hq6, hF⟩ := zbd_t hF
      refine zgoI (w' := (zM ad k thrown now saved hist kept reason detail isSaved comes queue far isInText ahead roomAt rooms text length at_ errorPosition toldFrom toldTo isWrong before)) hw hA [] rfl (zS (As := [.int (0 : Int32), .int u3]) (rest := [.int x1, .ref (ad 1)]) ⟨hx, hb, hml, hown, hts⟩ (mX5_codeOf l G k  H.size  (0 : Int32) u3 u5 hq6) (va_cwS 2 hts gX5_start_X5_codeOf rfl rfl rfl kdX5_codeOf ⟨Nat.le_of_ble_eq_true rfl, Nat.le_of_ble_eq_true rfl⟩) hK hA hw [] rfl (by decide) rfl hl.1 rfl (Nat.le_of_ble_eq_true rfl) dX5_start_35 ⟨Nat.le_of_ble_eq_true rfl, Nat.le_of_ble_eq_true rfl⟩) rfl rfl rfl (fun H locs hw => ?_)
      obtain ⟨hi7, hF⟩ := zck_in hF
      refine va_iast hx hb hK.1 hw.1 hw.2.1 hw.2.2 1 2 rfl rfl hi7 dX5_start_38 (fun H locs hP hD hS => ?_)
      have hw : zWd G A s (zM ad k thrown (upd now x1.toNatClampNeg u5) saved hist kept reason detail isSaved comes queue far isInText ahead roomAt rooms text length at_ errorPosition toldFrom toldTo isWrong before) H locs := ⟨hP, hD, hS⟩
      refine lv_aload_n hx hb dX5_start_39 rfl (lv_at hl 0 rfl) ?_
      refine va_get (D := G) (ci := 4) (v := .ref (ad 1)) (C := RX5) (T := TX5) (N := 23) hx hb hts inX5_start_X5 hown hK.1 hw.1 0 rfl rfl 1 (by decide) (hts (.fieldLink RX5 9 "SealedBoardModel" "now" "[I") (by decide +kernel)) (fun _ h9 => h9) rfl dX5_start_40 ?_
      refine lv_bipush (v := (30 : Int32)) hx hb dX5_start_43 (by decide) ?_
      refine lv_iload_n hx hb dX5_start_45 rfl (lv_at hl 1 rfl) ?_
      refine lv_iadd hx hb dX5_start_46 ?_
      refine lv_iconst (v := (1 : Int32)) hx hb dX5_start_47 (by decide) ?_
      refine lv_iload_n hx hb dX5_start_48 rfl (lv_at hl 1 rfl) ?_
      obtain ⟨u8, hq9, hF⟩ := zbd_t hF
      refine zgoI (w' := (zM ad k thrown (upd now x1.toNatClampNeg u5) saved hist kept reason detail isSaved comes queue far isInText ahead roomAt rooms text length at_ errorPosition toldFrom toldTo isWrong before)) hw hA [] rfl (zS (As := [.int x1]) (rest := [.int (1 : Int32), .int ((30 : Int32) + x1), .ref (ad 1)]) ⟨hx, hb, hml, hown, hts⟩ (mX5_kindAt l G k  H.size  x1 u8 hq9) (va_cwS 1 hts gX5_start_X5_kindAt rfl rfl rfl kdX5_kindAt ⟨Nat.le_of_ble_eq_true rfl, Nat.le_of_ble_eq_true rfl⟩) hK hA hw [] rfl (by decide) rfl hl.1 rfl (Nat.le_of_ble_eq_true rfl) dX5_start_49 ⟨Nat.le_of_ble_eq_true rfl, Nat.le_of_ble_eq_true rfl⟩) rfl rfl rfl (fun H locs hw => ?_)
      obtain ⟨u10, hq11, hF⟩ := zbd_t hF
      refine zgoI (w' := (zM ad k thrown (upd now x1.toNatClampNeg u5) saved hist kept reason detail isSaved comes queue far isInText ahead roomAt rooms text length at_ errorPosition toldFrom toldTo isWrong before)) hw hA [] rfl (zS (As := [.int (1 : Int32), .int u8]) (rest := [.int ((30 : Int32) + x1), .ref (ad 1)]) ⟨hx, hb, hml, hown, hts⟩ (mX5_codeOf l G k  H.size  (1 : Int32) u8 u10 hq11) (va_cwS 2 hts gX5_start_X5_codeOf rfl rfl rfl kdX5_codeOf ⟨Nat.le_of_ble_eq_true rfl, Nat.le_of_ble_eq_true rfl⟩) hK hA hw [] rfl (by decide) rfl hl.1 rfl (Nat.le_of_ble_eq_true rfl) dX5_start_52 ⟨Nat.le_of_ble_eq_true rfl, Nat.le_of_ble_eq_true rfl⟩) rfl rfl rfl (fun H locs hw => ?_)
      obtain ⟨hi12, hF⟩ := zck_in hF
      refine va_iast hx hb hK.1 hw.1 hw.2.1 hw.2.2 1 2 rfl rfl hi12 dX5_start_55 (fun H locs hP hD hS => ?_)
      have hw : zWd G A s (zM ad k thrown (upd (upd now x1.toNatClampNeg u5) ((30 : Int32) + x1).toNatClampNeg u10) saved hist kept reason detail isSaved comes queue far isInText ahead roomAt rooms text length at_ errorPosition toldFrom toldTo isWrong before) H locs := ⟨hP, hD, hS⟩
      obtain ⟨a13, ea13⟩ : ∃ z : Int32, z = x1 + (1 : Int32) := ⟨_, rfl⟩
      have hF := zbn_t ea13 hF
      refine lv_iinc (v := a13) (lv' := [(1, .int a13), (0, .ref (ad 0))]) hx hb dX5_start_56 hl (k := 1) rfl (by rw [ea13]; rfl) (by decide) rfl (fun ls hl => ?_)
      refine lv_goto (tgt := 19) hx hb dX5_start_59 (by decide) ?_
      exact ih _ _ _ _ _ hF _ _ _ hw (lv_sub hl [1, 0] rfl)
set_option maxHeartbeats 400000 in
set_option maxRecDepth 100000 in
theorem mX5_start (l : Launch) (G : va_G) (k : Nat → ClassId) (ad : Nat → Nat) (sz : Nat) (thrown : Int32) (now : Nat → Int32) (saved : Nat → Int32) (hist : Nat → Nat → Int32) (kept : Int32) (reason : Int32) (detail : Int32) (isSaved : Int32) (comes : Nat → Int32) (queue : Nat → Int32) (far : Nat → Int32) (isInText : Int32) (ahead : Nat → Int32) (roomAt : Nat → Int32) (rooms : Int32) (text : Nat → Int32) (length : Int32) (at_ : Int32) (errorPosition : Int32) (toldFrom : Int32) (toldTo : Int32) (isWrong : Int32) (before : Nat → Int32)  (o : Int32 × Int32 × (Nat → Int32) × (Nat → Nat → Int32) × Int32) (hF : fX5_start thrown now hist kept = some o) : zMI l yX5_start wsX5_start rmX5_start G k (zM ad k thrown now saved hist kept reason detail isSaved comes queue far isInText ahead roomAt rooms text length at_ errorPosition toldFrom toldTo isWrong before) sz [.ref (ad 0)] o.1 (zM ad k o.2.1 o.2.2.1 saved o.2.2.2.1 o.2.2.2.2 reason detail isSaved comes queue far isInText ahead roomAt rooms text length at_ errorPosition toldFrom toldTo isWrong before) := by
  refine zof_I (cc := cX5_start) (nL := 2) (own := RX5) (rt := .int) (by decide) rfl rfl (Nat.le_of_ble_eq_true rfl) ?_
  intro p e s m args below meth c A Q C0 hK hA hret ls hl hw
  have hl : lv_has ls 2 [(0, .ref (ad 0))] := hl
  obtain ⟨hx, hb, hr, hml, hown, hts, hlocks⟩ := id C0
  obtain ⟨H, hH⟩ : ∃ z, z = s.heap := ⟨_, rfl⟩
  rw [← hH] at hw ⊢
  unfold fX5_start at hF
  refine lv_aload_n hx hb dX5_start_0 rfl (lv_at hl 0 rfl) ?_
  refine lv_iconst (v := (0 : Int32)) hx hb dX5_start_1 (by decide) ?_
  refine va_put (D := G) (ci := 4) (v := .int (0 : Int32)) (ty := .int) (C := RX5) (T := TX5) (N := 23) hx hb hts inX5_start_X5 tyX5 tyX5_ok nmX5 hown hK.1 hw.1 hw.2.1 hw.2.2 0 rfl rfl 0 (by decide) (hts (.fieldLink RX5 51 "SealedBoardModel" "thrown" "I") (by decide +kernel)) (fun _ h9 => h9) rfl (by decide +kernel) rfl rfl (Nat.le_of_ble_eq_true rfl) dX5_start_2 (fun H locs hP hD hS => ?_)
  have hw : zWd G A s (zM ad k (0 : Int32) now saved hist kept reason detail isSaved comes queue far isInText ahead roomAt rooms text length at_ errorPosition toldFrom toldTo isWrong before) H locs := ⟨hP, hD, hS⟩
  refine lv_aload_n hx hb dX5_start_5 rfl (lv_at hl 0 rfl) ?_
  refine lv_aload_n hx hb dX5_start_6 rfl (lv_at hl 0 rfl) ?_
  refine va_get (D := G) (ci := 4) (v := .ref (ad 1)) (C := RX5) (T := TX5) (N := 23) hx hb hts inX5_start_X5 hown hK.1 hw.1 0 rfl rfl 1 (by decide) (hts (.fieldLink RX5 9 "SealedBoardModel" "now" "[I") (by decide +kernel)) (fun _ h9 => h9) rfl dX5_start_7 ?_
  obtain ⟨u1, hq2, hF⟩ := zbd_t hF
  refine zgoVw (w' := (zM ad k (0 : Int32) now saved u1.1 u1.2 reason detail isSaved comes queue far isInText ahead roomAt rooms text length at_ errorPosition toldFrom toldTo isWrong before)) hw hA (zVw (As := [.ref (ad 1)]) (rest := []) ⟨hx, hb, hml, hown, hts⟩ (mX5_remember l G k ad H.size (0 : Int32) now saved hist kept reason detail isSaved comes queue far isInText ahead roomAt rooms text length at_ errorPosition toldFrom toldTo isWrong before  u1 hq2) (cwV 1 hts gX5_start_X5_remember rfl rfl rfl kdX5_remember ⟨Nat.le_of_ble_eq_true rfl, Nat.le_of_ble_eq_true rfl⟩) hK hA hw 0 rfl rfl rfl rfl hl.1 rfl (Nat.le_of_ble_eq_true rfl) dX5_start_10 ⟨Nat.le_of_ble_eq_true rfl, Nat.le_of_ble_eq_true rfl⟩) (fun H locs hw => ?_)
  refine lv_aload_n hx hb dX5_start_13 rfl (lv_at hl 0 rfl) ?_
  obtain ⟨u3, hq4, hF⟩ := zbd_t hF
  refine zgoVw (w' := (zM ad k (0 : Int32) u3 saved u1.1 u1.2 reason detail isSaved comes queue far isInText ahead roomAt rooms text length at_ errorPosition toldFrom toldTo isWrong before)) hw hA (zVw (As := []) (rest := []) ⟨hx, hb, hml, hown, hts⟩ (mX5_empty l G k ad H.size (0 : Int32) now saved u1.1 u1.2 reason detail isSaved comes queue far isInText ahead roomAt rooms text length at_ errorPosition toldFrom toldTo isWrong before  u3 hq4) (cwV 0 hts gX5_start_X5_empty rfl rfl rfl kdX5_empty ⟨Nat.le_of_ble_eq_true rfl, Nat.le_of_ble_eq_true rfl⟩) hK hA hw 0 rfl rfl rfl rfl hl.1 rfl (Nat.le_of_ble_eq_true rfl) dX5_start_14 ⟨Nat.le_of_ble_eq_true rfl, Nat.le_of_ble_eq_true rfl⟩) (fun H locs hw => ?_)
  refine lv_iconst (v := (0 : Int32)) hx hb dX5_start_17 (by decide) ?_
  refine lv_istore_n (lv' := [(1, .int (0 : Int32)), (0, .ref (ad 0))]) hx hb dX5_start_18 rfl hl (by decide) rfl (fun ls hl => ?_)
  exact wX5_start_19 C0 hK hA hret  zFu _ _ _ _ _ hF _ _ _ hw (lv_sub hl [1, 0] rfl)

/-! SealedBoardModel.clear()I -/
abbrev rmX5_clear : Room := { frames := 4, cells := 0, slots := 0, locals := 85 }
theorem kdX5_clear : yX5_clear.cls = RX5 ∧ yX5_clear.cls ≠ "java/lang/invoke/MethodHandle" ∧ yX5_clear.cls ≠ "java/lang/invoke/VarHandle" ∧ (parseMethodDescriptor yX5_clear.desc).map (fun d => d.parameters.length) = some 0 := by decide +kernel
theorem inX5_clear_X5 : ∀ w ∈ u_ws RX5 TX5 23, w ∈ wsX5_clear := by decide +kernel
def fX5_clear (thrown : Int32) (now : Nat → Int32) (hist : Nat → Nat → Int32) (kept : Int32) : Option (Int32 × Int32 × (Nat → Int32) × (Nat → Nat → Int32) × Int32) := (zbd (fX5_remember now hist kept) (fun u1 => (zbd (fX5_allPieces now) (fun u3 => (zbd (fX5_empty now) (fun u5 => (some (u3, (0 : Int32), u5, u1.1, u1.2))))))))
set_option maxHeartbeats 400000 in
set_option maxRecDepth 100000 in
theorem mX5_clear (l : Launch) (G : va_G) (k : Nat → ClassId) (ad : Nat → Nat) (sz : Nat) (thrown : Int32) (now : Nat → Int32) (saved : Nat → Int32) (hist : Nat → Nat → Int32) (kept : Int32) (reason : Int32) (detail : Int32) (isSaved : Int32) (comes : Nat → Int32) (queue : Nat → Int32) (far : Nat → Int32) (isInText : Int32) (ahead : Nat → Int32) (roomAt : Nat → Int32) (rooms : Int32) (text : Nat → Int32) (length : Int32) (at_ : Int32) (errorPosition : Int32) (toldFrom : Int32) (toldTo : Int32) (isWrong : Int32) (before : Nat → Int32)  (o : Int32 × Int32 × (Nat → Int32) × (Nat → Nat → Int32) × Int32) (hF : fX5_clear thrown now hist kept = some o) : zMI l yX5_clear wsX5_clear rmX5_clear G k (zM ad k thrown now saved hist kept reason detail isSaved comes queue far isInText ahead roomAt rooms text length at_ errorPosition toldFrom toldTo isWrong before) sz [.ref (ad 0)] o.1 (zM ad k o.2.1 o.2.2.1 saved o.2.2.2.1 o.2.2.2.2 reason detail isSaved comes queue far isInText ahead roomAt rooms text length at_ errorPosition toldFrom toldTo isWrong before) := by
  refine zof_I (cc := cX5_clear) (nL := 2) (own := RX5) (rt := .int) (by decide) rfl rfl (Nat.le_of_ble_eq_true rfl) ?_
  intro p e s m args below meth c A Q C0 hK hA hret ls hl hw
  have hl : lv_has ls 2 [(0, .ref (ad 0))] := hl
  obtain ⟨hx, hb, hr, hml, hown, hts, hlocks⟩ := id C0
  obtain ⟨H, hH⟩ : ∃ z, z = s.heap := ⟨_, rfl⟩
  rw [← hH] at hw ⊢
  unfold fX5_clear at hF
  refine lv_aload_n hx hb dX5_clear_0 rfl (lv_at hl 0 rfl) ?_
  refine lv_iconst (v := (0 : Int32)) hx hb dX5_clear_1 (by decide) ?_
  refine va_put (D := G) (ci := 4) (v := .int (0 : Int32)) (ty := .int) (C := RX5) (T := TX5) (N := 23) hx hb hts inX5_clear_X5 tyX5 tyX5_ok nmX5 hown hK.1 hw.1 hw.2.1 hw.2.2 0 rfl rfl 0 (by decide) (hts (.fieldLink RX5 51 "SealedBoardModel" "thrown" "I") (by decide +kernel)) (fun _ h9 => h9) rfl (by decide +kernel) rfl rfl (Nat.le_of_ble_eq_true rfl) dX5_clear_2 (fun H locs hP hD hS => ?_)
  have hw : zWd G A s (zM ad k (0 : Int32) now saved hist kept reason detail isSaved comes queue far isInText ahead roomAt rooms text length at_ errorPosition toldFrom toldTo isWrong before) H locs := ⟨hP, hD, hS⟩
  refine lv_aload_n hx hb dX5_clear_5 rfl (lv_at hl 0 rfl) ?_
  refine lv_aload_n hx hb dX5_clear_6 rfl (lv_at hl 0 rfl) ?_
  refine va_get (D := G) (ci := 4) (v := .ref (ad 1)) (C := RX5) (T := TX5) (N := 23) hx hb hts inX5_clear_X5 hown hK.1 hw.1 0 rfl rfl 1 (by decide) (hts (.fieldLink RX5 9 "SealedBoardModel" "now" "[I") (by decide +kernel)) (fun _ h9 => h9) rfl dX5_clear_7 ?_
  obtain ⟨u1, hq2, hF⟩ := zbd_t hF
  refine zgoVw (w' := (zM ad k (0 : Int32) now saved u1.1 u1.2 reason detail isSaved comes queue far isInText ahead roomAt rooms text length at_ errorPosition toldFrom toldTo isWrong before)) hw hA (zVw (As := [.ref (ad 1)]) (rest := []) ⟨hx, hb, hml, hown, hts⟩ (mX5_remember l G k ad H.size (0 : Int32) now saved hist kept reason detail isSaved comes queue far isInText ahead roomAt rooms text length at_ errorPosition toldFrom toldTo isWrong before  u1 hq2) (cwV 1 hts gX5_clear_X5_remember rfl rfl rfl kdX5_remember ⟨Nat.le_of_ble_eq_true rfl, Nat.le_of_ble_eq_true rfl⟩) hK hA hw 0 rfl rfl rfl rfl hl.1 rfl (Nat.le_of_ble_eq_true rfl) dX5_clear_10 ⟨Nat.le_of_ble_eq_true rfl, Nat.le_of_ble_eq_true rfl⟩) (fun H locs hw => ?_)
  refine lv_aload_n hx hb dX5_clear_13 rfl (lv_at hl 0 rfl) ?_
  obtain ⟨u3, hq4, hF⟩ := zbd_t hF
  refine zgoIw (w' := (zM ad k (0 : Int32) now saved u1.1 u1.2 reason detail isSaved comes queue far isInText ahead roomAt rooms text length at_ errorPosition toldFrom toldTo isWrong before)) hw hA (zVw (As := []) (rest := []) ⟨hx, hb, hml, hown, hts⟩ (mX5_allPieces l G k ad H.size (0 : Int32) now saved u1.1 u1.2 reason detail isSaved comes queue far isInText ahead roomAt rooms text length at_ errorPosition toldFrom toldTo isWrong before  u3 hq4) (cwV 0 hts gX5_clear_X5_allPieces rfl rfl rfl kdX5_allPieces ⟨Nat.le_of_ble_eq_true rfl, Nat.le_of_ble_eq_true rfl⟩) hK hA hw 0 rfl rfl rfl rfl hl.1 rfl (Nat.le_of_ble_eq_true rfl) dX5_clear_14 ⟨Nat.le_of_ble_eq_true rfl, Nat.le_of_ble_eq_true rfl⟩) (fun H locs hw => ?_)
  refine lv_istore_n (lv' := [(1, .int u3), (0, .ref (ad 0))]) hx hb dX5_clear_17 rfl hl (by decide) rfl (fun ls hl => ?_)
  refine lv_aload_n hx hb dX5_clear_18 rfl (lv_at hl 1 rfl) ?_
  obtain ⟨u5, hq6, hF⟩ := zbd_t hF
  refine zgoVw (w' := (zM ad k (0 : Int32) u5 saved u1.1 u1.2 reason detail isSaved comes queue far isInText ahead roomAt rooms text length at_ errorPosition toldFrom toldTo isWrong before)) hw hA (zVw (As := []) (rest := []) ⟨hx, hb, hml, hown, hts⟩ (mX5_empty l G k ad H.size (0 : Int32) now saved u1.1 u1.2 reason detail isSaved comes queue far isInText ahead roomAt rooms text length at_ errorPosition toldFrom toldTo isWrong before  u5 hq6) (cwV 0 hts gX5_clear_X5_empty rfl rfl rfl kdX5_empty ⟨Nat.le_of_ble_eq_true rfl, Nat.le_of_ble_eq_true rfl⟩) hK hA hw 0 rfl rfl rfl rfl hl.1 rfl (Nat.le_of_ble_eq_true rfl) dX5_clear_19 ⟨Nat.le_of_ble_eq_true rfl, Nat.le_of_ble_eq_true rfl⟩) (fun H locs hw => ?_)
  refine lv_iload_n hx hb dX5_clear_22 rfl (lv_at hl 0 rfl) ?_
  obtain rfl := Option.some.inj hF
  exact hret _ _ _ _ rfl hw dX5_clear_23

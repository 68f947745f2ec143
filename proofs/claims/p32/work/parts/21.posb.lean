/-! SealedBoard$Position.doorsOf(I)J -/
abbrev rmX2_doorsOf : Room := { frames := 0, cells := 0, slots := 0, locals := 0 }
theorem kdX2_doorsOf : yX2_doorsOf.cls = RX2 ∧ yX2_doorsOf.cls ≠ "java/lang/invoke/MethodHandle" ∧ yX2_doorsOf.cls ≠ "java/lang/invoke/VarHandle" ∧ (parseMethodDescriptor yX2_doorsOf.desc).map (fun d => d.parameters.length) = some 1 := by decide +kernel
theorem inX2_doorsOf_X2 : ∀ w ∈ u_ws RX2 TX2 1, w ∈ wsX2_doorsOf := by decide +kernel
def fX2_doorsOf (f : Nat → Int64) (p0 : Int32) : Option (Int64) := (if p0 = 0 then (zck (zin (2 : Int32) 15) (some ((f (2 : Int32).toNatClampNeg)))) else (zck (zin (3 : Int32) 15) (some ((f (3 : Int32).toNatClampNeg)))))
set_option maxHeartbeats 400000 in
set_option maxRecDepth 100000 in
theorem mX2_doorsOf (l : Launch) (G : va_G) (k : Nat → ClassId) (h : Nat) (r : Nat) (sz : Nat) (f : Nat → Int64) (p0 : Int32) (o : Int64) (hF : fX2_doorsOf f p0 = some o) : zML l yX2_doorsOf wsX2_doorsOf rmX2_doorsOf G k (zP h r k f) sz [.ref h, .int p0] o (zP h r k f) := by
  refine zof_L (cc := cX2_doorsOf) (nL := 2) (own := RX2) (by decide) rfl rfl (Nat.le_of_ble_eq_true rfl) ?_
  intro p e s m args below meth c A Q C0 hK hA hret ls hl hw
  have hl : lv_has ls 2 [(0, .ref h), (1, .int p0)] := hl
  obtain ⟨hx, hb, hr, hml, hown, hts, hlocks⟩ := id C0
  obtain ⟨H, hH⟩ : ∃ z, z = s.heap := ⟨_, rfl⟩
  rw [← hH] at hw ⊢
  unfold fX2_doorsOf at hF
  refine lv_iload_n hx hb dX2_doorsOf_0 rfl (lv_at hl 1 rfl) ?_
  refine lv_if_ne (tgt := 13) hx hb dX2_doorsOf_1 (by decide) (fun hc => ?_) (fun hc => ?_)
  · have hF := zif_f hc hF
    refine lv_aload_n hx hb dX2_doorsOf_13 rfl (lv_at hl 0 rfl) ?_
    refine va_get (D := G) (ci := 2) (v := .ref r) (C := RX2) (T := TX2) (N := 1) hx hb hts inX2_doorsOf_X2 hown hK.1 hw.1 0 rfl rfl 0 (by decide) (hts (.fieldLink RX2 11 "SealedBoard$Position" "row" "[J") (by decide +kernel)) (fun _ h9 => h9) rfl dX2_doorsOf_14 ?_
    refine lv_iconst (v := (3 : Int32)) hx hb dX2_doorsOf_17 (by decide) ?_
    obtain ⟨hi1, hF⟩ := zck_in hF
    refine va_lald hx hb hK.1 hw.1 1 0 rfl rfl hi1 dX2_doorsOf_18 ?_
    obtain rfl := Option.some.inj hF
    exact hret _ _ _ _  hw dX2_doorsOf_19
  · have hF := zif_t hc hF
    refine lv_aload_n hx hb dX2_doorsOf_4 rfl (lv_at hl 0 rfl) ?_
    refine va_get (D := G) (ci := 2) (v := .ref r) (C := RX2) (T := TX2) (N := 1) hx hb hts inX2_doorsOf_X2 hown hK.1 hw.1 0 rfl rfl 0 (by decide) (hts (.fieldLink RX2 11 "SealedBoard$Position" "row" "[J") (by decide +kernel)) (fun _ h9 => h9) rfl dX2_doorsOf_5 ?_
    refine lv_iconst (v := (2 : Int32)) hx hb dX2_doorsOf_8 (by decide) ?_
    obtain ⟨hi2, hF⟩ := zck_in hF
    refine va_lald hx hb hK.1 hw.1 1 0 rfl rfl hi2 dX2_doorsOf_9 ?_
    refine lv_goto (tgt := 19) hx hb dX2_doorsOf_10 (by decide) ?_
    obtain rfl := Option.some.inj hF
    exact hret _ _ _ _  hw dX2_doorsOf_19

/-! SealedBoard$Position.allDoors()J -/
abbrev rmX2_allDoors : Room := { frames := 0, cells := 0, slots := 0, locals := 0 }
theorem kdX2_allDoors : yX2_allDoors.cls = RX2 ∧ yX2_allDoors.cls ≠ "java/lang/invoke/MethodHandle" ∧ yX2_allDoors.cls ≠ "java/lang/invoke/VarHandle" ∧ (parseMethodDescriptor yX2_allDoors.desc).map (fun d => d.parameters.length) = some 0 := by decide +kernel
theorem inX2_allDoors_X2 : ∀ w ∈ u_ws RX2 TX2 1, w ∈ wsX2_allDoors := by decide +kernel
def fX2_allDoors (f : Nat → Int64) : Option (Int64) := (zck (zin (2 : Int32) 15) (zck (zin (3 : Int32) 15) (some (((f (2 : Int32).toNatClampNeg) ||| (f (3 : Int32).toNatClampNeg))))))
set_option maxHeartbeats 400000 in
set_option maxRecDepth 100000 in
theorem mX2_allDoors (l : Launch) (G : va_G) (k : Nat → ClassId) (h : Nat) (r : Nat) (sz : Nat) (f : Nat → Int64)  (o : Int64) (hF : fX2_allDoors f = some o) : zML l yX2_allDoors wsX2_allDoors rmX2_allDoors G k (zP h r k f) sz [.ref h] o (zP h r k f) := by
  refine zof_L (cc := cX2_allDoors) (nL := 1) (own := RX2) (by decide) rfl rfl (Nat.le_of_ble_eq_true rfl) ?_
  intro p e s m args below meth c A Q C0 hK hA hret ls hl hw
  have hl : lv_has ls 1 [(0, .ref h)] := hl
  obtain ⟨hx, hb, hr, hml, hown, hts, hlocks⟩ := id C0
  obtain ⟨H, hH⟩ : ∃ z, z = s.heap := ⟨_, rfl⟩
  rw [← hH] at hw ⊢
  unfold fX2_allDoors at hF
  refine lv_aload_n hx hb dX2_allDoors_0 rfl (lv_at hl 0 rfl) ?_
  refine va_get (D := G) (ci := 2) (v := .ref r) (C := RX2) (T := TX2) (N := 1) hx hb hts inX2_allDoors_X2 hown hK.1 hw.1 0 rfl rfl 0 (by decide) (hts (.fieldLink RX2 11 "SealedBoard$Position" "row" "[J") (by decide +kernel)) (fun _ h9 => h9) rfl dX2_allDoors_1 ?_
  refine lv_iconst (v := (2 : Int32)) hx hb dX2_allDoors_4 (by decide) ?_
  obtain ⟨hi1, hF⟩ := zck_in hF
  refine va_lald hx hb hK.1 hw.1 1 0 rfl rfl hi1 dX2_allDoors_5 ?_
  refine lv_aload_n hx hb dX2_allDoors_6 rfl (lv_at hl 0 rfl) ?_
  refine va_get (D := G) (ci := 2) (v := .ref r) (C := RX2) (T := TX2) (N := 1) hx hb hts inX2_allDoors_X2 hown hK.1 hw.1 0 rfl rfl 0 (by decide) (hts (.fieldLink RX2 11 "SealedBoard$Position" "row" "[J") (by decide +kernel)) (fun _ h9 => h9) rfl dX2_allDoors_7 ?_
  refine lv_iconst (v := (3 : Int32)) hx hb dX2_allDoors_10 (by decide) ?_
  obtain ⟨hi2, hF⟩ := zck_in hF
  refine va_lald hx hb hK.1 hw.1 1 0 rfl rfl hi2 dX2_allDoors_11 ?_
  refine lv_lor hx hb dX2_allDoors_12 ?_
  obtain rfl := Option.some.inj hF
  exact hret _ _ _ _  hw dX2_allDoors_13

/-! SealedBoard$Position.memoriesOf(I)J -/
abbrev rmX2_memoriesOf : Room := { frames := 0, cells := 0, slots := 0, locals := 0 }
theorem kdX2_memoriesOf : yX2_memoriesOf.cls = RX2 ∧ yX2_memoriesOf.cls ≠ "java/lang/invoke/MethodHandle" ∧ yX2_memoriesOf.cls ≠ "java/lang/invoke/VarHandle" ∧ (parseMethodDescriptor yX2_memoriesOf.desc).map (fun d => d.parameters.length) = some 1 := by decide +kernel
theorem inX2_memoriesOf_X2 : ∀ w ∈ u_ws RX2 TX2 1, w ∈ wsX2_memoriesOf := by decide +kernel
def fX2_memoriesOf (f : Nat → Int64) (p0 : Int32) : Option (Int64) := (if p0 = 0 then (zck (zin (4 : Int32) 15) (some ((f (4 : Int32).toNatClampNeg)))) else (zck (zin (5 : Int32) 15) (some ((f (5 : Int32).toNatClampNeg)))))
set_option maxHeartbeats 400000 in
set_option maxRecDepth 100000 in
theorem mX2_memoriesOf (l : Launch) (G : va_G) (k : Nat → ClassId) (h : Nat) (r : Nat) (sz : Nat) (f : Nat → Int64) (p0 : Int32) (o : Int64) (hF : fX2_memoriesOf f p0 = some o) : zML l yX2_memoriesOf wsX2_memoriesOf rmX2_memoriesOf G k (zP h r k f) sz [.ref h, .int p0] o (zP h r k f) := by
  refine zof_L (cc := cX2_memoriesOf) (nL := 2) (own := RX2) (by decide) rfl rfl (Nat.le_of_ble_eq_true rfl) ?_
  intro p e s m args below meth c A Q C0 hK hA hret ls hl hw
  have hl : lv_has ls 2 [(0, .ref h), (1, .int p0)] := hl
  obtain ⟨hx, hb, hr, hml, hown, hts, hlocks⟩ := id C0
  obtain ⟨H, hH⟩ : ∃ z, z = s.heap := ⟨_, rfl⟩
  rw [← hH] at hw ⊢
  unfold fX2_memoriesOf at hF
  refine lv_iload_n hx hb dX2_memoriesOf_0 rfl (lv_at hl 1 rfl) ?_
  refine lv_if_ne (tgt := 13) hx hb dX2_memoriesOf_1 (by decide) (fun hc => ?_) (fun hc => ?_)
  · have hF := zif_f hc hF
    refine lv_aload_n hx hb dX2_memoriesOf_13 rfl (lv_at hl 0 rfl) ?_
    refine va_get (D := G) (ci := 2) (v := .ref r) (C := RX2) (T := TX2) (N := 1) hx hb hts inX2_memoriesOf_X2 hown hK.1 hw.1 0 rfl rfl 0 (by decide) (hts (.fieldLink RX2 11 "SealedBoard$Position" "row" "[J") (by decide +kernel)) (fun _ h9 => h9) rfl dX2_memoriesOf_14 ?_
    refine lv_iconst (v := (5 : Int32)) hx hb dX2_memoriesOf_17 (by decide) ?_
    obtain ⟨hi1, hF⟩ := zck_in hF
    refine va_lald hx hb hK.1 hw.1 1 0 rfl rfl hi1 dX2_memoriesOf_18 ?_
    obtain rfl := Option.some.inj hF
    exact hret _ _ _ _  hw dX2_memoriesOf_19
  · have hF := zif_t hc hF
    refine lv_aload_n hx hb dX2_memoriesOf_4 rfl (lv_at hl 0 rfl) ?_
    refine va_get (D := G) (ci := 2) (v := .ref r) (C := RX2) (T := TX2) (N := 1) hx hb hts inX2_memoriesOf_X2 hown hK.1 hw.1 0 rfl rfl 0 (by decide) (hts (.fieldLink RX2 11 "SealedBoard$Position" "row" "[J") (by decide +kernel)) (fun _ h9 => h9) rfl dX2_memoriesOf_5 ?_
    refine lv_iconst (v := (4 : Int32)) hx hb dX2_memoriesOf_8 (by decide) ?_
    obtain ⟨hi2, hF⟩ := zck_in hF
    refine va_lald hx hb hK.1 hw.1 1 0 rfl rfl hi2 dX2_memoriesOf_9 ?_
    refine lv_goto (tgt := 19) hx hb dX2_memoriesOf_10 (by decide) ?_
    obtain rfl := Option.some.inj hF
    exact hret _ _ _ _  hw dX2_memoriesOf_19

/-! SealedBoard$Position.walls()J -/
abbrev rmX2_walls : Room := { frames := 0, cells := 0, slots := 0, locals := 0 }
theorem kdX2_walls : yX2_walls.cls = RX2 ∧ yX2_walls.cls ≠ "java/lang/invoke/MethodHandle" ∧ yX2_walls.cls ≠ "java/lang/invoke/VarHandle" ∧ (parseMethodDescriptor yX2_walls.desc).map (fun d => d.parameters.length) = some 0 := by decide +kernel
theorem inX2_walls_X2 : ∀ w ∈ u_ws RX2 TX2 1, w ∈ wsX2_walls := by decide +kernel
def fX2_walls (f : Nat → Int64) : Option (Int64) := (zck (zin (10 : Int32) 15) (some ((f (10 : Int32).toNatClampNeg))))
set_option maxHeartbeats 400000 in
set_option maxRecDepth 100000 in
theorem mX2_walls (l : Launch) (G : va_G) (k : Nat → ClassId) (h : Nat) (r : Nat) (sz : Nat) (f : Nat → Int64)  (o : Int64) (hF : fX2_walls f = some o) : zML l yX2_walls wsX2_walls rmX2_walls G k (zP h r k f) sz [.ref h] o (zP h r k f) := by
  refine zof_L (cc := cX2_walls) (nL := 1) (own := RX2) (by decide) rfl rfl (Nat.le_of_ble_eq_true rfl) ?_
  intro p e s m args below meth c A Q C0 hK hA hret ls hl hw
  have hl : lv_has ls 1 [(0, .ref h)] := hl
  obtain ⟨hx, hb, hr, hml, hown, hts, hlocks⟩ := id C0
  obtain ⟨H, hH⟩ : ∃ z, z = s.heap := ⟨_, rfl⟩
  rw [← hH] at hw ⊢
  unfold fX2_walls at hF
  refine lv_aload_n hx hb dX2_walls_0 rfl (lv_at hl 0 rfl) ?_
  refine va_get (D := G) (ci := 2) (v := .ref r) (C := RX2) (T := TX2) (N := 1) hx hb hts inX2_walls_X2 hown hK.1 hw.1 0 rfl rfl 0 (by decide) (hts (.fieldLink RX2 11 "SealedBoard$Position" "row" "[J") (by decide +kernel)) (fun _ h9 => h9) rfl dX2_walls_1 ?_
  refine lv_bipush (v := (10 : Int32)) hx hb dX2_walls_4 (by decide) ?_
  obtain ⟨hi1, hF⟩ := zck_in hF
  refine va_lald hx hb hK.1 hw.1 1 0 rfl rfl hi1 dX2_walls_6 ?_
  obtain rfl := Option.some.inj hF
  exact hret _ _ _ _  hw dX2_walls_7

/-! SealedBoard$Position.openTo(I)J -/
abbrev rmX2_openTo : Room := { frames := 0, cells := 0, slots := 0, locals := 0 }
theorem kdX2_openTo : yX2_openTo.cls = RX2 ∧ yX2_openTo.cls ≠ "java/lang/invoke/MethodHandle" ∧ yX2_openTo.cls ≠ "java/lang/invoke/VarHandle" ∧ (parseMethodDescriptor yX2_openTo.desc).map (fun d => d.parameters.length) = some 1 := by decide +kernel
theorem inX2_openTo_X2 : ∀ w ∈ u_ws RX2 TX2 1, w ∈ wsX2_openTo := by decide +kernel
def fX2_openTo_19  (f : Nat → Int64) (s0 : Int64) : Option (Int64) := (zck (zin (10 : Int32) 15) (some ((((68719476735 : Int64) &&& ((f (10 : Int32).toNatClampNeg) ^^^ (-1 : Int64))) &&& (s0 ^^^ (-1 : Int64))))))
def fX2_openTo (f : Nat → Int64) (p0 : Int32) : Option (Int64) := (if p0 = 0 then (zck (zin (3 : Int32) 15) (fX2_openTo_19  f  (f (3 : Int32).toNatClampNeg))) else (zck (zin (2 : Int32) 15) (fX2_openTo_19  f  (f (2 : Int32).toNatClampNeg))))
set_option maxHeartbeats 400000 in
set_option maxRecDepth 100000 in
theorem wX2_openTo_19 {p : Program} {l : Launch} {e : Env} {s : State} {m : MethodId} {args : Array Value} {below : List Frame} {meth : Method} {c : Code} {A : Nat → Prop} {Q : State → Prop} {G : va_G} {k : Nat → ClassId} {h : Nat} {r : Nat} {f : Nat → Int64} {o : Int64} (C0 : zCx p s m args meth c wsX2_openTo cX2_openTo RX2 (some .long) 4) (hK : zKK G k A s s.heap) (hA : ∀ q : Nat, s.heap.size ≤ q → A q) (hret : zRL p l e rmX2_openTo s m args below meth c cX2_openTo G A 0 0 Q (zP h r k f) o)  : ∀ (s0 : Int64), fX2_openTo_19  f s0 = some o → ∀ (H : Heap) (locs : List Loc) (ls : Array Slot), zWd G A s (zP h r k f) H locs → lv_has ls 4 [(0, .ref h)] → W p l e rmX2_openTo s m args below meth c H locs 0 0 Q (F0 m 19 ls [.long s0]) := by
  obtain ⟨hx, hb, hr, hml, hown, hts, hlocks⟩ := id C0
  intro s0 hF H locs ls hw hl
  unfold fX2_openTo_19 at hF
  refine lv_lstore_n (lv' := [(2, .long s0), (0, .ref h)]) hx hb dX2_openTo_19 rfl hl (by decide) rfl (fun ls hl => ?_)
  refine lv_ldc2 (v := (68719476735 : Int64)) hx hb hown (hts (.constantLong RX2 36 (68719476735)) (by decide +kernel)) dX2_openTo_20 ?_
  refine lv_aload_n hx hb dX2_openTo_23 rfl (lv_at hl 1 rfl) ?_
  refine va_get (D := G) (ci := 2) (v := .ref r) (C := RX2) (T := TX2) (N := 1) hx hb hts inX2_openTo_X2 hown hK.1 hw.1 0 rfl rfl 0 (by decide) (hts (.fieldLink RX2 11 "SealedBoard$Position" "row" "[J") (by decide +kernel)) (fun _ h9 => h9) rfl dX2_openTo_24 ?_
  refine lv_bipush (v := (10 : Int32)) hx hb dX2_openTo_27 (by decide) ?_
  obtain ⟨hi1, hF⟩ := zck_in hF
  refine va_lald hx hb hK.1 hw.1 1 0 rfl rfl hi1 dX2_openTo_29 ?_
  refine lv_ldc2 (v := (-1 : Int64)) hx hb hown (hts (.constantLong RX2 18 (-1)) (by decide +kernel)) dX2_openTo_30 ?_
  refine lv_lxor hx hb dX2_openTo_33 ?_
  refine lv_land hx hb dX2_openTo_34 ?_
  refine lv_lload_n hx hb dX2_openTo_35 rfl (lv_at hl 0 rfl) ?_
  refine lv_ldc2 (v := (-1 : Int64)) hx hb hown (hts (.constantLong RX2 18 (-1)) (by decide +kernel)) dX2_openTo_36 ?_
  refine lv_lxor hx hb dX2_openTo_39 ?_
  refine lv_land hx hb dX2_openTo_40 ?_
  obtain rfl := Option.some.inj hF
  exact hret _ _ _ _  hw dX2_openTo_41
set_option maxHeartbeats 400000 in
set_option maxRecDepth 100000 in
theorem mX2_openTo (l : Launch) (G : va_G) (k : Nat → ClassId) (h : Nat) (r : Nat) (sz : Nat) (f : Nat → Int64) (p0 : Int32) (o : Int64) (hF : fX2_openTo f p0 = some o) : zML l yX2_openTo wsX2_openTo rmX2_openTo G k (zP h r k f) sz [.ref h, .int p0] o (zP h r k f) := by
  refine zof_L (cc := cX2_openTo) (nL := 4) (own := RX2) (by decide) rfl rfl (Nat.le_of_ble_eq_true rfl) ?_
  intro p e s m args below meth c A Q C0 hK hA hret ls hl hw
  have hl : lv_has ls 4 [(0, .ref h), (1, .int p0)] := hl
  obtain ⟨hx, hb, hr, hml, hown, hts, hlocks⟩ := id C0
  obtain ⟨H, hH⟩ : ∃ z, z = s.heap := ⟨_, rfl⟩
  rw [← hH] at hw ⊢
  unfold fX2_openTo at hF
  refine lv_iload_n hx hb dX2_openTo_0 rfl (lv_at hl 1 rfl) ?_
  refine lv_if_ne (tgt := 13) hx hb dX2_openTo_1 (by decide) (fun hc => ?_) (fun hc => ?_)
  · have hF := zif_f hc hF
    refine lv_aload_n hx hb dX2_openTo_13 rfl (lv_at hl 0 rfl) ?_
    refine va_get (D := G) (ci := 2) (v := .ref r) (C := RX2) (T := TX2) (N := 1) hx hb hts inX2_openTo_X2 hown hK.1 hw.1 0 rfl rfl 0 (by decide) (hts (.fieldLink RX2 11 "SealedBoard$Position" "row" "[J") (by decide +kernel)) (fun _ h9 => h9) rfl dX2_openTo_14 ?_
    refine lv_iconst (v := (2 : Int32)) hx hb dX2_openTo_17 (by decide) ?_
    obtain ⟨hi1, hF⟩ := zck_in hF
    refine va_lald hx hb hK.1 hw.1 1 0 rfl rfl hi1 dX2_openTo_18 ?_
    exact wX2_openTo_19 C0 hK hA hret   _ hF _ _ _ hw (lv_sub hl [0] rfl)
  · have hF := zif_t hc hF
    refine lv_aload_n hx hb dX2_openTo_4 rfl (lv_at hl 0 rfl) ?_
    refine va_get (D := G) (ci := 2) (v := .ref r) (C := RX2) (T := TX2) (N := 1) hx hb hts inX2_openTo_X2 hown hK.1 hw.1 0 rfl rfl 0 (by decide) (hts (.fieldLink RX2 11 "SealedBoard$Position" "row" "[J") (by decide +kernel)) (fun _ h9 => h9) rfl dX2_openTo_5 ?_
    refine lv_iconst (v := (3 : Int32)) hx hb dX2_openTo_8 (by decide) ?_
    obtain ⟨hi2, hF⟩ := zck_in hF
    refine va_lald hx hb hK.1 hw.1 1 0 rfl rfl hi2 dX2_openTo_9 ?_
    refine lv_goto (tgt := 19) hx hb dX2_openTo_10 (by decide) ?_
    exact wX2_openTo_19 C0 hK hA hret   _ hF _ _ _ hw (lv_sub hl [0] rfl)

/-! SealedBoard$Position.coinsOf(I)I -/
abbrev rmX2_coinsOf : Room := { frames := 0, cells := 0, slots := 0, locals := 0 }
theorem kdX2_coinsOf : yX2_coinsOf.cls = RX2 ∧ yX2_coinsOf.cls ≠ "java/lang/invoke/MethodHandle" ∧ yX2_coinsOf.cls ≠ "java/lang/invoke/VarHandle" ∧ (parseMethodDescriptor yX2_coinsOf.desc).map (fun d => d.parameters.length) = some 1 := by decide +kernel
theorem inX2_coinsOf_X2 : ∀ w ∈ u_ws RX2 TX2 1, w ∈ wsX2_coinsOf := by decide +kernel
def fX2_coinsOf_21  (f : Nat → Int64) (s0 : Int64) : Option (Int32) := (some (s0.toInt32))
def fX2_coinsOf (f : Nat → Int64) (p0 : Int32) : Option (Int32) := (if p0 = 0 then (zck (zin (11 : Int32) 15) (fX2_coinsOf_21  f  (f (11 : Int32).toNatClampNeg))) else (zck (zin (12 : Int32) 15) (fX2_coinsOf_21  f  (f (12 : Int32).toNatClampNeg))))
set_option maxHeartbeats 400000 in
set_option maxRecDepth 100000 in
theorem wX2_coinsOf_21 {p : Program} {l : Launch} {e : Env} {s : State} {m : MethodId} {args : Array Value} {below : List Frame} {meth : Method} {c : Code} {A : Nat → Prop} {Q : State → Prop} {G : va_G} {k : Nat → ClassId} {h : Nat} {r : Nat} {f : Nat → Int64} {o : Int32} (C0 : zCx p s m args meth c wsX2_coinsOf cX2_coinsOf RX2 (some .int) 2) (hK : zKK G k A s s.heap) (hA : ∀ q : Nat, s.heap.size ≤ q → A q) (hret : zRI p l e rmX2_coinsOf s m args below meth c cX2_coinsOf G A 0 0 Q .int (zP h r k f) o)  : ∀ (s0 : Int64), fX2_coinsOf_21  f s0 = some o → ∀ (H : Heap) (locs : List Loc) (ls : Array Slot), zWd G A s (zP h r k f) H locs → lv_has ls 2 [] → W p l e rmX2_coinsOf s m args below meth c H locs 0 0 Q (F0 m 21 ls [.long s0]) := by
  obtain ⟨hx, hb, hr, hml, hown, hts, hlocks⟩ := id C0
  intro s0 hF H locs ls hw hl
  unfold fX2_coinsOf_21 at hF
  refine lv_l2i hx hb dX2_coinsOf_21 rfl ?_
  obtain rfl := Option.some.inj hF
  exact hret _ _ _ _ rfl hw dX2_coinsOf_22
set_option maxHeartbeats 400000 in
set_option maxRecDepth 100000 in
theorem mX2_coinsOf (l : Launch) (G : va_G) (k : Nat → ClassId) (h : Nat) (r : Nat) (sz : Nat) (f : Nat → Int64) (p0 : Int32) (o : Int32) (hF : fX2_coinsOf f p0 = some o) : zMI l yX2_coinsOf wsX2_coinsOf rmX2_coinsOf G k (zP h r k f) sz [.ref h, .int p0] o (zP h r k f) := by
  refine zof_I (cc := cX2_coinsOf) (nL := 2) (own := RX2) (rt := .int) (by decide) rfl rfl (Nat.le_of_ble_eq_true rfl) ?_
  intro p e s m args below meth c A Q C0 hK hA hret ls hl hw
  have hl : lv_has ls 2 [(0, .ref h), (1, .int p0)] := hl
  obtain ⟨hx, hb, hr, hml, hown, hts, hlocks⟩ := id C0
  obtain ⟨H, hH⟩ : ∃ z, z = s.heap := ⟨_, rfl⟩
  rw [← hH] at hw ⊢
  unfold fX2_coinsOf at hF
  refine lv_iload_n hx hb dX2_coinsOf_0 rfl (lv_at hl 1 rfl) ?_
  refine lv_if_ne (tgt := 14) hx hb dX2_coinsOf_1 (by decide) (fun hc => ?_) (fun hc => ?_)
  · have hF := zif_f hc hF
    refine lv_aload_n hx hb dX2_coinsOf_14 rfl (lv_at hl 0 rfl) ?_
    refine va_get (D := G) (ci := 2) (v := .ref r) (C := RX2) (T := TX2) (N := 1) hx hb hts inX2_coinsOf_X2 hown hK.1 hw.1 0 rfl rfl 0 (by decide) (hts (.fieldLink RX2 11 "SealedBoard$Position" "row" "[J") (by decide +kernel)) (fun _ h9 => h9) rfl dX2_coinsOf_15 ?_
    refine lv_bipush (v := (12 : Int32)) hx hb dX2_coinsOf_18 (by decide) ?_
    obtain ⟨hi1, hF⟩ := zck_in hF
    refine va_lald hx hb hK.1 hw.1 1 0 rfl rfl hi1 dX2_coinsOf_20 ?_
    exact wX2_coinsOf_21 C0 hK hA hret   _ hF _ _ _ hw (lv_sub hl [] rfl)
  · have hF := zif_t hc hF
    refine lv_aload_n hx hb dX2_coinsOf_4 rfl (lv_at hl 0 rfl) ?_
    refine va_get (D := G) (ci := 2) (v := .ref r) (C := RX2) (T := TX2) (N := 1) hx hb hts inX2_coinsOf_X2 hown hK.1 hw.1 0 rfl rfl 0 (by decide) (hts (.fieldLink RX2 11 "SealedBoard$Position" "row" "[J") (by decide +kernel)) (fun _ h9 => h9) rfl dX2_coinsOf_5 ?_
    refine lv_bipush (v := (11 : Int32)) hx hb dX2_coinsOf_8 (by decide) ?_
    obtain ⟨hi2, hF⟩ := zck_in hF
    refine va_lald hx hb hK.1 hw.1 1 0 rfl rfl hi2 dX2_coinsOf_10 ?_
    refine lv_goto (tgt := 21) hx hb dX2_coinsOf_11 (by decide) ?_
    exact wX2_coinsOf_21 C0 hK hA hret   _ hF _ _ _ hw (lv_sub hl [] rfl)

/-! SealedBoard$Position.turns()I -/
abbrev rmX2_turns : Room := { frames := 0, cells := 0, slots := 0, locals := 0 }
theorem kdX2_turns : yX2_turns.cls = RX2 ∧ yX2_turns.cls ≠ "java/lang/invoke/MethodHandle" ∧ yX2_turns.cls ≠ "java/lang/invoke/VarHandle" ∧ (parseMethodDescriptor yX2_turns.desc).map (fun d => d.parameters.length) = some 0 := by decide +kernel
theorem inX2_turns_X2 : ∀ w ∈ u_ws RX2 TX2 1, w ∈ wsX2_turns := by decide +kernel
def fX2_turns (f : Nat → Int64) : Option (Int32) := (zck (zin (13 : Int32) 15) (some (((f (13 : Int32).toNatClampNeg).toInt32))))
set_option maxHeartbeats 400000 in
set_option maxRecDepth 100000 in
theorem mX2_turns (l : Launch) (G : va_G) (k : Nat → ClassId) (h : Nat) (r : Nat) (sz : Nat) (f : Nat → Int64)  (o : Int32) (hF : fX2_turns f = some o) : zMI l yX2_turns wsX2_turns rmX2_turns G k (zP h r k f) sz [.ref h] o (zP h r k f) := by
  refine zof_I (cc := cX2_turns) (nL := 1) (own := RX2) (rt := .int) (by decide) rfl rfl (Nat.le_of_ble_eq_true rfl) ?_
  intro p e s m args below meth c A Q C0 hK hA hret ls hl hw
  have hl : lv_has ls 1 [(0, .ref h)] := hl
  obtain ⟨hx, hb, hr, hml, hown, hts, hlocks⟩ := id C0
  obtain ⟨H, hH⟩ : ∃ z, z = s.heap := ⟨_, rfl⟩
  rw [← hH] at hw ⊢
  unfold fX2_turns at hF
  refine lv_aload_n hx hb dX2_turns_0 rfl (lv_at hl 0 rfl) ?_
  refine va_get (D := G) (ci := 2) (v := .ref r) (C := RX2) (T := TX2) (N := 1) hx hb hts inX2_turns_X2 hown hK.1 hw.1 0 rfl rfl 0 (by decide) (hts (.fieldLink RX2 11 "SealedBoard$Position" "row" "[J") (by decide +kernel)) (fun _ h9 => h9) rfl dX2_turns_1 ?_
  refine lv_bipush (v := (13 : Int32)) hx hb dX2_turns_4 (by decide) ?_
  obtain ⟨hi1, hF⟩ := zck_in hF
  refine va_lald hx hb hK.1 hw.1 1 0 rfl rfl hi1 dX2_turns_6 ?_
  refine lv_l2i hx hb dX2_turns_7 rfl ?_
  obtain rfl := Option.some.inj hF
  exact hret _ _ _ _ rfl hw dX2_turns_8

/-! SealedBoard$Position.ending()I -/
abbrev rmX2_ending : Room := { frames := 0, cells := 0, slots := 0, locals := 0 }
theorem kdX2_ending : yX2_ending.cls = RX2 ∧ yX2_ending.cls ≠ "java/lang/invoke/MethodHandle" ∧ yX2_ending.cls ≠ "java/lang/invoke/VarHandle" ∧ (parseMethodDescriptor yX2_ending.desc).map (fun d => d.parameters.length) = some 0 := by decide +kernel
theorem inX2_ending_X2 : ∀ w ∈ u_ws RX2 TX2 1, w ∈ wsX2_ending := by decide +kernel
def fX2_ending (f : Nat → Int64) : Option (Int32) := (zck (zin (14 : Int32) 15) (some (((f (14 : Int32).toNatClampNeg).toInt32))))
set_option maxHeartbeats 400000 in
set_option maxRecDepth 100000 in
theorem mX2_ending (l : Launch) (G : va_G) (k : Nat → ClassId) (h : Nat) (r : Nat) (sz : Nat) (f : Nat → Int64)  (o : Int32) (hF : fX2_ending f = some o) : zMI l yX2_ending wsX2_ending rmX2_ending G k (zP h r k f) sz [.ref h] o (zP h r k f) := by
  refine zof_I (cc := cX2_ending) (nL := 1) (own := RX2) (rt := .int) (by decide) rfl rfl (Nat.le_of_ble_eq_true rfl) ?_
  intro p e s m args below meth c A Q C0 hK hA hret ls hl hw
  have hl : lv_has ls 1 [(0, .ref h)] := hl
  obtain ⟨hx, hb, hr, hml, hown, hts, hlocks⟩ := id C0
  obtain ⟨H, hH⟩ : ∃ z, z = s.heap := ⟨_, rfl⟩
  rw [← hH] at hw ⊢
  unfold fX2_ending at hF
  refine lv_aload_n hx hb dX2_ending_0 rfl (lv_at hl 0 rfl) ?_
  refine va_get (D := G) (ci := 2) (v := .ref r) (C := RX2) (T := TX2) (N := 1) hx hb hts inX2_ending_X2 hown hK.1 hw.1 0 rfl rfl 0 (by decide) (hts (.fieldLink RX2 11 "SealedBoard$Position" "row" "[J") (by decide +kernel)) (fun _ h9 => h9) rfl dX2_ending_1 ?_
  refine lv_bipush (v := (14 : Int32)) hx hb dX2_ending_4 (by decide) ?_
  obtain ⟨hi1, hF⟩ := zck_in hF
  refine va_lald hx hb hK.1 hw.1 1 0 rfl rfl hi1 dX2_ending_6 ?_
  refine lv_l2i hx hb dX2_ending_7 rfl ?_
  obtain rfl := Option.some.inj hF
  exact hret _ _ _ _ rfl hw dX2_ending_8

/-! SealedBoard$Position.isOver()Z -/
abbrev rmX2_isOver : Room := { frames := 0, cells := 0, slots := 0, locals := 0 }
theorem kdX2_isOver : yX2_isOver.cls = RX2 ∧ yX2_isOver.cls ≠ "java/lang/invoke/MethodHandle" ∧ yX2_isOver.cls ≠ "java/lang/invoke/VarHandle" ∧ (parseMethodDescriptor yX2_isOver.desc).map (fun d => d.parameters.length) = some 0 := by decide +kernel
theorem inX2_isOver_X2 : ∀ w ∈ u_ws RX2 TX2 1, w ∈ wsX2_isOver := by decide +kernel
def fX2_isOver (f : Nat → Int64) : Option (Int32) := (zck (zin (14 : Int32) 15) (if (lg_cmp (f (14 : Int32).toNatClampNeg) (0 : Int64)) = 0 then (some ((0 : Int32))) else (some ((1 : Int32)))))
set_option maxHeartbeats 400000 in
set_option maxRecDepth 100000 in
theorem mX2_isOver (l : Launch) (G : va_G) (k : Nat → ClassId) (h : Nat) (r : Nat) (sz : Nat) (f : Nat → Int64)  (o : Int32) (hF : fX2_isOver f = some o) : zMI l yX2_isOver wsX2_isOver rmX2_isOver G k (zP h r k f) sz [.ref h] o (zP h r k f) := by
  refine zof_I (cc := cX2_isOver) (nL := 1) (own := RX2) (rt := .boolean) (by decide) rfl rfl (Nat.le_of_ble_eq_true rfl) ?_
  intro p e s m args below meth c A Q C0 hK hA hret ls hl hw
  have hl : lv_has ls 1 [(0, .ref h)] := hl
  obtain ⟨hx, hb, hr, hml, hown, hts, hlocks⟩ := id C0
  obtain ⟨H, hH⟩ : ∃ z, z = s.heap := ⟨_, rfl⟩
  rw [← hH] at hw ⊢
  unfold fX2_isOver at hF
  refine lv_aload_n hx hb dX2_isOver_0 rfl (lv_at hl 0 rfl) ?_
  refine va_get (D := G) (ci := 2) (v := .ref r) (C := RX2) (T := TX2) (N := 1) hx hb hts inX2_isOver_X2 hown hK.1 hw.1 0 rfl rfl 0 (by decide) (hts (.fieldLink RX2 11 "SealedBoard$Position" "row" "[J") (by decide +kernel)) (fun _ h9 => h9) rfl dX2_isOver_1 ?_
  refine lv_bipush (v := (14 : Int32)) hx hb dX2_isOver_4 (by decide) ?_
  obtain ⟨hi1, hF⟩ := zck_in hF
  refine va_lald hx hb hK.1 hw.1 1 0 rfl rfl hi1 dX2_isOver_6 ?_
  refine lv_lconst (v := (0 : Int64)) hx hb dX2_isOver_7 (by decide) ?_
  refine W.lcmp hx hb dX2_isOver_8 ?_
  refine lv_if_eq (tgt := 16) hx hb dX2_isOver_9 (by decide) (fun hc => ?_) (fun hc => ?_)
  · have hF := zif_t hc hF
    refine lv_iconst (v := (0 : Int32)) hx hb dX2_isOver_16 (by decide) ?_
    obtain rfl := Option.some.inj hF
    exact hret _ _ _ _ (zbo_n (x := (0 : Int32)) (by decide)) hw dX2_isOver_17
  · have hF := zif_f hc hF
    refine lv_iconst (v := (1 : Int32)) hx hb dX2_isOver_12 (by decide) ?_
    refine lv_goto (tgt := 17) hx hb dX2_isOver_13 (by decide) ?_
    obtain rfl := Option.some.inj hF
    exact hret _ _ _ _ (zbo_n (x := (1 : Int32)) (by decide)) hw dX2_isOver_17

/-! SealedBoard$Position.mover()I -/
abbrev rmX2_mover : Room := { frames := 1, cells := 0, slots := 0, locals := 20 }
theorem kdX2_mover : yX2_mover.cls = RX2 ∧ yX2_mover.cls ≠ "java/lang/invoke/MethodHandle" ∧ yX2_mover.cls ≠ "java/lang/invoke/VarHandle" ∧ (parseMethodDescriptor yX2_mover.desc).map (fun d => d.parameters.length) = some 0 := by decide +kernel
def fX2_mover (f : Nat → Int64) : Option (Int32) := (zbd (fX2_turns f) (fun u1 => (some ((u1 &&& (1 : Int32))))))
set_option maxHeartbeats 400000 in
set_option maxRecDepth 100000 in
theorem mX2_mover (l : Launch) (G : va_G) (k : Nat → ClassId) (h : Nat) (r : Nat) (sz : Nat) (f : Nat → Int64)  (o : Int32) (hF : fX2_mover f = some o) : zMI l yX2_mover wsX2_mover rmX2_mover G k (zP h r k f) sz [.ref h] o (zP h r k f) := by
  refine zof_I (cc := cX2_mover) (nL := 1) (own := RX2) (rt := .int) (by decide) rfl rfl (Nat.le_of_ble_eq_true rfl) ?_
  intro p e s m args below meth c A Q C0 hK hA hret ls hl hw
  have hl : lv_has ls 1 [(0, .ref h)] := hl
  obtain ⟨hx, hb, hr, hml, hown, hts, hlocks⟩ := id C0
  obtain ⟨H, hH⟩ : ∃ z, z = s.heap := ⟨_, rfl⟩
  rw [← hH] at hw ⊢
  unfold fX2_mover at hF
  refine lv_aload_n hx hb dX2_mover_0 rfl (lv_at hl 0 rfl) ?_
  obtain ⟨u1, hq2, hF⟩ := zbd_t hF
  refine zgoIw (w' := (zP h r k f)) hw hA (zVw (As := []) (rest := []) ⟨hx, hb, hml, hown, hts⟩ (mX2_turns l G k h r H.size f  u1 hq2) (cwV 0 hts gX2_mover_X2_turns rfl rfl rfl kdX2_turns ⟨Nat.le_of_ble_eq_true rfl, Nat.le_of_ble_eq_true rfl⟩) hK hA hw 0 rfl rfl rfl rfl hl.1 rfl (Nat.le_of_ble_eq_true rfl) dX2_mover_1 ⟨Nat.le_of_ble_eq_true rfl, Nat.le_of_ble_eq_true rfl⟩) (fun H locs hw => ?_)
  refine lv_iconst (v := (1 : Int32)) hx hb dX2_mover_4 (by decide) ?_
  refine lv_iand hx hb dX2_mover_5 ?_
  obtain rfl := Option.some.inj hF
  exact hret _ _ _ _ rfl hw dX2_mover_6

/-! SealedBoard$Position.whatOn(I)I -/
abbrev rmX2_whatOn : Room := { frames := 1, cells := 0, slots := 0, locals := 22 }
theorem kdX2_whatOn : yX2_whatOn.cls = RX2 ∧ yX2_whatOn.cls ≠ "java/lang/invoke/MethodHandle" ∧ yX2_whatOn.cls ≠ "java/lang/invoke/VarHandle" ∧ (parseMethodDescriptor yX2_whatOn.desc).map (fun d => d.parameters.length) = some 1 := by decide +kernel
def fX2_whatOn (f : Nat → Int64) (p0 : Int32) : Option (Int32) := (zbd (fX2_allPieces f) (fun u1 => (zbd (fX3_has u1 p0) (fun u3 => (if u3 = 0 then (zbd (fX2_walls f) (fun u5 => (zbd (fX3_has u5 p0) (fun u7 => (if u7 = 0 then (zbd (fX2_allDoors f) (fun u9 => (zbd (fX3_has u9 p0) (fun u11 => (if u11 = 0 then (some ((0 : Int32))) else (some ((3 : Int32)))))))) else (some ((2 : Int32)))))))) else (some ((1 : Int32))))))))
set_option maxHeartbeats 400000 in
set_option maxRecDepth 100000 in
theorem mX2_whatOn (l : Launch) (G : va_G) (k : Nat → ClassId) (h : Nat) (r : Nat) (sz : Nat) (f : Nat → Int64) (p0 : Int32) (o : Int32) (hF : fX2_whatOn f p0 = some o) : zMI l yX2_whatOn wsX2_whatOn rmX2_whatOn G k (zP h r k f) sz [.ref h, .int p0] o (zP h r k f) := by
  refine zof_I (cc := cX2_whatOn) (nL := 2) (own := RX2) (rt := .int) (by decide) rfl rfl (Nat.le_of_ble_eq_true rfl) ?_
  intro p e s m args below meth c A Q C0 hK hA hret ls hl hw
  have hl : lv_has ls 2 [(0, .ref h), (1, .int p0)] := hl
  obtain ⟨hx, hb, hr, hml, hown, hts, hlocks⟩ := id C0
  obtain ⟨H, hH⟩ : ∃ z, z = s.heap := ⟨_, rfl⟩
  rw [← hH] at hw ⊢
  unfold fX2_whatOn at hF
  refine lv_aload_n hx hb dX2_whatOn_0 rfl (lv_at hl 0 rfl) ?_
  obtain ⟨u1, hq2, hF⟩ := zbd_t hF
  refine zgoLw (w' := (zP h r k f)) hw hA (zVw (As := []) (rest := []) ⟨hx, hb, hml, hown, hts⟩ (mX2_allPieces l G k h r H.size f  u1 hq2) (cwV 0 hts gX2_whatOn_X2_allPieces rfl rfl rfl kdX2_allPieces ⟨Nat.le_of_ble_eq_true rfl, Nat.le_of_ble_eq_true rfl⟩) hK hA hw 0 rfl rfl rfl rfl hl.1 rfl (Nat.le_of_ble_eq_true rfl) dX2_whatOn_1 ⟨Nat.le_of_ble_eq_true rfl, Nat.le_of_ble_eq_true rfl⟩) (fun H locs hw => ?_)
  refine lv_iload_n hx hb dX2_whatOn_4 rfl (lv_at hl 1 rfl) ?_
  obtain ⟨u3, hq4, hF⟩ := zbd_t hF
  refine zgoI (w' := (zP h r k f)) hw hA [] rfl (zS (As := [.long u1, .int p0]) (rest := []) ⟨hx, hb, hml, hown, hts⟩ (mX3_has l G k  H.size  u1 p0 u3 hq4) (va_cwS 2 hts gX2_whatOn_X3_has rfl rfl rfl kdX3_has ⟨Nat.le_of_ble_eq_true rfl, Nat.le_of_ble_eq_true rfl⟩) hK hA hw [] rfl (by decide) rfl hl.1 rfl (Nat.le_of_ble_eq_true rfl) dX2_whatOn_5 ⟨Nat.le_of_ble_eq_true rfl, Nat.le_of_ble_eq_true rfl⟩) rfl rfl rfl (fun H locs hw => ?_)
  refine lv_if_eq (tgt := 13) hx hb dX2_whatOn_8 (by decide) (fun hc => ?_) (fun hc => ?_)
  · have hF := zif_t hc hF
    refine lv_aload_n hx hb dX2_whatOn_13 rfl (lv_at hl 0 rfl) ?_
    obtain ⟨u5, hq6, hF⟩ := zbd_t hF
    refine zgoLw (w' := (zP h r k f)) hw hA (zVw (As := []) (rest := []) ⟨hx, hb, hml, hown, hts⟩ (mX2_walls l G k h r H.size f  u5 hq6) (cwV 0 hts gX2_whatOn_X2_walls rfl rfl rfl kdX2_walls ⟨Nat.le_of_ble_eq_true rfl, Nat.le_of_ble_eq_true rfl⟩) hK hA hw 0 rfl rfl rfl rfl hl.1 rfl (Nat.le_of_ble_eq_true rfl) dX2_whatOn_14 ⟨Nat.le_of_ble_eq_true rfl, Nat.le_of_ble_eq_true rfl⟩) (fun H locs hw => ?_)
    refine lv_iload_n hx hb dX2_whatOn_17 rfl (lv_at hl 1 rfl) ?_
    obtain ⟨u7, hq8, hF⟩ := zbd_t hF
    refine zgoI (w' := (zP h r k f)) hw hA [] rfl (zS (As := [.long u5, .int p0]) (rest := []) ⟨hx, hb, hml, hown, hts⟩ (mX3_has l G k  H.size  u5 p0 u7 hq8) (va_cwS 2 hts gX2_whatOn_X3_has rfl rfl rfl kdX3_has ⟨Nat.le_of_ble_eq_true rfl, Nat.le_of_ble_eq_true rfl⟩) hK hA hw [] rfl (by decide) rfl hl.1 rfl (Nat.le_of_ble_eq_true rfl) dX2_whatOn_18 ⟨Nat.le_of_ble_eq_true rfl, Nat.le_of_ble_eq_true rfl⟩) rfl rfl rfl (fun H locs hw => ?_)
    refine lv_if_eq (tgt := 26) hx hb dX2_whatOn_21 (by decide) (fun hc => ?_) (fun hc => ?_)
    · have hF := zif_t hc hF
      refine lv_aload_n hx hb dX2_whatOn_26 rfl (lv_at hl 0 rfl) ?_
      obtain ⟨u9, hq10, hF⟩ := zbd_t hF
      refine zgoLw (w' := (zP h r k f)) hw hA (zVw (As := []) (rest := []) ⟨hx, hb, hml, hown, hts⟩ (mX2_allDoors l G k h r H.size f  u9 hq10) (cwV 0 hts gX2_whatOn_X2_allDoors rfl rfl rfl kdX2_allDoors ⟨Nat.le_of_ble_eq_true rfl, Nat.le_of_ble_eq_true rfl⟩) hK hA hw 0 rfl rfl rfl rfl hl.1 rfl (Nat.le_of_ble_eq_true rfl) dX2_whatOn_27 ⟨Nat.le_of_ble_eq_true rfl, Nat.le_of_ble_eq_true rfl⟩) (fun H locs hw => ?_)
      refine lv_iload_n hx hb dX2_whatOn_30 rfl (lv_at hl 1 rfl) ?_
      obtain ⟨u11, hq12, hF⟩ := zbd_t hF
      refine zgoI (w' := (zP h r k f)) hw hA [] rfl (zS (As := [.long u9, .int p0]) (rest := []) ⟨hx, hb, hml, hown, hts⟩ (mX3_has l G k  H.size  u9 p0 u11 hq12) (va_cwS 2 hts gX2_whatOn_X3_has rfl rfl rfl kdX3_has ⟨Nat.le_of_ble_eq_true rfl, Nat.le_of_ble_eq_true rfl⟩) hK hA hw [] rfl (by decide) rfl hl.1 rfl (Nat.le_of_ble_eq_true rfl) dX2_whatOn_31 ⟨Nat.le_of_ble_eq_true rfl, Nat.le_of_ble_eq_true rfl⟩) rfl rfl rfl (fun H locs hw => ?_)
      refine lv_if_eq (tgt := 41) hx hb dX2_whatOn_34 (by decide) (fun hc => ?_) (fun hc => ?_)
      · have hF := zif_t hc hF
        refine lv_iconst (v := (0 : Int32)) hx hb dX2_whatOn_41 (by decide) ?_
        obtain rfl := Option.some.inj hF
        exact hret _ _ _ _ rfl hw dX2_whatOn_42
      · have hF := zif_f hc hF
        refine lv_iconst (v := (3 : Int32)) hx hb dX2_whatOn_37 (by decide) ?_
        refine lv_goto (tgt := 42) hx hb dX2_whatOn_38 (by decide) ?_
        obtain rfl := Option.some.inj hF
        exact hret _ _ _ _ rfl hw dX2_whatOn_42
    · have hF := zif_f hc hF
      refine lv_iconst (v := (2 : Int32)) hx hb dX2_whatOn_24 (by decide) ?_
      obtain rfl := Option.some.inj hF
      exact hret _ _ _ _ rfl hw dX2_whatOn_25
  · have hF := zif_f hc hF
    refine lv_iconst (v := (1 : Int32)) hx hb dX2_whatOn_11 (by decide) ?_
    obtain rfl := Option.some.inj hF
    exact hret _ _ _ _ rfl hw dX2_whatOn_12

/-! SealedBoard$Position.sideOn(I)I -/
abbrev rmX2_sideOn : Room := { frames := 1, cells := 0, slots := 0, locals := 22 }
theorem kdX2_sideOn : yX2_sideOn.cls = RX2 ∧ yX2_sideOn.cls ≠ "java/lang/invoke/MethodHandle" ∧ yX2_sideOn.cls ≠ "java/lang/invoke/VarHandle" ∧ (parseMethodDescriptor yX2_sideOn.desc).map (fun d => d.parameters.length) = some 1 := by decide +kernel
def fX2_sideOn_2  (f : Nat → Int64) : Nat → Int32 → Int32 → Option (Int32)
  | 0, _, _ => none
  | n + 1, x1, x2 => (if (2 : Int32) ≤ x2 then (some ((-1 : Int32))) else (zbd (fX2_piecesOf f x2) (fun u1 => (zbd (fX2_doorsOf f x2) (fun u3 => (zbd (fX2_memoriesOf f x2) (fun u5 => (zbd (fX3_has ((u1 ||| u3) ||| u5) x1) (fun u7 => (if u7 = 0 then (zbn (x2 + (1 : Int32)) (fun a9 => (fX2_sideOn_2  f n x1 a9))) else (some (x2))))))))))))
def fX2_sideOn (f : Nat → Int64) (p0 : Int32) : Option (Int32) := (fX2_sideOn_2  f zFu p0 (0 : Int32))
set_option maxHeartbeats 400000 in
set_option maxRecDepth 100000 in
theorem wX2_sideOn_2 {p : Program} {l : Launch} {e : Env} {s : State} {m : MethodId} {args : Array Value} {below : List Frame} {meth : Method} {c : Code} {A : Nat → Prop} {Q : State → Prop} {G : va_G} {k : Nat → ClassId} {h : Nat} {r : Nat} {f : Nat → Int64} {o : Int32} (C0 : zCx p s m args meth c wsX2_sideOn cX2_sideOn RX2 (some .int) 3) (hK : zKK G k A s s.heap) (hA : ∀ q : Nat, s.heap.size ≤ q → A q) (hret : zRI p l e rmX2_sideOn s m args below meth c cX2_sideOn G A 0 0 Q .int (zP h r k f) o)  : ∀ (n : Nat) (x1 : Int32) (x2 : Int32), fX2_sideOn_2  f n x1 x2 = some o → ∀ (H : Heap) (locs : List Loc) (ls : Array Slot), zWd G A s (zP h r k f) H locs → lv_has ls 3 [(0, .ref h), (1, .int x1), (2, .int x2)] → W p l e rmX2_sideOn s m args below meth c H locs 0 0 Q (F0 m 2 ls []) := by
  obtain ⟨hx, hb, hr, hml, hown, hts, hlocks⟩ := id C0
  intro n
  induction n with
  | zero => intro x1 x2 hF; exact nomatch hF
  | succ n ih =>
    intro x1 x2 hF H locs ls hw hl
    rw [fX2_sideOn_2] at hF
    refine lv_iload_n hx hb dX2_sideOn_2 rfl (lv_at hl 2 rfl) ?_
    refine lv_iconst (v := (2 : Int32)) hx hb dX2_sideOn_3 (by decide) ?_
    refine lv_icmp_ge (tgt := 39) hx hb dX2_sideOn_4 (by decide) (fun hc => ?_) (fun hc => ?_)
    · have hF := zif_t hc hF
      refine lv_iconst (v := (-1 : Int32)) hx hb dX2_sideOn_39 (by decide) ?_
      obtain rfl := Option.some.inj hF
      exact hret _ _ _ _ rfl hw dX2_sideOn_40
    · have hF := zif_f hc hF
      refine lv_aload_n hx hb dX2_sideOn_7 rfl (lv_at hl 0 rfl) ?_
      refine lv_iload_n hx hb dX2_sideOn_8 rfl (lv_at hl 2 rfl) ?_
      obtain ⟨u1, hq2, hF⟩ := zbd_t hF
      refine zgoLw (w' := (zP h r k f)) hw hA (zVw (As := [.int x2]) (rest := []) ⟨hx, hb, hml, hown, hts⟩ (mX2_piecesOf l G k h r H.size f x2 u1 hq2) (cwV 1 hts gX2_sideOn_X2_piecesOf rfl rfl rfl kdX2_piecesOf ⟨Nat.le_of_ble_eq_true rfl, Nat.le_of_ble_eq_true rfl⟩) hK hA hw 0 rfl rfl rfl rfl hl.1 rfl (Nat.le_of_ble_eq_true rfl) dX2_sideOn_9 ⟨Nat.le_of_ble_eq_true rfl, Nat.le_of_ble_eq_true rfl⟩) (fun H locs hw => ?_)
      refine lv_aload_n hx hb dX2_sideOn_12 rfl (lv_at hl 0 rfl) ?_
      refine lv_iload_n hx hb dX2_sideOn_13 rfl (lv_at hl 2 rfl) ?_
      obtain ⟨u3, hq4, hF⟩ := zbd_t hF
      refine zgoLw (w' := (zP h r k f)) hw hA (zVw (As := [.int x2]) (rest := [.long u1]) ⟨hx, hb, hml, hown, hts⟩ (mX2_doorsOf l G k h r H.size f x2 u3 hq4) (cwV 1 hts gX2_sideOn_X2_doorsOf rfl rfl rfl kdX2_doorsOf ⟨Nat.le_of_ble_eq_true rfl, Nat.le_of_ble_eq_true rfl⟩) hK hA hw 0 rfl rfl rfl rfl hl.1 rfl (Nat.le_of_ble_eq_true rfl) dX2_sideOn_14 ⟨Nat.le_of_ble_eq_true rfl, Nat.le_of_ble_eq_true rfl⟩) (fun H locs hw => ?_)
      refine lv_lor hx hb dX2_sideOn_17 ?_
      refine lv_aload_n hx hb dX2_sideOn_18 rfl (lv_at hl 0 rfl) ?_
      refine lv_iload_n hx hb dX2_sideOn_19 rfl (lv_at hl 2 rfl) ?_
      obtain ⟨u5, hq6, hF⟩ := zbd_t hF
      refine zgoLw (w' := (zP h r k f)) hw hA (zVw (As := [.int x2]) (rest := [.long (u1 ||| u3)]) ⟨hx, hb, hml, hown, hts⟩ (mX2_memoriesOf l G k h r H.size f x2 u5 hq6) (cwV 1 hts gX2_sideOn_X2_memoriesOf rfl rfl rfl kdX2_memoriesOf ⟨Nat.le_of_ble_eq_true rfl, Nat.le_of_ble_eq_true rfl⟩) hK hA hw 0 rfl rfl rfl rfl hl.1 rfl (Nat.le_of_ble_eq_true rfl) dX2_sideOn_20 ⟨Nat.le_of_ble_eq_true rfl, Nat.le_of_ble_eq_true rfl⟩) (fun H locs hw => ?_)
      refine lv_lor hx hb dX2_sideOn_23 ?_
      refine lv_iload_n hx hb dX2_sideOn_24 rfl (lv_at hl 1 rfl) ?_
      obtain ⟨u7, hq8, hF⟩ := zbd_t hF
      refine zgoI (w' := (zP h r k f)) hw hA [] rfl (zS (As := [.long ((u1 ||| u3) ||| u5), .int x1]) (rest := []) ⟨hx, hb, hml, hown, hts⟩ (mX3_has l G k  H.size  ((u1 ||| u3) ||| u5) x1 u7 hq8) (va_cwS 2 hts gX2_sideOn_X3_has rfl rfl rfl kdX3_has ⟨Nat.le_of_ble_eq_true rfl, Nat.le_of_ble_eq_true rfl⟩) hK hA hw [] rfl (by decide) rfl hl.1 rfl (Nat.le_of_ble_eq_true rfl) dX2_sideOn_25 ⟨Nat.le_of_ble_eq_true rfl, Nat.le_of_ble_eq_true rfl⟩) rfl rfl rfl (fun H locs hw => ?_)
      refine lv_if_eq (tgt := 33) hx hb dX2_sideOn_28 (by decide) (fun hc => ?_) (fun hc => ?_)
      · have hF := zif_t hc hF
        obtain ⟨a9, ea9⟩ : ∃ z : Int32, z = x2 + (1 : Int32) := ⟨_, rfl⟩
        have hF := zbn_t ea9 hF
        refine lv_iinc (v := a9) (lv' := [(2, .int a9), (0, .ref h), (1, .int x1)]) hx hb dX2_sideOn_33 hl (k := 2) rfl (by rw [ea9]; rfl) (by decide) rfl (fun ls hl => ?_)
        refine lv_goto (tgt := 2) hx hb dX2_sideOn_36 (by decide) ?_
        exact ih _ _ hF _ _ _ hw (lv_sub hl [1, 2, 0] rfl)
      · have hF := zif_f hc hF
        refine lv_iload_n hx hb dX2_sideOn_31 rfl (lv_at hl 2 rfl) ?_
        obtain rfl := Option.some.inj hF
        exact hret _ _ _ _ rfl hw dX2_sideOn_32
set_option maxHeartbeats 400000 in
set_option maxRecDepth 100000 in
theorem mX2_sideOn (l : Launch) (G : va_G) (k : Nat → ClassId) (h : Nat) (r : Nat) (sz : Nat) (f : Nat → Int64) (p0 : Int32) (o : Int32) (hF : fX2_sideOn f p0 = some o) : zMI l yX2_sideOn wsX2_sideOn rmX2_sideOn G k (zP h r k f) sz [.ref h, .int p0] o (zP h r k f) := by
  refine zof_I (cc := cX2_sideOn) (nL := 3) (own := RX2) (rt := .int) (by decide) rfl rfl (Nat.le_of_ble_eq_true rfl) ?_
  intro p e s m args below meth c A Q C0 hK hA hret ls hl hw
  have hl : lv_has ls 3 [(0, .ref h), (1, .int p0)] := hl
  obtain ⟨hx, hb, hr, hml, hown, hts, hlocks⟩ := id C0
  obtain ⟨H, hH⟩ : ∃ z, z = s.heap := ⟨_, rfl⟩
  rw [← hH] at hw ⊢
  unfold fX2_sideOn at hF
  refine lv_iconst (v := (0 : Int32)) hx hb dX2_sideOn_0 (by decide) ?_
  refine lv_istore_n (lv' := [(2, .int (0 : Int32)), (0, .ref h), (1, .int p0)]) hx hb dX2_sideOn_1 rfl hl (by decide) rfl (fun ls hl => ?_)
  exact wX2_sideOn_2 C0 hK hA hret  zFu _ _ hF _ _ _ hw (lv_sub hl [1, 2, 0] rfl)

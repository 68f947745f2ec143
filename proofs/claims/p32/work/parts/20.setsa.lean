/-! java/lang/Long.bitCount(J)I -/
abbrev rmJ13_bitCount_95d88 : Room := { frames := 0, cells := 0, slots := 0, locals := 0 }
theorem kdJ13_bitCount_95d88 : yJ13_bitCount_95d88.cls ≠ "java/lang/invoke/MethodHandle" ∧ yJ13_bitCount_95d88.cls ≠ "java/lang/invoke/VarHandle" ∧ (parseMethodDescriptor yJ13_bitCount_95d88.desc).map (fun d => d.parameters.length) = some 1 := by decide +kernel
def fJ13_bitCount_95d88 (p0 : Int64) : Option (Int32) := (zbn (p0 - ((p0.toUInt64 >>> ((1 : Int32).toInt64.toUInt64 &&& Int64.toUInt64 63)).toInt64 &&& (6148914691236517205 : Int64))) (fun a1 => (zbn ((a1 &&& (3689348814741910323 : Int64)) + ((a1.toUInt64 >>> ((2 : Int32).toInt64.toUInt64 &&& Int64.toUInt64 63)).toInt64 &&& (3689348814741910323 : Int64))) (fun a2 => (zbn ((a2 + (a2.toUInt64 >>> ((4 : Int32).toInt64.toUInt64 &&& Int64.toUInt64 63)).toInt64) &&& (1085102592571150095 : Int64)) (fun a3 => (zbn (a3 + (a3.toUInt64 >>> ((8 : Int32).toInt64.toUInt64 &&& Int64.toUInt64 63)).toInt64) (fun a4 => (zbn (a4 + (a4.toUInt64 >>> ((16 : Int32).toInt64.toUInt64 &&& Int64.toUInt64 63)).toInt64) (fun a5 => (zbn (a5 + (a5.toUInt64 >>> ((32 : Int32).toInt64.toUInt64 &&& Int64.toUInt64 63)).toInt64) (fun a6 => (some ((a6.toInt32 &&& (127 : Int32))))))))))))))))
set_option maxHeartbeats 400000 in
set_option maxRecDepth 100000 in
theorem mJ13_bitCount_95d88 (l : Launch) (G : va_G) (k : Nat → ClassId)  (sz : Nat)  (p0 : Int64) (o : Int32) (hF : fJ13_bitCount_95d88 p0 = some o) : zMI l yJ13_bitCount_95d88 wsJ13_bitCount_95d88 rmJ13_bitCount_95d88 G k (zE0 k) sz [.long p0] o (zE0 k) := by
  refine zof_I (cc := cJ13_bitCount_95d88) (nL := 2) (own := RJ13) (rt := .int) (by decide) rfl rfl (Nat.le_of_ble_eq_true rfl) ?_
  intro p e s m args below meth c A Q C0 hK hA hret ls hl hw
  have hl : lv_has ls 2 [(0, .long p0)] := hl
  obtain ⟨hx, hb, hr, hml, hown, hts, hlocks⟩ := id C0
  obtain ⟨H, hH⟩ : ∃ z, z = s.heap := ⟨_, rfl⟩
  rw [← hH] at hw ⊢
  unfold fJ13_bitCount_95d88 at hF
  refine lv_lload_n hx hb dJ13_bitCount_95d88_0 rfl (lv_at hl 0 rfl) ?_
  refine lv_lload_n hx hb dJ13_bitCount_95d88_1 rfl (lv_at hl 0 rfl) ?_
  refine lv_iconst (v := (1 : Int32)) hx hb dJ13_bitCount_95d88_2 (by decide) ?_
  refine lv_lushr hx hb dJ13_bitCount_95d88_3 rfl ?_
  refine lv_ldc2 (v := (6148914691236517205 : Int64)) hx hb hown (hts (.constantLong RJ13 314 (6148914691236517205)) (by decide +kernel)) dJ13_bitCount_95d88_4 ?_
  refine lv_land hx hb dJ13_bitCount_95d88_7 ?_
  refine lv_lsub hx hb dJ13_bitCount_95d88_8 ?_
  refine lv_topl (fun a1 ea1 => ?_)
  have hF := zbn_t ea1 hF
  refine lv_lstore_n (lv' := [(0, .long a1)]) hx hb dJ13_bitCount_95d88_9 rfl hl (by decide) rfl (fun ls hl => ?_)
  refine lv_lload_n hx hb dJ13_bitCount_95d88_10 rfl (lv_at hl 0 rfl) ?_
  refine lv_ldc2 (v := (3689348814741910323 : Int64)) hx hb hown (hts (.constantLong RJ13 316 (3689348814741910323)) (by decide +kernel)) dJ13_bitCount_95d88_11 ?_
  refine lv_land hx hb dJ13_bitCount_95d88_14 ?_
  refine lv_lload_n hx hb dJ13_bitCount_95d88_15 rfl (lv_at hl 0 rfl) ?_
  refine lv_iconst (v := (2 : Int32)) hx hb dJ13_bitCount_95d88_16 (by decide) ?_
  refine lv_lushr hx hb dJ13_bitCount_95d88_17 rfl ?_
  refine lv_ldc2 (v := (3689348814741910323 : Int64)) hx hb hown (hts (.constantLong RJ13 316 (3689348814741910323)) (by decide +kernel)) dJ13_bitCount_95d88_18 ?_
  refine lv_land hx hb dJ13_bitCount_95d88_21 ?_
  refine lv_ladd hx hb dJ13_bitCount_95d88_22 ?_
  refine lv_topl (fun a2 ea2 => ?_)
  have hF := zbn_t ea2 hF
  refine lv_lstore_n (lv' := [(0, .long a2)]) hx hb dJ13_bitCount_95d88_23 rfl hl (by decide) rfl (fun ls hl => ?_)
  refine lv_lload_n hx hb dJ13_bitCount_95d88_24 rfl (lv_at hl 0 rfl) ?_
  refine lv_lload_n hx hb dJ13_bitCount_95d88_25 rfl (lv_at hl 0 rfl) ?_
  refine lv_iconst (v := (4 : Int32)) hx hb dJ13_bitCount_95d88_26 (by decide) ?_
  refine lv_lushr hx hb dJ13_bitCount_95d88_27 rfl ?_
  refine lv_ladd hx hb dJ13_bitCount_95d88_28 ?_
  refine lv_ldc2 (v := (1085102592571150095 : Int64)) hx hb hown (hts (.constantLong RJ13 318 (1085102592571150095)) (by decide +kernel)) dJ13_bitCount_95d88_29 ?_
  refine lv_land hx hb dJ13_bitCount_95d88_32 ?_
  refine lv_topl (fun a3 ea3 => ?_)
  have hF := zbn_t ea3 hF
  refine lv_lstore_n (lv' := [(0, .long a3)]) hx hb dJ13_bitCount_95d88_33 rfl hl (by decide) rfl (fun ls hl => ?_)
  refine lv_lload_n hx hb dJ13_bitCount_95d88_34 rfl (lv_at hl 0 rfl) ?_
  refine lv_lload_n hx hb dJ13_bitCount_95d88_35 rfl (lv_at hl 0 rfl) ?_
  refine lv_bipush (v := (8 : Int32)) hx hb dJ13_bitCount_95d88_36 (by decide) ?_
  refine lv_lushr hx hb dJ13_bitCount_95d88_38 rfl ?_
  refine lv_ladd hx hb dJ13_bitCount_95d88_39 ?_
  refine lv_topl (fun a4 ea4 => ?_)
  have hF := zbn_t ea4 hF
  refine lv_lstore_n (lv' := [(0, .long a4)]) hx hb dJ13_bitCount_95d88_40 rfl hl (by decide) rfl (fun ls hl => ?_)
  refine lv_lload_n hx hb dJ13_bitCount_95d88_41 rfl (lv_at hl 0 rfl) ?_
  refine lv_lload_n hx hb dJ13_bitCount_95d88_42 rfl (lv_at hl 0 rfl) ?_
  refine lv_bipush (v := (16 : Int32)) hx hb dJ13_bitCount_95d88_43 (by decide) ?_
  refine lv_lushr hx hb dJ13_bitCount_95d88_45 rfl ?_
  refine lv_ladd hx hb dJ13_bitCount_95d88_46 ?_
  refine lv_topl (fun a5 ea5 => ?_)
  have hF := zbn_t ea5 hF
  refine lv_lstore_n (lv' := [(0, .long a5)]) hx hb dJ13_bitCount_95d88_47 rfl hl (by decide) rfl (fun ls hl => ?_)
  refine lv_lload_n hx hb dJ13_bitCount_95d88_48 rfl (lv_at hl 0 rfl) ?_
  refine lv_lload_n hx hb dJ13_bitCount_95d88_49 rfl (lv_at hl 0 rfl) ?_
  refine lv_bipush (v := (32 : Int32)) hx hb dJ13_bitCount_95d88_50 (by decide) ?_
  refine lv_lushr hx hb dJ13_bitCount_95d88_52 rfl ?_
  refine lv_ladd hx hb dJ13_bitCount_95d88_53 ?_
  refine lv_topl (fun a6 ea6 => ?_)
  have hF := zbn_t ea6 hF
  refine lv_lstore_n (lv' := [(0, .long a6)]) hx hb dJ13_bitCount_95d88_54 rfl hl (by decide) rfl (fun ls hl => ?_)
  refine lv_lload_n hx hb dJ13_bitCount_95d88_55 rfl (lv_at hl 0 rfl) ?_
  refine lv_l2i hx hb dJ13_bitCount_95d88_56 rfl ?_
  refine lv_bipush (v := (127 : Int32)) hx hb dJ13_bitCount_95d88_57 (by decide) ?_
  refine lv_iand hx hb dJ13_bitCount_95d88_59 ?_
  obtain rfl := Option.some.inj hF
  exact hret _ _ _ _ rfl hw dJ13_bitCount_95d88_60

/-! SealedBoard$Sets.of(I)J -/
abbrev rmX3_of : Room := { frames := 0, cells := 0, slots := 0, locals := 0 }
theorem kdX3_of : yX3_of.cls ≠ "java/lang/invoke/MethodHandle" ∧ yX3_of.cls ≠ "java/lang/invoke/VarHandle" ∧ (parseMethodDescriptor yX3_of.desc).map (fun d => d.parameters.length) = some 1 := by decide +kernel
def fX3_of_16    : Option (Int64) := (some ((0 : Int64)))
def fX3_of (p0 : Int32) : Option (Int64) := (if p0 < 0 then (fX3_of_16    ) else (if (36 : Int32) ≤ p0 then (fX3_of_16    ) else (some (((1 : Int64) <<< (p0.toInt64 &&& 63))))))
set_option maxHeartbeats 400000 in
set_option maxRecDepth 100000 in
theorem wX3_of_16 {p : Program} {l : Launch} {e : Env} {s : State} {m : MethodId} {args : Array Value} {below : List Frame} {meth : Method} {c : Code} {A : Nat → Prop} {Q : State → Prop} {G : va_G} {k : Nat → ClassId}   {o : Int64} (C0 : zCx p s m args meth c wsX3_of cX3_of RX3 (some .long) 1) (hK : zKK G k A s s.heap) (hA : ∀ q : Nat, s.heap.size ≤ q → A q) (hret : zRL p l e rmX3_of s m args below meth c cX3_of G A 0 0 Q (zE0 k) o)  :  fX3_of_16    = some o → ∀ (H : Heap) (locs : List Loc) (ls : Array Slot), zWd G A s (zE0 k) H locs → lv_has ls 1 [] → W p l e rmX3_of s m args below meth c H locs 0 0 Q (F0 m 16 ls []) := by
  obtain ⟨hx, hb, hr, hml, hown, hts, hlocks⟩ := id C0
  intro  hF H locs ls hw hl
  unfold fX3_of_16 at hF
  refine lv_lconst (v := (0 : Int64)) hx hb dX3_of_16 (by decide) ?_
  obtain rfl := Option.some.inj hF
  exact hret _ _ _ _  hw dX3_of_17
set_option maxHeartbeats 400000 in
set_option maxRecDepth 100000 in
theorem mX3_of (l : Launch) (G : va_G) (k : Nat → ClassId)  (sz : Nat)  (p0 : Int32) (o : Int64) (hF : fX3_of p0 = some o) : zML l yX3_of wsX3_of rmX3_of G k (zE0 k) sz [.int p0] o (zE0 k) := by
  refine zof_L (cc := cX3_of) (nL := 1) (own := RX3) (by decide) rfl rfl (Nat.le_of_ble_eq_true rfl) ?_
  intro p e s m args below meth c A Q C0 hK hA hret ls hl hw
  have hl : lv_has ls 1 [(0, .int p0)] := hl
  obtain ⟨hx, hb, hr, hml, hown, hts, hlocks⟩ := id C0
  obtain ⟨H, hH⟩ : ∃ z, z = s.heap := ⟨_, rfl⟩
  rw [← hH] at hw ⊢
  unfold fX3_of at hF
  refine lv_iload_n hx hb dX3_of_0 rfl (lv_at hl 0 rfl) ?_
  refine lv_if_lt (tgt := 16) hx hb dX3_of_1 (by decide) (fun hc => ?_) (fun hc => ?_)
  · have hF := zif_t hc hF
    exact wX3_of_16 C0 hK hA hret    hF _ _ _ hw (lv_sub hl [] rfl)
  · have hF := zif_f hc hF
    refine lv_iload_n hx hb dX3_of_4 rfl (lv_at hl 0 rfl) ?_
    refine lv_bipush (v := (36 : Int32)) hx hb dX3_of_5 (by decide) ?_
    refine lv_icmp_ge (tgt := 16) hx hb dX3_of_7 (by decide) (fun hc => ?_) (fun hc => ?_)
    · have hF := zif_t hc hF
      exact wX3_of_16 C0 hK hA hret    hF _ _ _ hw (lv_sub hl [] rfl)
    · have hF := zif_f hc hF
      refine lv_lconst (v := (1 : Int64)) hx hb dX3_of_10 (by decide) ?_
      refine lv_iload_n hx hb dX3_of_11 rfl (lv_at hl 0 rfl) ?_
      refine lv_lshl hx hb dX3_of_12 rfl ?_
      refine lv_goto (tgt := 17) hx hb dX3_of_13 (by decide) ?_
      obtain rfl := Option.some.inj hF
      exact hret _ _ _ _  hw dX3_of_17

/-! SealedBoard$Sets.has(JI)Z -/
abbrev rmX3_has : Room := { frames := 0, cells := 0, slots := 0, locals := 0 }
theorem kdX3_has : yX3_has.cls ≠ "java/lang/invoke/MethodHandle" ∧ yX3_has.cls ≠ "java/lang/invoke/VarHandle" ∧ (parseMethodDescriptor yX3_has.desc).map (fun d => d.parameters.length) = some 2 := by decide +kernel
def fX3_has (p0 : Int64) (p1 : Int32) : Option (Int32) := (if p1 < 0 then (some ((0 : Int32))) else (if (36 : Int32) ≤ p1 then (some ((0 : Int32))) else (if (lg_cmp ((p0.toUInt64 >>> (p1.toInt64.toUInt64 &&& Int64.toUInt64 63)).toInt64 &&& (1 : Int64)) (0 : Int64)) = 0 then (some ((0 : Int32))) else (some ((1 : Int32))))))
set_option maxHeartbeats 400000 in
set_option maxRecDepth 100000 in
theorem mX3_has (l : Launch) (G : va_G) (k : Nat → ClassId)  (sz : Nat)  (p0 : Int64) (p1 : Int32) (o : Int32) (hF : fX3_has p0 p1 = some o) : zMI l yX3_has wsX3_has rmX3_has G k (zE0 k) sz [.long p0, .int p1] o (zE0 k) := by
  refine zof_I (cc := cX3_has) (nL := 3) (own := RX3) (rt := .boolean) (by decide) rfl rfl (Nat.le_of_ble_eq_true rfl) ?_
  intro p e s m args below meth c A Q C0 hK hA hret ls hl hw
  have hl : lv_has ls 3 [(0, .long p0), (2, .int p1)] := hl
  obtain ⟨hx, hb, hr, hml, hown, hts, hlocks⟩ := id C0
  obtain ⟨H, hH⟩ : ∃ z, z = s.heap := ⟨_, rfl⟩
  rw [← hH] at hw ⊢
  unfold fX3_has at hF
  refine lv_iload_n hx hb dX3_has_0 rfl (lv_at hl 1 rfl) ?_
  refine lv_if_lt (tgt := 24) hx hb dX3_has_1 (by decide) (fun hc => ?_) (fun hc => ?_)
  · have hF := zif_t hc hF
    refine lv_iconst (v := (0 : Int32)) hx hb dX3_has_24 (by decide) ?_
    obtain rfl := Option.some.inj hF
    exact hret _ _ _ _ (zbo_n (x := (0 : Int32)) (by decide)) hw dX3_has_25
  · have hF := zif_f hc hF
    refine lv_iload_n hx hb dX3_has_4 rfl (lv_at hl 1 rfl) ?_
    refine lv_bipush (v := (36 : Int32)) hx hb dX3_has_5 (by decide) ?_
    refine lv_icmp_ge (tgt := 24) hx hb dX3_has_7 (by decide) (fun hc => ?_) (fun hc => ?_)
    · have hF := zif_t hc hF
      refine lv_iconst (v := (0 : Int32)) hx hb dX3_has_24 (by decide) ?_
      obtain rfl := Option.some.inj hF
      exact hret _ _ _ _ (zbo_n (x := (0 : Int32)) (by decide)) hw dX3_has_25
    · have hF := zif_f hc hF
      refine lv_lload_n hx hb dX3_has_10 rfl (lv_at hl 0 rfl) ?_
      refine lv_iload_n hx hb dX3_has_11 rfl (lv_at hl 1 rfl) ?_
      refine lv_lushr hx hb dX3_has_12 rfl ?_
      refine lv_lconst (v := (1 : Int64)) hx hb dX3_has_13 (by decide) ?_
      refine lv_land hx hb dX3_has_14 ?_
      refine lv_lconst (v := (0 : Int64)) hx hb dX3_has_15 (by decide) ?_
      refine W.lcmp hx hb dX3_has_16 ?_
      refine lv_if_eq (tgt := 24) hx hb dX3_has_17 (by decide) (fun hc => ?_) (fun hc => ?_)
      · have hF := zif_t hc hF
        refine lv_iconst (v := (0 : Int32)) hx hb dX3_has_24 (by decide) ?_
        obtain rfl := Option.some.inj hF
        exact hret _ _ _ _ (zbo_n (x := (0 : Int32)) (by decide)) hw dX3_has_25
      · have hF := zif_f hc hF
        refine lv_iconst (v := (1 : Int32)) hx hb dX3_has_20 (by decide) ?_
        refine lv_goto (tgt := 25) hx hb dX3_has_21 (by decide) ?_
        obtain rfl := Option.some.inj hF
        exact hret _ _ _ _ (zbo_n (x := (1 : Int32)) (by decide)) hw dX3_has_25

/-! SealedBoard$Sets.size(J)I -/
abbrev rmX3_size : Room := { frames := 1, cells := 0, slots := 0, locals := 21 }
theorem kdX3_size : yX3_size.cls ≠ "java/lang/invoke/MethodHandle" ∧ yX3_size.cls ≠ "java/lang/invoke/VarHandle" ∧ (parseMethodDescriptor yX3_size.desc).map (fun d => d.parameters.length) = some 1 := by decide +kernel
def fX3_size (p0 : Int64) : Option (Int32) := (zbd (fJ13_bitCount_95d88 p0) (fun u1 => (some (u1))))
set_option maxHeartbeats 400000 in
set_option maxRecDepth 100000 in
theorem mX3_size (l : Launch) (G : va_G) (k : Nat → ClassId)  (sz : Nat)  (p0 : Int64) (o : Int32) (hF : fX3_size p0 = some o) : zMI l yX3_size wsX3_size rmX3_size G k (zE0 k) sz [.long p0] o (zE0 k) := by
  refine zof_I (cc := cX3_size) (nL := 2) (own := RX3) (rt := .int) (by decide) rfl rfl (Nat.le_of_ble_eq_true rfl) ?_
  intro p e s m args below meth c A Q C0 hK hA hret ls hl hw
  have hl : lv_has ls 2 [(0, .long p0)] := hl
  obtain ⟨hx, hb, hr, hml, hown, hts, hlocks⟩ := id C0
  obtain ⟨H, hH⟩ : ∃ z, z = s.heap := ⟨_, rfl⟩
  rw [← hH] at hw ⊢
  unfold fX3_size at hF
  refine lv_lload_n hx hb dX3_size_0 rfl (lv_at hl 0 rfl) ?_
  obtain ⟨u1, hq2, hF⟩ := zbd_t hF
  refine zgoI (w' := (zE0 k)) hw hA [] rfl (zS (As := [.long p0]) (rest := []) ⟨hx, hb, hml, hown, hts⟩ (mJ13_bitCount_95d88 l G k  H.size  p0 u1 hq2) (va_cwS 1 hts gX3_size_J13_bitCount_95d88 rfl rfl rfl kdJ13_bitCount_95d88 ⟨Nat.le_of_ble_eq_true rfl, Nat.le_of_ble_eq_true rfl⟩) hK hA hw [] rfl (by decide) rfl hl.1 rfl (Nat.le_of_ble_eq_true rfl) dX3_size_1 ⟨Nat.le_of_ble_eq_true rfl, Nat.le_of_ble_eq_true rfl⟩) rfl rfl rfl (fun H locs hw => ?_)
  obtain rfl := Option.some.inj hF
  exact hret _ _ _ _ rfl hw dX3_size_4

/-! SealedBoard$Sets.lowest(J)I -/
abbrev rmX3_lowest : Room := { frames := 1, cells := 0, slots := 0, locals := 21 }
theorem kdX3_lowest : yX3_lowest.cls ≠ "java/lang/invoke/MethodHandle" ∧ yX3_lowest.cls ≠ "java/lang/invoke/VarHandle" ∧ (parseMethodDescriptor yX3_lowest.desc).map (fun d => d.parameters.length) = some 1 := by decide +kernel
def fX3_lowest (p0 : Int64) : Option (Int32) := (if (lg_cmp p0 (0 : Int64)) = 0 then (some ((-1 : Int32))) else (zbd (fJ13_bitCount_95d88 ((p0 &&& (-p0)) - (1 : Int64))) (fun u1 => (some (u1)))))
set_option maxHeartbeats 400000 in
set_option maxRecDepth 100000 in
theorem mX3_lowest (l : Launch) (G : va_G) (k : Nat → ClassId)  (sz : Nat)  (p0 : Int64) (o : Int32) (hF : fX3_lowest p0 = some o) : zMI l yX3_lowest wsX3_lowest rmX3_lowest G k (zE0 k) sz [.long p0] o (zE0 k) := by
  refine zof_I (cc := cX3_lowest) (nL := 2) (own := RX3) (rt := .int) (by decide) rfl rfl (Nat.le_of_ble_eq_true rfl) ?_
  intro p e s m args below meth c A Q C0 hK hA hret ls hl hw
  have hl : lv_has ls 2 [(0, .long p0)] := hl
  obtain ⟨hx, hb, hr, hml, hown, hts, hlocks⟩ := id C0
  obtain ⟨H, hH⟩ : ∃ z, z = s.heap := ⟨_, rfl⟩
  rw [← hH] at hw ⊢
  unfold fX3_lowest at hF
  refine lv_lload_n hx hb dX3_lowest_0 rfl (lv_at hl 0 rfl) ?_
  refine lv_lconst (v := (0 : Int64)) hx hb dX3_lowest_1 (by decide) ?_
  refine W.lcmp hx hb dX3_lowest_2 ?_
  refine lv_if_ne (tgt := 10) hx hb dX3_lowest_3 (by decide) (fun hc => ?_) (fun hc => ?_)
  · have hF := zif_f hc hF
    refine lv_lload_n hx hb dX3_lowest_10 rfl (lv_at hl 0 rfl) ?_
    refine lv_lload_n hx hb dX3_lowest_11 rfl (lv_at hl 0 rfl) ?_
    refine lv_lneg hx hb dX3_lowest_12 ?_
    refine lv_land hx hb dX3_lowest_13 ?_
    refine lv_lconst (v := (1 : Int64)) hx hb dX3_lowest_14 (by decide) ?_
    refine lv_lsub hx hb dX3_lowest_15 ?_
    obtain ⟨u1, hq2, hF⟩ := zbd_t hF
    refine zgoI (w' := (zE0 k)) hw hA [] rfl (zS (As := [.long ((p0 &&& (-p0)) - (1 : Int64))]) (rest := []) ⟨hx, hb, hml, hown, hts⟩ (mJ13_bitCount_95d88 l G k  H.size  ((p0 &&& (-p0)) - (1 : Int64)) u1 hq2) (va_cwS 1 hts gX3_lowest_J13_bitCount_95d88 rfl rfl rfl kdJ13_bitCount_95d88 ⟨Nat.le_of_ble_eq_true rfl, Nat.le_of_ble_eq_true rfl⟩) hK hA hw [] rfl (by decide) rfl hl.1 rfl (Nat.le_of_ble_eq_true rfl) dX3_lowest_16 ⟨Nat.le_of_ble_eq_true rfl, Nat.le_of_ble_eq_true rfl⟩) rfl rfl rfl (fun H locs hw => ?_)
    obtain rfl := Option.some.inj hF
    exact hret _ _ _ _ rfl hw dX3_lowest_19
  · have hF := zif_t hc hF
    refine lv_iconst (v := (-1 : Int32)) hx hb dX3_lowest_6 (by decide) ?_
    refine lv_goto (tgt := 19) hx hb dX3_lowest_7 (by decide) ?_
    obtain rfl := Option.some.inj hF
    exact hret _ _ _ _ rfl hw dX3_lowest_19

/-! SealedBoard$Sets.around(J)J -/
abbrev rmX3_around : Room := { frames := 0, cells := 0, slots := 0, locals := 0 }
theorem kdX3_around : yX3_around.cls ≠ "java/lang/invoke/MethodHandle" ∧ yX3_around.cls ≠ "java/lang/invoke/VarHandle" ∧ (parseMethodDescriptor yX3_around.desc).map (fun d => d.parameters.length) = some 1 := by decide +kernel
def fX3_around (p0 : Int64) : Option (Int64) := (zbn ((p0.toUInt64 >>> ((6 : Int32).toInt64.toUInt64 &&& Int64.toUInt64 63)).toInt64) (fun a1 => (zbn (((p0 &&& (-1090785346 : Int64)).toUInt64 >>> ((1 : Int32).toInt64.toUInt64 &&& Int64.toUInt64 63)).toInt64) (fun a2 => (zbn ((p0 &&& (-34905131041 : Int64)) <<< ((1 : Int32).toInt64 &&& 63)) (fun a3 => (zbn ((p0 <<< ((6 : Int32).toInt64 &&& 63)) &&& (68719476735 : Int64)) (fun a4 => (some ((((a1 ||| a2) ||| a3) ||| a4)))))))))))
set_option maxHeartbeats 400000 in
set_option maxRecDepth 100000 in
theorem mX3_around (l : Launch) (G : va_G) (k : Nat → ClassId)  (sz : Nat)  (p0 : Int64) (o : Int64) (hF : fX3_around p0 = some o) : zML l yX3_around wsX3_around rmX3_around G k (zE0 k) sz [.long p0] o (zE0 k) := by
  refine zof_L (cc := cX3_around) (nL := 10) (own := RX3) (by decide) rfl rfl (Nat.le_of_ble_eq_true rfl) ?_
  intro p e s m args below meth c A Q C0 hK hA hret ls hl hw
  have hl : lv_has ls 10 [(0, .long p0)] := hl
  obtain ⟨hx, hb, hr, hml, hown, hts, hlocks⟩ := id C0
  obtain ⟨H, hH⟩ : ∃ z, z = s.heap := ⟨_, rfl⟩
  rw [← hH] at hw ⊢
  unfold fX3_around at hF
  refine lv_lload_n hx hb dX3_around_0 rfl (lv_at hl 0 rfl) ?_
  refine lv_bipush (v := (6 : Int32)) hx hb dX3_around_1 (by decide) ?_
  refine lv_lushr hx hb dX3_around_3 rfl ?_
  refine lv_topl (fun a1 ea1 => ?_)
  have hF := zbn_t ea1 hF
  refine lv_lstore_n (lv' := [(2, .long a1), (0, .long p0)]) hx hb dX3_around_4 rfl hl (by decide) rfl (fun ls hl => ?_)
  refine lv_lload_n hx hb dX3_around_5 rfl (lv_at hl 1 rfl) ?_
  refine lv_ldc2 (v := (-1090785346 : Int64)) hx hb hown (hts (.constantLong RX3 21 (-1090785346)) (by decide +kernel)) dX3_around_6 ?_
  refine lv_land hx hb dX3_around_9 ?_
  refine lv_iconst (v := (1 : Int32)) hx hb dX3_around_10 (by decide) ?_
  refine lv_lushr hx hb dX3_around_11 rfl ?_
  refine lv_topl (fun a2 ea2 => ?_)
  have hF := zbn_t ea2 hF
  refine lv_lstore (lv' := [(4, .long a2), (2, .long a1), (0, .long p0)]) hx hb dX3_around_12 hl (by decide) rfl (fun ls hl => ?_)
  refine lv_lload_n hx hb dX3_around_14 rfl (lv_at hl 2 rfl) ?_
  refine lv_ldc2 (v := (-34905131041 : Int64)) hx hb hown (hts (.constantLong RX3 23 (-34905131041)) (by decide +kernel)) dX3_around_15 ?_
  refine lv_land hx hb dX3_around_18 ?_
  refine lv_iconst (v := (1 : Int32)) hx hb dX3_around_19 (by decide) ?_
  refine lv_lshl hx hb dX3_around_20 rfl ?_
  refine lv_topl (fun a3 ea3 => ?_)
  have hF := zbn_t ea3 hF
  refine lv_lstore (lv' := [(6, .long a3), (4, .long a2), (2, .long a1), (0, .long p0)]) hx hb dX3_around_21 hl (by decide) rfl (fun ls hl => ?_)
  refine lv_lload_n hx hb dX3_around_23 rfl (lv_at hl 3 rfl) ?_
  refine lv_bipush (v := (6 : Int32)) hx hb dX3_around_24 (by decide) ?_
  refine lv_lshl hx hb dX3_around_26 rfl ?_
  refine lv_ldc2 (v := (68719476735 : Int64)) hx hb hown (hts (.constantLong RX3 25 (68719476735)) (by decide +kernel)) dX3_around_27 ?_
  refine lv_land hx hb dX3_around_30 ?_
  refine lv_topl (fun a4 ea4 => ?_)
  have hF := zbn_t ea4 hF
  refine lv_lstore (lv' := [(8, .long a4), (6, .long a3), (4, .long a2), (2, .long a1), (0, .long p0)]) hx hb dX3_around_31 hl (by decide) rfl (fun ls hl => ?_)
  refine lv_lload_n hx hb dX3_around_33 rfl (lv_at hl 3 rfl) ?_
  refine lv_lload hx hb dX3_around_34 (lv_at hl 2 rfl) ?_
  refine lv_lor hx hb dX3_around_36 ?_
  refine lv_lload hx hb dX3_around_37 (lv_at hl 1 rfl) ?_
  refine lv_lor hx hb dX3_around_39 ?_
  refine lv_lload hx hb dX3_around_40 (lv_at hl 0 rfl) ?_
  refine lv_lor hx hb dX3_around_42 ?_
  obtain rfl := Option.some.inj hF
  exact hret _ _ _ _  hw dX3_around_43

/-! SealedBoard$Sets.reached(JJ)J -/
abbrev rmX3_reached : Room := { frames := 1, cells := 0, slots := 0, locals := 29 }
theorem kdX3_reached : yX3_reached.cls ≠ "java/lang/invoke/MethodHandle" ∧ yX3_reached.cls ≠ "java/lang/invoke/VarHandle" ∧ (parseMethodDescriptor yX3_reached.desc).map (fun d => d.parameters.length) = some 2 := by decide +kernel
def fX3_reached_8   : Nat → Int64 → Int64 → Int32 → Option (Int64)
  | 0, _, _, _ => none
  | n + 1, x2, x4, x6 => (if (36 : Int32) ≤ x6 then (some (x4)) else (zbd (fX3_around x4) (fun u1 => (zbn ((x4 ||| u1) &&& x2) (fun a3 => (if (lg_cmp a3 x4) = 0 then (some (x4)) else (zbn (x6 + (1 : Int32)) (fun a4 => (fX3_reached_8   n x2 a3 a4)))))))))
def fX3_reached (p0 : Int64) (p1 : Int64) : Option (Int64) := (zbn (p0 &&& p1) (fun a1 => (fX3_reached_8   zFu p1 a1 (0 : Int32))))
set_option maxHeartbeats 400000 in
set_option maxRecDepth 100000 in
theorem wX3_reached_8 {p : Program} {l : Launch} {e : Env} {s : State} {m : MethodId} {args : Array Value} {below : List Frame} {meth : Method} {c : Code} {A : Nat → Prop} {Q : State → Prop} {G : va_G} {k : Nat → ClassId}   {o : Int64} (C0 : zCx p s m args meth c wsX3_reached cX3_reached RX3 (some .long) 9) (hK : zKK G k A s s.heap) (hA : ∀ q : Nat, s.heap.size ≤ q → A q) (hret : zRL p l e rmX3_reached s m args below meth c cX3_reached G A 0 0 Q (zE0 k) o)  : ∀ (n : Nat) (x2 : Int64) (x4 : Int64) (x6 : Int32), fX3_reached_8   n x2 x4 x6 = some o → ∀ (H : Heap) (locs : List Loc) (ls : Array Slot), zWd G A s (zE0 k) H locs → lv_has ls 9 [(2, .long x2), (4, .long x4), (6, .int x6)] → W p l e rmX3_reached s m args below meth c H locs 0 0 Q (F0 m 8 ls []) := by
  obtain ⟨hx, hb, hr, hml, hown, hts, hlocks⟩ := id C0
  intro n
  induction n with
  | zero => intro x2 x4 x6 hF; exact nomatch hF
  | succ n ih =>
    intro x2 x4 x6 hF H locs ls hw hl
    rw [fX3_reached_8] at hF
    refine lv_iload hx hb dX3_reached_8 (lv_at hl 2 rfl) ?_
    refine lv_bipush (v := (36 : Int32)) hx hb dX3_reached_10 (by decide) ?_
    refine lv_icmp_ge (tgt := 48) hx hb dX3_reached_12 (by decide) (fun hc => ?_) (fun hc => ?_)
    · have hF := zif_t hc hF
      refine lv_lload hx hb dX3_reached_48 (lv_at hl 1 rfl) ?_
      obtain rfl := Option.some.inj hF
      exact hret _ _ _ _  hw dX3_reached_50
    · have hF := zif_f hc hF
      refine lv_lload hx hb dX3_reached_15 (lv_at hl 1 rfl) ?_
      refine lv_lload hx hb dX3_reached_17 (lv_at hl 1 rfl) ?_
      obtain ⟨u1, hq2, hF⟩ := zbd_t hF
      refine zgoL (w' := (zE0 k)) hw hA [] rfl (zS (As := [.long x4]) (rest := [.long x4]) ⟨hx, hb, hml, hown, hts⟩ (mX3_around l G k  H.size  x4 u1 hq2) (va_cwS 1 hts gX3_reached_X3_around rfl rfl rfl kdX3_around ⟨Nat.le_of_ble_eq_true rfl, Nat.le_of_ble_eq_true rfl⟩) hK hA hw [] rfl (by decide) rfl hl.1 rfl (Nat.le_of_ble_eq_true rfl) dX3_reached_19 ⟨Nat.le_of_ble_eq_true rfl, Nat.le_of_ble_eq_true rfl⟩) rfl rfl rfl (fun H locs hw => ?_)
      refine lv_lor hx hb dX3_reached_22 ?_
      refine lv_lload_n hx hb dX3_reached_23 rfl (lv_at hl 0 rfl) ?_
      refine lv_land hx hb dX3_reached_24 ?_
      refine lv_topl (fun a3 ea3 => ?_)
      have hF := zbn_t ea3 hF
      refine lv_lstore (lv' := [(7, .long a3), (2, .long x2), (4, .long x4), (6, .int x6)]) hx hb dX3_reached_25 hl (by decide) rfl (fun ls hl => ?_)
      refine lv_lload hx hb dX3_reached_27 (lv_at hl 0 rfl) ?_
      refine lv_lload hx hb dX3_reached_29 (lv_at hl 2 rfl) ?_
      refine W.lcmp hx hb dX3_reached_31 ?_
      refine lv_if_ne (tgt := 38) hx hb dX3_reached_32 (by decide) (fun hc => ?_) (fun hc => ?_)
      · have hF := zif_f hc hF
        refine lv_lload hx hb dX3_reached_38 (lv_at hl 0 rfl) ?_
        refine lv_lstore (lv' := [(4, .long a3), (7, .long a3), (2, .long x2), (6, .int x6)]) hx hb dX3_reached_40 hl (by decide) rfl (fun ls hl => ?_)
        obtain ⟨a4, ea4⟩ : ∃ z : Int32, z = x6 + (1 : Int32) := ⟨_, rfl⟩
        have hF := zbn_t ea4 hF
        refine lv_iinc (v := a4) (lv' := [(6, .int a4), (4, .long a3), (7, .long a3), (2, .long x2)]) hx hb dX3_reached_42 hl (k := 3) rfl (by rw [ea4]; rfl) (by decide) rfl (fun ls hl => ?_)
        refine lv_goto (tgt := 8) hx hb dX3_reached_45 (by decide) ?_
        exact ih _ _ _ hF _ _ _ hw (lv_sub hl [3, 1, 0] rfl)
      · have hF := zif_t hc hF
        refine lv_lload hx hb dX3_reached_35 (lv_at hl 2 rfl) ?_
        obtain rfl := Option.some.inj hF
        exact hret _ _ _ _  hw dX3_reached_37
set_option maxHeartbeats 400000 in
set_option maxRecDepth 100000 in
theorem mX3_reached (l : Launch) (G : va_G) (k : Nat → ClassId)  (sz : Nat)  (p0 : Int64) (p1 : Int64) (o : Int64) (hF : fX3_reached p0 p1 = some o) : zML l yX3_reached wsX3_reached rmX3_reached G k (zE0 k) sz [.long p0, .long p1] o (zE0 k) := by
  refine zof_L (cc := cX3_reached) (nL := 9) (own := RX3) (by decide) rfl rfl (Nat.le_of_ble_eq_true rfl) ?_
  intro p e s m args below meth c A Q C0 hK hA hret ls hl hw
  have hl : lv_has ls 9 [(0, .long p0), (2, .long p1)] := hl
  obtain ⟨hx, hb, hr, hml, hown, hts, hlocks⟩ := id C0
  obtain ⟨H, hH⟩ : ∃ z, z = s.heap := ⟨_, rfl⟩
  rw [← hH] at hw ⊢
  unfold fX3_reached at hF
  refine lv_lload_n hx hb dX3_reached_0 rfl (lv_at hl 0 rfl) ?_
  refine lv_lload_n hx hb dX3_reached_1 rfl (lv_at hl 1 rfl) ?_
  refine lv_land hx hb dX3_reached_2 ?_
  refine lv_topl (fun a1 ea1 => ?_)
  have hF := zbn_t ea1 hF
  refine lv_lstore (lv' := [(4, .long a1), (0, .long p0), (2, .long p1)]) hx hb dX3_reached_3 hl (by decide) rfl (fun ls hl => ?_)
  refine lv_iconst (v := (0 : Int32)) hx hb dX3_reached_5 (by decide) ?_
  refine lv_istore (lv' := [(6, .int (0 : Int32)), (4, .long a1), (0, .long p0), (2, .long p1)]) hx hb dX3_reached_6 hl (by decide) rfl (fun ls hl => ?_)
  exact wX3_reached_8 C0 hK hA hret  zFu _ _ _ hF _ _ _ hw (lv_sub hl [3, 1, 0] rfl)

/-! SealedBoard$Sets.lowestRoom(J)J -/
abbrev rmX3_lowestRoom : Room := { frames := 2, cells := 0, slots := 0, locals := 57 }
theorem kdX3_lowestRoom : yX3_lowestRoom.cls ≠ "java/lang/invoke/MethodHandle" ∧ yX3_lowestRoom.cls ≠ "java/lang/invoke/VarHandle" ∧ (parseMethodDescriptor yX3_lowestRoom.desc).map (fun d => d.parameters.length) = some 1 := by decide +kernel
def fX3_lowestRoom (p0 : Int64) : Option (Int64) := (zbd (fX3_reached (p0 &&& (-p0)) p0) (fun u1 => (some (u1))))
set_option maxHeartbeats 400000 in
set_option maxRecDepth 100000 in
theorem mX3_lowestRoom (l : Launch) (G : va_G) (k : Nat → ClassId)  (sz : Nat)  (p0 : Int64) (o : Int64) (hF : fX3_lowestRoom p0 = some o) : zML l yX3_lowestRoom wsX3_lowestRoom rmX3_lowestRoom G k (zE0 k) sz [.long p0] o (zE0 k) := by
  refine zof_L (cc := cX3_lowestRoom) (nL := 2) (own := RX3) (by decide) rfl rfl (Nat.le_of_ble_eq_true rfl) ?_
  intro p e s m args below meth c A Q C0 hK hA hret ls hl hw
  have hl : lv_has ls 2 [(0, .long p0)] := hl
  obtain ⟨hx, hb, hr, hml, hown, hts, hlocks⟩ := id C0
  obtain ⟨H, hH⟩ : ∃ z, z = s.heap := ⟨_, rfl⟩
  rw [← hH] at hw ⊢
  unfold fX3_lowestRoom at hF
  refine lv_lload_n hx hb dX3_lowestRoom_0 rfl (lv_at hl 0 rfl) ?_
  refine lv_lload_n hx hb dX3_lowestRoom_1 rfl (lv_at hl 0 rfl) ?_
  refine lv_lneg hx hb dX3_lowestRoom_2 ?_
  refine lv_land hx hb dX3_lowestRoom_3 ?_
  refine lv_lload_n hx hb dX3_lowestRoom_4 rfl (lv_at hl 0 rfl) ?_
  obtain ⟨u1, hq2, hF⟩ := zbd_t hF
  refine zgoL (w' := (zE0 k)) hw hA [] rfl (zS (As := [.long (p0 &&& (-p0)), .long p0]) (rest := []) ⟨hx, hb, hml, hown, hts⟩ (mX3_reached l G k  H.size  (p0 &&& (-p0)) p0 u1 hq2) (va_cwS 2 hts gX3_lowestRoom_X3_reached rfl rfl rfl kdX3_reached ⟨Nat.le_of_ble_eq_true rfl, Nat.le_of_ble_eq_true rfl⟩) hK hA hw [] rfl (by decide) rfl hl.1 rfl (Nat.le_of_ble_eq_true rfl) dX3_lowestRoom_5 ⟨Nat.le_of_ble_eq_true rfl, Nat.le_of_ble_eq_true rfl⟩) rfl rfl rfl (fun H locs hw => ?_)
  obtain rfl := Option.some.inj hF
  exact hret _ _ _ _  hw dX3_lowestRoom_8

/-! SealedBoard$Sets.stepped(JI)J -/
abbrev rmX3_stepped : Room := { frames := 0, cells := 0, slots := 0, locals := 0 }
theorem kdX3_stepped : yX3_stepped.cls ≠ "java/lang/invoke/MethodHandle" ∧ yX3_stepped.cls ≠ "java/lang/invoke/VarHandle" ∧ (parseMethodDescriptor yX3_stepped.desc).map (fun d => d.parameters.length) = some 2 := by decide +kernel
def fX3_stepped (p0 : Int64) (p1 : Int32) : Option (Int64) := (if p1 = (0 : Int32) then (some (((p0.toUInt64 >>> ((6 : Int32).toInt64.toUInt64 &&& Int64.toUInt64 63)).toInt64))) else (if p1 = (1 : Int32) then (some ((((p0 &&& (-1090785346 : Int64)).toUInt64 >>> ((1 : Int32).toInt64.toUInt64 &&& Int64.toUInt64 63)).toInt64))) else (if p1 = (2 : Int32) then (some (((p0 &&& (-34905131041 : Int64)) <<< ((1 : Int32).toInt64 &&& 63)))) else (some (((p0 <<< ((6 : Int32).toInt64 &&& 63)) &&& (68719476735 : Int64)))))))
set_option maxHeartbeats 400000 in
set_option maxRecDepth 100000 in
theorem mX3_stepped (l : Launch) (G : va_G) (k : Nat → ClassId)  (sz : Nat)  (p0 : Int64) (p1 : Int32) (o : Int64) (hF : fX3_stepped p0 p1 = some o) : zML l yX3_stepped wsX3_stepped rmX3_stepped G k (zE0 k) sz [.long p0, .int p1] o (zE0 k) := by
  refine zof_L (cc := cX3_stepped) (nL := 3) (own := RX3) (by decide) rfl rfl (Nat.le_of_ble_eq_true rfl) ?_
  intro p e s m args below meth c A Q C0 hK hA hret ls hl hw
  have hl : lv_has ls 3 [(0, .long p0), (2, .int p1)] := hl
  obtain ⟨hx, hb, hr, hml, hown, hts, hlocks⟩ := id C0
  obtain ⟨H, hH⟩ : ∃ z, z = s.heap := ⟨_, rfl⟩
  rw [← hH] at hw ⊢
  unfold fX3_stepped at hF
  refine lv_iload_n hx hb dX3_stepped_0 rfl (lv_at hl 1 rfl) ?_
  by_cases hc1 : p1 = (0 : Int32)
  · have hF := zif_t hc1 hF
    refine lv_tableIn (tgt := 28) (off := 27) hx hb dX3_stepped_1 (by rw [hc1]; decide) (by rw [hc1]; decide) (by rw [hc1]; rfl) (by decide) ?_
    refine lv_lload_n hx hb dX3_stepped_28 rfl (lv_at hl 0 rfl) ?_
    refine lv_bipush (v := (6 : Int32)) hx hb dX3_stepped_29 (by decide) ?_
    refine lv_lushr hx hb dX3_stepped_31 rfl ?_
    obtain rfl := Option.some.inj hF
    exact hret _ _ _ _  hw dX3_stepped_32
  have hF := zif_f hc1 hF
  by_cases hc2 : p1 = (1 : Int32)
  · have hF := zif_t hc2 hF
    refine lv_tableIn (tgt := 33) (off := 32) hx hb dX3_stepped_1 (by rw [hc2]; decide) (by rw [hc2]; decide) (by rw [hc2]; rfl) (by decide) ?_
    refine lv_lload_n hx hb dX3_stepped_33 rfl (lv_at hl 0 rfl) ?_
    refine lv_ldc2 (v := (-1090785346 : Int64)) hx hb hown (hts (.constantLong RX3 21 (-1090785346)) (by decide +kernel)) dX3_stepped_34 ?_
    refine lv_land hx hb dX3_stepped_37 ?_
    refine lv_iconst (v := (1 : Int32)) hx hb dX3_stepped_38 (by decide) ?_
    refine lv_lushr hx hb dX3_stepped_39 rfl ?_
    obtain rfl := Option.some.inj hF
    exact hret _ _ _ _  hw dX3_stepped_40
  have hF := zif_f hc2 hF
  by_cases hc3 : p1 = (2 : Int32)
  · have hF := zif_t hc3 hF
    refine lv_tableIn (tgt := 41) (off := 40) hx hb dX3_stepped_1 (by rw [hc3]; decide) (by rw [hc3]; decide) (by rw [hc3]; rfl) (by decide) ?_
    refine lv_lload_n hx hb dX3_stepped_41 rfl (lv_at hl 0 rfl) ?_
    refine lv_ldc2 (v := (-34905131041 : Int64)) hx hb hown (hts (.constantLong RX3 23 (-34905131041)) (by decide +kernel)) dX3_stepped_42 ?_
    refine lv_land hx hb dX3_stepped_45 ?_
    refine lv_iconst (v := (1 : Int32)) hx hb dX3_stepped_46 (by decide) ?_
    refine lv_lshl hx hb dX3_stepped_47 rfl ?_
    obtain rfl := Option.some.inj hF
    exact hret _ _ _ _  hw dX3_stepped_48
  have hF := zif_f hc3 hF
  refine lv_tableOut (tgt := 49) hx hb dX3_stepped_1 (by
    have q0 : p1.toInt ≠ 0 := fun q => hc1 (Int32.toInt_inj.mp q)
    have q1 : p1.toInt ≠ 1 := fun q => hc2 (Int32.toInt_inj.mp q)
    have q2 : p1.toInt ≠ 2 := fun q => hc3 (Int32.toInt_inj.mp q)
    omega) (by decide) ?_
  refine lv_lload_n hx hb dX3_stepped_49 rfl (lv_at hl 0 rfl) ?_
  refine lv_bipush (v := (6 : Int32)) hx hb dX3_stepped_50 (by decide) ?_
  refine lv_lshl hx hb dX3_stepped_52 rfl ?_
  refine lv_ldc2 (v := (68719476735 : Int64)) hx hb hown (hts (.constantLong RX3 25 (68719476735)) (by decide +kernel)) dX3_stepped_53 ?_
  refine lv_land hx hb dX3_stepped_56 ?_
  obtain rfl := Option.some.inj hF
  exact hret _ _ _ _  hw dX3_stepped_57

/-! SealedBoard$Sets.alongLines(JJ)J -/
abbrev rmX3_alongLines : Room := { frames := 1, cells := 0, slots := 0, locals := 22 }
theorem kdX3_alongLines : yX3_alongLines.cls ≠ "java/lang/invoke/MethodHandle" ∧ yX3_alongLines.cls ≠ "java/lang/invoke/VarHandle" ∧ (parseMethodDescriptor yX3_alongLines.desc).map (fun d => d.parameters.length) = some 2 := by decide +kernel
def fX3_alongLines_63 (k6 : Int64 → Int64 → Int64 → Int32 → Option (Int64))  (x0 : Int64) (x2 : Int64) (x4 : Int64) (x6 : Int32) : Option (Int64) := (zbn (x6 + (1 : Int32)) (fun a1 => (k6 x0 x2 x4 a1)))
def fX3_alongLines_25 (k6 : Int64 → Int64 → Int64 → Int32 → Option (Int64))  : Nat → Int64 → Int64 → Int64 → Int32 → Int64 → Int32 → Option (Int64)
  | 0, _, _, _, _, _, _ => none
  | n + 1, x0, x2, x4, x6, x7, x9 => (if (6 : Int32) ≤ x9 then (fX3_alongLines_63 k6   x0 x2 x4 x6) else (if (lg_cmp x7 (0 : Int64)) = 0 then (fX3_alongLines_63 k6   x0 x2 x4 x6) else (zbn (x4 ||| x7) (fun a1 => (zbd (fX3_stepped x7 x6) (fun u2 => (zbn (u2 &&& x2) (fun a4 => (zbn (x9 + (1 : Int32)) (fun a5 => (fX3_alongLines_25 k6  n x0 x2 a1 x6 a4 a5)))))))))))
def fX3_alongLines_6   : Nat → Int64 → Int64 → Int64 → Int32 → Option (Int64)
  | 0, _, _, _, _ => none
  | n + 1, x0, x2, x4, x6 => (if (4 : Int32) ≤ x6 then (some (x4)) else (zbd (fX3_stepped x0 x6) (fun u1 => (zbn (u1 &&& x2) (fun a3 => (fX3_alongLines_25 (fun b0 b1 b2 b3 => fX3_alongLines_6   n b0 b1 b2 b3)  zFu x0 x2 x4 x6 a3 (1 : Int32)))))))
def fX3_alongLines (p0 : Int64) (p1 : Int64) : Option (Int64) := (fX3_alongLines_6   zFu p0 p1 (0 : Int64) (0 : Int32))
set_option maxHeartbeats 400000 in
set_option maxRecDepth 100000 in
theorem wX3_alongLines_63 {p : Program} {l : Launch} {e : Env} {s : State} {m : MethodId} {args : Array Value} {below : List Frame} {meth : Method} {c : Code} {A : Nat → Prop} {Q : State → Prop} {G : va_G} {k : Nat → ClassId}   {o : Int64} (C0 : zCx p s m args meth c wsX3_alongLines cX3_alongLines RX3 (some .long) 10) (hK : zKK G k A s s.heap) (hA : ∀ q : Nat, s.heap.size ≤ q → A q) (hret : zRL p l e rmX3_alongLines s m args below meth c cX3_alongLines G A 0 0 Q (zE0 k) o) (k6 : Int64 → Int64 → Int64 → Int32 → Option (Int64)) (hk6 : ∀ (x0 : Int64) (x2 : Int64) (x4 : Int64) (x6 : Int32), k6 x0 x2 x4 x6 = some o → ∀ (H : Heap) (locs : List Loc) (ls : Array Slot), zWd G A s (zE0 k) H locs → lv_has ls 10 [(0, .long x0), (2, .long x2), (4, .long x4), (6, .int x6)] → W p l e rmX3_alongLines s m args below meth c H locs 0 0 Q (F0 m 6 ls [])) : ∀ (x0 : Int64) (x2 : Int64) (x4 : Int64) (x6 : Int32), fX3_alongLines_63 k6  x0 x2 x4 x6 = some o → ∀ (H : Heap) (locs : List Loc) (ls : Array Slot), zWd G A s (zE0 k) H locs → lv_has ls 10 [(0, .long x0), (2, .long x2), (4, .long x4), (6, .int x6)] → W p l e rmX3_alongLines s m args below meth c H locs 0 0 Q (F0 m 63 ls []) := by
  obtain ⟨hx, hb, hr, hml, hown, hts, hlocks⟩ := id C0
  intro x0 x2 x4 x6 hF H locs ls hw hl
  unfold fX3_alongLines_63 at hF
  obtain ⟨a1, ea1⟩ : ∃ z : Int32, z = x6 + (1 : Int32) := ⟨_, rfl⟩
  have hF := zbn_t ea1 hF
  refine lv_iinc (v := a1) (lv' := [(6, .int a1), (0, .long x0), (2, .long x2), (4, .long x4)]) hx hb dX3_alongLines_63 hl (k := 3) rfl (by rw [ea1]; rfl) (by decide) rfl (fun ls hl => ?_)
  refine lv_goto (tgt := 6) hx hb dX3_alongLines_66 (by decide) ?_
  exact hk6 _ _ _ _ hF _ _ _ hw (lv_sub hl [1, 2, 3, 0] rfl)
set_option maxHeartbeats 400000 in
set_option maxRecDepth 100000 in
theorem wX3_alongLines_25 {p : Program} {l : Launch} {e : Env} {s : State} {m : MethodId} {args : Array Value} {below : List Frame} {meth : Method} {c : Code} {A : Nat → Prop} {Q : State → Prop} {G : va_G} {k : Nat → ClassId}   {o : Int64} (C0 : zCx p s m args meth c wsX3_alongLines cX3_alongLines RX3 (some .long) 10) (hK : zKK G k A s s.heap) (hA : ∀ q : Nat, s.heap.size ≤ q → A q) (hret : zRL p l e rmX3_alongLines s m args below meth c cX3_alongLines G A 0 0 Q (zE0 k) o) (k6 : Int64 → Int64 → Int64 → Int32 → Option (Int64)) (hk6 : ∀ (x0 : Int64) (x2 : Int64) (x4 : Int64) (x6 : Int32), k6 x0 x2 x4 x6 = some o → ∀ (H : Heap) (locs : List Loc) (ls : Array Slot), zWd G A s (zE0 k) H locs → lv_has ls 10 [(0, .long x0), (2, .long x2), (4, .long x4), (6, .int x6)] → W p l e rmX3_alongLines s m args below meth c H locs 0 0 Q (F0 m 6 ls [])) : ∀ (n : Nat) (x0 : Int64) (x2 : Int64) (x4 : Int64) (x6 : Int32) (x7 : Int64) (x9 : Int32), fX3_alongLines_25 k6  n x0 x2 x4 x6 x7 x9 = some o → ∀ (H : Heap) (locs : List Loc) (ls : Array Slot), zWd G A s (zE0 k) H locs → lv_has ls 10 [(0, .long x0), (2, .long x2), (4, .long x4), (6, .int x6), (7, .long x7), (9, .int x9)] → W p l e rmX3_alongLines s m args below meth c H locs 0 0 Q (F0 m 25 ls []) := by
  obtain ⟨hx, hb, hr, hml, hown, hts, hlocks⟩ := id C0
  intro n
  induction n with
  | zero => intro x0 x2 x4 x6 x7 x9 hF; exact nomatch hF
  | succ n ih =>
    intro x0 x2 x4 x6 x7 x9 hF H locs ls hw hl
    rw [fX3_alongLines_25] at hF
    refine lv_iload hx hb dX3_alongLines_25 (lv_at hl 5 rfl) ?_
    refine lv_bipush (v := (6 : Int32)) hx hb dX3_alongLines_27 (by decide) ?_
    refine lv_icmp_ge (tgt := 63) hx hb dX3_alongLines_29 (by decide) (fun hc => ?_) (fun hc => ?_)
    · have hF := zif_t hc hF
      exact wX3_alongLines_63 C0 hK hA hret k6 hk6  _ _ _ _ hF _ _ _ hw (lv_sub hl [0, 1, 2, 3] rfl)
    · have hF := zif_f hc hF
      refine lv_lload hx hb dX3_alongLines_32 (lv_at hl 4 rfl) ?_
      refine lv_lconst (v := (0 : Int64)) hx hb dX3_alongLines_34 (by decide) ?_
      refine W.lcmp hx hb dX3_alongLines_35 ?_
      refine lv_if_eq (tgt := 63) hx hb dX3_alongLines_36 (by decide) (fun hc => ?_) (fun hc => ?_)
      · have hF := zif_t hc hF
        exact wX3_alongLines_63 C0 hK hA hret k6 hk6  _ _ _ _ hF _ _ _ hw (lv_sub hl [0, 1, 2, 3] rfl)
      · have hF := zif_f hc hF
        refine lv_lload hx hb dX3_alongLines_39 (lv_at hl 2 rfl) ?_
        refine lv_lload hx hb dX3_alongLines_41 (lv_at hl 4 rfl) ?_
        refine lv_lor hx hb dX3_alongLines_43 ?_
        refine lv_topl (fun a1 ea1 => ?_)
        have hF := zbn_t ea1 hF
        refine lv_lstore (lv' := [(4, .long a1), (0, .long x0), (2, .long x2), (6, .int x6), (7, .long x7), (9, .int x9)]) hx hb dX3_alongLines_44 hl (by decide) rfl (fun ls hl => ?_)
        refine lv_lload hx hb dX3_alongLines_46 (lv_at hl 4 rfl) ?_
        refine lv_iload hx hb dX3_alongLines_48 (lv_at hl 3 rfl) ?_
        obtain ⟨u2, hq3, hF⟩ := zbd_t hF
        refine zgoL (w' := (zE0 k)) hw hA [] rfl (zS (As := [.long x7, .int x6]) (rest := []) ⟨hx, hb, hml, hown, hts⟩ (mX3_stepped l G k  H.size  x7 x6 u2 hq3) (va_cwS 2 hts gX3_alongLines_X3_stepped rfl rfl rfl kdX3_stepped ⟨Nat.le_of_ble_eq_true rfl, Nat.le_of_ble_eq_true rfl⟩) hK hA hw [] rfl (by decide) rfl hl.1 rfl (Nat.le_of_ble_eq_true rfl) dX3_alongLines_50 ⟨Nat.le_of_ble_eq_true rfl, Nat.le_of_ble_eq_true rfl⟩) rfl rfl rfl (fun H locs hw => ?_)
        refine lv_lload_n hx hb dX3_alongLines_53 rfl (lv_at hl 2 rfl) ?_
        refine lv_land hx hb dX3_alongLines_54 ?_
        refine lv_topl (fun a4 ea4 => ?_)
        have hF := zbn_t ea4 hF
        refine lv_lstore (lv' := [(7, .long a4), (4, .long a1), (0, .long x0), (2, .long x2), (6, .int x6), (9, .int x9)]) hx hb dX3_alongLines_55 hl (by decide) rfl (fun ls hl => ?_)
        obtain ⟨a5, ea5⟩ : ∃ z : Int32, z = x9 + (1 : Int32) := ⟨_, rfl⟩
        have hF := zbn_t ea5 hF
        refine lv_iinc (v := a5) (lv' := [(9, .int a5), (7, .long a4), (4, .long a1), (0, .long x0), (2, .long x2), (6, .int x6)]) hx hb dX3_alongLines_57 hl (k := 5) rfl (by rw [ea5]; rfl) (by decide) rfl (fun ls hl => ?_)
        refine lv_goto (tgt := 25) hx hb dX3_alongLines_60 (by decide) ?_
        exact ih _ _ _ _ _ _ hF _ _ _ hw (lv_sub hl [3, 4, 2, 5, 1, 0] rfl)
set_option maxHeartbeats 400000 in
set_option maxRecDepth 100000 in
theorem wX3_alongLines_6 {p : Program} {l : Launch} {e : Env} {s : State} {m : MethodId} {args : Array Value} {below : List Frame} {meth : Method} {c : Code} {A : Nat → Prop} {Q : State → Prop} {G : va_G} {k : Nat → ClassId}   {o : Int64} (C0 : zCx p s m args meth c wsX3_alongLines cX3_alongLines RX3 (some .long) 10) (hK : zKK G k A s s.heap) (hA : ∀ q : Nat, s.heap.size ≤ q → A q) (hret : zRL p l e rmX3_alongLines s m args below meth c cX3_alongLines G A 0 0 Q (zE0 k) o)  : ∀ (n : Nat) (x0 : Int64) (x2 : Int64) (x4 : Int64) (x6 : Int32), fX3_alongLines_6   n x0 x2 x4 x6 = some o → ∀ (H : Heap) (locs : List Loc) (ls : Array Slot), zWd G A s (zE0 k) H locs → lv_has ls 10 [(0, .long x0), (2, .long x2), (4, .long x4), (6, .int x6)] → W p l e rmX3_alongLines s m args below meth c H locs 0 0 Q (F0 m 6 ls []) := by
  obtain ⟨hx, hb, hr, hml, hown, hts, hlocks⟩ := id C0
  intro n
  induction n with
  | zero => intro x0 x2 x4 x6 hF; exact nomatch hF
  | succ n ih =>
    intro x0 x2 x4 x6 hF H locs ls hw hl
    rw [fX3_alongLines_6] at hF
    refine lv_iload hx hb dX3_alongLines_6 (lv_at hl 3 rfl) ?_
    refine lv_iconst (v := (4 : Int32)) hx hb dX3_alongLines_8 (by decide) ?_
    refine lv_icmp_ge (tgt := 69) hx hb dX3_alongLines_9 (by decide) (fun hc => ?_) (fun hc => ?_)
    · have hF := zif_t hc hF
      refine lv_lload hx hb dX3_alongLines_69 (lv_at hl 2 rfl) ?_
      obtain rfl := Option.some.inj hF
      exact hret _ _ _ _  hw dX3_alongLines_71
    · have hF := zif_f hc hF
      refine lv_lload_n hx hb dX3_alongLines_12 rfl (lv_at hl 0 rfl) ?_
      refine lv_iload hx hb dX3_alongLines_13 (lv_at hl 3 rfl) ?_
      obtain ⟨u1, hq2, hF⟩ := zbd_t hF
      refine zgoL (w' := (zE0 k)) hw hA [] rfl (zS (As := [.long x0, .int x6]) (rest := []) ⟨hx, hb, hml, hown, hts⟩ (mX3_stepped l G k  H.size  x0 x6 u1 hq2) (va_cwS 2 hts gX3_alongLines_X3_stepped rfl rfl rfl kdX3_stepped ⟨Nat.le_of_ble_eq_true rfl, Nat.le_of_ble_eq_true rfl⟩) hK hA hw [] rfl (by decide) rfl hl.1 rfl (Nat.le_of_ble_eq_true rfl) dX3_alongLines_15 ⟨Nat.le_of_ble_eq_true rfl, Nat.le_of_ble_eq_true rfl⟩) rfl rfl rfl (fun H locs hw => ?_)
      refine lv_lload_n hx hb dX3_alongLines_18 rfl (lv_at hl 1 rfl) ?_
      refine lv_land hx hb dX3_alongLines_19 ?_
      refine lv_topl (fun a3 ea3 => ?_)
      have hF := zbn_t ea3 hF
      refine lv_lstore (lv' := [(7, .long a3), (0, .long x0), (2, .long x2), (4, .long x4), (6, .int x6)]) hx hb dX3_alongLines_20 hl (by decide) rfl (fun ls hl => ?_)
      refine lv_iconst (v := (1 : Int32)) hx hb dX3_alongLines_22 (by decide) ?_
      refine lv_istore (lv' := [(9, .int (1 : Int32)), (7, .long a3), (0, .long x0), (2, .long x2), (4, .long x4), (6, .int x6)]) hx hb dX3_alongLines_23 hl (by decide) rfl (fun ls hl => ?_)
      exact wX3_alongLines_25 C0 hK hA hret (fun b0 b1 b2 b3 => fX3_alongLines_6   n b0 b1 b2 b3) ih zFu _ _ _ _ _ _ hF _ _ _ hw (lv_sub hl [2, 3, 4, 5, 1, 0] rfl)
set_option maxHeartbeats 400000 in
set_option maxRecDepth 100000 in
theorem mX3_alongLines (l : Launch) (G : va_G) (k : Nat → ClassId)  (sz : Nat)  (p0 : Int64) (p1 : Int64) (o : Int64) (hF : fX3_alongLines p0 p1 = some o) : zML l yX3_alongLines wsX3_alongLines rmX3_alongLines G k (zE0 k) sz [.long p0, .long p1] o (zE0 k) := by
  refine zof_L (cc := cX3_alongLines) (nL := 10) (own := RX3) (by decide) rfl rfl (Nat.le_of_ble_eq_true rfl) ?_
  intro p e s m args below meth c A Q C0 hK hA hret ls hl hw
  have hl : lv_has ls 10 [(0, .long p0), (2, .long p1)] := hl
  obtain ⟨hx, hb, hr, hml, hown, hts, hlocks⟩ := id C0
  obtain ⟨H, hH⟩ : ∃ z, z = s.heap := ⟨_, rfl⟩
  rw [← hH] at hw ⊢
  unfold fX3_alongLines at hF
  refine lv_lconst (v := (0 : Int64)) hx hb dX3_alongLines_0 (by decide) ?_
  refine lv_lstore (lv' := [(4, .long (0 : Int64)), (0, .long p0), (2, .long p1)]) hx hb dX3_alongLines_1 hl (by decide) rfl (fun ls hl => ?_)
  refine lv_iconst (v := (0 : Int32)) hx hb dX3_alongLines_3 (by decide) ?_
  refine lv_istore (lv' := [(6, .int (0 : Int32)), (4, .long (0 : Int64)), (0, .long p0), (2, .long p1)]) hx hb dX3_alongLines_4 hl (by decide) rfl (fun ls hl => ?_)
  exact wX3_alongLines_6 C0 hK hA hret  zFu _ _ _ _ hF _ _ _ hw (lv_sub hl [2, 3, 1, 0] rfl)

/-! SealedBoard$Sets.byWalking(JJI)J -/
abbrev rmX3_byWalking : Room := { frames := 1, cells := 0, slots := 0, locals := 29 }
theorem kdX3_byWalking : yX3_byWalking.cls ≠ "java/lang/invoke/MethodHandle" ∧ yX3_byWalking.cls ≠ "java/lang/invoke/VarHandle" ∧ (parseMethodDescriptor yX3_byWalking.desc).map (fun d => d.parameters.length) = some 3 := by decide +kernel
def fX3_byWalking_11   : Nat → Int64 → Int32 → Int64 → Int32 → Option (Int64)
  | 0, _, _, _, _ => none
  | n + 1, x2, x4, x5, x7 => (if x4 ≤ x7 then (some (x5)) else (zbd (fX3_around x5) (fun u1 => (zbn (x5 ||| (u1 &&& x2)) (fun a3 => (zbn (x7 + (1 : Int32)) (fun a4 => (fX3_byWalking_11   n x2 x4 a3 a4))))))))
def fX3_byWalking (p0 : Int64) (p1 : Int64) (p2 : Int32) : Option (Int64) := (zbd (fX3_around p0) (fun u1 => (zbn (u1 &&& p1) (fun a3 => (fX3_byWalking_11   zFu p1 p2 a3 (1 : Int32))))))
set_option maxHeartbeats 400000 in
set_option maxRecDepth 100000 in
theorem wX3_byWalking_11 {p : Program} {l : Launch} {e : Env} {s : State} {m : MethodId} {args : Array Value} {below : List Frame} {meth : Method} {c : Code} {A : Nat → Prop} {Q : State → Prop} {G : va_G} {k : Nat → ClassId}   {o : Int64} (C0 : zCx p s m args meth c wsX3_byWalking cX3_byWalking RX3 (some .long) 8) (hK : zKK G k A s s.heap) (hA : ∀ q : Nat, s.heap.size ≤ q → A q) (hret : zRL p l e rmX3_byWalking s m args below meth c cX3_byWalking G A 0 0 Q (zE0 k) o)  : ∀ (n : Nat) (x2 : Int64) (x4 : Int32) (x5 : Int64) (x7 : Int32), fX3_byWalking_11   n x2 x4 x5 x7 = some o → ∀ (H : Heap) (locs : List Loc) (ls : Array Slot), zWd G A s (zE0 k) H locs → lv_has ls 8 [(2, .long x2), (4, .int x4), (5, .long x5), (7, .int x7)] → W p l e rmX3_byWalking s m args below meth c H locs 0 0 Q (F0 m 11 ls []) := by
  obtain ⟨hx, hb, hr, hml, hown, hts, hlocks⟩ := id C0
  intro n
  induction n with
  | zero => intro x2 x4 x5 x7 hF; exact nomatch hF
  | succ n ih =>
    intro x2 x4 x5 x7 hF H locs ls hw hl
    rw [fX3_byWalking_11] at hF
    refine lv_iload hx hb dX3_byWalking_11 (lv_at hl 3 rfl) ?_
    refine lv_iload hx hb dX3_byWalking_13 (lv_at hl 1 rfl) ?_
    refine lv_icmp_ge (tgt := 36) hx hb dX3_byWalking_15 (by decide) (fun hc => ?_) (fun hc => ?_)
    · have hF := zif_t hc hF
      refine lv_lload hx hb dX3_byWalking_36 (lv_at hl 2 rfl) ?_
      obtain rfl := Option.some.inj hF
      exact hret _ _ _ _  hw dX3_byWalking_38
    · have hF := zif_f hc hF
      refine lv_lload hx hb dX3_byWalking_18 (lv_at hl 2 rfl) ?_
      refine lv_lload hx hb dX3_byWalking_20 (lv_at hl 2 rfl) ?_
      obtain ⟨u1, hq2, hF⟩ := zbd_t hF
      refine zgoL (w' := (zE0 k)) hw hA [] rfl (zS (As := [.long x5]) (rest := [.long x5]) ⟨hx, hb, hml, hown, hts⟩ (mX3_around l G k  H.size  x5 u1 hq2) (va_cwS 1 hts gX3_byWalking_X3_around rfl rfl rfl kdX3_around ⟨Nat.le_of_ble_eq_true rfl, Nat.le_of_ble_eq_true rfl⟩) hK hA hw [] rfl (by decide) rfl hl.1 rfl (Nat.le_of_ble_eq_true rfl) dX3_byWalking_22 ⟨Nat.le_of_ble_eq_true rfl, Nat.le_of_ble_eq_true rfl⟩) rfl rfl rfl (fun H locs hw => ?_)
      refine lv_lload_n hx hb dX3_byWalking_25 rfl (lv_at hl 0 rfl) ?_
      refine lv_land hx hb dX3_byWalking_26 ?_
      refine lv_lor hx hb dX3_byWalking_27 ?_
      refine lv_topl (fun a3 ea3 => ?_)
      have hF := zbn_t ea3 hF
      refine lv_lstore (lv' := [(5, .long a3), (2, .long x2), (4, .int x4), (7, .int x7)]) hx hb dX3_byWalking_28 hl (by decide) rfl (fun ls hl => ?_)
      obtain ⟨a4, ea4⟩ : ∃ z : Int32, z = x7 + (1 : Int32) := ⟨_, rfl⟩
      have hF := zbn_t ea4 hF
      refine lv_iinc (v := a4) (lv' := [(7, .int a4), (5, .long a3), (2, .long x2), (4, .int x4)]) hx hb dX3_byWalking_30 hl (k := 3) rfl (by rw [ea4]; rfl) (by decide) rfl (fun ls hl => ?_)
      refine lv_goto (tgt := 11) hx hb dX3_byWalking_33 (by decide) ?_
      exact ih _ _ _ _ hF _ _ _ hw (lv_sub hl [2, 3, 1, 0] rfl)
set_option maxHeartbeats 400000 in
set_option maxRecDepth 100000 in
theorem mX3_byWalking (l : Launch) (G : va_G) (k : Nat → ClassId)  (sz : Nat)  (p0 : Int64) (p1 : Int64) (p2 : Int32) (o : Int64) (hF : fX3_byWalking p0 p1 p2 = some o) : zML l yX3_byWalking wsX3_byWalking rmX3_byWalking G k (zE0 k) sz [.long p0, .long p1, .int p2] o (zE0 k) := by
  refine zof_L (cc := cX3_byWalking) (nL := 8) (own := RX3) (by decide) rfl rfl (Nat.le_of_ble_eq_true rfl) ?_
  intro p e s m args below meth c A Q C0 hK hA hret ls hl hw
  have hl : lv_has ls 8 [(0, .long p0), (2, .long p1), (4, .int p2)] := hl
  obtain ⟨hx, hb, hr, hml, hown, hts, hlocks⟩ := id C0
  obtain ⟨H, hH⟩ : ∃ z, z = s.heap := ⟨_, rfl⟩
  rw [← hH] at hw ⊢
  unfold fX3_byWalking at hF
  refine lv_lload_n hx hb dX3_byWalking_0 rfl (lv_at hl 0 rfl) ?_
  obtain ⟨u1, hq2, hF⟩ := zbd_t hF
  refine zgoL (w' := (zE0 k)) hw hA [] rfl (zS (As := [.long p0]) (rest := []) ⟨hx, hb, hml, hown, hts⟩ (mX3_around l G k  H.size  p0 u1 hq2) (va_cwS 1 hts gX3_byWalking_X3_around rfl rfl rfl kdX3_around ⟨Nat.le_of_ble_eq_true rfl, Nat.le_of_ble_eq_true rfl⟩) hK hA hw [] rfl (by decide) rfl hl.1 rfl (Nat.le_of_ble_eq_true rfl) dX3_byWalking_1 ⟨Nat.le_of_ble_eq_true rfl, Nat.le_of_ble_eq_true rfl⟩) rfl rfl rfl (fun H locs hw => ?_)
  refine lv_lload_n hx hb dX3_byWalking_4 rfl (lv_at hl 1 rfl) ?_
  refine lv_land hx hb dX3_byWalking_5 ?_
  refine lv_topl (fun a3 ea3 => ?_)
  have hF := zbn_t ea3 hF
  refine lv_lstore (lv' := [(5, .long a3), (0, .long p0), (2, .long p1), (4, .int p2)]) hx hb dX3_byWalking_6 hl (by decide) rfl (fun ls hl => ?_)
  refine lv_iconst (v := (1 : Int32)) hx hb dX3_byWalking_8 (by decide) ?_
  refine lv_istore (lv' := [(7, .int (1 : Int32)), (5, .long a3), (0, .long p0), (2, .long p1), (4, .int p2)]) hx hb dX3_byWalking_9 hl (by decide) rfl (fun ls hl => ?_)
  exact wX3_byWalking_11 C0 hK hA hret  zFu _ _ _ _ hF _ _ _ hw (lv_sub hl [3, 4, 1, 0] rfl)

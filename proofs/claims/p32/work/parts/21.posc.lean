/-! SealedBoard$Position.kindOn(I)I -/
abbrev rmX2_kindOn : Room := { frames := 1, cells := 0, slots := 0, locals := 22 }
theorem kdX2_kindOn : yX2_kindOn.cls = RX2 ∧ yX2_kindOn.cls ≠ "java/lang/invoke/MethodHandle" ∧ yX2_kindOn.cls ≠ "java/lang/invoke/VarHandle" ∧ (parseMethodDescriptor yX2_kindOn.desc).map (fun d => d.parameters.length) = some 1 := by decide +kernel
def fX2_kindOn_2  (f : Nat → Int64) : Nat → Int32 → Int32 → Option (Int32)
  | 0, _, _ => none
  | n + 1, x1, x2 => (if (4 : Int32) ≤ x2 then (some ((-1 : Int32))) else (zbd (fX2_at f ((6 : Int32) + x2)) (fun u1 => (zbd (fX3_has u1 x1) (fun u3 => (if u3 = 0 then (zbn (x2 + (1 : Int32)) (fun a5 => (fX2_kindOn_2  f n x1 a5))) else (some (x2))))))))
def fX2_kindOn (f : Nat → Int64) (p0 : Int32) : Option (Int32) := (fX2_kindOn_2  f zFu p0 (0 : Int32))
set_option maxHeartbeats 400000 in
set_option maxRecDepth 100000 in
theorem wX2_kindOn_2 {p : Program} {l : Launch} {e : Env} {s : State} {m : MethodId} {args : Array Value} {below : List Frame} {meth : Method} {c : Code} {A : Nat → Prop} {Q : State → Prop} {G : va_G} {k : Nat → ClassId} {h : Nat} {r : Nat} {f : Nat → Int64} {o : Int32} (C0 : zCx p s m args meth c wsX2_kindOn cX2_kindOn RX2 (some .int) 3) (hK : zKK G k A s s.heap) (hA : ∀ q : Nat, s.heap.size ≤ q → A q) (hret : zRI p l e rmX2_kindOn s m args below meth c cX2_kindOn G A 0 0 Q .int (zP h r k f) o)  : ∀ (n : Nat) (x1 : Int32) (x2 : Int32), fX2_kindOn_2  f n x1 x2 = some o → ∀ (H : Heap) (locs : List Loc) (ls : Array Slot), zWd G A s (zP h r k f) H locs → lv_has ls 3 [(0, .ref h), (1, .int x1), (2, .int x2)] → W p l e rmX2_kindOn s m args below meth c H locs 0 0 Q (F0 m 2 ls []) := by
  obtain ⟨hx, hb, hr, hml, hown, hts, hlocks⟩ := id C0
  intro n
  induction n with
  | zero => intro x1 x2 hF; exact nomatch hF
  | succ n ih =>
    intro x1 x2 hF H locs ls hw hl
    rw [fX2_kindOn_2] at hF
    refine lv_iload_n hx hb dX2_kindOn_2 rfl (lv_at hl 2 rfl) ?_
    refine lv_iconst (v := (4 : Int32)) hx hb dX2_kindOn_3 (by decide) ?_
    refine lv_icmp_ge (tgt := 30) hx hb dX2_kindOn_4 (by decide) (fun hc => ?_) (fun hc => ?_)
    · have hF := zif_t hc hF
      refine lv_iconst (v := (-1 : Int32)) hx hb dX2_kindOn_30 (by decide) ?_
      obtain rfl := Option.some.inj hF
      exact hret _ _ _ _ rfl hw dX2_kindOn_31
    · have hF := zif_f hc hF
      refine lv_aload_n hx hb dX2_kindOn_7 rfl (lv_at hl 0 rfl) ?_
      refine lv_bipush (v := (6 : Int32)) hx hb dX2_kindOn_8 (by decide) ?_
      refine lv_iload_n hx hb dX2_kindOn_10 rfl (lv_at hl 2 rfl) ?_
      refine lv_iadd hx hb dX2_kindOn_11 ?_
      obtain ⟨u1, hq2, hF⟩ := zbd_t hF
      refine zgoLw (w' := (zP h r k f)) hw hA (zVw (As := [.int ((6 : Int32) + x2)]) (rest := []) ⟨hx, hb, hml, hown, hts⟩ (mX2_at l G k h r H.size f ((6 : Int32) + x2) u1 hq2) (cwV 1 hts gX2_kindOn_X2_at rfl rfl rfl kdX2_at ⟨Nat.le_of_ble_eq_true rfl, Nat.le_of_ble_eq_true rfl⟩) hK hA hw 0 rfl rfl rfl rfl hl.1 rfl (Nat.le_of_ble_eq_true rfl) dX2_kindOn_12 ⟨Nat.le_of_ble_eq_true rfl, Nat.le_of_ble_eq_true rfl⟩) (fun H locs hw => ?_)
      refine lv_iload_n hx hb dX2_kindOn_15 rfl (lv_at hl 1 rfl) ?_
      obtain ⟨u3, hq4, hF⟩ := zbd_t hF
      refine zgoI (w' := (zP h r k f)) hw hA [] rfl (zS (As := [.long u1, .int x1]) (rest := []) ⟨hx, hb, hml, hown, hts⟩ (mX3_has l G k  H.size  u1 x1 u3 hq4) (va_cwS 2 hts gX2_kindOn_X3_has rfl rfl rfl kdX3_has ⟨Nat.le_of_ble_eq_true rfl, Nat.le_of_ble_eq_true rfl⟩) hK hA hw [] rfl (by decide) rfl hl.1 rfl (Nat.le_of_ble_eq_true rfl) dX2_kindOn_16 ⟨Nat.le_of_ble_eq_true rfl, Nat.le_of_ble_eq_true rfl⟩) rfl rfl rfl (fun H locs hw => ?_)
      refine lv_if_eq (tgt := 24) hx hb dX2_kindOn_19 (by decide) (fun hc => ?_) (fun hc => ?_)
      · have hF := zif_t hc hF
        obtain ⟨a5, ea5⟩ : ∃ z : Int32, z = x2 + (1 : Int32) := ⟨_, rfl⟩
        have hF := zbn_t ea5 hF
        refine lv_iinc (v := a5) (lv' := [(2, .int a5), (0, .ref h), (1, .int x1)]) hx hb dX2_kindOn_24 hl (k := 2) rfl (by rw [ea5]; rfl) (by decide) rfl (fun ls hl => ?_)
        refine lv_goto (tgt := 2) hx hb dX2_kindOn_27 (by decide) ?_
        exact ih _ _ hF _ _ _ hw (lv_sub hl [1, 2, 0] rfl)
      · have hF := zif_f hc hF
        refine lv_iload_n hx hb dX2_kindOn_22 rfl (lv_at hl 2 rfl) ?_
        obtain rfl := Option.some.inj hF
        exact hret _ _ _ _ rfl hw dX2_kindOn_23
set_option maxHeartbeats 400000 in
set_option maxRecDepth 100000 in
theorem mX2_kindOn (l : Launch) (G : va_G) (k : Nat → ClassId) (h : Nat) (r : Nat) (sz : Nat) (f : Nat → Int64) (p0 : Int32) (o : Int32) (hF : fX2_kindOn f p0 = some o) : zMI l yX2_kindOn wsX2_kindOn rmX2_kindOn G k (zP h r k f) sz [.ref h, .int p0] o (zP h r k f) := by
  refine zof_I (cc := cX2_kindOn) (nL := 3) (own := RX2) (rt := .int) (by decide) rfl rfl (Nat.le_of_ble_eq_true rfl) ?_
  intro p e s m args below meth c A Q C0 hK hA hret ls hl hw
  have hl : lv_has ls 3 [(0, .ref h), (1, .int p0)] := hl
  obtain ⟨hx, hb, hr, hml, hown, hts, hlocks⟩ := id C0
  obtain ⟨H, hH⟩ : ∃ z, z = s.heap := ⟨_, rfl⟩
  rw [← hH] at hw ⊢
  unfold fX2_kindOn at hF
  refine lv_iconst (v := (0 : Int32)) hx hb dX2_kindOn_0 (by decide) ?_
  refine lv_istore_n (lv' := [(2, .int (0 : Int32)), (0, .ref h), (1, .int p0)]) hx hb dX2_kindOn_1 rfl hl (by decide) rfl (fun ls hl => ?_)
  exact wX2_kindOn_2 C0 hK hA hret  zFu _ _ hF _ _ _ hw (lv_sub hl [1, 2, 0] rfl)

/-! SealedBoard$Position.keeperOf(I)I -/
abbrev rmX2_keeperOf : Room := { frames := 2, cells := 0, slots := 0, locals := 42 }
theorem kdX2_keeperOf : yX2_keeperOf.cls = RX2 ∧ yX2_keeperOf.cls ≠ "java/lang/invoke/MethodHandle" ∧ yX2_keeperOf.cls ≠ "java/lang/invoke/VarHandle" ∧ (parseMethodDescriptor yX2_keeperOf.desc).map (fun d => d.parameters.length) = some 1 := by decide +kernel
theorem inX2_keeperOf_X2 : ∀ w ∈ u_ws RX2 TX2 1, w ∈ wsX2_keeperOf := by decide +kernel
def fX2_keeperOf (f : Nat → Int64) (p0 : Int32) : Option (Int32) := (zbd (fX2_piecesOf f p0) (fun u1 => (zck (zin (9 : Int32) 15) (zbd (fX3_lowest (u1 &&& (f (9 : Int32).toNatClampNeg))) (fun u4 => (some (u4)))))))
set_option maxHeartbeats 400000 in
set_option maxRecDepth 100000 in
theorem mX2_keeperOf (l : Launch) (G : va_G) (k : Nat → ClassId) (h : Nat) (r : Nat) (sz : Nat) (f : Nat → Int64) (p0 : Int32) (o : Int32) (hF : fX2_keeperOf f p0 = some o) : zMI l yX2_keeperOf wsX2_keeperOf rmX2_keeperOf G k (zP h r k f) sz [.ref h, .int p0] o (zP h r k f) := by
  refine zof_I (cc := cX2_keeperOf) (nL := 2) (own := RX2) (rt := .int) (by decide) rfl rfl (Nat.le_of_ble_eq_true rfl) ?_
  intro p e s m args below meth c A Q C0 hK hA hret ls hl hw
  have hl : lv_has ls 2 [(0, .ref h), (1, .int p0)] := hl
  obtain ⟨hx, hb, hr, hml, hown, hts, hlocks⟩ := id C0
  obtain ⟨H, hH⟩ : ∃ z, z = s.heap := ⟨_, rfl⟩
  rw [← hH] at hw ⊢
  unfold fX2_keeperOf at hF
  refine lv_aload_n hx hb dX2_keeperOf_0 rfl (lv_at hl 0 rfl) ?_
  refine lv_iload_n hx hb dX2_keeperOf_1 rfl (lv_at hl 1 rfl) ?_
  obtain ⟨u1, hq2, hF⟩ := zbd_t hF
  refine zgoLw (w' := (zP h r k f)) hw hA (zVw (As := [.int p0]) (rest := []) ⟨hx, hb, hml, hown, hts⟩ (mX2_piecesOf l G k h r H.size f p0 u1 hq2) (cwV 1 hts gX2_keeperOf_X2_piecesOf rfl rfl rfl kdX2_piecesOf ⟨Nat.le_of_ble_eq_true rfl, Nat.le_of_ble_eq_true rfl⟩) hK hA hw 0 rfl rfl rfl rfl hl.1 rfl (Nat.le_of_ble_eq_true rfl) dX2_keeperOf_2 ⟨Nat.le_of_ble_eq_true rfl, Nat.le_of_ble_eq_true rfl⟩) (fun H locs hw => ?_)
  refine lv_aload_n hx hb dX2_keeperOf_5 rfl (lv_at hl 0 rfl) ?_
  refine va_get (D := G) (ci := 2) (v := .ref r) (C := RX2) (T := TX2) (N := 1) hx hb hts inX2_keeperOf_X2 hown hK.1 hw.1 0 rfl rfl 0 (by decide) (hts (.fieldLink RX2 11 "SealedBoard$Position" "row" "[J") (by decide +kernel)) (fun _ h9 => h9) rfl dX2_keeperOf_6 ?_
  refine lv_bipush (v := (9 : Int32)) hx hb dX2_keeperOf_9 (by decide) ?_
  obtain ⟨hi3, hF⟩ := zck_in hF
  refine va_lald hx hb hK.1 hw.1 1 0 rfl rfl hi3 dX2_keeperOf_11 ?_
  refine lv_land hx hb dX2_keeperOf_12 ?_
  obtain ⟨u4, hq5, hF⟩ := zbd_t hF
  refine zgoI (w' := (zP h r k f)) hw hA [] rfl (zS (As := [.long (u1 &&& (f (9 : Int32).toNatClampNeg))]) (rest := []) ⟨hx, hb, hml, hown, hts⟩ (mX3_lowest l G k  H.size  (u1 &&& (f (9 : Int32).toNatClampNeg)) u4 hq5) (va_cwS 1 hts gX2_keeperOf_X3_lowest rfl rfl rfl kdX3_lowest ⟨Nat.le_of_ble_eq_true rfl, Nat.le_of_ble_eq_true rfl⟩) hK hA hw [] rfl (by decide) rfl hl.1 rfl (Nat.le_of_ble_eq_true rfl) dX2_keeperOf_13 ⟨Nat.le_of_ble_eq_true rfl, Nat.le_of_ble_eq_true rfl⟩) rfl rfl rfl (fun H locs hw => ?_)
  obtain rfl := Option.some.inj hF
  exact hret _ _ _ _ rfl hw dX2_keeperOf_16

/-! SealedBoard$Position.putWall(J)V -/
abbrev rmX2_putWall : Room := { frames := 1, cells := 0, slots := 0, locals := 23 }
theorem kdX2_putWall : yX2_putWall.cls = RX2 ∧ yX2_putWall.cls ≠ "java/lang/invoke/MethodHandle" ∧ yX2_putWall.cls ≠ "java/lang/invoke/VarHandle" ∧ (parseMethodDescriptor yX2_putWall.desc).map (fun d => d.parameters.length) = some 1 := by decide +kernel
def fX2_putWall (f : Nat → Int64) (p0 : Int64) : Option ((Nat → Int64)) := (zbd (fX2_include f (10 : Int32) p0) (fun u1 => (some (u1))))
set_option maxHeartbeats 400000 in
set_option maxRecDepth 100000 in
theorem mX2_putWall (l : Launch) (G : va_G) (k : Nat → ClassId) (h : Nat) (r : Nat) (sz : Nat) (f : Nat → Int64) (p0 : Int64) (o : (Nat → Int64)) (hF : fX2_putWall f p0 = some o) : zMV l yX2_putWall wsX2_putWall rmX2_putWall G k (zP h r k f) sz [.ref h, .long p0] (zP h r k o) := by
  refine zof_V (cc := cX2_putWall) (nL := 3) (own := RX2) (by decide) rfl rfl (Nat.le_of_ble_eq_true rfl) ?_
  intro p e s m args below meth c A Q C0 hK hA hret ls hl hw
  have hl : lv_has ls 3 [(0, .ref h), (1, .long p0)] := hl
  obtain ⟨hx, hb, hr, hml, hown, hts, hlocks⟩ := id C0
  obtain ⟨H, hH⟩ : ∃ z, z = s.heap := ⟨_, rfl⟩
  rw [← hH] at hw ⊢
  unfold fX2_putWall at hF
  refine lv_aload_n hx hb dX2_putWall_0 rfl (lv_at hl 0 rfl) ?_
  refine lv_bipush (v := (10 : Int32)) hx hb dX2_putWall_1 (by decide) ?_
  refine lv_lload_n hx hb dX2_putWall_3 rfl (lv_at hl 1 rfl) ?_
  obtain ⟨u1, hq2, hF⟩ := zbd_t hF
  refine zgoVw (w' := (zP h r k u1)) hw hA (zVw (As := [.int (10 : Int32), .long p0]) (rest := []) ⟨hx, hb, hml, hown, hts⟩ (mX2_include l G k h r H.size f (10 : Int32) p0 u1 hq2) (cwV 2 hts gX2_putWall_X2_include rfl rfl rfl kdX2_include ⟨Nat.le_of_ble_eq_true rfl, Nat.le_of_ble_eq_true rfl⟩) hK hA hw 0 rfl rfl rfl rfl hl.1 rfl (Nat.le_of_ble_eq_true rfl) dX2_putWall_4 ⟨Nat.le_of_ble_eq_true rfl, Nat.le_of_ble_eq_true rfl⟩) (fun H locs hw => ?_)
  obtain rfl := Option.some.inj hF
  exact hret _ _ _ _  hw dX2_putWall_7

/-! SealedBoard$Position.targetsOf(I)J -/
abbrev rmX2_targetsOf : Room := { frames := 2, cells := 0, slots := 0, locals := 56 }
theorem kdX2_targetsOf : yX2_targetsOf.cls = RX2 ∧ yX2_targetsOf.cls ≠ "java/lang/invoke/MethodHandle" ∧ yX2_targetsOf.cls ≠ "java/lang/invoke/VarHandle" ∧ (parseMethodDescriptor yX2_targetsOf.desc).map (fun d => d.parameters.length) = some 1 := by decide +kernel
def fX2_targetsOf (f : Nat → Int64) (p0 : Int32) : Option (Int64) := (zbd (fX2_sideOn f p0) (fun u1 => (if u1 = (-1 : Int32) then (some ((0 : Int64))) else (zbd (fX3_of p0) (fun u3 => (zbd (fX2_openTo f u1) (fun u5 => (zbd (fX2_allPieces f) (fun u7 => (zbn (u5 &&& (u7 ^^^ (-1 : Int64))) (fun a9 => (zbd (fX2_kindOn f p0) (fun u10 => (if u10 = (1 : Int32) then (zbd (fX3_alongLines u3 a9) (fun u13 => (some (u13)))) else (if u10 = (2 : Int32) then (zbd (fX3_byWalking u3 a9 (3 : Int32)) (fun u16 => (some (u16)))) else (zbd (fX3_around u3) (fun u18 => (some ((u18 &&& a9))))))))))))))))))))
set_option maxHeartbeats 400000 in
set_option maxRecDepth 100000 in
theorem mX2_targetsOf (l : Launch) (G : va_G) (k : Nat → ClassId) (h : Nat) (r : Nat) (sz : Nat) (f : Nat → Int64) (p0 : Int32) (o : Int64) (hF : fX2_targetsOf f p0 = some o) : zML l yX2_targetsOf wsX2_targetsOf rmX2_targetsOf G k (zP h r k f) sz [.ref h, .int p0] o (zP h r k f) := by
  refine zof_L (cc := cX2_targetsOf) (nL := 7) (own := RX2) (by decide) rfl rfl (Nat.le_of_ble_eq_true rfl) ?_
  intro p e s m args below meth c A Q C0 hK hA hret ls hl hw
  have hl : lv_has ls 7 [(0, .ref h), (1, .int p0)] := hl
  obtain ⟨hx, hb, hr, hml, hown, hts, hlocks⟩ := id C0
  obtain ⟨H, hH⟩ : ∃ z, z = s.heap := ⟨_, rfl⟩
  rw [← hH] at hw ⊢
  unfold fX2_targetsOf at hF
  refine lv_aload_n hx hb dX2_targetsOf_0 rfl (lv_at hl 0 rfl) ?_
  refine lv_iload_n hx hb dX2_targetsOf_1 rfl (lv_at hl 1 rfl) ?_
  obtain ⟨u1, hq2, hF⟩ := zbd_t hF
  refine zgoIw (w' := (zP h r k f)) hw hA (zVw (As := [.int p0]) (rest := []) ⟨hx, hb, hml, hown, hts⟩ (mX2_sideOn l G k h r H.size f p0 u1 hq2) (cwV 1 hts gX2_targetsOf_X2_sideOn rfl rfl rfl kdX2_sideOn ⟨Nat.le_of_ble_eq_true rfl, Nat.le_of_ble_eq_true rfl⟩) hK hA hw 0 rfl rfl rfl rfl hl.1 rfl (Nat.le_of_ble_eq_true rfl) dX2_targetsOf_2 ⟨Nat.le_of_ble_eq_true rfl, Nat.le_of_ble_eq_true rfl⟩) (fun H locs hw => ?_)
  refine lv_istore_n (lv' := [(2, .int u1), (0, .ref h), (1, .int p0)]) hx hb dX2_targetsOf_5 rfl hl (by decide) rfl (fun ls hl => ?_)
  refine lv_iload_n hx hb dX2_targetsOf_6 rfl (lv_at hl 0 rfl) ?_
  refine lv_iconst (v := (-1 : Int32)) hx hb dX2_targetsOf_7 (by decide) ?_
  refine lv_icmp_ne (tgt := 13) hx hb dX2_targetsOf_8 (by decide) (fun hc => ?_) (fun hc => ?_)
  · have hF := zif_f hc hF
    refine lv_iload_n hx hb dX2_targetsOf_13 rfl (lv_at hl 2 rfl) ?_
    obtain ⟨u3, hq4, hF⟩ := zbd_t hF
    refine zgoL (w' := (zP h r k f)) hw hA [] rfl (zS (As := [.int p0]) (rest := []) ⟨hx, hb, hml, hown, hts⟩ (mX3_of l G k  H.size  p0 u3 hq4) (va_cwS 1 hts gX2_targetsOf_X3_of rfl rfl rfl kdX3_of ⟨Nat.le_of_ble_eq_true rfl, Nat.le_of_ble_eq_true rfl⟩) hK hA hw [] rfl (by decide) rfl hl.1 rfl (Nat.le_of_ble_eq_true rfl) dX2_targetsOf_14 ⟨Nat.le_of_ble_eq_true rfl, Nat.le_of_ble_eq_true rfl⟩) rfl rfl rfl (fun H locs hw => ?_)
    refine lv_lstore_n (lv' := [(3, .long u3), (2, .int u1), (0, .ref h), (1, .int p0)]) hx hb dX2_targetsOf_17 rfl hl (by decide) rfl (fun ls hl => ?_)
    refine lv_aload_n hx hb dX2_targetsOf_18 rfl (lv_at hl 2 rfl) ?_
    refine lv_iload_n hx hb dX2_targetsOf_19 rfl (lv_at hl 1 rfl) ?_
    obtain ⟨u5, hq6, hF⟩ := zbd_t hF
    refine zgoLw (w' := (zP h r k f)) hw hA (zVw (As := [.int u1]) (rest := []) ⟨hx, hb, hml, hown, hts⟩ (mX2_openTo l G k h r H.size f u1 u5 hq6) (cwV 1 hts gX2_targetsOf_X2_openTo rfl rfl rfl kdX2_openTo ⟨Nat.le_of_ble_eq_true rfl, Nat.le_of_ble_eq_true rfl⟩) hK hA hw 0 rfl rfl rfl rfl hl.1 rfl (Nat.le_of_ble_eq_true rfl) dX2_targetsOf_20 ⟨Nat.le_of_ble_eq_true rfl, Nat.le_of_ble_eq_true rfl⟩) (fun H locs hw => ?_)
    refine lv_aload_n hx hb dX2_targetsOf_23 rfl (lv_at hl 2 rfl) ?_
    obtain ⟨u7, hq8, hF⟩ := zbd_t hF
    refine zgoLw (w' := (zP h r k f)) hw hA (zVw (As := []) (rest := [.long u5]) ⟨hx, hb, hml, hown, hts⟩ (mX2_allPieces l G k h r H.size f  u7 hq8) (cwV 0 hts gX2_targetsOf_X2_allPieces rfl rfl rfl kdX2_allPieces ⟨Nat.le_of_ble_eq_true rfl, Nat.le_of_ble_eq_true rfl⟩) hK hA hw 0 rfl rfl rfl rfl hl.1 rfl (Nat.le_of_ble_eq_true rfl) dX2_targetsOf_24 ⟨Nat.le_of_ble_eq_true rfl, Nat.le_of_ble_eq_true rfl⟩) (fun H locs hw => ?_)
    refine lv_ldc2 (v := (-1 : Int64)) hx hb hown (hts (.constantLong RX2 18 (-1)) (by decide +kernel)) dX2_targetsOf_27 ?_
    refine lv_lxor hx hb dX2_targetsOf_30 ?_
    refine lv_land hx hb dX2_targetsOf_31 ?_
    refine lv_topl (fun a9 ea9 => ?_)
    have hF := zbn_t ea9 hF
    refine lv_lstore (lv' := [(5, .long a9), (3, .long u3), (2, .int u1), (0, .ref h), (1, .int p0)]) hx hb dX2_targetsOf_32 hl (by decide) rfl (fun ls hl => ?_)
    refine lv_aload_n hx hb dX2_targetsOf_34 rfl (lv_at hl 3 rfl) ?_
    refine lv_iload_n hx hb dX2_targetsOf_35 rfl (lv_at hl 4 rfl) ?_
    obtain ⟨u10, hq11, hF⟩ := zbd_t hF
    refine zgoIw (w' := (zP h r k f)) hw hA (zVw (As := [.int p0]) (rest := []) ⟨hx, hb, hml, hown, hts⟩ (mX2_kindOn l G k h r H.size f p0 u10 hq11) (cwV 1 hts gX2_targetsOf_X2_kindOn rfl rfl rfl kdX2_kindOn ⟨Nat.le_of_ble_eq_true rfl, Nat.le_of_ble_eq_true rfl⟩) hK hA hw 0 rfl rfl rfl rfl hl.1 rfl (Nat.le_of_ble_eq_true rfl) dX2_targetsOf_36 ⟨Nat.le_of_ble_eq_true rfl, Nat.le_of_ble_eq_true rfl⟩) (fun H locs hw => ?_)
    by_cases hc12 : u10 = (1 : Int32)
    · have hF := zif_t hc12 hF
      refine lv_lookup (tgt := 64) (off := 25) hx hb dX2_targetsOf_39 (by decide) (by rw [hc12]; rfl) (by decide) ?_
      refine lv_lload_n hx hb dX2_targetsOf_64 rfl (lv_at hl 1 rfl) ?_
      refine lv_lload hx hb dX2_targetsOf_65 (lv_at hl 0 rfl) ?_
      obtain ⟨u13, hq14, hF⟩ := zbd_t hF
      refine zgoL (w' := (zP h r k f)) hw hA [] rfl (zS (As := [.long u3, .long a9]) (rest := []) ⟨hx, hb, hml, hown, hts⟩ (mX3_alongLines l G k  H.size  u3 a9 u13 hq14) (va_cwS 2 hts gX2_targetsOf_X3_alongLines rfl rfl rfl kdX3_alongLines ⟨Nat.le_of_ble_eq_true rfl, Nat.le_of_ble_eq_true rfl⟩) hK hA hw [] rfl (by decide) rfl hl.1 rfl (Nat.le_of_ble_eq_true rfl) dX2_targetsOf_67 ⟨Nat.le_of_ble_eq_true rfl, Nat.le_of_ble_eq_true rfl⟩) rfl rfl rfl (fun H locs hw => ?_)
      obtain rfl := Option.some.inj hF
      exact hret _ _ _ _  hw dX2_targetsOf_70
    have hF := zif_f hc12 hF
    by_cases hc15 : u10 = (2 : Int32)
    · have hF := zif_t hc15 hF
      refine lv_lookup (tgt := 71) (off := 32) hx hb dX2_targetsOf_39 (by decide) (by rw [hc15]; rfl) (by decide) ?_
      refine lv_lload_n hx hb dX2_targetsOf_71 rfl (lv_at hl 1 rfl) ?_
      refine lv_lload hx hb dX2_targetsOf_72 (lv_at hl 0 rfl) ?_
      refine lv_iconst (v := (3 : Int32)) hx hb dX2_targetsOf_74 (by decide) ?_
      obtain ⟨u16, hq17, hF⟩ := zbd_t hF
      refine zgoL (w' := (zP h r k f)) hw hA [] rfl (zS (As := [.long u3, .long a9, .int (3 : Int32)]) (rest := []) ⟨hx, hb, hml, hown, hts⟩ (mX3_byWalking l G k  H.size  u3 a9 (3 : Int32) u16 hq17) (va_cwS 3 hts gX2_targetsOf_X3_byWalking rfl rfl rfl kdX3_byWalking ⟨Nat.le_of_ble_eq_true rfl, Nat.le_of_ble_eq_true rfl⟩) hK hA hw [] rfl (by decide) rfl hl.1 rfl (Nat.le_of_ble_eq_true rfl) dX2_targetsOf_75 ⟨Nat.le_of_ble_eq_true rfl, Nat.le_of_ble_eq_true rfl⟩) rfl rfl rfl (fun H locs hw => ?_)
      obtain rfl := Option.some.inj hF
      exact hret _ _ _ _  hw dX2_targetsOf_78
    have hF := zif_f hc15 hF
    refine lv_lookup (tgt := 79) (off := 40) hx hb dX2_targetsOf_39 (by decide) (by
      have q0 : u10.toInt ≠ 1 := fun q => hc12 (Int32.toInt_inj.mp q)
      have q1 : u10.toInt ≠ 2 := fun q => hc15 (Int32.toInt_inj.mp q)
      simp [Op.lookupswitch.offset, q0, Ne.symm q0, q1, Ne.symm q1]) (by decide) ?_
    refine lv_lload_n hx hb dX2_targetsOf_79 rfl (lv_at hl 1 rfl) ?_
    obtain ⟨u18, hq19, hF⟩ := zbd_t hF
    refine zgoL (w' := (zP h r k f)) hw hA [] rfl (zS (As := [.long u3]) (rest := []) ⟨hx, hb, hml, hown, hts⟩ (mX3_around l G k  H.size  u3 u18 hq19) (va_cwS 1 hts gX2_targetsOf_X3_around rfl rfl rfl kdX3_around ⟨Nat.le_of_ble_eq_true rfl, Nat.le_of_ble_eq_true rfl⟩) hK hA hw [] rfl (by decide) rfl hl.1 rfl (Nat.le_of_ble_eq_true rfl) dX2_targetsOf_80 ⟨Nat.le_of_ble_eq_true rfl, Nat.le_of_ble_eq_true rfl⟩) rfl rfl rfl (fun H locs hw => ?_)
    refine lv_lload hx hb dX2_targetsOf_83 (lv_at hl 0 rfl) ?_
    refine lv_land hx hb dX2_targetsOf_85 ?_
    obtain rfl := Option.some.inj hF
    exact hret _ _ _ _  hw dX2_targetsOf_86
  · have hF := zif_t hc hF
    refine lv_lconst (v := (0 : Int64)) hx hb dX2_targetsOf_11 (by decide) ?_
    obtain rfl := Option.some.inj hF
    exact hret _ _ _ _  hw dX2_targetsOf_12

/-! SealedBoard$Position.hasMove(I)Z -/
abbrev rmX2_hasMove : Room := { frames := 1, cells := 0, slots := 0, locals := 29 }
theorem kdX2_hasMove : yX2_hasMove.cls = RX2 ∧ yX2_hasMove.cls ≠ "java/lang/invoke/MethodHandle" ∧ yX2_hasMove.cls ≠ "java/lang/invoke/VarHandle" ∧ (parseMethodDescriptor yX2_hasMove.desc).map (fun d => d.parameters.length) = some 1 := by decide +kernel
def fX2_hasMove (f : Nat → Int64) (p0 : Int32) : Option (Int32) := (zbd (fX2_piecesOf f p0) (fun u1 => (zbd (fX3_around u1) (fun u3 => (zbd (fX2_openTo f p0) (fun u5 => (zbd (fX2_allPieces f) (fun u7 => (if (lg_cmp ((u3 &&& u5) &&& (u7 ^^^ (-1 : Int64))) (0 : Int64)) = 0 then (some ((0 : Int32))) else (some ((1 : Int32))))))))))))
set_option maxHeartbeats 400000 in
set_option maxRecDepth 100000 in
theorem mX2_hasMove (l : Launch) (G : va_G) (k : Nat → ClassId) (h : Nat) (r : Nat) (sz : Nat) (f : Nat → Int64) (p0 : Int32) (o : Int32) (hF : fX2_hasMove f p0 = some o) : zMI l yX2_hasMove wsX2_hasMove rmX2_hasMove G k (zP h r k f) sz [.ref h, .int p0] o (zP h r k f) := by
  refine zof_I (cc := cX2_hasMove) (nL := 2) (own := RX2) (rt := .boolean) (by decide) rfl rfl (Nat.le_of_ble_eq_true rfl) ?_
  intro p e s m args below meth c A Q C0 hK hA hret ls hl hw
  have hl : lv_has ls 2 [(0, .ref h), (1, .int p0)] := hl
  obtain ⟨hx, hb, hr, hml, hown, hts, hlocks⟩ := id C0
  obtain ⟨H, hH⟩ : ∃ z, z = s.heap := ⟨_, rfl⟩
  rw [← hH] at hw ⊢
  unfold fX2_hasMove at hF
  refine lv_aload_n hx hb dX2_hasMove_0 rfl (lv_at hl 0 rfl) ?_
  refine lv_iload_n hx hb dX2_hasMove_1 rfl (lv_at hl 1 rfl) ?_
  obtain ⟨u1, hq2, hF⟩ := zbd_t hF
  refine zgoLw (w' := (zP h r k f)) hw hA (zVw (As := [.int p0]) (rest := []) ⟨hx, hb, hml, hown, hts⟩ (mX2_piecesOf l G k h r H.size f p0 u1 hq2) (cwV 1 hts gX2_hasMove_X2_piecesOf rfl rfl rfl kdX2_piecesOf ⟨Nat.le_of_ble_eq_true rfl, Nat.le_of_ble_eq_true rfl⟩) hK hA hw 0 rfl rfl rfl rfl hl.1 rfl (Nat.le_of_ble_eq_true rfl) dX2_hasMove_2 ⟨Nat.le_of_ble_eq_true rfl, Nat.le_of_ble_eq_true rfl⟩) (fun H locs hw => ?_)
  obtain ⟨u3, hq4, hF⟩ := zbd_t hF
  refine zgoL (w' := (zP h r k f)) hw hA [] rfl (zS (As := [.long u1]) (rest := []) ⟨hx, hb, hml, hown, hts⟩ (mX3_around l G k  H.size  u1 u3 hq4) (va_cwS 1 hts gX2_hasMove_X3_around rfl rfl rfl kdX3_around ⟨Nat.le_of_ble_eq_true rfl, Nat.le_of_ble_eq_true rfl⟩) hK hA hw [] rfl (by decide) rfl hl.1 rfl (Nat.le_of_ble_eq_true rfl) dX2_hasMove_5 ⟨Nat.le_of_ble_eq_true rfl, Nat.le_of_ble_eq_true rfl⟩) rfl rfl rfl (fun H locs hw => ?_)
  refine lv_aload_n hx hb dX2_hasMove_8 rfl (lv_at hl 0 rfl) ?_
  refine lv_iload_n hx hb dX2_hasMove_9 rfl (lv_at hl 1 rfl) ?_
  obtain ⟨u5, hq6, hF⟩ := zbd_t hF
  refine zgoLw (w' := (zP h r k f)) hw hA (zVw (As := [.int p0]) (rest := [.long u3]) ⟨hx, hb, hml, hown, hts⟩ (mX2_openTo l G k h r H.size f p0 u5 hq6) (cwV 1 hts gX2_hasMove_X2_openTo rfl rfl rfl kdX2_openTo ⟨Nat.le_of_ble_eq_true rfl, Nat.le_of_ble_eq_true rfl⟩) hK hA hw 0 rfl rfl rfl rfl hl.1 rfl (Nat.le_of_ble_eq_true rfl) dX2_hasMove_10 ⟨Nat.le_of_ble_eq_true rfl, Nat.le_of_ble_eq_true rfl⟩) (fun H locs hw => ?_)
  refine lv_land hx hb dX2_hasMove_13 ?_
  refine lv_aload_n hx hb dX2_hasMove_14 rfl (lv_at hl 0 rfl) ?_
  obtain ⟨u7, hq8, hF⟩ := zbd_t hF
  refine zgoLw (w' := (zP h r k f)) hw hA (zVw (As := []) (rest := [.long (u3 &&& u5)]) ⟨hx, hb, hml, hown, hts⟩ (mX2_allPieces l G k h r H.size f  u7 hq8) (cwV 0 hts gX2_hasMove_X2_allPieces rfl rfl rfl kdX2_allPieces ⟨Nat.le_of_ble_eq_true rfl, Nat.le_of_ble_eq_true rfl⟩) hK hA hw 0 rfl rfl rfl rfl hl.1 rfl (Nat.le_of_ble_eq_true rfl) dX2_hasMove_15 ⟨Nat.le_of_ble_eq_true rfl, Nat.le_of_ble_eq_true rfl⟩) (fun H locs hw => ?_)
  refine lv_ldc2 (v := (-1 : Int64)) hx hb hown (hts (.constantLong RX2 18 (-1)) (by decide +kernel)) dX2_hasMove_18 ?_
  refine lv_lxor hx hb dX2_hasMove_21 ?_
  refine lv_land hx hb dX2_hasMove_22 ?_
  refine lv_lconst (v := (0 : Int64)) hx hb dX2_hasMove_23 (by decide) ?_
  refine W.lcmp hx hb dX2_hasMove_24 ?_
  refine lv_if_eq (tgt := 32) hx hb dX2_hasMove_25 (by decide) (fun hc => ?_) (fun hc => ?_)
  · have hF := zif_t hc hF
    refine lv_iconst (v := (0 : Int32)) hx hb dX2_hasMove_32 (by decide) ?_
    obtain rfl := Option.some.inj hF
    exact hret _ _ _ _ (zbo_n (x := (0 : Int32)) (by decide)) hw dX2_hasMove_33
  · have hF := zif_f hc hF
    refine lv_iconst (v := (1 : Int32)) hx hb dX2_hasMove_28 (by decide) ?_
    refine lv_goto (tgt := 33) hx hb dX2_hasMove_29 (by decide) ?_
    obtain rfl := Option.some.inj hF
    exact hret _ _ _ _ (zbo_n (x := (1 : Int32)) (by decide)) hw dX2_hasMove_33

/-! SealedBoard$Position.capturedFrom(IJ)J -/
abbrev rmX2_capturedFrom : Room := { frames := 1, cells := 0, slots := 0, locals := 22 }
theorem kdX2_capturedFrom : yX2_capturedFrom.cls = RX2 ∧ yX2_capturedFrom.cls ≠ "java/lang/invoke/MethodHandle" ∧ yX2_capturedFrom.cls ≠ "java/lang/invoke/VarHandle" ∧ (parseMethodDescriptor yX2_capturedFrom.desc).map (fun d => d.parameters.length) = some 2 := by decide +kernel
def fX2_capturedFrom_54 (k6 : Int32 → Int64 → Int64 → Int32 → Option (Int64)) (f : Nat → Int64) (x1 : Int32) (x2 : Int64) (x4 : Int64) (x6 : Int32) : Option (Int64) := (zbn (x6 + (1 : Int32)) (fun a1 => (k6 x1 x2 x4 a1)))
def fX2_capturedFrom_6  (f : Nat → Int64) : Nat → Int32 → Int64 → Int64 → Int32 → Option (Int64)
  | 0, _, _, _, _ => none
  | n + 1, x1, x2, x4, x6 => (if (4 : Int32) ≤ x6 then (some (x4)) else (zbd (fX3_stepped x2 x6) (fun u1 => (zbd (fX4_otherSide x1) (fun u3 => (zbd (fX2_piecesOf f u3) (fun u5 => (zbn (u1 &&& u5) (fun a7 => (zbd (fX3_stepped a7 x6) (fun u8 => (zbd (fX2_piecesOf f x1) (fun u10 => (if (lg_cmp (u8 &&& u10) (0 : Int64)) = 0 then (fX2_capturedFrom_54 (fun b0 b1 b2 b3 => fX2_capturedFrom_6  f n b0 b1 b2 b3) f  x1 x2 x4 x6) else (zbn (x4 ||| a7) (fun a12 => (fX2_capturedFrom_54 (fun b0 b1 b2 b3 => fX2_capturedFrom_6  f n b0 b1 b2 b3) f  x1 x2 a12 x6)))))))))))))))))
def fX2_capturedFrom (f : Nat → Int64) (p0 : Int32) (p1 : Int64) : Option (Int64) := (fX2_capturedFrom_6  f zFu p0 p1 (0 : Int64) (0 : Int32))
set_option maxHeartbeats 400000 in
set_option maxRecDepth 100000 in
theorem wX2_capturedFrom_54 {p : Program} {l : Launch} {e : Env} {s : State} {m : MethodId} {args : Array Value} {below : List Frame} {meth : Method} {c : Code} {A : Nat → Prop} {Q : State → Prop} {G : va_G} {k : Nat → ClassId} {h : Nat} {r : Nat} {f : Nat → Int64} {o : Int64} (C0 : zCx p s m args meth c wsX2_capturedFrom cX2_capturedFrom RX2 (some .long) 9) (hK : zKK G k A s s.heap) (hA : ∀ q : Nat, s.heap.size ≤ q → A q) (hret : zRL p l e rmX2_capturedFrom s m args below meth c cX2_capturedFrom G A 0 0 Q (zP h r k f) o) (k6 : Int32 → Int64 → Int64 → Int32 → Option (Int64)) (hk6 : ∀ (x1 : Int32) (x2 : Int64) (x4 : Int64) (x6 : Int32), k6 x1 x2 x4 x6 = some o → ∀ (H : Heap) (locs : List Loc) (ls : Array Slot), zWd G A s (zP h r k f) H locs → lv_has ls 9 [(0, .ref h), (1, .int x1), (2, .long x2), (4, .long x4), (6, .int x6)] → W p l e rmX2_capturedFrom s m args below meth c H locs 0 0 Q (F0 m 6 ls [])) : ∀ (x1 : Int32) (x2 : Int64) (x4 : Int64) (x6 : Int32), fX2_capturedFrom_54 k6 f x1 x2 x4 x6 = some o → ∀ (H : Heap) (locs : List Loc) (ls : Array Slot), zWd G A s (zP h r k f) H locs → lv_has ls 9 [(0, .ref h), (1, .int x1), (2, .long x2), (4, .long x4), (6, .int x6)] → W p l e rmX2_capturedFrom s m args below meth c H locs 0 0 Q (F0 m 54 ls []) := by
  obtain ⟨hx, hb, hr, hml, hown, hts, hlocks⟩ := id C0
  intro x1 x2 x4 x6 hF H locs ls hw hl
  unfold fX2_capturedFrom_54 at hF
  obtain ⟨a1, ea1⟩ : ∃ z : Int32, z = x6 + (1 : Int32) := ⟨_, rfl⟩
  have hF := zbn_t ea1 hF
  refine lv_iinc (v := a1) (lv' := [(6, .int a1), (0, .ref h), (1, .int x1), (2, .long x2), (4, .long x4)]) hx hb dX2_capturedFrom_54 hl (k := 4) rfl (by rw [ea1]; rfl) (by decide) rfl (fun ls hl => ?_)
  refine lv_goto (tgt := 6) hx hb dX2_capturedFrom_57 (by decide) ?_
  exact hk6 _ _ _ _ hF _ _ _ hw (lv_sub hl [1, 2, 3, 4, 0] rfl)
set_option maxHeartbeats 400000 in
set_option maxRecDepth 100000 in
theorem wX2_capturedFrom_6 {p : Program} {l : Launch} {e : Env} {s : State} {m : MethodId} {args : Array Value} {below : List Frame} {meth : Method} {c : Code} {A : Nat → Prop} {Q : State → Prop} {G : va_G} {k : Nat → ClassId} {h : Nat} {r : Nat} {f : Nat → Int64} {o : Int64} (C0 : zCx p s m args meth c wsX2_capturedFrom cX2_capturedFrom RX2 (some .long) 9) (hK : zKK G k A s s.heap) (hA : ∀ q : Nat, s.heap.size ≤ q → A q) (hret : zRL p l e rmX2_capturedFrom s m args below meth c cX2_capturedFrom G A 0 0 Q (zP h r k f) o)  : ∀ (n : Nat) (x1 : Int32) (x2 : Int64) (x4 : Int64) (x6 : Int32), fX2_capturedFrom_6  f n x1 x2 x4 x6 = some o → ∀ (H : Heap) (locs : List Loc) (ls : Array Slot), zWd G A s (zP h r k f) H locs → lv_has ls 9 [(0, .ref h), (1, .int x1), (2, .long x2), (4, .long x4), (6, .int x6)] → W p l e rmX2_capturedFrom s m args below meth c H locs 0 0 Q (F0 m 6 ls []) := by
  obtain ⟨hx, hb, hr, hml, hown, hts, hlocks⟩ := id C0
  intro n
  induction n with
  | zero => intro x1 x2 x4 x6 hF; exact nomatch hF
  | succ n ih =>
    intro x1 x2 x4 x6 hF H locs ls hw hl
    rw [fX2_capturedFrom_6] at hF
    refine lv_iload hx hb dX2_capturedFrom_6 (lv_at hl 4 rfl) ?_
    refine lv_iconst (v := (4 : Int32)) hx hb dX2_capturedFrom_8 (by decide) ?_
    refine lv_icmp_ge (tgt := 60) hx hb dX2_capturedFrom_9 (by decide) (fun hc => ?_) (fun hc => ?_)
    · have hF := zif_t hc hF
      refine lv_lload hx hb dX2_capturedFrom_60 (lv_at hl 3 rfl) ?_
      obtain rfl := Option.some.inj hF
      exact hret _ _ _ _  hw dX2_capturedFrom_62
    · have hF := zif_f hc hF
      refine lv_lload_n hx hb dX2_capturedFrom_12 rfl (lv_at hl 2 rfl) ?_
      refine lv_iload hx hb dX2_capturedFrom_13 (lv_at hl 4 rfl) ?_
      obtain ⟨u1, hq2, hF⟩ := zbd_t hF
      refine zgoL (w' := (zP h r k f)) hw hA [] rfl (zS (As := [.long x2, .int x6]) (rest := []) ⟨hx, hb, hml, hown, hts⟩ (mX3_stepped l G k  H.size  x2 x6 u1 hq2) (va_cwS 2 hts gX2_capturedFrom_X3_stepped rfl rfl rfl kdX3_stepped ⟨Nat.le_of_ble_eq_true rfl, Nat.le_of_ble_eq_true rfl⟩) hK hA hw [] rfl (by decide) rfl hl.1 rfl (Nat.le_of_ble_eq_true rfl) dX2_capturedFrom_15 ⟨Nat.le_of_ble_eq_true rfl, Nat.le_of_ble_eq_true rfl⟩) rfl rfl rfl (fun H locs hw => ?_)
      refine lv_aload_n hx hb dX2_capturedFrom_18 rfl (lv_at hl 0 rfl) ?_
      refine lv_iload_n hx hb dX2_capturedFrom_19 rfl (lv_at hl 1 rfl) ?_
      obtain ⟨u3, hq4, hF⟩ := zbd_t hF
      refine zgoI (w' := (zP h r k f)) hw hA [] rfl (zSN (As := [.int x1]) (rest := [.ref h, .long u1]) ⟨hx, hb, hml, hown, hts⟩ (mX4_otherSide l G k  H.size  x1 u3 hq4) ⟨va_cnB 1 hts gX2_capturedFrom_X4_otherSide_n105 rfl rfl rfl hK.2.1.1 (hts (.initialized RX4) (by decide +kernel)) kdX4_otherSide ⟨Nat.le_of_ble_eq_true rfl, Nat.le_of_ble_eq_true rfl⟩, (hts (.static yX4_otherSide) (by decide +kernel)), trivial⟩ hK hA hw [] rfl (by decide) rfl hl.1 rfl (Nat.le_of_ble_eq_true rfl) dX2_capturedFrom_20 ⟨Nat.le_of_ble_eq_true rfl, Nat.le_of_ble_eq_true rfl⟩) rfl rfl rfl (fun H locs hw => ?_)
      obtain ⟨u5, hq6, hF⟩ := zbd_t hF
      refine zgoLw (w' := (zP h r k f)) hw hA (zVw (As := [.int u3]) (rest := [.long u1]) ⟨hx, hb, hml, hown, hts⟩ (mX2_piecesOf l G k h r H.size f u3 u5 hq6) (cwV 1 hts gX2_capturedFrom_X2_piecesOf rfl rfl rfl kdX2_piecesOf ⟨Nat.le_of_ble_eq_true rfl, Nat.le_of_ble_eq_true rfl⟩) hK hA hw 0 rfl rfl rfl rfl hl.1 rfl (Nat.le_of_ble_eq_true rfl) dX2_capturedFrom_23 ⟨Nat.le_of_ble_eq_true rfl, Nat.le_of_ble_eq_true rfl⟩) (fun H locs hw => ?_)
      refine lv_land hx hb dX2_capturedFrom_26 ?_
      refine lv_topl (fun a7 ea7 => ?_)
      have hF := zbn_t ea7 hF
      refine lv_lstore (lv' := [(7, .long a7), (0, .ref h), (1, .int x1), (2, .long x2), (4, .long x4), (6, .int x6)]) hx hb dX2_capturedFrom_27 hl (by decide) rfl (fun ls hl => ?_)
      refine lv_lload hx hb dX2_capturedFrom_29 (lv_at hl 0 rfl) ?_
      refine lv_iload hx hb dX2_capturedFrom_31 (lv_at hl 5 rfl) ?_
      obtain ⟨u8, hq9, hF⟩ := zbd_t hF
      refine zgoL (w' := (zP h r k f)) hw hA [] rfl (zS (As := [.long a7, .int x6]) (rest := []) ⟨hx, hb, hml, hown, hts⟩ (mX3_stepped l G k  H.size  a7 x6 u8 hq9) (va_cwS 2 hts gX2_capturedFrom_X3_stepped rfl rfl rfl kdX3_stepped ⟨Nat.le_of_ble_eq_true rfl, Nat.le_of_ble_eq_true rfl⟩) hK hA hw [] rfl (by decide) rfl hl.1 rfl (Nat.le_of_ble_eq_true rfl) dX2_capturedFrom_33 ⟨Nat.le_of_ble_eq_true rfl, Nat.le_of_ble_eq_true rfl⟩) rfl rfl rfl (fun H locs hw => ?_)
      refine lv_aload_n hx hb dX2_capturedFrom_36 rfl (lv_at hl 1 rfl) ?_
      refine lv_iload_n hx hb dX2_capturedFrom_37 rfl (lv_at hl 2 rfl) ?_
      obtain ⟨u10, hq11, hF⟩ := zbd_t hF
      refine zgoLw (w' := (zP h r k f)) hw hA (zVw (As := [.int x1]) (rest := [.long u8]) ⟨hx, hb, hml, hown, hts⟩ (mX2_piecesOf l G k h r H.size f x1 u10 hq11) (cwV 1 hts gX2_capturedFrom_X2_piecesOf rfl rfl rfl kdX2_piecesOf ⟨Nat.le_of_ble_eq_true rfl, Nat.le_of_ble_eq_true rfl⟩) hK hA hw 0 rfl rfl rfl rfl hl.1 rfl (Nat.le_of_ble_eq_true rfl) dX2_capturedFrom_38 ⟨Nat.le_of_ble_eq_true rfl, Nat.le_of_ble_eq_true rfl⟩) (fun H locs hw => ?_)
      refine lv_land hx hb dX2_capturedFrom_41 ?_
      refine lv_lconst (v := (0 : Int64)) hx hb dX2_capturedFrom_42 (by decide) ?_
      refine W.lcmp hx hb dX2_capturedFrom_43 ?_
      refine lv_if_eq (tgt := 54) hx hb dX2_capturedFrom_44 (by decide) (fun hc => ?_) (fun hc => ?_)
      · have hF := zif_t hc hF
        exact wX2_capturedFrom_54 C0 hK hA hret (fun b0 b1 b2 b3 => fX2_capturedFrom_6  f n b0 b1 b2 b3) ih  _ _ _ _ hF _ _ _ hw (lv_sub hl [1, 2, 3, 4, 5] rfl)
      · have hF := zif_f hc hF
        refine lv_lload hx hb dX2_capturedFrom_47 (lv_at hl 4 rfl) ?_
        refine lv_lload hx hb dX2_capturedFrom_49 (lv_at hl 0 rfl) ?_
        refine lv_lor hx hb dX2_capturedFrom_51 ?_
        refine lv_topl (fun a12 ea12 => ?_)
        have hF := zbn_t ea12 hF
        refine lv_lstore (lv' := [(4, .long a12), (7, .long a7), (0, .ref h), (1, .int x1), (2, .long x2), (6, .int x6)]) hx hb dX2_capturedFrom_52 hl (by decide) rfl (fun ls hl => ?_)
        exact wX2_capturedFrom_54 C0 hK hA hret (fun b0 b1 b2 b3 => fX2_capturedFrom_6  f n b0 b1 b2 b3) ih  _ _ _ _ hF _ _ _ hw (lv_sub hl [2, 3, 4, 0, 5] rfl)
set_option maxHeartbeats 400000 in
set_option maxRecDepth 100000 in
theorem mX2_capturedFrom (l : Launch) (G : va_G) (k : Nat → ClassId) (h : Nat) (r : Nat) (sz : Nat) (f : Nat → Int64) (p0 : Int32) (p1 : Int64) (o : Int64) (hF : fX2_capturedFrom f p0 p1 = some o) : zML l yX2_capturedFrom wsX2_capturedFrom rmX2_capturedFrom G k (zP h r k f) sz [.ref h, .int p0, .long p1] o (zP h r k f) := by
  refine zof_L (cc := cX2_capturedFrom) (nL := 9) (own := RX2) (by decide) rfl rfl (Nat.le_of_ble_eq_true rfl) ?_
  intro p e s m args below meth c A Q C0 hK hA hret ls hl hw
  have hl : lv_has ls 9 [(0, .ref h), (1, .int p0), (2, .long p1)] := hl
  obtain ⟨hx, hb, hr, hml, hown, hts, hlocks⟩ := id C0
  obtain ⟨H, hH⟩ : ∃ z, z = s.heap := ⟨_, rfl⟩
  rw [← hH] at hw ⊢
  unfold fX2_capturedFrom at hF
  refine lv_lconst (v := (0 : Int64)) hx hb dX2_capturedFrom_0 (by decide) ?_
  refine lv_lstore (lv' := [(4, .long (0 : Int64)), (0, .ref h), (1, .int p0), (2, .long p1)]) hx hb dX2_capturedFrom_1 hl (by decide) rfl (fun ls hl => ?_)
  refine lv_iconst (v := (0 : Int32)) hx hb dX2_capturedFrom_3 (by decide) ?_
  refine lv_istore (lv' := [(6, .int (0 : Int32)), (4, .long (0 : Int64)), (0, .ref h), (1, .int p0), (2, .long p1)]) hx hb dX2_capturedFrom_4 hl (by decide) rfl (fun ls hl => ?_)
  exact wX2_capturedFrom_6 C0 hK hA hret  zFu _ _ _ _ hF _ _ _ hw (lv_sub hl [2, 3, 4, 1, 0] rfl)

/-! SealedBoard$Position.turnToWalls(IJ)V -/
abbrev rmX2_turnToWalls : Room := { frames := 1, cells := 0, slots := 0, locals := 23 }
theorem kdX2_turnToWalls : yX2_turnToWalls.cls = RX2 ∧ yX2_turnToWalls.cls ≠ "java/lang/invoke/MethodHandle" ∧ yX2_turnToWalls.cls ≠ "java/lang/invoke/VarHandle" ∧ (parseMethodDescriptor yX2_turnToWalls.desc).map (fun d => d.parameters.length) = some 2 := by decide +kernel
def fX2_turnToWalls (f : Nat → Int64) (p0 : Int32) (p1 : Int64) : Option ((Nat → Int64)) := (zbd (fX2_exclude f ((0 : Int32) + p0) p1) (fun u1 => (zbd (fX2_exclude u1 ((2 : Int32) + p0) p1) (fun u3 => (zbd (fX2_include u3 ((4 : Int32) + p0) p1) (fun u5 => (zbd (fX2_include u5 (10 : Int32) p1) (fun u7 => (some (u7))))))))))
set_option maxHeartbeats 400000 in
set_option maxRecDepth 100000 in
theorem mX2_turnToWalls (l : Launch) (G : va_G) (k : Nat → ClassId) (h : Nat) (r : Nat) (sz : Nat) (f : Nat → Int64) (p0 : Int32) (p1 : Int64) (o : (Nat → Int64)) (hF : fX2_turnToWalls f p0 p1 = some o) : zMV l yX2_turnToWalls wsX2_turnToWalls rmX2_turnToWalls G k (zP h r k f) sz [.ref h, .int p0, .long p1] (zP h r k o) := by
  refine zof_V (cc := cX2_turnToWalls) (nL := 4) (own := RX2) (by decide) rfl rfl (Nat.le_of_ble_eq_true rfl) ?_
  intro p e s m args below meth c A Q C0 hK hA hret ls hl hw
  have hl : lv_has ls 4 [(0, .ref h), (1, .int p0), (2, .long p1)] := hl
  obtain ⟨hx, hb, hr, hml, hown, hts, hlocks⟩ := id C0
  obtain ⟨H, hH⟩ : ∃ z, z = s.heap := ⟨_, rfl⟩
  rw [← hH] at hw ⊢
  unfold fX2_turnToWalls at hF
  refine lv_aload_n hx hb dX2_turnToWalls_0 rfl (lv_at hl 0 rfl) ?_
  refine lv_iconst (v := (0 : Int32)) hx hb dX2_turnToWalls_1 (by decide) ?_
  refine lv_iload_n hx hb dX2_turnToWalls_2 rfl (lv_at hl 1 rfl) ?_
  refine lv_iadd hx hb dX2_turnToWalls_3 ?_
  refine lv_lload_n hx hb dX2_turnToWalls_4 rfl (lv_at hl 2 rfl) ?_
  obtain ⟨u1, hq2, hF⟩ := zbd_t hF
  refine zgoVw (w' := (zP h r k u1)) hw hA (zVw (As := [.int ((0 : Int32) + p0), .long p1]) (rest := []) ⟨hx, hb, hml, hown, hts⟩ (mX2_exclude l G k h r H.size f ((0 : Int32) + p0) p1 u1 hq2) (cwV 2 hts gX2_turnToWalls_X2_exclude rfl rfl rfl kdX2_exclude ⟨Nat.le_of_ble_eq_true rfl, Nat.le_of_ble_eq_true rfl⟩) hK hA hw 0 rfl rfl rfl rfl hl.1 rfl (Nat.le_of_ble_eq_true rfl) dX2_turnToWalls_5 ⟨Nat.le_of_ble_eq_true rfl, Nat.le_of_ble_eq_true rfl⟩) (fun H locs hw => ?_)
  refine lv_aload_n hx hb dX2_turnToWalls_8 rfl (lv_at hl 0 rfl) ?_
  refine lv_iconst (v := (2 : Int32)) hx hb dX2_turnToWalls_9 (by decide) ?_
  refine lv_iload_n hx hb dX2_turnToWalls_10 rfl (lv_at hl 1 rfl) ?_
  refine lv_iadd hx hb dX2_turnToWalls_11 ?_
  refine lv_lload_n hx hb dX2_turnToWalls_12 rfl (lv_at hl 2 rfl) ?_
  obtain ⟨u3, hq4, hF⟩ := zbd_t hF
  refine zgoVw (w' := (zP h r k u3)) hw hA (zVw (As := [.int ((2 : Int32) + p0), .long p1]) (rest := []) ⟨hx, hb, hml, hown, hts⟩ (mX2_exclude l G k h r H.size u1 ((2 : Int32) + p0) p1 u3 hq4) (cwV 2 hts gX2_turnToWalls_X2_exclude rfl rfl rfl kdX2_exclude ⟨Nat.le_of_ble_eq_true rfl, Nat.le_of_ble_eq_true rfl⟩) hK hA hw 0 rfl rfl rfl rfl hl.1 rfl (Nat.le_of_ble_eq_true rfl) dX2_turnToWalls_13 ⟨Nat.le_of_ble_eq_true rfl, Nat.le_of_ble_eq_true rfl⟩) (fun H locs hw => ?_)
  refine lv_aload_n hx hb dX2_turnToWalls_16 rfl (lv_at hl 0 rfl) ?_
  refine lv_iconst (v := (4 : Int32)) hx hb dX2_turnToWalls_17 (by decide) ?_
  refine lv_iload_n hx hb dX2_turnToWalls_18 rfl (lv_at hl 1 rfl) ?_
  refine lv_iadd hx hb dX2_turnToWalls_19 ?_
  refine lv_lload_n hx hb dX2_turnToWalls_20 rfl (lv_at hl 2 rfl) ?_
  obtain ⟨u5, hq6, hF⟩ := zbd_t hF
  refine zgoVw (w' := (zP h r k u5)) hw hA (zVw (As := [.int ((4 : Int32) + p0), .long p1]) (rest := []) ⟨hx, hb, hml, hown, hts⟩ (mX2_include l G k h r H.size u3 ((4 : Int32) + p0) p1 u5 hq6) (cwV 2 hts gX2_turnToWalls_X2_include rfl rfl rfl kdX2_include ⟨Nat.le_of_ble_eq_true rfl, Nat.le_of_ble_eq_true rfl⟩) hK hA hw 0 rfl rfl rfl rfl hl.1 rfl (Nat.le_of_ble_eq_true rfl) dX2_turnToWalls_21 ⟨Nat.le_of_ble_eq_true rfl, Nat.le_of_ble_eq_true rfl⟩) (fun H locs hw => ?_)
  refine lv_aload_n hx hb dX2_turnToWalls_24 rfl (lv_at hl 0 rfl) ?_
  refine lv_bipush (v := (10 : Int32)) hx hb dX2_turnToWalls_25 (by decide) ?_
  refine lv_lload_n hx hb dX2_turnToWalls_27 rfl (lv_at hl 2 rfl) ?_
  obtain ⟨u7, hq8, hF⟩ := zbd_t hF
  refine zgoVw (w' := (zP h r k u7)) hw hA (zVw (As := [.int (10 : Int32), .long p1]) (rest := []) ⟨hx, hb, hml, hown, hts⟩ (mX2_include l G k h r H.size u5 (10 : Int32) p1 u7 hq8) (cwV 2 hts gX2_turnToWalls_X2_include rfl rfl rfl kdX2_include ⟨Nat.le_of_ble_eq_true rfl, Nat.le_of_ble_eq_true rfl⟩) hK hA hw 0 rfl rfl rfl rfl hl.1 rfl (Nat.le_of_ble_eq_true rfl) dX2_turnToWalls_28 ⟨Nat.le_of_ble_eq_true rfl, Nat.le_of_ble_eq_true rfl⟩) (fun H locs hw => ?_)
  obtain rfl := Option.some.inj hF
  exact hret _ _ _ _  hw dX2_turnToWalls_31

/-! SealedBoard$Position.movePiece(II)I -/
abbrev rmX2_movePiece : Room := { frames := 2, cells := 0, slots := 0, locals := 50 }
theorem kdX2_movePiece : yX2_movePiece.cls = RX2 ∧ yX2_movePiece.cls ≠ "java/lang/invoke/MethodHandle" ∧ yX2_movePiece.cls ≠ "java/lang/invoke/VarHandle" ∧ (parseMethodDescriptor yX2_movePiece.desc).map (fun d => d.parameters.length) = some 2 := by decide +kernel
def fX2_movePiece (f : Nat → Int64) (p0 : Int32) (p1 : Int32) : Option (Int32 × (Nat → Int64)) := (zbd (fX2_sideOn f p0) (fun u1 => (zbd (fX2_kindOn f p0) (fun u3 => (if u1 = (-1 : Int32) then (some ((0 : Int32), f)) else (if u3 = (-1 : Int32) then (some ((0 : Int32), f)) else (zbd (fX3_of p0) (fun u5 => (zbd (fX2_exclude f ((0 : Int32) + u1) u5) (fun u7 => (zbd (fX3_of p0) (fun u9 => (zbd (fX2_exclude u7 ((6 : Int32) + u3) u9) (fun u11 => (zbd (fX3_of p1) (fun u13 => (zbd (fX2_putPiece u11 u1 u3 u13) (fun u15 => (zbd (fX3_of p1) (fun u17 => (zbd (fX2_capturedFrom u15 u1 u17) (fun u19 => (zbd (fX4_otherSide u1) (fun u21 => (zbd (fX2_turnToWalls u15 u21 u19) (fun u23 => (zbd (fX3_size u19) (fun u25 => (some (u25, u23))))))))))))))))))))))))))))))
set_option maxHeartbeats 400000 in
set_option maxRecDepth 100000 in
theorem mX2_movePiece (l : Launch) (G : va_G) (k : Nat → ClassId) (h : Nat) (r : Nat) (sz : Nat) (f : Nat → Int64) (p0 : Int32) (p1 : Int32) (o : Int32 × (Nat → Int64)) (hF : fX2_movePiece f p0 p1 = some o) : zMI l yX2_movePiece wsX2_movePiece rmX2_movePiece G k (zP h r k f) sz [.ref h, .int p0, .int p1] o.1 (zP h r k o.2) := by
  refine zof_I (cc := cX2_movePiece) (nL := 7) (own := RX2) (rt := .int) (by decide) rfl rfl (Nat.le_of_ble_eq_true rfl) ?_
  intro p e s m args below meth c A Q C0 hK hA hret ls hl hw
  have hl : lv_has ls 7 [(0, .ref h), (1, .int p0), (2, .int p1)] := hl
  obtain ⟨hx, hb, hr, hml, hown, hts, hlocks⟩ := id C0
  obtain ⟨H, hH⟩ : ∃ z, z = s.heap := ⟨_, rfl⟩
  rw [← hH] at hw ⊢
  unfold fX2_movePiece at hF
  refine lv_aload_n hx hb dX2_movePiece_0 rfl (lv_at hl 0 rfl) ?_
  refine lv_iload_n hx hb dX2_movePiece_1 rfl (lv_at hl 1 rfl) ?_
  obtain ⟨u1, hq2, hF⟩ := zbd_t hF
  refine zgoIw (w' := (zP h r k f)) hw hA (zVw (As := [.int p0]) (rest := []) ⟨hx, hb, hml, hown, hts⟩ (mX2_sideOn l G k h r H.size f p0 u1 hq2) (cwV 1 hts gX2_movePiece_X2_sideOn rfl rfl rfl kdX2_sideOn ⟨Nat.le_of_ble_eq_true rfl, Nat.le_of_ble_eq_true rfl⟩) hK hA hw 0 rfl rfl rfl rfl hl.1 rfl (Nat.le_of_ble_eq_true rfl) dX2_movePiece_2 ⟨Nat.le_of_ble_eq_true rfl, Nat.le_of_ble_eq_true rfl⟩) (fun H locs hw => ?_)
  refine lv_istore_n (lv' := [(3, .int u1), (0, .ref h), (1, .int p0), (2, .int p1)]) hx hb dX2_movePiece_5 rfl hl (by decide) rfl (fun ls hl => ?_)
  refine lv_aload_n hx hb dX2_movePiece_6 rfl (lv_at hl 1 rfl) ?_
  refine lv_iload_n hx hb dX2_movePiece_7 rfl (lv_at hl 2 rfl) ?_
  obtain ⟨u3, hq4, hF⟩ := zbd_t hF
  refine zgoIw (w' := (zP h r k f)) hw hA (zVw (As := [.int p0]) (rest := []) ⟨hx, hb, hml, hown, hts⟩ (mX2_kindOn l G k h r H.size f p0 u3 hq4) (cwV 1 hts gX2_movePiece_X2_kindOn rfl rfl rfl kdX2_kindOn ⟨Nat.le_of_ble_eq_true rfl, Nat.le_of_ble_eq_true rfl⟩) hK hA hw 0 rfl rfl rfl rfl hl.1 rfl (Nat.le_of_ble_eq_true rfl) dX2_movePiece_8 ⟨Nat.le_of_ble_eq_true rfl, Nat.le_of_ble_eq_true rfl⟩) (fun H locs hw => ?_)
  refine lv_istore (lv' := [(4, .int u3), (3, .int u1), (0, .ref h), (1, .int p0), (2, .int p1)]) hx hb dX2_movePiece_11 hl (by decide) rfl (fun ls hl => ?_)
  refine lv_iload_n hx hb dX2_movePiece_13 rfl (lv_at hl 1 rfl) ?_
  refine lv_iconst (v := (-1 : Int32)) hx hb dX2_movePiece_14 (by decide) ?_
  refine lv_icmp_eq (tgt := 24) hx hb dX2_movePiece_15 (by decide) (fun hc => ?_) (fun hc => ?_)
  · have hF := zif_t hc hF
    refine lv_iconst (v := (0 : Int32)) hx hb dX2_movePiece_24 (by decide) ?_
    obtain rfl := Option.some.inj hF
    exact hret _ _ _ _ rfl hw dX2_movePiece_25
  · have hF := zif_f hc hF
    refine lv_iload hx hb dX2_movePiece_18 (lv_at hl 0 rfl) ?_
    refine lv_iconst (v := (-1 : Int32)) hx hb dX2_movePiece_20 (by decide) ?_
    refine lv_icmp_ne (tgt := 26) hx hb dX2_movePiece_21 (by decide) (fun hc => ?_) (fun hc => ?_)
    · have hF := zif_f hc hF
      refine lv_aload_n hx hb dX2_movePiece_26 rfl (lv_at hl 2 rfl) ?_
      refine lv_iconst (v := (0 : Int32)) hx hb dX2_movePiece_27 (by decide) ?_
      refine lv_iload_n hx hb dX2_movePiece_28 rfl (lv_at hl 1 rfl) ?_
      refine lv_iadd hx hb dX2_movePiece_29 ?_
      refine lv_iload_n hx hb dX2_movePiece_30 rfl (lv_at hl 3 rfl) ?_
      obtain ⟨u5, hq6, hF⟩ := zbd_t hF
      refine zgoL (w' := (zP h r k f)) hw hA [] rfl (zS (As := [.int p0]) (rest := [.int ((0 : Int32) + u1), .ref h]) ⟨hx, hb, hml, hown, hts⟩ (mX3_of l G k  H.size  p0 u5 hq6) (va_cwS 1 hts gX2_movePiece_X3_of rfl rfl rfl kdX3_of ⟨Nat.le_of_ble_eq_true rfl, Nat.le_of_ble_eq_true rfl⟩) hK hA hw [] rfl (by decide) rfl hl.1 rfl (Nat.le_of_ble_eq_true rfl) dX2_movePiece_31 ⟨Nat.le_of_ble_eq_true rfl, Nat.le_of_ble_eq_true rfl⟩) rfl rfl rfl (fun H locs hw => ?_)
      obtain ⟨u7, hq8, hF⟩ := zbd_t hF
      refine zgoVw (w' := (zP h r k u7)) hw hA (zVw (As := [.int ((0 : Int32) + u1), .long u5]) (rest := []) ⟨hx, hb, hml, hown, hts⟩ (mX2_exclude l G k h r H.size f ((0 : Int32) + u1) u5 u7 hq8) (cwV 2 hts gX2_movePiece_X2_exclude rfl rfl rfl kdX2_exclude ⟨Nat.le_of_ble_eq_true rfl, Nat.le_of_ble_eq_true rfl⟩) hK hA hw 0 rfl rfl rfl rfl hl.1 rfl (Nat.le_of_ble_eq_true rfl) dX2_movePiece_34 ⟨Nat.le_of_ble_eq_true rfl, Nat.le_of_ble_eq_true rfl⟩) (fun H locs hw => ?_)
      refine lv_aload_n hx hb dX2_movePiece_37 rfl (lv_at hl 2 rfl) ?_
      refine lv_bipush (v := (6 : Int32)) hx hb dX2_movePiece_38 (by decide) ?_
      refine lv_iload hx hb dX2_movePiece_40 (lv_at hl 0 rfl) ?_
      refine lv_iadd hx hb dX2_movePiece_42 ?_
      refine lv_iload_n hx hb dX2_movePiece_43 rfl (lv_at hl 3 rfl) ?_
      obtain ⟨u9, hq10, hF⟩ := zbd_t hF
      refine zgoL (w' := (zP h r k u7)) hw hA [] rfl (zS (As := [.int p0]) (rest := [.int ((6 : Int32) + u3), .ref h]) ⟨hx, hb, hml, hown, hts⟩ (mX3_of l G k  H.size  p0 u9 hq10) (va_cwS 1 hts gX2_movePiece_X3_of rfl rfl rfl kdX3_of ⟨Nat.le_of_ble_eq_true rfl, Nat.le_of_ble_eq_true rfl⟩) hK hA hw [] rfl (by decide) rfl hl.1 rfl (Nat.le_of_ble_eq_true rfl) dX2_movePiece_44 ⟨Nat.le_of_ble_eq_true rfl, Nat.le_of_ble_eq_true rfl⟩) rfl rfl rfl (fun H locs hw => ?_)
      obtain ⟨u11, hq12, hF⟩ := zbd_t hF
      refine zgoVw (w' := (zP h r k u11)) hw hA (zVw (As := [.int ((6 : Int32) + u3), .long u9]) (rest := []) ⟨hx, hb, hml, hown, hts⟩ (mX2_exclude l G k h r H.size u7 ((6 : Int32) + u3) u9 u11 hq12) (cwV 2 hts gX2_movePiece_X2_exclude rfl rfl rfl kdX2_exclude ⟨Nat.le_of_ble_eq_true rfl, Nat.le_of_ble_eq_true rfl⟩) hK hA hw 0 rfl rfl rfl rfl hl.1 rfl (Nat.le_of_ble_eq_true rfl) dX2_movePiece_47 ⟨Nat.le_of_ble_eq_true rfl, Nat.le_of_ble_eq_true rfl⟩) (fun H locs hw => ?_)
      refine lv_aload_n hx hb dX2_movePiece_50 rfl (lv_at hl 2 rfl) ?_
      refine lv_iload_n hx hb dX2_movePiece_51 rfl (lv_at hl 1 rfl) ?_
      refine lv_iload hx hb dX2_movePiece_52 (lv_at hl 0 rfl) ?_
      refine lv_iload_n hx hb dX2_movePiece_54 rfl (lv_at hl 4 rfl) ?_
      obtain ⟨u13, hq14, hF⟩ := zbd_t hF
      refine zgoL (w' := (zP h r k u11)) hw hA [] rfl (zS (As := [.int p1]) (rest := [.int u3, .int u1, .ref h]) ⟨hx, hb, hml, hown, hts⟩ (mX3_of l G k  H.size  p1 u13 hq14) (va_cwS 1 hts gX2_movePiece_X3_of rfl rfl rfl kdX3_of ⟨Nat.le_of_ble_eq_true rfl, Nat.le_of_ble_eq_true rfl⟩) hK hA hw [] rfl (by decide) rfl hl.1 rfl (Nat.le_of_ble_eq_true rfl) dX2_movePiece_55 ⟨Nat.le_of_ble_eq_true rfl, Nat.le_of_ble_eq_true rfl⟩) rfl rfl rfl (fun H locs hw => ?_)
      obtain ⟨u15, hq16, hF⟩ := zbd_t hF
      refine zgoVw (w' := (zP h r k u15)) hw hA (zVw (As := [.int u1, .int u3, .long u13]) (rest := []) ⟨hx, hb, hml, hown, hts⟩ (mX2_putPiece l G k h r H.size u11 u1 u3 u13 u15 hq16) (cwV 3 hts gX2_movePiece_X2_putPiece rfl rfl rfl kdX2_putPiece ⟨Nat.le_of_ble_eq_true rfl, Nat.le_of_ble_eq_true rfl⟩) hK hA hw 0 rfl rfl rfl rfl hl.1 rfl (Nat.le_of_ble_eq_true rfl) dX2_movePiece_58 ⟨Nat.le_of_ble_eq_true rfl, Nat.le_of_ble_eq_true rfl⟩) (fun H locs hw => ?_)
      refine lv_aload_n hx hb dX2_movePiece_61 rfl (lv_at hl 2 rfl) ?_
      refine lv_iload_n hx hb dX2_movePiece_62 rfl (lv_at hl 1 rfl) ?_
      refine lv_iload_n hx hb dX2_movePiece_63 rfl (lv_at hl 4 rfl) ?_
      obtain ⟨u17, hq18, hF⟩ := zbd_t hF
      refine zgoL (w' := (zP h r k u15)) hw hA [] rfl (zS (As := [.int p1]) (rest := [.int u1, .ref h]) ⟨hx, hb, hml, hown, hts⟩ (mX3_of l G k  H.size  p1 u17 hq18) (va_cwS 1 hts gX2_movePiece_X3_of rfl rfl rfl kdX3_of ⟨Nat.le_of_ble_eq_true rfl, Nat.le_of_ble_eq_true rfl⟩) hK hA hw [] rfl (by decide) rfl hl.1 rfl (Nat.le_of_ble_eq_true rfl) dX2_movePiece_64 ⟨Nat.le_of_ble_eq_true rfl, Nat.le_of_ble_eq_true rfl⟩) rfl rfl rfl (fun H locs hw => ?_)
      obtain ⟨u19, hq20, hF⟩ := zbd_t hF
      refine zgoLw (w' := (zP h r k u15)) hw hA (zVw (As := [.int u1, .long u17]) (rest := []) ⟨hx, hb, hml, hown, hts⟩ (mX2_capturedFrom l G k h r H.size u15 u1 u17 u19 hq20) (cwV 2 hts gX2_movePiece_X2_capturedFrom rfl rfl rfl kdX2_capturedFrom ⟨Nat.le_of_ble_eq_true rfl, Nat.le_of_ble_eq_true rfl⟩) hK hA hw 0 rfl rfl rfl rfl hl.1 rfl (Nat.le_of_ble_eq_true rfl) dX2_movePiece_67 ⟨Nat.le_of_ble_eq_true rfl, Nat.le_of_ble_eq_true rfl⟩) (fun H locs hw => ?_)
      refine lv_lstore (lv' := [(5, .long u19), (4, .int u3), (3, .int u1), (0, .ref h), (1, .int p0), (2, .int p1)]) hx hb dX2_movePiece_70 hl (by decide) rfl (fun ls hl => ?_)
      refine lv_aload_n hx hb dX2_movePiece_72 rfl (lv_at hl 3 rfl) ?_
      refine lv_iload_n hx hb dX2_movePiece_73 rfl (lv_at hl 2 rfl) ?_
      obtain ⟨u21, hq22, hF⟩ := zbd_t hF
      refine zgoI (w' := (zP h r k u15)) hw hA [] rfl (zSN (As := [.int u1]) (rest := [.ref h]) ⟨hx, hb, hml, hown, hts⟩ (mX4_otherSide l G k  H.size  u1 u21 hq22) ⟨va_cnB 1 hts gX2_movePiece_X4_otherSide_n105 rfl rfl rfl hK.2.1.1 (hts (.initialized RX4) (by decide +kernel)) kdX4_otherSide ⟨Nat.le_of_ble_eq_true rfl, Nat.le_of_ble_eq_true rfl⟩, (hts (.static yX4_otherSide) (by decide +kernel)), trivial⟩ hK hA hw [] rfl (by decide) rfl hl.1 rfl (Nat.le_of_ble_eq_true rfl) dX2_movePiece_74 ⟨Nat.le_of_ble_eq_true rfl, Nat.le_of_ble_eq_true rfl⟩) rfl rfl rfl (fun H locs hw => ?_)
      refine lv_lload hx hb dX2_movePiece_77 (lv_at hl 0 rfl) ?_
      obtain ⟨u23, hq24, hF⟩ := zbd_t hF
      refine zgoVw (w' := (zP h r k u23)) hw hA (zVw (As := [.int u21, .long u19]) (rest := []) ⟨hx, hb, hml, hown, hts⟩ (mX2_turnToWalls l G k h r H.size u15 u21 u19 u23 hq24) (cwV 2 hts gX2_movePiece_X2_turnToWalls rfl rfl rfl kdX2_turnToWalls ⟨Nat.le_of_ble_eq_true rfl, Nat.le_of_ble_eq_true rfl⟩) hK hA hw 0 rfl rfl rfl rfl hl.1 rfl (Nat.le_of_ble_eq_true rfl) dX2_movePiece_79 ⟨Nat.le_of_ble_eq_true rfl, Nat.le_of_ble_eq_true rfl⟩) (fun H locs hw => ?_)
      refine lv_lload hx hb dX2_movePiece_82 (lv_at hl 0 rfl) ?_
      obtain ⟨u25, hq26, hF⟩ := zbd_t hF
      refine zgoI (w' := (zP h r k u23)) hw hA [] rfl (zS (As := [.long u19]) (rest := []) ⟨hx, hb, hml, hown, hts⟩ (mX3_size l G k  H.size  u19 u25 hq26) (va_cwS 1 hts gX2_movePiece_X3_size rfl rfl rfl kdX3_size ⟨Nat.le_of_ble_eq_true rfl, Nat.le_of_ble_eq_true rfl⟩) hK hA hw [] rfl (by decide) rfl hl.1 rfl (Nat.le_of_ble_eq_true rfl) dX2_movePiece_84 ⟨Nat.le_of_ble_eq_true rfl, Nat.le_of_ble_eq_true rfl⟩) rfl rfl rfl (fun H locs hw => ?_)
      obtain rfl := Option.some.inj hF
      exact hret _ _ _ _ rfl hw dX2_movePiece_87
    · have hF := zif_t hc hF
      refine lv_iconst (v := (0 : Int32)) hx hb dX2_movePiece_24 (by decide) ?_
      obtain rfl := Option.some.inj hF
      exact hret _ _ _ _ rfl hw dX2_movePiece_25

/-! SealedBoard$Position.earn(II)V -/
abbrev rmX2_earn : Room := { frames := 0, cells := 0, slots := 0, locals := 0 }
theorem kdX2_earn : yX2_earn.cls = RX2 ∧ yX2_earn.cls ≠ "java/lang/invoke/MethodHandle" ∧ yX2_earn.cls ≠ "java/lang/invoke/VarHandle" ∧ (parseMethodDescriptor yX2_earn.desc).map (fun d => d.parameters.length) = some 2 := by decide +kernel
theorem inX2_earn_X2 : ∀ w ∈ u_ws RX2 TX2 1, w ∈ wsX2_earn := by decide +kernel
def fX2_earn (f : Nat → Int64) (p0 : Int32) (p1 : Int32) : Option ((Nat → Int64)) := (if p0 = 0 then (zck (zin (11 : Int32) 15) (zck (zin (11 : Int32) 15) (some ((vp_updL f (11 : Int32).toNatClampNeg ((f (11 : Int32).toNatClampNeg) + p1.toInt64)))))) else (zck (zin (12 : Int32) 15) (zck (zin (12 : Int32) 15) (some ((vp_updL f (12 : Int32).toNatClampNeg ((f (12 : Int32).toNatClampNeg) + p1.toInt64)))))))
set_option maxHeartbeats 400000 in
set_option maxRecDepth 100000 in
theorem mX2_earn (l : Launch) (G : va_G) (k : Nat → ClassId) (h : Nat) (r : Nat) (sz : Nat) (f : Nat → Int64) (p0 : Int32) (p1 : Int32) (o : (Nat → Int64)) (hF : fX2_earn f p0 p1 = some o) : zMV l yX2_earn wsX2_earn rmX2_earn G k (zP h r k f) sz [.ref h, .int p0, .int p1] (zP h r k o) := by
  refine zof_V (cc := cX2_earn) (nL := 3) (own := RX2) (by decide) rfl rfl (Nat.le_of_ble_eq_true rfl) ?_
  intro p e s m args below meth c A Q C0 hK hA hret ls hl hw
  have hl : lv_has ls 3 [(0, .ref h), (1, .int p0), (2, .int p1)] := hl
  obtain ⟨hx, hb, hr, hml, hown, hts, hlocks⟩ := id C0
  obtain ⟨H, hH⟩ : ∃ z, z = s.heap := ⟨_, rfl⟩
  rw [← hH] at hw ⊢
  unfold fX2_earn at hF
  refine lv_iload_n hx hb dX2_earn_0 rfl (lv_at hl 1 rfl) ?_
  refine lv_if_ne (tgt := 19) hx hb dX2_earn_1 (by decide) (fun hc => ?_) (fun hc => ?_)
  · have hF := zif_f hc hF
    refine lv_aload_n hx hb dX2_earn_19 rfl (lv_at hl 0 rfl) ?_
    refine va_get (D := G) (ci := 2) (v := .ref r) (C := RX2) (T := TX2) (N := 1) hx hb hts inX2_earn_X2 hown hK.1 hw.1 0 rfl rfl 0 (by decide) (hts (.fieldLink RX2 11 "SealedBoard$Position" "row" "[J") (by decide +kernel)) (fun _ h9 => h9) rfl dX2_earn_20 ?_
    refine lv_bipush (v := (12 : Int32)) hx hb dX2_earn_23 (by decide) ?_
    refine lv_dup2_11 hx hb dX2_earn_25 rfl rfl ?_
    obtain ⟨hi1, hF⟩ := zck_in hF
    refine va_lald hx hb hK.1 hw.1 1 0 rfl rfl hi1 dX2_earn_26 ?_
    refine lv_iload_n hx hb dX2_earn_27 rfl (lv_at hl 2 rfl) ?_
    refine lv_i2l hx hb dX2_earn_28 rfl ?_
    refine lv_ladd hx hb dX2_earn_29 ?_
    obtain ⟨hi2, hF⟩ := zck_in hF
    refine va_last hx hb hK.1 hw.1 hw.2.1 hw.2.2 1 0 rfl rfl hi2 dX2_earn_30 (fun H locs hP hD hS => ?_)
    have hw : zWd G A s (zP h r k (vp_updL f (12 : Int32).toNatClampNeg ((f (12 : Int32).toNatClampNeg) + p1.toInt64))) H locs := ⟨hP, hD, hS⟩
    obtain rfl := Option.some.inj hF
    exact hret _ _ _ _  hw dX2_earn_31
  · have hF := zif_t hc hF
    refine lv_aload_n hx hb dX2_earn_4 rfl (lv_at hl 0 rfl) ?_
    refine va_get (D := G) (ci := 2) (v := .ref r) (C := RX2) (T := TX2) (N := 1) hx hb hts inX2_earn_X2 hown hK.1 hw.1 0 rfl rfl 0 (by decide) (hts (.fieldLink RX2 11 "SealedBoard$Position" "row" "[J") (by decide +kernel)) (fun _ h9 => h9) rfl dX2_earn_5 ?_
    refine lv_bipush (v := (11 : Int32)) hx hb dX2_earn_8 (by decide) ?_
    refine lv_dup2_11 hx hb dX2_earn_10 rfl rfl ?_
    obtain ⟨hi3, hF⟩ := zck_in hF
    refine va_lald hx hb hK.1 hw.1 1 0 rfl rfl hi3 dX2_earn_11 ?_
    refine lv_iload_n hx hb dX2_earn_12 rfl (lv_at hl 2 rfl) ?_
    refine lv_i2l hx hb dX2_earn_13 rfl ?_
    refine lv_ladd hx hb dX2_earn_14 ?_
    obtain ⟨hi4, hF⟩ := zck_in hF
    refine va_last hx hb hK.1 hw.1 hw.2.1 hw.2.2 1 0 rfl rfl hi4 dX2_earn_15 (fun H locs hP hD hS => ?_)
    have hw : zWd G A s (zP h r k (vp_updL f (11 : Int32).toNatClampNeg ((f (11 : Int32).toNatClampNeg) + p1.toInt64))) H locs := ⟨hP, hD, hS⟩
    refine lv_goto (tgt := 31) hx hb dX2_earn_16 (by decide) ?_
    obtain rfl := Option.some.inj hF
    exact hret _ _ _ _  hw dX2_earn_31

/-! SealedBoard$Position.endTurn(Z)V -/
abbrev rmX2_endTurn : Room := { frames := 2, cells := 0, slots := 0, locals := 50 }
theorem kdX2_endTurn : yX2_endTurn.cls = RX2 ∧ yX2_endTurn.cls ≠ "java/lang/invoke/MethodHandle" ∧ yX2_endTurn.cls ≠ "java/lang/invoke/VarHandle" ∧ (parseMethodDescriptor yX2_endTurn.desc).map (fun d => d.parameters.length) = some 1 := by decide +kernel
theorem inX2_endTurn_X2 : ∀ w ∈ u_ws RX2 TX2 1, w ∈ wsX2_endTurn := by decide +kernel
def fX2_endTurn_31   (f : Nat → Int64) (x2 : Int32) : Option ((Nat → Int64)) := (zck (zin (14 : Int32) 15) (some ((vp_updL f (14 : Int32).toNatClampNeg ((x2 + (1 : Int32)).toInt64)))))
def fX2_endTurn (f : Nat → Int64) (p0 : Int32) : Option ((Nat → Int64)) := (zbd (fX2_mover f) (fun u1 => (zck (zin (13 : Int32) 15) (zck (zin (13 : Int32) 15) (if p0 = 0 then (zbd (fX4_otherSide u1) (fun u5 => (zbd (fX2_hasMove (vp_updL f (13 : Int32).toNatClampNeg ((f (13 : Int32).toNatClampNeg) + (1 : Int64))) u5) (fun u7 => (if u7 = 0 then (fX2_endTurn_31    (vp_updL f (13 : Int32).toNatClampNeg ((f (13 : Int32).toNatClampNeg) + (1 : Int64))) u1) else (zbd (fX2_turns (vp_updL f (13 : Int32).toNatClampNeg ((f (13 : Int32).toNatClampNeg) + (1 : Int64)))) (fun u9 => (if u9 < (60 : Int32) then (some ((vp_updL f (13 : Int32).toNatClampNeg ((f (13 : Int32).toNatClampNeg) + (1 : Int64))))) else (zck (zin (14 : Int32) 15) (some ((vp_updL (vp_updL f (13 : Int32).toNatClampNeg ((f (13 : Int32).toNatClampNeg) + (1 : Int64))) (14 : Int32).toNatClampNeg (3 : Int64))))))))))))) else (fX2_endTurn_31    (vp_updL f (13 : Int32).toNatClampNeg ((f (13 : Int32).toNatClampNeg) + (1 : Int64))) u1))))))
set_option maxHeartbeats 400000 in
set_option maxRecDepth 100000 in
theorem wX2_endTurn_31 {p : Program} {l : Launch} {e : Env} {s : State} {m : MethodId} {args : Array Value} {below : List Frame} {meth : Method} {c : Code} {A : Nat → Prop} {Q : State → Prop} {G : va_G} {k : Nat → ClassId} {h : Nat} {r : Nat}  {o : (Nat → Int64)} (C0 : zCx p s m args meth c wsX2_endTurn cX2_endTurn RX2 none 3) (hK : zKK G k A s s.heap) (hA : ∀ q : Nat, s.heap.size ≤ q → A q) (hret : zRV p l e rmX2_endTurn s m args below meth c cX2_endTurn G A 0 0 Q (zP h r k o))  : ∀ (f : Nat → Int64) (x2 : Int32), fX2_endTurn_31   f x2 = some o → ∀ (H : Heap) (locs : List Loc) (ls : Array Slot), zWd G A s (zP h r k f) H locs → lv_has ls 3 [(0, .ref h), (2, .int x2)] → W p l e rmX2_endTurn s m args below meth c H locs 0 0 Q (F0 m 31 ls []) := by
  obtain ⟨hx, hb, hr, hml, hown, hts, hlocks⟩ := id C0
  intro f x2 hF H locs ls hw hl
  unfold fX2_endTurn_31 at hF
  refine lv_aload_n hx hb dX2_endTurn_31 rfl (lv_at hl 0 rfl) ?_
  refine va_get (D := G) (ci := 2) (v := .ref r) (C := RX2) (T := TX2) (N := 1) hx hb hts inX2_endTurn_X2 hown hK.1 hw.1 0 rfl rfl 0 (by decide) (hts (.fieldLink RX2 11 "SealedBoard$Position" "row" "[J") (by decide +kernel)) (fun _ h9 => h9) rfl dX2_endTurn_32 ?_
  refine lv_bipush (v := (14 : Int32)) hx hb dX2_endTurn_35 (by decide) ?_
  refine lv_iload_n hx hb dX2_endTurn_37 rfl (lv_at hl 1 rfl) ?_
  refine lv_iconst (v := (1 : Int32)) hx hb dX2_endTurn_38 (by decide) ?_
  refine lv_iadd hx hb dX2_endTurn_39 ?_
  refine lv_i2l hx hb dX2_endTurn_40 rfl ?_
  obtain ⟨hi1, hF⟩ := zck_in hF
  refine va_last hx hb hK.1 hw.1 hw.2.1 hw.2.2 1 0 rfl rfl hi1 dX2_endTurn_41 (fun H locs hP hD hS => ?_)
  have hw : zWd G A s (zP h r k (vp_updL f (14 : Int32).toNatClampNeg ((x2 + (1 : Int32)).toInt64))) H locs := ⟨hP, hD, hS⟩
  refine lv_goto (tgt := 64) hx hb dX2_endTurn_42 (by decide) ?_
  obtain rfl := Option.some.inj hF
  exact hret _ _ _ _  hw dX2_endTurn_64
set_option maxHeartbeats 400000 in
set_option maxRecDepth 100000 in
theorem mX2_endTurn (l : Launch) (G : va_G) (k : Nat → ClassId) (h : Nat) (r : Nat) (sz : Nat) (f : Nat → Int64) (p0 : Int32) (o : (Nat → Int64)) (hF : fX2_endTurn f p0 = some o) : zMV l yX2_endTurn wsX2_endTurn rmX2_endTurn G k (zP h r k f) sz [.ref h, .int p0] (zP h r k o) := by
  refine zof_V (cc := cX2_endTurn) (nL := 3) (own := RX2) (by decide) rfl rfl (Nat.le_of_ble_eq_true rfl) ?_
  intro p e s m args below meth c A Q C0 hK hA hret ls hl hw
  have hl : lv_has ls 3 [(0, .ref h), (1, .int p0)] := hl
  obtain ⟨hx, hb, hr, hml, hown, hts, hlocks⟩ := id C0
  obtain ⟨H, hH⟩ : ∃ z, z = s.heap := ⟨_, rfl⟩
  rw [← hH] at hw ⊢
  unfold fX2_endTurn at hF
  refine lv_aload_n hx hb dX2_endTurn_0 rfl (lv_at hl 0 rfl) ?_
  obtain ⟨u1, hq2, hF⟩ := zbd_t hF
  refine zgoIw (w' := (zP h r k f)) hw hA (zVw (As := []) (rest := []) ⟨hx, hb, hml, hown, hts⟩ (mX2_mover l G k h r H.size f  u1 hq2) (cwV 0 hts gX2_endTurn_X2_mover rfl rfl rfl kdX2_mover ⟨Nat.le_of_ble_eq_true rfl, Nat.le_of_ble_eq_true rfl⟩) hK hA hw 0 rfl rfl rfl rfl hl.1 rfl (Nat.le_of_ble_eq_true rfl) dX2_endTurn_1 ⟨Nat.le_of_ble_eq_true rfl, Nat.le_of_ble_eq_true rfl⟩) (fun H locs hw => ?_)
  refine lv_istore_n (lv' := [(2, .int u1), (0, .ref h), (1, .int p0)]) hx hb dX2_endTurn_4 rfl hl (by decide) rfl (fun ls hl => ?_)
  refine lv_aload_n hx hb dX2_endTurn_5 rfl (lv_at hl 1 rfl) ?_
  refine va_get (D := G) (ci := 2) (v := .ref r) (C := RX2) (T := TX2) (N := 1) hx hb hts inX2_endTurn_X2 hown hK.1 hw.1 0 rfl rfl 0 (by decide) (hts (.fieldLink RX2 11 "SealedBoard$Position" "row" "[J") (by decide +kernel)) (fun _ h9 => h9) rfl dX2_endTurn_6 ?_
  refine lv_bipush (v := (13 : Int32)) hx hb dX2_endTurn_9 (by decide) ?_
  refine lv_dup2_11 hx hb dX2_endTurn_11 rfl rfl ?_
  obtain ⟨hi3, hF⟩ := zck_in hF
  refine va_lald hx hb hK.1 hw.1 1 0 rfl rfl hi3 dX2_endTurn_12 ?_
  refine lv_lconst (v := (1 : Int64)) hx hb dX2_endTurn_13 (by decide) ?_
  refine lv_ladd hx hb dX2_endTurn_14 ?_
  obtain ⟨hi4, hF⟩ := zck_in hF
  refine va_last hx hb hK.1 hw.1 hw.2.1 hw.2.2 1 0 rfl rfl hi4 dX2_endTurn_15 (fun H locs hP hD hS => ?_)
  have hw : zWd G A s (zP h r k (vp_updL f (13 : Int32).toNatClampNeg ((f (13 : Int32).toNatClampNeg) + (1 : Int64)))) H locs := ⟨hP, hD, hS⟩
  refine lv_iload_n hx hb dX2_endTurn_16 rfl (lv_at hl 2 rfl) ?_
  refine lv_if_ne (tgt := 31) hx hb dX2_endTurn_17 (by decide) (fun hc => ?_) (fun hc => ?_)
  · have hF := zif_f hc hF
    exact wX2_endTurn_31 C0 hK hA hret   _ _ hF _ _ _ hw (lv_sub hl [1, 0] rfl)
  · have hF := zif_t hc hF
    refine lv_aload_n hx hb dX2_endTurn_20 rfl (lv_at hl 1 rfl) ?_
    refine lv_iload_n hx hb dX2_endTurn_21 rfl (lv_at hl 0 rfl) ?_
    obtain ⟨u5, hq6, hF⟩ := zbd_t hF
    refine zgoI (w' := (zP h r k (vp_updL f (13 : Int32).toNatClampNeg ((f (13 : Int32).toNatClampNeg) + (1 : Int64))))) hw hA [] rfl (zSN (As := [.int u1]) (rest := [.ref h]) ⟨hx, hb, hml, hown, hts⟩ (mX4_otherSide l G k  H.size  u1 u5 hq6) ⟨va_cnB 1 hts gX2_endTurn_X4_otherSide_n105 rfl rfl rfl hK.2.1.1 (hts (.initialized RX4) (by decide +kernel)) kdX4_otherSide ⟨Nat.le_of_ble_eq_true rfl, Nat.le_of_ble_eq_true rfl⟩, (hts (.static yX4_otherSide) (by decide +kernel)), trivial⟩ hK hA hw [] rfl (by decide) rfl hl.1 rfl (Nat.le_of_ble_eq_true rfl) dX2_endTurn_22 ⟨Nat.le_of_ble_eq_true rfl, Nat.le_of_ble_eq_true rfl⟩) rfl rfl rfl (fun H locs hw => ?_)
    obtain ⟨u7, hq8, hF⟩ := zbd_t hF
    refine zgoIw (w' := (zP h r k (vp_updL f (13 : Int32).toNatClampNeg ((f (13 : Int32).toNatClampNeg) + (1 : Int64))))) hw hA (zVw (As := [.int u5]) (rest := []) ⟨hx, hb, hml, hown, hts⟩ (mX2_hasMove l G k h r H.size (vp_updL f (13 : Int32).toNatClampNeg ((f (13 : Int32).toNatClampNeg) + (1 : Int64))) u5 u7 hq8) (cwV 1 hts gX2_endTurn_X2_hasMove rfl rfl rfl kdX2_hasMove ⟨Nat.le_of_ble_eq_true rfl, Nat.le_of_ble_eq_true rfl⟩) hK hA hw 0 rfl rfl rfl rfl hl.1 rfl (Nat.le_of_ble_eq_true rfl) dX2_endTurn_25 ⟨Nat.le_of_ble_eq_true rfl, Nat.le_of_ble_eq_true rfl⟩) (fun H locs hw => ?_)
    refine lv_if_ne (tgt := 45) hx hb dX2_endTurn_28 (by decide) (fun hc => ?_) (fun hc => ?_)
    · have hF := zif_f hc hF
      refine lv_aload_n hx hb dX2_endTurn_45 rfl (lv_at hl 1 rfl) ?_
      obtain ⟨u9, hq10, hF⟩ := zbd_t hF
      refine zgoIw (w' := (zP h r k (vp_updL f (13 : Int32).toNatClampNeg ((f (13 : Int32).toNatClampNeg) + (1 : Int64))))) hw hA (zVw (As := []) (rest := []) ⟨hx, hb, hml, hown, hts⟩ (mX2_turns l G k h r H.size (vp_updL f (13 : Int32).toNatClampNeg ((f (13 : Int32).toNatClampNeg) + (1 : Int64)))  u9 hq10) (cwV 0 hts gX2_endTurn_X2_turns rfl rfl rfl kdX2_turns ⟨Nat.le_of_ble_eq_true rfl, Nat.le_of_ble_eq_true rfl⟩) hK hA hw 0 rfl rfl rfl rfl hl.1 rfl (Nat.le_of_ble_eq_true rfl) dX2_endTurn_46 ⟨Nat.le_of_ble_eq_true rfl, Nat.le_of_ble_eq_true rfl⟩) (fun H locs hw => ?_)
      refine lv_bipush (v := (60 : Int32)) hx hb dX2_endTurn_49 (by decide) ?_
      refine lv_icmp_lt (tgt := 64) hx hb dX2_endTurn_51 (by decide) (fun hc => ?_) (fun hc => ?_)
      · have hF := zif_t hc hF
        obtain rfl := Option.some.inj hF
        exact hret _ _ _ _  hw dX2_endTurn_64
      · have hF := zif_f hc hF
        refine lv_aload_n hx hb dX2_endTurn_54 rfl (lv_at hl 1 rfl) ?_
        refine va_get (D := G) (ci := 2) (v := .ref r) (C := RX2) (T := TX2) (N := 1) hx hb hts inX2_endTurn_X2 hown hK.1 hw.1 0 rfl rfl 0 (by decide) (hts (.fieldLink RX2 11 "SealedBoard$Position" "row" "[J") (by decide +kernel)) (fun _ h9 => h9) rfl dX2_endTurn_55 ?_
        refine lv_bipush (v := (14 : Int32)) hx hb dX2_endTurn_58 (by decide) ?_
        refine lv_ldc2 (v := (3 : Int64)) hx hb hown (hts (.constantLong RX2 20 (3)) (by decide +kernel)) dX2_endTurn_60 ?_
        obtain ⟨hi11, hF⟩ := zck_in hF
        refine va_last hx hb hK.1 hw.1 hw.2.1 hw.2.2 1 0 rfl rfl hi11 dX2_endTurn_63 (fun H locs hP hD hS => ?_)
        have hw : zWd G A s (zP h r k (vp_updL (vp_updL f (13 : Int32).toNatClampNeg ((f (13 : Int32).toNatClampNeg) + (1 : Int64))) (14 : Int32).toNatClampNeg (3 : Int64))) H locs := ⟨hP, hD, hS⟩
        obtain rfl := Option.some.inj hF
        exact hret _ _ _ _  hw dX2_endTurn_64
    · have hF := zif_t hc hF
      exact wX2_endTurn_31 C0 hK hA hret   _ _ hF _ _ _ hw (lv_sub hl [1, 0] rfl)

/-! SealedBoard$Position.takeMove(II)I -/
abbrev rmX2_takeMove : Room := { frames := 3, cells := 0, slots := 0, locals := 76 }
theorem kdX2_takeMove : yX2_takeMove.cls = RX2 ∧ yX2_takeMove.cls ≠ "java/lang/invoke/MethodHandle" ∧ yX2_takeMove.cls ≠ "java/lang/invoke/VarHandle" ∧ (parseMethodDescriptor yX2_takeMove.desc).map (fun d => d.parameters.length) = some 2 := by decide +kernel
def fX2_takeMove_66   (f : Nat → Int64) (x6 : Int32) (s0 : Int32) : Option (Int32 × (Nat → Int64)) := (zbd (fX2_endTurn f s0) (fun u1 => (some (x6, u1))))
def fX2_takeMove_65   (f : Nat → Int64) (x6 : Int32) : Option (Int32 × (Nat → Int64)) := (fX2_takeMove_66    f x6 (0 : Int32))
def fX2_takeMove_26   (f : Nat → Int64) (x1 : Int32) (x2 : Int32) (x3 : Int32) (x4 : Int32) (s0 : Int32) : Option (Int32 × (Nat → Int64)) := (zbd (fX2_movePiece f x1 x2) (fun u1 => (zbd (fX2_earn u1.2 x3 ((2 : Int32) * u1.1)) (fun u3 => (if s0 = 0 then (fX2_takeMove_65    u3 u1.1) else (zbd (fX2_keeperOf u3 x4) (fun u5 => (if u5 = (-1 : Int32) then (fX2_takeMove_66    u3 u1.1 (1 : Int32)) else (fX2_takeMove_65    u3 u1.1)))))))))
def fX2_takeMove (f : Nat → Int64) (p0 : Int32) (p1 : Int32) : Option (Int32 × (Nat → Int64)) := (zbd (fX2_mover f) (fun u1 => (zbd (fX4_otherSide u1) (fun u3 => (zbd (fX2_keeperOf f u3) (fun u5 => (if u5 = (-1 : Int32) then (fX2_takeMove_26    f p0 p1 u1 u3 (0 : Int32)) else (fX2_takeMove_26    f p0 p1 u1 u3 (1 : Int32)))))))))
set_option maxHeartbeats 400000 in
set_option maxRecDepth 100000 in
theorem wX2_takeMove_66 {p : Program} {l : Launch} {e : Env} {s : State} {m : MethodId} {args : Array Value} {below : List Frame} {meth : Method} {c : Code} {A : Nat → Prop} {Q : State → Prop} {G : va_G} {k : Nat → ClassId} {h : Nat} {r : Nat}  {o : Int32 × (Nat → Int64)} (C0 : zCx p s m args meth c wsX2_takeMove cX2_takeMove RX2 (some .int) 7) (hK : zKK G k A s s.heap) (hA : ∀ q : Nat, s.heap.size ≤ q → A q) (hret : zRI p l e rmX2_takeMove s m args below meth c cX2_takeMove G A 0 0 Q .int (zP h r k o.2) o.1)  : ∀ (f : Nat → Int64) (x6 : Int32) (s0 : Int32), fX2_takeMove_66   f x6 s0 = some o → ∀ (H : Heap) (locs : List Loc) (ls : Array Slot), zWd G A s (zP h r k f) H locs → lv_has ls 7 [(6, .int x6)] → W p l e rmX2_takeMove s m args below meth c H locs 0 0 Q (F0 m 66 ls [.int s0, .ref h]) := by
  obtain ⟨hx, hb, hr, hml, hown, hts, hlocks⟩ := id C0
  intro f x6 s0 hF H locs ls hw hl
  unfold fX2_takeMove_66 at hF
  obtain ⟨u1, hq2, hF⟩ := zbd_t hF
  refine zgoVw (w' := (zP h r k u1)) hw hA (zVw (As := [.int s0]) (rest := []) ⟨hx, hb, hml, hown, hts⟩ (mX2_endTurn l G k h r H.size f s0 u1 hq2) (cwV 1 hts gX2_takeMove_X2_endTurn rfl rfl rfl kdX2_endTurn ⟨Nat.le_of_ble_eq_true rfl, Nat.le_of_ble_eq_true rfl⟩) hK hA hw 0 rfl rfl rfl rfl hl.1 rfl (Nat.le_of_ble_eq_true rfl) dX2_takeMove_66 ⟨Nat.le_of_ble_eq_true rfl, Nat.le_of_ble_eq_true rfl⟩) (fun H locs hw => ?_)
  refine lv_iload hx hb dX2_takeMove_69 (lv_at hl 0 rfl) ?_
  obtain rfl := Option.some.inj hF
  exact hret _ _ _ _ rfl hw dX2_takeMove_71
set_option maxHeartbeats 400000 in
set_option maxRecDepth 100000 in
theorem wX2_takeMove_65 {p : Program} {l : Launch} {e : Env} {s : State} {m : MethodId} {args : Array Value} {below : List Frame} {meth : Method} {c : Code} {A : Nat → Prop} {Q : State → Prop} {G : va_G} {k : Nat → ClassId} {h : Nat} {r : Nat}  {o : Int32 × (Nat → Int64)} (C0 : zCx p s m args meth c wsX2_takeMove cX2_takeMove RX2 (some .int) 7) (hK : zKK G k A s s.heap) (hA : ∀ q : Nat, s.heap.size ≤ q → A q) (hret : zRI p l e rmX2_takeMove s m args below meth c cX2_takeMove G A 0 0 Q .int (zP h r k o.2) o.1)  : ∀ (f : Nat → Int64) (x6 : Int32), fX2_takeMove_65   f x6 = some o → ∀ (H : Heap) (locs : List Loc) (ls : Array Slot), zWd G A s (zP h r k f) H locs → lv_has ls 7 [(6, .int x6)] → W p l e rmX2_takeMove s m args below meth c H locs 0 0 Q (F0 m 65 ls [.ref h]) := by
  obtain ⟨hx, hb, hr, hml, hown, hts, hlocks⟩ := id C0
  intro f x6 hF H locs ls hw hl
  unfold fX2_takeMove_65 at hF
  refine lv_iconst (v := (0 : Int32)) hx hb dX2_takeMove_65 (by decide) ?_
  exact wX2_takeMove_66 C0 hK hA hret   _ _ _ hF _ _ _ hw (lv_sub hl [0] rfl)
set_option maxHeartbeats 400000 in
set_option maxRecDepth 100000 in
theorem wX2_takeMove_26 {p : Program} {l : Launch} {e : Env} {s : State} {m : MethodId} {args : Array Value} {below : List Frame} {meth : Method} {c : Code} {A : Nat → Prop} {Q : State → Prop} {G : va_G} {k : Nat → ClassId} {h : Nat} {r : Nat}  {o : Int32 × (Nat → Int64)} (C0 : zCx p s m args meth c wsX2_takeMove cX2_takeMove RX2 (some .int) 7) (hK : zKK G k A s s.heap) (hA : ∀ q : Nat, s.heap.size ≤ q → A q) (hret : zRI p l e rmX2_takeMove s m args below meth c cX2_takeMove G A 0 0 Q .int (zP h r k o.2) o.1)  : ∀ (f : Nat → Int64) (x1 : Int32) (x2 : Int32) (x3 : Int32) (x4 : Int32) (s0 : Int32), fX2_takeMove_26   f x1 x2 x3 x4 s0 = some o → ∀ (H : Heap) (locs : List Loc) (ls : Array Slot), zWd G A s (zP h r k f) H locs → lv_has ls 7 [(0, .ref h), (1, .int x1), (2, .int x2), (3, .int x3), (4, .int x4)] → W p l e rmX2_takeMove s m args below meth c H locs 0 0 Q (F0 m 26 ls [.int s0]) := by
  obtain ⟨hx, hb, hr, hml, hown, hts, hlocks⟩ := id C0
  intro f x1 x2 x3 x4 s0 hF H locs ls hw hl
  unfold fX2_takeMove_26 at hF
  refine lv_istore (lv' := [(5, .int s0), (0, .ref h), (1, .int x1), (2, .int x2), (3, .int x3), (4, .int x4)]) hx hb dX2_takeMove_26 hl (by decide) rfl (fun ls hl => ?_)
  refine lv_aload_n hx hb dX2_takeMove_28 rfl (lv_at hl 1 rfl) ?_
  refine lv_iload_n hx hb dX2_takeMove_29 rfl (lv_at hl 2 rfl) ?_
  refine lv_iload_n hx hb dX2_takeMove_30 rfl (lv_at hl 3 rfl) ?_
  obtain ⟨u1, hq2, hF⟩ := zbd_t hF
  refine zgoIw (w' := (zP h r k u1.2)) hw hA (zVw (As := [.int x1, .int x2]) (rest := []) ⟨hx, hb, hml, hown, hts⟩ (mX2_movePiece l G k h r H.size f x1 x2 u1 hq2) (cwV 2 hts gX2_takeMove_X2_movePiece rfl rfl rfl kdX2_movePiece ⟨Nat.le_of_ble_eq_true rfl, Nat.le_of_ble_eq_true rfl⟩) hK hA hw 0 rfl rfl rfl rfl hl.1 rfl (Nat.le_of_ble_eq_true rfl) dX2_takeMove_31 ⟨Nat.le_of_ble_eq_true rfl, Nat.le_of_ble_eq_true rfl⟩) (fun H locs hw => ?_)
  refine lv_istore (lv' := [(6, .int u1.1), (5, .int s0), (0, .ref h), (1, .int x1), (2, .int x2), (3, .int x3), (4, .int x4)]) hx hb dX2_takeMove_34 hl (by decide) rfl (fun ls hl => ?_)
  refine lv_aload_n hx hb dX2_takeMove_36 rfl (lv_at hl 2 rfl) ?_
  refine lv_iload_n hx hb dX2_takeMove_37 rfl (lv_at hl 5 rfl) ?_
  refine lv_iconst (v := (2 : Int32)) hx hb dX2_takeMove_38 (by decide) ?_
  refine lv_iload hx hb dX2_takeMove_39 (lv_at hl 0 rfl) ?_
  refine lv_imul hx hb dX2_takeMove_41 ?_
  obtain ⟨u3, hq4, hF⟩ := zbd_t hF
  refine zgoVw (w' := (zP h r k u3)) hw hA (zVw (As := [.int x3, .int ((2 : Int32) * u1.1)]) (rest := []) ⟨hx, hb, hml, hown, hts⟩ (mX2_earn l G k h r H.size u1.2 x3 ((2 : Int32) * u1.1) u3 hq4) (cwV 2 hts gX2_takeMove_X2_earn rfl rfl rfl kdX2_earn ⟨Nat.le_of_ble_eq_true rfl, Nat.le_of_ble_eq_true rfl⟩) hK hA hw 0 rfl rfl rfl rfl hl.1 rfl (Nat.le_of_ble_eq_true rfl) dX2_takeMove_42 ⟨Nat.le_of_ble_eq_true rfl, Nat.le_of_ble_eq_true rfl⟩) (fun H locs hw => ?_)
  refine lv_aload_n hx hb dX2_takeMove_45 rfl (lv_at hl 2 rfl) ?_
  refine lv_iload hx hb dX2_takeMove_46 (lv_at hl 1 rfl) ?_
  refine lv_if_eq (tgt := 65) hx hb dX2_takeMove_48 (by decide) (fun hc => ?_) (fun hc => ?_)
  · have hF := zif_t hc hF
    exact wX2_takeMove_65 C0 hK hA hret   _ _ hF _ _ _ hw (lv_sub hl [0] rfl)
  · have hF := zif_f hc hF
    refine lv_aload_n hx hb dX2_takeMove_51 rfl (lv_at hl 2 rfl) ?_
    refine lv_iload hx hb dX2_takeMove_52 (lv_at hl 6 rfl) ?_
    obtain ⟨u5, hq6, hF⟩ := zbd_t hF
    refine zgoIw (w' := (zP h r k u3)) hw hA (zVw (As := [.int x4]) (rest := [.ref h]) ⟨hx, hb, hml, hown, hts⟩ (mX2_keeperOf l G k h r H.size u3 x4 u5 hq6) (cwV 1 hts gX2_takeMove_X2_keeperOf rfl rfl rfl kdX2_keeperOf ⟨Nat.le_of_ble_eq_true rfl, Nat.le_of_ble_eq_true rfl⟩) hK hA hw 0 rfl rfl rfl rfl hl.1 rfl (Nat.le_of_ble_eq_true rfl) dX2_takeMove_54 ⟨Nat.le_of_ble_eq_true rfl, Nat.le_of_ble_eq_true rfl⟩) (fun H locs hw => ?_)
    refine lv_iconst (v := (-1 : Int32)) hx hb dX2_takeMove_57 (by decide) ?_
    refine lv_icmp_ne (tgt := 65) hx hb dX2_takeMove_58 (by decide) (fun hc => ?_) (fun hc => ?_)
    · have hF := zif_f hc hF
      exact wX2_takeMove_65 C0 hK hA hret   _ _ hF _ _ _ hw (lv_sub hl [0] rfl)
    · have hF := zif_t hc hF
      refine lv_iconst (v := (1 : Int32)) hx hb dX2_takeMove_61 (by decide) ?_
      refine lv_goto (tgt := 66) hx hb dX2_takeMove_62 (by decide) ?_
      exact wX2_takeMove_66 C0 hK hA hret   _ _ _ hF _ _ _ hw (lv_sub hl [0] rfl)
set_option maxHeartbeats 400000 in
set_option maxRecDepth 100000 in
theorem mX2_takeMove (l : Launch) (G : va_G) (k : Nat → ClassId) (h : Nat) (r : Nat) (sz : Nat) (f : Nat → Int64) (p0 : Int32) (p1 : Int32) (o : Int32 × (Nat → Int64)) (hF : fX2_takeMove f p0 p1 = some o) : zMI l yX2_takeMove wsX2_takeMove rmX2_takeMove G k (zP h r k f) sz [.ref h, .int p0, .int p1] o.1 (zP h r k o.2) := by
  refine zof_I (cc := cX2_takeMove) (nL := 7) (own := RX2) (rt := .int) (by decide) rfl rfl (Nat.le_of_ble_eq_true rfl) ?_
  intro p e s m args below meth c A Q C0 hK hA hret ls hl hw
  have hl : lv_has ls 7 [(0, .ref h), (1, .int p0), (2, .int p1)] := hl
  obtain ⟨hx, hb, hr, hml, hown, hts, hlocks⟩ := id C0
  obtain ⟨H, hH⟩ : ∃ z, z = s.heap := ⟨_, rfl⟩
  rw [← hH] at hw ⊢
  unfold fX2_takeMove at hF
  refine lv_aload_n hx hb dX2_takeMove_0 rfl (lv_at hl 0 rfl) ?_
  obtain ⟨u1, hq2, hF⟩ := zbd_t hF
  refine zgoIw (w' := (zP h r k f)) hw hA (zVw (As := []) (rest := []) ⟨hx, hb, hml, hown, hts⟩ (mX2_mover l G k h r H.size f  u1 hq2) (cwV 0 hts gX2_takeMove_X2_mover rfl rfl rfl kdX2_mover ⟨Nat.le_of_ble_eq_true rfl, Nat.le_of_ble_eq_true rfl⟩) hK hA hw 0 rfl rfl rfl rfl hl.1 rfl (Nat.le_of_ble_eq_true rfl) dX2_takeMove_1 ⟨Nat.le_of_ble_eq_true rfl, Nat.le_of_ble_eq_true rfl⟩) (fun H locs hw => ?_)
  refine lv_istore_n (lv' := [(3, .int u1), (0, .ref h), (1, .int p0), (2, .int p1)]) hx hb dX2_takeMove_4 rfl hl (by decide) rfl (fun ls hl => ?_)
  refine lv_iload_n hx hb dX2_takeMove_5 rfl (lv_at hl 0 rfl) ?_
  obtain ⟨u3, hq4, hF⟩ := zbd_t hF
  refine zgoI (w' := (zP h r k f)) hw hA [] rfl (zSN (As := [.int u1]) (rest := []) ⟨hx, hb, hml, hown, hts⟩ (mX4_otherSide l G k  H.size  u1 u3 hq4) ⟨va_cnB 1 hts gX2_takeMove_X4_otherSide_n105 rfl rfl rfl hK.2.1.1 (hts (.initialized RX4) (by decide +kernel)) kdX4_otherSide ⟨Nat.le_of_ble_eq_true rfl, Nat.le_of_ble_eq_true rfl⟩, (hts (.static yX4_otherSide) (by decide +kernel)), trivial⟩ hK hA hw [] rfl (by decide) rfl hl.1 rfl (Nat.le_of_ble_eq_true rfl) dX2_takeMove_6 ⟨Nat.le_of_ble_eq_true rfl, Nat.le_of_ble_eq_true rfl⟩) rfl rfl rfl (fun H locs hw => ?_)
  refine lv_istore (lv' := [(4, .int u3), (3, .int u1), (0, .ref h), (1, .int p0), (2, .int p1)]) hx hb dX2_takeMove_9 hl (by decide) rfl (fun ls hl => ?_)
  refine lv_aload_n hx hb dX2_takeMove_11 rfl (lv_at hl 2 rfl) ?_
  refine lv_iload hx hb dX2_takeMove_12 (lv_at hl 0 rfl) ?_
  obtain ⟨u5, hq6, hF⟩ := zbd_t hF
  refine zgoIw (w' := (zP h r k f)) hw hA (zVw (As := [.int u3]) (rest := []) ⟨hx, hb, hml, hown, hts⟩ (mX2_keeperOf l G k h r H.size f u3 u5 hq6) (cwV 1 hts gX2_takeMove_X2_keeperOf rfl rfl rfl kdX2_keeperOf ⟨Nat.le_of_ble_eq_true rfl, Nat.le_of_ble_eq_true rfl⟩) hK hA hw 0 rfl rfl rfl rfl hl.1 rfl (Nat.le_of_ble_eq_true rfl) dX2_takeMove_14 ⟨Nat.le_of_ble_eq_true rfl, Nat.le_of_ble_eq_true rfl⟩) (fun H locs hw => ?_)
  refine lv_iconst (v := (-1 : Int32)) hx hb dX2_takeMove_17 (by decide) ?_
  refine lv_icmp_eq (tgt := 25) hx hb dX2_takeMove_18 (by decide) (fun hc => ?_) (fun hc => ?_)
  · have hF := zif_t hc hF
    refine lv_iconst (v := (0 : Int32)) hx hb dX2_takeMove_25 (by decide) ?_
    exact wX2_takeMove_26 C0 hK hA hret   _ _ _ _ _ _ hF _ _ _ hw (lv_sub hl [2, 3, 4, 1, 0] rfl)
  · have hF := zif_f hc hF
    refine lv_iconst (v := (1 : Int32)) hx hb dX2_takeMove_21 (by decide) ?_
    refine lv_goto (tgt := 26) hx hb dX2_takeMove_22 (by decide) ?_
    exact wX2_takeMove_26 C0 hK hA hret   _ _ _ _ _ _ hF _ _ _ hw (lv_sub hl [2, 3, 4, 1, 0] rfl)

/-! SealedBoard$Position.takeDoor(I)I -/
abbrev rmX2_takeDoor : Room := { frames := 3, cells := 0, slots := 0, locals := 72 }
theorem kdX2_takeDoor : yX2_takeDoor.cls = RX2 ∧ yX2_takeDoor.cls ≠ "java/lang/invoke/MethodHandle" ∧ yX2_takeDoor.cls ≠ "java/lang/invoke/VarHandle" ∧ (parseMethodDescriptor yX2_takeDoor.desc).map (fun d => d.parameters.length) = some 1 := by decide +kernel
def fX2_takeDoor_44   : Nat → (Nat → Int64) → Int32 → Int64 → Int32 → Option (Int32 × (Nat → Int64))
  | 0, _, _, _, _ => none
  | n + 1, f, x2, x3, x5 => (if (4 : Int32) ≤ x5 then (zbd (fX2_include f ((2 : Int32) + x2) x3) (fun u1 => (zbd (fX2_earn u1 x2 (-3 : Int32)) (fun u3 => (zbd (fX2_endTurn u3 (0 : Int32)) (fun u5 => (zbd (fX2_coinsOf u5 x2) (fun u7 => (some (u7, u5)))))))))) else (zbd (fX2_exclude f ((6 : Int32) + x5) x3) (fun u9 => (zbn (x5 + (1 : Int32)) (fun a11 => (fX2_takeDoor_44   n u9 x2 x3 a11))))))
def fX2_takeDoor_20   : Nat → (Nat → Int64) → Int32 → Int64 → Int32 → Option (Int32 × (Nat → Int64))
  | 0, _, _, _, _ => none
  | n + 1, f, x2, x3, x5 => (if (2 : Int32) ≤ x5 then (fX2_takeDoor_44   zFu f x2 x3 (0 : Int32)) else (zbd (fX2_exclude f ((4 : Int32) + x5) x3) (fun u1 => (zbn (x5 + (1 : Int32)) (fun a3 => (fX2_takeDoor_20   n u1 x2 x3 a3))))))
def fX2_takeDoor (f : Nat → Int64) (p0 : Int32) : Option (Int32 × (Nat → Int64)) := (zbd (fX2_mover f) (fun u1 => (zbd (fX3_of p0) (fun u3 => (zbd (fX2_exclude f (10 : Int32) u3) (fun u5 => (fX2_takeDoor_20   zFu u5 u1 u3 (0 : Int32))))))))
set_option maxHeartbeats 400000 in
set_option maxRecDepth 100000 in
theorem wX2_takeDoor_44 {p : Program} {l : Launch} {e : Env} {s : State} {m : MethodId} {args : Array Value} {below : List Frame} {meth : Method} {c : Code} {A : Nat → Prop} {Q : State → Prop} {G : va_G} {k : Nat → ClassId} {h : Nat} {r : Nat}  {o : Int32 × (Nat → Int64)} (C0 : zCx p s m args meth c wsX2_takeDoor cX2_takeDoor RX2 (some .int) 6) (hK : zKK G k A s s.heap) (hA : ∀ q : Nat, s.heap.size ≤ q → A q) (hret : zRI p l e rmX2_takeDoor s m args below meth c cX2_takeDoor G A 0 0 Q .int (zP h r k o.2) o.1)  : ∀ (n : Nat) (f : Nat → Int64) (x2 : Int32) (x3 : Int64) (x5 : Int32), fX2_takeDoor_44   n f x2 x3 x5 = some o → ∀ (H : Heap) (locs : List Loc) (ls : Array Slot), zWd G A s (zP h r k f) H locs → lv_has ls 6 [(0, .ref h), (2, .int x2), (3, .long x3), (5, .int x5)] → W p l e rmX2_takeDoor s m args below meth c H locs 0 0 Q (F0 m 44 ls []) := by
  obtain ⟨hx, hb, hr, hml, hown, hts, hlocks⟩ := id C0
  intro n
  induction n with
  | zero => intro f x2 x3 x5 hF; exact nomatch hF
  | succ n ih =>
    intro f x2 x3 x5 hF H locs ls hw hl
    rw [fX2_takeDoor_44] at hF
    refine lv_iload hx hb dX2_takeDoor_44 (lv_at hl 3 rfl) ?_
    refine lv_iconst (v := (4 : Int32)) hx hb dX2_takeDoor_46 (by decide) ?_
    refine lv_icmp_ge (tgt := 66) hx hb dX2_takeDoor_47 (by decide) (fun hc => ?_) (fun hc => ?_)
    · have hF := zif_t hc hF
      refine lv_aload_n hx hb dX2_takeDoor_66 rfl (lv_at hl 0 rfl) ?_
      refine lv_iconst (v := (2 : Int32)) hx hb dX2_takeDoor_67 (by decide) ?_
      refine lv_iload_n hx hb dX2_takeDoor_68 rfl (lv_at hl 1 rfl) ?_
      refine lv_iadd hx hb dX2_takeDoor_69 ?_
      refine lv_lload_n hx hb dX2_takeDoor_70 rfl (lv_at hl 2 rfl) ?_
      obtain ⟨u1, hq2, hF⟩ := zbd_t hF
      refine zgoVw (w' := (zP h r k u1)) hw hA (zVw (As := [.int ((2 : Int32) + x2), .long x3]) (rest := []) ⟨hx, hb, hml, hown, hts⟩ (mX2_include l G k h r H.size f ((2 : Int32) + x2) x3 u1 hq2) (cwV 2 hts gX2_takeDoor_X2_include rfl rfl rfl kdX2_include ⟨Nat.le_of_ble_eq_true rfl, Nat.le_of_ble_eq_true rfl⟩) hK hA hw 0 rfl rfl rfl rfl hl.1 rfl (Nat.le_of_ble_eq_true rfl) dX2_takeDoor_71 ⟨Nat.le_of_ble_eq_true rfl, Nat.le_of_ble_eq_true rfl⟩) (fun H locs hw => ?_)
      refine lv_aload_n hx hb dX2_takeDoor_74 rfl (lv_at hl 0 rfl) ?_
      refine lv_iload_n hx hb dX2_takeDoor_75 rfl (lv_at hl 1 rfl) ?_
      refine lv_bipush (v := (-3 : Int32)) hx hb dX2_takeDoor_76 (by decide) ?_
      obtain ⟨u3, hq4, hF⟩ := zbd_t hF
      refine zgoVw (w' := (zP h r k u3)) hw hA (zVw (As := [.int x2, .int (-3 : Int32)]) (rest := []) ⟨hx, hb, hml, hown, hts⟩ (mX2_earn l G k h r H.size u1 x2 (-3 : Int32) u3 hq4) (cwV 2 hts gX2_takeDoor_X2_earn rfl rfl rfl kdX2_earn ⟨Nat.le_of_ble_eq_true rfl, Nat.le_of_ble_eq_true rfl⟩) hK hA hw 0 rfl rfl rfl rfl hl.1 rfl (Nat.le_of_ble_eq_true rfl) dX2_takeDoor_78 ⟨Nat.le_of_ble_eq_true rfl, Nat.le_of_ble_eq_true rfl⟩) (fun H locs hw => ?_)
      refine lv_aload_n hx hb dX2_takeDoor_81 rfl (lv_at hl 0 rfl) ?_
      refine lv_iconst (v := (0 : Int32)) hx hb dX2_takeDoor_82 (by decide) ?_
      obtain ⟨u5, hq6, hF⟩ := zbd_t hF
      refine zgoVw (w' := (zP h r k u5)) hw hA (zVw (As := [.int (0 : Int32)]) (rest := []) ⟨hx, hb, hml, hown, hts⟩ (mX2_endTurn l G k h r H.size u3 (0 : Int32) u5 hq6) (cwV 1 hts gX2_takeDoor_X2_endTurn rfl rfl rfl kdX2_endTurn ⟨Nat.le_of_ble_eq_true rfl, Nat.le_of_ble_eq_true rfl⟩) hK hA hw 0 rfl rfl rfl rfl hl.1 rfl (Nat.le_of_ble_eq_true rfl) dX2_takeDoor_83 ⟨Nat.le_of_ble_eq_true rfl, Nat.le_of_ble_eq_true rfl⟩) (fun H locs hw => ?_)
      refine lv_aload_n hx hb dX2_takeDoor_86 rfl (lv_at hl 0 rfl) ?_
      refine lv_iload_n hx hb dX2_takeDoor_87 rfl (lv_at hl 1 rfl) ?_
      obtain ⟨u7, hq8, hF⟩ := zbd_t hF
      refine zgoIw (w' := (zP h r k u5)) hw hA (zVw (As := [.int x2]) (rest := []) ⟨hx, hb, hml, hown, hts⟩ (mX2_coinsOf l G k h r H.size u5 x2 u7 hq8) (cwV 1 hts gX2_takeDoor_X2_coinsOf rfl rfl rfl kdX2_coinsOf ⟨Nat.le_of_ble_eq_true rfl, Nat.le_of_ble_eq_true rfl⟩) hK hA hw 0 rfl rfl rfl rfl hl.1 rfl (Nat.le_of_ble_eq_true rfl) dX2_takeDoor_88 ⟨Nat.le_of_ble_eq_true rfl, Nat.le_of_ble_eq_true rfl⟩) (fun H locs hw => ?_)
      obtain rfl := Option.some.inj hF
      exact hret _ _ _ _ rfl hw dX2_takeDoor_91
    · have hF := zif_f hc hF
      refine lv_aload_n hx hb dX2_takeDoor_50 rfl (lv_at hl 0 rfl) ?_
      refine lv_bipush (v := (6 : Int32)) hx hb dX2_takeDoor_51 (by decide) ?_
      refine lv_iload hx hb dX2_takeDoor_53 (lv_at hl 3 rfl) ?_
      refine lv_iadd hx hb dX2_takeDoor_55 ?_
      refine lv_lload_n hx hb dX2_takeDoor_56 rfl (lv_at hl 2 rfl) ?_
      obtain ⟨u9, hq10, hF⟩ := zbd_t hF
      refine zgoVw (w' := (zP h r k u9)) hw hA (zVw (As := [.int ((6 : Int32) + x5), .long x3]) (rest := []) ⟨hx, hb, hml, hown, hts⟩ (mX2_exclude l G k h r H.size f ((6 : Int32) + x5) x3 u9 hq10) (cwV 2 hts gX2_takeDoor_X2_exclude rfl rfl rfl kdX2_exclude ⟨Nat.le_of_ble_eq_true rfl, Nat.le_of_ble_eq_true rfl⟩) hK hA hw 0 rfl rfl rfl rfl hl.1 rfl (Nat.le_of_ble_eq_true rfl) dX2_takeDoor_57 ⟨Nat.le_of_ble_eq_true rfl, Nat.le_of_ble_eq_true rfl⟩) (fun H locs hw => ?_)
      obtain ⟨a11, ea11⟩ : ∃ z : Int32, z = x5 + (1 : Int32) := ⟨_, rfl⟩
      have hF := zbn_t ea11 hF
      refine lv_iinc (v := a11) (lv' := [(5, .int a11), (0, .ref h), (2, .int x2), (3, .long x3)]) hx hb dX2_takeDoor_60 hl (k := 3) rfl (by rw [ea11]; rfl) (by decide) rfl (fun ls hl => ?_)
      refine lv_goto (tgt := 44) hx hb dX2_takeDoor_63 (by decide) ?_
      exact ih _ _ _ _ hF _ _ _ hw (lv_sub hl [1, 2, 3, 0] rfl)
set_option maxHeartbeats 400000 in
set_option maxRecDepth 100000 in
theorem wX2_takeDoor_20 {p : Program} {l : Launch} {e : Env} {s : State} {m : MethodId} {args : Array Value} {below : List Frame} {meth : Method} {c : Code} {A : Nat → Prop} {Q : State → Prop} {G : va_G} {k : Nat → ClassId} {h : Nat} {r : Nat}  {o : Int32 × (Nat → Int64)} (C0 : zCx p s m args meth c wsX2_takeDoor cX2_takeDoor RX2 (some .int) 6) (hK : zKK G k A s s.heap) (hA : ∀ q : Nat, s.heap.size ≤ q → A q) (hret : zRI p l e rmX2_takeDoor s m args below meth c cX2_takeDoor G A 0 0 Q .int (zP h r k o.2) o.1)  : ∀ (n : Nat) (f : Nat → Int64) (x2 : Int32) (x3 : Int64) (x5 : Int32), fX2_takeDoor_20   n f x2 x3 x5 = some o → ∀ (H : Heap) (locs : List Loc) (ls : Array Slot), zWd G A s (zP h r k f) H locs → lv_has ls 6 [(0, .ref h), (2, .int x2), (3, .long x3), (5, .int x5)] → W p l e rmX2_takeDoor s m args below meth c H locs 0 0 Q (F0 m 20 ls []) := by
  obtain ⟨hx, hb, hr, hml, hown, hts, hlocks⟩ := id C0
  intro n
  induction n with
  | zero => intro f x2 x3 x5 hF; exact nomatch hF
  | succ n ih =>
    intro f x2 x3 x5 hF H locs ls hw hl
    rw [fX2_takeDoor_20] at hF
    refine lv_iload hx hb dX2_takeDoor_20 (lv_at hl 3 rfl) ?_
    refine lv_iconst (v := (2 : Int32)) hx hb dX2_takeDoor_22 (by decide) ?_
    refine lv_icmp_ge (tgt := 41) hx hb dX2_takeDoor_23 (by decide) (fun hc => ?_) (fun hc => ?_)
    · have hF := zif_t hc hF
      refine lv_iconst (v := (0 : Int32)) hx hb dX2_takeDoor_41 (by decide) ?_
      refine lv_istore (lv' := [(5, .int (0 : Int32)), (0, .ref h), (2, .int x2), (3, .long x3)]) hx hb dX2_takeDoor_42 hl (by decide) rfl (fun ls hl => ?_)
      exact wX2_takeDoor_44 C0 hK hA hret  zFu _ _ _ _ hF _ _ _ hw (lv_sub hl [1, 2, 3, 0] rfl)
    · have hF := zif_f hc hF
      refine lv_aload_n hx hb dX2_takeDoor_26 rfl (lv_at hl 0 rfl) ?_
      refine lv_iconst (v := (4 : Int32)) hx hb dX2_takeDoor_27 (by decide) ?_
      refine lv_iload hx hb dX2_takeDoor_28 (lv_at hl 3 rfl) ?_
      refine lv_iadd hx hb dX2_takeDoor_30 ?_
      refine lv_lload_n hx hb dX2_takeDoor_31 rfl (lv_at hl 2 rfl) ?_
      obtain ⟨u1, hq2, hF⟩ := zbd_t hF
      refine zgoVw (w' := (zP h r k u1)) hw hA (zVw (As := [.int ((4 : Int32) + x5), .long x3]) (rest := []) ⟨hx, hb, hml, hown, hts⟩ (mX2_exclude l G k h r H.size f ((4 : Int32) + x5) x3 u1 hq2) (cwV 2 hts gX2_takeDoor_X2_exclude rfl rfl rfl kdX2_exclude ⟨Nat.le_of_ble_eq_true rfl, Nat.le_of_ble_eq_true rfl⟩) hK hA hw 0 rfl rfl rfl rfl hl.1 rfl (Nat.le_of_ble_eq_true rfl) dX2_takeDoor_32 ⟨Nat.le_of_ble_eq_true rfl, Nat.le_of_ble_eq_true rfl⟩) (fun H locs hw => ?_)
      obtain ⟨a3, ea3⟩ : ∃ z : Int32, z = x5 + (1 : Int32) := ⟨_, rfl⟩
      have hF := zbn_t ea3 hF
      refine lv_iinc (v := a3) (lv' := [(5, .int a3), (0, .ref h), (2, .int x2), (3, .long x3)]) hx hb dX2_takeDoor_35 hl (k := 3) rfl (by rw [ea3]; rfl) (by decide) rfl (fun ls hl => ?_)
      refine lv_goto (tgt := 20) hx hb dX2_takeDoor_38 (by decide) ?_
      exact ih _ _ _ _ hF _ _ _ hw (lv_sub hl [1, 2, 3, 0] rfl)
set_option maxHeartbeats 400000 in
set_option maxRecDepth 100000 in
theorem mX2_takeDoor (l : Launch) (G : va_G) (k : Nat → ClassId) (h : Nat) (r : Nat) (sz : Nat) (f : Nat → Int64) (p0 : Int32) (o : Int32 × (Nat → Int64)) (hF : fX2_takeDoor f p0 = some o) : zMI l yX2_takeDoor wsX2_takeDoor rmX2_takeDoor G k (zP h r k f) sz [.ref h, .int p0] o.1 (zP h r k o.2) := by
  refine zof_I (cc := cX2_takeDoor) (nL := 6) (own := RX2) (rt := .int) (by decide) rfl rfl (Nat.le_of_ble_eq_true rfl) ?_
  intro p e s m args below meth c A Q C0 hK hA hret ls hl hw
  have hl : lv_has ls 6 [(0, .ref h), (1, .int p0)] := hl
  obtain ⟨hx, hb, hr, hml, hown, hts, hlocks⟩ := id C0
  obtain ⟨H, hH⟩ : ∃ z, z = s.heap := ⟨_, rfl⟩
  rw [← hH] at hw ⊢
  unfold fX2_takeDoor at hF
  refine lv_aload_n hx hb dX2_takeDoor_0 rfl (lv_at hl 0 rfl) ?_
  obtain ⟨u1, hq2, hF⟩ := zbd_t hF
  refine zgoIw (w' := (zP h r k f)) hw hA (zVw (As := []) (rest := []) ⟨hx, hb, hml, hown, hts⟩ (mX2_mover l G k h r H.size f  u1 hq2) (cwV 0 hts gX2_takeDoor_X2_mover rfl rfl rfl kdX2_mover ⟨Nat.le_of_ble_eq_true rfl, Nat.le_of_ble_eq_true rfl⟩) hK hA hw 0 rfl rfl rfl rfl hl.1 rfl (Nat.le_of_ble_eq_true rfl) dX2_takeDoor_1 ⟨Nat.le_of_ble_eq_true rfl, Nat.le_of_ble_eq_true rfl⟩) (fun H locs hw => ?_)
  refine lv_istore_n (lv' := [(2, .int u1), (0, .ref h), (1, .int p0)]) hx hb dX2_takeDoor_4 rfl hl (by decide) rfl (fun ls hl => ?_)
  refine lv_iload_n hx hb dX2_takeDoor_5 rfl (lv_at hl 2 rfl) ?_
  obtain ⟨u3, hq4, hF⟩ := zbd_t hF
  refine zgoL (w' := (zP h r k f)) hw hA [] rfl (zS (As := [.int p0]) (rest := []) ⟨hx, hb, hml, hown, hts⟩ (mX3_of l G k  H.size  p0 u3 hq4) (va_cwS 1 hts gX2_takeDoor_X3_of rfl rfl rfl kdX3_of ⟨Nat.le_of_ble_eq_true rfl, Nat.le_of_ble_eq_true rfl⟩) hK hA hw [] rfl (by decide) rfl hl.1 rfl (Nat.le_of_ble_eq_true rfl) dX2_takeDoor_6 ⟨Nat.le_of_ble_eq_true rfl, Nat.le_of_ble_eq_true rfl⟩) rfl rfl rfl (fun H locs hw => ?_)
  refine lv_lstore_n (lv' := [(3, .long u3), (2, .int u1), (0, .ref h), (1, .int p0)]) hx hb dX2_takeDoor_9 rfl hl (by decide) rfl (fun ls hl => ?_)
  refine lv_aload_n hx hb dX2_takeDoor_10 rfl (lv_at hl 2 rfl) ?_
  refine lv_bipush (v := (10 : Int32)) hx hb dX2_takeDoor_11 (by decide) ?_
  refine lv_lload_n hx hb dX2_takeDoor_13 rfl (lv_at hl 0 rfl) ?_
  obtain ⟨u5, hq6, hF⟩ := zbd_t hF
  refine zgoVw (w' := (zP h r k u5)) hw hA (zVw (As := [.int (10 : Int32), .long u3]) (rest := []) ⟨hx, hb, hml, hown, hts⟩ (mX2_exclude l G k h r H.size f (10 : Int32) u3 u5 hq6) (cwV 2 hts gX2_takeDoor_X2_exclude rfl rfl rfl kdX2_exclude ⟨Nat.le_of_ble_eq_true rfl, Nat.le_of_ble_eq_true rfl⟩) hK hA hw 0 rfl rfl rfl rfl hl.1 rfl (Nat.le_of_ble_eq_true rfl) dX2_takeDoor_14 ⟨Nat.le_of_ble_eq_true rfl, Nat.le_of_ble_eq_true rfl⟩) (fun H locs hw => ?_)
  refine lv_iconst (v := (0 : Int32)) hx hb dX2_takeDoor_17 (by decide) ?_
  refine lv_istore (lv' := [(5, .int (0 : Int32)), (3, .long u3), (2, .int u1), (0, .ref h), (1, .int p0)]) hx hb dX2_takeDoor_18 hl (by decide) rfl (fun ls hl => ?_)
  exact wX2_takeDoor_20 C0 hK hA hret  zFu _ _ _ _ hF _ _ _ hw (lv_sub hl [3, 2, 1, 0] rfl)

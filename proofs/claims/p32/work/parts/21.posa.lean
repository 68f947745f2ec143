/-! SealedBoard.otherSide(I)I -/
abbrev rmX4_otherSide : Room := { frames := 0, cells := 0, slots := 0, locals := 0 }
theorem kdX4_otherSide : yX4_otherSide.cls ≠ "java/lang/invoke/MethodHandle" ∧ yX4_otherSide.cls ≠ "java/lang/invoke/VarHandle" ∧ (parseMethodDescriptor yX4_otherSide.desc).map (fun d => d.parameters.length) = some 1 := by decide +kernel
def fX4_otherSide (p0 : Int32) : Option (Int32) := (some (((1 : Int32) - p0)))
set_option maxHeartbeats 400000 in
set_option maxRecDepth 100000 in
theorem mX4_otherSide (l : Launch) (G : va_G) (k : Nat → ClassId)  (sz : Nat)  (p0 : Int32) (o : Int32) (hF : fX4_otherSide p0 = some o) : zMI l yX4_otherSide wsX4_otherSide rmX4_otherSide G k (zE0 k) sz [.int p0] o (zE0 k) := by
  refine zof_I (cc := cX4_otherSide) (nL := 1) (own := RX4) (rt := .int) (by decide) rfl rfl (Nat.le_of_ble_eq_true rfl) ?_
  intro p e s m args below meth c A Q C0 hK hA hret ls hl hw
  have hl : lv_has ls 1 [(0, .int p0)] := hl
  obtain ⟨hx, hb, hr, hml, hown, hts, hlocks⟩ := id C0
  obtain ⟨H, hH⟩ : ∃ z, z = s.heap := ⟨_, rfl⟩
  rw [← hH] at hw ⊢
  unfold fX4_otherSide at hF
  refine lv_iconst (v := (1 : Int32)) hx hb dX4_otherSide_0 (by decide) ?_
  refine lv_iload_n hx hb dX4_otherSide_1 rfl (lv_at hl 0 rfl) ?_
  refine lv_isub hx hb dX4_otherSide_2 ?_
  obtain rfl := Option.some.inj hF
  exact hret _ _ _ _ rfl hw dX4_otherSide_3

/-! SealedBoard$Position.reset()V -/
abbrev rmX2_reset : Room := { frames := 0, cells := 0, slots := 0, locals := 0 }
theorem kdX2_reset : yX2_reset.cls = RX2 ∧ yX2_reset.cls ≠ "java/lang/invoke/MethodHandle" ∧ yX2_reset.cls ≠ "java/lang/invoke/VarHandle" ∧ (parseMethodDescriptor yX2_reset.desc).map (fun d => d.parameters.length) = some 0 := by decide +kernel
theorem inX2_reset_X2 : ∀ w ∈ u_ws RX2 TX2 1, w ∈ wsX2_reset := by decide +kernel
def fX2_reset_2   : Nat → (Nat → Int64) → Int32 → Option ((Nat → Int64))
  | 0, _, _ => none
  | n + 1, f, x1 => (if (15 : Int32) ≤ x1 then (zck (zin (11 : Int32) 15) (zck (zin (12 : Int32) 15) (some ((vp_updL (vp_updL f (11 : Int32).toNatClampNeg (3 : Int64)) (12 : Int32).toNatClampNeg (3 : Int64)))))) else (zck (zin x1 15) (zbn (x1 + (1 : Int32)) (fun a4 => (fX2_reset_2   n (vp_updL f x1.toNatClampNeg (0 : Int64)) a4)))))
def fX2_reset (f : Nat → Int64) : Option ((Nat → Int64)) := (fX2_reset_2   zFu f (0 : Int32))
set_option maxHeartbeats 400000 in
set_option maxRecDepth 100000 in
theorem wX2_reset_2 {p : Program} {l : Launch} {e : Env} {s : State} {m : MethodId} {args : Array Value} {below : List Frame} {meth : Method} {c : Code} {A : Nat → Prop} {Q : State → Prop} {G : va_G} {k : Nat → ClassId} {h : Nat} {r : Nat}  {o : (Nat → Int64)} (C0 : zCx p s m args meth c wsX2_reset cX2_reset RX2 none 2) (hK : zKK G k A s s.heap) (hA : ∀ q : Nat, s.heap.size ≤ q → A q) (hret : zRV p l e rmX2_reset s m args below meth c cX2_reset G A 0 0 Q (zP h r k o))  : ∀ (n : Nat) (f : Nat → Int64) (x1 : Int32), fX2_reset_2   n f x1 = some o → ∀ (H : Heap) (locs : List Loc) (ls : Array Slot), zWd G A s (zP h r k f) H locs → lv_has ls 2 [(0, .ref h), (1, .int x1)] → W p l e rmX2_reset s m args below meth c H locs 0 0 Q (F0 m 2 ls []) := by
  obtain ⟨hx, hb, hr, hml, hown, hts, hlocks⟩ := id C0
  intro n
  induction n with
  | zero => intro f x1 hF; exact nomatch hF
  | succ n ih =>
    intro f x1 hF H locs ls hw hl
    rw [fX2_reset_2] at hF
    refine lv_iload_n hx hb dX2_reset_2 rfl (lv_at hl 1 rfl) ?_
    refine lv_bipush (v := (15 : Int32)) hx hb dX2_reset_3 (by decide) ?_
    refine lv_icmp_ge (tgt := 21) hx hb dX2_reset_5 (by decide) (fun hc => ?_) (fun hc => ?_)
    · have hF := zif_t hc hF
      refine lv_aload_n hx hb dX2_reset_21 rfl (lv_at hl 0 rfl) ?_
      refine va_get (D := G) (ci := 2) (v := .ref r) (C := RX2) (T := TX2) (N := 1) hx hb hts inX2_reset_X2 hown hK.1 hw.1 0 rfl rfl 0 (by decide) (hts (.fieldLink RX2 11 "SealedBoard$Position" "row" "[J") (by decide +kernel)) (fun _ h9 => h9) rfl dX2_reset_22 ?_
      refine lv_bipush (v := (11 : Int32)) hx hb dX2_reset_25 (by decide) ?_
      refine lv_ldc2 (v := (3 : Int64)) hx hb hown (hts (.constantLong RX2 20 (3)) (by decide +kernel)) dX2_reset_27 ?_
      obtain ⟨hi1, hF⟩ := zck_in hF
      refine va_last hx hb hK.1 hw.1 hw.2.1 hw.2.2 1 0 rfl rfl hi1 dX2_reset_30 (fun H locs hP hD hS => ?_)
      have hw : zWd G A s (zP h r k (vp_updL f (11 : Int32).toNatClampNeg (3 : Int64))) H locs := ⟨hP, hD, hS⟩
      refine lv_aload_n hx hb dX2_reset_31 rfl (lv_at hl 0 rfl) ?_
      refine va_get (D := G) (ci := 2) (v := .ref r) (C := RX2) (T := TX2) (N := 1) hx hb hts inX2_reset_X2 hown hK.1 hw.1 0 rfl rfl 0 (by decide) (hts (.fieldLink RX2 11 "SealedBoard$Position" "row" "[J") (by decide +kernel)) (fun _ h9 => h9) rfl dX2_reset_32 ?_
      refine lv_bipush (v := (12 : Int32)) hx hb dX2_reset_35 (by decide) ?_
      refine lv_ldc2 (v := (3 : Int64)) hx hb hown (hts (.constantLong RX2 20 (3)) (by decide +kernel)) dX2_reset_37 ?_
      obtain ⟨hi2, hF⟩ := zck_in hF
      refine va_last hx hb hK.1 hw.1 hw.2.1 hw.2.2 1 0 rfl rfl hi2 dX2_reset_40 (fun H locs hP hD hS => ?_)
      have hw : zWd G A s (zP h r k (vp_updL (vp_updL f (11 : Int32).toNatClampNeg (3 : Int64)) (12 : Int32).toNatClampNeg (3 : Int64))) H locs := ⟨hP, hD, hS⟩
      obtain rfl := Option.some.inj hF
      exact hret _ _ _ _  hw dX2_reset_41
    · have hF := zif_f hc hF
      refine lv_aload_n hx hb dX2_reset_8 rfl (lv_at hl 0 rfl) ?_
      refine va_get (D := G) (ci := 2) (v := .ref r) (C := RX2) (T := TX2) (N := 1) hx hb hts inX2_reset_X2 hown hK.1 hw.1 0 rfl rfl 0 (by decide) (hts (.fieldLink RX2 11 "SealedBoard$Position" "row" "[J") (by decide +kernel)) (fun _ h9 => h9) rfl dX2_reset_9 ?_
      refine lv_iload_n hx hb dX2_reset_12 rfl (lv_at hl 1 rfl) ?_
      refine lv_lconst (v := (0 : Int64)) hx hb dX2_reset_13 (by decide) ?_
      obtain ⟨hi3, hF⟩ := zck_in hF
      refine va_last hx hb hK.1 hw.1 hw.2.1 hw.2.2 1 0 rfl rfl hi3 dX2_reset_14 (fun H locs hP hD hS => ?_)
      have hw : zWd G A s (zP h r k (vp_updL f x1.toNatClampNeg (0 : Int64))) H locs := ⟨hP, hD, hS⟩
      obtain ⟨a4, ea4⟩ : ∃ z : Int32, z = x1 + (1 : Int32) := ⟨_, rfl⟩
      have hF := zbn_t ea4 hF
      refine lv_iinc (v := a4) (lv' := [(1, .int a4), (0, .ref h)]) hx hb dX2_reset_15 hl (k := 1) rfl (by rw [ea4]; rfl) (by decide) rfl (fun ls hl => ?_)
      refine lv_goto (tgt := 2) hx hb dX2_reset_18 (by decide) ?_
      exact ih _ _ hF _ _ _ hw (lv_sub hl [1, 0] rfl)
set_option maxHeartbeats 400000 in
set_option maxRecDepth 100000 in
theorem mX2_reset (l : Launch) (G : va_G) (k : Nat → ClassId) (h : Nat) (r : Nat) (sz : Nat) (f : Nat → Int64)  (o : (Nat → Int64)) (hF : fX2_reset f = some o) : zMV l yX2_reset wsX2_reset rmX2_reset G k (zP h r k f) sz [.ref h] (zP h r k o) := by
  refine zof_V (cc := cX2_reset) (nL := 2) (own := RX2) (by decide) rfl rfl (Nat.le_of_ble_eq_true rfl) ?_
  intro p e s m args below meth c A Q C0 hK hA hret ls hl hw
  have hl : lv_has ls 2 [(0, .ref h)] := hl
  obtain ⟨hx, hb, hr, hml, hown, hts, hlocks⟩ := id C0
  obtain ⟨H, hH⟩ : ∃ z, z = s.heap := ⟨_, rfl⟩
  rw [← hH] at hw ⊢
  unfold fX2_reset at hF
  refine lv_iconst (v := (0 : Int32)) hx hb dX2_reset_0 (by decide) ?_
  refine lv_istore_n (lv' := [(1, .int (0 : Int32)), (0, .ref h)]) hx hb dX2_reset_1 rfl hl (by decide) rfl (fun ls hl => ?_)
  exact wX2_reset_2 C0 hK hA hret  zFu _ _ hF _ _ _ hw (lv_sub hl [1, 0] rfl)

/-! SealedBoard$Position.at(I)J -/
abbrev rmX2_at : Room := { frames := 0, cells := 0, slots := 0, locals := 0 }
theorem kdX2_at : yX2_at.cls = RX2 ∧ yX2_at.cls ≠ "java/lang/invoke/MethodHandle" ∧ yX2_at.cls ≠ "java/lang/invoke/VarHandle" ∧ (parseMethodDescriptor yX2_at.desc).map (fun d => d.parameters.length) = some 1 := by decide +kernel
theorem inX2_at_X2 : ∀ w ∈ u_ws RX2 TX2 1, w ∈ wsX2_at := by decide +kernel
def fX2_at_19  (f : Nat → Int64)  : Option (Int64) := (some ((0 : Int64)))
def fX2_at (f : Nat → Int64) (p0 : Int32) : Option (Int64) := (if p0 < 0 then (fX2_at_19  f  ) else (if (15 : Int32) ≤ p0 then (fX2_at_19  f  ) else (zck (zin p0 15) (some ((f p0.toNatClampNeg))))))
set_option maxHeartbeats 400000 in
set_option maxRecDepth 100000 in
theorem wX2_at_19 {p : Program} {l : Launch} {e : Env} {s : State} {m : MethodId} {args : Array Value} {below : List Frame} {meth : Method} {c : Code} {A : Nat → Prop} {Q : State → Prop} {G : va_G} {k : Nat → ClassId} {h : Nat} {r : Nat} {f : Nat → Int64} {o : Int64} (C0 : zCx p s m args meth c wsX2_at cX2_at RX2 (some .long) 2) (hK : zKK G k A s s.heap) (hA : ∀ q : Nat, s.heap.size ≤ q → A q) (hret : zRL p l e rmX2_at s m args below meth c cX2_at G A 0 0 Q (zP h r k f) o)  :  fX2_at_19  f  = some o → ∀ (H : Heap) (locs : List Loc) (ls : Array Slot), zWd G A s (zP h r k f) H locs → lv_has ls 2 [] → W p l e rmX2_at s m args below meth c H locs 0 0 Q (F0 m 19 ls []) := by
  obtain ⟨hx, hb, hr, hml, hown, hts, hlocks⟩ := id C0
  intro  hF H locs ls hw hl
  unfold fX2_at_19 at hF
  refine lv_lconst (v := (0 : Int64)) hx hb dX2_at_19 (by decide) ?_
  obtain rfl := Option.some.inj hF
  exact hret _ _ _ _  hw dX2_at_20
set_option maxHeartbeats 400000 in
set_option maxRecDepth 100000 in
theorem mX2_at (l : Launch) (G : va_G) (k : Nat → ClassId) (h : Nat) (r : Nat) (sz : Nat) (f : Nat → Int64) (p0 : Int32) (o : Int64) (hF : fX2_at f p0 = some o) : zML l yX2_at wsX2_at rmX2_at G k (zP h r k f) sz [.ref h, .int p0] o (zP h r k f) := by
  refine zof_L (cc := cX2_at) (nL := 2) (own := RX2) (by decide) rfl rfl (Nat.le_of_ble_eq_true rfl) ?_
  intro p e s m args below meth c A Q C0 hK hA hret ls hl hw
  have hl : lv_has ls 2 [(0, .ref h), (1, .int p0)] := hl
  obtain ⟨hx, hb, hr, hml, hown, hts, hlocks⟩ := id C0
  obtain ⟨H, hH⟩ : ∃ z, z = s.heap := ⟨_, rfl⟩
  rw [← hH] at hw ⊢
  unfold fX2_at at hF
  refine lv_iload_n hx hb dX2_at_0 rfl (lv_at hl 1 rfl) ?_
  refine lv_if_lt (tgt := 19) hx hb dX2_at_1 (by decide) (fun hc => ?_) (fun hc => ?_)
  · have hF := zif_t hc hF
    exact wX2_at_19 C0 hK hA hret    hF _ _ _ hw (lv_sub hl [] rfl)
  · have hF := zif_f hc hF
    refine lv_iload_n hx hb dX2_at_4 rfl (lv_at hl 1 rfl) ?_
    refine lv_bipush (v := (15 : Int32)) hx hb dX2_at_5 (by decide) ?_
    refine lv_icmp_ge (tgt := 19) hx hb dX2_at_7 (by decide) (fun hc => ?_) (fun hc => ?_)
    · have hF := zif_t hc hF
      exact wX2_at_19 C0 hK hA hret    hF _ _ _ hw (lv_sub hl [] rfl)
    · have hF := zif_f hc hF
      refine lv_aload_n hx hb dX2_at_10 rfl (lv_at hl 0 rfl) ?_
      refine va_get (D := G) (ci := 2) (v := .ref r) (C := RX2) (T := TX2) (N := 1) hx hb hts inX2_at_X2 hown hK.1 hw.1 0 rfl rfl 0 (by decide) (hts (.fieldLink RX2 11 "SealedBoard$Position" "row" "[J") (by decide +kernel)) (fun _ h9 => h9) rfl dX2_at_11 ?_
      refine lv_iload_n hx hb dX2_at_14 rfl (lv_at hl 1 rfl) ?_
      obtain ⟨hi1, hF⟩ := zck_in hF
      refine va_lald hx hb hK.1 hw.1 1 0 rfl rfl hi1 dX2_at_15 ?_
      refine lv_goto (tgt := 20) hx hb dX2_at_16 (by decide) ?_
      obtain rfl := Option.some.inj hF
      exact hret _ _ _ _  hw dX2_at_20

/-! SealedBoard$Position.include(IJ)V -/
abbrev rmX2_include : Room := { frames := 0, cells := 0, slots := 0, locals := 0 }
theorem kdX2_include : yX2_include.cls = RX2 ∧ yX2_include.cls ≠ "java/lang/invoke/MethodHandle" ∧ yX2_include.cls ≠ "java/lang/invoke/VarHandle" ∧ (parseMethodDescriptor yX2_include.desc).map (fun d => d.parameters.length) = some 2 := by decide +kernel
theorem inX2_include_X2 : ∀ w ∈ u_ws RX2 TX2 1, w ∈ wsX2_include := by decide +kernel
def fX2_include (f : Nat → Int64) (p0 : Int32) (p1 : Int64) : Option ((Nat → Int64)) := (if p0 < 0 then (some (f)) else (if (15 : Int32) ≤ p0 then (some (f)) else (zck (zin p0 15) (zck (zin p0 15) (some ((vp_updL f p0.toNatClampNeg ((f p0.toNatClampNeg) ||| p1))))))))
set_option maxHeartbeats 400000 in
set_option maxRecDepth 100000 in
theorem mX2_include (l : Launch) (G : va_G) (k : Nat → ClassId) (h : Nat) (r : Nat) (sz : Nat) (f : Nat → Int64) (p0 : Int32) (p1 : Int64) (o : (Nat → Int64)) (hF : fX2_include f p0 p1 = some o) : zMV l yX2_include wsX2_include rmX2_include G k (zP h r k f) sz [.ref h, .int p0, .long p1] (zP h r k o) := by
  refine zof_V (cc := cX2_include) (nL := 4) (own := RX2) (by decide) rfl rfl (Nat.le_of_ble_eq_true rfl) ?_
  intro p e s m args below meth c A Q C0 hK hA hret ls hl hw
  have hl : lv_has ls 4 [(0, .ref h), (1, .int p0), (2, .long p1)] := hl
  obtain ⟨hx, hb, hr, hml, hown, hts, hlocks⟩ := id C0
  obtain ⟨H, hH⟩ : ∃ z, z = s.heap := ⟨_, rfl⟩
  rw [← hH] at hw ⊢
  unfold fX2_include at hF
  refine lv_iload_n hx hb dX2_include_0 rfl (lv_at hl 1 rfl) ?_
  refine lv_if_lt (tgt := 20) hx hb dX2_include_1 (by decide) (fun hc => ?_) (fun hc => ?_)
  · have hF := zif_t hc hF
    obtain rfl := Option.some.inj hF
    exact hret _ _ _ _  hw dX2_include_20
  · have hF := zif_f hc hF
    refine lv_iload_n hx hb dX2_include_4 rfl (lv_at hl 1 rfl) ?_
    refine lv_bipush (v := (15 : Int32)) hx hb dX2_include_5 (by decide) ?_
    refine lv_icmp_ge (tgt := 20) hx hb dX2_include_7 (by decide) (fun hc => ?_) (fun hc => ?_)
    · have hF := zif_t hc hF
      obtain rfl := Option.some.inj hF
      exact hret _ _ _ _  hw dX2_include_20
    · have hF := zif_f hc hF
      refine lv_aload_n hx hb dX2_include_10 rfl (lv_at hl 0 rfl) ?_
      refine va_get (D := G) (ci := 2) (v := .ref r) (C := RX2) (T := TX2) (N := 1) hx hb hts inX2_include_X2 hown hK.1 hw.1 0 rfl rfl 0 (by decide) (hts (.fieldLink RX2 11 "SealedBoard$Position" "row" "[J") (by decide +kernel)) (fun _ h9 => h9) rfl dX2_include_11 ?_
      refine lv_iload_n hx hb dX2_include_14 rfl (lv_at hl 1 rfl) ?_
      refine lv_dup2_11 hx hb dX2_include_15 rfl rfl ?_
      obtain ⟨hi1, hF⟩ := zck_in hF
      refine va_lald hx hb hK.1 hw.1 1 0 rfl rfl hi1 dX2_include_16 ?_
      refine lv_lload_n hx hb dX2_include_17 rfl (lv_at hl 2 rfl) ?_
      refine lv_lor hx hb dX2_include_18 ?_
      obtain ⟨hi2, hF⟩ := zck_in hF
      refine va_last hx hb hK.1 hw.1 hw.2.1 hw.2.2 1 0 rfl rfl hi2 dX2_include_19 (fun H locs hP hD hS => ?_)
      have hw : zWd G A s (zP h r k (vp_updL f p0.toNatClampNeg ((f p0.toNatClampNeg) ||| p1))) H locs := ⟨hP, hD, hS⟩
      obtain rfl := Option.some.inj hF
      exact hret _ _ _ _  hw dX2_include_20

/-! SealedBoard$Position.exclude(IJ)V -/
abbrev rmX2_exclude : Room := { frames := 0, cells := 0, slots := 0, locals := 0 }
theorem kdX2_exclude : yX2_exclude.cls = RX2 ∧ yX2_exclude.cls ≠ "java/lang/invoke/MethodHandle" ∧ yX2_exclude.cls ≠ "java/lang/invoke/VarHandle" ∧ (parseMethodDescriptor yX2_exclude.desc).map (fun d => d.parameters.length) = some 2 := by decide +kernel
theorem inX2_exclude_X2 : ∀ w ∈ u_ws RX2 TX2 1, w ∈ wsX2_exclude := by decide +kernel
def fX2_exclude (f : Nat → Int64) (p0 : Int32) (p1 : Int64) : Option ((Nat → Int64)) := (if p0 < 0 then (some (f)) else (if (15 : Int32) ≤ p0 then (some (f)) else (zck (zin p0 15) (zck (zin p0 15) (some ((vp_updL f p0.toNatClampNeg ((f p0.toNatClampNeg) &&& (p1 ^^^ (-1 : Int64))))))))))
set_option maxHeartbeats 400000 in
set_option maxRecDepth 100000 in
theorem mX2_exclude (l : Launch) (G : va_G) (k : Nat → ClassId) (h : Nat) (r : Nat) (sz : Nat) (f : Nat → Int64) (p0 : Int32) (p1 : Int64) (o : (Nat → Int64)) (hF : fX2_exclude f p0 p1 = some o) : zMV l yX2_exclude wsX2_exclude rmX2_exclude G k (zP h r k f) sz [.ref h, .int p0, .long p1] (zP h r k o) := by
  refine zof_V (cc := cX2_exclude) (nL := 4) (own := RX2) (by decide) rfl rfl (Nat.le_of_ble_eq_true rfl) ?_
  intro p e s m args below meth c A Q C0 hK hA hret ls hl hw
  have hl : lv_has ls 4 [(0, .ref h), (1, .int p0), (2, .long p1)] := hl
  obtain ⟨hx, hb, hr, hml, hown, hts, hlocks⟩ := id C0
  obtain ⟨H, hH⟩ : ∃ z, z = s.heap := ⟨_, rfl⟩
  rw [← hH] at hw ⊢
  unfold fX2_exclude at hF
  refine lv_iload_n hx hb dX2_exclude_0 rfl (lv_at hl 1 rfl) ?_
  refine lv_if_lt (tgt := 24) hx hb dX2_exclude_1 (by decide) (fun hc => ?_) (fun hc => ?_)
  · have hF := zif_t hc hF
    obtain rfl := Option.some.inj hF
    exact hret _ _ _ _  hw dX2_exclude_24
  · have hF := zif_f hc hF
    refine lv_iload_n hx hb dX2_exclude_4 rfl (lv_at hl 1 rfl) ?_
    refine lv_bipush (v := (15 : Int32)) hx hb dX2_exclude_5 (by decide) ?_
    refine lv_icmp_ge (tgt := 24) hx hb dX2_exclude_7 (by decide) (fun hc => ?_) (fun hc => ?_)
    · have hF := zif_t hc hF
      obtain rfl := Option.some.inj hF
      exact hret _ _ _ _  hw dX2_exclude_24
    · have hF := zif_f hc hF
      refine lv_aload_n hx hb dX2_exclude_10 rfl (lv_at hl 0 rfl) ?_
      refine va_get (D := G) (ci := 2) (v := .ref r) (C := RX2) (T := TX2) (N := 1) hx hb hts inX2_exclude_X2 hown hK.1 hw.1 0 rfl rfl 0 (by decide) (hts (.fieldLink RX2 11 "SealedBoard$Position" "row" "[J") (by decide +kernel)) (fun _ h9 => h9) rfl dX2_exclude_11 ?_
      refine lv_iload_n hx hb dX2_exclude_14 rfl (lv_at hl 1 rfl) ?_
      refine lv_dup2_11 hx hb dX2_exclude_15 rfl rfl ?_
      obtain ⟨hi1, hF⟩ := zck_in hF
      refine va_lald hx hb hK.1 hw.1 1 0 rfl rfl hi1 dX2_exclude_16 ?_
      refine lv_lload_n hx hb dX2_exclude_17 rfl (lv_at hl 2 rfl) ?_
      refine lv_ldc2 (v := (-1 : Int64)) hx hb hown (hts (.constantLong RX2 18 (-1)) (by decide +kernel)) dX2_exclude_18 ?_
      refine lv_lxor hx hb dX2_exclude_21 ?_
      refine lv_land hx hb dX2_exclude_22 ?_
      obtain ⟨hi2, hF⟩ := zck_in hF
      refine va_last hx hb hK.1 hw.1 hw.2.1 hw.2.2 1 0 rfl rfl hi2 dX2_exclude_23 (fun H locs hP hD hS => ?_)
      have hw : zWd G A s (zP h r k (vp_updL f p0.toNatClampNeg ((f p0.toNatClampNeg) &&& (p1 ^^^ (-1 : Int64))))) H locs := ⟨hP, hD, hS⟩
      obtain rfl := Option.some.inj hF
      exact hret _ _ _ _  hw dX2_exclude_24

/-! SealedBoard$Position.putPiece(IIJ)V -/
abbrev rmX2_putPiece : Room := { frames := 1, cells := 0, slots := 0, locals := 23 }
theorem kdX2_putPiece : yX2_putPiece.cls = RX2 ∧ yX2_putPiece.cls ≠ "java/lang/invoke/MethodHandle" ∧ yX2_putPiece.cls ≠ "java/lang/invoke/VarHandle" ∧ (parseMethodDescriptor yX2_putPiece.desc).map (fun d => d.parameters.length) = some 3 := by decide +kernel
def fX2_putPiece (f : Nat → Int64) (p0 : Int32) (p1 : Int32) (p2 : Int64) : Option ((Nat → Int64)) := (zbd (fX2_include f ((0 : Int32) + p0) p2) (fun u1 => (zbd (fX2_include u1 ((6 : Int32) + p1) p2) (fun u3 => (some (u3))))))
set_option maxHeartbeats 400000 in
set_option maxRecDepth 100000 in
theorem mX2_putPiece (l : Launch) (G : va_G) (k : Nat → ClassId) (h : Nat) (r : Nat) (sz : Nat) (f : Nat → Int64) (p0 : Int32) (p1 : Int32) (p2 : Int64) (o : (Nat → Int64)) (hF : fX2_putPiece f p0 p1 p2 = some o) : zMV l yX2_putPiece wsX2_putPiece rmX2_putPiece G k (zP h r k f) sz [.ref h, .int p0, .int p1, .long p2] (zP h r k o) := by
  refine zof_V (cc := cX2_putPiece) (nL := 5) (own := RX2) (by decide) rfl rfl (Nat.le_of_ble_eq_true rfl) ?_
  intro p e s m args below meth c A Q C0 hK hA hret ls hl hw
  have hl : lv_has ls 5 [(0, .ref h), (1, .int p0), (2, .int p1), (3, .long p2)] := hl
  obtain ⟨hx, hb, hr, hml, hown, hts, hlocks⟩ := id C0
  obtain ⟨H, hH⟩ : ∃ z, z = s.heap := ⟨_, rfl⟩
  rw [← hH] at hw ⊢
  unfold fX2_putPiece at hF
  refine lv_aload_n hx hb dX2_putPiece_0 rfl (lv_at hl 0 rfl) ?_
  refine lv_iconst (v := (0 : Int32)) hx hb dX2_putPiece_1 (by decide) ?_
  refine lv_iload_n hx hb dX2_putPiece_2 rfl (lv_at hl 1 rfl) ?_
  refine lv_iadd hx hb dX2_putPiece_3 ?_
  refine lv_lload_n hx hb dX2_putPiece_4 rfl (lv_at hl 3 rfl) ?_
  obtain ⟨u1, hq2, hF⟩ := zbd_t hF
  refine zgoVw (w' := (zP h r k u1)) hw hA (zVw (As := [.int ((0 : Int32) + p0), .long p2]) (rest := []) ⟨hx, hb, hml, hown, hts⟩ (mX2_include l G k h r H.size f ((0 : Int32) + p0) p2 u1 hq2) (cwV 2 hts gX2_putPiece_X2_include rfl rfl rfl kdX2_include ⟨Nat.le_of_ble_eq_true rfl, Nat.le_of_ble_eq_true rfl⟩) hK hA hw 0 rfl rfl rfl rfl hl.1 rfl (Nat.le_of_ble_eq_true rfl) dX2_putPiece_5 ⟨Nat.le_of_ble_eq_true rfl, Nat.le_of_ble_eq_true rfl⟩) (fun H locs hw => ?_)
  refine lv_aload_n hx hb dX2_putPiece_8 rfl (lv_at hl 0 rfl) ?_
  refine lv_bipush (v := (6 : Int32)) hx hb dX2_putPiece_9 (by decide) ?_
  refine lv_iload_n hx hb dX2_putPiece_11 rfl (lv_at hl 2 rfl) ?_
  refine lv_iadd hx hb dX2_putPiece_12 ?_
  refine lv_lload_n hx hb dX2_putPiece_13 rfl (lv_at hl 3 rfl) ?_
  obtain ⟨u3, hq4, hF⟩ := zbd_t hF
  refine zgoVw (w' := (zP h r k u3)) hw hA (zVw (As := [.int ((6 : Int32) + p1), .long p2]) (rest := []) ⟨hx, hb, hml, hown, hts⟩ (mX2_include l G k h r H.size u1 ((6 : Int32) + p1) p2 u3 hq4) (cwV 2 hts gX2_putPiece_X2_include rfl rfl rfl kdX2_include ⟨Nat.le_of_ble_eq_true rfl, Nat.le_of_ble_eq_true rfl⟩) hK hA hw 0 rfl rfl rfl rfl hl.1 rfl (Nat.le_of_ble_eq_true rfl) dX2_putPiece_14 ⟨Nat.le_of_ble_eq_true rfl, Nat.le_of_ble_eq_true rfl⟩) (fun H locs hw => ?_)
  obtain rfl := Option.some.inj hF
  exact hret _ _ _ _  hw dX2_putPiece_17

/-! SealedBoard$Position.setUp()V -/
abbrev rmX2_setUp : Room := { frames := 2, cells := 0, slots := 0, locals := 47 }
theorem kdX2_setUp : yX2_setUp.cls = RX2 ∧ yX2_setUp.cls ≠ "java/lang/invoke/MethodHandle" ∧ yX2_setUp.cls ≠ "java/lang/invoke/VarHandle" ∧ (parseMethodDescriptor yX2_setUp.desc).map (fun d => d.parameters.length) = some 0 := by decide +kernel
def fX2_setUp_6   : Nat → (Nat → Int64) → Int32 → Option ((Nat → Int64))
  | 0, _, _ => none
  | n + 1, f, x1 => (if (6 : Int32) ≤ x1 then (some (f)) else (if (6 : Int32) ≤ x1 then (some (f)) else (zck (zin x1 6) (zbn (zFRi x1.toNatClampNeg) (fun a4 => (zbd (fX3_of x1) (fun u5 => (zbd (fX2_putPiece f (0 : Int32) a4 u5) (fun u7 => (zbd (fX3_of ((30 : Int32) + x1)) (fun u9 => (zbd (fX2_putPiece u7 (1 : Int32) a4 u9) (fun u11 => (zbn (x1 + (1 : Int32)) (fun a13 => (fX2_setUp_6   n u11 a13))))))))))))))))
def fX2_setUp (f : Nat → Int64) : Option ((Nat → Int64)) := (zbd (fX2_reset f) (fun u1 => (fX2_setUp_6   zFu u1 (0 : Int32))))
set_option maxHeartbeats 400000 in
set_option maxRecDepth 100000 in
theorem wX2_setUp_6 {p : Program} {l : Launch} {e : Env} {s : State} {m : MethodId} {args : Array Value} {below : List Frame} {meth : Method} {c : Code} {A : Nat → Prop} {Q : State → Prop} {G : va_G} {k : Nat → ClassId} {h : Nat} {r : Nat}  {o : (Nat → Int64)} (C0 : zCx p s m args meth c wsX2_setUp cX2_setUp RX2 none 3) (hK : zKK G k A s s.heap) (hA : ∀ q : Nat, s.heap.size ≤ q → A q) (hret : zRV p l e rmX2_setUp s m args below meth c cX2_setUp G A 0 0 Q (zP h r k o))  : ∀ (n : Nat) (f : Nat → Int64) (x1 : Int32), fX2_setUp_6   n f x1 = some o → ∀ (H : Heap) (locs : List Loc) (ls : Array Slot), zWd G A s (zP h r k f) H locs → lv_has ls 3 [(0, .ref h), (1, .int x1)] → W p l e rmX2_setUp s m args below meth c H locs 0 0 Q (F0 m 6 ls []) := by
  obtain ⟨hx, hb, hr, hml, hown, hts, hlocks⟩ := id C0
  intro n
  induction n with
  | zero => intro f x1 hF; exact nomatch hF
  | succ n ih =>
    intro f x1 hF H locs ls hw hl
    rw [fX2_setUp_6] at hF
    refine lv_iload_n hx hb dX2_setUp_6 rfl (lv_at hl 1 rfl) ?_
    refine lv_bipush (v := (6 : Int32)) hx hb dX2_setUp_7 (by decide) ?_
    refine lv_icmp_ge (tgt := 55) hx hb dX2_setUp_9 (by decide) (fun hc => ?_) (fun hc => ?_)
    · have hF := zif_t hc hF
      obtain rfl := Option.some.inj hF
      exact hret _ _ _ _  hw dX2_setUp_55
    · have hF := zif_f hc hF
      refine lv_iload_n hx hb dX2_setUp_12 rfl (lv_at hl 1 rfl) ?_
      obtain ⟨t1, hZt1, hTt1⟩ := hK.2.2.2.2.2.2.1
      refine va_gets (v := .ref t1) hx hb hZt1 hw.2.2 hown (hts (.fieldLink RX2 22 "SealedBoard$Position" "FIRST_ROW" "[I") (by decide +kernel)) (fun _ h9 => h9) dX2_setUp_13 ?_
      refine va_tlen (v := (6 : Int32)) hx hb hTt1 hw.2.2 rfl dX2_setUp_16 ?_
      refine lv_icmp_ge (tgt := 55) hx hb dX2_setUp_17 (by decide) (fun hc => ?_) (fun hc => ?_)
      · have hF := zif_t hc hF
        obtain rfl := Option.some.inj hF
        exact hret _ _ _ _  hw dX2_setUp_55
      · have hF := zif_f hc hF
        obtain ⟨t2, hZt2, hTt2⟩ := hK.2.2.2.2.2.2.1
        refine va_gets (v := .ref t2) hx hb hZt2 hw.2.2 hown (hts (.fieldLink RX2 22 "SealedBoard$Position" "FIRST_ROW" "[I") (by decide +kernel)) (fun _ h9 => h9) dX2_setUp_20 ?_
        refine lv_iload_n hx hb dX2_setUp_23 rfl (lv_at hl 1 rfl) ?_
        obtain ⟨hi3, hF⟩ := zck_in hF
        refine va_ti (v := .int (zFRi x1.toNatClampNeg)) hx hb hTt2 hw.2.2 hi3 rfl dX2_setUp_24 ?_
        refine lv_topi (fun a4 ea4 => ?_)
        have hF := zbn_t ea4 hF
        refine lv_istore_n (lv' := [(2, .int a4), (0, .ref h), (1, .int x1)]) hx hb dX2_setUp_25 rfl hl (by decide) rfl (fun ls hl => ?_)
        refine lv_aload_n hx hb dX2_setUp_26 rfl (lv_at hl 1 rfl) ?_
        refine lv_iconst (v := (0 : Int32)) hx hb dX2_setUp_27 (by decide) ?_
        refine lv_iload_n hx hb dX2_setUp_28 rfl (lv_at hl 0 rfl) ?_
        refine lv_iload_n hx hb dX2_setUp_29 rfl (lv_at hl 2 rfl) ?_
        obtain ⟨u5, hq6, hF⟩ := zbd_t hF
        refine zgoL (w' := (zP h r k f)) hw hA [] rfl (zS (As := [.int x1]) (rest := [.int a4, .int (0 : Int32), .ref h]) ⟨hx, hb, hml, hown, hts⟩ (mX3_of l G k  H.size  x1 u5 hq6) (va_cwS 1 hts gX2_setUp_X3_of rfl rfl rfl kdX3_of ⟨Nat.le_of_ble_eq_true rfl, Nat.le_of_ble_eq_true rfl⟩) hK hA hw [] rfl (by decide) rfl hl.1 rfl (Nat.le_of_ble_eq_true rfl) dX2_setUp_30 ⟨Nat.le_of_ble_eq_true rfl, Nat.le_of_ble_eq_true rfl⟩) rfl rfl rfl (fun H locs hw => ?_)
        obtain ⟨u7, hq8, hF⟩ := zbd_t hF
        refine zgoVw (w' := (zP h r k u7)) hw hA (zVw (As := [.int (0 : Int32), .int a4, .long u5]) (rest := []) ⟨hx, hb, hml, hown, hts⟩ (mX2_putPiece l G k h r H.size f (0 : Int32) a4 u5 u7 hq8) (cwV 3 hts gX2_setUp_X2_putPiece rfl rfl rfl kdX2_putPiece ⟨Nat.le_of_ble_eq_true rfl, Nat.le_of_ble_eq_true rfl⟩) hK hA hw 0 rfl rfl rfl rfl hl.1 rfl (Nat.le_of_ble_eq_true rfl) dX2_setUp_33 ⟨Nat.le_of_ble_eq_true rfl, Nat.le_of_ble_eq_true rfl⟩) (fun H locs hw => ?_)
        refine lv_aload_n hx hb dX2_setUp_36 rfl (lv_at hl 1 rfl) ?_
        refine lv_iconst (v := (1 : Int32)) hx hb dX2_setUp_37 (by decide) ?_
        refine lv_iload_n hx hb dX2_setUp_38 rfl (lv_at hl 0 rfl) ?_
        refine lv_bipush (v := (30 : Int32)) hx hb dX2_setUp_39 (by decide) ?_
        refine lv_iload_n hx hb dX2_setUp_41 rfl (lv_at hl 2 rfl) ?_
        refine lv_iadd hx hb dX2_setUp_42 ?_
        obtain ⟨u9, hq10, hF⟩ := zbd_t hF
        refine zgoL (w' := (zP h r k u7)) hw hA [] rfl (zS (As := [.int ((30 : Int32) + x1)]) (rest := [.int a4, .int (1 : Int32), .ref h]) ⟨hx, hb, hml, hown, hts⟩ (mX3_of l G k  H.size  ((30 : Int32) + x1) u9 hq10) (va_cwS 1 hts gX2_setUp_X3_of rfl rfl rfl kdX3_of ⟨Nat.le_of_ble_eq_true rfl, Nat.le_of_ble_eq_true rfl⟩) hK hA hw [] rfl (by decide) rfl hl.1 rfl (Nat.le_of_ble_eq_true rfl) dX2_setUp_43 ⟨Nat.le_of_ble_eq_true rfl, Nat.le_of_ble_eq_true rfl⟩) rfl rfl rfl (fun H locs hw => ?_)
        obtain ⟨u11, hq12, hF⟩ := zbd_t hF
        refine zgoVw (w' := (zP h r k u11)) hw hA (zVw (As := [.int (1 : Int32), .int a4, .long u9]) (rest := []) ⟨hx, hb, hml, hown, hts⟩ (mX2_putPiece l G k h r H.size u7 (1 : Int32) a4 u9 u11 hq12) (cwV 3 hts gX2_setUp_X2_putPiece rfl rfl rfl kdX2_putPiece ⟨Nat.le_of_ble_eq_true rfl, Nat.le_of_ble_eq_true rfl⟩) hK hA hw 0 rfl rfl rfl rfl hl.1 rfl (Nat.le_of_ble_eq_true rfl) dX2_setUp_46 ⟨Nat.le_of_ble_eq_true rfl, Nat.le_of_ble_eq_true rfl⟩) (fun H locs hw => ?_)
        obtain ⟨a13, ea13⟩ : ∃ z : Int32, z = x1 + (1 : Int32) := ⟨_, rfl⟩
        have hF := zbn_t ea13 hF
        refine lv_iinc (v := a13) (lv' := [(1, .int a13), (2, .int a4), (0, .ref h)]) hx hb dX2_setUp_49 hl (k := 2) rfl (by rw [ea13]; rfl) (by decide) rfl (fun ls hl => ?_)
        refine lv_goto (tgt := 6) hx hb dX2_setUp_52 (by decide) ?_
        exact ih _ _ hF _ _ _ hw (lv_sub hl [2, 0] rfl)
set_option maxHeartbeats 400000 in
set_option maxRecDepth 100000 in
theorem mX2_setUp (l : Launch) (G : va_G) (k : Nat → ClassId) (h : Nat) (r : Nat) (sz : Nat) (f : Nat → Int64)  (o : (Nat → Int64)) (hF : fX2_setUp f = some o) : zMV l yX2_setUp wsX2_setUp rmX2_setUp G k (zP h r k f) sz [.ref h] (zP h r k o) := by
  refine zof_V (cc := cX2_setUp) (nL := 3) (own := RX2) (by decide) rfl rfl (Nat.le_of_ble_eq_true rfl) ?_
  intro p e s m args below meth c A Q C0 hK hA hret ls hl hw
  have hl : lv_has ls 3 [(0, .ref h)] := hl
  obtain ⟨hx, hb, hr, hml, hown, hts, hlocks⟩ := id C0
  obtain ⟨H, hH⟩ : ∃ z, z = s.heap := ⟨_, rfl⟩
  rw [← hH] at hw ⊢
  unfold fX2_setUp at hF
  refine lv_aload_n hx hb dX2_setUp_0 rfl (lv_at hl 0 rfl) ?_
  obtain ⟨u1, hq2, hF⟩ := zbd_t hF
  refine zgoVw (w' := (zP h r k u1)) hw hA (zVw (As := []) (rest := []) ⟨hx, hb, hml, hown, hts⟩ (mX2_reset l G k h r H.size f  u1 hq2) (cwV 0 hts gX2_setUp_X2_reset rfl rfl rfl kdX2_reset ⟨Nat.le_of_ble_eq_true rfl, Nat.le_of_ble_eq_true rfl⟩) hK hA hw 0 rfl rfl rfl rfl hl.1 rfl (Nat.le_of_ble_eq_true rfl) dX2_setUp_1 ⟨Nat.le_of_ble_eq_true rfl, Nat.le_of_ble_eq_true rfl⟩) (fun H locs hw => ?_)
  refine lv_iconst (v := (0 : Int32)) hx hb dX2_setUp_4 (by decide) ?_
  refine lv_istore_n (lv' := [(1, .int (0 : Int32)), (0, .ref h)]) hx hb dX2_setUp_5 rfl hl (by decide) rfl (fun ls hl => ?_)
  exact wX2_setUp_6 C0 hK hA hret  zFu _ _ hF _ _ _ hw (lv_sub hl [1, 0] rfl)

/-! SealedBoard$Position.copyFrom(LSealedBoard$Position;)V -/
abbrev rmX2_copyFrom : Room := { frames := 0, cells := 0, slots := 0, locals := 0 }
theorem kdX2_copyFrom : yX2_copyFrom.cls = RX2 ∧ yX2_copyFrom.cls ≠ "java/lang/invoke/MethodHandle" ∧ yX2_copyFrom.cls ≠ "java/lang/invoke/VarHandle" ∧ (parseMethodDescriptor yX2_copyFrom.desc).map (fun d => d.parameters.length) = some 1 := by decide +kernel
theorem inX2_copyFrom_X2 : ∀ w ∈ u_ws RX2 TX2 1, w ∈ wsX2_copyFrom := by decide +kernel
def fX2_copyFrom_2  (g : Nat → Int64) : Nat → (Nat → Int64) → Int32 → Option ((Nat → Int64))
  | 0, _, _ => none
  | n + 1, f, x2 => (if (15 : Int32) ≤ x2 then (some (f)) else (zck (zin x2 15) (zck (zin x2 15) (zbn (x2 + (1 : Int32)) (fun a3 => (fX2_copyFrom_2  g n (vp_updL f x2.toNatClampNeg (g x2.toNatClampNeg)) a3))))))
def fX2_copyFrom (f : Nat → Int64) (g : Nat → Int64) : Option ((Nat → Int64)) := (fX2_copyFrom_2  g zFu f (0 : Int32))
set_option maxHeartbeats 400000 in
set_option maxRecDepth 100000 in
theorem wX2_copyFrom_2 {p : Program} {l : Launch} {e : Env} {s : State} {m : MethodId} {args : Array Value} {below : List Frame} {meth : Method} {c : Code} {A : Nat → Prop} {Q : State → Prop} {G : va_G} {k : Nat → ClassId} {h : Nat} {r : Nat} {h2 : Nat} {r2 : Nat} {g : Nat → Int64} {o : (Nat → Int64)} (C0 : zCx p s m args meth c wsX2_copyFrom cX2_copyFrom RX2 none 3) (hK : zKK G k A s s.heap) (hA : ∀ q : Nat, s.heap.size ≤ q → A q) (hret : zRV p l e rmX2_copyFrom s m args below meth c cX2_copyFrom G A 0 0 Q (zPP h r h2 r2 k o g))  : ∀ (n : Nat) (f : Nat → Int64) (x2 : Int32), fX2_copyFrom_2  g n f x2 = some o → ∀ (H : Heap) (locs : List Loc) (ls : Array Slot), zWd G A s (zPP h r h2 r2 k f g) H locs → lv_has ls 3 [(0, .ref h), (1, .ref h2), (2, .int x2)] → W p l e rmX2_copyFrom s m args below meth c H locs 0 0 Q (F0 m 2 ls []) := by
  obtain ⟨hx, hb, hr, hml, hown, hts, hlocks⟩ := id C0
  intro n
  induction n with
  | zero => intro f x2 hF; exact nomatch hF
  | succ n ih =>
    intro f x2 hF H locs ls hw hl
    rw [fX2_copyFrom_2] at hF
    refine lv_iload_n hx hb dX2_copyFrom_2 rfl (lv_at hl 2 rfl) ?_
    refine lv_bipush (v := (15 : Int32)) hx hb dX2_copyFrom_3 (by decide) ?_
    refine lv_icmp_ge (tgt := 26) hx hb dX2_copyFrom_5 (by decide) (fun hc => ?_) (fun hc => ?_)
    · have hF := zif_t hc hF
      obtain rfl := Option.some.inj hF
      exact hret _ _ _ _  hw dX2_copyFrom_26
    · have hF := zif_f hc hF
      refine lv_aload_n hx hb dX2_copyFrom_8 rfl (lv_at hl 0 rfl) ?_
      refine va_get (D := G) (ci := 2) (v := .ref r) (C := RX2) (T := TX2) (N := 1) hx hb hts inX2_copyFrom_X2 hown hK.1 hw.1 0 rfl rfl 0 (by decide) (hts (.fieldLink RX2 11 "SealedBoard$Position" "row" "[J") (by decide +kernel)) (fun _ h9 => h9) rfl dX2_copyFrom_9 ?_
      refine lv_iload_n hx hb dX2_copyFrom_12 rfl (lv_at hl 2 rfl) ?_
      refine lv_aload_n hx hb dX2_copyFrom_13 rfl (lv_at hl 1 rfl) ?_
      refine va_get (D := G) (ci := 2) (v := .ref r2) (C := RX2) (T := TX2) (N := 1) hx hb hts inX2_copyFrom_X2 hown hK.1 hw.1 2 rfl rfl 0 (by decide) (hts (.fieldLink RX2 11 "SealedBoard$Position" "row" "[J") (by decide +kernel)) (fun _ h9 => h9) rfl dX2_copyFrom_14 ?_
      refine lv_iload_n hx hb dX2_copyFrom_17 rfl (lv_at hl 2 rfl) ?_
      obtain ⟨hi1, hF⟩ := zck_in hF
      refine va_lald hx hb hK.1 hw.1 3 0 rfl rfl hi1 dX2_copyFrom_18 ?_
      obtain ⟨hi2, hF⟩ := zck_in hF
      refine va_last hx hb hK.1 hw.1 hw.2.1 hw.2.2 1 0 rfl rfl hi2 dX2_copyFrom_19 (fun H locs hP hD hS => ?_)
      have hw : zWd G A s (zPP h r h2 r2 k (vp_updL f x2.toNatClampNeg (g x2.toNatClampNeg)) g) H locs := ⟨hP, hD, hS⟩
      obtain ⟨a3, ea3⟩ : ∃ z : Int32, z = x2 + (1 : Int32) := ⟨_, rfl⟩
      have hF := zbn_t ea3 hF
      refine lv_iinc (v := a3) (lv' := [(2, .int a3), (0, .ref h), (1, .ref h2)]) hx hb dX2_copyFrom_20 hl (k := 2) rfl (by rw [ea3]; rfl) (by decide) rfl (fun ls hl => ?_)
      refine lv_goto (tgt := 2) hx hb dX2_copyFrom_23 (by decide) ?_
      exact ih _ _ hF _ _ _ hw (lv_sub hl [1, 2, 0] rfl)
set_option maxHeartbeats 400000 in
set_option maxRecDepth 100000 in
theorem mX2_copyFrom (l : Launch) (G : va_G) (k : Nat → ClassId) (h : Nat) (r : Nat) (h2 : Nat) (r2 : Nat) (sz : Nat) (f : Nat → Int64) (g : Nat → Int64)  (o : (Nat → Int64)) (hF : fX2_copyFrom f g = some o) : zMV l yX2_copyFrom wsX2_copyFrom rmX2_copyFrom G k (zPP h r h2 r2 k f g) sz [.ref h, .ref h2] (zPP h r h2 r2 k o g) := by
  refine zof_V (cc := cX2_copyFrom) (nL := 3) (own := RX2) (by decide) rfl rfl (Nat.le_of_ble_eq_true rfl) ?_
  intro p e s m args below meth c A Q C0 hK hA hret ls hl hw
  have hl : lv_has ls 3 [(0, .ref h), (1, .ref h2)] := hl
  obtain ⟨hx, hb, hr, hml, hown, hts, hlocks⟩ := id C0
  obtain ⟨H, hH⟩ : ∃ z, z = s.heap := ⟨_, rfl⟩
  rw [← hH] at hw ⊢
  unfold fX2_copyFrom at hF
  refine lv_iconst (v := (0 : Int32)) hx hb dX2_copyFrom_0 (by decide) ?_
  refine lv_istore_n (lv' := [(2, .int (0 : Int32)), (0, .ref h), (1, .ref h2)]) hx hb dX2_copyFrom_1 rfl hl (by decide) rfl (fun ls hl => ?_)
  exact wX2_copyFrom_2 C0 hK hA hret  zFu _ _ hF _ _ _ hw (lv_sub hl [1, 2, 0] rfl)

/-! SealedBoard$Position.writeTo([JI)V -/
abbrev rmX2_writeTo : Room := { frames := 0, cells := 0, slots := 0, locals := 0 }
theorem kdX2_writeTo : yX2_writeTo.cls = RX2 ∧ yX2_writeTo.cls ≠ "java/lang/invoke/MethodHandle" ∧ yX2_writeTo.cls ≠ "java/lang/invoke/VarHandle" ∧ (parseMethodDescriptor yX2_writeTo.desc).map (fun d => d.parameters.length) = some 2 := by decide +kernel
theorem inX2_writeTo_X2 : ∀ w ∈ u_ws RX2 TX2 1, w ∈ wsX2_writeTo := by decide +kernel
def fX2_writeTo_35 (k2 : (Nat → Int64) → Int32 → Int32 → Option ((Nat → Int64))) (f : Nat → Int64) (g : Nat → Int64) (x2 : Int32) (x3 : Int32) : Option ((Nat → Int64)) := (zbn (x3 + (1 : Int32)) (fun a1 => (k2 g x2 a1)))
def fX2_writeTo_2  (f : Nat → Int64) : Nat → (Nat → Int64) → Int32 → Int32 → Option ((Nat → Int64))
  | 0, _, _, _ => none
  | n + 1, g, x2, x3 => (if (15 : Int32) ≤ x3 then (some (g)) else (zbn (x2 + x3) (fun a1 => (if a1 < 0 then (fX2_writeTo_35 (fun b0 b1 b2 => fX2_writeTo_2  f n b0 b1 b2) f  g x2 x3) else (if (90 : Int32) ≤ a1 then (fX2_writeTo_35 (fun b0 b1 b2 => fX2_writeTo_2  f n b0 b1 b2) f  g x2 x3) else (zck (zin x3 15) (zck (zin a1 90) (fX2_writeTo_35 (fun b0 b1 b2 => fX2_writeTo_2  f n b0 b1 b2) f  (vp_updL g a1.toNatClampNeg (f x3.toNatClampNeg)) x2 x3))))))))
def fX2_writeTo (f : Nat → Int64) (g : Nat → Int64) (p1 : Int32) : Option ((Nat → Int64)) := (fX2_writeTo_2  f zFu g p1 (0 : Int32))
set_option maxHeartbeats 400000 in
set_option maxRecDepth 100000 in
theorem wX2_writeTo_35 {p : Program} {l : Launch} {e : Env} {s : State} {m : MethodId} {args : Array Value} {below : List Frame} {meth : Method} {c : Code} {A : Nat → Prop} {Q : State → Prop} {G : va_G} {k : Nat → ClassId} {h : Nat} {r : Nat} {q : Nat} {f : Nat → Int64} {o : (Nat → Int64)} (C0 : zCx p s m args meth c wsX2_writeTo cX2_writeTo RX2 none 5) (hK : zKK G k A s s.heap) (hA : ∀ q : Nat, s.heap.size ≤ q → A q) (hret : zRV p l e rmX2_writeTo s m args below meth c cX2_writeTo G A 0 0 Q (zPQ h r q k f o)) (k2 : (Nat → Int64) → Int32 → Int32 → Option ((Nat → Int64))) (hk2 : ∀ (g : Nat → Int64) (x2 : Int32) (x3 : Int32), k2 g x2 x3 = some o → ∀ (H : Heap) (locs : List Loc) (ls : Array Slot), zWd G A s (zPQ h r q k f g) H locs → lv_has ls 5 [(0, .ref h), (1, .ref q), (2, .int x2), (3, .int x3)] → W p l e rmX2_writeTo s m args below meth c H locs 0 0 Q (F0 m 2 ls [])) : ∀ (g : Nat → Int64) (x2 : Int32) (x3 : Int32), fX2_writeTo_35 k2 f g x2 x3 = some o → ∀ (H : Heap) (locs : List Loc) (ls : Array Slot), zWd G A s (zPQ h r q k f g) H locs → lv_has ls 5 [(0, .ref h), (1, .ref q), (2, .int x2), (3, .int x3)] → W p l e rmX2_writeTo s m args below meth c H locs 0 0 Q (F0 m 35 ls []) := by
  obtain ⟨hx, hb, hr, hml, hown, hts, hlocks⟩ := id C0
  intro g x2 x3 hF H locs ls hw hl
  unfold fX2_writeTo_35 at hF
  obtain ⟨a1, ea1⟩ : ∃ z : Int32, z = x3 + (1 : Int32) := ⟨_, rfl⟩
  have hF := zbn_t ea1 hF
  refine lv_iinc (v := a1) (lv' := [(3, .int a1), (0, .ref h), (1, .ref q), (2, .int x2)]) hx hb dX2_writeTo_35 hl (k := 3) rfl (by rw [ea1]; rfl) (by decide) rfl (fun ls hl => ?_)
  refine lv_goto (tgt := 2) hx hb dX2_writeTo_38 (by decide) ?_
  exact hk2 _ _ _ hF _ _ _ hw (lv_sub hl [1, 2, 3, 0] rfl)
set_option maxHeartbeats 400000 in
set_option maxRecDepth 100000 in
theorem wX2_writeTo_2 {p : Program} {l : Launch} {e : Env} {s : State} {m : MethodId} {args : Array Value} {below : List Frame} {meth : Method} {c : Code} {A : Nat → Prop} {Q : State → Prop} {G : va_G} {k : Nat → ClassId} {h : Nat} {r : Nat} {q : Nat} {f : Nat → Int64} {o : (Nat → Int64)} (C0 : zCx p s m args meth c wsX2_writeTo cX2_writeTo RX2 none 5) (hK : zKK G k A s s.heap) (hA : ∀ q : Nat, s.heap.size ≤ q → A q) (hret : zRV p l e rmX2_writeTo s m args below meth c cX2_writeTo G A 0 0 Q (zPQ h r q k f o))  : ∀ (n : Nat) (g : Nat → Int64) (x2 : Int32) (x3 : Int32), fX2_writeTo_2  f n g x2 x3 = some o → ∀ (H : Heap) (locs : List Loc) (ls : Array Slot), zWd G A s (zPQ h r q k f g) H locs → lv_has ls 5 [(0, .ref h), (1, .ref q), (2, .int x2), (3, .int x3)] → W p l e rmX2_writeTo s m args below meth c H locs 0 0 Q (F0 m 2 ls []) := by
  obtain ⟨hx, hb, hr, hml, hown, hts, hlocks⟩ := id C0
  intro n
  induction n with
  | zero => intro g x2 x3 hF; exact nomatch hF
  | succ n ih =>
    intro g x2 x3 hF H locs ls hw hl
    rw [fX2_writeTo_2] at hF
    refine lv_iload_n hx hb dX2_writeTo_2 rfl (lv_at hl 3 rfl) ?_
    refine lv_bipush (v := (15 : Int32)) hx hb dX2_writeTo_3 (by decide) ?_
    refine lv_icmp_ge (tgt := 41) hx hb dX2_writeTo_5 (by decide) (fun hc => ?_) (fun hc => ?_)
    · have hF := zif_t hc hF
      obtain rfl := Option.some.inj hF
      exact hret _ _ _ _  hw dX2_writeTo_41
    · have hF := zif_f hc hF
      refine lv_iload_n hx hb dX2_writeTo_8 rfl (lv_at hl 2 rfl) ?_
      refine lv_iload_n hx hb dX2_writeTo_9 rfl (lv_at hl 3 rfl) ?_
      refine lv_iadd hx hb dX2_writeTo_10 ?_
      refine lv_topi (fun a1 ea1 => ?_)
      have hF := zbn_t ea1 hF
      refine lv_istore (lv' := [(4, .int a1), (0, .ref h), (1, .ref q), (2, .int x2), (3, .int x3)]) hx hb dX2_writeTo_11 hl (by decide) rfl (fun ls hl => ?_)
      refine lv_iload hx hb dX2_writeTo_13 (lv_at hl 0 rfl) ?_
      refine lv_if_lt (tgt := 35) hx hb dX2_writeTo_15 (by decide) (fun hc => ?_) (fun hc => ?_)
      · have hF := zif_t hc hF
        exact wX2_writeTo_35 C0 hK hA hret (fun b0 b1 b2 => fX2_writeTo_2  f n b0 b1 b2) ih  _ _ _ hF _ _ _ hw (lv_sub hl [1, 2, 3, 4] rfl)
      · have hF := zif_f hc hF
        refine lv_iload hx hb dX2_writeTo_18 (lv_at hl 0 rfl) ?_
        refine lv_aload_n hx hb dX2_writeTo_20 rfl (lv_at hl 2 rfl) ?_
        refine va_alen (v := (90 : Int32)) hx hb hK.1 hw.1 2 0 rfl rfl rfl dX2_writeTo_21 ?_
        refine lv_icmp_ge (tgt := 35) hx hb dX2_writeTo_22 (by decide) (fun hc => ?_) (fun hc => ?_)
        · have hF := zif_t hc hF
          exact wX2_writeTo_35 C0 hK hA hret (fun b0 b1 b2 => fX2_writeTo_2  f n b0 b1 b2) ih  _ _ _ hF _ _ _ hw (lv_sub hl [1, 2, 3, 4] rfl)
        · have hF := zif_f hc hF
          refine lv_aload_n hx hb dX2_writeTo_25 rfl (lv_at hl 2 rfl) ?_
          refine lv_iload hx hb dX2_writeTo_26 (lv_at hl 0 rfl) ?_
          refine lv_aload_n hx hb dX2_writeTo_28 rfl (lv_at hl 1 rfl) ?_
          refine va_get (D := G) (ci := 2) (v := .ref r) (C := RX2) (T := TX2) (N := 1) hx hb hts inX2_writeTo_X2 hown hK.1 hw.1 0 rfl rfl 0 (by decide) (hts (.fieldLink RX2 11 "SealedBoard$Position" "row" "[J") (by decide +kernel)) (fun _ h9 => h9) rfl dX2_writeTo_29 ?_
          refine lv_iload_n hx hb dX2_writeTo_32 rfl (lv_at hl 4 rfl) ?_
          obtain ⟨hi2, hF⟩ := zck_in hF
          refine va_lald hx hb hK.1 hw.1 1 0 rfl rfl hi2 dX2_writeTo_33 ?_
          obtain ⟨hi3, hF⟩ := zck_in hF
          refine va_last hx hb hK.1 hw.1 hw.2.1 hw.2.2 2 0 rfl rfl hi3 dX2_writeTo_34 (fun H locs hP hD hS => ?_)
          have hw : zWd G A s (zPQ h r q k f (vp_updL g a1.toNatClampNeg (f x3.toNatClampNeg))) H locs := ⟨hP, hD, hS⟩
          exact wX2_writeTo_35 C0 hK hA hret (fun b0 b1 b2 => fX2_writeTo_2  f n b0 b1 b2) ih  _ _ _ hF _ _ _ hw (lv_sub hl [1, 2, 3, 4] rfl)
set_option maxHeartbeats 400000 in
set_option maxRecDepth 100000 in
theorem mX2_writeTo (l : Launch) (G : va_G) (k : Nat → ClassId) (h : Nat) (r : Nat) (q : Nat) (sz : Nat) (f : Nat → Int64) (g : Nat → Int64) (p1 : Int32) (o : (Nat → Int64)) (hF : fX2_writeTo f g p1 = some o) : zMV l yX2_writeTo wsX2_writeTo rmX2_writeTo G k (zPQ h r q k f g) sz [.ref h, .ref q, .int p1] (zPQ h r q k f o) := by
  refine zof_V (cc := cX2_writeTo) (nL := 5) (own := RX2) (by decide) rfl rfl (Nat.le_of_ble_eq_true rfl) ?_
  intro p e s m args below meth c A Q C0 hK hA hret ls hl hw
  have hl : lv_has ls 5 [(0, .ref h), (1, .ref q), (2, .int p1)] := hl
  obtain ⟨hx, hb, hr, hml, hown, hts, hlocks⟩ := id C0
  obtain ⟨H, hH⟩ : ∃ z, z = s.heap := ⟨_, rfl⟩
  rw [← hH] at hw ⊢
  unfold fX2_writeTo at hF
  refine lv_iconst (v := (0 : Int32)) hx hb dX2_writeTo_0 (by decide) ?_
  refine lv_istore_n (lv' := [(3, .int (0 : Int32)), (0, .ref h), (1, .ref q), (2, .int p1)]) hx hb dX2_writeTo_1 rfl hl (by decide) rfl (fun ls hl => ?_)
  exact wX2_writeTo_2 C0 hK hA hret  zFu _ _ _ hF _ _ _ hw (lv_sub hl [1, 2, 3, 0] rfl)

/-! SealedBoard$Position.readFrom([JI)V -/
abbrev rmX2_readFrom : Room := { frames := 0, cells := 0, slots := 0, locals := 0 }
theorem kdX2_readFrom : yX2_readFrom.cls = RX2 ∧ yX2_readFrom.cls ≠ "java/lang/invoke/MethodHandle" ∧ yX2_readFrom.cls ≠ "java/lang/invoke/VarHandle" ∧ (parseMethodDescriptor yX2_readFrom.desc).map (fun d => d.parameters.length) = some 2 := by decide +kernel
theorem inX2_readFrom_X2 : ∀ w ∈ u_ws RX2 TX2 1, w ∈ wsX2_readFrom := by decide +kernel
def fX2_readFrom_35 (k2 : (Nat → Int64) → Int32 → Int32 → Option ((Nat → Int64))) (g : Nat → Int64) (f : Nat → Int64) (x2 : Int32) (x3 : Int32) : Option ((Nat → Int64)) := (zbn (x3 + (1 : Int32)) (fun a1 => (k2 f x2 a1)))
def fX2_readFrom_2  (g : Nat → Int64) : Nat → (Nat → Int64) → Int32 → Int32 → Option ((Nat → Int64))
  | 0, _, _, _ => none
  | n + 1, f, x2, x3 => (if (15 : Int32) ≤ x3 then (some (f)) else (zbn (x2 + x3) (fun a1 => (if a1 < 0 then (fX2_readFrom_35 (fun b0 b1 b2 => fX2_readFrom_2  g n b0 b1 b2) g  f x2 x3) else (if (90 : Int32) ≤ a1 then (fX2_readFrom_35 (fun b0 b1 b2 => fX2_readFrom_2  g n b0 b1 b2) g  f x2 x3) else (zck (zin a1 90) (zck (zin x3 15) (fX2_readFrom_35 (fun b0 b1 b2 => fX2_readFrom_2  g n b0 b1 b2) g  (vp_updL f x3.toNatClampNeg (g a1.toNatClampNeg)) x2 x3))))))))
def fX2_readFrom (f : Nat → Int64) (g : Nat → Int64) (p1 : Int32) : Option ((Nat → Int64)) := (fX2_readFrom_2  g zFu f p1 (0 : Int32))
set_option maxHeartbeats 400000 in
set_option maxRecDepth 100000 in
theorem wX2_readFrom_35 {p : Program} {l : Launch} {e : Env} {s : State} {m : MethodId} {args : Array Value} {below : List Frame} {meth : Method} {c : Code} {A : Nat → Prop} {Q : State → Prop} {G : va_G} {k : Nat → ClassId} {h : Nat} {r : Nat} {q : Nat} {g : Nat → Int64} {o : (Nat → Int64)} (C0 : zCx p s m args meth c wsX2_readFrom cX2_readFrom RX2 none 5) (hK : zKK G k A s s.heap) (hA : ∀ q : Nat, s.heap.size ≤ q → A q) (hret : zRV p l e rmX2_readFrom s m args below meth c cX2_readFrom G A 0 0 Q (zPQ h r q k o g)) (k2 : (Nat → Int64) → Int32 → Int32 → Option ((Nat → Int64))) (hk2 : ∀ (f : Nat → Int64) (x2 : Int32) (x3 : Int32), k2 f x2 x3 = some o → ∀ (H : Heap) (locs : List Loc) (ls : Array Slot), zWd G A s (zPQ h r q k f g) H locs → lv_has ls 5 [(0, .ref h), (1, .ref q), (2, .int x2), (3, .int x3)] → W p l e rmX2_readFrom s m args below meth c H locs 0 0 Q (F0 m 2 ls [])) : ∀ (f : Nat → Int64) (x2 : Int32) (x3 : Int32), fX2_readFrom_35 k2 g f x2 x3 = some o → ∀ (H : Heap) (locs : List Loc) (ls : Array Slot), zWd G A s (zPQ h r q k f g) H locs → lv_has ls 5 [(0, .ref h), (1, .ref q), (2, .int x2), (3, .int x3)] → W p l e rmX2_readFrom s m args below meth c H locs 0 0 Q (F0 m 35 ls []) := by
  obtain ⟨hx, hb, hr, hml, hown, hts, hlocks⟩ := id C0
  intro f x2 x3 hF H locs ls hw hl
  unfold fX2_readFrom_35 at hF
  obtain ⟨a1, ea1⟩ : ∃ z : Int32, z = x3 + (1 : Int32) := ⟨_, rfl⟩
  have hF := zbn_t ea1 hF
  refine lv_iinc (v := a1) (lv' := [(3, .int a1), (0, .ref h), (1, .ref q), (2, .int x2)]) hx hb dX2_readFrom_35 hl (k := 3) rfl (by rw [ea1]; rfl) (by decide) rfl (fun ls hl => ?_)
  refine lv_goto (tgt := 2) hx hb dX2_readFrom_38 (by decide) ?_
  exact hk2 _ _ _ hF _ _ _ hw (lv_sub hl [1, 2, 3, 0] rfl)
set_option maxHeartbeats 400000 in
set_option maxRecDepth 100000 in
theorem wX2_readFrom_2 {p : Program} {l : Launch} {e : Env} {s : State} {m : MethodId} {args : Array Value} {below : List Frame} {meth : Method} {c : Code} {A : Nat → Prop} {Q : State → Prop} {G : va_G} {k : Nat → ClassId} {h : Nat} {r : Nat} {q : Nat} {g : Nat → Int64} {o : (Nat → Int64)} (C0 : zCx p s m args meth c wsX2_readFrom cX2_readFrom RX2 none 5) (hK : zKK G k A s s.heap) (hA : ∀ q : Nat, s.heap.size ≤ q → A q) (hret : zRV p l e rmX2_readFrom s m args below meth c cX2_readFrom G A 0 0 Q (zPQ h r q k o g))  : ∀ (n : Nat) (f : Nat → Int64) (x2 : Int32) (x3 : Int32), fX2_readFrom_2  g n f x2 x3 = some o → ∀ (H : Heap) (locs : List Loc) (ls : Array Slot), zWd G A s (zPQ h r q k f g) H locs → lv_has ls 5 [(0, .ref h), (1, .ref q), (2, .int x2), (3, .int x3)] → W p l e rmX2_readFrom s m args below meth c H locs 0 0 Q (F0 m 2 ls []) := by
  obtain ⟨hx, hb, hr, hml, hown, hts, hlocks⟩ := id C0
  intro n
  induction n with
  | zero => intro f x2 x3 hF; exact nomatch hF
  | succ n ih =>
    intro f x2 x3 hF H locs ls hw hl
    rw [fX2_readFrom_2] at hF
    refine lv_iload_n hx hb dX2_readFrom_2 rfl (lv_at hl 3 rfl) ?_
    refine lv_bipush (v := (15 : Int32)) hx hb dX2_readFrom_3 (by decide) ?_
    refine lv_icmp_ge (tgt := 41) hx hb dX2_readFrom_5 (by decide) (fun hc => ?_) (fun hc => ?_)
    · have hF := zif_t hc hF
      obtain rfl := Option.some.inj hF
      exact hret _ _ _ _  hw dX2_readFrom_41
    · have hF := zif_f hc hF
      refine lv_iload_n hx hb dX2_readFrom_8 rfl (lv_at hl 2 rfl) ?_
      refine lv_iload_n hx hb dX2_readFrom_9 rfl (lv_at hl 3 rfl) ?_
      refine lv_iadd hx hb dX2_readFrom_10 ?_
      refine lv_topi (fun a1 ea1 => ?_)
      have hF := zbn_t ea1 hF
      refine lv_istore (lv' := [(4, .int a1), (0, .ref h), (1, .ref q), (2, .int x2), (3, .int x3)]) hx hb dX2_readFrom_11 hl (by decide) rfl (fun ls hl => ?_)
      refine lv_iload hx hb dX2_readFrom_13 (lv_at hl 0 rfl) ?_
      refine lv_if_lt (tgt := 35) hx hb dX2_readFrom_15 (by decide) (fun hc => ?_) (fun hc => ?_)
      · have hF := zif_t hc hF
        exact wX2_readFrom_35 C0 hK hA hret (fun b0 b1 b2 => fX2_readFrom_2  g n b0 b1 b2) ih  _ _ _ hF _ _ _ hw (lv_sub hl [1, 2, 3, 4] rfl)
      · have hF := zif_f hc hF
        refine lv_iload hx hb dX2_readFrom_18 (lv_at hl 0 rfl) ?_
        refine lv_aload_n hx hb dX2_readFrom_20 rfl (lv_at hl 2 rfl) ?_
        refine va_alen (v := (90 : Int32)) hx hb hK.1 hw.1 2 0 rfl rfl rfl dX2_readFrom_21 ?_
        refine lv_icmp_ge (tgt := 35) hx hb dX2_readFrom_22 (by decide) (fun hc => ?_) (fun hc => ?_)
        · have hF := zif_t hc hF
          exact wX2_readFrom_35 C0 hK hA hret (fun b0 b1 b2 => fX2_readFrom_2  g n b0 b1 b2) ih  _ _ _ hF _ _ _ hw (lv_sub hl [1, 2, 3, 4] rfl)
        · have hF := zif_f hc hF
          refine lv_aload_n hx hb dX2_readFrom_25 rfl (lv_at hl 1 rfl) ?_
          refine va_get (D := G) (ci := 2) (v := .ref r) (C := RX2) (T := TX2) (N := 1) hx hb hts inX2_readFrom_X2 hown hK.1 hw.1 0 rfl rfl 0 (by decide) (hts (.fieldLink RX2 11 "SealedBoard$Position" "row" "[J") (by decide +kernel)) (fun _ h9 => h9) rfl dX2_readFrom_26 ?_
          refine lv_iload_n hx hb dX2_readFrom_29 rfl (lv_at hl 4 rfl) ?_
          refine lv_aload_n hx hb dX2_readFrom_30 rfl (lv_at hl 2 rfl) ?_
          refine lv_iload hx hb dX2_readFrom_31 (lv_at hl 0 rfl) ?_
          obtain ⟨hi2, hF⟩ := zck_in hF
          refine va_lald hx hb hK.1 hw.1 2 0 rfl rfl hi2 dX2_readFrom_33 ?_
          obtain ⟨hi3, hF⟩ := zck_in hF
          refine va_last hx hb hK.1 hw.1 hw.2.1 hw.2.2 1 0 rfl rfl hi3 dX2_readFrom_34 (fun H locs hP hD hS => ?_)
          have hw : zWd G A s (zPQ h r q k (vp_updL f x3.toNatClampNeg (g a1.toNatClampNeg)) g) H locs := ⟨hP, hD, hS⟩
          exact wX2_readFrom_35 C0 hK hA hret (fun b0 b1 b2 => fX2_readFrom_2  g n b0 b1 b2) ih  _ _ _ hF _ _ _ hw (lv_sub hl [1, 2, 3, 4] rfl)
set_option maxHeartbeats 400000 in
set_option maxRecDepth 100000 in
theorem mX2_readFrom (l : Launch) (G : va_G) (k : Nat → ClassId) (h : Nat) (r : Nat) (q : Nat) (sz : Nat) (f : Nat → Int64) (g : Nat → Int64) (p1 : Int32) (o : (Nat → Int64)) (hF : fX2_readFrom f g p1 = some o) : zMV l yX2_readFrom wsX2_readFrom rmX2_readFrom G k (zPQ h r q k f g) sz [.ref h, .ref q, .int p1] (zPQ h r q k o g) := by
  refine zof_V (cc := cX2_readFrom) (nL := 5) (own := RX2) (by decide) rfl rfl (Nat.le_of_ble_eq_true rfl) ?_
  intro p e s m args below meth c A Q C0 hK hA hret ls hl hw
  have hl : lv_has ls 5 [(0, .ref h), (1, .ref q), (2, .int p1)] := hl
  obtain ⟨hx, hb, hr, hml, hown, hts, hlocks⟩ := id C0
  obtain ⟨H, hH⟩ : ∃ z, z = s.heap := ⟨_, rfl⟩
  rw [← hH] at hw ⊢
  unfold fX2_readFrom at hF
  refine lv_iconst (v := (0 : Int32)) hx hb dX2_readFrom_0 (by decide) ?_
  refine lv_istore_n (lv' := [(3, .int (0 : Int32)), (0, .ref h), (1, .ref q), (2, .int p1)]) hx hb dX2_readFrom_1 rfl hl (by decide) rfl (fun ls hl => ?_)
  exact wX2_readFrom_2 C0 hK hA hret  zFu _ _ _ hF _ _ _ hw (lv_sub hl [1, 2, 3, 0] rfl)

/-! SealedBoard$Position.piecesOf(I)J -/
abbrev rmX2_piecesOf : Room := { frames := 0, cells := 0, slots := 0, locals := 0 }
theorem kdX2_piecesOf : yX2_piecesOf.cls = RX2 ∧ yX2_piecesOf.cls ≠ "java/lang/invoke/MethodHandle" ∧ yX2_piecesOf.cls ≠ "java/lang/invoke/VarHandle" ∧ (parseMethodDescriptor yX2_piecesOf.desc).map (fun d => d.parameters.length) = some 1 := by decide +kernel
theorem inX2_piecesOf_X2 : ∀ w ∈ u_ws RX2 TX2 1, w ∈ wsX2_piecesOf := by decide +kernel
def fX2_piecesOf (f : Nat → Int64) (p0 : Int32) : Option (Int64) := (if p0 = 0 then (zck (zin (0 : Int32) 15) (some ((f (0 : Int32).toNatClampNeg)))) else (zck (zin (1 : Int32) 15) (some ((f (1 : Int32).toNatClampNeg)))))
set_option maxHeartbeats 400000 in
set_option maxRecDepth 100000 in
theorem mX2_piecesOf (l : Launch) (G : va_G) (k : Nat → ClassId) (h : Nat) (r : Nat) (sz : Nat) (f : Nat → Int64) (p0 : Int32) (o : Int64) (hF : fX2_piecesOf f p0 = some o) : zML l yX2_piecesOf wsX2_piecesOf rmX2_piecesOf G k (zP h r k f) sz [.ref h, .int p0] o (zP h r k f) := by
  refine zof_L (cc := cX2_piecesOf) (nL := 2) (own := RX2) (by decide) rfl rfl (Nat.le_of_ble_eq_true rfl) ?_
  intro p e s m args below meth c A Q C0 hK hA hret ls hl hw
  have hl : lv_has ls 2 [(0, .ref h), (1, .int p0)] := hl
  obtain ⟨hx, hb, hr, hml, hown, hts, hlocks⟩ := id C0
  obtain ⟨H, hH⟩ : ∃ z, z = s.heap := ⟨_, rfl⟩
  rw [← hH] at hw ⊢
  unfold fX2_piecesOf at hF
  refine lv_iload_n hx hb dX2_piecesOf_0 rfl (lv_at hl 1 rfl) ?_
  refine lv_if_ne (tgt := 13) hx hb dX2_piecesOf_1 (by decide) (fun hc => ?_) (fun hc => ?_)
  · have hF := zif_f hc hF
    refine lv_aload_n hx hb dX2_piecesOf_13 rfl (lv_at hl 0 rfl) ?_
    refine va_get (D := G) (ci := 2) (v := .ref r) (C := RX2) (T := TX2) (N := 1) hx hb hts inX2_piecesOf_X2 hown hK.1 hw.1 0 rfl rfl 0 (by decide) (hts (.fieldLink RX2 11 "SealedBoard$Position" "row" "[J") (by decide +kernel)) (fun _ h9 => h9) rfl dX2_piecesOf_14 ?_
    refine lv_iconst (v := (1 : Int32)) hx hb dX2_piecesOf_17 (by decide) ?_
    obtain ⟨hi1, hF⟩ := zck_in hF
    refine va_lald hx hb hK.1 hw.1 1 0 rfl rfl hi1 dX2_piecesOf_18 ?_
    obtain rfl := Option.some.inj hF
    exact hret _ _ _ _  hw dX2_piecesOf_19
  · have hF := zif_t hc hF
    refine lv_aload_n hx hb dX2_piecesOf_4 rfl (lv_at hl 0 rfl) ?_
    refine va_get (D := G) (ci := 2) (v := .ref r) (C := RX2) (T := TX2) (N := 1) hx hb hts inX2_piecesOf_X2 hown hK.1 hw.1 0 rfl rfl 0 (by decide) (hts (.fieldLink RX2 11 "SealedBoard$Position" "row" "[J") (by decide +kernel)) (fun _ h9 => h9) rfl dX2_piecesOf_5 ?_
    refine lv_iconst (v := (0 : Int32)) hx hb dX2_piecesOf_8 (by decide) ?_
    obtain ⟨hi2, hF⟩ := zck_in hF
    refine va_lald hx hb hK.1 hw.1 1 0 rfl rfl hi2 dX2_piecesOf_9 ?_
    refine lv_goto (tgt := 19) hx hb dX2_piecesOf_10 (by decide) ?_
    obtain rfl := Option.some.inj hF
    exact hret _ _ _ _  hw dX2_piecesOf_19

/-! SealedBoard$Position.allPieces()J -/
abbrev rmX2_allPieces : Room := { frames := 0, cells := 0, slots := 0, locals := 0 }
theorem kdX2_allPieces : yX2_allPieces.cls = RX2 ∧ yX2_allPieces.cls ≠ "java/lang/invoke/MethodHandle" ∧ yX2_allPieces.cls ≠ "java/lang/invoke/VarHandle" ∧ (parseMethodDescriptor yX2_allPieces.desc).map (fun d => d.parameters.length) = some 0 := by decide +kernel
theorem inX2_allPieces_X2 : ∀ w ∈ u_ws RX2 TX2 1, w ∈ wsX2_allPieces := by decide +kernel
def fX2_allPieces (f : Nat → Int64) : Option (Int64) := (zck (zin (0 : Int32) 15) (zck (zin (1 : Int32) 15) (some (((f (0 : Int32).toNatClampNeg) ||| (f (1 : Int32).toNatClampNeg))))))
set_option maxHeartbeats 400000 in
set_option maxRecDepth 100000 in
theorem mX2_allPieces (l : Launch) (G : va_G) (k : Nat → ClassId) (h : Nat) (r : Nat) (sz : Nat) (f : Nat → Int64)  (o : Int64) (hF : fX2_allPieces f = some o) : zML l yX2_allPieces wsX2_allPieces rmX2_allPieces G k (zP h r k f) sz [.ref h] o (zP h r k f) := by
  refine zof_L (cc := cX2_allPieces) (nL := 1) (own := RX2) (by decide) rfl rfl (Nat.le_of_ble_eq_true rfl) ?_
  intro p e s m args below meth c A Q C0 hK hA hret ls hl hw
  have hl : lv_has ls 1 [(0, .ref h)] := hl
  obtain ⟨hx, hb, hr, hml, hown, hts, hlocks⟩ := id C0
  obtain ⟨H, hH⟩ : ∃ z, z = s.heap := ⟨_, rfl⟩
  rw [← hH] at hw ⊢
  unfold fX2_allPieces at hF
  refine lv_aload_n hx hb dX2_allPieces_0 rfl (lv_at hl 0 rfl) ?_
  refine va_get (D := G) (ci := 2) (v := .ref r) (C := RX2) (T := TX2) (N := 1) hx hb hts inX2_allPieces_X2 hown hK.1 hw.1 0 rfl rfl 0 (by decide) (hts (.fieldLink RX2 11 "SealedBoard$Position" "row" "[J") (by decide +kernel)) (fun _ h9 => h9) rfl dX2_allPieces_1 ?_
  refine lv_iconst (v := (0 : Int32)) hx hb dX2_allPieces_4 (by decide) ?_
  obtain ⟨hi1, hF⟩ := zck_in hF
  refine va_lald hx hb hK.1 hw.1 1 0 rfl rfl hi1 dX2_allPieces_5 ?_
  refine lv_aload_n hx hb dX2_allPieces_6 rfl (lv_at hl 0 rfl) ?_
  refine va_get (D := G) (ci := 2) (v := .ref r) (C := RX2) (T := TX2) (N := 1) hx hb hts inX2_allPieces_X2 hown hK.1 hw.1 0 rfl rfl 0 (by decide) (hts (.fieldLink RX2 11 "SealedBoard$Position" "row" "[J") (by decide +kernel)) (fun _ h9 => h9) rfl dX2_allPieces_7 ?_
  refine lv_iconst (v := (1 : Int32)) hx hb dX2_allPieces_10 (by decide) ?_
  obtain ⟨hi2, hF⟩ := zck_in hF
  refine va_lald hx hb hK.1 hw.1 1 0 rfl rfl hi2 dX2_allPieces_11 ?_
  refine lv_lor hx hb dX2_allPieces_12 ?_
  obtain rfl := Option.some.inj hF
  exact hret _ _ _ _  hw dX2_allPieces_13

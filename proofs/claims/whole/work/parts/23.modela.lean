/-! SealedBoardModel.empty()V -/
abbrev rmX5_empty : Room := { frames := 0, cells := 0, slots := 0, locals := 0 }
theorem kdX5_empty : yX5_empty.cls = RX5 ∧ yX5_empty.cls ≠ "java/lang/invoke/MethodHandle" ∧ yX5_empty.cls ≠ "java/lang/invoke/VarHandle" ∧ (parseMethodDescriptor yX5_empty.desc).map (fun d => d.parameters.length) = some 0 := by decide +kernel
theorem inX5_empty_X5 : ∀ w ∈ u_ws RX5 TX5 23, w ∈ wsX5_empty := by decide +kernel
def fX5_empty_2   : Nat → (Nat → Int32) → Int32 → Option ((Nat → Int32))
  | 0, _, _ => none
  | n + 1, now, x1 => (if (76 : Int32) ≤ x1 then (zck (zin (72 : Int32) 76) (zck (zin (73 : Int32) 76) (some ((upd (upd now (72 : Int32).toNatClampNeg (3 : Int32)) (73 : Int32).toNatClampNeg (3 : Int32)))))) else (zck (zin x1 76) (zbn (x1 + (1 : Int32)) (fun a4 => (fX5_empty_2   n (upd now x1.toNatClampNeg (0 : Int32)) a4)))))
def fX5_empty (now : Nat → Int32) : Option ((Nat → Int32)) := (fX5_empty_2   zFu now (0 : Int32))
set_option maxHeartbeats 400000 in
set_option maxRecDepth 100000 in
theorem wX5_empty_2 {p : Program} {l : Launch} {e : Env} {s : State} {m : MethodId} {args : Array Value} {below : List Frame} {meth : Method} {c : Code} {A : Nat → Prop} {Q : State → Prop} {G : va_G} {k : Nat → ClassId} {ad : Nat → Nat} {thrown : Int32} {saved : Nat → Int32} {hist : Nat → Nat → Int32} {kept : Int32} {reason : Int32} {detail : Int32} {isSaved : Int32} {comes : Nat → Int32} {queue : Nat → Int32} {far : Nat → Int32} {isInText : Int32} {ahead : Nat → Int32} {roomAt : Nat → Int32} {rooms : Int32} {text : Nat → Int32} {length : Int32} {at_ : Int32} {errorPosition : Int32} {toldFrom : Int32} {toldTo : Int32} {isWrong : Int32} {before : Nat → Int32} {o : (Nat → Int32)} (C0 : zCx p s m args meth c wsX5_empty cX5_empty RX5 none 2) (hK : zKK G k A s s.heap) (hA : ∀ q : Nat, s.heap.size ≤ q → A q) (hret : zRV p l e rmX5_empty s m args below meth c cX5_empty G A 0 0 Q (zM ad k thrown o saved hist kept reason detail isSaved comes queue far isInText ahead roomAt rooms text length at_ errorPosition toldFrom toldTo isWrong before))  : ∀ (n : Nat) (now : Nat → Int32) (x1 : Int32), fX5_empty_2   n now x1 = some o → ∀ (H : Heap) (locs : List Loc) (ls : Array Slot), zWd G A s (zM ad k thrown now saved hist kept reason detail isSaved comes queue far isInText ahead roomAt rooms text length at_ errorPosition toldFrom toldTo isWrong before) H locs → lv_has ls 2 [(0, .ref (ad 0)), (1, .int x1)] → W p l e rmX5_empty s m args below meth c H locs 0 0 Q (F0 m 2 ls []) := by
  obtain ⟨hx, hb, hr, hml, hown, hts, hlocks⟩ := id C0
  intro n
  induction n with
  | zero => intro now x1 hF; exact nomatch hF
  | succ n ih =>
    intro now x1 hF H locs ls hw hl
    rw [fX5_empty_2] at hF
    refine lv_iload_n hx hb dX5_empty_2 rfl (lv_at hl 1 rfl) ?_
    refine lv_bipush (v := (76 : Int32)) hx hb dX5_empty_3 (by decide) ?_
    refine lv_icmp_ge (tgt := 21) hx hb dX5_empty_5 (by decide) (fun hc => ?_) (fun hc => ?_)
    · have hF := zif_t hc hF
      refine lv_aload_n hx hb dX5_empty_21 rfl (lv_at hl 0 rfl) ?_
      refine va_get (D := G) (ci := 4) (v := .ref (ad 1)) (C := RX5) (T := TX5) (N := 23) hx hb hts inX5_empty_X5 hown hK.1 hw.1 0 rfl rfl 1 (by decide) (hts (.fieldLink RX5 9 "SealedBoardModel" "now" "[I") (by decide +kernel)) (fun _ h9 => h9) rfl dX5_empty_22 ?_
      refine lv_bipush (v := (72 : Int32)) hx hb dX5_empty_25 (by decide) ?_
      refine lv_iconst (v := (3 : Int32)) hx hb dX5_empty_27 (by decide) ?_
      obtain ⟨hi1, hF⟩ := zck_in hF
      refine va_iast hx hb hK.1 hw.1 hw.2.1 hw.2.2 1 2 rfl rfl hi1 dX5_empty_28 (fun H locs hP hD hS => ?_)
      have hw : zWd G A s (zM ad k thrown (upd now (72 : Int32).toNatClampNeg (3 : Int32)) saved hist kept reason detail isSaved comes queue far isInText ahead roomAt rooms text length at_ errorPosition toldFrom toldTo isWrong before) H locs := ⟨hP, hD, hS⟩
      refine lv_aload_n hx hb dX5_empty_29 rfl (lv_at hl 0 rfl) ?_
      refine va_get (D := G) (ci := 4) (v := .ref (ad 1)) (C := RX5) (T := TX5) (N := 23) hx hb hts inX5_empty_X5 hown hK.1 hw.1 0 rfl rfl 1 (by decide) (hts (.fieldLink RX5 9 "SealedBoardModel" "now" "[I") (by decide +kernel)) (fun _ h9 => h9) rfl dX5_empty_30 ?_
      refine lv_bipush (v := (73 : Int32)) hx hb dX5_empty_33 (by decide) ?_
      refine lv_iconst (v := (3 : Int32)) hx hb dX5_empty_35 (by decide) ?_
      obtain ⟨hi2, hF⟩ := zck_in hF
      refine va_iast hx hb hK.1 hw.1 hw.2.1 hw.2.2 1 2 rfl rfl hi2 dX5_empty_36 (fun H locs hP hD hS => ?_)
      have hw : zWd G A s (zM ad k thrown (upd (upd now (72 : Int32).toNatClampNeg (3 : Int32)) (73 : Int32).toNatClampNeg (3 : Int32)) saved hist kept reason detail isSaved comes queue far isInText ahead roomAt rooms text length at_ errorPosition toldFrom toldTo isWrong before) H locs := ⟨hP, hD, hS⟩
      obtain rfl := Option.some.inj hF
      exact hret _ _ _ _  hw dX5_empty_37
    · have hF := zif_f hc hF
      refine lv_aload_n hx hb dX5_empty_8 rfl (lv_at hl 0 rfl) ?_
      refine va_get (D := G) (ci := 4) (v := .ref (ad 1)) (C := RX5) (T := TX5) (N := 23) hx hb hts inX5_empty_X5 hown hK.1 hw.1 0 rfl rfl 1 (by decide) (hts (.fieldLink RX5 9 "SealedBoardModel" "now" "[I") (by decide +kernel)) (fun _ h9 => h9) rfl dX5_empty_9 ?_
      refine lv_iload_n hx hb dX5_empty_12 rfl (lv_at hl 1 rfl) ?_
      refine lv_iconst (v := (0 : Int32)) hx hb dX5_empty_13 (by decide) ?_
      obtain ⟨hi3, hF⟩ := zck_in hF
      refine va_iast hx hb hK.1 hw.1 hw.2.1 hw.2.2 1 2 rfl rfl hi3 dX5_empty_14 (fun H locs hP hD hS => ?_)
      have hw : zWd G A s (zM ad k thrown (upd now x1.toNatClampNeg (0 : Int32)) saved hist kept reason detail isSaved comes queue far isInText ahead roomAt rooms text length at_ errorPosition toldFrom toldTo isWrong before) H locs := ⟨hP, hD, hS⟩
      obtain ⟨a4, ea4⟩ : ∃ z : Int32, z = x1 + (1 : Int32) := ⟨_, rfl⟩
      have hF := zbn_t ea4 hF
      refine lv_iinc (v := a4) (lv' := [(1, .int a4), (0, .ref (ad 0))]) hx hb dX5_empty_15 hl (k := 1) rfl (by rw [ea4]; rfl) (by decide) rfl (fun ls hl => ?_)
      refine lv_goto (tgt := 2) hx hb dX5_empty_18 (by decide) ?_
      exact ih _ _ hF _ _ _ hw (lv_sub hl [1, 0] rfl)
set_option maxHeartbeats 400000 in
set_option maxRecDepth 100000 in
theorem mX5_empty (l : Launch) (G : va_G) (k : Nat → ClassId) (ad : Nat → Nat) (sz : Nat) (thrown : Int32) (now : Nat → Int32) (saved : Nat → Int32) (hist : Nat → Nat → Int32) (kept : Int32) (reason : Int32) (detail : Int32) (isSaved : Int32) (comes : Nat → Int32) (queue : Nat → Int32) (far : Nat → Int32) (isInText : Int32) (ahead : Nat → Int32) (roomAt : Nat → Int32) (rooms : Int32) (text : Nat → Int32) (length : Int32) (at_ : Int32) (errorPosition : Int32) (toldFrom : Int32) (toldTo : Int32) (isWrong : Int32) (before : Nat → Int32)  (o : (Nat → Int32)) (hF : fX5_empty now = some o) : zMV l yX5_empty wsX5_empty rmX5_empty G k (zM ad k thrown now saved hist kept reason detail isSaved comes queue far isInText ahead roomAt rooms text length at_ errorPosition toldFrom toldTo isWrong before) sz [.ref (ad 0)] (zM ad k thrown o saved hist kept reason detail isSaved comes queue far isInText ahead roomAt rooms text length at_ errorPosition toldFrom toldTo isWrong before) := by
  refine zof_V (cc := cX5_empty) (nL := 2) (own := RX5) (by decide) rfl rfl (Nat.le_of_ble_eq_true rfl) ?_
  intro p e s m args below meth c A Q C0 hK hA hret ls hl hw
  have hl : lv_has ls 2 [(0, .ref (ad 0))] := hl
  obtain ⟨hx, hb, hr, hml, hown, hts, hlocks⟩ := id C0
  obtain ⟨H, hH⟩ : ∃ z, z = s.heap := ⟨_, rfl⟩
  rw [← hH] at hw ⊢
  unfold fX5_empty at hF
  refine lv_iconst (v := (0 : Int32)) hx hb dX5_empty_0 (by decide) ?_
  refine lv_istore_n (lv' := [(1, .int (0 : Int32)), (0, .ref (ad 0))]) hx hb dX5_empty_1 rfl hl (by decide) rfl (fun ls hl => ?_)
  exact wX5_empty_2 C0 hK hA hret  zFu _ _ hF _ _ _ hw (lv_sub hl [1, 0] rfl)

/-! SealedBoardModel.thrown()I -/
abbrev rmX5_thrown : Room := { frames := 0, cells := 0, slots := 0, locals := 0 }
theorem kdX5_thrown : yX5_thrown.cls = RX5 ∧ yX5_thrown.cls ≠ "java/lang/invoke/MethodHandle" ∧ yX5_thrown.cls ≠ "java/lang/invoke/VarHandle" ∧ (parseMethodDescriptor yX5_thrown.desc).map (fun d => d.parameters.length) = some 0 := by decide +kernel
theorem inX5_thrown_X5 : ∀ w ∈ u_ws RX5 TX5 23, w ∈ wsX5_thrown := by decide +kernel
def fX5_thrown (thrown : Int32) : Option (Int32) := (some (thrown))
set_option maxHeartbeats 400000 in
set_option maxRecDepth 100000 in
theorem mX5_thrown (l : Launch) (G : va_G) (k : Nat → ClassId) (ad : Nat → Nat) (sz : Nat) (thrown : Int32) (now : Nat → Int32) (saved : Nat → Int32) (hist : Nat → Nat → Int32) (kept : Int32) (reason : Int32) (detail : Int32) (isSaved : Int32) (comes : Nat → Int32) (queue : Nat → Int32) (far : Nat → Int32) (isInText : Int32) (ahead : Nat → Int32) (roomAt : Nat → Int32) (rooms : Int32) (text : Nat → Int32) (length : Int32) (at_ : Int32) (errorPosition : Int32) (toldFrom : Int32) (toldTo : Int32) (isWrong : Int32) (before : Nat → Int32)  (o : Int32) (hF : fX5_thrown thrown = some o) : zMI l yX5_thrown wsX5_thrown rmX5_thrown G k (zM ad k thrown now saved hist kept reason detail isSaved comes queue far isInText ahead roomAt rooms text length at_ errorPosition toldFrom toldTo isWrong before) sz [.ref (ad 0)] o (zM ad k thrown now saved hist kept reason detail isSaved comes queue far isInText ahead roomAt rooms text length at_ errorPosition toldFrom toldTo isWrong before) := by
  refine zof_I (cc := cX5_thrown) (nL := 1) (own := RX5) (rt := .int) (by decide) rfl rfl (Nat.le_of_ble_eq_true rfl) ?_
  intro p e s m args below meth c A Q C0 hK hA hret ls hl hw
  have hl : lv_has ls 1 [(0, .ref (ad 0))] := hl
  obtain ⟨hx, hb, hr, hml, hown, hts, hlocks⟩ := id C0
  obtain ⟨H, hH⟩ : ∃ z, z = s.heap := ⟨_, rfl⟩
  rw [← hH] at hw ⊢
  unfold fX5_thrown at hF
  refine lv_aload_n hx hb dX5_thrown_0 rfl (lv_at hl 0 rfl) ?_
  refine va_get (D := G) (ci := 4) (v := .int thrown) (C := RX5) (T := TX5) (N := 23) hx hb hts inX5_thrown_X5 hown hK.1 hw.1 0 rfl rfl 0 (by decide) (hts (.fieldLink RX5 51 "SealedBoardModel" "thrown" "I") (by decide +kernel)) (fun _ h9 => h9) rfl dX5_thrown_1 ?_
  obtain rfl := Option.some.inj hF
  exact hret _ _ _ _ rfl hw dX5_thrown_4

/-! SealedBoardModel.isBetween(III)Z -/
abbrev rmX5_isBetween : Room := { frames := 0, cells := 0, slots := 0, locals := 0 }
theorem kdX5_isBetween : yX5_isBetween.cls ≠ "java/lang/invoke/MethodHandle" ∧ yX5_isBetween.cls ≠ "java/lang/invoke/VarHandle" ∧ (parseMethodDescriptor yX5_isBetween.desc).map (fun d => d.parameters.length) = some 3 := by decide +kernel
def fX5_isBetween (p0 : Int32) (p1 : Int32) (p2 : Int32) : Option (Int32) := (if p0 < p1 then (some ((0 : Int32))) else (if p2 < p0 then (some ((0 : Int32))) else (some ((1 : Int32)))))
set_option maxHeartbeats 400000 in
set_option maxRecDepth 100000 in
theorem mX5_isBetween (l : Launch) (G : va_G) (k : Nat → ClassId)  (sz : Nat)  (p0 : Int32) (p1 : Int32) (p2 : Int32) (o : Int32) (hF : fX5_isBetween p0 p1 p2 = some o) : zMI l yX5_isBetween wsX5_isBetween rmX5_isBetween G k (zE0 k) sz [.int p0, .int p1, .int p2] o (zE0 k) := by
  refine zof_I (cc := cX5_isBetween) (nL := 3) (own := RX5) (rt := .boolean) (by decide) rfl rfl (Nat.le_of_ble_eq_true rfl) ?_
  intro p e s m args below meth c A Q C0 hK hA hret ls hl hw
  have hl : lv_has ls 3 [(0, .int p0), (1, .int p1), (2, .int p2)] := hl
  obtain ⟨hx, hb, hr, hml, hown, hts, hlocks⟩ := id C0
  obtain ⟨H, hH⟩ : ∃ z, z = s.heap := ⟨_, rfl⟩
  rw [← hH] at hw ⊢
  unfold fX5_isBetween at hF
  refine lv_iload_n hx hb dX5_isBetween_0 rfl (lv_at hl 0 rfl) ?_
  refine lv_iload_n hx hb dX5_isBetween_1 rfl (lv_at hl 1 rfl) ?_
  refine lv_icmp_lt (tgt := 14) hx hb dX5_isBetween_2 (by decide) (fun hc => ?_) (fun hc => ?_)
  · have hF := zif_t hc hF
    refine lv_iconst (v := (0 : Int32)) hx hb dX5_isBetween_14 (by decide) ?_
    obtain rfl := Option.some.inj hF
    exact hret _ _ _ _ (zbo_n (x := (0 : Int32)) (by decide)) hw dX5_isBetween_15
  · have hF := zif_f hc hF
    refine lv_iload_n hx hb dX5_isBetween_5 rfl (lv_at hl 0 rfl) ?_
    refine lv_iload_n hx hb dX5_isBetween_6 rfl (lv_at hl 2 rfl) ?_
    refine lv_icmp_gt (tgt := 14) hx hb dX5_isBetween_7 (by decide) (fun hc => ?_) (fun hc => ?_)
    · have hF := zif_t hc hF
      refine lv_iconst (v := (0 : Int32)) hx hb dX5_isBetween_14 (by decide) ?_
      obtain rfl := Option.some.inj hF
      exact hret _ _ _ _ (zbo_n (x := (0 : Int32)) (by decide)) hw dX5_isBetween_15
    · have hF := zif_f hc hF
      refine lv_iconst (v := (1 : Int32)) hx hb dX5_isBetween_10 (by decide) ?_
      refine lv_goto (tgt := 15) hx hb dX5_isBetween_11 (by decide) ?_
      obtain rfl := Option.some.inj hF
      exact hret _ _ _ _ (zbo_n (x := (1 : Int32)) (by decide)) hw dX5_isBetween_15

/-! SealedBoardModel.copyRow([I[I)V -/
abbrev rmX5_copyRow : Room := { frames := 0, cells := 0, slots := 0, locals := 0 }
theorem kdX5_copyRow : yX5_copyRow.cls ≠ "java/lang/invoke/MethodHandle" ∧ yX5_copyRow.cls ≠ "java/lang/invoke/VarHandle" ∧ (parseMethodDescriptor yX5_copyRow.desc).map (fun d => d.parameters.length) = some 2 := by decide +kernel
def fX5_copyRow_2  (f : Nat → Int32) : Nat → (Nat → Int32) → Int32 → Option ((Nat → Int32))
  | 0, _, _ => none
  | n + 1, g, x2 => (if (76 : Int32) ≤ x2 then (some (g)) else (zck (zin x2 76) (zck (zin x2 76) (zbn (x2 + (1 : Int32)) (fun a3 => (fX5_copyRow_2  f n (upd g x2.toNatClampNeg (f x2.toNatClampNeg)) a3))))))
def fX5_copyRow (f : Nat → Int32) (g : Nat → Int32) : Option ((Nat → Int32)) := (fX5_copyRow_2  f zFu g (0 : Int32))
set_option maxHeartbeats 400000 in
set_option maxRecDepth 100000 in
theorem wX5_copyRow_2 {p : Program} {l : Launch} {e : Env} {s : State} {m : MethodId} {args : Array Value} {below : List Frame} {meth : Method} {c : Code} {A : Nat → Prop} {Q : State → Prop} {G : va_G} {k : Nat → ClassId} {a : Nat} {b : Nat} {f : Nat → Int32} {o : (Nat → Int32)} (C0 : zCx p s m args meth c wsX5_copyRow cX5_copyRow RX5 none 3) (hK : zKK G k A s s.heap) (hA : ∀ q : Nat, s.heap.size ≤ q → A q) (hret : zRV p l e rmX5_copyRow s m args below meth c cX5_copyRow G A 0 0 Q (zA2 a b k f o))  : ∀ (n : Nat) (g : Nat → Int32) (x2 : Int32), fX5_copyRow_2  f n g x2 = some o → ∀ (H : Heap) (locs : List Loc) (ls : Array Slot), zWd G A s (zA2 a b k f g) H locs → lv_has ls 3 [(0, .ref a), (1, .ref b), (2, .int x2)] → W p l e rmX5_copyRow s m args below meth c H locs 0 0 Q (F0 m 2 ls []) := by
  obtain ⟨hx, hb, hr, hml, hown, hts, hlocks⟩ := id C0
  intro n
  induction n with
  | zero => intro g x2 hF; exact nomatch hF
  | succ n ih =>
    intro g x2 hF H locs ls hw hl
    rw [fX5_copyRow_2] at hF
    refine lv_iload_n hx hb dX5_copyRow_2 rfl (lv_at hl 2 rfl) ?_
    refine lv_bipush (v := (76 : Int32)) hx hb dX5_copyRow_3 (by decide) ?_
    refine lv_icmp_ge (tgt := 20) hx hb dX5_copyRow_5 (by decide) (fun hc => ?_) (fun hc => ?_)
    · have hF := zif_t hc hF
      obtain rfl := Option.some.inj hF
      exact hret _ _ _ _  hw dX5_copyRow_20
    · have hF := zif_f hc hF
      refine lv_aload_n hx hb dX5_copyRow_8 rfl (lv_at hl 1 rfl) ?_
      refine lv_iload_n hx hb dX5_copyRow_9 rfl (lv_at hl 2 rfl) ?_
      refine lv_aload_n hx hb dX5_copyRow_10 rfl (lv_at hl 0 rfl) ?_
      refine lv_iload_n hx hb dX5_copyRow_11 rfl (lv_at hl 2 rfl) ?_
      obtain ⟨hi1, hF⟩ := zck_in hF
      refine va_iald hx hb hK.1 hw.1 0 2 rfl rfl hi1 dX5_copyRow_12 ?_
      obtain ⟨hi2, hF⟩ := zck_in hF
      refine va_iast hx hb hK.1 hw.1 hw.2.1 hw.2.2 1 2 rfl rfl hi2 dX5_copyRow_13 (fun H locs hP hD hS => ?_)
      have hw : zWd G A s (zA2 a b k f (upd g x2.toNatClampNeg (f x2.toNatClampNeg))) H locs := ⟨hP, hD, hS⟩
      obtain ⟨a3, ea3⟩ : ∃ z : Int32, z = x2 + (1 : Int32) := ⟨_, rfl⟩
      have hF := zbn_t ea3 hF
      refine lv_iinc (v := a3) (lv' := [(2, .int a3), (0, .ref a), (1, .ref b)]) hx hb dX5_copyRow_14 hl (k := 2) rfl (by rw [ea3]; rfl) (by decide) rfl (fun ls hl => ?_)
      refine lv_goto (tgt := 2) hx hb dX5_copyRow_17 (by decide) ?_
      exact ih _ _ hF _ _ _ hw (lv_sub hl [1, 2, 0] rfl)
set_option maxHeartbeats 400000 in
set_option maxRecDepth 100000 in
theorem mX5_copyRow (l : Launch) (G : va_G) (k : Nat → ClassId) (a : Nat) (b : Nat) (sz : Nat) (f : Nat → Int32) (g : Nat → Int32)  (o : (Nat → Int32)) (hF : fX5_copyRow f g = some o) : zMV l yX5_copyRow wsX5_copyRow rmX5_copyRow G k (zA2 a b k f g) sz [.ref a, .ref b] (zA2 a b k f o) := by
  refine zof_V (cc := cX5_copyRow) (nL := 3) (own := RX5) (by decide) rfl rfl (Nat.le_of_ble_eq_true rfl) ?_
  intro p e s m args below meth c A Q C0 hK hA hret ls hl hw
  have hl : lv_has ls 3 [(0, .ref a), (1, .ref b)] := hl
  obtain ⟨hx, hb, hr, hml, hown, hts, hlocks⟩ := id C0
  obtain ⟨H, hH⟩ : ∃ z, z = s.heap := ⟨_, rfl⟩
  rw [← hH] at hw ⊢
  unfold fX5_copyRow at hF
  refine lv_iconst (v := (0 : Int32)) hx hb dX5_copyRow_0 (by decide) ?_
  refine lv_istore_n (lv' := [(2, .int (0 : Int32)), (0, .ref a), (1, .ref b)]) hx hb dX5_copyRow_1 rfl hl (by decide) rfl (fun ls hl => ?_)
  exact wX5_copyRow_2 C0 hK hA hret  zFu _ _ hF _ _ _ hw (lv_sub hl [1, 2, 0] rfl)

/-! SealedBoardModel.fails(IZ)Z -/
abbrev rmX5_fails : Room := { frames := 0, cells := 0, slots := 0, locals := 0 }
theorem kdX5_fails : yX5_fails.cls = RX5 ∧ yX5_fails.cls ≠ "java/lang/invoke/MethodHandle" ∧ yX5_fails.cls ≠ "java/lang/invoke/VarHandle" ∧ (parseMethodDescriptor yX5_fails.desc).map (fun d => d.parameters.length) = some 2 := by decide +kernel
theorem inX5_fails_X5 : ∀ w ∈ u_ws RX5 TX5 23, w ∈ wsX5_fails := by decide +kernel
def fX5_fails_10   (thrown : Int32) (x2 : Int32) (s0 : Int32) : Option (Int32 × Int32) := (zck (zbo x2) (some (x2, s0)))
def fX5_fails (thrown : Int32) (p0 : Int32) (p1 : Int32) : Option (Int32 × Int32) := (if p1 = 0 then (fX5_fails_10    thrown p1 (0 : Int32)) else (fX5_fails_10    thrown p1 p0))
set_option maxHeartbeats 400000 in
set_option maxRecDepth 100000 in
theorem wX5_fails_10 {p : Program} {l : Launch} {e : Env} {s : State} {m : MethodId} {args : Array Value} {below : List Frame} {meth : Method} {c : Code} {A : Nat → Prop} {Q : State → Prop} {G : va_G} {k : Nat → ClassId} {ad : Nat → Nat} {now : Nat → Int32} {saved : Nat → Int32} {hist : Nat → Nat → Int32} {kept : Int32} {reason : Int32} {detail : Int32} {isSaved : Int32} {comes : Nat → Int32} {queue : Nat → Int32} {far : Nat → Int32} {isInText : Int32} {ahead : Nat → Int32} {roomAt : Nat → Int32} {rooms : Int32} {text : Nat → Int32} {length : Int32} {at_ : Int32} {errorPosition : Int32} {toldFrom : Int32} {toldTo : Int32} {isWrong : Int32} {before : Nat → Int32} {o : Int32 × Int32} (C0 : zCx p s m args meth c wsX5_fails cX5_fails RX5 (some .boolean) 3) (hK : zKK G k A s s.heap) (hA : ∀ q : Nat, s.heap.size ≤ q → A q) (hret : zRI p l e rmX5_fails s m args below meth c cX5_fails G A 0 0 Q .boolean (zM ad k o.2 now saved hist kept reason detail isSaved comes queue far isInText ahead roomAt rooms text length at_ errorPosition toldFrom toldTo isWrong before) o.1)  : ∀ (thrown : Int32) (x2 : Int32) (s0 : Int32), fX5_fails_10   thrown x2 s0 = some o → ∀ (H : Heap) (locs : List Loc) (ls : Array Slot), zWd G A s (zM ad k thrown now saved hist kept reason detail isSaved comes queue far isInText ahead roomAt rooms text length at_ errorPosition toldFrom toldTo isWrong before) H locs → lv_has ls 3 [(2, .int x2)] → W p l e rmX5_fails s m args below meth c H locs 0 0 Q (F0 m 10 ls [.int s0, .ref (ad 0)]) := by
  obtain ⟨hx, hb, hr, hml, hown, hts, hlocks⟩ := id C0
  intro thrown x2 s0 hF H locs ls hw hl
  unfold fX5_fails_10 at hF
  refine va_put (D := G) (ci := 4) (v := .int s0) (ty := .int) (C := RX5) (T := TX5) (N := 23) hx hb hts inX5_fails_X5 tyX5 tyX5_ok nmX5 hown hK.1 hw.1 hw.2.1 hw.2.2 0 rfl rfl 0 (by decide) (hts (.fieldLink RX5 51 "SealedBoardModel" "thrown" "I") (by decide +kernel)) (fun _ h9 => h9) rfl (by decide +kernel) rfl rfl (Nat.le_of_ble_eq_true rfl) dX5_fails_10 (fun H locs hP hD hS => ?_)
  have hw : zWd G A s (zM ad k s0 now saved hist kept reason detail isSaved comes queue far isInText ahead roomAt rooms text length at_ errorPosition toldFrom toldTo isWrong before) H locs := ⟨hP, hD, hS⟩
  refine lv_iload_n hx hb dX5_fails_13 rfl (lv_at hl 0 rfl) ?_
  obtain ⟨hz1, hF⟩ := zck_t hF
  obtain rfl := Option.some.inj hF
  exact hret _ _ _ _ (zbo_n hz1) hw dX5_fails_14
set_option maxHeartbeats 400000 in
set_option maxRecDepth 100000 in
theorem mX5_fails (l : Launch) (G : va_G) (k : Nat → ClassId) (ad : Nat → Nat) (sz : Nat) (thrown : Int32) (now : Nat → Int32) (saved : Nat → Int32) (hist : Nat → Nat → Int32) (kept : Int32) (reason : Int32) (detail : Int32) (isSaved : Int32) (comes : Nat → Int32) (queue : Nat → Int32) (far : Nat → Int32) (isInText : Int32) (ahead : Nat → Int32) (roomAt : Nat → Int32) (rooms : Int32) (text : Nat → Int32) (length : Int32) (at_ : Int32) (errorPosition : Int32) (toldFrom : Int32) (toldTo : Int32) (isWrong : Int32) (before : Nat → Int32) (p0 : Int32) (p1 : Int32) (o : Int32 × Int32) (hF : fX5_fails thrown p0 p1 = some o) : zMI l yX5_fails wsX5_fails rmX5_fails G k (zM ad k thrown now saved hist kept reason detail isSaved comes queue far isInText ahead roomAt rooms text length at_ errorPosition toldFrom toldTo isWrong before) sz [.ref (ad 0), .int p0, .int p1] o.1 (zM ad k o.2 now saved hist kept reason detail isSaved comes queue far isInText ahead roomAt rooms text length at_ errorPosition toldFrom toldTo isWrong before) := by
  refine zof_I (cc := cX5_fails) (nL := 3) (own := RX5) (rt := .boolean) (by decide) rfl rfl (Nat.le_of_ble_eq_true rfl) ?_
  intro p e s m args below meth c A Q C0 hK hA hret ls hl hw
  have hl : lv_has ls 3 [(0, .ref (ad 0)), (1, .int p0), (2, .int p1)] := hl
  obtain ⟨hx, hb, hr, hml, hown, hts, hlocks⟩ := id C0
  obtain ⟨H, hH⟩ : ∃ z, z = s.heap := ⟨_, rfl⟩
  rw [← hH] at hw ⊢
  unfold fX5_fails at hF
  refine lv_aload_n hx hb dX5_fails_0 rfl (lv_at hl 0 rfl) ?_
  refine lv_iload_n hx hb dX5_fails_1 rfl (lv_at hl 2 rfl) ?_
  refine lv_if_eq (tgt := 9) hx hb dX5_fails_2 (by decide) (fun hc => ?_) (fun hc => ?_)
  · have hF := zif_t hc hF
    refine lv_iconst (v := (0 : Int32)) hx hb dX5_fails_9 (by decide) ?_
    exact wX5_fails_10 C0 hK hA hret   _ _ _ hF _ _ _ hw (lv_sub hl [2] rfl)
  · have hF := zif_f hc hF
    refine lv_iload_n hx hb dX5_fails_5 rfl (lv_at hl 1 rfl) ?_
    refine lv_goto (tgt := 10) hx hb dX5_fails_6 (by decide) ?_
    exact wX5_fails_10 C0 hK hA hret   _ _ _ hF _ _ _ hw (lv_sub hl [2] rfl)

/-! SealedBoardModel.refuse(ZII)Z -/
abbrev rmX5_refuse : Room := { frames := 0, cells := 0, slots := 0, locals := 0 }
theorem kdX5_refuse : yX5_refuse.cls = RX5 ∧ yX5_refuse.cls ≠ "java/lang/invoke/MethodHandle" ∧ yX5_refuse.cls ≠ "java/lang/invoke/VarHandle" ∧ (parseMethodDescriptor yX5_refuse.desc).map (fun d => d.parameters.length) = some 3 := by decide +kernel
theorem inX5_refuse_X5 : ∀ w ∈ u_ws RX5 TX5 23, w ∈ wsX5_refuse := by decide +kernel
def fX5_refuse (reason : Int32) (detail : Int32) (p0 : Int32) (p1 : Int32) (p2 : Int32) : Option (Int32 × Int32 × Int32) := (if p0 = 0 then (zck (zbo p0) (some (p0, reason, detail))) else (zck (zbo p0) (some (p0, p1, p2))))
set_option maxHeartbeats 400000 in
set_option maxRecDepth 100000 in
theorem mX5_refuse (l : Launch) (G : va_G) (k : Nat → ClassId) (ad : Nat → Nat) (sz : Nat) (thrown : Int32) (now : Nat → Int32) (saved : Nat → Int32) (hist : Nat → Nat → Int32) (kept : Int32) (reason : Int32) (detail : Int32) (isSaved : Int32) (comes : Nat → Int32) (queue : Nat → Int32) (far : Nat → Int32) (isInText : Int32) (ahead : Nat → Int32) (roomAt : Nat → Int32) (rooms : Int32) (text : Nat → Int32) (length : Int32) (at_ : Int32) (errorPosition : Int32) (toldFrom : Int32) (toldTo : Int32) (isWrong : Int32) (before : Nat → Int32) (p0 : Int32) (p1 : Int32) (p2 : Int32) (o : Int32 × Int32 × Int32) (hF : fX5_refuse reason detail p0 p1 p2 = some o) : zMI l yX5_refuse wsX5_refuse rmX5_refuse G k (zM ad k thrown now saved hist kept reason detail isSaved comes queue far isInText ahead roomAt rooms text length at_ errorPosition toldFrom toldTo isWrong before) sz [.ref (ad 0), .int p0, .int p1, .int p2] o.1 (zM ad k thrown now saved hist kept o.2.1 o.2.2 isSaved comes queue far isInText ahead roomAt rooms text length at_ errorPosition toldFrom toldTo isWrong before) := by
  refine zof_I (cc := cX5_refuse) (nL := 4) (own := RX5) (rt := .boolean) (by decide) rfl rfl (Nat.le_of_ble_eq_true rfl) ?_
  intro p e s m args below meth c A Q C0 hK hA hret ls hl hw
  have hl : lv_has ls 4 [(0, .ref (ad 0)), (1, .int p0), (2, .int p1), (3, .int p2)] := hl
  obtain ⟨hx, hb, hr, hml, hown, hts, hlocks⟩ := id C0
  obtain ⟨H, hH⟩ : ∃ z, z = s.heap := ⟨_, rfl⟩
  rw [← hH] at hw ⊢
  unfold fX5_refuse at hF
  refine lv_iload_n hx hb dX5_refuse_0 rfl (lv_at hl 1 rfl) ?_
  refine lv_if_eq (tgt := 14) hx hb dX5_refuse_1 (by decide) (fun hc => ?_) (fun hc => ?_)
  · have hF := zif_t hc hF
    refine lv_iload_n hx hb dX5_refuse_14 rfl (lv_at hl 1 rfl) ?_
    obtain ⟨hz1, hF⟩ := zck_t hF
    obtain rfl := Option.some.inj hF
    exact hret _ _ _ _ (zbo_n hz1) hw dX5_refuse_15
  · have hF := zif_f hc hF
    refine lv_aload_n hx hb dX5_refuse_4 rfl (lv_at hl 0 rfl) ?_
    refine lv_iload_n hx hb dX5_refuse_5 rfl (lv_at hl 2 rfl) ?_
    refine va_put (D := G) (ci := 4) (v := .int p1) (ty := .int) (C := RX5) (T := TX5) (N := 23) hx hb hts inX5_refuse_X5 tyX5 tyX5_ok nmX5 hown hK.1 hw.1 hw.2.1 hw.2.2 0 rfl rfl 5 (by decide) (hts (.fieldLink RX5 54 "SealedBoardModel" "reason" "I") (by decide +kernel)) (fun _ h9 => h9) rfl (by decide +kernel) rfl rfl (Nat.le_of_ble_eq_true rfl) dX5_refuse_6 (fun H locs hP hD hS => ?_)
    have hw : zWd G A s (zM ad k thrown now saved hist kept p1 detail isSaved comes queue far isInText ahead roomAt rooms text length at_ errorPosition toldFrom toldTo isWrong before) H locs := ⟨hP, hD, hS⟩
    refine lv_aload_n hx hb dX5_refuse_9 rfl (lv_at hl 0 rfl) ?_
    refine lv_iload_n hx hb dX5_refuse_10 rfl (lv_at hl 3 rfl) ?_
    refine va_put (D := G) (ci := 4) (v := .int p2) (ty := .int) (C := RX5) (T := TX5) (N := 23) hx hb hts inX5_refuse_X5 tyX5 tyX5_ok nmX5 hown hK.1 hw.1 hw.2.1 hw.2.2 0 rfl rfl 6 (by decide) (hts (.fieldLink RX5 57 "SealedBoardModel" "detail" "I") (by decide +kernel)) (fun _ h9 => h9) rfl (by decide +kernel) rfl rfl (Nat.le_of_ble_eq_true rfl) dX5_refuse_11 (fun H locs hP hD hS => ?_)
    have hw : zWd G A s (zM ad k thrown now saved hist kept p1 p2 isSaved comes queue far isInText ahead roomAt rooms text length at_ errorPosition toldFrom toldTo isWrong before) H locs := ⟨hP, hD, hS⟩
    refine lv_iload_n hx hb dX5_refuse_14 rfl (lv_at hl 1 rfl) ?_
    obtain ⟨hz2, hF⟩ := zck_t hF
    obtain rfl := Option.some.inj hF
    exact hret _ _ _ _ (zbo_n hz2) hw dX5_refuse_15

/-! SealedBoardModel.remember([I)V -/
abbrev rmX5_remember : Room := { frames := 1, cells := 0, slots := 0, locals := 22 }
theorem kdX5_remember : yX5_remember.cls = RX5 ∧ yX5_remember.cls ≠ "java/lang/invoke/MethodHandle" ∧ yX5_remember.cls ≠ "java/lang/invoke/VarHandle" ∧ (parseMethodDescriptor yX5_remember.desc).map (fun d => d.parameters.length) = some 1 := by decide +kernel
theorem inX5_remember_X5 : ∀ w ∈ u_ws RX5 TX5 23, w ∈ wsX5_remember := by decide +kernel
def fX5_remember_52  (now : Nat → Int32) (hist : Nat → Nat → Int32) (kept : Int32) : Option ((Nat → Nat → Int32) × Int32) := (zck (zin kept 6) (zbd (fX5_copyRow now (hist kept.toNatClampNeg)) (fun u2 => (some ((hup hist kept.toNatClampNeg u2), (kept + (1 : Int32)))))))
def fX5_remember_21  (now : Nat → Int32) : Nat → (Nat → Nat → Int32) → Int32 → Int32 → Option ((Nat → Nat → Int32) × Int32)
  | 0, _, _, _ => none
  | n + 1, hist, kept, x2 => (if kept ≤ x2 then (fX5_remember_52  now  hist kept) else (zck (zin (x2 + (1 : Int32)) 6) (zck (zin x2 6) (zck (decide ((x2 + (1 : Int32)).toNatClampNeg ≠ x2.toNatClampNeg)) (zbd (fX5_copyRow (hist ((x2 + (1 : Int32)).toNatClampNeg)) (hist x2.toNatClampNeg)) (fun u3 => (zbn (x2 + (1 : Int32)) (fun a6 => (fX5_remember_21  now n (hup hist x2.toNatClampNeg u3) kept a6)))))))))
def fX5_remember (now : Nat → Int32) (hist : Nat → Nat → Int32) (kept : Int32) : Option ((Nat → Nat → Int32) × Int32) := (if kept = (6 : Int32) then (fX5_remember_21  now zFu hist (kept - (1 : Int32)) (0 : Int32)) else (fX5_remember_52  now  hist kept))
set_option maxHeartbeats 400000 in
set_option maxRecDepth 100000 in
theorem wX5_remember_52 {p : Program} {l : Launch} {e : Env} {s : State} {m : MethodId} {args : Array Value} {below : List Frame} {meth : Method} {c : Code} {A : Nat → Prop} {Q : State → Prop} {G : va_G} {k : Nat → ClassId} {ad : Nat → Nat} {thrown : Int32} {now : Nat → Int32} {saved : Nat → Int32} {reason : Int32} {detail : Int32} {isSaved : Int32} {comes : Nat → Int32} {queue : Nat → Int32} {far : Nat → Int32} {isInText : Int32} {ahead : Nat → Int32} {roomAt : Nat → Int32} {rooms : Int32} {text : Nat → Int32} {length : Int32} {at_ : Int32} {errorPosition : Int32} {toldFrom : Int32} {toldTo : Int32} {isWrong : Int32} {before : Nat → Int32} {o : (Nat → Nat → Int32) × Int32} (C0 : zCx p s m args meth c wsX5_remember cX5_remember RX5 none 3) (hK : zKK G k A s s.heap) (hA : ∀ q : Nat, s.heap.size ≤ q → A q) (hret : zRV p l e rmX5_remember s m args below meth c cX5_remember G A 0 0 Q (zM ad k thrown now saved o.1 o.2 reason detail isSaved comes queue far isInText ahead roomAt rooms text length at_ errorPosition toldFrom toldTo isWrong before))  : ∀ (hist : Nat → Nat → Int32) (kept : Int32), fX5_remember_52  now hist kept = some o → ∀ (H : Heap) (locs : List Loc) (ls : Array Slot), zWd G A s (zM ad k thrown now saved hist kept reason detail isSaved comes queue far isInText ahead roomAt rooms text length at_ errorPosition toldFrom toldTo isWrong before) H locs → lv_has ls 3 [(0, .ref (ad 0)), (1, .ref (ad 1))] → W p l e rmX5_remember s m args below meth c H locs 0 0 Q (F0 m 52 ls []) := by
  obtain ⟨hx, hb, hr, hml, hown, hts, hlocks⟩ := id C0
  intro hist kept hF H locs ls hw hl
  unfold fX5_remember_52 at hF
  refine lv_aload_n hx hb dX5_remember_52 rfl (lv_at hl 1 rfl) ?_
  refine lv_aload_n hx hb dX5_remember_53 rfl (lv_at hl 0 rfl) ?_
  refine va_get (D := G) (ci := 4) (v := .ref (ad 3)) (C := RX5) (T := TX5) (N := 23) hx hb hts inX5_remember_X5 hown hK.1 hw.1 0 rfl rfl 3 (by decide) (hts (.fieldLink RX5 18 "SealedBoardModel" "history" "[[I") (by decide +kernel)) (fun _ h9 => h9) rfl dX5_remember_54 ?_
  refine lv_aload_n hx hb dX5_remember_57 rfl (lv_at hl 0 rfl) ?_
  refine va_get (D := G) (ci := 4) (v := .int kept) (C := RX5) (T := TX5) (N := 23) hx hb hts inX5_remember_X5 hown hK.1 hw.1 0 rfl rfl 4 (by decide) (hts (.fieldLink RX5 60 "SealedBoardModel" "kept" "I") (by decide +kernel)) (fun _ h9 => h9) rfl dX5_remember_58 ?_
  obtain ⟨hi1, hF⟩ := zck_in hF
  refine zhld hx hb hK.1 hw.1 hi1 dX5_remember_61 ?_
  obtain ⟨u2, hq3, hF⟩ := zbd_t hF
  refine zgoV (w' := (zM ad k thrown now saved (hup hist kept.toNatClampNeg u2) kept reason detail isSaved comes queue far isInText ahead roomAt rooms text length at_ errorPosition toldFrom toldTo isWrong before)) hw hA [1, 11 + kept.toNatClampNeg] (zM_nowh (ad := ad) (k := k) (thrown := thrown) (now := now) (saved := saved) (hist := hist) (kept := kept) (reason := reason) (detail := detail) (isSaved := isSaved) (comes := comes) (queue := queue) (far := far) (isInText := isInText) (ahead := ahead) (roomAt := roomAt) (rooms := rooms) (text := text) (length := length) (at_ := at_) (errorPosition := errorPosition) (toldFrom := toldFrom) (toldTo := toldTo) (isWrong := isWrong) (before := before) (vp_lt hi1)).1 (zS (As := [.ref (ad 1), .ref (ad (11 + kept.toNatClampNeg))]) (rest := []) ⟨hx, hb, hml, hown, hts⟩ (mX5_copyRow l G k (ad 1) (ad (11 + kept.toNatClampNeg)) H.size now (hist kept.toNatClampNeg) u2 hq3) (va_cwS 2 hts gX5_remember_X5_copyRow rfl rfl rfl kdX5_copyRow ⟨Nat.le_of_ble_eq_true rfl, Nat.le_of_ble_eq_true rfl⟩) hK hA hw [1, 11 + kept.toNatClampNeg] (zM_nowh (ad := ad) (k := k) (thrown := thrown) (now := now) (saved := saved) (hist := hist) (kept := kept) (reason := reason) (detail := detail) (isSaved := isSaved) (comes := comes) (queue := queue) (far := far) (isInText := isInText) (ahead := ahead) (roomAt := roomAt) (rooms := rooms) (text := text) (length := length) (at_ := at_) (errorPosition := errorPosition) (toldFrom := toldFrom) (toldTo := toldTo) (isWrong := isWrong) (before := before) (vp_lt hi1)).1 (zM_nowh (ad := ad) (k := k) (thrown := thrown) (now := now) (saved := saved) (hist := hist) (kept := kept) (reason := reason) (detail := detail) (isSaved := isSaved) (comes := comes) (queue := queue) (far := far) (isInText := isInText) (ahead := ahead) (roomAt := roomAt) (rooms := rooms) (text := text) (length := length) (at_ := at_) (errorPosition := errorPosition) (toldFrom := toldFrom) (toldTo := toldTo) (isWrong := isWrong) (before := before) (vp_lt hi1)).2.1 rfl hl.1 rfl (Nat.le_of_ble_eq_true rfl) dX5_remember_62 ⟨Nat.le_of_ble_eq_true rfl, Nat.le_of_ble_eq_true rfl⟩) rfl ((zM_nowh (ad := ad) (k := k) (thrown := thrown) (now := now) (saved := saved) (hist := hist) (kept := kept) (reason := reason) (detail := detail) (isSaved := isSaved) (comes := comes) (queue := queue) (far := far) (isInText := isInText) (ahead := ahead) (roomAt := roomAt) (rooms := rooms) (text := text) (length := length) (at_ := at_) (errorPosition := errorPosition) (toldFrom := toldFrom) (toldTo := toldTo) (isWrong := isWrong) (before := before) (vp_lt hi1)).2.2.1 _) ((zM_nowh (ad := ad) (k := k) (thrown := thrown) (now := now) (saved := saved) (hist := hist) (kept := kept) (reason := reason) (detail := detail) (isSaved := isSaved) (comes := comes) (queue := queue) (far := far) (isInText := isInText) (ahead := ahead) (roomAt := roomAt) (rooms := rooms) (text := text) (length := length) (at_ := at_) (errorPosition := errorPosition) (toldFrom := toldFrom) (toldTo := toldTo) (isWrong := isWrong) (before := before) (vp_lt hi1)).2.2.2 _) (fun H locs hw => ?_)
  refine lv_aload_n hx hb dX5_remember_65 rfl (lv_at hl 0 rfl) ?_
  refine lv_dup hx hb dX5_remember_66 rfl ?_
  refine va_get (D := G) (ci := 4) (v := .int kept) (C := RX5) (T := TX5) (N := 23) hx hb hts inX5_remember_X5 hown hK.1 hw.1 0 rfl rfl 4 (by decide) (hts (.fieldLink RX5 60 "SealedBoardModel" "kept" "I") (by decide +kernel)) (fun _ h9 => h9) rfl dX5_remember_67 ?_
  refine lv_iconst (v := (1 : Int32)) hx hb dX5_remember_70 (by decide) ?_
  refine lv_iadd hx hb dX5_remember_71 ?_
  refine va_put (D := G) (ci := 4) (v := .int (kept + (1 : Int32))) (ty := .int) (C := RX5) (T := TX5) (N := 23) hx hb hts inX5_remember_X5 tyX5 tyX5_ok nmX5 hown hK.1 hw.1 hw.2.1 hw.2.2 0 rfl rfl 4 (by decide) (hts (.fieldLink RX5 60 "SealedBoardModel" "kept" "I") (by decide +kernel)) (fun _ h9 => h9) rfl (by decide +kernel) rfl rfl (Nat.le_of_ble_eq_true rfl) dX5_remember_72 (fun H locs hP hD hS => ?_)
  have hw : zWd G A s (zM ad k thrown now saved (hup hist kept.toNatClampNeg u2) (kept + (1 : Int32)) reason detail isSaved comes queue far isInText ahead roomAt rooms text length at_ errorPosition toldFrom toldTo isWrong before) H locs := ⟨hP, hD, hS⟩
  obtain rfl := Option.some.inj hF
  exact hret _ _ _ _  hw dX5_remember_75
set_option maxHeartbeats 400000 in
set_option maxRecDepth 100000 in
theorem wX5_remember_21 {p : Program} {l : Launch} {e : Env} {s : State} {m : MethodId} {args : Array Value} {below : List Frame} {meth : Method} {c : Code} {A : Nat → Prop} {Q : State → Prop} {G : va_G} {k : Nat → ClassId} {ad : Nat → Nat} {thrown : Int32} {now : Nat → Int32} {saved : Nat → Int32} {reason : Int32} {detail : Int32} {isSaved : Int32} {comes : Nat → Int32} {queue : Nat → Int32} {far : Nat → Int32} {isInText : Int32} {ahead : Nat → Int32} {roomAt : Nat → Int32} {rooms : Int32} {text : Nat → Int32} {length : Int32} {at_ : Int32} {errorPosition : Int32} {toldFrom : Int32} {toldTo : Int32} {isWrong : Int32} {before : Nat → Int32} {o : (Nat → Nat → Int32) × Int32} (C0 : zCx p s m args meth c wsX5_remember cX5_remember RX5 none 3) (hK : zKK G k A s s.heap) (hA : ∀ q : Nat, s.heap.size ≤ q → A q) (hret : zRV p l e rmX5_remember s m args below meth c cX5_remember G A 0 0 Q (zM ad k thrown now saved o.1 o.2 reason detail isSaved comes queue far isInText ahead roomAt rooms text length at_ errorPosition toldFrom toldTo isWrong before))  : ∀ (n : Nat) (hist : Nat → Nat → Int32) (kept : Int32) (x2 : Int32), fX5_remember_21  now n hist kept x2 = some o → ∀ (H : Heap) (locs : List Loc) (ls : Array Slot), zWd G A s (zM ad k thrown now saved hist kept reason detail isSaved comes queue far isInText ahead roomAt rooms text length at_ errorPosition toldFrom toldTo isWrong before) H locs → lv_has ls 3 [(0, .ref (ad 0)), (1, .ref (ad 1)), (2, .int x2)] → W p l e rmX5_remember s m args below meth c H locs 0 0 Q (F0 m 21 ls []) := by
  obtain ⟨hx, hb, hr, hml, hown, hts, hlocks⟩ := id C0
  intro n
  induction n with
  | zero => intro hist kept x2 hF; exact nomatch hF
  | succ n ih =>
    intro hist kept x2 hF H locs ls hw hl
    rw [fX5_remember_21] at hF
    refine lv_iload_n hx hb dX5_remember_21 rfl (lv_at hl 2 rfl) ?_
    refine lv_aload_n hx hb dX5_remember_22 rfl (lv_at hl 0 rfl) ?_
    refine va_get (D := G) (ci := 4) (v := .int kept) (C := RX5) (T := TX5) (N := 23) hx hb hts inX5_remember_X5 hown hK.1 hw.1 0 rfl rfl 4 (by decide) (hts (.fieldLink RX5 60 "SealedBoardModel" "kept" "I") (by decide +kernel)) (fun _ h9 => h9) rfl dX5_remember_23 ?_
    refine lv_icmp_ge (tgt := 52) hx hb dX5_remember_26 (by decide) (fun hc => ?_) (fun hc => ?_)
    · have hF := zif_t hc hF
      exact wX5_remember_52 C0 hK hA hret   _ _ hF _ _ _ hw (lv_sub hl [0, 1] rfl)
    · have hF := zif_f hc hF
      refine lv_aload_n hx hb dX5_remember_29 rfl (lv_at hl 0 rfl) ?_
      refine va_get (D := G) (ci := 4) (v := .ref (ad 3)) (C := RX5) (T := TX5) (N := 23) hx hb hts inX5_remember_X5 hown hK.1 hw.1 0 rfl rfl 3 (by decide) (hts (.fieldLink RX5 18 "SealedBoardModel" "history" "[[I") (by decide +kernel)) (fun _ h9 => h9) rfl dX5_remember_30 ?_
      refine lv_iload_n hx hb dX5_remember_33 rfl (lv_at hl 2 rfl) ?_
      refine lv_iconst (v := (1 : Int32)) hx hb dX5_remember_34 (by decide) ?_
      refine lv_iadd hx hb dX5_remember_35 ?_
      obtain ⟨hi1, hF⟩ := zck_in hF
      refine zhld hx hb hK.1 hw.1 hi1 dX5_remember_36 ?_
      refine lv_aload_n hx hb dX5_remember_37 rfl (lv_at hl 0 rfl) ?_
      refine va_get (D := G) (ci := 4) (v := .ref (ad 3)) (C := RX5) (T := TX5) (N := 23) hx hb hts inX5_remember_X5 hown hK.1 hw.1 0 rfl rfl 3 (by decide) (hts (.fieldLink RX5 18 "SealedBoardModel" "history" "[[I") (by decide +kernel)) (fun _ h9 => h9) rfl dX5_remember_38 ?_
      refine lv_iload_n hx hb dX5_remember_41 rfl (lv_at hl 2 rfl) ?_
      obtain ⟨hi2, hF⟩ := zck_in hF
      refine zhld hx hb hK.1 hw.1 hi2 dX5_remember_42 ?_
      obtain ⟨hn5, hF⟩ := zck_t hF
      obtain ⟨u3, hq4, hF⟩ := zbd_t hF
      refine zgoV (w' := (zM ad k thrown now saved (hup hist x2.toNatClampNeg u3) kept reason detail isSaved comes queue far isInText ahead roomAt rooms text length at_ errorPosition toldFrom toldTo isWrong before)) hw hA [11 + (x2 + (1 : Int32)).toNatClampNeg, 11 + x2.toNatClampNeg] (zM_hh (ad := ad) (k := k) (thrown := thrown) (now := now) (saved := saved) (hist := hist) (kept := kept) (reason := reason) (detail := detail) (isSaved := isSaved) (comes := comes) (queue := queue) (far := far) (isInText := isInText) (ahead := ahead) (roomAt := roomAt) (rooms := rooms) (text := text) (length := length) (at_ := at_) (errorPosition := errorPosition) (toldFrom := toldFrom) (toldTo := toldTo) (isWrong := isWrong) (before := before) (vp_lt hi1) (vp_lt hi2) (of_decide_eq_true hn5)).1 (zS (As := [.ref (ad (11 + (x2 + (1 : Int32)).toNatClampNeg)), .ref (ad (11 + x2.toNatClampNeg))]) (rest := []) ⟨hx, hb, hml, hown, hts⟩ (mX5_copyRow l G k (ad (11 + (x2 + (1 : Int32)).toNatClampNeg)) (ad (11 + x2.toNatClampNeg)) H.size (hist ((x2 + (1 : Int32)).toNatClampNeg)) (hist x2.toNatClampNeg) u3 hq4) (va_cwS 2 hts gX5_remember_X5_copyRow rfl rfl rfl kdX5_copyRow ⟨Nat.le_of_ble_eq_true rfl, Nat.le_of_ble_eq_true rfl⟩) hK hA hw [11 + (x2 + (1 : Int32)).toNatClampNeg, 11 + x2.toNatClampNeg] (zM_hh (ad := ad) (k := k) (thrown := thrown) (now := now) (saved := saved) (hist := hist) (kept := kept) (reason := reason) (detail := detail) (isSaved := isSaved) (comes := comes) (queue := queue) (far := far) (isInText := isInText) (ahead := ahead) (roomAt := roomAt) (rooms := rooms) (text := text) (length := length) (at_ := at_) (errorPosition := errorPosition) (toldFrom := toldFrom) (toldTo := toldTo) (isWrong := isWrong) (before := before) (vp_lt hi1) (vp_lt hi2) (of_decide_eq_true hn5)).1 (zM_hh (ad := ad) (k := k) (thrown := thrown) (now := now) (saved := saved) (hist := hist) (kept := kept) (reason := reason) (detail := detail) (isSaved := isSaved) (comes := comes) (queue := queue) (far := far) (isInText := isInText) (ahead := ahead) (roomAt := roomAt) (rooms := rooms) (text := text) (length := length) (at_ := at_) (errorPosition := errorPosition) (toldFrom := toldFrom) (toldTo := toldTo) (isWrong := isWrong) (before := before) (vp_lt hi1) (vp_lt hi2) (of_decide_eq_true hn5)).2.1 rfl hl.1 rfl (Nat.le_of_ble_eq_true rfl) dX5_remember_43 ⟨Nat.le_of_ble_eq_true rfl, Nat.le_of_ble_eq_true rfl⟩) rfl ((zM_hh (ad := ad) (k := k) (thrown := thrown) (now := now) (saved := saved) (hist := hist) (kept := kept) (reason := reason) (detail := detail) (isSaved := isSaved) (comes := comes) (queue := queue) (far := far) (isInText := isInText) (ahead := ahead) (roomAt := roomAt) (rooms := rooms) (text := text) (length := length) (at_ := at_) (errorPosition := errorPosition) (toldFrom := toldFrom) (toldTo := toldTo) (isWrong := isWrong) (before := before) (vp_lt hi1) (vp_lt hi2) (of_decide_eq_true hn5)).2.2.1 _) ((zM_hh (ad := ad) (k := k) (thrown := thrown) (now := now) (saved := saved) (hist := hist) (kept := kept) (reason := reason) (detail := detail) (isSaved := isSaved) (comes := comes) (queue := queue) (far := far) (isInText := isInText) (ahead := ahead) (roomAt := roomAt) (rooms := rooms) (text := text) (length := length) (at_ := at_) (errorPosition := errorPosition) (toldFrom := toldFrom) (toldTo := toldTo) (isWrong := isWrong) (before := before) (vp_lt hi1) (vp_lt hi2) (of_decide_eq_true hn5)).2.2.2 _) (fun H locs hw => ?_)
      obtain ⟨a6, ea6⟩ : ∃ z : Int32, z = x2 + (1 : Int32) := ⟨_, rfl⟩
      have hF := zbn_t ea6 hF
      refine lv_iinc (v := a6) (lv' := [(2, .int a6), (0, .ref (ad 0)), (1, .ref (ad 1))]) hx hb dX5_remember_46 hl (k := 2) rfl (by rw [ea6]; rfl) (by decide) rfl (fun ls hl => ?_)
      refine lv_goto (tgt := 21) hx hb dX5_remember_49 (by decide) ?_
      exact ih _ _ _ hF _ _ _ hw (lv_sub hl [1, 2, 0] rfl)
set_option maxHeartbeats 400000 in
set_option maxRecDepth 100000 in
theorem mX5_remember (l : Launch) (G : va_G) (k : Nat → ClassId) (ad : Nat → Nat) (sz : Nat) (thrown : Int32) (now : Nat → Int32) (saved : Nat → Int32) (hist : Nat → Nat → Int32) (kept : Int32) (reason : Int32) (detail : Int32) (isSaved : Int32) (comes : Nat → Int32) (queue : Nat → Int32) (far : Nat → Int32) (isInText : Int32) (ahead : Nat → Int32) (roomAt : Nat → Int32) (rooms : Int32) (text : Nat → Int32) (length : Int32) (at_ : Int32) (errorPosition : Int32) (toldFrom : Int32) (toldTo : Int32) (isWrong : Int32) (before : Nat → Int32)  (o : (Nat → Nat → Int32) × Int32) (hF : fX5_remember now hist kept = some o) : zMV l yX5_remember wsX5_remember rmX5_remember G k (zM ad k thrown now saved hist kept reason detail isSaved comes queue far isInText ahead roomAt rooms text length at_ errorPosition toldFrom toldTo isWrong before) sz [.ref (ad 0), .ref (ad 1)] (zM ad k thrown now saved o.1 o.2 reason detail isSaved comes queue far isInText ahead roomAt rooms text length at_ errorPosition toldFrom toldTo isWrong before) := by
  refine zof_V (cc := cX5_remember) (nL := 3) (own := RX5) (by decide) rfl rfl (Nat.le_of_ble_eq_true rfl) ?_
  intro p e s m args below meth c A Q C0 hK hA hret ls hl hw
  have hl : lv_has ls 3 [(0, .ref (ad 0)), (1, .ref (ad 1))] := hl
  obtain ⟨hx, hb, hr, hml, hown, hts, hlocks⟩ := id C0
  obtain ⟨H, hH⟩ : ∃ z, z = s.heap := ⟨_, rfl⟩
  rw [← hH] at hw ⊢
  unfold fX5_remember at hF
  refine lv_aload_n hx hb dX5_remember_0 rfl (lv_at hl 0 rfl) ?_
  refine va_get (D := G) (ci := 4) (v := .int kept) (C := RX5) (T := TX5) (N := 23) hx hb hts inX5_remember_X5 hown hK.1 hw.1 0 rfl rfl 4 (by decide) (hts (.fieldLink RX5 60 "SealedBoardModel" "kept" "I") (by decide +kernel)) (fun _ h9 => h9) rfl dX5_remember_1 ?_
  refine lv_bipush (v := (6 : Int32)) hx hb dX5_remember_4 (by decide) ?_
  refine lv_icmp_ne (tgt := 52) hx hb dX5_remember_6 (by decide) (fun hc => ?_) (fun hc => ?_)
  · have hF := zif_f hc hF
    exact wX5_remember_52 C0 hK hA hret   _ _ hF _ _ _ hw (lv_sub hl [0, 1] rfl)
  · have hF := zif_t hc hF
    refine lv_aload_n hx hb dX5_remember_9 rfl (lv_at hl 0 rfl) ?_
    refine lv_dup hx hb dX5_remember_10 rfl ?_
    refine va_get (D := G) (ci := 4) (v := .int kept) (C := RX5) (T := TX5) (N := 23) hx hb hts inX5_remember_X5 hown hK.1 hw.1 0 rfl rfl 4 (by decide) (hts (.fieldLink RX5 60 "SealedBoardModel" "kept" "I") (by decide +kernel)) (fun _ h9 => h9) rfl dX5_remember_11 ?_
    refine lv_iconst (v := (1 : Int32)) hx hb dX5_remember_14 (by decide) ?_
    refine lv_isub hx hb dX5_remember_15 ?_
    refine va_put (D := G) (ci := 4) (v := .int (kept - (1 : Int32))) (ty := .int) (C := RX5) (T := TX5) (N := 23) hx hb hts inX5_remember_X5 tyX5 tyX5_ok nmX5 hown hK.1 hw.1 hw.2.1 hw.2.2 0 rfl rfl 4 (by decide) (hts (.fieldLink RX5 60 "SealedBoardModel" "kept" "I") (by decide +kernel)) (fun _ h9 => h9) rfl (by decide +kernel) rfl rfl (Nat.le_of_ble_eq_true rfl) dX5_remember_16 (fun H locs hP hD hS => ?_)
    have hw : zWd G A s (zM ad k thrown now saved hist (kept - (1 : Int32)) reason detail isSaved comes queue far isInText ahead roomAt rooms text length at_ errorPosition toldFrom toldTo isWrong before) H locs := ⟨hP, hD, hS⟩
    refine lv_iconst (v := (0 : Int32)) hx hb dX5_remember_19 (by decide) ?_
    refine lv_istore_n (lv' := [(2, .int (0 : Int32)), (0, .ref (ad 0)), (1, .ref (ad 1))]) hx hb dX5_remember_20 rfl hl (by decide) rfl (fun ls hl => ?_)
    exact wX5_remember_21 C0 hK hA hret  zFu _ _ _ hF _ _ _ hw (lv_sub hl [1, 2, 0] rfl)

/-! SealedBoardModel.remember([I)V -/
abbrev rmX5_remember_vbefore : Room := { frames := 1, cells := 0, slots := 0, locals := 22 }
def fX5_remember_vbefore_52  (before : Nat → Int32) (hist : Nat → Nat → Int32) (kept : Int32) : Option ((Nat → Nat → Int32) × Int32) := (zck (zin kept 6) (zbd (fX5_copyRow before (hist kept.toNatClampNeg)) (fun u2 => (some ((hup hist kept.toNatClampNeg u2), (kept + (1 : Int32)))))))
def fX5_remember_vbefore_21  (before : Nat → Int32) : Nat → (Nat → Nat → Int32) → Int32 → Int32 → Option ((Nat → Nat → Int32) × Int32)
  | 0, _, _, _ => none
  | n + 1, hist, kept, x2 => (if kept ≤ x2 then (fX5_remember_vbefore_52  before  hist kept) else (zck (zin (x2 + (1 : Int32)) 6) (zck (zin x2 6) (zck (decide ((x2 + (1 : Int32)).toNatClampNeg ≠ x2.toNatClampNeg)) (zbd (fX5_copyRow (hist ((x2 + (1 : Int32)).toNatClampNeg)) (hist x2.toNatClampNeg)) (fun u3 => (zbn (x2 + (1 : Int32)) (fun a6 => (fX5_remember_vbefore_21  before n (hup hist x2.toNatClampNeg u3) kept a6)))))))))
def fX5_remember_vbefore (hist : Nat → Nat → Int32) (kept : Int32) (before : Nat → Int32) : Option ((Nat → Nat → Int32) × Int32) := (if kept = (6 : Int32) then (fX5_remember_vbefore_21  before zFu hist (kept - (1 : Int32)) (0 : Int32)) else (fX5_remember_vbefore_52  before  hist kept))
set_option maxHeartbeats 400000 in
set_option maxRecDepth 100000 in
theorem wX5_remember_vbefore_52 {p : Program} {l : Launch} {e : Env} {s : State} {m : MethodId} {args : Array Value} {below : List Frame} {meth : Method} {c : Code} {A : Nat → Prop} {Q : State → Prop} {G : va_G} {k : Nat → ClassId} {ad : Nat → Nat} {thrown : Int32} {now : Nat → Int32} {saved : Nat → Int32} {reason : Int32} {detail : Int32} {isSaved : Int32} {comes : Nat → Int32} {queue : Nat → Int32} {far : Nat → Int32} {isInText : Int32} {ahead : Nat → Int32} {roomAt : Nat → Int32} {rooms : Int32} {text : Nat → Int32} {length : Int32} {at_ : Int32} {errorPosition : Int32} {toldFrom : Int32} {toldTo : Int32} {isWrong : Int32} {before : Nat → Int32} {o : (Nat → Nat → Int32) × Int32} (C0 : zCx p s m args meth c wsX5_remember cX5_remember RX5 none 3) (hK : zKK G k A s s.heap) (hA : ∀ q : Nat, s.heap.size ≤ q → A q) (hret : zRV p l e rmX5_remember_vbefore s m args below meth c cX5_remember G A 0 0 Q (zM ad k thrown now saved o.1 o.2 reason detail isSaved comes queue far isInText ahead roomAt rooms text length at_ errorPosition toldFrom toldTo isWrong before))  : ∀ (hist : Nat → Nat → Int32) (kept : Int32), fX5_remember_vbefore_52  before hist kept = some o → ∀ (H : Heap) (locs : List Loc) (ls : Array Slot), zWd G A s (zM ad k thrown now saved hist kept reason detail isSaved comes queue far isInText ahead roomAt rooms text length at_ errorPosition toldFrom toldTo isWrong before) H locs → lv_has ls 3 [(0, .ref (ad 0)), (1, .ref (ad 10))] → W p l e rmX5_remember_vbefore s m args below meth c H locs 0 0 Q (F0 m 52 ls []) := by
  obtain ⟨hx, hb, hr, hml, hown, hts, hlocks⟩ := id C0
  intro hist kept hF H locs ls hw hl
  unfold fX5_remember_vbefore_52 at hF
  refine lv_aload_n hx hb dX5_remember_52 rfl (lv_at hl 1 rfl) ?_
  refine lv_aload_n hx hb dX5_remember_53 rfl (lv_at hl 0 rfl) ?_
  refine va_get (D := G) (ci := 4) (v := .ref (ad 3)) (C := RX5) (T := TX5) (N := 23) hx hb hts inX5_remember_X5 hown hK.1 hw.1 0 rfl rfl 3 (by decide) (hts (.fieldLink RX5 18 "SealedBoardModel" "history" "[[I") (by decide +kernel)) (fun _ h9 => h9) rfl dX5_remember_54 ?_
  refine lv_aload_n hx hb dX5_remember_57 rfl (lv_at hl 0 rfl) ?_
  refine va_get (D := G) (ci := 4) (v := .int kept) (C := RX5) (T := TX5) (N := 23) hx hb hts inX5_remember_X5 hown hK.1 hw.1 0 rfl rfl 4 (by decide) (hts (.fieldLink RX5 60 "SealedBoardModel" "kept" "I") (by decide +kernel)) (fun _ h9 => h9) rfl dX5_remember_58 ?_
  obtain ⟨hi1, hF⟩ := zck_in hF
  refine zhld hx hb hK.1 hw.1 hi1 dX5_remember_61 ?_
  obtain ⟨u2, hq3, hF⟩ := zbd_t hF
  refine zgoV (w' := (zM ad k thrown now saved (hup hist kept.toNatClampNeg u2) kept reason detail isSaved comes queue far isInText ahead roomAt rooms text length at_ errorPosition toldFrom toldTo isWrong before)) hw hA [10, 11 + kept.toNatClampNeg] (zM_beforeh (ad := ad) (k := k) (thrown := thrown) (now := now) (saved := saved) (hist := hist) (kept := kept) (reason := reason) (detail := detail) (isSaved := isSaved) (comes := comes) (queue := queue) (far := far) (isInText := isInText) (ahead := ahead) (roomAt := roomAt) (rooms := rooms) (text := text) (length := length) (at_ := at_) (errorPosition := errorPosition) (toldFrom := toldFrom) (toldTo := toldTo) (isWrong := isWrong) (before := before) (vp_lt hi1)).1 (zS (As := [.ref (ad 10), .ref (ad (11 + kept.toNatClampNeg))]) (rest := []) ⟨hx, hb, hml, hown, hts⟩ (mX5_copyRow l G k (ad 10) (ad (11 + kept.toNatClampNeg)) H.size before (hist kept.toNatClampNeg) u2 hq3) (va_cwS 2 hts gX5_remember_X5_copyRow rfl rfl rfl kdX5_copyRow ⟨Nat.le_of_ble_eq_true rfl, Nat.le_of_ble_eq_true rfl⟩) hK hA hw [10, 11 + kept.toNatClampNeg] (zM_beforeh (ad := ad) (k := k) (thrown := thrown) (now := now) (saved := saved) (hist := hist) (kept := kept) (reason := reason) (detail := detail) (isSaved := isSaved) (comes := comes) (queue := queue) (far := far) (isInText := isInText) (ahead := ahead) (roomAt := roomAt) (rooms := rooms) (text := text) (length := length) (at_ := at_) (errorPosition := errorPosition) (toldFrom := toldFrom) (toldTo := toldTo) (isWrong := isWrong) (before := before) (vp_lt hi1)).1 (zM_beforeh (ad := ad) (k := k) (thrown := thrown) (now := now) (saved := saved) (hist := hist) (kept := kept) (reason := reason) (detail := detail) (isSaved := isSaved) (comes := comes) (queue := queue) (far := far) (isInText := isInText) (ahead := ahead) (roomAt := roomAt) (rooms := rooms) (text := text) (length := length) (at_ := at_) (errorPosition := errorPosition) (toldFrom := toldFrom) (toldTo := toldTo) (isWrong := isWrong) (before := before) (vp_lt hi1)).2.1 rfl hl.1 rfl (Nat.le_of_ble_eq_true rfl) dX5_remember_62 ⟨Nat.le_of_ble_eq_true rfl, Nat.le_of_ble_eq_true rfl⟩) rfl ((zM_beforeh (ad := ad) (k := k) (thrown := thrown) (now := now) (saved := saved) (hist := hist) (kept := kept) (reason := reason) (detail := detail) (isSaved := isSaved) (comes := comes) (queue := queue) (far := far) (isInText := isInText) (ahead := ahead) (roomAt := roomAt) (rooms := rooms) (text := text) (length := length) (at_ := at_) (errorPosition := errorPosition) (toldFrom := toldFrom) (toldTo := toldTo) (isWrong := isWrong) (before := before) (vp_lt hi1)).2.2.1 _) ((zM_beforeh (ad := ad) (k := k) (thrown := thrown) (now := now) (saved := saved) (hist := hist) (kept := kept) (reason := reason) (detail := detail) (isSaved := isSaved) (comes := comes) (queue := queue) (far := far) (isInText := isInText) (ahead := ahead) (roomAt := roomAt) (rooms := rooms) (text := text) (length := length) (at_ := at_) (errorPosition := errorPosition) (toldFrom := toldFrom) (toldTo := toldTo) (isWrong := isWrong) (before := before) (vp_lt hi1)).2.2.2 _) (fun H locs hw => ?_)
  refine lv_aload_n hx hb dX5_remember_65 rfl (lv_at hl 0 rfl) ?_
  refine lv_dup hx hb dX5_remember_66 rfl ?_
  refine va_get (D := G) (ci := 4) (v := .int kept) (C := RX5) (T := TX5) (N := 23) hx hb hts inX5_remember_X5 hown hK.1 hw.1 0 rfl rfl 4 (by decide) (hts (.fieldLink RX5 60 "SealedBoardModel" "kept" "I") (by decide +kernel)) (fun _ h9 => h9) rfl dX5_remember_67 ?_
  refine lv_iconst (v := (1 : Int32)) hx hb dX5_remember_70 (by decide) ?_
  refine lv_iadd hx hb dX5_remember_71 ?_
  refine va_put (D := G) (ci := 4) (v := .int (kept + (1 : Int32))) (ty := .int) (C := RX5) (T := TX5) (N := 23) hx hb hts inX5_remember_X5 tyX5 tyX5_ok nmX5 hown hK.1 hw.1 hw.2.1 hw.2.2 0 rfl rfl 4 (by decide) (hts (.fieldLink RX5 60 "SealedBoardModel" "kept" "I") (by decide +kernel)) (fun _ h9 => h9) rfl (by decide +kernel) rfl rfl (Nat.le_of_ble_eq_true rfl) dX5_remember_72 (fun H locs hP hD hS => ?_)
  have hw : zWd G A s (zM ad k thrown now saved (hup hist kept.toNatClampNeg u2) (kept + (1 : Int32)) reason detail isSaved comes queue far isInText ahead roomAt rooms text length at_ errorPosition toldFrom toldTo isWrong before) H locs := ⟨hP, hD, hS⟩
  obtain rfl := Option.some.inj hF
  exact hret _ _ _ _  hw dX5_remember_75
set_option maxHeartbeats 400000 in
set_option maxRecDepth 100000 in
theorem wX5_remember_vbefore_21 {p : Program} {l : Launch} {e : Env} {s : State} {m : MethodId} {args : Array Value} {below : List Frame} {meth : Method} {c : Code} {A : Nat → Prop} {Q : State → Prop} {G : va_G} {k : Nat → ClassId} {ad : Nat → Nat} {thrown : Int32} {now : Nat → Int32} {saved : Nat → Int32} {reason : Int32} {detail : Int32} {isSaved : Int32} {comes : Nat → Int32} {queue : Nat → Int32} {far : Nat → Int32} {isInText : Int32} {ahead : Nat → Int32} {roomAt : Nat → Int32} {rooms : Int32} {text : Nat → Int32} {length : Int32} {at_ : Int32} {errorPosition : Int32} {toldFrom : Int32} {toldTo : Int32} {isWrong : Int32} {before : Nat → Int32} {o : (Nat → Nat → Int32) × Int32} (C0 : zCx p s m args meth c wsX5_remember cX5_remember RX5 none 3) (hK : zKK G k A s s.heap) (hA : ∀ q : Nat, s.heap.size ≤ q → A q) (hret : zRV p l e rmX5_remember_vbefore s m args below meth c cX5_remember G A 0 0 Q (zM ad k thrown now saved o.1 o.2 reason detail isSaved comes queue far isInText ahead roomAt rooms text length at_ errorPosition toldFrom toldTo isWrong before))  : ∀ (n : Nat) (hist : Nat → Nat → Int32) (kept : Int32) (x2 : Int32), fX5_remember_vbefore_21  before n hist kept x2 = some o → ∀ (H : Heap) (locs : List Loc) (ls : Array Slot), zWd G A s (zM ad k thrown now saved hist kept reason detail isSaved comes queue far isInText ahead roomAt rooms text length at_ errorPosition toldFrom toldTo isWrong before) H locs → lv_has ls 3 [(0, .ref (ad 0)), (1, .ref (ad 10)), (2, .int x2)] → W p l e rmX5_remember_vbefore s m args below meth c H locs 0 0 Q (F0 m 21 ls []) := by
  obtain ⟨hx, hb, hr, hml, hown, hts, hlocks⟩ := id C0
  intro n
  induction n with
  | zero => intro hist kept x2 hF; exact nomatch hF
  | succ n ih =>
    intro hist kept x2 hF H locs ls hw hl
    rw [fX5_remember_vbefore_21] at hF
    refine lv_iload_n hx hb dX5_remember_21 rfl (lv_at hl 2 rfl) ?_
    refine lv_aload_n hx hb dX5_remember_22 rfl (lv_at hl 0 rfl) ?_
    refine va_get (D := G) (ci := 4) (v := .int kept) (C := RX5) (T := TX5) (N := 23) hx hb hts inX5_remember_X5 hown hK.1 hw.1 0 rfl rfl 4 (by decide) (hts (.fieldLink RX5 60 "SealedBoardModel" "kept" "I") (by decide +kernel)) (fun _ h9 => h9) rfl dX5_remember_23 ?_
    refine lv_icmp_ge (tgt := 52) hx hb dX5_remember_26 (by decide) (fun hc => ?_) (fun hc => ?_)
    · have hF := zif_t hc hF
      exact wX5_remember_vbefore_52 C0 hK hA hret   _ _ hF _ _ _ hw (lv_sub hl [0, 1] rfl)
    · have hF := zif_f hc hF
      refine lv_aload_n hx hb dX5_remember_29 rfl (lv_at hl 0 rfl) ?_
      refine va_get (D := G) (ci := 4) (v := .ref (ad 3)) (C := RX5) (T := TX5) (N := 23) hx hb hts inX5_remember_X5 hown hK.1 hw.1 0 rfl rfl 3 (by decide) (hts (.fieldLink RX5 18 "SealedBoardModel" "history" "[[I") (by decide +kernel)) (fun _ h9 => h9) rfl dX5_remember_30 ?_
      refine lv_iload_n hx hb dX5_remember_33 rfl (lv_at hl 2 rfl) ?_
      refine lv_iconst (v := (1 : Int32)) hx hb dX5_remember_34 (by decide) ?_
      refine lv_iadd hx hb dX5_remember_35 ?_
      obtain ⟨hi1, hF⟩ := zck_in hF
      refine zhld hx hb hK.1 hw.1 hi1 dX5_remember_36 ?_
      refine lv_aload_n hx hb dX5_remember_37 rfl (lv_at hl 0 rfl) ?_
      refine va_get (D := G) (ci := 4) (v := .ref (ad 3)) (C := RX5) (T := TX5) (N := 23) hx hb hts inX5_remember_X5 hown hK.1 hw.1 0 rfl rfl 3 (by decide) (hts (.fieldLink RX5 18 "SealedBoardModel" "history" "[[I") (by decide +kernel)) (fun _ h9 => h9) rfl dX5_remember_38 ?_
      refine lv_iload_n hx hb dX5_remember_41 rfl (lv_at hl 2 rfl) ?_
      obtain ⟨hi2, hF⟩ := zck_in hF
      refine zhld hx hb hK.1 hw.1 hi2 dX5_remember_42 ?_
      obtain ⟨hn5, hF⟩ := zck_t hF
      obtain ⟨u3, hq4, hF⟩ := zbd_t hF
      refine zgoV (w' := (zM ad k thrown now saved (hup hist x2.toNatClampNeg u3) kept reason detail isSaved comes queue far isInText ahead roomAt rooms text length at_ errorPosition toldFrom toldTo isWrong before)) hw hA [11 + (x2 + (1 : Int32)).toNatClampNeg, 11 + x2.toNatClampNeg] (zM_hh (ad := ad) (k := k) (thrown := thrown) (now := now) (saved := saved) (hist := hist) (kept := kept) (reason := reason) (detail := detail) (isSaved := isSaved) (comes := comes) (queue := queue) (far := far) (isInText := isInText) (ahead := ahead) (roomAt := roomAt) (rooms := rooms) (text := text) (length := length) (at_ := at_) (errorPosition := errorPosition) (toldFrom := toldFrom) (toldTo := toldTo) (isWrong := isWrong) (before := before) (vp_lt hi1) (vp_lt hi2) (of_decide_eq_true hn5)).1 (zS (As := [.ref (ad (11 + (x2 + (1 : Int32)).toNatClampNeg)), .ref (ad (11 + x2.toNatClampNeg))]) (rest := []) ⟨hx, hb, hml, hown, hts⟩ (mX5_copyRow l G k (ad (11 + (x2 + (1 : Int32)).toNatClampNeg)) (ad (11 + x2.toNatClampNeg)) H.size (hist ((x2 + (1 : Int32)).toNatClampNeg)) (hist x2.toNatClampNeg) u3 hq4) (va_cwS 2 hts gX5_remember_X5_copyRow rfl rfl rfl kdX5_copyRow ⟨Nat.le_of_ble_eq_true rfl, Nat.le_of_ble_eq_true rfl⟩) hK hA hw [11 + (x2 + (1 : Int32)).toNatClampNeg, 11 + x2.toNatClampNeg] (zM_hh (ad := ad) (k := k) (thrown := thrown) (now := now) (saved := saved) (hist := hist) (kept := kept) (reason := reason) (detail := detail) (isSaved := isSaved) (comes := comes) (queue := queue) (far := far) (isInText := isInText) (ahead := ahead) (roomAt := roomAt) (rooms := rooms) (text := text) (length := length) (at_ := at_) (errorPosition := errorPosition) (toldFrom := toldFrom) (toldTo := toldTo) (isWrong := isWrong) (before := before) (vp_lt hi1) (vp_lt hi2) (of_decide_eq_true hn5)).1 (zM_hh (ad := ad) (k := k) (thrown := thrown) (now := now) (saved := saved) (hist := hist) (kept := kept) (reason := reason) (detail := detail) (isSaved := isSaved) (comes := comes) (queue := queue) (far := far) (isInText := isInText) (ahead := ahead) (roomAt := roomAt) (rooms := rooms) (text := text) (length := length) (at_ := at_) (errorPosition := errorPosition) (toldFrom := toldFrom) (toldTo := toldTo) (isWrong := isWrong) (before := before) (vp_lt hi1) (vp_lt hi2) (of_decide_eq_true hn5)).2.1 rfl hl.1 rfl (Nat.le_of_ble_eq_true rfl) dX5_remember_43 ⟨Nat.le_of_ble_eq_true rfl, Nat.le_of_ble_eq_true rfl⟩) rfl ((zM_hh (ad := ad) (k := k) (thrown := thrown) (now := now) (saved := saved) (hist := hist) (kept := kept) (reason := reason) (detail := detail) (isSaved := isSaved) (comes := comes) (queue := queue) (far := far) (isInText := isInText) (ahead := ahead) (roomAt := roomAt) (rooms := rooms) (text := text) (length := length) (at_ := at_) (errorPosition := errorPosition) (toldFrom := toldFrom) (toldTo := toldTo) (isWrong := isWrong) (before := before) (vp_lt hi1) (vp_lt hi2) (of_decide_eq_true hn5)).2.2.1 _) ((zM_hh (ad := ad) (k := k) (thrown := thrown) (now := now) (saved := saved) (hist := hist) (kept := kept) (reason := reason) (detail := detail) (isSaved := isSaved) (comes := comes) (queue := queue) (far := far) (isInText := isInText) (ahead := ahead) (roomAt := roomAt) (rooms := rooms) (text := text) (length := length) (at_ := at_) (errorPosition := errorPosition) (toldFrom := toldFrom) (toldTo := toldTo) (isWrong := isWrong) (before := before) (vp_lt hi1) (vp_lt hi2) (of_decide_eq_true hn5)).2.2.2 _) (fun H locs hw => ?_)
      obtain ⟨a6, ea6⟩ : ∃ z : Int32, z = x2 + (1 : Int32) := ⟨_, rfl⟩
      have hF := zbn_t ea6 hF
      refine lv_iinc (v := a6) (lv' := [(2, .int a6), (0, .ref (ad 0)), (1, .ref (ad 10))]) hx hb dX5_remember_46 hl (k := 2) rfl (by rw [ea6]; rfl) (by decide) rfl (fun ls hl => ?_)
      refine lv_goto (tgt := 21) hx hb dX5_remember_49 (by decide) ?_
      exact ih _ _ _ hF _ _ _ hw (lv_sub hl [1, 2, 0] rfl)
set_option maxHeartbeats 400000 in
set_option maxRecDepth 100000 in
theorem mX5_remember_vbefore (l : Launch) (G : va_G) (k : Nat → ClassId) (ad : Nat → Nat) (sz : Nat) (thrown : Int32) (now : Nat → Int32) (saved : Nat → Int32) (hist : Nat → Nat → Int32) (kept : Int32) (reason : Int32) (detail : Int32) (isSaved : Int32) (comes : Nat → Int32) (queue : Nat → Int32) (far : Nat → Int32) (isInText : Int32) (ahead : Nat → Int32) (roomAt : Nat → Int32) (rooms : Int32) (text : Nat → Int32) (length : Int32) (at_ : Int32) (errorPosition : Int32) (toldFrom : Int32) (toldTo : Int32) (isWrong : Int32) (before : Nat → Int32)  (o : (Nat → Nat → Int32) × Int32) (hF : fX5_remember_vbefore hist kept before = some o) : zMV l yX5_remember wsX5_remember rmX5_remember_vbefore G k (zM ad k thrown now saved hist kept reason detail isSaved comes queue far isInText ahead roomAt rooms text length at_ errorPosition toldFrom toldTo isWrong before) sz [.ref (ad 0), .ref (ad 10)] (zM ad k thrown now saved o.1 o.2 reason detail isSaved comes queue far isInText ahead roomAt rooms text length at_ errorPosition toldFrom toldTo isWrong before) := by
  refine zof_V (cc := cX5_remember) (nL := 3) (own := RX5) (by decide) rfl rfl (Nat.le_of_ble_eq_true rfl) ?_
  intro p e s m args below meth c A Q C0 hK hA hret ls hl hw
  have hl : lv_has ls 3 [(0, .ref (ad 0)), (1, .ref (ad 10))] := hl
  obtain ⟨hx, hb, hr, hml, hown, hts, hlocks⟩ := id C0
  obtain ⟨H, hH⟩ : ∃ z, z = s.heap := ⟨_, rfl⟩
  rw [← hH] at hw ⊢
  unfold fX5_remember_vbefore at hF
  refine lv_aload_n hx hb dX5_remember_0 rfl (lv_at hl 0 rfl) ?_
  refine va_get (D := G) (ci := 4) (v := .int kept) (C := RX5) (T := TX5) (N := 23) hx hb hts inX5_remember_X5 hown hK.1 hw.1 0 rfl rfl 4 (by decide) (hts (.fieldLink RX5 60 "SealedBoardModel" "kept" "I") (by decide +kernel)) (fun _ h9 => h9) rfl dX5_remember_1 ?_
  refine lv_bipush (v := (6 : Int32)) hx hb dX5_remember_4 (by decide) ?_
  refine lv_icmp_ne (tgt := 52) hx hb dX5_remember_6 (by decide) (fun hc => ?_) (fun hc => ?_)
  · have hF := zif_f hc hF
    exact wX5_remember_vbefore_52 C0 hK hA hret   _ _ hF _ _ _ hw (lv_sub hl [0, 1] rfl)
  · have hF := zif_t hc hF
    refine lv_aload_n hx hb dX5_remember_9 rfl (lv_at hl 0 rfl) ?_
    refine lv_dup hx hb dX5_remember_10 rfl ?_
    refine va_get (D := G) (ci := 4) (v := .int kept) (C := RX5) (T := TX5) (N := 23) hx hb hts inX5_remember_X5 hown hK.1 hw.1 0 rfl rfl 4 (by decide) (hts (.fieldLink RX5 60 "SealedBoardModel" "kept" "I") (by decide +kernel)) (fun _ h9 => h9) rfl dX5_remember_11 ?_
    refine lv_iconst (v := (1 : Int32)) hx hb dX5_remember_14 (by decide) ?_
    refine lv_isub hx hb dX5_remember_15 ?_
    refine va_put (D := G) (ci := 4) (v := .int (kept - (1 : Int32))) (ty := .int) (C := RX5) (T := TX5) (N := 23) hx hb hts inX5_remember_X5 tyX5 tyX5_ok nmX5 hown hK.1 hw.1 hw.2.1 hw.2.2 0 rfl rfl 4 (by decide) (hts (.fieldLink RX5 60 "SealedBoardModel" "kept" "I") (by decide +kernel)) (fun _ h9 => h9) rfl (by decide +kernel) rfl rfl (Nat.le_of_ble_eq_true rfl) dX5_remember_16 (fun H locs hP hD hS => ?_)
    have hw : zWd G A s (zM ad k thrown now saved hist (kept - (1 : Int32)) reason detail isSaved comes queue far isInText ahead roomAt rooms text length at_ errorPosition toldFrom toldTo isWrong before) H locs := ⟨hP, hD, hS⟩
    refine lv_iconst (v := (0 : Int32)) hx hb dX5_remember_19 (by decide) ?_
    refine lv_istore_n (lv' := [(2, .int (0 : Int32)), (0, .ref (ad 0)), (1, .ref (ad 10))]) hx hb dX5_remember_20 rfl hl (by decide) rfl (fun ls hl => ?_)
    exact wX5_remember_vbefore_21 C0 hK hA hret  zFu _ _ _ hF _ _ _ hw (lv_sub hl [1, 2, 0] rfl)

/-! SealedBoardModel.isSquare(I)Z -/
abbrev rmX5_isSquare : Room := { frames := 1, cells := 0, slots := 0, locals := 22 }
theorem kdX5_isSquare : yX5_isSquare.cls ≠ "java/lang/invoke/MethodHandle" ∧ yX5_isSquare.cls ≠ "java/lang/invoke/VarHandle" ∧ (parseMethodDescriptor yX5_isSquare.desc).map (fun d => d.parameters.length) = some 1 := by decide +kernel
def fX5_isSquare (p0 : Int32) : Option (Int32) := (zbd (fX5_isBetween p0 (0 : Int32) (35 : Int32)) (fun u1 => (zck (zbo u1) (some (u1)))))
set_option maxHeartbeats 400000 in
set_option maxRecDepth 100000 in
theorem mX5_isSquare (l : Launch) (G : va_G) (k : Nat → ClassId)  (sz : Nat)  (p0 : Int32) (o : Int32) (hF : fX5_isSquare p0 = some o) : zMI l yX5_isSquare wsX5_isSquare rmX5_isSquare G k (zE0 k) sz [.int p0] o (zE0 k) := by
  refine zof_I (cc := cX5_isSquare) (nL := 1) (own := RX5) (rt := .boolean) (by decide) rfl rfl (Nat.le_of_ble_eq_true rfl) ?_
  intro p e s m args below meth c A Q C0 hK hA hret ls hl hw
  have hl : lv_has ls 1 [(0, .int p0)] := hl
  obtain ⟨hx, hb, hr, hml, hown, hts, hlocks⟩ := id C0
  obtain ⟨H, hH⟩ : ∃ z, z = s.heap := ⟨_, rfl⟩
  rw [← hH] at hw ⊢
  unfold fX5_isSquare at hF
  refine lv_iload_n hx hb dX5_isSquare_0 rfl (lv_at hl 0 rfl) ?_
  refine lv_iconst (v := (0 : Int32)) hx hb dX5_isSquare_1 (by decide) ?_
  refine lv_bipush (v := (35 : Int32)) hx hb dX5_isSquare_2 (by decide) ?_
  obtain ⟨u1, hq2, hF⟩ := zbd_t hF
  refine zgoI (w' := (zE0 k)) hw hA [] rfl (zS (As := [.int p0, .int (0 : Int32), .int (35 : Int32)]) (rest := []) ⟨hx, hb, hml, hown, hts⟩ (mX5_isBetween l G k  H.size  p0 (0 : Int32) (35 : Int32) u1 hq2) (va_cwS 3 hts gX5_isSquare_X5_isBetween rfl rfl rfl kdX5_isBetween ⟨Nat.le_of_ble_eq_true rfl, Nat.le_of_ble_eq_true rfl⟩) hK hA hw [] rfl (by decide) rfl hl.1 rfl (Nat.le_of_ble_eq_true rfl) dX5_isSquare_4 ⟨Nat.le_of_ble_eq_true rfl, Nat.le_of_ble_eq_true rfl⟩) rfl rfl rfl (fun H locs hw => ?_)
  obtain ⟨hz3, hF⟩ := zck_t hF
  obtain rfl := Option.some.inj hF
  exact hret _ _ _ _ (zbo_n hz3) hw dX5_isSquare_7

/-! SealedBoardModel.isSide(I)Z -/
abbrev rmX5_isSide : Room := { frames := 1, cells := 0, slots := 0, locals := 22 }
theorem kdX5_isSide : yX5_isSide.cls ≠ "java/lang/invoke/MethodHandle" ∧ yX5_isSide.cls ≠ "java/lang/invoke/VarHandle" ∧ (parseMethodDescriptor yX5_isSide.desc).map (fun d => d.parameters.length) = some 1 := by decide +kernel
def fX5_isSide (p0 : Int32) : Option (Int32) := (zbd (fX5_isBetween p0 (0 : Int32) (1 : Int32)) (fun u1 => (zck (zbo u1) (some (u1)))))
set_option maxHeartbeats 400000 in
set_option maxRecDepth 100000 in
theorem mX5_isSide (l : Launch) (G : va_G) (k : Nat → ClassId)  (sz : Nat)  (p0 : Int32) (o : Int32) (hF : fX5_isSide p0 = some o) : zMI l yX5_isSide wsX5_isSide rmX5_isSide G k (zE0 k) sz [.int p0] o (zE0 k) := by
  refine zof_I (cc := cX5_isSide) (nL := 1) (own := RX5) (rt := .boolean) (by decide) rfl rfl (Nat.le_of_ble_eq_true rfl) ?_
  intro p e s m args below meth c A Q C0 hK hA hret ls hl hw
  have hl : lv_has ls 1 [(0, .int p0)] := hl
  obtain ⟨hx, hb, hr, hml, hown, hts, hlocks⟩ := id C0
  obtain ⟨H, hH⟩ : ∃ z, z = s.heap := ⟨_, rfl⟩
  rw [← hH] at hw ⊢
  unfold fX5_isSide at hF
  refine lv_iload_n hx hb dX5_isSide_0 rfl (lv_at hl 0 rfl) ?_
  refine lv_iconst (v := (0 : Int32)) hx hb dX5_isSide_1 (by decide) ?_
  refine lv_iconst (v := (1 : Int32)) hx hb dX5_isSide_2 (by decide) ?_
  obtain ⟨u1, hq2, hF⟩ := zbd_t hF
  refine zgoI (w' := (zE0 k)) hw hA [] rfl (zS (As := [.int p0, .int (0 : Int32), .int (1 : Int32)]) (rest := []) ⟨hx, hb, hml, hown, hts⟩ (mX5_isBetween l G k  H.size  p0 (0 : Int32) (1 : Int32) u1 hq2) (va_cwS 3 hts gX5_isSide_X5_isBetween rfl rfl rfl kdX5_isBetween ⟨Nat.le_of_ble_eq_true rfl, Nat.le_of_ble_eq_true rfl⟩) hK hA hw [] rfl (by decide) rfl hl.1 rfl (Nat.le_of_ble_eq_true rfl) dX5_isSide_3 ⟨Nat.le_of_ble_eq_true rfl, Nat.le_of_ble_eq_true rfl⟩) rfl rfl rfl (fun H locs hw => ?_)
  obtain ⟨hz3, hF⟩ := zck_t hF
  obtain rfl := Option.some.inj hF
  exact hret _ _ _ _ (zbo_n hz3) hw dX5_isSide_6

/-! SealedBoardModel.codeOf(II)I -/
abbrev rmX5_codeOf : Room := { frames := 0, cells := 0, slots := 0, locals := 0 }
theorem kdX5_codeOf : yX5_codeOf.cls ≠ "java/lang/invoke/MethodHandle" ∧ yX5_codeOf.cls ≠ "java/lang/invoke/VarHandle" ∧ (parseMethodDescriptor yX5_codeOf.desc).map (fun d => d.parameters.length) = some 2 := by decide +kernel
def fX5_codeOf (p0 : Int32) (p1 : Int32) : Option (Int32) := (some ((((1 : Int32) + ((4 : Int32) * p0)) + p1)))
set_option maxHeartbeats 400000 in
set_option maxRecDepth 100000 in
theorem mX5_codeOf (l : Launch) (G : va_G) (k : Nat → ClassId)  (sz : Nat)  (p0 : Int32) (p1 : Int32) (o : Int32) (hF : fX5_codeOf p0 p1 = some o) : zMI l yX5_codeOf wsX5_codeOf rmX5_codeOf G k (zE0 k) sz [.int p0, .int p1] o (zE0 k) := by
  refine zof_I (cc := cX5_codeOf) (nL := 2) (own := RX5) (rt := .int) (by decide) rfl rfl (Nat.le_of_ble_eq_true rfl) ?_
  intro p e s m args below meth c A Q C0 hK hA hret ls hl hw
  have hl : lv_has ls 2 [(0, .int p0), (1, .int p1)] := hl
  obtain ⟨hx, hb, hr, hml, hown, hts, hlocks⟩ := id C0
  obtain ⟨H, hH⟩ : ∃ z, z = s.heap := ⟨_, rfl⟩
  rw [← hH] at hw ⊢
  unfold fX5_codeOf at hF
  refine lv_iconst (v := (1 : Int32)) hx hb dX5_codeOf_0 (by decide) ?_
  refine lv_iconst (v := (4 : Int32)) hx hb dX5_codeOf_1 (by decide) ?_
  refine lv_iload_n hx hb dX5_codeOf_2 rfl (lv_at hl 0 rfl) ?_
  refine lv_imul hx hb dX5_codeOf_3 ?_
  refine lv_iadd hx hb dX5_codeOf_4 ?_
  refine lv_iload_n hx hb dX5_codeOf_5 rfl (lv_at hl 1 rfl) ?_
  refine lv_iadd hx hb dX5_codeOf_6 ?_
  obtain rfl := Option.some.inj hF
  exact hret _ _ _ _ rfl hw dX5_codeOf_7

/-! SealedBoardModel.sideOf(I)I -/
abbrev rmX5_sideOf : Room := { frames := 1, cells := 0, slots := 0, locals := 22 }
theorem kdX5_sideOf : yX5_sideOf.cls ≠ "java/lang/invoke/MethodHandle" ∧ yX5_sideOf.cls ≠ "java/lang/invoke/VarHandle" ∧ (parseMethodDescriptor yX5_sideOf.desc).map (fun d => d.parameters.length) = some 1 := by decide +kernel
def fX5_sideOf (p0 : Int32) : Option (Int32) := (zbd (fX5_isBetween p0 (1 : Int32) (8 : Int32)) (fun u1 => (if u1 = 0 then (some ((-1 : Int32))) else (some (((p0 - (1 : Int32)) / (4 : Int32)))))))
set_option maxHeartbeats 400000 in
set_option maxRecDepth 100000 in
theorem mX5_sideOf (l : Launch) (G : va_G) (k : Nat → ClassId)  (sz : Nat)  (p0 : Int32) (o : Int32) (hF : fX5_sideOf p0 = some o) : zMI l yX5_sideOf wsX5_sideOf rmX5_sideOf G k (zE0 k) sz [.int p0] o (zE0 k) := by
  refine zof_I (cc := cX5_sideOf) (nL := 1) (own := RX5) (rt := .int) (by decide) rfl rfl (Nat.le_of_ble_eq_true rfl) ?_
  intro p e s m args below meth c A Q C0 hK hA hret ls hl hw
  have hl : lv_has ls 1 [(0, .int p0)] := hl
  obtain ⟨hx, hb, hr, hml, hown, hts, hlocks⟩ := id C0
  obtain ⟨H, hH⟩ : ∃ z, z = s.heap := ⟨_, rfl⟩
  rw [← hH] at hw ⊢
  unfold fX5_sideOf at hF
  refine lv_iload_n hx hb dX5_sideOf_0 rfl (lv_at hl 0 rfl) ?_
  refine lv_iconst (v := (1 : Int32)) hx hb dX5_sideOf_1 (by decide) ?_
  refine lv_bipush (v := (8 : Int32)) hx hb dX5_sideOf_2 (by decide) ?_
  obtain ⟨u1, hq2, hF⟩ := zbd_t hF
  refine zgoI (w' := (zE0 k)) hw hA [] rfl (zS (As := [.int p0, .int (1 : Int32), .int (8 : Int32)]) (rest := []) ⟨hx, hb, hml, hown, hts⟩ (mX5_isBetween l G k  H.size  p0 (1 : Int32) (8 : Int32) u1 hq2) (va_cwS 3 hts gX5_sideOf_X5_isBetween rfl rfl rfl kdX5_isBetween ⟨Nat.le_of_ble_eq_true rfl, Nat.le_of_ble_eq_true rfl⟩) hK hA hw [] rfl (by decide) rfl hl.1 rfl (Nat.le_of_ble_eq_true rfl) dX5_sideOf_4 ⟨Nat.le_of_ble_eq_true rfl, Nat.le_of_ble_eq_true rfl⟩) rfl rfl rfl (fun H locs hw => ?_)
  refine lv_if_eq (tgt := 18) hx hb dX5_sideOf_7 (by decide) (fun hc => ?_) (fun hc => ?_)
  · have hF := zif_t hc hF
    refine lv_iconst (v := (-1 : Int32)) hx hb dX5_sideOf_18 (by decide) ?_
    obtain rfl := Option.some.inj hF
    exact hret _ _ _ _ rfl hw dX5_sideOf_19
  · have hF := zif_f hc hF
    refine lv_iload_n hx hb dX5_sideOf_10 rfl (lv_at hl 0 rfl) ?_
    refine lv_iconst (v := (1 : Int32)) hx hb dX5_sideOf_11 (by decide) ?_
    refine lv_isub hx hb dX5_sideOf_12 ?_
    refine lv_iconst (v := (4 : Int32)) hx hb dX5_sideOf_13 (by decide) ?_
    refine lv_idiv hx hb dX5_sideOf_14 (by decide) ?_
    refine lv_goto (tgt := 19) hx hb dX5_sideOf_15 (by decide) ?_
    obtain rfl := Option.some.inj hF
    exact hret _ _ _ _ rfl hw dX5_sideOf_19

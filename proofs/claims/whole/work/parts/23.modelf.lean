/-! SealedBoardModel.best()I -/
abbrev rmX5_best : Room := { frames := 6, cells := 0, slots := 0, locals := 141 }
theorem kdX5_best : yX5_best.cls = RX5 ∧ yX5_best.cls ≠ "java/lang/invoke/MethodHandle" ∧ yX5_best.cls ≠ "java/lang/invoke/VarHandle" ∧ (parseMethodDescriptor yX5_best.desc).map (fun d => d.parameters.length) = some 0 := by decide +kernel
theorem inX5_best_X5 : ∀ w ∈ u_ws RX5 TX5 23, w ∈ wsX5_best := by decide +kernel
def fX5_best_100   (thrown : Int32) (now : Nat → Int32) (comes : Nat → Int32) (queue : Nat → Int32) (far : Nat → Int32) (ahead : Nat → Int32) (roomAt : Nat → Int32) (rooms : Int32) (x1 : Int32) (s0 : Int32) (s1 : Int32) : Option (Int32 × Int32 × (Nat → Int32) × (Nat → Int32) × (Nat → Int32) × (Nat → Int32) × (Nat → Int32) × (Nat → Int32) × Int32) := (zbd (fX5_fails thrown s1 s0) (fun u1 => (if u1.1 = 0 then (some (x1, u1.2, now, comes, queue, far, ahead, roomAt, rooms)) else (some ((0 : Int32), u1.2, now, comes, queue, far, ahead, roomAt, rooms)))))
def fX5_best_89   (thrown : Int32) (now : Nat → Int32) (comes : Nat → Int32) (queue : Nat → Int32) (far : Nat → Int32) (ahead : Nat → Int32) (roomAt : Nat → Int32) (rooms : Int32) (x1 : Int32) : Option (Int32 × Int32 × (Nat → Int32) × (Nat → Int32) × (Nat → Int32) × (Nat → Int32) × (Nat → Int32) × (Nat → Int32) × Int32) := (if 0 ≤ x1 then (fX5_best_100    thrown now comes queue far ahead roomAt rooms x1 (0 : Int32) (1 : Int32)) else (fX5_best_100    thrown now comes queue far ahead roomAt rooms x1 (1 : Int32) (1 : Int32)))
def fX5_best_83 (k6 : Int32 → (Nat → Int32) → (Nat → Int32) → (Nat → Int32) → (Nat → Int32) → (Nat → Int32) → (Nat → Int32) → Int32 → Int32 → Int32 → Int32 → Option (Int32 × Int32 × (Nat → Int32) × (Nat → Int32) × (Nat → Int32) × (Nat → Int32) × (Nat → Int32) × (Nat → Int32) × Int32))  (thrown : Int32) (now : Nat → Int32) (comes : Nat → Int32) (queue : Nat → Int32) (far : Nat → Int32) (ahead : Nat → Int32) (roomAt : Nat → Int32) (rooms : Int32) (x1 : Int32) (x2 : Int32) (x3 : Int32) : Option (Int32 × Int32 × (Nat → Int32) × (Nat → Int32) × (Nat → Int32) × (Nat → Int32) × (Nat → Int32) × (Nat → Int32) × Int32) := (zbn (x3 + (1 : Int32)) (fun a1 => (k6 thrown now comes queue far ahead roomAt rooms x1 x2 a1)))
def fX5_best_6   : Nat → Int32 → (Nat → Int32) → (Nat → Int32) → (Nat → Int32) → (Nat → Int32) → (Nat → Int32) → (Nat → Int32) → Int32 → Int32 → Int32 → Int32 → Option (Int32 × Int32 × (Nat → Int32) × (Nat → Int32) × (Nat → Int32) × (Nat → Int32) × (Nat → Int32) × (Nat → Int32) × Int32)
  | 0, _, _, _, _, _, _, _, _, _, _, _ => none
  | n + 1, thrown, now, comes, queue, far, ahead, roomAt, rooms, x1, x2, x3 => (if (1296 : Int32) ≤ x3 then (fX5_best_89    thrown now comes queue far ahead roomAt rooms x1) else (zbd (fX5_isOver now) (fun u1 => (if u1 = 0 then (zbn (x3 / (36 : Int32)) (fun a3 => (zbn (x3 - x3 / (36 : Int32) * (36 : Int32)) (fun a4 => (zck (zin a3 76) (zbd (fX5_sideOf (now a3.toNatClampNeg)) (fun u6 => (zbd (fX5_turn now) (fun u8 => (if u6 = u8 then (zbd (fX5_can now comes queue far a3 a4) (fun u10 => (if u10.1 = 0 then (fX5_best_83 (fun b0 b1 b2 b3 b4 b5 b6 b7 b8 b9 b10 => fX5_best_6   n b0 b1 b2 b3 b4 b5 b6 b7 b8 b9 b10)   thrown now u10.2.1 u10.2.2.1 u10.2.2.2 ahead roomAt rooms x1 x2 x3) else (zbd (fX5_worthOf now u10.2.2.1 ahead roomAt rooms a3 a4) (fun u12 => (if u12.1 ≤ x2 then (fX5_best_83 (fun b0 b1 b2 b3 b4 b5 b6 b7 b8 b9 b10 => fX5_best_6   n b0 b1 b2 b3 b4 b5 b6 b7 b8 b9 b10)   thrown u12.2.1 u10.2.1 u12.2.2.1 u10.2.2.2 u12.2.2.2.1 u12.2.2.2.2.1 u12.2.2.2.2.2 x1 x2 x3) else (zbd (fX5_worthOf u12.2.1 u12.2.2.1 u12.2.2.2.1 u12.2.2.2.2.1 u12.2.2.2.2.2 a3 a4) (fun u14 => (fX5_best_83 (fun b0 b1 b2 b3 b4 b5 b6 b7 b8 b9 b10 => fX5_best_6   n b0 b1 b2 b3 b4 b5 b6 b7 b8 b9 b10)   thrown u14.2.1 u10.2.1 u14.2.2.1 u10.2.2.2 u14.2.2.2.1 u14.2.2.2.2.1 u14.2.2.2.2.2 x3 u14.1 x3))))))))) else (fX5_best_83 (fun b0 b1 b2 b3 b4 b5 b6 b7 b8 b9 b10 => fX5_best_6   n b0 b1 b2 b3 b4 b5 b6 b7 b8 b9 b10)   thrown now comes queue far ahead roomAt rooms x1 x2 x3))))))))))) else (fX5_best_89    thrown now comes queue far ahead roomAt rooms x1)))))
def fX5_best (thrown : Int32) (now : Nat → Int32) (comes : Nat → Int32) (queue : Nat → Int32) (far : Nat → Int32) (ahead : Nat → Int32) (roomAt : Nat → Int32) (rooms : Int32) : Option (Int32 × Int32 × (Nat → Int32) × (Nat → Int32) × (Nat → Int32) × (Nat → Int32) × (Nat → Int32) × (Nat → Int32) × Int32) := (fX5_best_6   zFu thrown now comes queue far ahead roomAt rooms (-1 : Int32) (-1 : Int32) (0 : Int32))
set_option maxHeartbeats 400000 in
set_option maxRecDepth 100000 in
theorem wX5_best_100 {p : Program} {l : Launch} {e : Env} {s : State} {m : MethodId} {args : Array Value} {below : List Frame} {meth : Method} {c : Code} {A : Nat → Prop} {Q : State → Prop} {G : va_G} {k : Nat → ClassId} {ad : Nat → Nat} {saved : Nat → Int32} {hist : Nat → Nat → Int32} {kept : Int32} {reason : Int32} {detail : Int32} {isSaved : Int32} {isInText : Int32} {text : Nat → Int32} {length : Int32} {at_ : Int32} {errorPosition : Int32} {toldFrom : Int32} {toldTo : Int32} {isWrong : Int32} {before : Nat → Int32} {o : Int32 × Int32 × (Nat → Int32) × (Nat → Int32) × (Nat → Int32) × (Nat → Int32) × (Nat → Int32) × (Nat → Int32) × Int32} (C0 : zCx p s m args meth c wsX5_best cX5_best RX5 (some .int) 6) (hK : zKK G k A s s.heap) (hA : ∀ q : Nat, s.heap.size ≤ q → A q) (hret : zRI p l e rmX5_best s m args below meth c cX5_best G A 0 0 Q .int (zM ad k o.2.1 o.2.2.1 saved hist kept reason detail isSaved o.2.2.2.1 o.2.2.2.2.1 o.2.2.2.2.2.1 isInText o.2.2.2.2.2.2.1 o.2.2.2.2.2.2.2.1 o.2.2.2.2.2.2.2.2 text length at_ errorPosition toldFrom toldTo isWrong before) o.1)  : ∀ (thrown : Int32) (now : Nat → Int32) (comes : Nat → Int32) (queue : Nat → Int32) (far : Nat → Int32) (ahead : Nat → Int32) (roomAt : Nat → Int32) (rooms : Int32) (x1 : Int32) (s0 : Int32) (s1 : Int32), fX5_best_100   thrown now comes queue far ahead roomAt rooms x1 s0 s1 = some o → ∀ (H : Heap) (locs : List Loc) (ls : Array Slot), zWd G A s (zM ad k thrown now saved hist kept reason detail isSaved comes queue far isInText ahead roomAt rooms text length at_ errorPosition toldFrom toldTo isWrong before) H locs → lv_has ls 6 [(1, .int x1)] → W p l e rmX5_best s m args below meth c H locs 0 0 Q (F0 m 100 ls [.int s0, .int s1, .ref (ad 0)]) := by
  obtain ⟨hx, hb, hr, hml, hown, hts, hlocks⟩ := id C0
  intro thrown now comes queue far ahead roomAt rooms x1 s0 s1 hF H locs ls hw hl
  unfold fX5_best_100 at hF
  obtain ⟨u1, hq2, hF⟩ := zbd_t hF
  refine zgoIw (w' := (zM ad k u1.2 now saved hist kept reason detail isSaved comes queue far isInText ahead roomAt rooms text length at_ errorPosition toldFrom toldTo isWrong before)) hw hA (zVw (As := [.int s1, .int s0]) (rest := []) ⟨hx, hb, hml, hown, hts⟩ (mX5_fails l G k ad H.size thrown now saved hist kept reason detail isSaved comes queue far isInText ahead roomAt rooms text length at_ errorPosition toldFrom toldTo isWrong before s1 s0 u1 hq2) (cwV 2 hts gX5_best_X5_fails rfl rfl rfl kdX5_fails ⟨Nat.le_of_ble_eq_true rfl, Nat.le_of_ble_eq_true rfl⟩) hK hA hw 0 rfl rfl rfl rfl hl.1 rfl (Nat.le_of_ble_eq_true rfl) dX5_best_100 ⟨Nat.le_of_ble_eq_true rfl, Nat.le_of_ble_eq_true rfl⟩) (fun H locs hw => ?_)
  refine lv_if_eq (tgt := 110) hx hb dX5_best_103 (by decide) (fun hc => ?_) (fun hc => ?_)
  · have hF := zif_t hc hF
    refine lv_iload_n hx hb dX5_best_110 rfl (lv_at hl 0 rfl) ?_
    obtain rfl := Option.some.inj hF
    exact hret _ _ _ _ rfl hw dX5_best_111
  · have hF := zif_f hc hF
    refine lv_iconst (v := (0 : Int32)) hx hb dX5_best_106 (by decide) ?_
    refine lv_goto (tgt := 111) hx hb dX5_best_107 (by decide) ?_
    obtain rfl := Option.some.inj hF
    exact hret _ _ _ _ rfl hw dX5_best_111
set_option maxHeartbeats 400000 in
set_option maxRecDepth 100000 in
theorem wX5_best_89 {p : Program} {l : Launch} {e : Env} {s : State} {m : MethodId} {args : Array Value} {below : List Frame} {meth : Method} {c : Code} {A : Nat → Prop} {Q : State → Prop} {G : va_G} {k : Nat → ClassId} {ad : Nat → Nat} {saved : Nat → Int32} {hist : Nat → Nat → Int32} {kept : Int32} {reason : Int32} {detail : Int32} {isSaved : Int32} {isInText : Int32} {text : Nat → Int32} {length : Int32} {at_ : Int32} {errorPosition : Int32} {toldFrom : Int32} {toldTo : Int32} {isWrong : Int32} {before : Nat → Int32} {o : Int32 × Int32 × (Nat → Int32) × (Nat → Int32) × (Nat → Int32) × (Nat → Int32) × (Nat → Int32) × (Nat → Int32) × Int32} (C0 : zCx p s m args meth c wsX5_best cX5_best RX5 (some .int) 6) (hK : zKK G k A s s.heap) (hA : ∀ q : Nat, s.heap.size ≤ q → A q) (hret : zRI p l e rmX5_best s m args below meth c cX5_best G A 0 0 Q .int (zM ad k o.2.1 o.2.2.1 saved hist kept reason detail isSaved o.2.2.2.1 o.2.2.2.2.1 o.2.2.2.2.2.1 isInText o.2.2.2.2.2.2.1 o.2.2.2.2.2.2.2.1 o.2.2.2.2.2.2.2.2 text length at_ errorPosition toldFrom toldTo isWrong before) o.1)  : ∀ (thrown : Int32) (now : Nat → Int32) (comes : Nat → Int32) (queue : Nat → Int32) (far : Nat → Int32) (ahead : Nat → Int32) (roomAt : Nat → Int32) (rooms : Int32) (x1 : Int32), fX5_best_89   thrown now comes queue far ahead roomAt rooms x1 = some o → ∀ (H : Heap) (locs : List Loc) (ls : Array Slot), zWd G A s (zM ad k thrown now saved hist kept reason detail isSaved comes queue far isInText ahead roomAt rooms text length at_ errorPosition toldFrom toldTo isWrong before) H locs → lv_has ls 6 [(0, .ref (ad 0)), (1, .int x1)] → W p l e rmX5_best s m args below meth c H locs 0 0 Q (F0 m 89 ls []) := by
  obtain ⟨hx, hb, hr, hml, hown, hts, hlocks⟩ := id C0
  intro thrown now comes queue far ahead roomAt rooms x1 hF H locs ls hw hl
  unfold fX5_best_89 at hF
  refine lv_aload_n hx hb dX5_best_89 rfl (lv_at hl 0 rfl) ?_
  refine lv_iconst (v := (1 : Int32)) hx hb dX5_best_90 (by decide) ?_
  refine lv_iload_n hx hb dX5_best_91 rfl (lv_at hl 1 rfl) ?_
  refine lv_if_ge (tgt := 99) hx hb dX5_best_92 (by decide) (fun hc => ?_) (fun hc => ?_)
  · have hF := zif_t hc hF
    refine lv_iconst (v := (0 : Int32)) hx hb dX5_best_99 (by decide) ?_
    exact wX5_best_100 C0 hK hA hret   _ _ _ _ _ _ _ _ _ _ _ hF _ _ _ hw (lv_sub hl [1] rfl)
  · have hF := zif_f hc hF
    refine lv_iconst (v := (1 : Int32)) hx hb dX5_best_95 (by decide) ?_
    refine lv_goto (tgt := 100) hx hb dX5_best_96 (by decide) ?_
    exact wX5_best_100 C0 hK hA hret   _ _ _ _ _ _ _ _ _ _ _ hF _ _ _ hw (lv_sub hl [1] rfl)
set_option maxHeartbeats 400000 in
set_option maxRecDepth 100000 in
theorem wX5_best_83 {p : Program} {l : Launch} {e : Env} {s : State} {m : MethodId} {args : Array Value} {below : List Frame} {meth : Method} {c : Code} {A : Nat → Prop} {Q : State → Prop} {G : va_G} {k : Nat → ClassId} {ad : Nat → Nat} {saved : Nat → Int32} {hist : Nat → Nat → Int32} {kept : Int32} {reason : Int32} {detail : Int32} {isSaved : Int32} {isInText : Int32} {text : Nat → Int32} {length : Int32} {at_ : Int32} {errorPosition : Int32} {toldFrom : Int32} {toldTo : Int32} {isWrong : Int32} {before : Nat → Int32} {o : Int32 × Int32 × (Nat → Int32) × (Nat → Int32) × (Nat → Int32) × (Nat → Int32) × (Nat → Int32) × (Nat → Int32) × Int32} (C0 : zCx p s m args meth c wsX5_best cX5_best RX5 (some .int) 6) (hK : zKK G k A s s.heap) (hA : ∀ q : Nat, s.heap.size ≤ q → A q) (hret : zRI p l e rmX5_best s m args below meth c cX5_best G A 0 0 Q .int (zM ad k o.2.1 o.2.2.1 saved hist kept reason detail isSaved o.2.2.2.1 o.2.2.2.2.1 o.2.2.2.2.2.1 isInText o.2.2.2.2.2.2.1 o.2.2.2.2.2.2.2.1 o.2.2.2.2.2.2.2.2 text length at_ errorPosition toldFrom toldTo isWrong before) o.1) (k6 : Int32 → (Nat → Int32) → (Nat → Int32) → (Nat → Int32) → (Nat → Int32) → (Nat → Int32) → (Nat → Int32) → Int32 → Int32 → Int32 → Int32 → Option (Int32 × Int32 × (Nat → Int32) × (Nat → Int32) × (Nat → Int32) × (Nat → Int32) × (Nat → Int32) × (Nat → Int32) × Int32)) (hk6 : ∀ (thrown : Int32) (now : Nat → Int32) (comes : Nat → Int32) (queue : Nat → Int32) (far : Nat → Int32) (ahead : Nat → Int32) (roomAt : Nat → Int32) (rooms : Int32) (x1 : Int32) (x2 : Int32) (x3 : Int32), k6 thrown now comes queue far ahead roomAt rooms x1 x2 x3 = some o → ∀ (H : Heap) (locs : List Loc) (ls : Array Slot), zWd G A s (zM ad k thrown now saved hist kept reason detail isSaved comes queue far isInText ahead roomAt rooms text length at_ errorPosition toldFrom toldTo isWrong before) H locs → lv_has ls 6 [(0, .ref (ad 0)), (1, .int x1), (2, .int x2), (3, .int x3)] → W p l e rmX5_best s m args below meth c H locs 0 0 Q (F0 m 6 ls [])) : ∀ (thrown : Int32) (now : Nat → Int32) (comes : Nat → Int32) (queue : Nat → Int32) (far : Nat → Int32) (ahead : Nat → Int32) (roomAt : Nat → Int32) (rooms : Int32) (x1 : Int32) (x2 : Int32) (x3 : Int32), fX5_best_83 k6  thrown now comes queue far ahead roomAt rooms x1 x2 x3 = some o → ∀ (H : Heap) (locs : List Loc) (ls : Array Slot), zWd G A s (zM ad k thrown now saved hist kept reason detail isSaved comes queue far isInText ahead roomAt rooms text length at_ errorPosition toldFrom toldTo isWrong before) H locs → lv_has ls 6 [(0, .ref (ad 0)), (1, .int x1), (2, .int x2), (3, .int x3)] → W p l e rmX5_best s m args below meth c H locs 0 0 Q (F0 m 83 ls []) := by
  obtain ⟨hx, hb, hr, hml, hown, hts, hlocks⟩ := id C0
  intro thrown now comes queue far ahead roomAt rooms x1 x2 x3 hF H locs ls hw hl
  unfold fX5_best_83 at hF
  obtain ⟨a1, ea1⟩ : ∃ z : Int32, z = x3 + (1 : Int32) := ⟨_, rfl⟩
  have hF := zbn_t ea1 hF
  refine lv_iinc (v := a1) (lv' := [(3, .int a1), (0, .ref (ad 0)), (1, .int x1), (2, .int x2)]) hx hb dX5_best_83 hl (k := 3) rfl (by rw [ea1]; rfl) (by decide) rfl (fun ls hl => ?_)
  refine lv_goto (tgt := 6) hx hb dX5_best_86 (by decide) ?_
  exact hk6 _ _ _ _ _ _ _ _ _ _ _ hF _ _ _ hw (lv_sub hl [1, 2, 3, 0] rfl)
set_option maxHeartbeats 400000 in
set_option maxRecDepth 100000 in
theorem wX5_best_6 {p : Program} {l : Launch} {e : Env} {s : State} {m : MethodId} {args : Array Value} {below : List Frame} {meth : Method} {c : Code} {A : Nat → Prop} {Q : State → Prop} {G : va_G} {k : Nat → ClassId} {ad : Nat → Nat} {saved : Nat → Int32} {hist : Nat → Nat → Int32} {kept : Int32} {reason : Int32} {detail : Int32} {isSaved : Int32} {isInText : Int32} {text : Nat → Int32} {length : Int32} {at_ : Int32} {errorPosition : Int32} {toldFrom : Int32} {toldTo : Int32} {isWrong : Int32} {before : Nat → Int32} {o : Int32 × Int32 × (Nat → Int32) × (Nat → Int32) × (Nat → Int32) × (Nat → Int32) × (Nat → Int32) × (Nat → Int32) × Int32} (C0 : zCx p s m args meth c wsX5_best cX5_best RX5 (some .int) 6) (hK : zKK G k A s s.heap) (hA : ∀ q : Nat, s.heap.size ≤ q → A q) (hret : zRI p l e rmX5_best s m args below meth c cX5_best G A 0 0 Q .int (zM ad k o.2.1 o.2.2.1 saved hist kept reason detail isSaved o.2.2.2.1 o.2.2.2.2.1 o.2.2.2.2.2.1 isInText o.2.2.2.2.2.2.1 o.2.2.2.2.2.2.2.1 o.2.2.2.2.2.2.2.2 text length at_ errorPosition toldFrom toldTo isWrong before) o.1)  : ∀ (n : Nat) (thrown : Int32) (now : Nat → Int32) (comes : Nat → Int32) (queue : Nat → Int32) (far : Nat → Int32) (ahead : Nat → Int32) (roomAt : Nat → Int32) (rooms : Int32) (x1 : Int32) (x2 : Int32) (x3 : Int32), fX5_best_6   n thrown now comes queue far ahead roomAt rooms x1 x2 x3 = some o → ∀ (H : Heap) (locs : List Loc) (ls : Array Slot), zWd G A s (zM ad k thrown now saved hist kept reason detail isSaved comes queue far isInText ahead roomAt rooms text length at_ errorPosition toldFrom toldTo isWrong before) H locs → lv_has ls 6 [(0, .ref (ad 0)), (1, .int x1), (2, .int x2), (3, .int x3)] → W p l e rmX5_best s m args below meth c H locs 0 0 Q (F0 m 6 ls []) := by
  obtain ⟨hx, hb, hr, hml, hown, hts, hlocks⟩ := id C0
  intro n
  induction n with
  | zero => intro thrown now comes queue far ahead roomAt rooms x1 x2 x3 hF; exact nomatch hF
  | succ n ih =>
    intro thrown now comes queue far ahead roomAt rooms x1 x2 x3 hF H locs ls hw hl
    rw [fX5_best_6] at hF
    refine lv_iload_n hx hb dX5_best_6 rfl (lv_at hl 3 rfl) ?_
    refine lv_sipush (v := (1296 : Int32)) hx hb dX5_best_7 (by decide) ?_
    refine lv_icmp_ge (tgt := 89) hx hb dX5_best_10 (by decide) (fun hc => ?_) (fun hc => ?_)
    · have hF := zif_t hc hF
      exact wX5_best_89 C0 hK hA hret   _ _ _ _ _ _ _ _ _ hF _ _ _ hw (lv_sub hl [0, 1] rfl)
    · have hF := zif_f hc hF
      refine lv_aload_n hx hb dX5_best_13 rfl (lv_at hl 0 rfl) ?_
      obtain ⟨u1, hq2, hF⟩ := zbd_t hF
      refine zgoIw (w' := (zM ad k thrown now saved hist kept reason detail isSaved comes queue far isInText ahead roomAt rooms text length at_ errorPosition toldFrom toldTo isWrong before)) hw hA (zVw (As := []) (rest := []) ⟨hx, hb, hml, hown, hts⟩ (mX5_isOver l G k ad H.size thrown now saved hist kept reason detail isSaved comes queue far isInText ahead roomAt rooms text length at_ errorPosition toldFrom toldTo isWrong before  u1 hq2) (cwV 0 hts gX5_best_X5_isOver rfl rfl rfl kdX5_isOver ⟨Nat.le_of_ble_eq_true rfl, Nat.le_of_ble_eq_true rfl⟩) hK hA hw 0 rfl rfl rfl rfl hl.1 rfl (Nat.le_of_ble_eq_true rfl) dX5_best_14 ⟨Nat.le_of_ble_eq_true rfl, Nat.le_of_ble_eq_true rfl⟩) (fun H locs hw => ?_)
      refine lv_if_ne (tgt := 89) hx hb dX5_best_17 (by decide) (fun hc => ?_) (fun hc => ?_)
      · have hF := zif_f hc hF
        exact wX5_best_89 C0 hK hA hret   _ _ _ _ _ _ _ _ _ hF _ _ _ hw (lv_sub hl [0, 1] rfl)
      · have hF := zif_t hc hF
        refine lv_iload_n hx hb dX5_best_20 rfl (lv_at hl 3 rfl) ?_
        refine lv_bipush (v := (36 : Int32)) hx hb dX5_best_21 (by decide) ?_
        refine lv_idiv hx hb dX5_best_23 (by decide) ?_
        refine lv_topi (fun a3 ea3 => ?_)
        have hF := zbn_t ea3 hF
        refine lv_istore (lv' := [(4, .int a3), (0, .ref (ad 0)), (1, .int x1), (2, .int x2), (3, .int x3)]) hx hb dX5_best_24 hl (by decide) rfl (fun ls hl => ?_)
        refine lv_iload_n hx hb dX5_best_26 rfl (lv_at hl 4 rfl) ?_
        refine lv_bipush (v := (36 : Int32)) hx hb dX5_best_27 (by decide) ?_
        refine lv_irem hx hb dX5_best_29 (by decide) ?_
        refine lv_topi (fun a4 ea4 => ?_)
        have hF := zbn_t ea4 hF
        refine lv_istore (lv' := [(5, .int a4), (4, .int a3), (0, .ref (ad 0)), (1, .int x1), (2, .int x2), (3, .int x3)]) hx hb dX5_best_30 hl (by decide) rfl (fun ls hl => ?_)
        refine lv_aload_n hx hb dX5_best_32 rfl (lv_at hl 2 rfl) ?_
        refine va_get (D := G) (ci := 4) (v := .ref (ad 1)) (C := RX5) (T := TX5) (N := 23) hx hb hts inX5_best_X5 hown hK.1 hw.1 0 rfl rfl 1 (by decide) (hts (.fieldLink RX5 9 "SealedBoardModel" "now" "[I") (by decide +kernel)) (fun _ h9 => h9) rfl dX5_best_33 ?_
        refine lv_iload hx hb dX5_best_36 (lv_at hl 1 rfl) ?_
        obtain ⟨hi5, hF⟩ := zck_in hF
        refine va_iald hx hb hK.1 hw.1 1 2 rfl rfl hi5 dX5_best_38 ?_
        obtain ⟨u6, hq7, hF⟩ := zbd_t hF
        refine zgoI (w' := (zM ad k thrown now saved hist kept reason detail isSaved comes queue far isInText ahead roomAt rooms text length at_ errorPosition toldFrom toldTo isWrong before)) hw hA [] rfl (zS (As := [.int (now a3.toNatClampNeg)]) (rest := []) ⟨hx, hb, hml, hown, hts⟩ (mX5_sideOf l G k  H.size  (now a3.toNatClampNeg) u6 hq7) (va_cwS 1 hts gX5_best_X5_sideOf rfl rfl rfl kdX5_sideOf ⟨Nat.le_of_ble_eq_true rfl, Nat.le_of_ble_eq_true rfl⟩) hK hA hw [] rfl (by decide) rfl hl.1 rfl (Nat.le_of_ble_eq_true rfl) dX5_best_39 ⟨Nat.le_of_ble_eq_true rfl, Nat.le_of_ble_eq_true rfl⟩) rfl rfl rfl (fun H locs hw => ?_)
        refine lv_aload_n hx hb dX5_best_42 rfl (lv_at hl 2 rfl) ?_
        obtain ⟨u8, hq9, hF⟩ := zbd_t hF
        refine zgoIw (w' := (zM ad k thrown now saved hist kept reason detail isSaved comes queue far isInText ahead roomAt rooms text length at_ errorPosition toldFrom toldTo isWrong before)) hw hA (zVw (As := []) (rest := [.int u6]) ⟨hx, hb, hml, hown, hts⟩ (mX5_turn l G k ad H.size thrown now saved hist kept reason detail isSaved comes queue far isInText ahead roomAt rooms text length at_ errorPosition toldFrom toldTo isWrong before  u8 hq9) (cwV 0 hts gX5_best_X5_turn rfl rfl rfl kdX5_turn ⟨Nat.le_of_ble_eq_true rfl, Nat.le_of_ble_eq_true rfl⟩) hK hA hw 0 rfl rfl rfl rfl hl.1 rfl (Nat.le_of_ble_eq_true rfl) dX5_best_43 ⟨Nat.le_of_ble_eq_true rfl, Nat.le_of_ble_eq_true rfl⟩) (fun H locs hw => ?_)
        refine lv_icmp_ne (tgt := 83) hx hb dX5_best_46 (by decide) (fun hc => ?_) (fun hc => ?_)
        · have hF := zif_f hc hF
          exact wX5_best_83 C0 hK hA hret (fun b0 b1 b2 b3 b4 b5 b6 b7 b8 b9 b10 => fX5_best_6   n b0 b1 b2 b3 b4 b5 b6 b7 b8 b9 b10) ih  _ _ _ _ _ _ _ _ _ _ _ hF _ _ _ hw (lv_sub hl [2, 3, 4, 5] rfl)
        · have hF := zif_t hc hF
          refine lv_aload_n hx hb dX5_best_49 rfl (lv_at hl 2 rfl) ?_
          refine lv_iload hx hb dX5_best_50 (lv_at hl 1 rfl) ?_
          refine lv_iload hx hb dX5_best_52 (lv_at hl 0 rfl) ?_
          obtain ⟨u10, hq11, hF⟩ := zbd_t hF
          refine zgoIw (w' := (zM ad k thrown now saved hist kept reason detail isSaved u10.2.1 u10.2.2.1 u10.2.2.2 isInText ahead roomAt rooms text length at_ errorPosition toldFrom toldTo isWrong before)) hw hA (zVw (As := [.int a3, .int a4]) (rest := []) ⟨hx, hb, hml, hown, hts⟩ (mX5_can l G k ad H.size thrown now saved hist kept reason detail isSaved comes queue far isInText ahead roomAt rooms text length at_ errorPosition toldFrom toldTo isWrong before a3 a4 u10 hq11) (cwV 2 hts gX5_best_X5_can rfl rfl rfl kdX5_can ⟨Nat.le_of_ble_eq_true rfl, Nat.le_of_ble_eq_true rfl⟩) hK hA hw 0 rfl rfl rfl rfl hl.1 rfl (Nat.le_of_ble_eq_true rfl) dX5_best_54 ⟨Nat.le_of_ble_eq_true rfl, Nat.le_of_ble_eq_true rfl⟩) (fun H locs hw => ?_)
          refine lv_if_eq (tgt := 83) hx hb dX5_best_57 (by decide) (fun hc => ?_) (fun hc => ?_)
          · have hF := zif_t hc hF
            exact wX5_best_83 C0 hK hA hret (fun b0 b1 b2 b3 b4 b5 b6 b7 b8 b9 b10 => fX5_best_6   n b0 b1 b2 b3 b4 b5 b6 b7 b8 b9 b10) ih  _ _ _ _ _ _ _ _ _ _ _ hF _ _ _ hw (lv_sub hl [2, 3, 4, 5] rfl)
          · have hF := zif_f hc hF
            refine lv_aload_n hx hb dX5_best_60 rfl (lv_at hl 2 rfl) ?_
            refine lv_iload hx hb dX5_best_61 (lv_at hl 1 rfl) ?_
            refine lv_iload hx hb dX5_best_63 (lv_at hl 0 rfl) ?_
            obtain ⟨u12, hq13, hF⟩ := zbd_t hF
            refine zgoIw (w' := (zM ad k thrown u12.2.1 saved hist kept reason detail isSaved u10.2.1 u12.2.2.1 u10.2.2.2 isInText u12.2.2.2.1 u12.2.2.2.2.1 u12.2.2.2.2.2 text length at_ errorPosition toldFrom toldTo isWrong before)) hw hA (zVw (As := [.int a3, .int a4]) (rest := []) ⟨hx, hb, hml, hown, hts⟩ (mX5_worthOf l G k ad H.size thrown now saved hist kept reason detail isSaved u10.2.1 u10.2.2.1 u10.2.2.2 isInText ahead roomAt rooms text length at_ errorPosition toldFrom toldTo isWrong before a3 a4 u12 hq13) (cwV 2 hts gX5_best_X5_worthOf rfl rfl rfl kdX5_worthOf ⟨Nat.le_of_ble_eq_true rfl, Nat.le_of_ble_eq_true rfl⟩) hK hA hw 0 rfl rfl rfl rfl hl.1 rfl (Nat.le_of_ble_eq_true rfl) dX5_best_65 ⟨Nat.le_of_ble_eq_true rfl, Nat.le_of_ble_eq_true rfl⟩) (fun H locs hw => ?_)
            refine lv_iload_n hx hb dX5_best_68 rfl (lv_at hl 4 rfl) ?_
            refine lv_icmp_le (tgt := 83) hx hb dX5_best_69 (by decide) (fun hc => ?_) (fun hc => ?_)
            · have hF := zif_t hc hF
              exact wX5_best_83 C0 hK hA hret (fun b0 b1 b2 b3 b4 b5 b6 b7 b8 b9 b10 => fX5_best_6   n b0 b1 b2 b3 b4 b5 b6 b7 b8 b9 b10) ih  _ _ _ _ _ _ _ _ _ _ _ hF _ _ _ hw (lv_sub hl [2, 3, 4, 5] rfl)
            · have hF := zif_f hc hF
              refine lv_iload_n hx hb dX5_best_72 rfl (lv_at hl 5 rfl) ?_
              refine lv_istore_n (lv' := [(1, .int x3), (5, .int a4), (4, .int a3), (0, .ref (ad 0)), (2, .int x2), (3, .int x3)]) hx hb dX5_best_73 rfl hl (by decide) rfl (fun ls hl => ?_)
              refine lv_aload_n hx hb dX5_best_74 rfl (lv_at hl 3 rfl) ?_
              refine lv_iload hx hb dX5_best_75 (lv_at hl 2 rfl) ?_
              refine lv_iload hx hb dX5_best_77 (lv_at hl 1 rfl) ?_
              obtain ⟨u14, hq15, hF⟩ := zbd_t hF
              refine zgoIw (w' := (zM ad k thrown u14.2.1 saved hist kept reason detail isSaved u10.2.1 u14.2.2.1 u10.2.2.2 isInText u14.2.2.2.1 u14.2.2.2.2.1 u14.2.2.2.2.2 text length at_ errorPosition toldFrom toldTo isWrong before)) hw hA (zVw (As := [.int a3, .int a4]) (rest := []) ⟨hx, hb, hml, hown, hts⟩ (mX5_worthOf l G k ad H.size thrown u12.2.1 saved hist kept reason detail isSaved u10.2.1 u12.2.2.1 u10.2.2.2 isInText u12.2.2.2.1 u12.2.2.2.2.1 u12.2.2.2.2.2 text length at_ errorPosition toldFrom toldTo isWrong before a3 a4 u14 hq15) (cwV 2 hts gX5_best_X5_worthOf rfl rfl rfl kdX5_worthOf ⟨Nat.le_of_ble_eq_true rfl, Nat.le_of_ble_eq_true rfl⟩) hK hA hw 0 rfl rfl rfl rfl hl.1 rfl (Nat.le_of_ble_eq_true rfl) dX5_best_79 ⟨Nat.le_of_ble_eq_true rfl, Nat.le_of_ble_eq_true rfl⟩) (fun H locs hw => ?_)
              refine lv_istore_n (lv' := [(2, .int u14.1), (1, .int x3), (5, .int a4), (4, .int a3), (0, .ref (ad 0)), (3, .int x3)]) hx hb dX5_best_82 rfl hl (by decide) rfl (fun ls hl => ?_)
              exact wX5_best_83 C0 hK hA hret (fun b0 b1 b2 b3 b4 b5 b6 b7 b8 b9 b10 => fX5_best_6   n b0 b1 b2 b3 b4 b5 b6 b7 b8 b9 b10) ih  _ _ _ _ _ _ _ _ _ _ _ hF _ _ _ hw (lv_sub hl [4, 1, 0, 5] rfl)
set_option maxHeartbeats 400000 in
set_option maxRecDepth 100000 in
theorem mX5_best (l : Launch) (G : va_G) (k : Nat → ClassId) (ad : Nat → Nat) (sz : Nat) (thrown : Int32) (now : Nat → Int32) (saved : Nat → Int32) (hist : Nat → Nat → Int32) (kept : Int32) (reason : Int32) (detail : Int32) (isSaved : Int32) (comes : Nat → Int32) (queue : Nat → Int32) (far : Nat → Int32) (isInText : Int32) (ahead : Nat → Int32) (roomAt : Nat → Int32) (rooms : Int32) (text : Nat → Int32) (length : Int32) (at_ : Int32) (errorPosition : Int32) (toldFrom : Int32) (toldTo : Int32) (isWrong : Int32) (before : Nat → Int32)  (o : Int32 × Int32 × (Nat → Int32) × (Nat → Int32) × (Nat → Int32) × (Nat → Int32) × (Nat → Int32) × (Nat → Int32) × Int32) (hF : fX5_best thrown now comes queue far ahead roomAt rooms = some o) : zMI l yX5_best wsX5_best rmX5_best G k (zM ad k thrown now saved hist kept reason detail isSaved comes queue far isInText ahead roomAt rooms text length at_ errorPosition toldFrom toldTo isWrong before) sz [.ref (ad 0)] o.1 (zM ad k o.2.1 o.2.2.1 saved hist kept reason detail isSaved o.2.2.2.1 o.2.2.2.2.1 o.2.2.2.2.2.1 isInText o.2.2.2.2.2.2.1 o.2.2.2.2.2.2.2.1 o.2.2.2.2.2.2.2.2 text length at_ errorPosition toldFrom toldTo isWrong before) := by
  refine zof_I (cc := cX5_best) (nL := 6) (own := RX5) (rt := .int) (by decide) rfl rfl (Nat.le_of_ble_eq_true rfl) ?_
  intro p e s m args below meth c A Q C0 hK hA hret ls hl hw
  have hl : lv_has ls 6 [(0, .ref (ad 0))] := hl
  obtain ⟨hx, hb, hr, hml, hown, hts, hlocks⟩ := id C0
  obtain ⟨H, hH⟩ : ∃ z, z = s.heap := ⟨_, rfl⟩
  rw [← hH] at hw ⊢
  unfold fX5_best at hF
  refine lv_iconst (v := (-1 : Int32)) hx hb dX5_best_0 (by decide) ?_
  refine lv_istore_n (lv' := [(1, .int (-1 : Int32)), (0, .ref (ad 0))]) hx hb dX5_best_1 rfl hl (by decide) rfl (fun ls hl => ?_)
  refine lv_iconst (v := (-1 : Int32)) hx hb dX5_best_2 (by decide) ?_
  refine lv_istore_n (lv' := [(2, .int (-1 : Int32)), (1, .int (-1 : Int32)), (0, .ref (ad 0))]) hx hb dX5_best_3 rfl hl (by decide) rfl (fun ls hl => ?_)
  refine lv_iconst (v := (0 : Int32)) hx hb dX5_best_4 (by decide) ?_
  refine lv_istore_n (lv' := [(3, .int (0 : Int32)), (2, .int (-1 : Int32)), (1, .int (-1 : Int32)), (0, .ref (ad 0))]) hx hb dX5_best_5 rfl hl (by decide) rfl (fun ls hl => ?_)
  exact wX5_best_6 C0 hK hA hret  zFu _ _ _ _ _ _ _ _ _ _ _ hF _ _ _ hw (lv_sub hl [3, 2, 1, 0] rfl)

/-! SealedBoardModel.worth(II)I -/
abbrev rmX5_worth : Room := { frames := 6, cells := 0, slots := 0, locals := 141 }
theorem kdX5_worth : yX5_worth.cls = RX5 ∧ yX5_worth.cls ≠ "java/lang/invoke/MethodHandle" ∧ yX5_worth.cls ≠ "java/lang/invoke/VarHandle" ∧ (parseMethodDescriptor yX5_worth.desc).map (fun d => d.parameters.length) = some 2 := by decide +kernel
theorem inX5_worth_X5 : ∀ w ∈ u_ws RX5 TX5 23, w ∈ wsX5_worth := by decide +kernel
def fX5_worth_59   (thrown : Int32) (now : Nat → Int32) (comes : Nat → Int32) (queue : Nat → Int32) (far : Nat → Int32) (ahead : Nat → Int32) (roomAt : Nat → Int32) (rooms : Int32) (x1 : Int32) (x2 : Int32) (s0 : Int32) (s1 : Int32) : Option (Int32 × Int32 × (Nat → Int32) × (Nat → Int32) × (Nat → Int32) × (Nat → Int32) × (Nat → Int32) × (Nat → Int32) × Int32) := (zbd (fX5_fails thrown s1 s0) (fun u1 => (if u1.1 = 0 then (zbd (fX5_worthOf now queue ahead roomAt rooms x1 x2) (fun u3 => (some (u3.1, u1.2, u3.2.1, comes, u3.2.2.1, far, u3.2.2.2.1, u3.2.2.2.2.1, u3.2.2.2.2.2)))) else (some ((0 : Int32), u1.2, now, comes, queue, far, ahead, roomAt, rooms)))))
def fX5_worth_54   (thrown : Int32) (now : Nat → Int32) (comes : Nat → Int32) (queue : Nat → Int32) (far : Nat → Int32) (ahead : Nat → Int32) (roomAt : Nat → Int32) (rooms : Int32) (x1 : Int32) (x2 : Int32) (s0 : Int32) : Option (Int32 × Int32 × (Nat → Int32) × (Nat → Int32) × (Nat → Int32) × (Nat → Int32) × (Nat → Int32) × (Nat → Int32) × Int32) := (fX5_worth_59    thrown now comes queue far ahead roomAt rooms x1 x2 (1 : Int32) s0)
def fX5_worth_21   (thrown : Int32) (now : Nat → Int32) (comes : Nat → Int32) (queue : Nat → Int32) (far : Nat → Int32) (ahead : Nat → Int32) (roomAt : Nat → Int32) (rooms : Int32) (x1 : Int32) (x2 : Int32) (s0 : Int32) (s1 : Int32) : Option (Int32 × Int32 × (Nat → Int32) × (Nat → Int32) × (Nat → Int32) × (Nat → Int32) × (Nat → Int32) × (Nat → Int32) × Int32) := (zbd (fX5_fails thrown s1 s0) (fun u1 => (if u1.1 = 0 then (zck (zin x1 76) (zbd (fX5_sideOf (now x1.toNatClampNeg)) (fun u4 => (zbd (fX5_turn now) (fun u6 => (if u4 = u6 then (zbd (fX5_can now comes queue far x1 x2) (fun u8 => (if u8.1 = 0 then (fX5_worth_54    u1.2 now u8.2.1 u8.2.2.1 u8.2.2.2 ahead roomAt rooms x1 x2 (2 : Int32)) else (fX5_worth_59    u1.2 now u8.2.1 u8.2.2.1 u8.2.2.2 ahead roomAt rooms x1 x2 (0 : Int32) (2 : Int32))))) else (fX5_worth_54    u1.2 now comes queue far ahead roomAt rooms x1 x2 (2 : Int32)))))))) else (some ((0 : Int32), u1.2, now, comes, queue, far, ahead, roomAt, rooms)))))
def fX5_worth_16   (thrown : Int32) (now : Nat → Int32) (comes : Nat → Int32) (queue : Nat → Int32) (far : Nat → Int32) (ahead : Nat → Int32) (roomAt : Nat → Int32) (rooms : Int32) (x1 : Int32) (x2 : Int32) (s0 : Int32) : Option (Int32 × Int32 × (Nat → Int32) × (Nat → Int32) × (Nat → Int32) × (Nat → Int32) × (Nat → Int32) × (Nat → Int32) × Int32) := (fX5_worth_21    thrown now comes queue far ahead roomAt rooms x1 x2 (1 : Int32) s0)
def fX5_worth (thrown : Int32) (now : Nat → Int32) (comes : Nat → Int32) (queue : Nat → Int32) (far : Nat → Int32) (ahead : Nat → Int32) (roomAt : Nat → Int32) (rooms : Int32) (p0 : Int32) (p1 : Int32) : Option (Int32 × Int32 × (Nat → Int32) × (Nat → Int32) × (Nat → Int32) × (Nat → Int32) × (Nat → Int32) × (Nat → Int32) × Int32) := (zbd (fX5_isSquare p0) (fun u1 => (if u1 = 0 then (fX5_worth_16    thrown now comes queue far ahead roomAt rooms p0 p1 (1 : Int32)) else (zbd (fX5_isSquare p1) (fun u3 => (if u3 = 0 then (fX5_worth_16    thrown now comes queue far ahead roomAt rooms p0 p1 (1 : Int32)) else (fX5_worth_21    thrown now comes queue far ahead roomAt rooms p0 p1 (0 : Int32) (1 : Int32))))))))
set_option maxHeartbeats 400000 in
set_option maxRecDepth 100000 in
theorem wX5_worth_59 {p : Program} {l : Launch} {e : Env} {s : State} {m : MethodId} {args : Array Value} {below : List Frame} {meth : Method} {c : Code} {A : Nat → Prop} {Q : State → Prop} {G : va_G} {k : Nat → ClassId} {ad : Nat → Nat} {saved : Nat → Int32} {hist : Nat → Nat → Int32} {kept : Int32} {reason : Int32} {detail : Int32} {isSaved : Int32} {isInText : Int32} {text : Nat → Int32} {length : Int32} {at_ : Int32} {errorPosition : Int32} {toldFrom : Int32} {toldTo : Int32} {isWrong : Int32} {before : Nat → Int32} {o : Int32 × Int32 × (Nat → Int32) × (Nat → Int32) × (Nat → Int32) × (Nat → Int32) × (Nat → Int32) × (Nat → Int32) × Int32} (C0 : zCx p s m args meth c wsX5_worth cX5_worth RX5 (some .int) 3) (hK : zKK G k A s s.heap) (hA : ∀ q : Nat, s.heap.size ≤ q → A q) (hret : zRI p l e rmX5_worth s m args below meth c cX5_worth G A 0 0 Q .int (zM ad k o.2.1 o.2.2.1 saved hist kept reason detail isSaved o.2.2.2.1 o.2.2.2.2.1 o.2.2.2.2.2.1 isInText o.2.2.2.2.2.2.1 o.2.2.2.2.2.2.2.1 o.2.2.2.2.2.2.2.2 text length at_ errorPosition toldFrom toldTo isWrong before) o.1)  : ∀ (thrown : Int32) (now : Nat → Int32) (comes : Nat → Int32) (queue : Nat → Int32) (far : Nat → Int32) (ahead : Nat → Int32) (roomAt : Nat → Int32) (rooms : Int32) (x1 : Int32) (x2 : Int32) (s0 : Int32) (s1 : Int32), fX5_worth_59   thrown now comes queue far ahead roomAt rooms x1 x2 s0 s1 = some o → ∀ (H : Heap) (locs : List Loc) (ls : Array Slot), zWd G A s (zM ad k thrown now saved hist kept reason detail isSaved comes queue far isInText ahead roomAt rooms text length at_ errorPosition toldFrom toldTo isWrong before) H locs → lv_has ls 3 [(0, .ref (ad 0)), (1, .int x1), (2, .int x2)] → W p l e rmX5_worth s m args below meth c H locs 0 0 Q (F0 m 59 ls [.int s0, .int s1, .ref (ad 0)]) := by
  obtain ⟨hx, hb, hr, hml, hown, hts, hlocks⟩ := id C0
  intro thrown now comes queue far ahead roomAt rooms x1 x2 s0 s1 hF H locs ls hw hl
  unfold fX5_worth_59 at hF
  obtain ⟨u1, hq2, hF⟩ := zbd_t hF
  refine zgoIw (w' := (zM ad k u1.2 now saved hist kept reason detail isSaved comes queue far isInText ahead roomAt rooms text length at_ errorPosition toldFrom toldTo isWrong before)) hw hA (zVw (As := [.int s1, .int s0]) (rest := []) ⟨hx, hb, hml, hown, hts⟩ (mX5_fails l G k ad H.size thrown now saved hist kept reason detail isSaved comes queue far isInText ahead roomAt rooms text length at_ errorPosition toldFrom toldTo isWrong before s1 s0 u1 hq2) (cwV 2 hts gX5_worth_X5_fails rfl rfl rfl kdX5_fails ⟨Nat.le_of_ble_eq_true rfl, Nat.le_of_ble_eq_true rfl⟩) hK hA hw 0 rfl rfl rfl rfl hl.1 rfl (Nat.le_of_ble_eq_true rfl) dX5_worth_59 ⟨Nat.le_of_ble_eq_true rfl, Nat.le_of_ble_eq_true rfl⟩) (fun H locs hw => ?_)
  refine lv_if_eq (tgt := 67) hx hb dX5_worth_62 (by decide) (fun hc => ?_) (fun hc => ?_)
  · have hF := zif_t hc hF
    refine lv_aload_n hx hb dX5_worth_67 rfl (lv_at hl 0 rfl) ?_
    refine lv_iload_n hx hb dX5_worth_68 rfl (lv_at hl 1 rfl) ?_
    refine lv_iload_n hx hb dX5_worth_69 rfl (lv_at hl 2 rfl) ?_
    obtain ⟨u3, hq4, hF⟩ := zbd_t hF
    refine zgoIw (w' := (zM ad k u1.2 u3.2.1 saved hist kept reason detail isSaved comes u3.2.2.1 far isInText u3.2.2.2.1 u3.2.2.2.2.1 u3.2.2.2.2.2 text length at_ errorPosition toldFrom toldTo isWrong before)) hw hA (zVw (As := [.int x1, .int x2]) (rest := []) ⟨hx, hb, hml, hown, hts⟩ (mX5_worthOf l G k ad H.size u1.2 now saved hist kept reason detail isSaved comes queue far isInText ahead roomAt rooms text length at_ errorPosition toldFrom toldTo isWrong before x1 x2 u3 hq4) (cwV 2 hts gX5_worth_X5_worthOf rfl rfl rfl kdX5_worthOf ⟨Nat.le_of_ble_eq_true rfl, Nat.le_of_ble_eq_true rfl⟩) hK hA hw 0 rfl rfl rfl rfl hl.1 rfl (Nat.le_of_ble_eq_true rfl) dX5_worth_70 ⟨Nat.le_of_ble_eq_true rfl, Nat.le_of_ble_eq_true rfl⟩) (fun H locs hw => ?_)
    obtain rfl := Option.some.inj hF
    exact hret _ _ _ _ rfl hw dX5_worth_73
  · have hF := zif_f hc hF
    refine lv_iconst (v := (0 : Int32)) hx hb dX5_worth_65 (by decide) ?_
    obtain rfl := Option.some.inj hF
    exact hret _ _ _ _ rfl hw dX5_worth_66
set_option maxHeartbeats 400000 in
set_option maxRecDepth 100000 in
theorem wX5_worth_54 {p : Program} {l : Launch} {e : Env} {s : State} {m : MethodId} {args : Array Value} {below : List Frame} {meth : Method} {c : Code} {A : Nat → Prop} {Q : State → Prop} {G : va_G} {k : Nat → ClassId} {ad : Nat → Nat} {saved : Nat → Int32} {hist : Nat → Nat → Int32} {kept : Int32} {reason : Int32} {detail : Int32} {isSaved : Int32} {isInText : Int32} {text : Nat → Int32} {length : Int32} {at_ : Int32} {errorPosition : Int32} {toldFrom : Int32} {toldTo : Int32} {isWrong : Int32} {before : Nat → Int32} {o : Int32 × Int32 × (Nat → Int32) × (Nat → Int32) × (Nat → Int32) × (Nat → Int32) × (Nat → Int32) × (Nat → Int32) × Int32} (C0 : zCx p s m args meth c wsX5_worth cX5_worth RX5 (some .int) 3) (hK : zKK G k A s s.heap) (hA : ∀ q : Nat, s.heap.size ≤ q → A q) (hret : zRI p l e rmX5_worth s m args below meth c cX5_worth G A 0 0 Q .int (zM ad k o.2.1 o.2.2.1 saved hist kept reason detail isSaved o.2.2.2.1 o.2.2.2.2.1 o.2.2.2.2.2.1 isInText o.2.2.2.2.2.2.1 o.2.2.2.2.2.2.2.1 o.2.2.2.2.2.2.2.2 text length at_ errorPosition toldFrom toldTo isWrong before) o.1)  : ∀ (thrown : Int32) (now : Nat → Int32) (comes : Nat → Int32) (queue : Nat → Int32) (far : Nat → Int32) (ahead : Nat → Int32) (roomAt : Nat → Int32) (rooms : Int32) (x1 : Int32) (x2 : Int32) (s0 : Int32), fX5_worth_54   thrown now comes queue far ahead roomAt rooms x1 x2 s0 = some o → ∀ (H : Heap) (locs : List Loc) (ls : Array Slot), zWd G A s (zM ad k thrown now saved hist kept reason detail isSaved comes queue far isInText ahead roomAt rooms text length at_ errorPosition toldFrom toldTo isWrong before) H locs → lv_has ls 3 [(0, .ref (ad 0)), (1, .int x1), (2, .int x2)] → W p l e rmX5_worth s m args below meth c H locs 0 0 Q (F0 m 54 ls [.int s0, .ref (ad 0)]) := by
  obtain ⟨hx, hb, hr, hml, hown, hts, hlocks⟩ := id C0
  intro thrown now comes queue far ahead roomAt rooms x1 x2 s0 hF H locs ls hw hl
  unfold fX5_worth_54 at hF
  refine lv_iconst (v := (1 : Int32)) hx hb dX5_worth_54 (by decide) ?_
  refine lv_goto (tgt := 59) hx hb dX5_worth_55 (by decide) ?_
  exact wX5_worth_59 C0 hK hA hret   _ _ _ _ _ _ _ _ _ _ _ _ hF _ _ _ hw (lv_sub hl [0, 1, 2] rfl)
set_option maxHeartbeats 400000 in
set_option maxRecDepth 100000 in
theorem wX5_worth_21 {p : Program} {l : Launch} {e : Env} {s : State} {m : MethodId} {args : Array Value} {below : List Frame} {meth : Method} {c : Code} {A : Nat → Prop} {Q : State → Prop} {G : va_G} {k : Nat → ClassId} {ad : Nat → Nat} {saved : Nat → Int32} {hist : Nat → Nat → Int32} {kept : Int32} {reason : Int32} {detail : Int32} {isSaved : Int32} {isInText : Int32} {text : Nat → Int32} {length : Int32} {at_ : Int32} {errorPosition : Int32} {toldFrom : Int32} {toldTo : Int32} {isWrong : Int32} {before : Nat → Int32} {o : Int32 × Int32 × (Nat → Int32) × (Nat → Int32) × (Nat → Int32) × (Nat → Int32) × (Nat → Int32) × (Nat → Int32) × Int32} (C0 : zCx p s m args meth c wsX5_worth cX5_worth RX5 (some .int) 3) (hK : zKK G k A s s.heap) (hA : ∀ q : Nat, s.heap.size ≤ q → A q) (hret : zRI p l e rmX5_worth s m args below meth c cX5_worth G A 0 0 Q .int (zM ad k o.2.1 o.2.2.1 saved hist kept reason detail isSaved o.2.2.2.1 o.2.2.2.2.1 o.2.2.2.2.2.1 isInText o.2.2.2.2.2.2.1 o.2.2.2.2.2.2.2.1 o.2.2.2.2.2.2.2.2 text length at_ errorPosition toldFrom toldTo isWrong before) o.1)  : ∀ (thrown : Int32) (now : Nat → Int32) (comes : Nat → Int32) (queue : Nat → Int32) (far : Nat → Int32) (ahead : Nat → Int32) (roomAt : Nat → Int32) (rooms : Int32) (x1 : Int32) (x2 : Int32) (s0 : Int32) (s1 : Int32), fX5_worth_21   thrown now comes queue far ahead roomAt rooms x1 x2 s0 s1 = some o → ∀ (H : Heap) (locs : List Loc) (ls : Array Slot), zWd G A s (zM ad k thrown now saved hist kept reason detail isSaved comes queue far isInText ahead roomAt rooms text length at_ errorPosition toldFrom toldTo isWrong before) H locs → lv_has ls 3 [(0, .ref (ad 0)), (1, .int x1), (2, .int x2)] → W p l e rmX5_worth s m args below meth c H locs 0 0 Q (F0 m 21 ls [.int s0, .int s1, .ref (ad 0)]) := by
  obtain ⟨hx, hb, hr, hml, hown, hts, hlocks⟩ := id C0
  intro thrown now comes queue far ahead roomAt rooms x1 x2 s0 s1 hF H locs ls hw hl
  unfold fX5_worth_21 at hF
  obtain ⟨u1, hq2, hF⟩ := zbd_t hF
  refine zgoIw (w' := (zM ad k u1.2 now saved hist kept reason detail isSaved comes queue far isInText ahead roomAt rooms text length at_ errorPosition toldFrom toldTo isWrong before)) hw hA (zVw (As := [.int s1, .int s0]) (rest := []) ⟨hx, hb, hml, hown, hts⟩ (mX5_fails l G k ad H.size thrown now saved hist kept reason detail isSaved comes queue far isInText ahead roomAt rooms text length at_ errorPosition toldFrom toldTo isWrong before s1 s0 u1 hq2) (cwV 2 hts gX5_worth_X5_fails rfl rfl rfl kdX5_fails ⟨Nat.le_of_ble_eq_true rfl, Nat.le_of_ble_eq_true rfl⟩) hK hA hw 0 rfl rfl rfl rfl hl.1 rfl (Nat.le_of_ble_eq_true rfl) dX5_worth_21 ⟨Nat.le_of_ble_eq_true rfl, Nat.le_of_ble_eq_true rfl⟩) (fun H locs hw => ?_)
  refine lv_if_ne (tgt := 65) hx hb dX5_worth_24 (by decide) (fun hc => ?_) (fun hc => ?_)
  · have hF := zif_f hc hF
    refine lv_iconst (v := (0 : Int32)) hx hb dX5_worth_65 (by decide) ?_
    obtain rfl := Option.some.inj hF
    exact hret _ _ _ _ rfl hw dX5_worth_66
  · have hF := zif_t hc hF
    refine lv_aload_n hx hb dX5_worth_27 rfl (lv_at hl 0 rfl) ?_
    refine lv_iconst (v := (2 : Int32)) hx hb dX5_worth_28 (by decide) ?_
    refine lv_aload_n hx hb dX5_worth_29 rfl (lv_at hl 0 rfl) ?_
    refine va_get (D := G) (ci := 4) (v := .ref (ad 1)) (C := RX5) (T := TX5) (N := 23) hx hb hts inX5_worth_X5 hown hK.1 hw.1 0 rfl rfl 1 (by decide) (hts (.fieldLink RX5 9 "SealedBoardModel" "now" "[I") (by decide +kernel)) (fun _ h9 => h9) rfl dX5_worth_30 ?_
    refine lv_iload_n hx hb dX5_worth_33 rfl (lv_at hl 1 rfl) ?_
    obtain ⟨hi3, hF⟩ := zck_in hF
    refine va_iald hx hb hK.1 hw.1 1 2 rfl rfl hi3 dX5_worth_34 ?_
    obtain ⟨u4, hq5, hF⟩ := zbd_t hF
    refine zgoI (w' := (zM ad k u1.2 now saved hist kept reason detail isSaved comes queue far isInText ahead roomAt rooms text length at_ errorPosition toldFrom toldTo isWrong before)) hw hA [] rfl (zS (As := [.int (now x1.toNatClampNeg)]) (rest := [.int (2 : Int32), .ref (ad 0)]) ⟨hx, hb, hml, hown, hts⟩ (mX5_sideOf l G k  H.size  (now x1.toNatClampNeg) u4 hq5) (va_cwS 1 hts gX5_worth_X5_sideOf rfl rfl rfl kdX5_sideOf ⟨Nat.le_of_ble_eq_true rfl, Nat.le_of_ble_eq_true rfl⟩) hK hA hw [] rfl (by decide) rfl hl.1 rfl (Nat.le_of_ble_eq_true rfl) dX5_worth_35 ⟨Nat.le_of_ble_eq_true rfl, Nat.le_of_ble_eq_true rfl⟩) rfl rfl rfl (fun H locs hw => ?_)
    refine lv_aload_n hx hb dX5_worth_38 rfl (lv_at hl 0 rfl) ?_
    obtain ⟨u6, hq7, hF⟩ := zbd_t hF
    refine zgoIw (w' := (zM ad k u1.2 now saved hist kept reason detail isSaved comes queue far isInText ahead roomAt rooms text length at_ errorPosition toldFrom toldTo isWrong before)) hw hA (zVw (As := []) (rest := [.int u4, .int (2 : Int32), .ref (ad 0)]) ⟨hx, hb, hml, hown, hts⟩ (mX5_turn l G k ad H.size u1.2 now saved hist kept reason detail isSaved comes queue far isInText ahead roomAt rooms text length at_ errorPosition toldFrom toldTo isWrong before  u6 hq7) (cwV 0 hts gX5_worth_X5_turn rfl rfl rfl kdX5_turn ⟨Nat.le_of_ble_eq_true rfl, Nat.le_of_ble_eq_true rfl⟩) hK hA hw 0 rfl rfl rfl rfl hl.1 rfl (Nat.le_of_ble_eq_true rfl) dX5_worth_39 ⟨Nat.le_of_ble_eq_true rfl, Nat.le_of_ble_eq_true rfl⟩) (fun H locs hw => ?_)
    refine lv_icmp_ne (tgt := 54) hx hb dX5_worth_42 (by decide) (fun hc => ?_) (fun hc => ?_)
    · have hF := zif_f hc hF
      exact wX5_worth_54 C0 hK hA hret   _ _ _ _ _ _ _ _ _ _ _ hF _ _ _ hw (lv_sub hl [0, 1, 2] rfl)
    · have hF := zif_t hc hF
      refine lv_aload_n hx hb dX5_worth_45 rfl (lv_at hl 0 rfl) ?_
      refine lv_iload_n hx hb dX5_worth_46 rfl (lv_at hl 1 rfl) ?_
      refine lv_iload_n hx hb dX5_worth_47 rfl (lv_at hl 2 rfl) ?_
      obtain ⟨u8, hq9, hF⟩ := zbd_t hF
      refine zgoIw (w' := (zM ad k u1.2 now saved hist kept reason detail isSaved u8.2.1 u8.2.2.1 u8.2.2.2 isInText ahead roomAt rooms text length at_ errorPosition toldFrom toldTo isWrong before)) hw hA (zVw (As := [.int x1, .int x2]) (rest := [.int (2 : Int32), .ref (ad 0)]) ⟨hx, hb, hml, hown, hts⟩ (mX5_can l G k ad H.size u1.2 now saved hist kept reason detail isSaved comes queue far isInText ahead roomAt rooms text length at_ errorPosition toldFrom toldTo isWrong before x1 x2 u8 hq9) (cwV 2 hts gX5_worth_X5_can rfl rfl rfl kdX5_can ⟨Nat.le_of_ble_eq_true rfl, Nat.le_of_ble_eq_true rfl⟩) hK hA hw 0 rfl rfl rfl rfl hl.1 rfl (Nat.le_of_ble_eq_true rfl) dX5_worth_48 ⟨Nat.le_of_ble_eq_true rfl, Nat.le_of_ble_eq_true rfl⟩) (fun H locs hw => ?_)
      refine lv_if_ne (tgt := 58) hx hb dX5_worth_51 (by decide) (fun hc => ?_) (fun hc => ?_)
      · have hF := zif_f hc hF
        refine lv_iconst (v := (0 : Int32)) hx hb dX5_worth_58 (by decide) ?_
        exact wX5_worth_59 C0 hK hA hret   _ _ _ _ _ _ _ _ _ _ _ _ hF _ _ _ hw (lv_sub hl [0, 1, 2] rfl)
      · have hF := zif_t hc hF
        exact wX5_worth_54 C0 hK hA hret   _ _ _ _ _ _ _ _ _ _ _ hF _ _ _ hw (lv_sub hl [0, 1, 2] rfl)
set_option maxHeartbeats 400000 in
set_option maxRecDepth 100000 in
theorem wX5_worth_16 {p : Program} {l : Launch} {e : Env} {s : State} {m : MethodId} {args : Array Value} {below : List Frame} {meth : Method} {c : Code} {A : Nat → Prop} {Q : State → Prop} {G : va_G} {k : Nat → ClassId} {ad : Nat → Nat} {saved : Nat → Int32} {hist : Nat → Nat → Int32} {kept : Int32} {reason : Int32} {detail : Int32} {isSaved : Int32} {isInText : Int32} {text : Nat → Int32} {length : Int32} {at_ : Int32} {errorPosition : Int32} {toldFrom : Int32} {toldTo : Int32} {isWrong : Int32} {before : Nat → Int32} {o : Int32 × Int32 × (Nat → Int32) × (Nat → Int32) × (Nat → Int32) × (Nat → Int32) × (Nat → Int32) × (Nat → Int32) × Int32} (C0 : zCx p s m args meth c wsX5_worth cX5_worth RX5 (some .int) 3) (hK : zKK G k A s s.heap) (hA : ∀ q : Nat, s.heap.size ≤ q → A q) (hret : zRI p l e rmX5_worth s m args below meth c cX5_worth G A 0 0 Q .int (zM ad k o.2.1 o.2.2.1 saved hist kept reason detail isSaved o.2.2.2.1 o.2.2.2.2.1 o.2.2.2.2.2.1 isInText o.2.2.2.2.2.2.1 o.2.2.2.2.2.2.2.1 o.2.2.2.2.2.2.2.2 text length at_ errorPosition toldFrom toldTo isWrong before) o.1)  : ∀ (thrown : Int32) (now : Nat → Int32) (comes : Nat → Int32) (queue : Nat → Int32) (far : Nat → Int32) (ahead : Nat → Int32) (roomAt : Nat → Int32) (rooms : Int32) (x1 : Int32) (x2 : Int32) (s0 : Int32), fX5_worth_16   thrown now comes queue far ahead roomAt rooms x1 x2 s0 = some o → ∀ (H : Heap) (locs : List Loc) (ls : Array Slot), zWd G A s (zM ad k thrown now saved hist kept reason detail isSaved comes queue far isInText ahead roomAt rooms text length at_ errorPosition toldFrom toldTo isWrong before) H locs → lv_has ls 3 [(0, .ref (ad 0)), (1, .int x1), (2, .int x2)] → W p l e rmX5_worth s m args below meth c H locs 0 0 Q (F0 m 16 ls [.int s0, .ref (ad 0)]) := by
  obtain ⟨hx, hb, hr, hml, hown, hts, hlocks⟩ := id C0
  intro thrown now comes queue far ahead roomAt rooms x1 x2 s0 hF H locs ls hw hl
  unfold fX5_worth_16 at hF
  refine lv_iconst (v := (1 : Int32)) hx hb dX5_worth_16 (by decide) ?_
  refine lv_goto (tgt := 21) hx hb dX5_worth_17 (by decide) ?_
  exact wX5_worth_21 C0 hK hA hret   _ _ _ _ _ _ _ _ _ _ _ _ hF _ _ _ hw (lv_sub hl [0, 1, 2] rfl)
set_option maxHeartbeats 400000 in
set_option maxRecDepth 100000 in
theorem mX5_worth (l : Launch) (G : va_G) (k : Nat → ClassId) (ad : Nat → Nat) (sz : Nat) (thrown : Int32) (now : Nat → Int32) (saved : Nat → Int32) (hist : Nat → Nat → Int32) (kept : Int32) (reason : Int32) (detail : Int32) (isSaved : Int32) (comes : Nat → Int32) (queue : Nat → Int32) (far : Nat → Int32) (isInText : Int32) (ahead : Nat → Int32) (roomAt : Nat → Int32) (rooms : Int32) (text : Nat → Int32) (length : Int32) (at_ : Int32) (errorPosition : Int32) (toldFrom : Int32) (toldTo : Int32) (isWrong : Int32) (before : Nat → Int32) (p0 : Int32) (p1 : Int32) (o : Int32 × Int32 × (Nat → Int32) × (Nat → Int32) × (Nat → Int32) × (Nat → Int32) × (Nat → Int32) × (Nat → Int32) × Int32) (hF : fX5_worth thrown now comes queue far ahead roomAt rooms p0 p1 = some o) : zMI l yX5_worth wsX5_worth rmX5_worth G k (zM ad k thrown now saved hist kept reason detail isSaved comes queue far isInText ahead roomAt rooms text length at_ errorPosition toldFrom toldTo isWrong before) sz [.ref (ad 0), .int p0, .int p1] o.1 (zM ad k o.2.1 o.2.2.1 saved hist kept reason detail isSaved o.2.2.2.1 o.2.2.2.2.1 o.2.2.2.2.2.1 isInText o.2.2.2.2.2.2.1 o.2.2.2.2.2.2.2.1 o.2.2.2.2.2.2.2.2 text length at_ errorPosition toldFrom toldTo isWrong before) := by
  refine zof_I (cc := cX5_worth) (nL := 3) (own := RX5) (rt := .int) (by decide) rfl rfl (Nat.le_of_ble_eq_true rfl) ?_
  intro p e s m args below meth c A Q C0 hK hA hret ls hl hw
  have hl : lv_has ls 3 [(0, .ref (ad 0)), (1, .int p0), (2, .int p1)] := hl
  obtain ⟨hx, hb, hr, hml, hown, hts, hlocks⟩ := id C0
  obtain ⟨H, hH⟩ : ∃ z, z = s.heap := ⟨_, rfl⟩
  rw [← hH] at hw ⊢
  unfold fX5_worth at hF
  refine lv_aload_n hx hb dX5_worth_0 rfl (lv_at hl 0 rfl) ?_
  refine lv_iconst (v := (1 : Int32)) hx hb dX5_worth_1 (by decide) ?_
  refine lv_iload_n hx hb dX5_worth_2 rfl (lv_at hl 1 rfl) ?_
  obtain ⟨u1, hq2, hF⟩ := zbd_t hF
  refine zgoI (w' := (zM ad k thrown now saved hist kept reason detail isSaved comes queue far isInText ahead roomAt rooms text length at_ errorPosition toldFrom toldTo isWrong before)) hw hA [] rfl (zS (As := [.int p0]) (rest := [.int (1 : Int32), .ref (ad 0)]) ⟨hx, hb, hml, hown, hts⟩ (mX5_isSquare l G k  H.size  p0 u1 hq2) (va_cwS 1 hts gX5_worth_X5_isSquare rfl rfl rfl kdX5_isSquare ⟨Nat.le_of_ble_eq_true rfl, Nat.le_of_ble_eq_true rfl⟩) hK hA hw [] rfl (by decide) rfl hl.1 rfl (Nat.le_of_ble_eq_true rfl) dX5_worth_3 ⟨Nat.le_of_ble_eq_true rfl, Nat.le_of_ble_eq_true rfl⟩) rfl rfl rfl (fun H locs hw => ?_)
  refine lv_if_eq (tgt := 16) hx hb dX5_worth_6 (by decide) (fun hc => ?_) (fun hc => ?_)
  · have hF := zif_t hc hF
    exact wX5_worth_16 C0 hK hA hret   _ _ _ _ _ _ _ _ _ _ _ hF _ _ _ hw (lv_sub hl [0, 1, 2] rfl)
  · have hF := zif_f hc hF
    refine lv_iload_n hx hb dX5_worth_9 rfl (lv_at hl 2 rfl) ?_
    obtain ⟨u3, hq4, hF⟩ := zbd_t hF
    refine zgoI (w' := (zM ad k thrown now saved hist kept reason detail isSaved comes queue far isInText ahead roomAt rooms text length at_ errorPosition toldFrom toldTo isWrong before)) hw hA [] rfl (zS (As := [.int p1]) (rest := [.int (1 : Int32), .ref (ad 0)]) ⟨hx, hb, hml, hown, hts⟩ (mX5_isSquare l G k  H.size  p1 u3 hq4) (va_cwS 1 hts gX5_worth_X5_isSquare rfl rfl rfl kdX5_isSquare ⟨Nat.le_of_ble_eq_true rfl, Nat.le_of_ble_eq_true rfl⟩) hK hA hw [] rfl (by decide) rfl hl.1 rfl (Nat.le_of_ble_eq_true rfl) dX5_worth_10 ⟨Nat.le_of_ble_eq_true rfl, Nat.le_of_ble_eq_true rfl⟩) rfl rfl rfl (fun H locs hw => ?_)
    refine lv_if_ne (tgt := 20) hx hb dX5_worth_13 (by decide) (fun hc => ?_) (fun hc => ?_)
    · have hF := zif_f hc hF
      refine lv_iconst (v := (0 : Int32)) hx hb dX5_worth_20 (by decide) ?_
      exact wX5_worth_21 C0 hK hA hret   _ _ _ _ _ _ _ _ _ _ _ _ hF _ _ _ hw (lv_sub hl [0, 1, 2] rfl)
    · have hF := zif_t hc hF
      exact wX5_worth_16 C0 hK hA hret   _ _ _ _ _ _ _ _ _ _ _ hF _ _ _ hw (lv_sub hl [0, 1, 2] rfl)

/-! SealedBoardModel.rooms(I)I -/
abbrev rmX5_rooms : Room := { frames := 4, cells := 0, slots := 0, locals := 93 }
theorem kdX5_rooms : yX5_rooms.cls = RX5 ∧ yX5_rooms.cls ≠ "java/lang/invoke/MethodHandle" ∧ yX5_rooms.cls ≠ "java/lang/invoke/VarHandle" ∧ (parseMethodDescriptor yX5_rooms.desc).map (fun d => d.parameters.length) = some 1 := by decide +kernel
theorem inX5_rooms_X5 : ∀ w ∈ u_ws RX5 TX5 23, w ∈ wsX5_rooms := by decide +kernel
def fX5_rooms_14  (now : Nat → Int32) (thrown : Int32) (queue : Nat → Int32) (roomAt : Nat → Int32) (rooms : Int32) (x1 : Int32) (s0 : Int32) (s1 : Int32) : Option (Int32 × Int32 × (Nat → Int32) × (Nat → Int32) × Int32) := (zbd (fX5_fails thrown s1 s0) (fun u1 => (if u1.1 = 0 then (zbd (fX5_findRooms now queue roomAt rooms x1) (fun u3 => (some (u3.2.2, u1.2, u3.1, u3.2.1, u3.2.2)))) else (some ((0 : Int32), u1.2, queue, roomAt, rooms)))))
def fX5_rooms (thrown : Int32) (now : Nat → Int32) (queue : Nat → Int32) (roomAt : Nat → Int32) (rooms : Int32) (p0 : Int32) : Option (Int32 × Int32 × (Nat → Int32) × (Nat → Int32) × Int32) := (zbd (fX5_isSide p0) (fun u1 => (if u1 = 0 then (fX5_rooms_14  now  thrown queue roomAt rooms p0 (1 : Int32) (1 : Int32)) else (fX5_rooms_14  now  thrown queue roomAt rooms p0 (0 : Int32) (1 : Int32)))))
set_option maxHeartbeats 400000 in
set_option maxRecDepth 100000 in
theorem wX5_rooms_14 {p : Program} {l : Launch} {e : Env} {s : State} {m : MethodId} {args : Array Value} {below : List Frame} {meth : Method} {c : Code} {A : Nat → Prop} {Q : State → Prop} {G : va_G} {k : Nat → ClassId} {ad : Nat → Nat} {now : Nat → Int32} {saved : Nat → Int32} {hist : Nat → Nat → Int32} {kept : Int32} {reason : Int32} {detail : Int32} {isSaved : Int32} {comes : Nat → Int32} {far : Nat → Int32} {isInText : Int32} {ahead : Nat → Int32} {text : Nat → Int32} {length : Int32} {at_ : Int32} {errorPosition : Int32} {toldFrom : Int32} {toldTo : Int32} {isWrong : Int32} {before : Nat → Int32} {o : Int32 × Int32 × (Nat → Int32) × (Nat → Int32) × Int32} (C0 : zCx p s m args meth c wsX5_rooms cX5_rooms RX5 (some .int) 2) (hK : zKK G k A s s.heap) (hA : ∀ q : Nat, s.heap.size ≤ q → A q) (hret : zRI p l e rmX5_rooms s m args below meth c cX5_rooms G A 0 0 Q .int (zM ad k o.2.1 now saved hist kept reason detail isSaved comes o.2.2.1 far isInText ahead o.2.2.2.1 o.2.2.2.2 text length at_ errorPosition toldFrom toldTo isWrong before) o.1)  : ∀ (thrown : Int32) (queue : Nat → Int32) (roomAt : Nat → Int32) (rooms : Int32) (x1 : Int32) (s0 : Int32) (s1 : Int32), fX5_rooms_14  now thrown queue roomAt rooms x1 s0 s1 = some o → ∀ (H : Heap) (locs : List Loc) (ls : Array Slot), zWd G A s (zM ad k thrown now saved hist kept reason detail isSaved comes queue far isInText ahead roomAt rooms text length at_ errorPosition toldFrom toldTo isWrong before) H locs → lv_has ls 2 [(0, .ref (ad 0)), (1, .int x1)] → W p l e rmX5_rooms s m args below meth c H locs 0 0 Q (F0 m 14 ls [.int s0, .int s1, .ref (ad 0)]) := by
  obtain ⟨hx, hb, hr, hml, hown, hts, hlocks⟩ := id C0
  intro thrown queue roomAt rooms x1 s0 s1 hF H locs ls hw hl
  unfold fX5_rooms_14 at hF
  obtain ⟨u1, hq2, hF⟩ := zbd_t hF
  refine zgoIw (w' := (zM ad k u1.2 now saved hist kept reason detail isSaved comes queue far isInText ahead roomAt rooms text length at_ errorPosition toldFrom toldTo isWrong before)) hw hA (zVw (As := [.int s1, .int s0]) (rest := []) ⟨hx, hb, hml, hown, hts⟩ (mX5_fails l G k ad H.size thrown now saved hist kept reason detail isSaved comes queue far isInText ahead roomAt rooms text length at_ errorPosition toldFrom toldTo isWrong before s1 s0 u1 hq2) (cwV 2 hts gX5_rooms_X5_fails rfl rfl rfl kdX5_fails ⟨Nat.le_of_ble_eq_true rfl, Nat.le_of_ble_eq_true rfl⟩) hK hA hw 0 rfl rfl rfl rfl hl.1 rfl (Nat.le_of_ble_eq_true rfl) dX5_rooms_14 ⟨Nat.le_of_ble_eq_true rfl, Nat.le_of_ble_eq_true rfl⟩) (fun H locs hw => ?_)
  refine lv_if_eq (tgt := 22) hx hb dX5_rooms_17 (by decide) (fun hc => ?_) (fun hc => ?_)
  · have hF := zif_t hc hF
    refine lv_aload_n hx hb dX5_rooms_22 rfl (lv_at hl 0 rfl) ?_
    refine lv_iload_n hx hb dX5_rooms_23 rfl (lv_at hl 1 rfl) ?_
    obtain ⟨u3, hq4, hF⟩ := zbd_t hF
    refine zgoVw (w' := (zM ad k u1.2 now saved hist kept reason detail isSaved comes u3.1 far isInText ahead u3.2.1 u3.2.2 text length at_ errorPosition toldFrom toldTo isWrong before)) hw hA (zVw (As := [.int x1]) (rest := []) ⟨hx, hb, hml, hown, hts⟩ (mX5_findRooms l G k ad H.size u1.2 now saved hist kept reason detail isSaved comes queue far isInText ahead roomAt rooms text length at_ errorPosition toldFrom toldTo isWrong before x1 u3 hq4) (cwV 1 hts gX5_rooms_X5_findRooms rfl rfl rfl kdX5_findRooms ⟨Nat.le_of_ble_eq_true rfl, Nat.le_of_ble_eq_true rfl⟩) hK hA hw 0 rfl rfl rfl rfl hl.1 rfl (Nat.le_of_ble_eq_true rfl) dX5_rooms_24 ⟨Nat.le_of_ble_eq_true rfl, Nat.le_of_ble_eq_true rfl⟩) (fun H locs hw => ?_)
    refine lv_aload_n hx hb dX5_rooms_27 rfl (lv_at hl 0 rfl) ?_
    refine va_get (D := G) (ci := 4) (v := .int u3.2.2) (C := RX5) (T := TX5) (N := 23) hx hb hts inX5_rooms_X5 hown hK.1 hw.1 0 rfl rfl 14 (by decide) (hts (.fieldLink RX5 207 "SealedBoardModel" "rooms" "I") (by decide +kernel)) (fun _ h9 => h9) rfl dX5_rooms_28 ?_
    obtain rfl := Option.some.inj hF
    exact hret _ _ _ _ rfl hw dX5_rooms_31
  · have hF := zif_f hc hF
    refine lv_iconst (v := (0 : Int32)) hx hb dX5_rooms_20 (by decide) ?_
    obtain rfl := Option.some.inj hF
    exact hret _ _ _ _ rfl hw dX5_rooms_21
set_option maxHeartbeats 400000 in
set_option maxRecDepth 100000 in
theorem mX5_rooms (l : Launch) (G : va_G) (k : Nat → ClassId) (ad : Nat → Nat) (sz : Nat) (thrown : Int32) (now : Nat → Int32) (saved : Nat → Int32) (hist : Nat → Nat → Int32) (kept : Int32) (reason : Int32) (detail : Int32) (isSaved : Int32) (comes : Nat → Int32) (queue : Nat → Int32) (far : Nat → Int32) (isInText : Int32) (ahead : Nat → Int32) (roomAt : Nat → Int32) (rooms : Int32) (text : Nat → Int32) (length : Int32) (at_ : Int32) (errorPosition : Int32) (toldFrom : Int32) (toldTo : Int32) (isWrong : Int32) (before : Nat → Int32) (p0 : Int32) (o : Int32 × Int32 × (Nat → Int32) × (Nat → Int32) × Int32) (hF : fX5_rooms thrown now queue roomAt rooms p0 = some o) : zMI l yX5_rooms wsX5_rooms rmX5_rooms G k (zM ad k thrown now saved hist kept reason detail isSaved comes queue far isInText ahead roomAt rooms text length at_ errorPosition toldFrom toldTo isWrong before) sz [.ref (ad 0), .int p0] o.1 (zM ad k o.2.1 now saved hist kept reason detail isSaved comes o.2.2.1 far isInText ahead o.2.2.2.1 o.2.2.2.2 text length at_ errorPosition toldFrom toldTo isWrong before) := by
  refine zof_I (cc := cX5_rooms) (nL := 2) (own := RX5) (rt := .int) (by decide) rfl rfl (Nat.le_of_ble_eq_true rfl) ?_
  intro p e s m args below meth c A Q C0 hK hA hret ls hl hw
  have hl : lv_has ls 2 [(0, .ref (ad 0)), (1, .int p0)] := hl
  obtain ⟨hx, hb, hr, hml, hown, hts, hlocks⟩ := id C0
  obtain ⟨H, hH⟩ : ∃ z, z = s.heap := ⟨_, rfl⟩
  rw [← hH] at hw ⊢
  unfold fX5_rooms at hF
  refine lv_aload_n hx hb dX5_rooms_0 rfl (lv_at hl 0 rfl) ?_
  refine lv_iconst (v := (1 : Int32)) hx hb dX5_rooms_1 (by decide) ?_
  refine lv_iload_n hx hb dX5_rooms_2 rfl (lv_at hl 1 rfl) ?_
  obtain ⟨u1, hq2, hF⟩ := zbd_t hF
  refine zgoI (w' := (zM ad k thrown now saved hist kept reason detail isSaved comes queue far isInText ahead roomAt rooms text length at_ errorPosition toldFrom toldTo isWrong before)) hw hA [] rfl (zS (As := [.int p0]) (rest := [.int (1 : Int32), .ref (ad 0)]) ⟨hx, hb, hml, hown, hts⟩ (mX5_isSide l G k  H.size  p0 u1 hq2) (va_cwS 1 hts gX5_rooms_X5_isSide rfl rfl rfl kdX5_isSide ⟨Nat.le_of_ble_eq_true rfl, Nat.le_of_ble_eq_true rfl⟩) hK hA hw [] rfl (by decide) rfl hl.1 rfl (Nat.le_of_ble_eq_true rfl) dX5_rooms_3 ⟨Nat.le_of_ble_eq_true rfl, Nat.le_of_ble_eq_true rfl⟩) rfl rfl rfl (fun H locs hw => ?_)
  refine lv_if_ne (tgt := 13) hx hb dX5_rooms_6 (by decide) (fun hc => ?_) (fun hc => ?_)
  · have hF := zif_f hc hF
    refine lv_iconst (v := (0 : Int32)) hx hb dX5_rooms_13 (by decide) ?_
    exact wX5_rooms_14 C0 hK hA hret   _ _ _ _ _ _ _ hF _ _ _ hw (lv_sub hl [0, 1] rfl)
  · have hF := zif_t hc hF
    refine lv_iconst (v := (1 : Int32)) hx hb dX5_rooms_9 (by decide) ?_
    refine lv_goto (tgt := 14) hx hb dX5_rooms_10 (by decide) ?_
    exact wX5_rooms_14 C0 hK hA hret   _ _ _ _ _ _ _ hF _ _ _ hw (lv_sub hl [0, 1] rfl)

/-! SealedBoardModel.room(II)I -/
abbrev rmX5_room : Room := { frames := 4, cells := 0, slots := 0, locals := 93 }
theorem kdX5_room : yX5_room.cls = RX5 ∧ yX5_room.cls ≠ "java/lang/invoke/MethodHandle" ∧ yX5_room.cls ≠ "java/lang/invoke/VarHandle" ∧ (parseMethodDescriptor yX5_room.desc).map (fun d => d.parameters.length) = some 2 := by decide +kernel
theorem inX5_room_X5 : ∀ w ∈ u_ws RX5 TX5 23, w ∈ wsX5_room := by decide +kernel
def fX5_room_43  (now : Nat → Int32) (thrown : Int32) (queue : Nat → Int32) (roomAt : Nat → Int32) (rooms : Int32) (x1 : Int32) (x2 : Int32) (s0 : Int32) (s1 : Int32) : Option (Int32 × Int32 × (Nat → Int32) × (Nat → Int32) × Int32) := (zbd (fX5_fails thrown s1 s0) (fun u1 => (if u1.1 = 0 then (zbd (fX5_findRooms now queue roomAt rooms x1) (fun u3 => (zck (zin x2 36) (some ((u3.2.1 x2.toNatClampNeg), u1.2, u3.1, u3.2.1, u3.2.2))))) else (some ((0 : Int32), u1.2, queue, roomAt, rooms)))))
def fX5_room_21  (now : Nat → Int32) (thrown : Int32) (queue : Nat → Int32) (roomAt : Nat → Int32) (rooms : Int32) (x1 : Int32) (x2 : Int32) (s0 : Int32) (s1 : Int32) : Option (Int32 × Int32 × (Nat → Int32) × (Nat → Int32) × Int32) := (zbd (fX5_fails thrown s1 s0) (fun u1 => (if u1.1 = 0 then (zbd (fX5_isOpen now x1 x2) (fun u3 => (if u3 = 0 then (fX5_room_43  now  u1.2 queue roomAt rooms x1 x2 (1 : Int32) (2 : Int32)) else (fX5_room_43  now  u1.2 queue roomAt rooms x1 x2 (0 : Int32) (2 : Int32))))) else (some ((0 : Int32), u1.2, queue, roomAt, rooms)))))
def fX5_room_16  (now : Nat → Int32) (thrown : Int32) (queue : Nat → Int32) (roomAt : Nat → Int32) (rooms : Int32) (x1 : Int32) (x2 : Int32) (s0 : Int32) : Option (Int32 × Int32 × (Nat → Int32) × (Nat → Int32) × Int32) := (fX5_room_21  now  thrown queue roomAt rooms x1 x2 (1 : Int32) s0)
def fX5_room (thrown : Int32) (now : Nat → Int32) (queue : Nat → Int32) (roomAt : Nat → Int32) (rooms : Int32) (p0 : Int32) (p1 : Int32) : Option (Int32 × Int32 × (Nat → Int32) × (Nat → Int32) × Int32) := (zbd (fX5_isSide p0) (fun u1 => (if u1 = 0 then (fX5_room_16  now  thrown queue roomAt rooms p0 p1 (1 : Int32)) else (zbd (fX5_isSquare p1) (fun u3 => (if u3 = 0 then (fX5_room_16  now  thrown queue roomAt rooms p0 p1 (1 : Int32)) else (fX5_room_21  now  thrown queue roomAt rooms p0 p1 (0 : Int32) (1 : Int32))))))))
set_option maxHeartbeats 400000 in
set_option maxRecDepth 100000 in
theorem wX5_room_43 {p : Program} {l : Launch} {e : Env} {s : State} {m : MethodId} {args : Array Value} {below : List Frame} {meth : Method} {c : Code} {A : Nat → Prop} {Q : State → Prop} {G : va_G} {k : Nat → ClassId} {ad : Nat → Nat} {now : Nat → Int32} {saved : Nat → Int32} {hist : Nat → Nat → Int32} {kept : Int32} {reason : Int32} {detail : Int32} {isSaved : Int32} {comes : Nat → Int32} {far : Nat → Int32} {isInText : Int32} {ahead : Nat → Int32} {text : Nat → Int32} {length : Int32} {at_ : Int32} {errorPosition : Int32} {toldFrom : Int32} {toldTo : Int32} {isWrong : Int32} {before : Nat → Int32} {o : Int32 × Int32 × (Nat → Int32) × (Nat → Int32) × Int32} (C0 : zCx p s m args meth c wsX5_room cX5_room RX5 (some .int) 3) (hK : zKK G k A s s.heap) (hA : ∀ q : Nat, s.heap.size ≤ q → A q) (hret : zRI p l e rmX5_room s m args below meth c cX5_room G A 0 0 Q .int (zM ad k o.2.1 now saved hist kept reason detail isSaved comes o.2.2.1 far isInText ahead o.2.2.2.1 o.2.2.2.2 text length at_ errorPosition toldFrom toldTo isWrong before) o.1)  : ∀ (thrown : Int32) (queue : Nat → Int32) (roomAt : Nat → Int32) (rooms : Int32) (x1 : Int32) (x2 : Int32) (s0 : Int32) (s1 : Int32), fX5_room_43  now thrown queue roomAt rooms x1 x2 s0 s1 = some o → ∀ (H : Heap) (locs : List Loc) (ls : Array Slot), zWd G A s (zM ad k thrown now saved hist kept reason detail isSaved comes queue far isInText ahead roomAt rooms text length at_ errorPosition toldFrom toldTo isWrong before) H locs → lv_has ls 3 [(0, .ref (ad 0)), (1, .int x1), (2, .int x2)] → W p l e rmX5_room s m args below meth c H locs 0 0 Q (F0 m 43 ls [.int s0, .int s1, .ref (ad 0)]) := by
  obtain ⟨hx, hb, hr, hml, hown, hts, hlocks⟩ := id C0
  intro thrown queue roomAt rooms x1 x2 s0 s1 hF H locs ls hw hl
  unfold fX5_room_43 at hF
  obtain ⟨u1, hq2, hF⟩ := zbd_t hF
  refine zgoIw (w' := (zM ad k u1.2 now saved hist kept reason detail isSaved comes queue far isInText ahead roomAt rooms text length at_ errorPosition toldFrom toldTo isWrong before)) hw hA (zVw (As := [.int s1, .int s0]) (rest := []) ⟨hx, hb, hml, hown, hts⟩ (mX5_fails l G k ad H.size thrown now saved hist kept reason detail isSaved comes queue far isInText ahead roomAt rooms text length at_ errorPosition toldFrom toldTo isWrong before s1 s0 u1 hq2) (cwV 2 hts gX5_room_X5_fails rfl rfl rfl kdX5_fails ⟨Nat.le_of_ble_eq_true rfl, Nat.le_of_ble_eq_true rfl⟩) hK hA hw 0 rfl rfl rfl rfl hl.1 rfl (Nat.le_of_ble_eq_true rfl) dX5_room_43 ⟨Nat.le_of_ble_eq_true rfl, Nat.le_of_ble_eq_true rfl⟩) (fun H locs hw => ?_)
  refine lv_if_eq (tgt := 51) hx hb dX5_room_46 (by decide) (fun hc => ?_) (fun hc => ?_)
  · have hF := zif_t hc hF
    refine lv_aload_n hx hb dX5_room_51 rfl (lv_at hl 0 rfl) ?_
    refine lv_iload_n hx hb dX5_room_52 rfl (lv_at hl 1 rfl) ?_
    obtain ⟨u3, hq4, hF⟩ := zbd_t hF
    refine zgoVw (w' := (zM ad k u1.2 now saved hist kept reason detail isSaved comes u3.1 far isInText ahead u3.2.1 u3.2.2 text length at_ errorPosition toldFrom toldTo isWrong before)) hw hA (zVw (As := [.int x1]) (rest := []) ⟨hx, hb, hml, hown, hts⟩ (mX5_findRooms l G k ad H.size u1.2 now saved hist kept reason detail isSaved comes queue far isInText ahead roomAt rooms text length at_ errorPosition toldFrom toldTo isWrong before x1 u3 hq4) (cwV 1 hts gX5_room_X5_findRooms rfl rfl rfl kdX5_findRooms ⟨Nat.le_of_ble_eq_true rfl, Nat.le_of_ble_eq_true rfl⟩) hK hA hw 0 rfl rfl rfl rfl hl.1 rfl (Nat.le_of_ble_eq_true rfl) dX5_room_53 ⟨Nat.le_of_ble_eq_true rfl, Nat.le_of_ble_eq_true rfl⟩) (fun H locs hw => ?_)
    refine lv_aload_n hx hb dX5_room_56 rfl (lv_at hl 0 rfl) ?_
    refine va_get (D := G) (ci := 4) (v := .ref (ad 8)) (C := RX5) (T := TX5) (N := 23) hx hb hts inX5_room_X5 hown hK.1 hw.1 0 rfl rfl 13 (by decide) (hts (.fieldLink RX5 34 "SealedBoardModel" "roomAt" "[I") (by decide +kernel)) (fun _ h9 => h9) rfl dX5_room_57 ?_
    refine lv_iload_n hx hb dX5_room_60 rfl (lv_at hl 2 rfl) ?_
    obtain ⟨hi5, hF⟩ := zck_in hF
    refine va_iald hx hb hK.1 hw.1 8 2 rfl rfl hi5 dX5_room_61 ?_
    obtain rfl := Option.some.inj hF
    exact hret _ _ _ _ rfl hw dX5_room_62
  · have hF := zif_f hc hF
    refine lv_iconst (v := (0 : Int32)) hx hb dX5_room_49 (by decide) ?_
    obtain rfl := Option.some.inj hF
    exact hret _ _ _ _ rfl hw dX5_room_50
set_option maxHeartbeats 400000 in
set_option maxRecDepth 100000 in
theorem wX5_room_21 {p : Program} {l : Launch} {e : Env} {s : State} {m : MethodId} {args : Array Value} {below : List Frame} {meth : Method} {c : Code} {A : Nat → Prop} {Q : State → Prop} {G : va_G} {k : Nat → ClassId} {ad : Nat → Nat} {now : Nat → Int32} {saved : Nat → Int32} {hist : Nat → Nat → Int32} {kept : Int32} {reason : Int32} {detail : Int32} {isSaved : Int32} {comes : Nat → Int32} {far : Nat → Int32} {isInText : Int32} {ahead : Nat → Int32} {text : Nat → Int32} {length : Int32} {at_ : Int32} {errorPosition : Int32} {toldFrom : Int32} {toldTo : Int32} {isWrong : Int32} {before : Nat → Int32} {o : Int32 × Int32 × (Nat → Int32) × (Nat → Int32) × Int32} (C0 : zCx p s m args meth c wsX5_room cX5_room RX5 (some .int) 3) (hK : zKK G k A s s.heap) (hA : ∀ q : Nat, s.heap.size ≤ q → A q) (hret : zRI p l e rmX5_room s m args below meth c cX5_room G A 0 0 Q .int (zM ad k o.2.1 now saved hist kept reason detail isSaved comes o.2.2.1 far isInText ahead o.2.2.2.1 o.2.2.2.2 text length at_ errorPosition toldFrom toldTo isWrong before) o.1)  : ∀ (thrown : Int32) (queue : Nat → Int32) (roomAt : Nat → Int32) (rooms : Int32) (x1 : Int32) (x2 : Int32) (s0 : Int32) (s1 : Int32), fX5_room_21  now thrown queue roomAt rooms x1 x2 s0 s1 = some o → ∀ (H : Heap) (locs : List Loc) (ls : Array Slot), zWd G A s (zM ad k thrown now saved hist kept reason detail isSaved comes queue far isInText ahead roomAt rooms text length at_ errorPosition toldFrom toldTo isWrong before) H locs → lv_has ls 3 [(0, .ref (ad 0)), (1, .int x1), (2, .int x2)] → W p l e rmX5_room s m args below meth c H locs 0 0 Q (F0 m 21 ls [.int s0, .int s1, .ref (ad 0)]) := by
  obtain ⟨hx, hb, hr, hml, hown, hts, hlocks⟩ := id C0
  intro thrown queue roomAt rooms x1 x2 s0 s1 hF H locs ls hw hl
  unfold fX5_room_21 at hF
  obtain ⟨u1, hq2, hF⟩ := zbd_t hF
  refine zgoIw (w' := (zM ad k u1.2 now saved hist kept reason detail isSaved comes queue far isInText ahead roomAt rooms text length at_ errorPosition toldFrom toldTo isWrong before)) hw hA (zVw (As := [.int s1, .int s0]) (rest := []) ⟨hx, hb, hml, hown, hts⟩ (mX5_fails l G k ad H.size thrown now saved hist kept reason detail isSaved comes queue far isInText ahead roomAt rooms text length at_ errorPosition toldFrom toldTo isWrong before s1 s0 u1 hq2) (cwV 2 hts gX5_room_X5_fails rfl rfl rfl kdX5_fails ⟨Nat.le_of_ble_eq_true rfl, Nat.le_of_ble_eq_true rfl⟩) hK hA hw 0 rfl rfl rfl rfl hl.1 rfl (Nat.le_of_ble_eq_true rfl) dX5_room_21 ⟨Nat.le_of_ble_eq_true rfl, Nat.le_of_ble_eq_true rfl⟩) (fun H locs hw => ?_)
  refine lv_if_ne (tgt := 49) hx hb dX5_room_24 (by decide) (fun hc => ?_) (fun hc => ?_)
  · have hF := zif_f hc hF
    refine lv_iconst (v := (0 : Int32)) hx hb dX5_room_49 (by decide) ?_
    obtain rfl := Option.some.inj hF
    exact hret _ _ _ _ rfl hw dX5_room_50
  · have hF := zif_t hc hF
    refine lv_aload_n hx hb dX5_room_27 rfl (lv_at hl 0 rfl) ?_
    refine lv_iconst (v := (2 : Int32)) hx hb dX5_room_28 (by decide) ?_
    refine lv_aload_n hx hb dX5_room_29 rfl (lv_at hl 0 rfl) ?_
    refine lv_iload_n hx hb dX5_room_30 rfl (lv_at hl 1 rfl) ?_
    refine lv_iload_n hx hb dX5_room_31 rfl (lv_at hl 2 rfl) ?_
    obtain ⟨u3, hq4, hF⟩ := zbd_t hF
    refine zgoIw (w' := (zM ad k u1.2 now saved hist kept reason detail isSaved comes queue far isInText ahead roomAt rooms text length at_ errorPosition toldFrom toldTo isWrong before)) hw hA (zVw (As := [.int x1, .int x2]) (rest := [.int (2 : Int32), .ref (ad 0)]) ⟨hx, hb, hml, hown, hts⟩ (mX5_isOpen l G k ad H.size u1.2 now saved hist kept reason detail isSaved comes queue far isInText ahead roomAt rooms text length at_ errorPosition toldFrom toldTo isWrong before x1 x2 u3 hq4) (cwV 2 hts gX5_room_X5_isOpen rfl rfl rfl kdX5_isOpen ⟨Nat.le_of_ble_eq_true rfl, Nat.le_of_ble_eq_true rfl⟩) hK hA hw 0 rfl rfl rfl rfl hl.1 rfl (Nat.le_of_ble_eq_true rfl) dX5_room_32 ⟨Nat.le_of_ble_eq_true rfl, Nat.le_of_ble_eq_true rfl⟩) (fun H locs hw => ?_)
    refine lv_if_ne (tgt := 42) hx hb dX5_room_35 (by decide) (fun hc => ?_) (fun hc => ?_)
    · have hF := zif_f hc hF
      refine lv_iconst (v := (0 : Int32)) hx hb dX5_room_42 (by decide) ?_
      exact wX5_room_43 C0 hK hA hret   _ _ _ _ _ _ _ _ hF _ _ _ hw (lv_sub hl [0, 1, 2] rfl)
    · have hF := zif_t hc hF
      refine lv_iconst (v := (1 : Int32)) hx hb dX5_room_38 (by decide) ?_
      refine lv_goto (tgt := 43) hx hb dX5_room_39 (by decide) ?_
      exact wX5_room_43 C0 hK hA hret   _ _ _ _ _ _ _ _ hF _ _ _ hw (lv_sub hl [0, 1, 2] rfl)
set_option maxHeartbeats 400000 in
set_option maxRecDepth 100000 in
theorem wX5_room_16 {p : Program} {l : Launch} {e : Env} {s : State} {m : MethodId} {args : Array Value} {below : List Frame} {meth : Method} {c : Code} {A : Nat → Prop} {Q : State → Prop} {G : va_G} {k : Nat → ClassId} {ad : Nat → Nat} {now : Nat → Int32} {saved : Nat → Int32} {hist : Nat → Nat → Int32} {kept : Int32} {reason : Int32} {detail : Int32} {isSaved : Int32} {comes : Nat → Int32} {far : Nat → Int32} {isInText : Int32} {ahead : Nat → Int32} {text : Nat → Int32} {length : Int32} {at_ : Int32} {errorPosition : Int32} {toldFrom : Int32} {toldTo : Int32} {isWrong : Int32} {before : Nat → Int32} {o : Int32 × Int32 × (Nat → Int32) × (Nat → Int32) × Int32} (C0 : zCx p s m args meth c wsX5_room cX5_room RX5 (some .int) 3) (hK : zKK G k A s s.heap) (hA : ∀ q : Nat, s.heap.size ≤ q → A q) (hret : zRI p l e rmX5_room s m args below meth c cX5_room G A 0 0 Q .int (zM ad k o.2.1 now saved hist kept reason detail isSaved comes o.2.2.1 far isInText ahead o.2.2.2.1 o.2.2.2.2 text length at_ errorPosition toldFrom toldTo isWrong before) o.1)  : ∀ (thrown : Int32) (queue : Nat → Int32) (roomAt : Nat → Int32) (rooms : Int32) (x1 : Int32) (x2 : Int32) (s0 : Int32), fX5_room_16  now thrown queue roomAt rooms x1 x2 s0 = some o → ∀ (H : Heap) (locs : List Loc) (ls : Array Slot), zWd G A s (zM ad k thrown now saved hist kept reason detail isSaved comes queue far isInText ahead roomAt rooms text length at_ errorPosition toldFrom toldTo isWrong before) H locs → lv_has ls 3 [(0, .ref (ad 0)), (1, .int x1), (2, .int x2)] → W p l e rmX5_room s m args below meth c H locs 0 0 Q (F0 m 16 ls [.int s0, .ref (ad 0)]) := by
  obtain ⟨hx, hb, hr, hml, hown, hts, hlocks⟩ := id C0
  intro thrown queue roomAt rooms x1 x2 s0 hF H locs ls hw hl
  unfold fX5_room_16 at hF
  refine lv_iconst (v := (1 : Int32)) hx hb dX5_room_16 (by decide) ?_
  refine lv_goto (tgt := 21) hx hb dX5_room_17 (by decide) ?_
  exact wX5_room_21 C0 hK hA hret   _ _ _ _ _ _ _ _ hF _ _ _ hw (lv_sub hl [0, 1, 2] rfl)
set_option maxHeartbeats 400000 in
set_option maxRecDepth 100000 in
theorem mX5_room (l : Launch) (G : va_G) (k : Nat → ClassId) (ad : Nat → Nat) (sz : Nat) (thrown : Int32) (now : Nat → Int32) (saved : Nat → Int32) (hist : Nat → Nat → Int32) (kept : Int32) (reason : Int32) (detail : Int32) (isSaved : Int32) (comes : Nat → Int32) (queue : Nat → Int32) (far : Nat → Int32) (isInText : Int32) (ahead : Nat → Int32) (roomAt : Nat → Int32) (rooms : Int32) (text : Nat → Int32) (length : Int32) (at_ : Int32) (errorPosition : Int32) (toldFrom : Int32) (toldTo : Int32) (isWrong : Int32) (before : Nat → Int32) (p0 : Int32) (p1 : Int32) (o : Int32 × Int32 × (Nat → Int32) × (Nat → Int32) × Int32) (hF : fX5_room thrown now queue roomAt rooms p0 p1 = some o) : zMI l yX5_room wsX5_room rmX5_room G k (zM ad k thrown now saved hist kept reason detail isSaved comes queue far isInText ahead roomAt rooms text length at_ errorPosition toldFrom toldTo isWrong before) sz [.ref (ad 0), .int p0, .int p1] o.1 (zM ad k o.2.1 now saved hist kept reason detail isSaved comes o.2.2.1 far isInText ahead o.2.2.2.1 o.2.2.2.2 text length at_ errorPosition toldFrom toldTo isWrong before) := by
  refine zof_I (cc := cX5_room) (nL := 3) (own := RX5) (rt := .int) (by decide) rfl rfl (Nat.le_of_ble_eq_true rfl) ?_
  intro p e s m args below meth c A Q C0 hK hA hret ls hl hw
  have hl : lv_has ls 3 [(0, .ref (ad 0)), (1, .int p0), (2, .int p1)] := hl
  obtain ⟨hx, hb, hr, hml, hown, hts, hlocks⟩ := id C0
  obtain ⟨H, hH⟩ : ∃ z, z = s.heap := ⟨_, rfl⟩
  rw [← hH] at hw ⊢
  unfold fX5_room at hF
  refine lv_aload_n hx hb dX5_room_0 rfl (lv_at hl 0 rfl) ?_
  refine lv_iconst (v := (1 : Int32)) hx hb dX5_room_1 (by decide) ?_
  refine lv_iload_n hx hb dX5_room_2 rfl (lv_at hl 1 rfl) ?_
  obtain ⟨u1, hq2, hF⟩ := zbd_t hF
  refine zgoI (w' := (zM ad k thrown now saved hist kept reason detail isSaved comes queue far isInText ahead roomAt rooms text length at_ errorPosition toldFrom toldTo isWrong before)) hw hA [] rfl (zS (As := [.int p0]) (rest := [.int (1 : Int32), .ref (ad 0)]) ⟨hx, hb, hml, hown, hts⟩ (mX5_isSide l G k  H.size  p0 u1 hq2) (va_cwS 1 hts gX5_room_X5_isSide rfl rfl rfl kdX5_isSide ⟨Nat.le_of_ble_eq_true rfl, Nat.le_of_ble_eq_true rfl⟩) hK hA hw [] rfl (by decide) rfl hl.1 rfl (Nat.le_of_ble_eq_true rfl) dX5_room_3 ⟨Nat.le_of_ble_eq_true rfl, Nat.le_of_ble_eq_true rfl⟩) rfl rfl rfl (fun H locs hw => ?_)
  refine lv_if_eq (tgt := 16) hx hb dX5_room_6 (by decide) (fun hc => ?_) (fun hc => ?_)
  · have hF := zif_t hc hF
    exact wX5_room_16 C0 hK hA hret   _ _ _ _ _ _ _ hF _ _ _ hw (lv_sub hl [0, 1, 2] rfl)
  · have hF := zif_f hc hF
    refine lv_iload_n hx hb dX5_room_9 rfl (lv_at hl 2 rfl) ?_
    obtain ⟨u3, hq4, hF⟩ := zbd_t hF
    refine zgoI (w' := (zM ad k thrown now saved hist kept reason detail isSaved comes queue far isInText ahead roomAt rooms text length at_ errorPosition toldFrom toldTo isWrong before)) hw hA [] rfl (zS (As := [.int p1]) (rest := [.int (1 : Int32), .ref (ad 0)]) ⟨hx, hb, hml, hown, hts⟩ (mX5_isSquare l G k  H.size  p1 u3 hq4) (va_cwS 1 hts gX5_room_X5_isSquare rfl rfl rfl kdX5_isSquare ⟨Nat.le_of_ble_eq_true rfl, Nat.le_of_ble_eq_true rfl⟩) hK hA hw [] rfl (by decide) rfl hl.1 rfl (Nat.le_of_ble_eq_true rfl) dX5_room_10 ⟨Nat.le_of_ble_eq_true rfl, Nat.le_of_ble_eq_true rfl⟩) rfl rfl rfl (fun H locs hw => ?_)
    refine lv_if_ne (tgt := 20) hx hb dX5_room_13 (by decide) (fun hc => ?_) (fun hc => ?_)
    · have hF := zif_f hc hF
      refine lv_iconst (v := (0 : Int32)) hx hb dX5_room_20 (by decide) ?_
      exact wX5_room_21 C0 hK hA hret   _ _ _ _ _ _ _ _ hF _ _ _ hw (lv_sub hl [0, 1, 2] rfl)
    · have hF := zif_t hc hF
      exact wX5_room_16 C0 hK hA hret   _ _ _ _ _ _ _ hF _ _ _ hw (lv_sub hl [0, 1, 2] rfl)

/-! SealedBoardModel.doorsIn(I)I -/
abbrev rmX5_doorsIn : Room := { frames := 0, cells := 0, slots := 0, locals := 0 }
theorem kdX5_doorsIn : yX5_doorsIn.cls = RX5 ∧ yX5_doorsIn.cls ≠ "java/lang/invoke/MethodHandle" ∧ yX5_doorsIn.cls ≠ "java/lang/invoke/VarHandle" ∧ (parseMethodDescriptor yX5_doorsIn.desc).map (fun d => d.parameters.length) = some 1 := by decide +kernel
theorem inX5_doorsIn_X5 : ∀ w ∈ u_ws RX5 TX5 23, w ∈ wsX5_doorsIn := by decide +kernel
def fX5_doorsIn_38 (k4 : Int32 → Int32 → Int32 → Option (Int32)) (now : Nat → Int32) (roomAt : Nat → Int32) (x1 : Int32) (x3 : Int32) (s0 : Int32) (s1 : Int32) : Option (Int32) := (zbn (s1 + s0) (fun a1 => (zbn (x3 + (1 : Int32)) (fun a2 => (k4 x1 a1 a2)))))
def fX5_doorsIn_37 (k4 : Int32 → Int32 → Int32 → Option (Int32)) (now : Nat → Int32) (roomAt : Nat → Int32) (x1 : Int32) (x3 : Int32) (s0 : Int32) : Option (Int32) := (fX5_doorsIn_38 k4 now roomAt  x1 x3 (0 : Int32) s0)
def fX5_doorsIn_4  (now : Nat → Int32) (roomAt : Nat → Int32) : Nat → Int32 → Int32 → Int32 → Option (Int32)
  | 0, _, _, _ => none
  | n + 1, x1, x2, x3 => (if (36 : Int32) ≤ x3 then (some (x2)) else (zck (zin x3 36) (if (roomAt x3.toNatClampNeg) = x1 then (zck (zin ((36 : Int32) + x3) 76) (if (now ((36 : Int32) + x3).toNatClampNeg) ≤ 0 then (fX5_doorsIn_37 (fun b0 b1 b2 => fX5_doorsIn_4  now roomAt n b0 b1 b2) now roomAt  x1 x3 x2) else (fX5_doorsIn_38 (fun b0 b1 b2 => fX5_doorsIn_4  now roomAt n b0 b1 b2) now roomAt  x1 x3 (1 : Int32) x2))) else (fX5_doorsIn_37 (fun b0 b1 b2 => fX5_doorsIn_4  now roomAt n b0 b1 b2) now roomAt  x1 x3 x2))))
def fX5_doorsIn (now : Nat → Int32) (roomAt : Nat → Int32) (p0 : Int32) : Option (Int32) := (fX5_doorsIn_4  now roomAt zFu p0 (0 : Int32) (0 : Int32))
set_option maxHeartbeats 400000 in
set_option maxRecDepth 100000 in
theorem wX5_doorsIn_38 {p : Program} {l : Launch} {e : Env} {s : State} {m : MethodId} {args : Array Value} {below : List Frame} {meth : Method} {c : Code} {A : Nat → Prop} {Q : State → Prop} {G : va_G} {k : Nat → ClassId} {ad : Nat → Nat} {thrown : Int32} {now : Nat → Int32} {saved : Nat → Int32} {hist : Nat → Nat → Int32} {kept : Int32} {reason : Int32} {detail : Int32} {isSaved : Int32} {comes : Nat → Int32} {queue : Nat → Int32} {far : Nat → Int32} {isInText : Int32} {ahead : Nat → Int32} {roomAt : Nat → Int32} {rooms : Int32} {text : Nat → Int32} {length : Int32} {at_ : Int32} {errorPosition : Int32} {toldFrom : Int32} {toldTo : Int32} {isWrong : Int32} {before : Nat → Int32} {o : Int32} (C0 : zCx p s m args meth c wsX5_doorsIn cX5_doorsIn RX5 (some .int) 4) (hK : zKK G k A s s.heap) (hA : ∀ q : Nat, s.heap.size ≤ q → A q) (hret : zRI p l e rmX5_doorsIn s m args below meth c cX5_doorsIn G A 0 0 Q .int (zM ad k thrown now saved hist kept reason detail isSaved comes queue far isInText ahead roomAt rooms text length at_ errorPosition toldFrom toldTo isWrong before) o) (k4 : Int32 → Int32 → Int32 → Option (Int32)) (hk4 : ∀ (x1 : Int32) (x2 : Int32) (x3 : Int32), k4 x1 x2 x3 = some o → ∀ (H : Heap) (locs : List Loc) (ls : Array Slot), zWd G A s (zM ad k thrown now saved hist kept reason detail isSaved comes queue far isInText ahead roomAt rooms text length at_ errorPosition toldFrom toldTo isWrong before) H locs → lv_has ls 4 [(0, .ref (ad 0)), (1, .int x1), (2, .int x2), (3, .int x3)] → W p l e rmX5_doorsIn s m args below meth c H locs 0 0 Q (F0 m 4 ls [])) : ∀ (x1 : Int32) (x3 : Int32) (s0 : Int32) (s1 : Int32), fX5_doorsIn_38 k4 now roomAt x1 x3 s0 s1 = some o → ∀ (H : Heap) (locs : List Loc) (ls : Array Slot), zWd G A s (zM ad k thrown now saved hist kept reason detail isSaved comes queue far isInText ahead roomAt rooms text length at_ errorPosition toldFrom toldTo isWrong before) H locs → lv_has ls 4 [(0, .ref (ad 0)), (1, .int x1), (3, .int x3)] → W p l e rmX5_doorsIn s m args below meth c H locs 0 0 Q (F0 m 38 ls [.int s0, .int s1]) := by
  obtain ⟨hx, hb, hr, hml, hown, hts, hlocks⟩ := id C0
  intro x1 x3 s0 s1 hF H locs ls hw hl
  unfold fX5_doorsIn_38 at hF
  refine lv_iadd hx hb dX5_doorsIn_38 ?_
  refine lv_topi (fun a1 ea1 => ?_)
  have hF := zbn_t ea1 hF
  refine lv_istore_n (lv' := [(2, .int a1), (0, .ref (ad 0)), (1, .int x1), (3, .int x3)]) hx hb dX5_doorsIn_39 rfl hl (by decide) rfl (fun ls hl => ?_)
  obtain ⟨a2, ea2⟩ : ∃ z : Int32, z = x3 + (1 : Int32) := ⟨_, rfl⟩
  have hF := zbn_t ea2 hF
  refine lv_iinc (v := a2) (lv' := [(3, .int a2), (2, .int a1), (0, .ref (ad 0)), (1, .int x1)]) hx hb dX5_doorsIn_40 hl (k := 3) rfl (by rw [ea2]; rfl) (by decide) rfl (fun ls hl => ?_)
  refine lv_goto (tgt := 4) hx hb dX5_doorsIn_43 (by decide) ?_
  exact hk4 _ _ _ hF _ _ _ hw (lv_sub hl [2, 3, 1, 0] rfl)
set_option maxHeartbeats 400000 in
set_option maxRecDepth 100000 in
theorem wX5_doorsIn_37 {p : Program} {l : Launch} {e : Env} {s : State} {m : MethodId} {args : Array Value} {below : List Frame} {meth : Method} {c : Code} {A : Nat → Prop} {Q : State → Prop} {G : va_G} {k : Nat → ClassId} {ad : Nat → Nat} {thrown : Int32} {now : Nat → Int32} {saved : Nat → Int32} {hist : Nat → Nat → Int32} {kept : Int32} {reason : Int32} {detail : Int32} {isSaved : Int32} {comes : Nat → Int32} {queue : Nat → Int32} {far : Nat → Int32} {isInText : Int32} {ahead : Nat → Int32} {roomAt : Nat → Int32} {rooms : Int32} {text : Nat → Int32} {length : Int32} {at_ : Int32} {errorPosition : Int32} {toldFrom : Int32} {toldTo : Int32} {isWrong : Int32} {before : Nat → Int32} {o : Int32} (C0 : zCx p s m args meth c wsX5_doorsIn cX5_doorsIn RX5 (some .int) 4) (hK : zKK G k A s s.heap) (hA : ∀ q : Nat, s.heap.size ≤ q → A q) (hret : zRI p l e rmX5_doorsIn s m args below meth c cX5_doorsIn G A 0 0 Q .int (zM ad k thrown now saved hist kept reason detail isSaved comes queue far isInText ahead roomAt rooms text length at_ errorPosition toldFrom toldTo isWrong before) o) (k4 : Int32 → Int32 → Int32 → Option (Int32)) (hk4 : ∀ (x1 : Int32) (x2 : Int32) (x3 : Int32), k4 x1 x2 x3 = some o → ∀ (H : Heap) (locs : List Loc) (ls : Array Slot), zWd G A s (zM ad k thrown now saved hist kept reason detail isSaved comes queue far isInText ahead roomAt rooms text length at_ errorPosition toldFrom toldTo isWrong before) H locs → lv_has ls 4 [(0, .ref (ad 0)), (1, .int x1), (2, .int x2), (3, .int x3)] → W p l e rmX5_doorsIn s m args below meth c H locs 0 0 Q (F0 m 4 ls [])) : ∀ (x1 : Int32) (x3 : Int32) (s0 : Int32), fX5_doorsIn_37 k4 now roomAt x1 x3 s0 = some o → ∀ (H : Heap) (locs : List Loc) (ls : Array Slot), zWd G A s (zM ad k thrown now saved hist kept reason detail isSaved comes queue far isInText ahead roomAt rooms text length at_ errorPosition toldFrom toldTo isWrong before) H locs → lv_has ls 4 [(0, .ref (ad 0)), (1, .int x1), (3, .int x3)] → W p l e rmX5_doorsIn s m args below meth c H locs 0 0 Q (F0 m 37 ls [.int s0]) := by
  obtain ⟨hx, hb, hr, hml, hown, hts, hlocks⟩ := id C0
  intro x1 x3 s0 hF H locs ls hw hl
  unfold fX5_doorsIn_37 at hF
  refine lv_iconst (v := (0 : Int32)) hx hb dX5_doorsIn_37 (by decide) ?_
  exact wX5_doorsIn_38 C0 hK hA hret k4 hk4  _ _ _ _ hF _ _ _ hw (lv_sub hl [0, 1, 2] rfl)
set_option maxHeartbeats 400000 in
set_option maxRecDepth 100000 in
theorem wX5_doorsIn_4 {p : Program} {l : Launch} {e : Env} {s : State} {m : MethodId} {args : Array Value} {below : List Frame} {meth : Method} {c : Code} {A : Nat → Prop} {Q : State → Prop} {G : va_G} {k : Nat → ClassId} {ad : Nat → Nat} {thrown : Int32} {now : Nat → Int32} {saved : Nat → Int32} {hist : Nat → Nat → Int32} {kept : Int32} {reason : Int32} {detail : Int32} {isSaved : Int32} {comes : Nat → Int32} {queue : Nat → Int32} {far : Nat → Int32} {isInText : Int32} {ahead : Nat → Int32} {roomAt : Nat → Int32} {rooms : Int32} {text : Nat → Int32} {length : Int32} {at_ : Int32} {errorPosition : Int32} {toldFrom : Int32} {toldTo : Int32} {isWrong : Int32} {before : Nat → Int32} {o : Int32} (C0 : zCx p s m args meth c wsX5_doorsIn cX5_doorsIn RX5 (some .int) 4) (hK : zKK G k A s s.heap) (hA : ∀ q : Nat, s.heap.size ≤ q → A q) (hret : zRI p l e rmX5_doorsIn s m args below meth c cX5_doorsIn G A 0 0 Q .int (zM ad k thrown now saved hist kept reason detail isSaved comes queue far isInText ahead roomAt rooms text length at_ errorPosition toldFrom toldTo isWrong before) o)  : ∀ (n : Nat) (x1 : Int32) (x2 : Int32) (x3 : Int32), fX5_doorsIn_4  now roomAt n x1 x2 x3 = some o → ∀ (H : Heap) (locs : List Loc) (ls : Array Slot), zWd G A s (zM ad k thrown now saved hist kept reason detail isSaved comes queue far isInText ahead roomAt rooms text length at_ errorPosition toldFrom toldTo isWrong before) H locs → lv_has ls 4 [(0, .ref (ad 0)), (1, .int x1), (2, .int x2), (3, .int x3)] → W p l e rmX5_doorsIn s m args below meth c H locs 0 0 Q (F0 m 4 ls []) := by
  obtain ⟨hx, hb, hr, hml, hown, hts, hlocks⟩ := id C0
  intro n
  induction n with
  | zero => intro x1 x2 x3 hF; exact nomatch hF
  | succ n ih =>
    intro x1 x2 x3 hF H locs ls hw hl
    rw [fX5_doorsIn_4] at hF
    refine lv_iload_n hx hb dX5_doorsIn_4 rfl (lv_at hl 3 rfl) ?_
    refine lv_bipush (v := (36 : Int32)) hx hb dX5_doorsIn_5 (by decide) ?_
    refine lv_icmp_ge (tgt := 46) hx hb dX5_doorsIn_7 (by decide) (fun hc => ?_) (fun hc => ?_)
    · have hF := zif_t hc hF
      refine lv_iload_n hx hb dX5_doorsIn_46 rfl (lv_at hl 2 rfl) ?_
      obtain rfl := Option.some.inj hF
      exact hret _ _ _ _ rfl hw dX5_doorsIn_47
    · have hF := zif_f hc hF
      refine lv_iload_n hx hb dX5_doorsIn_10 rfl (lv_at hl 2 rfl) ?_
      refine lv_aload_n hx hb dX5_doorsIn_11 rfl (lv_at hl 0 rfl) ?_
      refine va_get (D := G) (ci := 4) (v := .ref (ad 8)) (C := RX5) (T := TX5) (N := 23) hx hb hts inX5_doorsIn_X5 hown hK.1 hw.1 0 rfl rfl 13 (by decide) (hts (.fieldLink RX5 34 "SealedBoardModel" "roomAt" "[I") (by decide +kernel)) (fun _ h9 => h9) rfl dX5_doorsIn_12 ?_
      refine lv_iload_n hx hb dX5_doorsIn_15 rfl (lv_at hl 3 rfl) ?_
      obtain ⟨hi1, hF⟩ := zck_in hF
      refine va_iald hx hb hK.1 hw.1 8 2 rfl rfl hi1 dX5_doorsIn_16 ?_
      refine lv_iload_n hx hb dX5_doorsIn_17 rfl (lv_at hl 1 rfl) ?_
      refine lv_icmp_ne (tgt := 37) hx hb dX5_doorsIn_18 (by decide) (fun hc => ?_) (fun hc => ?_)
      · have hF := zif_f hc hF
        exact wX5_doorsIn_37 C0 hK hA hret (fun b0 b1 b2 => fX5_doorsIn_4  now roomAt n b0 b1 b2) ih  _ _ _ hF _ _ _ hw (lv_sub hl [0, 1, 3] rfl)
      · have hF := zif_t hc hF
        refine lv_aload_n hx hb dX5_doorsIn_21 rfl (lv_at hl 0 rfl) ?_
        refine va_get (D := G) (ci := 4) (v := .ref (ad 1)) (C := RX5) (T := TX5) (N := 23) hx hb hts inX5_doorsIn_X5 hown hK.1 hw.1 0 rfl rfl 1 (by decide) (hts (.fieldLink RX5 9 "SealedBoardModel" "now" "[I") (by decide +kernel)) (fun _ h9 => h9) rfl dX5_doorsIn_22 ?_
        refine lv_bipush (v := (36 : Int32)) hx hb dX5_doorsIn_25 (by decide) ?_
        refine lv_iload_n hx hb dX5_doorsIn_27 rfl (lv_at hl 3 rfl) ?_
        refine lv_iadd hx hb dX5_doorsIn_28 ?_
        obtain ⟨hi2, hF⟩ := zck_in hF
        refine va_iald hx hb hK.1 hw.1 1 2 rfl rfl hi2 dX5_doorsIn_29 ?_
        refine lv_if_le (tgt := 37) hx hb dX5_doorsIn_30 (by decide) (fun hc => ?_) (fun hc => ?_)
        · have hF := zif_t hc hF
          exact wX5_doorsIn_37 C0 hK hA hret (fun b0 b1 b2 => fX5_doorsIn_4  now roomAt n b0 b1 b2) ih  _ _ _ hF _ _ _ hw (lv_sub hl [0, 1, 3] rfl)
        · have hF := zif_f hc hF
          refine lv_iconst (v := (1 : Int32)) hx hb dX5_doorsIn_33 (by decide) ?_
          refine lv_goto (tgt := 38) hx hb dX5_doorsIn_34 (by decide) ?_
          exact wX5_doorsIn_38 C0 hK hA hret (fun b0 b1 b2 => fX5_doorsIn_4  now roomAt n b0 b1 b2) ih  _ _ _ _ hF _ _ _ hw (lv_sub hl [0, 1, 3] rfl)
set_option maxHeartbeats 400000 in
set_option maxRecDepth 100000 in
theorem mX5_doorsIn (l : Launch) (G : va_G) (k : Nat → ClassId) (ad : Nat → Nat) (sz : Nat) (thrown : Int32) (now : Nat → Int32) (saved : Nat → Int32) (hist : Nat → Nat → Int32) (kept : Int32) (reason : Int32) (detail : Int32) (isSaved : Int32) (comes : Nat → Int32) (queue : Nat → Int32) (far : Nat → Int32) (isInText : Int32) (ahead : Nat → Int32) (roomAt : Nat → Int32) (rooms : Int32) (text : Nat → Int32) (length : Int32) (at_ : Int32) (errorPosition : Int32) (toldFrom : Int32) (toldTo : Int32) (isWrong : Int32) (before : Nat → Int32) (p0 : Int32) (o : Int32) (hF : fX5_doorsIn now roomAt p0 = some o) : zMI l yX5_doorsIn wsX5_doorsIn rmX5_doorsIn G k (zM ad k thrown now saved hist kept reason detail isSaved comes queue far isInText ahead roomAt rooms text length at_ errorPosition toldFrom toldTo isWrong before) sz [.ref (ad 0), .int p0] o (zM ad k thrown now saved hist kept reason detail isSaved comes queue far isInText ahead roomAt rooms text length at_ errorPosition toldFrom toldTo isWrong before) := by
  refine zof_I (cc := cX5_doorsIn) (nL := 4) (own := RX5) (rt := .int) (by decide) rfl rfl (Nat.le_of_ble_eq_true rfl) ?_
  intro p e s m args below meth c A Q C0 hK hA hret ls hl hw
  have hl : lv_has ls 4 [(0, .ref (ad 0)), (1, .int p0)] := hl
  obtain ⟨hx, hb, hr, hml, hown, hts, hlocks⟩ := id C0
  obtain ⟨H, hH⟩ : ∃ z, z = s.heap := ⟨_, rfl⟩
  rw [← hH] at hw ⊢
  unfold fX5_doorsIn at hF
  refine lv_iconst (v := (0 : Int32)) hx hb dX5_doorsIn_0 (by decide) ?_
  refine lv_istore_n (lv' := [(2, .int (0 : Int32)), (0, .ref (ad 0)), (1, .int p0)]) hx hb dX5_doorsIn_1 rfl hl (by decide) rfl (fun ls hl => ?_)
  refine lv_iconst (v := (0 : Int32)) hx hb dX5_doorsIn_2 (by decide) ?_
  refine lv_istore_n (lv' := [(3, .int (0 : Int32)), (2, .int (0 : Int32)), (0, .ref (ad 0)), (1, .int p0)]) hx hb dX5_doorsIn_3 rfl hl (by decide) rfl (fun ls hl => ?_)
  exact wX5_doorsIn_4 C0 hK hA hret  zFu _ _ _ hF _ _ _ hw (lv_sub hl [2, 3, 1, 0] rfl)

/-! SealedBoardModel.lowestIn(I)I -/
abbrev rmX5_lowestIn : Room := { frames := 0, cells := 0, slots := 0, locals := 0 }
theorem kdX5_lowestIn : yX5_lowestIn.cls = RX5 ∧ yX5_lowestIn.cls ≠ "java/lang/invoke/MethodHandle" ∧ yX5_lowestIn.cls ≠ "java/lang/invoke/VarHandle" ∧ (parseMethodDescriptor yX5_lowestIn.desc).map (fun d => d.parameters.length) = some 1 := by decide +kernel
theorem inX5_lowestIn_X5 : ∀ w ∈ u_ws RX5 TX5 23, w ∈ wsX5_lowestIn := by decide +kernel
def fX5_lowestIn_2  (roomAt : Nat → Int32) : Nat → Int32 → Int32 → Option (Int32)
  | 0, _, _ => none
  | n + 1, x1, x2 => (zck (zin x2 36) (if (roomAt x2.toNatClampNeg) = x1 then (some (x2)) else (zbn (x2 + (1 : Int32)) (fun a2 => (fX5_lowestIn_2  roomAt n x1 a2)))))
def fX5_lowestIn (roomAt : Nat → Int32) (p0 : Int32) : Option (Int32) := (fX5_lowestIn_2  roomAt zFu p0 (0 : Int32))
set_option maxHeartbeats 400000 in
set_option maxRecDepth 100000 in
theorem wX5_lowestIn_2 {p : Program} {l : Launch} {e : Env} {s : State} {m : MethodId} {args : Array Value} {below : List Frame} {meth : Method} {c : Code} {A : Nat → Prop} {Q : State → Prop} {G : va_G} {k : Nat → ClassId} {ad : Nat → Nat} {thrown : Int32} {now : Nat → Int32} {saved : Nat → Int32} {hist : Nat → Nat → Int32} {kept : Int32} {reason : Int32} {detail : Int32} {isSaved : Int32} {comes : Nat → Int32} {queue : Nat → Int32} {far : Nat → Int32} {isInText : Int32} {ahead : Nat → Int32} {roomAt : Nat → Int32} {rooms : Int32} {text : Nat → Int32} {length : Int32} {at_ : Int32} {errorPosition : Int32} {toldFrom : Int32} {toldTo : Int32} {isWrong : Int32} {before : Nat → Int32} {o : Int32} (C0 : zCx p s m args meth c wsX5_lowestIn cX5_lowestIn RX5 (some .int) 3) (hK : zKK G k A s s.heap) (hA : ∀ q : Nat, s.heap.size ≤ q → A q) (hret : zRI p l e rmX5_lowestIn s m args below meth c cX5_lowestIn G A 0 0 Q .int (zM ad k thrown now saved hist kept reason detail isSaved comes queue far isInText ahead roomAt rooms text length at_ errorPosition toldFrom toldTo isWrong before) o)  : ∀ (n : Nat) (x1 : Int32) (x2 : Int32), fX5_lowestIn_2  roomAt n x1 x2 = some o → ∀ (H : Heap) (locs : List Loc) (ls : Array Slot), zWd G A s (zM ad k thrown now saved hist kept reason detail isSaved comes queue far isInText ahead roomAt rooms text length at_ errorPosition toldFrom toldTo isWrong before) H locs → lv_has ls 3 [(0, .ref (ad 0)), (1, .int x1), (2, .int x2)] → W p l e rmX5_lowestIn s m args below meth c H locs 0 0 Q (F0 m 2 ls []) := by
  obtain ⟨hx, hb, hr, hml, hown, hts, hlocks⟩ := id C0
  intro n
  induction n with
  | zero => intro x1 x2 hF; exact nomatch hF
  | succ n ih =>
    intro x1 x2 hF H locs ls hw hl
    rw [fX5_lowestIn_2] at hF
    refine lv_aload_n hx hb dX5_lowestIn_2 rfl (lv_at hl 0 rfl) ?_
    refine va_get (D := G) (ci := 4) (v := .ref (ad 8)) (C := RX5) (T := TX5) (N := 23) hx hb hts inX5_lowestIn_X5 hown hK.1 hw.1 0 rfl rfl 13 (by decide) (hts (.fieldLink RX5 34 "SealedBoardModel" "roomAt" "[I") (by decide +kernel)) (fun _ h9 => h9) rfl dX5_lowestIn_3 ?_
    refine lv_iload_n hx hb dX5_lowestIn_6 rfl (lv_at hl 2 rfl) ?_
    obtain ⟨hi1, hF⟩ := zck_in hF
    refine va_iald hx hb hK.1 hw.1 8 2 rfl rfl hi1 dX5_lowestIn_7 ?_
    refine lv_iload_n hx hb dX5_lowestIn_8 rfl (lv_at hl 1 rfl) ?_
    refine lv_icmp_eq (tgt := 18) hx hb dX5_lowestIn_9 (by decide) (fun hc => ?_) (fun hc => ?_)
    · have hF := zif_t hc hF
      refine lv_iload_n hx hb dX5_lowestIn_18 rfl (lv_at hl 2 rfl) ?_
      obtain rfl := Option.some.inj hF
      exact hret _ _ _ _ rfl hw dX5_lowestIn_19
    · have hF := zif_f hc hF
      obtain ⟨a2, ea2⟩ : ∃ z : Int32, z = x2 + (1 : Int32) := ⟨_, rfl⟩
      have hF := zbn_t ea2 hF
      refine lv_iinc (v := a2) (lv' := [(2, .int a2), (0, .ref (ad 0)), (1, .int x1)]) hx hb dX5_lowestIn_12 hl (k := 2) rfl (by rw [ea2]; rfl) (by decide) rfl (fun ls hl => ?_)
      refine lv_goto (tgt := 2) hx hb dX5_lowestIn_15 (by decide) ?_
      exact ih _ _ hF _ _ _ hw (lv_sub hl [1, 2, 0] rfl)
set_option maxHeartbeats 400000 in
set_option maxRecDepth 100000 in
theorem mX5_lowestIn (l : Launch) (G : va_G) (k : Nat → ClassId) (ad : Nat → Nat) (sz : Nat) (thrown : Int32) (now : Nat → Int32) (saved : Nat → Int32) (hist : Nat → Nat → Int32) (kept : Int32) (reason : Int32) (detail : Int32) (isSaved : Int32) (comes : Nat → Int32) (queue : Nat → Int32) (far : Nat → Int32) (isInText : Int32) (ahead : Nat → Int32) (roomAt : Nat → Int32) (rooms : Int32) (text : Nat → Int32) (length : Int32) (at_ : Int32) (errorPosition : Int32) (toldFrom : Int32) (toldTo : Int32) (isWrong : Int32) (before : Nat → Int32) (p0 : Int32) (o : Int32) (hF : fX5_lowestIn roomAt p0 = some o) : zMI l yX5_lowestIn wsX5_lowestIn rmX5_lowestIn G k (zM ad k thrown now saved hist kept reason detail isSaved comes queue far isInText ahead roomAt rooms text length at_ errorPosition toldFrom toldTo isWrong before) sz [.ref (ad 0), .int p0] o (zM ad k thrown now saved hist kept reason detail isSaved comes queue far isInText ahead roomAt rooms text length at_ errorPosition toldFrom toldTo isWrong before) := by
  refine zof_I (cc := cX5_lowestIn) (nL := 3) (own := RX5) (rt := .int) (by decide) rfl rfl (Nat.le_of_ble_eq_true rfl) ?_
  intro p e s m args below meth c A Q C0 hK hA hret ls hl hw
  have hl : lv_has ls 3 [(0, .ref (ad 0)), (1, .int p0)] := hl
  obtain ⟨hx, hb, hr, hml, hown, hts, hlocks⟩ := id C0
  obtain ⟨H, hH⟩ : ∃ z, z = s.heap := ⟨_, rfl⟩
  rw [← hH] at hw ⊢
  unfold fX5_lowestIn at hF
  refine lv_iconst (v := (0 : Int32)) hx hb dX5_lowestIn_0 (by decide) ?_
  refine lv_istore_n (lv' := [(2, .int (0 : Int32)), (0, .ref (ad 0)), (1, .int p0)]) hx hb dX5_lowestIn_1 rfl hl (by decide) rfl (fun ls hl => ?_)
  exact wX5_lowestIn_2 C0 hK hA hret  zFu _ _ hF _ _ _ hw (lv_sub hl [1, 2, 0] rfl)

/-! SealedBoardModel.roomOf(III)I -/
abbrev rmX5_roomOf : Room := { frames := 4, cells := 0, slots := 0, locals := 93 }
theorem kdX5_roomOf : yX5_roomOf.cls = RX5 ∧ yX5_roomOf.cls ≠ "java/lang/invoke/MethodHandle" ∧ yX5_roomOf.cls ≠ "java/lang/invoke/VarHandle" ∧ (parseMethodDescriptor yX5_roomOf.desc).map (fun d => d.parameters.length) = some 3 := by decide +kernel
theorem inX5_roomOf_X5 : ∀ w ∈ u_ws RX5 TX5 23, w ∈ wsX5_roomOf := by decide +kernel
def fX5_roomOf_128  (now : Nat → Int32) (thrown : Int32) (queue : Nat → Int32) (roomAt : Nat → Int32) (rooms : Int32) (s0 : Int32) (s1 : Int32) : Option (Int32 × Int32 × (Nat → Int32) × (Nat → Int32) × Int32) := (zbd (fX5_countIn now roomAt s1 s0) (fun u1 => (some (u1, thrown, queue, roomAt, rooms))))
def fX5_roomOf_63  (now : Nat → Int32) (thrown : Int32) (queue : Nat → Int32) (roomAt : Nat → Int32) (rooms : Int32) (x1 : Int32) (x2 : Int32) (x3 : Int32) (s0 : Int32) (s1 : Int32) : Option (Int32 × Int32 × (Nat → Int32) × (Nat → Int32) × Int32) := (zbd (fX5_fails thrown s1 s0) (fun u1 => (if u1.1 = 0 then (if x3 = (0 : Int32) then (zbd (fX5_squaresIn roomAt x2) (fun u4 => (some (u4, u1.2, queue, roomAt, rooms)))) else (if x3 = (1 : Int32) then (if x3 = (1 : Int32) then (fX5_roomOf_128  now  u1.2 queue roomAt rooms x1 x2) else (fX5_roomOf_128  now  u1.2 queue roomAt rooms ((1 : Int32) - x1) x2)) else (if x3 = (2 : Int32) then (if x3 = (1 : Int32) then (fX5_roomOf_128  now  u1.2 queue roomAt rooms x1 x2) else (fX5_roomOf_128  now  u1.2 queue roomAt rooms ((1 : Int32) - x1) x2)) else (if x3 = (3 : Int32) then (zbd (fX5_doorsIn now roomAt x2) (fun u9 => (some (u9, u1.2, queue, roomAt, rooms)))) else (if x3 = (4 : Int32) then (zbd (fX5_lowestIn roomAt x2) (fun u12 => (some (u12, u1.2, queue, roomAt, rooms)))) else (zbd (fX5_countIn now roomAt x2 x1) (fun u14 => (if u14 = 0 then (some ((1 : Int32), u1.2, queue, roomAt, rooms)) else (some ((0 : Int32), u1.2, queue, roomAt, rooms)))))))))) else (some ((0 : Int32), u1.2, queue, roomAt, rooms)))))
def fX5_roomOf_41  (now : Nat → Int32) (thrown : Int32) (queue : Nat → Int32) (roomAt : Nat → Int32) (rooms : Int32) (x1 : Int32) (x2 : Int32) (x3 : Int32) (s0 : Int32) (s1 : Int32) : Option (Int32 × Int32 × (Nat → Int32) × (Nat → Int32) × Int32) := (zbd (fX5_fails thrown s1 s0) (fun u1 => (if u1.1 = 0 then (zbd (fX5_isBetween x3 (0 : Int32) (5 : Int32)) (fun u3 => (if u3 = 0 then (fX5_roomOf_63  now  u1.2 queue roomAt rooms x1 x2 x3 (1 : Int32) (2 : Int32)) else (fX5_roomOf_63  now  u1.2 queue roomAt rooms x1 x2 x3 (0 : Int32) (2 : Int32))))) else (some ((0 : Int32), u1.2, queue, roomAt, rooms)))))
def fX5_roomOf_29  (now : Nat → Int32) (thrown : Int32) (queue : Nat → Int32) (roomAt : Nat → Int32) (rooms : Int32) (x1 : Int32) (x2 : Int32) (x3 : Int32) (x4 : Int32) : Option (Int32 × Int32 × (Nat → Int32) × (Nat → Int32) × Int32) := (if x4 = 0 then (fX5_roomOf_41  now  thrown queue roomAt rooms x1 x2 x3 (1 : Int32) (1 : Int32)) else (fX5_roomOf_41  now  thrown queue roomAt rooms x1 x2 x3 (0 : Int32) (1 : Int32)))
def fX5_roomOf (thrown : Int32) (now : Nat → Int32) (queue : Nat → Int32) (roomAt : Nat → Int32) (rooms : Int32) (p0 : Int32) (p1 : Int32) (p2 : Int32) : Option (Int32 × Int32 × (Nat → Int32) × (Nat → Int32) × Int32) := (zbd (fX5_isSide p0) (fun u1 => (if u1 = 0 then (fX5_roomOf_29  now  thrown queue roomAt rooms p0 p1 p2 u1) else (zbd (fX5_findRooms now queue roomAt rooms p0) (fun u3 => (zbd (fX5_isBetween p1 (0 : Int32) (u3.2.2 - (1 : Int32))) (fun u5 => (fX5_roomOf_29  now  thrown u3.1 u3.2.1 u3.2.2 p0 p1 p2 u5))))))))
set_option maxHeartbeats 400000 in
set_option maxRecDepth 100000 in
theorem wX5_roomOf_128 {p : Program} {l : Launch} {e : Env} {s : State} {m : MethodId} {args : Array Value} {below : List Frame} {meth : Method} {c : Code} {A : Nat → Prop} {Q : State → Prop} {G : va_G} {k : Nat → ClassId} {ad : Nat → Nat} {now : Nat → Int32} {saved : Nat → Int32} {hist : Nat → Nat → Int32} {kept : Int32} {reason : Int32} {detail : Int32} {isSaved : Int32} {comes : Nat → Int32} {far : Nat → Int32} {isInText : Int32} {ahead : Nat → Int32} {text : Nat → Int32} {length : Int32} {at_ : Int32} {errorPosition : Int32} {toldFrom : Int32} {toldTo : Int32} {isWrong : Int32} {before : Nat → Int32} {o : Int32 × Int32 × (Nat → Int32) × (Nat → Int32) × Int32} (C0 : zCx p s m args meth c wsX5_roomOf cX5_roomOf RX5 (some .int) 5) (hK : zKK G k A s s.heap) (hA : ∀ q : Nat, s.heap.size ≤ q → A q) (hret : zRI p l e rmX5_roomOf s m args below meth c cX5_roomOf G A 0 0 Q .int (zM ad k o.2.1 now saved hist kept reason detail isSaved comes o.2.2.1 far isInText ahead o.2.2.2.1 o.2.2.2.2 text length at_ errorPosition toldFrom toldTo isWrong before) o.1)  : ∀ (thrown : Int32) (queue : Nat → Int32) (roomAt : Nat → Int32) (rooms : Int32) (s0 : Int32) (s1 : Int32), fX5_roomOf_128  now thrown queue roomAt rooms s0 s1 = some o → ∀ (H : Heap) (locs : List Loc) (ls : Array Slot), zWd G A s (zM ad k thrown now saved hist kept reason detail isSaved comes queue far isInText ahead roomAt rooms text length at_ errorPosition toldFrom toldTo isWrong before) H locs → lv_has ls 5 [] → W p l e rmX5_roomOf s m args below meth c H locs 0 0 Q (F0 m 128 ls [.int s0, .int s1, .ref (ad 0)]) := by
  obtain ⟨hx, hb, hr, hml, hown, hts, hlocks⟩ := id C0
  intro thrown queue roomAt rooms s0 s1 hF H locs ls hw hl
  unfold fX5_roomOf_128 at hF
  obtain ⟨u1, hq2, hF⟩ := zbd_t hF
  refine zgoIw (w' := (zM ad k thrown now saved hist kept reason detail isSaved comes queue far isInText ahead roomAt rooms text length at_ errorPosition toldFrom toldTo isWrong before)) hw hA (zVw (As := [.int s1, .int s0]) (rest := []) ⟨hx, hb, hml, hown, hts⟩ (mX5_countIn l G k ad H.size thrown now saved hist kept reason detail isSaved comes queue far isInText ahead roomAt rooms text length at_ errorPosition toldFrom toldTo isWrong before s1 s0 u1 hq2) (cwV 2 hts gX5_roomOf_X5_countIn rfl rfl rfl kdX5_countIn ⟨Nat.le_of_ble_eq_true rfl, Nat.le_of_ble_eq_true rfl⟩) hK hA hw 0 rfl rfl rfl rfl hl.1 rfl (Nat.le_of_ble_eq_true rfl) dX5_roomOf_128 ⟨Nat.le_of_ble_eq_true rfl, Nat.le_of_ble_eq_true rfl⟩) (fun H locs hw => ?_)
  obtain rfl := Option.some.inj hF
  exact hret _ _ _ _ rfl hw dX5_roomOf_131
set_option maxHeartbeats 400000 in
set_option maxRecDepth 100000 in
theorem wX5_roomOf_63 {p : Program} {l : Launch} {e : Env} {s : State} {m : MethodId} {args : Array Value} {below : List Frame} {meth : Method} {c : Code} {A : Nat → Prop} {Q : State → Prop} {G : va_G} {k : Nat → ClassId} {ad : Nat → Nat} {now : Nat → Int32} {saved : Nat → Int32} {hist : Nat → Nat → Int32} {kept : Int32} {reason : Int32} {detail : Int32} {isSaved : Int32} {comes : Nat → Int32} {far : Nat → Int32} {isInText : Int32} {ahead : Nat → Int32} {text : Nat → Int32} {length : Int32} {at_ : Int32} {errorPosition : Int32} {toldFrom : Int32} {toldTo : Int32} {isWrong : Int32} {before : Nat → Int32} {o : Int32 × Int32 × (Nat → Int32) × (Nat → Int32) × Int32} (C0 : zCx p s m args meth c wsX5_roomOf cX5_roomOf RX5 (some .int) 5) (hK : zKK G k A s s.heap) (hA : ∀ q : Nat, s.heap.size ≤ q → A q) (hret : zRI p l e rmX5_roomOf s m args below meth c cX5_roomOf G A 0 0 Q .int (zM ad k o.2.1 now saved hist kept reason detail isSaved comes o.2.2.1 far isInText ahead o.2.2.2.1 o.2.2.2.2 text length at_ errorPosition toldFrom toldTo isWrong before) o.1)  : ∀ (thrown : Int32) (queue : Nat → Int32) (roomAt : Nat → Int32) (rooms : Int32) (x1 : Int32) (x2 : Int32) (x3 : Int32) (s0 : Int32) (s1 : Int32), fX5_roomOf_63  now thrown queue roomAt rooms x1 x2 x3 s0 s1 = some o → ∀ (H : Heap) (locs : List Loc) (ls : Array Slot), zWd G A s (zM ad k thrown now saved hist kept reason detail isSaved comes queue far isInText ahead roomAt rooms text length at_ errorPosition toldFrom toldTo isWrong before) H locs → lv_has ls 5 [(0, .ref (ad 0)), (1, .int x1), (2, .int x2), (3, .int x3)] → W p l e rmX5_roomOf s m args below meth c H locs 0 0 Q (F0 m 63 ls [.int s0, .int s1, .ref (ad 0)]) := by
  obtain ⟨hx, hb, hr, hml, hown, hts, hlocks⟩ := id C0
  intro thrown queue roomAt rooms x1 x2 x3 s0 s1 hF H locs ls hw hl
  unfold fX5_roomOf_63 at hF
  obtain ⟨u1, hq2, hF⟩ := zbd_t hF
  refine zgoIw (w' := (zM ad k u1.2 now saved hist kept reason detail isSaved comes queue far isInText ahead roomAt rooms text length at_ errorPosition toldFrom toldTo isWrong before)) hw hA (zVw (As := [.int s1, .int s0]) (rest := []) ⟨hx, hb, hml, hown, hts⟩ (mX5_fails l G k ad H.size thrown now saved hist kept reason detail isSaved comes queue far isInText ahead roomAt rooms text length at_ errorPosition toldFrom toldTo isWrong before s1 s0 u1 hq2) (cwV 2 hts gX5_roomOf_X5_fails rfl rfl rfl kdX5_fails ⟨Nat.le_of_ble_eq_true rfl, Nat.le_of_ble_eq_true rfl⟩) hK hA hw 0 rfl rfl rfl rfl hl.1 rfl (Nat.le_of_ble_eq_true rfl) dX5_roomOf_63 ⟨Nat.le_of_ble_eq_true rfl, Nat.le_of_ble_eq_true rfl⟩) (fun H locs hw => ?_)
  refine lv_if_eq (tgt := 71) hx hb dX5_roomOf_66 (by decide) (fun hc => ?_) (fun hc => ?_)
  · have hF := zif_t hc hF
    refine lv_iload_n hx hb dX5_roomOf_71 rfl (lv_at hl 3 rfl) ?_
    by_cases hc3 : x3 = (0 : Int32)
    · have hF := zif_t hc3 hF
      refine lv_tableIn (tgt := 108) (off := 36) hx hb dX5_roomOf_72 (by rw [hc3]; decide) (by rw [hc3]; decide) (by rw [hc3]; rfl) (by decide) ?_
      refine lv_aload_n hx hb dX5_roomOf_108 rfl (lv_at hl 0 rfl) ?_
      refine lv_iload_n hx hb dX5_roomOf_109 rfl (lv_at hl 2 rfl) ?_
      obtain ⟨u4, hq5, hF⟩ := zbd_t hF
      refine zgoIw (w' := (zM ad k u1.2 now saved hist kept reason detail isSaved comes queue far isInText ahead roomAt rooms text length at_ errorPosition toldFrom toldTo isWrong before)) hw hA (zVw (As := [.int x2]) (rest := []) ⟨hx, hb, hml, hown, hts⟩ (mX5_squaresIn l G k ad H.size u1.2 now saved hist kept reason detail isSaved comes queue far isInText ahead roomAt rooms text length at_ errorPosition toldFrom toldTo isWrong before x2 u4 hq5) (cwV 1 hts gX5_roomOf_X5_squaresIn rfl rfl rfl kdX5_squaresIn ⟨Nat.le_of_ble_eq_true rfl, Nat.le_of_ble_eq_true rfl⟩) hK hA hw 0 rfl rfl rfl rfl hl.1 rfl (Nat.le_of_ble_eq_true rfl) dX5_roomOf_110 ⟨Nat.le_of_ble_eq_true rfl, Nat.le_of_ble_eq_true rfl⟩) (fun H locs hw => ?_)
      obtain rfl := Option.some.inj hF
      exact hret _ _ _ _ rfl hw dX5_roomOf_113
    have hF := zif_f hc3 hF
    by_cases hc6 : x3 = (1 : Int32)
    · have hF := zif_t hc6 hF
      refine lv_tableIn (tgt := 114) (off := 42) hx hb dX5_roomOf_72 (by rw [hc6]; decide) (by rw [hc6]; decide) (by rw [hc6]; rfl) (by decide) ?_
      refine lv_aload_n hx hb dX5_roomOf_114 rfl (lv_at hl 0 rfl) ?_
      refine lv_iload_n hx hb dX5_roomOf_115 rfl (lv_at hl 2 rfl) ?_
      refine lv_iload_n hx hb dX5_roomOf_116 rfl (lv_at hl 3 rfl) ?_
      refine lv_iconst (v := (1 : Int32)) hx hb dX5_roomOf_117 (by decide) ?_
      refine lv_icmp_ne (tgt := 125) hx hb dX5_roomOf_118 (by decide) (fun hc => ?_) (fun hc => ?_)
      · have hF := zif_f hc hF
        refine lv_iconst (v := (1 : Int32)) hx hb dX5_roomOf_125 (by decide) ?_
        refine lv_iload_n hx hb dX5_roomOf_126 rfl (lv_at hl 1 rfl) ?_
        refine lv_isub hx hb dX5_roomOf_127 ?_
        exact wX5_roomOf_128 C0 hK hA hret   _ _ _ _ _ _ hF _ _ _ hw (lv_sub hl [] rfl)
      · have hF := zif_t hc hF
        refine lv_iload_n hx hb dX5_roomOf_121 rfl (lv_at hl 1 rfl) ?_
        refine lv_goto (tgt := 128) hx hb dX5_roomOf_122 (by decide) ?_
        exact wX5_roomOf_128 C0 hK hA hret   _ _ _ _ _ _ hF _ _ _ hw (lv_sub hl [] rfl)
    have hF := zif_f hc6 hF
    by_cases hc7 : x3 = (2 : Int32)
    · have hF := zif_t hc7 hF
      refine lv_tableIn (tgt := 114) (off := 42) hx hb dX5_roomOf_72 (by rw [hc7]; decide) (by rw [hc7]; decide) (by rw [hc7]; rfl) (by decide) ?_
      refine lv_aload_n hx hb dX5_roomOf_114 rfl (lv_at hl 0 rfl) ?_
      refine lv_iload_n hx hb dX5_roomOf_115 rfl (lv_at hl 2 rfl) ?_
      refine lv_iload_n hx hb dX5_roomOf_116 rfl (lv_at hl 3 rfl) ?_
      refine lv_iconst (v := (1 : Int32)) hx hb dX5_roomOf_117 (by decide) ?_
      refine lv_icmp_ne (tgt := 125) hx hb dX5_roomOf_118 (by decide) (fun hc => ?_) (fun hc => ?_)
      · have hF := zif_f hc hF
        refine lv_iconst (v := (1 : Int32)) hx hb dX5_roomOf_125 (by decide) ?_
        refine lv_iload_n hx hb dX5_roomOf_126 rfl (lv_at hl 1 rfl) ?_
        refine lv_isub hx hb dX5_roomOf_127 ?_
        exact wX5_roomOf_128 C0 hK hA hret   _ _ _ _ _ _ hF _ _ _ hw (lv_sub hl [] rfl)
      · have hF := zif_t hc hF
        refine lv_iload_n hx hb dX5_roomOf_121 rfl (lv_at hl 1 rfl) ?_
        refine lv_goto (tgt := 128) hx hb dX5_roomOf_122 (by decide) ?_
        exact wX5_roomOf_128 C0 hK hA hret   _ _ _ _ _ _ hF _ _ _ hw (lv_sub hl [] rfl)
    have hF := zif_f hc7 hF
    by_cases hc8 : x3 = (3 : Int32)
    · have hF := zif_t hc8 hF
      refine lv_tableIn (tgt := 132) (off := 60) hx hb dX5_roomOf_72 (by rw [hc8]; decide) (by rw [hc8]; decide) (by rw [hc8]; rfl) (by decide) ?_
      refine lv_aload_n hx hb dX5_roomOf_132 rfl (lv_at hl 0 rfl) ?_
      refine lv_iload_n hx hb dX5_roomOf_133 rfl (lv_at hl 2 rfl) ?_
      obtain ⟨u9, hq10, hF⟩ := zbd_t hF
      refine zgoIw (w' := (zM ad k u1.2 now saved hist kept reason detail isSaved comes queue far isInText ahead roomAt rooms text length at_ errorPosition toldFrom toldTo isWrong before)) hw hA (zVw (As := [.int x2]) (rest := []) ⟨hx, hb, hml, hown, hts⟩ (mX5_doorsIn l G k ad H.size u1.2 now saved hist kept reason detail isSaved comes queue far isInText ahead roomAt rooms text length at_ errorPosition toldFrom toldTo isWrong before x2 u9 hq10) (cwV 1 hts gX5_roomOf_X5_doorsIn rfl rfl rfl kdX5_doorsIn ⟨Nat.le_of_ble_eq_true rfl, Nat.le_of_ble_eq_true rfl⟩) hK hA hw 0 rfl rfl rfl rfl hl.1 rfl (Nat.le_of_ble_eq_true rfl) dX5_roomOf_134 ⟨Nat.le_of_ble_eq_true rfl, Nat.le_of_ble_eq_true rfl⟩) (fun H locs hw => ?_)
      obtain rfl := Option.some.inj hF
      exact hret _ _ _ _ rfl hw dX5_roomOf_137
    have hF := zif_f hc8 hF
    by_cases hc11 : x3 = (4 : Int32)
    · have hF := zif_t hc11 hF
      refine lv_tableIn (tgt := 138) (off := 66) hx hb dX5_roomOf_72 (by rw [hc11]; decide) (by rw [hc11]; decide) (by rw [hc11]; rfl) (by decide) ?_
      refine lv_aload_n hx hb dX5_roomOf_138 rfl (lv_at hl 0 rfl) ?_
      refine lv_iload_n hx hb dX5_roomOf_139 rfl (lv_at hl 2 rfl) ?_
      obtain ⟨u12, hq13, hF⟩ := zbd_t hF
      refine zgoIw (w' := (zM ad k u1.2 now saved hist kept reason detail isSaved comes queue far isInText ahead roomAt rooms text length at_ errorPosition toldFrom toldTo isWrong before)) hw hA (zVw (As := [.int x2]) (rest := []) ⟨hx, hb, hml, hown, hts⟩ (mX5_lowestIn l G k ad H.size u1.2 now saved hist kept reason detail isSaved comes queue far isInText ahead roomAt rooms text length at_ errorPosition toldFrom toldTo isWrong before x2 u12 hq13) (cwV 1 hts gX5_roomOf_X5_lowestIn rfl rfl rfl kdX5_lowestIn ⟨Nat.le_of_ble_eq_true rfl, Nat.le_of_ble_eq_true rfl⟩) hK hA hw 0 rfl rfl rfl rfl hl.1 rfl (Nat.le_of_ble_eq_true rfl) dX5_roomOf_140 ⟨Nat.le_of_ble_eq_true rfl, Nat.le_of_ble_eq_true rfl⟩) (fun H locs hw => ?_)
      obtain rfl := Option.some.inj hF
      exact hret _ _ _ _ rfl hw dX5_roomOf_143
    have hF := zif_f hc11 hF
    refine lv_tableOut (tgt := 144) hx hb dX5_roomOf_72 (by
      have q0 : x3.toInt ≠ 0 := fun q => hc3 (Int32.toInt_inj.mp q)
      have q1 : x3.toInt ≠ 1 := fun q => hc6 (Int32.toInt_inj.mp q)
      have q2 : x3.toInt ≠ 2 := fun q => hc7 (Int32.toInt_inj.mp q)
      have q3 : x3.toInt ≠ 3 := fun q => hc8 (Int32.toInt_inj.mp q)
      have q4 : x3.toInt ≠ 4 := fun q => hc11 (Int32.toInt_inj.mp q)
      omega) (by decide) ?_
    refine lv_aload_n hx hb dX5_roomOf_144 rfl (lv_at hl 0 rfl) ?_
    refine lv_iload_n hx hb dX5_roomOf_145 rfl (lv_at hl 2 rfl) ?_
    refine lv_iload_n hx hb dX5_roomOf_146 rfl (lv_at hl 1 rfl) ?_
    obtain ⟨u14, hq15, hF⟩ := zbd_t hF
    refine zgoIw (w' := (zM ad k u1.2 now saved hist kept reason detail isSaved comes queue far isInText ahead roomAt rooms text length at_ errorPosition toldFrom toldTo isWrong before)) hw hA (zVw (As := [.int x2, .int x1]) (rest := []) ⟨hx, hb, hml, hown, hts⟩ (mX5_countIn l G k ad H.size u1.2 now saved hist kept reason detail isSaved comes queue far isInText ahead roomAt rooms text length at_ errorPosition toldFrom toldTo isWrong before x2 x1 u14 hq15) (cwV 2 hts gX5_roomOf_X5_countIn rfl rfl rfl kdX5_countIn ⟨Nat.le_of_ble_eq_true rfl, Nat.le_of_ble_eq_true rfl⟩) hK hA hw 0 rfl rfl rfl rfl hl.1 rfl (Nat.le_of_ble_eq_true rfl) dX5_roomOf_147 ⟨Nat.le_of_ble_eq_true rfl, Nat.le_of_ble_eq_true rfl⟩) (fun H locs hw => ?_)
    refine lv_if_ne (tgt := 157) hx hb dX5_roomOf_150 (by decide) (fun hc => ?_) (fun hc => ?_)
    · have hF := zif_f hc hF
      refine lv_iconst (v := (0 : Int32)) hx hb dX5_roomOf_157 (by decide) ?_
      obtain rfl := Option.some.inj hF
      exact hret _ _ _ _ rfl hw dX5_roomOf_158
    · have hF := zif_t hc hF
      refine lv_iconst (v := (1 : Int32)) hx hb dX5_roomOf_153 (by decide) ?_
      refine lv_goto (tgt := 158) hx hb dX5_roomOf_154 (by decide) ?_
      obtain rfl := Option.some.inj hF
      exact hret _ _ _ _ rfl hw dX5_roomOf_158
  · have hF := zif_f hc hF
    refine lv_iconst (v := (0 : Int32)) hx hb dX5_roomOf_69 (by decide) ?_
    obtain rfl := Option.some.inj hF
    exact hret _ _ _ _ rfl hw dX5_roomOf_70
set_option maxHeartbeats 400000 in
set_option maxRecDepth 100000 in
theorem wX5_roomOf_41 {p : Program} {l : Launch} {e : Env} {s : State} {m : MethodId} {args : Array Value} {below : List Frame} {meth : Method} {c : Code} {A : Nat → Prop} {Q : State → Prop} {G : va_G} {k : Nat → ClassId} {ad : Nat → Nat} {now : Nat → Int32} {saved : Nat → Int32} {hist : Nat → Nat → Int32} {kept : Int32} {reason : Int32} {detail : Int32} {isSaved : Int32} {comes : Nat → Int32} {far : Nat → Int32} {isInText : Int32} {ahead : Nat → Int32} {text : Nat → Int32} {length : Int32} {at_ : Int32} {errorPosition : Int32} {toldFrom : Int32} {toldTo : Int32} {isWrong : Int32} {before : Nat → Int32} {o : Int32 × Int32 × (Nat → Int32) × (Nat → Int32) × Int32} (C0 : zCx p s m args meth c wsX5_roomOf cX5_roomOf RX5 (some .int) 5) (hK : zKK G k A s s.heap) (hA : ∀ q : Nat, s.heap.size ≤ q → A q) (hret : zRI p l e rmX5_roomOf s m args below meth c cX5_roomOf G A 0 0 Q .int (zM ad k o.2.1 now saved hist kept reason detail isSaved comes o.2.2.1 far isInText ahead o.2.2.2.1 o.2.2.2.2 text length at_ errorPosition toldFrom toldTo isWrong before) o.1)  : ∀ (thrown : Int32) (queue : Nat → Int32) (roomAt : Nat → Int32) (rooms : Int32) (x1 : Int32) (x2 : Int32) (x3 : Int32) (s0 : Int32) (s1 : Int32), fX5_roomOf_41  now thrown queue roomAt rooms x1 x2 x3 s0 s1 = some o → ∀ (H : Heap) (locs : List Loc) (ls : Array Slot), zWd G A s (zM ad k thrown now saved hist kept reason detail isSaved comes queue far isInText ahead roomAt rooms text length at_ errorPosition toldFrom toldTo isWrong before) H locs → lv_has ls 5 [(0, .ref (ad 0)), (1, .int x1), (2, .int x2), (3, .int x3)] → W p l e rmX5_roomOf s m args below meth c H locs 0 0 Q (F0 m 41 ls [.int s0, .int s1, .ref (ad 0)]) := by
  obtain ⟨hx, hb, hr, hml, hown, hts, hlocks⟩ := id C0
  intro thrown queue roomAt rooms x1 x2 x3 s0 s1 hF H locs ls hw hl
  unfold fX5_roomOf_41 at hF
  obtain ⟨u1, hq2, hF⟩ := zbd_t hF
  refine zgoIw (w' := (zM ad k u1.2 now saved hist kept reason detail isSaved comes queue far isInText ahead roomAt rooms text length at_ errorPosition toldFrom toldTo isWrong before)) hw hA (zVw (As := [.int s1, .int s0]) (rest := []) ⟨hx, hb, hml, hown, hts⟩ (mX5_fails l G k ad H.size thrown now saved hist kept reason detail isSaved comes queue far isInText ahead roomAt rooms text length at_ errorPosition toldFrom toldTo isWrong before s1 s0 u1 hq2) (cwV 2 hts gX5_roomOf_X5_fails rfl rfl rfl kdX5_fails ⟨Nat.le_of_ble_eq_true rfl, Nat.le_of_ble_eq_true rfl⟩) hK hA hw 0 rfl rfl rfl rfl hl.1 rfl (Nat.le_of_ble_eq_true rfl) dX5_roomOf_41 ⟨Nat.le_of_ble_eq_true rfl, Nat.le_of_ble_eq_true rfl⟩) (fun H locs hw => ?_)
  refine lv_if_ne (tgt := 69) hx hb dX5_roomOf_44 (by decide) (fun hc => ?_) (fun hc => ?_)
  · have hF := zif_f hc hF
    refine lv_iconst (v := (0 : Int32)) hx hb dX5_roomOf_69 (by decide) ?_
    obtain rfl := Option.some.inj hF
    exact hret _ _ _ _ rfl hw dX5_roomOf_70
  · have hF := zif_t hc hF
    refine lv_aload_n hx hb dX5_roomOf_47 rfl (lv_at hl 0 rfl) ?_
    refine lv_iconst (v := (2 : Int32)) hx hb dX5_roomOf_48 (by decide) ?_
    refine lv_iload_n hx hb dX5_roomOf_49 rfl (lv_at hl 3 rfl) ?_
    refine lv_iconst (v := (0 : Int32)) hx hb dX5_roomOf_50 (by decide) ?_
    refine lv_iconst (v := (5 : Int32)) hx hb dX5_roomOf_51 (by decide) ?_
    obtain ⟨u3, hq4, hF⟩ := zbd_t hF
    refine zgoI (w' := (zM ad k u1.2 now saved hist kept reason detail isSaved comes queue far isInText ahead roomAt rooms text length at_ errorPosition toldFrom toldTo isWrong before)) hw hA [] rfl (zS (As := [.int x3, .int (0 : Int32), .int (5 : Int32)]) (rest := [.int (2 : Int32), .ref (ad 0)]) ⟨hx, hb, hml, hown, hts⟩ (mX5_isBetween l G k  H.size  x3 (0 : Int32) (5 : Int32) u3 hq4) (va_cwS 3 hts gX5_roomOf_X5_isBetween rfl rfl rfl kdX5_isBetween ⟨Nat.le_of_ble_eq_true rfl, Nat.le_of_ble_eq_true rfl⟩) hK hA hw [] rfl (by decide) rfl hl.1 rfl (Nat.le_of_ble_eq_true rfl) dX5_roomOf_52 ⟨Nat.le_of_ble_eq_true rfl, Nat.le_of_ble_eq_true rfl⟩) rfl rfl rfl (fun H locs hw => ?_)
    refine lv_if_ne (tgt := 62) hx hb dX5_roomOf_55 (by decide) (fun hc => ?_) (fun hc => ?_)
    · have hF := zif_f hc hF
      refine lv_iconst (v := (0 : Int32)) hx hb dX5_roomOf_62 (by decide) ?_
      exact wX5_roomOf_63 C0 hK hA hret   _ _ _ _ _ _ _ _ _ hF _ _ _ hw (lv_sub hl [0, 1, 2, 3] rfl)
    · have hF := zif_t hc hF
      refine lv_iconst (v := (1 : Int32)) hx hb dX5_roomOf_58 (by decide) ?_
      refine lv_goto (tgt := 63) hx hb dX5_roomOf_59 (by decide) ?_
      exact wX5_roomOf_63 C0 hK hA hret   _ _ _ _ _ _ _ _ _ hF _ _ _ hw (lv_sub hl [0, 1, 2, 3] rfl)
set_option maxHeartbeats 400000 in
set_option maxRecDepth 100000 in
theorem wX5_roomOf_29 {p : Program} {l : Launch} {e : Env} {s : State} {m : MethodId} {args : Array Value} {below : List Frame} {meth : Method} {c : Code} {A : Nat → Prop} {Q : State → Prop} {G : va_G} {k : Nat → ClassId} {ad : Nat → Nat} {now : Nat → Int32} {saved : Nat → Int32} {hist : Nat → Nat → Int32} {kept : Int32} {reason : Int32} {detail : Int32} {isSaved : Int32} {comes : Nat → Int32} {far : Nat → Int32} {isInText : Int32} {ahead : Nat → Int32} {text : Nat → Int32} {length : Int32} {at_ : Int32} {errorPosition : Int32} {toldFrom : Int32} {toldTo : Int32} {isWrong : Int32} {before : Nat → Int32} {o : Int32 × Int32 × (Nat → Int32) × (Nat → Int32) × Int32} (C0 : zCx p s m args meth c wsX5_roomOf cX5_roomOf RX5 (some .int) 5) (hK : zKK G k A s s.heap) (hA : ∀ q : Nat, s.heap.size ≤ q → A q) (hret : zRI p l e rmX5_roomOf s m args below meth c cX5_roomOf G A 0 0 Q .int (zM ad k o.2.1 now saved hist kept reason detail isSaved comes o.2.2.1 far isInText ahead o.2.2.2.1 o.2.2.2.2 text length at_ errorPosition toldFrom toldTo isWrong before) o.1)  : ∀ (thrown : Int32) (queue : Nat → Int32) (roomAt : Nat → Int32) (rooms : Int32) (x1 : Int32) (x2 : Int32) (x3 : Int32) (x4 : Int32), fX5_roomOf_29  now thrown queue roomAt rooms x1 x2 x3 x4 = some o → ∀ (H : Heap) (locs : List Loc) (ls : Array Slot), zWd G A s (zM ad k thrown now saved hist kept reason detail isSaved comes queue far isInText ahead roomAt rooms text length at_ errorPosition toldFrom toldTo isWrong before) H locs → lv_has ls 5 [(0, .ref (ad 0)), (1, .int x1), (2, .int x2), (3, .int x3), (4, .int x4)] → W p l e rmX5_roomOf s m args below meth c H locs 0 0 Q (F0 m 29 ls []) := by
  obtain ⟨hx, hb, hr, hml, hown, hts, hlocks⟩ := id C0
  intro thrown queue roomAt rooms x1 x2 x3 x4 hF H locs ls hw hl
  unfold fX5_roomOf_29 at hF
  refine lv_aload_n hx hb dX5_roomOf_29 rfl (lv_at hl 0 rfl) ?_
  refine lv_iconst (v := (1 : Int32)) hx hb dX5_roomOf_30 (by decide) ?_
  refine lv_iload hx hb dX5_roomOf_31 (lv_at hl 4 rfl) ?_
  refine lv_if_ne (tgt := 40) hx hb dX5_roomOf_33 (by decide) (fun hc => ?_) (fun hc => ?_)
  · have hF := zif_f hc hF
    refine lv_iconst (v := (0 : Int32)) hx hb dX5_roomOf_40 (by decide) ?_
    exact wX5_roomOf_41 C0 hK hA hret   _ _ _ _ _ _ _ _ _ hF _ _ _ hw (lv_sub hl [0, 1, 2, 3] rfl)
  · have hF := zif_t hc hF
    refine lv_iconst (v := (1 : Int32)) hx hb dX5_roomOf_36 (by decide) ?_
    refine lv_goto (tgt := 41) hx hb dX5_roomOf_37 (by decide) ?_
    exact wX5_roomOf_41 C0 hK hA hret   _ _ _ _ _ _ _ _ _ hF _ _ _ hw (lv_sub hl [0, 1, 2, 3] rfl)
set_option maxHeartbeats 400000 in
set_option maxRecDepth 100000 in
theorem mX5_roomOf (l : Launch) (G : va_G) (k : Nat → ClassId) (ad : Nat → Nat) (sz : Nat) (thrown : Int32) (now : Nat → Int32) (saved : Nat → Int32) (hist : Nat → Nat → Int32) (kept : Int32) (reason : Int32) (detail : Int32) (isSaved : Int32) (comes : Nat → Int32) (queue : Nat → Int32) (far : Nat → Int32) (isInText : Int32) (ahead : Nat → Int32) (roomAt : Nat → Int32) (rooms : Int32) (text : Nat → Int32) (length : Int32) (at_ : Int32) (errorPosition : Int32) (toldFrom : Int32) (toldTo : Int32) (isWrong : Int32) (before : Nat → Int32) (p0 : Int32) (p1 : Int32) (p2 : Int32) (o : Int32 × Int32 × (Nat → Int32) × (Nat → Int32) × Int32) (hF : fX5_roomOf thrown now queue roomAt rooms p0 p1 p2 = some o) : zMI l yX5_roomOf wsX5_roomOf rmX5_roomOf G k (zM ad k thrown now saved hist kept reason detail isSaved comes queue far isInText ahead roomAt rooms text length at_ errorPosition toldFrom toldTo isWrong before) sz [.ref (ad 0), .int p0, .int p1, .int p2] o.1 (zM ad k o.2.1 now saved hist kept reason detail isSaved comes o.2.2.1 far isInText ahead o.2.2.2.1 o.2.2.2.2 text length at_ errorPosition toldFrom toldTo isWrong before) := by
  refine zof_I (cc := cX5_roomOf) (nL := 5) (own := RX5) (rt := .int) (by decide) rfl rfl (Nat.le_of_ble_eq_true rfl) ?_
  intro p e s m args below meth c A Q C0 hK hA hret ls hl hw
  have hl : lv_has ls 5 [(0, .ref (ad 0)), (1, .int p0), (2, .int p1), (3, .int p2)] := hl
  obtain ⟨hx, hb, hr, hml, hown, hts, hlocks⟩ := id C0
  obtain ⟨H, hH⟩ : ∃ z, z = s.heap := ⟨_, rfl⟩
  rw [← hH] at hw ⊢
  unfold fX5_roomOf at hF
  refine lv_iload_n hx hb dX5_roomOf_0 rfl (lv_at hl 1 rfl) ?_
  obtain ⟨u1, hq2, hF⟩ := zbd_t hF
  refine zgoI (w' := (zM ad k thrown now saved hist kept reason detail isSaved comes queue far isInText ahead roomAt rooms text length at_ errorPosition toldFrom toldTo isWrong before)) hw hA [] rfl (zS (As := [.int p0]) (rest := []) ⟨hx, hb, hml, hown, hts⟩ (mX5_isSide l G k  H.size  p0 u1 hq2) (va_cwS 1 hts gX5_roomOf_X5_isSide rfl rfl rfl kdX5_isSide ⟨Nat.le_of_ble_eq_true rfl, Nat.le_of_ble_eq_true rfl⟩) hK hA hw [] rfl (by decide) rfl hl.1 rfl (Nat.le_of_ble_eq_true rfl) dX5_roomOf_1 ⟨Nat.le_of_ble_eq_true rfl, Nat.le_of_ble_eq_true rfl⟩) rfl rfl rfl (fun H locs hw => ?_)
  refine lv_istore (lv' := [(4, .int u1), (0, .ref (ad 0)), (1, .int p0), (2, .int p1), (3, .int p2)]) hx hb dX5_roomOf_4 hl (by decide) rfl (fun ls hl => ?_)
  refine lv_iload hx hb dX5_roomOf_6 (lv_at hl 0 rfl) ?_
  refine lv_if_eq (tgt := 29) hx hb dX5_roomOf_8 (by decide) (fun hc => ?_) (fun hc => ?_)
  · have hF := zif_t hc hF
    exact wX5_roomOf_29 C0 hK hA hret   _ _ _ _ _ _ _ _ hF _ _ _ hw (lv_sub hl [1, 2, 3, 4, 0] rfl)
  · have hF := zif_f hc hF
    refine lv_aload_n hx hb dX5_roomOf_11 rfl (lv_at hl 1 rfl) ?_
    refine lv_iload_n hx hb dX5_roomOf_12 rfl (lv_at hl 2 rfl) ?_
    obtain ⟨u3, hq4, hF⟩ := zbd_t hF
    refine zgoVw (w' := (zM ad k thrown now saved hist kept reason detail isSaved comes u3.1 far isInText ahead u3.2.1 u3.2.2 text length at_ errorPosition toldFrom toldTo isWrong before)) hw hA (zVw (As := [.int p0]) (rest := []) ⟨hx, hb, hml, hown, hts⟩ (mX5_findRooms l G k ad H.size thrown now saved hist kept reason detail isSaved comes queue far isInText ahead roomAt rooms text length at_ errorPosition toldFrom toldTo isWrong before p0 u3 hq4) (cwV 1 hts gX5_roomOf_X5_findRooms rfl rfl rfl kdX5_findRooms ⟨Nat.le_of_ble_eq_true rfl, Nat.le_of_ble_eq_true rfl⟩) hK hA hw 0 rfl rfl rfl rfl hl.1 rfl (Nat.le_of_ble_eq_true rfl) dX5_roomOf_13 ⟨Nat.le_of_ble_eq_true rfl, Nat.le_of_ble_eq_true rfl⟩) (fun H locs hw => ?_)
    refine lv_iload_n hx hb dX5_roomOf_16 rfl (lv_at hl 3 rfl) ?_
    refine lv_iconst (v := (0 : Int32)) hx hb dX5_roomOf_17 (by decide) ?_
    refine lv_aload_n hx hb dX5_roomOf_18 rfl (lv_at hl 1 rfl) ?_
    refine va_get (D := G) (ci := 4) (v := .int u3.2.2) (C := RX5) (T := TX5) (N := 23) hx hb hts inX5_roomOf_X5 hown hK.1 hw.1 0 rfl rfl 14 (by decide) (hts (.fieldLink RX5 207 "SealedBoardModel" "rooms" "I") (by decide +kernel)) (fun _ h9 => h9) rfl dX5_roomOf_19 ?_
    refine lv_iconst (v := (1 : Int32)) hx hb dX5_roomOf_22 (by decide) ?_
    refine lv_isub hx hb dX5_roomOf_23 ?_
    obtain ⟨u5, hq6, hF⟩ := zbd_t hF
    refine zgoI (w' := (zM ad k thrown now saved hist kept reason detail isSaved comes u3.1 far isInText ahead u3.2.1 u3.2.2 text length at_ errorPosition toldFrom toldTo isWrong before)) hw hA [] rfl (zS (As := [.int p1, .int (0 : Int32), .int (u3.2.2 - (1 : Int32))]) (rest := []) ⟨hx, hb, hml, hown, hts⟩ (mX5_isBetween l G k  H.size  p1 (0 : Int32) (u3.2.2 - (1 : Int32)) u5 hq6) (va_cwS 3 hts gX5_roomOf_X5_isBetween rfl rfl rfl kdX5_isBetween ⟨Nat.le_of_ble_eq_true rfl, Nat.le_of_ble_eq_true rfl⟩) hK hA hw [] rfl (by decide) rfl hl.1 rfl (Nat.le_of_ble_eq_true rfl) dX5_roomOf_24 ⟨Nat.le_of_ble_eq_true rfl, Nat.le_of_ble_eq_true rfl⟩) rfl rfl rfl (fun H locs hw => ?_)
    refine lv_istore (lv' := [(4, .int u5), (0, .ref (ad 0)), (1, .int p0), (2, .int p1), (3, .int p2)]) hx hb dX5_roomOf_27 hl (by decide) rfl (fun ls hl => ?_)
    exact wX5_roomOf_29 C0 hK hA hret   _ _ _ _ _ _ _ _ hF _ _ _ hw (lv_sub hl [1, 2, 3, 4, 0] rfl)

/-! SealedBoardModel.sealed(I)I -/
abbrev rmX5_sealed : Room := { frames := 5, cells := 0, slots := 0, locals := 116 }
theorem kdX5_sealed : yX5_sealed.cls = RX5 ∧ yX5_sealed.cls ≠ "java/lang/invoke/MethodHandle" ∧ yX5_sealed.cls ≠ "java/lang/invoke/VarHandle" ∧ (parseMethodDescriptor yX5_sealed.desc).map (fun d => d.parameters.length) = some 1 := by decide +kernel
def fX5_sealed_14  (now : Nat → Int32) (thrown : Int32) (queue : Nat → Int32) (roomAt : Nat → Int32) (rooms : Int32) (x1 : Int32) (s0 : Int32) (s1 : Int32) : Option (Int32 × Int32 × (Nat → Int32) × (Nat → Int32) × Int32) := (zbd (fX5_fails thrown s1 s0) (fun u1 => (if u1.1 = 0 then (zbd (fX5_countSealed now queue roomAt rooms x1) (fun u3 => (some (u3.1, u1.2, u3.2.1, u3.2.2.1, u3.2.2.2)))) else (some ((0 : Int32), u1.2, queue, roomAt, rooms)))))
def fX5_sealed (thrown : Int32) (now : Nat → Int32) (queue : Nat → Int32) (roomAt : Nat → Int32) (rooms : Int32) (p0 : Int32) : Option (Int32 × Int32 × (Nat → Int32) × (Nat → Int32) × Int32) := (zbd (fX5_isSide p0) (fun u1 => (if u1 = 0 then (fX5_sealed_14  now  thrown queue roomAt rooms p0 (1 : Int32) (1 : Int32)) else (fX5_sealed_14  now  thrown queue roomAt rooms p0 (0 : Int32) (1 : Int32)))))
set_option maxHeartbeats 400000 in
set_option maxRecDepth 100000 in
theorem wX5_sealed_14 {p : Program} {l : Launch} {e : Env} {s : State} {m : MethodId} {args : Array Value} {below : List Frame} {meth : Method} {c : Code} {A : Nat → Prop} {Q : State → Prop} {G : va_G} {k : Nat → ClassId} {ad : Nat → Nat} {now : Nat → Int32} {saved : Nat → Int32} {hist : Nat → Nat → Int32} {kept : Int32} {reason : Int32} {detail : Int32} {isSaved : Int32} {comes : Nat → Int32} {far : Nat → Int32} {isInText : Int32} {ahead : Nat → Int32} {text : Nat → Int32} {length : Int32} {at_ : Int32} {errorPosition : Int32} {toldFrom : Int32} {toldTo : Int32} {isWrong : Int32} {before : Nat → Int32} {o : Int32 × Int32 × (Nat → Int32) × (Nat → Int32) × Int32} (C0 : zCx p s m args meth c wsX5_sealed cX5_sealed RX5 (some .int) 2) (hK : zKK G k A s s.heap) (hA : ∀ q : Nat, s.heap.size ≤ q → A q) (hret : zRI p l e rmX5_sealed s m args below meth c cX5_sealed G A 0 0 Q .int (zM ad k o.2.1 now saved hist kept reason detail isSaved comes o.2.2.1 far isInText ahead o.2.2.2.1 o.2.2.2.2 text length at_ errorPosition toldFrom toldTo isWrong before) o.1)  : ∀ (thrown : Int32) (queue : Nat → Int32) (roomAt : Nat → Int32) (rooms : Int32) (x1 : Int32) (s0 : Int32) (s1 : Int32), fX5_sealed_14  now thrown queue roomAt rooms x1 s0 s1 = some o → ∀ (H : Heap) (locs : List Loc) (ls : Array Slot), zWd G A s (zM ad k thrown now saved hist kept reason detail isSaved comes queue far isInText ahead roomAt rooms text length at_ errorPosition toldFrom toldTo isWrong before) H locs → lv_has ls 2 [(0, .ref (ad 0)), (1, .int x1)] → W p l e rmX5_sealed s m args below meth c H locs 0 0 Q (F0 m 14 ls [.int s0, .int s1, .ref (ad 0)]) := by
  obtain ⟨hx, hb, hr, hml, hown, hts, hlocks⟩ := id C0
  intro thrown queue roomAt rooms x1 s0 s1 hF H locs ls hw hl
  unfold fX5_sealed_14 at hF
  obtain ⟨u1, hq2, hF⟩ := zbd_t hF
  refine zgoIw (w' := (zM ad k u1.2 now saved hist kept reason detail isSaved comes queue far isInText ahead roomAt rooms text length at_ errorPosition toldFrom toldTo isWrong before)) hw hA (zVw (As := [.int s1, .int s0]) (rest := []) ⟨hx, hb, hml, hown, hts⟩ (mX5_fails l G k ad H.size thrown now saved hist kept reason detail isSaved comes queue far isInText ahead roomAt rooms text length at_ errorPosition toldFrom toldTo isWrong before s1 s0 u1 hq2) (cwV 2 hts gX5_sealed_X5_fails rfl rfl rfl kdX5_fails ⟨Nat.le_of_ble_eq_true rfl, Nat.le_of_ble_eq_true rfl⟩) hK hA hw 0 rfl rfl rfl rfl hl.1 rfl (Nat.le_of_ble_eq_true rfl) dX5_sealed_14 ⟨Nat.le_of_ble_eq_true rfl, Nat.le_of_ble_eq_true rfl⟩) (fun H locs hw => ?_)
  refine lv_if_eq (tgt := 24) hx hb dX5_sealed_17 (by decide) (fun hc => ?_) (fun hc => ?_)
  · have hF := zif_t hc hF
    refine lv_aload_n hx hb dX5_sealed_24 rfl (lv_at hl 0 rfl) ?_
    refine lv_iload_n hx hb dX5_sealed_25 rfl (lv_at hl 1 rfl) ?_
    obtain ⟨u3, hq4, hF⟩ := zbd_t hF
    refine zgoIw (w' := (zM ad k u1.2 now saved hist kept reason detail isSaved comes u3.2.1 far isInText ahead u3.2.2.1 u3.2.2.2 text length at_ errorPosition toldFrom toldTo isWrong before)) hw hA (zVw (As := [.int x1]) (rest := []) ⟨hx, hb, hml, hown, hts⟩ (mX5_countSealed l G k ad H.size u1.2 now saved hist kept reason detail isSaved comes queue far isInText ahead roomAt rooms text length at_ errorPosition toldFrom toldTo isWrong before x1 u3 hq4) (cwV 1 hts gX5_sealed_X5_countSealed rfl rfl rfl kdX5_countSealed ⟨Nat.le_of_ble_eq_true rfl, Nat.le_of_ble_eq_true rfl⟩) hK hA hw 0 rfl rfl rfl rfl hl.1 rfl (Nat.le_of_ble_eq_true rfl) dX5_sealed_26 ⟨Nat.le_of_ble_eq_true rfl, Nat.le_of_ble_eq_true rfl⟩) (fun H locs hw => ?_)
    obtain rfl := Option.some.inj hF
    exact hret _ _ _ _ rfl hw dX5_sealed_29
  · have hF := zif_f hc hF
    refine lv_iconst (v := (0 : Int32)) hx hb dX5_sealed_20 (by decide) ?_
    refine lv_goto (tgt := 29) hx hb dX5_sealed_21 (by decide) ?_
    obtain rfl := Option.some.inj hF
    exact hret _ _ _ _ rfl hw dX5_sealed_29
set_option maxHeartbeats 400000 in
set_option maxRecDepth 100000 in
theorem mX5_sealed (l : Launch) (G : va_G) (k : Nat → ClassId) (ad : Nat → Nat) (sz : Nat) (thrown : Int32) (now : Nat → Int32) (saved : Nat → Int32) (hist : Nat → Nat → Int32) (kept : Int32) (reason : Int32) (detail : Int32) (isSaved : Int32) (comes : Nat → Int32) (queue : Nat → Int32) (far : Nat → Int32) (isInText : Int32) (ahead : Nat → Int32) (roomAt : Nat → Int32) (rooms : Int32) (text : Nat → Int32) (length : Int32) (at_ : Int32) (errorPosition : Int32) (toldFrom : Int32) (toldTo : Int32) (isWrong : Int32) (before : Nat → Int32) (p0 : Int32) (o : Int32 × Int32 × (Nat → Int32) × (Nat → Int32) × Int32) (hF : fX5_sealed thrown now queue roomAt rooms p0 = some o) : zMI l yX5_sealed wsX5_sealed rmX5_sealed G k (zM ad k thrown now saved hist kept reason detail isSaved comes queue far isInText ahead roomAt rooms text length at_ errorPosition toldFrom toldTo isWrong before) sz [.ref (ad 0), .int p0] o.1 (zM ad k o.2.1 now saved hist kept reason detail isSaved comes o.2.2.1 far isInText ahead o.2.2.2.1 o.2.2.2.2 text length at_ errorPosition toldFrom toldTo isWrong before) := by
  refine zof_I (cc := cX5_sealed) (nL := 2) (own := RX5) (rt := .int) (by decide) rfl rfl (Nat.le_of_ble_eq_true rfl) ?_
  intro p e s m args below meth c A Q C0 hK hA hret ls hl hw
  have hl : lv_has ls 2 [(0, .ref (ad 0)), (1, .int p0)] := hl
  obtain ⟨hx, hb, hr, hml, hown, hts, hlocks⟩ := id C0
  obtain ⟨H, hH⟩ : ∃ z, z = s.heap := ⟨_, rfl⟩
  rw [← hH] at hw ⊢
  unfold fX5_sealed at hF
  refine lv_aload_n hx hb dX5_sealed_0 rfl (lv_at hl 0 rfl) ?_
  refine lv_iconst (v := (1 : Int32)) hx hb dX5_sealed_1 (by decide) ?_
  refine lv_iload_n hx hb dX5_sealed_2 rfl (lv_at hl 1 rfl) ?_
  obtain ⟨u1, hq2, hF⟩ := zbd_t hF
  refine zgoI (w' := (zM ad k thrown now saved hist kept reason detail isSaved comes queue far isInText ahead roomAt rooms text length at_ errorPosition toldFrom toldTo isWrong before)) hw hA [] rfl (zS (As := [.int p0]) (rest := [.int (1 : Int32), .ref (ad 0)]) ⟨hx, hb, hml, hown, hts⟩ (mX5_isSide l G k  H.size  p0 u1 hq2) (va_cwS 1 hts gX5_sealed_X5_isSide rfl rfl rfl kdX5_isSide ⟨Nat.le_of_ble_eq_true rfl, Nat.le_of_ble_eq_true rfl⟩) hK hA hw [] rfl (by decide) rfl hl.1 rfl (Nat.le_of_ble_eq_true rfl) dX5_sealed_3 ⟨Nat.le_of_ble_eq_true rfl, Nat.le_of_ble_eq_true rfl⟩) rfl rfl rfl (fun H locs hw => ?_)
  refine lv_if_ne (tgt := 13) hx hb dX5_sealed_6 (by decide) (fun hc => ?_) (fun hc => ?_)
  · have hF := zif_f hc hF
    refine lv_iconst (v := (0 : Int32)) hx hb dX5_sealed_13 (by decide) ?_
    exact wX5_sealed_14 C0 hK hA hret   _ _ _ _ _ _ _ hF _ _ _ hw (lv_sub hl [0, 1] rfl)
  · have hF := zif_t hc hF
    refine lv_iconst (v := (1 : Int32)) hx hb dX5_sealed_9 (by decide) ?_
    refine lv_goto (tgt := 14) hx hb dX5_sealed_10 (by decide) ?_
    exact wX5_sealed_14 C0 hK hA hret   _ _ _ _ _ _ _ hF _ _ _ hw (lv_sub hl [0, 1] rfl)

/-! SealedBoardModel.findSteps(I)V -/
abbrev rmX5_findSteps : Room := { frames := 2, cells := 0, slots := 0, locals := 45 }
theorem kdX5_findSteps : yX5_findSteps.cls = RX5 ∧ yX5_findSteps.cls ≠ "java/lang/invoke/MethodHandle" ∧ yX5_findSteps.cls ≠ "java/lang/invoke/VarHandle" ∧ (parseMethodDescriptor yX5_findSteps.desc).map (fun d => d.parameters.length) = some 1 := by decide +kernel
theorem inX5_findSteps_X5 : ∀ w ∈ u_ws RX5 TX5 23, w ∈ wsX5_findSteps := by decide +kernel
def fX5_findSteps_138 (k63 : (Nat → Int32) → (Nat → Int32) → Int32 → Int32 → Int32 → Int32 → Option ((Nat → Int32) × (Nat → Int32))) (now : Nat → Int32) (queue : Nat → Int32) (far : Nat → Int32) (x1 : Int32) (x2 : Int32) (x3 : Int32) (x4 : Int32) : Option ((Nat → Int32) × (Nat → Int32)) := (zbn (x4 + (1 : Int32)) (fun a1 => (k63 queue far x1 x2 x3 a1)))
def fX5_findSteps_63 (k55 : (Nat → Int32) → (Nat → Int32) → Int32 → Int32 → Int32 → Option ((Nat → Int32) × (Nat → Int32))) (now : Nat → Int32) : Nat → (Nat → Int32) → (Nat → Int32) → Int32 → Int32 → Int32 → Int32 → Option ((Nat → Int32) × (Nat → Int32))
  | 0, _, _, _, _, _, _ => none
  | n + 1, queue, far, x1, x2, x3, x4 => (if (4 : Int32) ≤ x4 then (zbn (x3 + (1 : Int32)) (fun a1 => (k55 queue far x1 x2 a1))) else (zck (zin x3 36) (zbd (fX5_next (queue x3.toNatClampNeg) x4) (fun u3 => (if u3 < 0 then (fX5_findSteps_138 (fun b0 b1 b2 b3 b4 b5 => fX5_findSteps_63 k55 now n b0 b1 b2 b3 b4 b5) now  queue far x1 x2 x3 x4) else (zbd (fX5_isOpen now x1 u3) (fun u5 => (if u5 = 0 then (fX5_findSteps_138 (fun b0 b1 b2 b3 b4 b5 => fX5_findSteps_63 k55 now n b0 b1 b2 b3 b4 b5) now  queue far x1 x2 x3 x4) else (zck (zin u3 36) (if 0 ≤ (far u3.toNatClampNeg) then (fX5_findSteps_138 (fun b0 b1 b2 b3 b4 b5 => fX5_findSteps_63 k55 now n b0 b1 b2 b3 b4 b5) now  queue far x1 x2 x3 x4) else (zck (zin x3 36) (zck (zin (queue x3.toNatClampNeg) 36) (zck (zin u3 36) (zck (zin x2 36) (zbn (x2 + (1 : Int32)) (fun a12 => (fX5_findSteps_138 (fun b0 b1 b2 b3 b4 b5 => fX5_findSteps_63 k55 now n b0 b1 b2 b3 b4 b5) now  (upd queue x2.toNatClampNeg u3) (upd far u3.toNatClampNeg ((far (queue x3.toNatClampNeg).toNatClampNeg) + (1 : Int32))) x1 a12 x3 x4)))))))))))))))))
def fX5_findSteps_55  (now : Nat → Int32) : Nat → (Nat → Int32) → (Nat → Int32) → Int32 → Int32 → Int32 → Option ((Nat → Int32) × (Nat → Int32))
  | 0, _, _, _, _, _ => none
  | n + 1, queue, far, x1, x2, x3 => (if x2 ≤ x3 then (some (queue, far)) else (fX5_findSteps_63 (fun b0 b1 b2 b3 b4 => fX5_findSteps_55  now n b0 b1 b2 b3 b4) now zFu queue far x1 x2 x3 (0 : Int32)))
def fX5_findSteps_47 (k4 : (Nat → Int32) → (Nat → Int32) → Int32 → Int32 → Int32 → Option ((Nat → Int32) × (Nat → Int32))) (now : Nat → Int32) (queue : Nat → Int32) (far : Nat → Int32) (x1 : Int32) (x2 : Int32) (x3 : Int32) : Option ((Nat → Int32) × (Nat → Int32)) := (zbn (x3 + (1 : Int32)) (fun a1 => (k4 queue far x1 x2 a1)))
def fX5_findSteps_4  (now : Nat → Int32) : Nat → (Nat → Int32) → (Nat → Int32) → Int32 → Int32 → Int32 → Option ((Nat → Int32) × (Nat → Int32))
  | 0, _, _, _, _, _ => none
  | n + 1, queue, far, x1, x2, x3 => (if (36 : Int32) ≤ x3 then (fX5_findSteps_55  now zFu queue far x1 x2 (0 : Int32)) else (zck (zin x3 36) (zck (zin x3 76) (zbd (fX5_sideOf (now x3.toNatClampNeg)) (fun u3 => (if u3 = x1 then (zck (zin x3 36) (zck (zin x2 36) (zbn (x2 + (1 : Int32)) (fun a7 => (fX5_findSteps_47 (fun b0 b1 b2 b3 b4 => fX5_findSteps_4  now n b0 b1 b2 b3 b4) now  (upd queue x2.toNatClampNeg x3) (upd (upd far x3.toNatClampNeg (-1 : Int32)) x3.toNatClampNeg (0 : Int32)) x1 a7 x3))))) else (fX5_findSteps_47 (fun b0 b1 b2 b3 b4 => fX5_findSteps_4  now n b0 b1 b2 b3 b4) now  queue (upd far x3.toNatClampNeg (-1 : Int32)) x1 x2 x3)))))))
def fX5_findSteps (now : Nat → Int32) (queue : Nat → Int32) (far : Nat → Int32) (p0 : Int32) : Option ((Nat → Int32) × (Nat → Int32)) := (fX5_findSteps_4  now zFu queue far p0 (0 : Int32) (0 : Int32))
set_option maxHeartbeats 400000 in
set_option maxRecDepth 100000 in
theorem wX5_findSteps_138 {p : Program} {l : Launch} {e : Env} {s : State} {m : MethodId} {args : Array Value} {below : List Frame} {meth : Method} {c : Code} {A : Nat → Prop} {Q : State → Prop} {G : va_G} {k : Nat → ClassId} {ad : Nat → Nat} {thrown : Int32} {now : Nat → Int32} {saved : Nat → Int32} {hist : Nat → Nat → Int32} {kept : Int32} {reason : Int32} {detail : Int32} {isSaved : Int32} {comes : Nat → Int32} {isInText : Int32} {ahead : Nat → Int32} {roomAt : Nat → Int32} {rooms : Int32} {text : Nat → Int32} {length : Int32} {at_ : Int32} {errorPosition : Int32} {toldFrom : Int32} {toldTo : Int32} {isWrong : Int32} {before : Nat → Int32} {o : (Nat → Int32) × (Nat → Int32)} (C0 : zCx p s m args meth c wsX5_findSteps cX5_findSteps RX5 none 6) (hK : zKK G k A s s.heap) (hA : ∀ q : Nat, s.heap.size ≤ q → A q) (hret : zRV p l e rmX5_findSteps s m args below meth c cX5_findSteps G A 0 0 Q (zM ad k thrown now saved hist kept reason detail isSaved comes o.1 o.2 isInText ahead roomAt rooms text length at_ errorPosition toldFrom toldTo isWrong before)) (k63 : (Nat → Int32) → (Nat → Int32) → Int32 → Int32 → Int32 → Int32 → Option ((Nat → Int32) × (Nat → Int32))) (hk63 : ∀ (queue : Nat → Int32) (far : Nat → Int32) (x1 : Int32) (x2 : Int32) (x3 : Int32) (x4 : Int32), k63 queue far x1 x2 x3 x4 = some o → ∀ (H : Heap) (locs : List Loc) (ls : Array Slot), zWd G A s (zM ad k thrown now saved hist kept reason detail isSaved comes queue far isInText ahead roomAt rooms text length at_ errorPosition toldFrom toldTo isWrong before) H locs → lv_has ls 6 [(0, .ref (ad 0)), (1, .int x1), (2, .int x2), (3, .int x3), (4, .int x4)] → W p l e rmX5_findSteps s m args below meth c H locs 0 0 Q (F0 m 63 ls [])) : ∀ (queue : Nat → Int32) (far : Nat → Int32) (x1 : Int32) (x2 : Int32) (x3 : Int32) (x4 : Int32), fX5_findSteps_138 k63 now queue far x1 x2 x3 x4 = some o → ∀ (H : Heap) (locs : List Loc) (ls : Array Slot), zWd G A s (zM ad k thrown now saved hist kept reason detail isSaved comes queue far isInText ahead roomAt rooms text length at_ errorPosition toldFrom toldTo isWrong before) H locs → lv_has ls 6 [(0, .ref (ad 0)), (1, .int x1), (2, .int x2), (3, .int x3), (4, .int x4)] → W p l e rmX5_findSteps s m args below meth c H locs 0 0 Q (F0 m 138 ls []) := by
  obtain ⟨hx, hb, hr, hml, hown, hts, hlocks⟩ := id C0
  intro queue far x1 x2 x3 x4 hF H locs ls hw hl
  unfold fX5_findSteps_138 at hF
  obtain ⟨a1, ea1⟩ : ∃ z : Int32, z = x4 + (1 : Int32) := ⟨_, rfl⟩
  have hF := zbn_t ea1 hF
  refine lv_iinc (v := a1) (lv' := [(4, .int a1), (0, .ref (ad 0)), (1, .int x1), (2, .int x2), (3, .int x3)]) hx hb dX5_findSteps_138 hl (k := 4) rfl (by rw [ea1]; rfl) (by decide) rfl (fun ls hl => ?_)
  refine lv_goto (tgt := 63) hx hb dX5_findSteps_141 (by decide) ?_
  exact hk63 _ _ _ _ _ _ hF _ _ _ hw (lv_sub hl [1, 2, 3, 4, 0] rfl)
set_option maxHeartbeats 400000 in
set_option maxRecDepth 100000 in
theorem wX5_findSteps_63 {p : Program} {l : Launch} {e : Env} {s : State} {m : MethodId} {args : Array Value} {below : List Frame} {meth : Method} {c : Code} {A : Nat → Prop} {Q : State → Prop} {G : va_G} {k : Nat → ClassId} {ad : Nat → Nat} {thrown : Int32} {now : Nat → Int32} {saved : Nat → Int32} {hist : Nat → Nat → Int32} {kept : Int32} {reason : Int32} {detail : Int32} {isSaved : Int32} {comes : Nat → Int32} {isInText : Int32} {ahead : Nat → Int32} {roomAt : Nat → Int32} {rooms : Int32} {text : Nat → Int32} {length : Int32} {at_ : Int32} {errorPosition : Int32} {toldFrom : Int32} {toldTo : Int32} {isWrong : Int32} {before : Nat → Int32} {o : (Nat → Int32) × (Nat → Int32)} (C0 : zCx p s m args meth c wsX5_findSteps cX5_findSteps RX5 none 6) (hK : zKK G k A s s.heap) (hA : ∀ q : Nat, s.heap.size ≤ q → A q) (hret : zRV p l e rmX5_findSteps s m args below meth c cX5_findSteps G A 0 0 Q (zM ad k thrown now saved hist kept reason detail isSaved comes o.1 o.2 isInText ahead roomAt rooms text length at_ errorPosition toldFrom toldTo isWrong before)) (k55 : (Nat → Int32) → (Nat → Int32) → Int32 → Int32 → Int32 → Option ((Nat → Int32) × (Nat → Int32))) (hk55 : ∀ (queue : Nat → Int32) (far : Nat → Int32) (x1 : Int32) (x2 : Int32) (x3 : Int32), k55 queue far x1 x2 x3 = some o → ∀ (H : Heap) (locs : List Loc) (ls : Array Slot), zWd G A s (zM ad k thrown now saved hist kept reason detail isSaved comes queue far isInText ahead roomAt rooms text length at_ errorPosition toldFrom toldTo isWrong before) H locs → lv_has ls 6 [(0, .ref (ad 0)), (1, .int x1), (2, .int x2), (3, .int x3)] → W p l e rmX5_findSteps s m args below meth c H locs 0 0 Q (F0 m 55 ls [])) : ∀ (n : Nat) (queue : Nat → Int32) (far : Nat → Int32) (x1 : Int32) (x2 : Int32) (x3 : Int32) (x4 : Int32), fX5_findSteps_63 k55 now n queue far x1 x2 x3 x4 = some o → ∀ (H : Heap) (locs : List Loc) (ls : Array Slot), zWd G A s (zM ad k thrown now saved hist kept reason detail isSaved comes queue far isInText ahead roomAt rooms text length at_ errorPosition toldFrom toldTo isWrong before) H locs → lv_has ls 6 [(0, .ref (ad 0)), (1, .int x1), (2, .int x2), (3, .int x3), (4, .int x4)] → W p l e rmX5_findSteps s m args below meth c H locs 0 0 Q (F0 m 63 ls []) := by
  obtain ⟨hx, hb, hr, hml, hown, hts, hlocks⟩ := id C0
  intro n
  induction n with
  | zero => intro queue far x1 x2 x3 x4 hF; exact nomatch hF
  | succ n ih =>
    intro queue far x1 x2 x3 x4 hF H locs ls hw hl
    rw [fX5_findSteps_63] at hF
    refine lv_iload hx hb dX5_findSteps_63 (lv_at hl 4 rfl) ?_
    refine lv_iconst (v := (4 : Int32)) hx hb dX5_findSteps_65 (by decide) ?_
    refine lv_icmp_ge (tgt := 144) hx hb dX5_findSteps_66 (by decide) (fun hc => ?_) (fun hc => ?_)
    · have hF := zif_t hc hF
      obtain ⟨a1, ea1⟩ : ∃ z : Int32, z = x3 + (1 : Int32) := ⟨_, rfl⟩
      have hF := zbn_t ea1 hF
      refine lv_iinc (v := a1) (lv' := [(3, .int a1), (0, .ref (ad 0)), (1, .int x1), (2, .int x2), (4, .int x4)]) hx hb dX5_findSteps_144 hl (k := 3) rfl (by rw [ea1]; rfl) (by decide) rfl (fun ls hl => ?_)
      refine lv_goto (tgt := 55) hx hb dX5_findSteps_147 (by decide) ?_
      exact hk55 _ _ _ _ _ hF _ _ _ hw (lv_sub hl [1, 2, 3, 0] rfl)
    · have hF := zif_f hc hF
      refine lv_aload_n hx hb dX5_findSteps_69 rfl (lv_at hl 0 rfl) ?_
      refine va_get (D := G) (ci := 4) (v := .ref (ad 5)) (C := RX5) (T := TX5) (N := 23) hx hb hts inX5_findSteps_X5 hown hK.1 hw.1 0 rfl rfl 9 (by decide) (hts (.fieldLink RX5 25 "SealedBoardModel" "queue" "[I") (by decide +kernel)) (fun _ h9 => h9) rfl dX5_findSteps_70 ?_
      refine lv_iload_n hx hb dX5_findSteps_73 rfl (lv_at hl 3 rfl) ?_
      obtain ⟨hi2, hF⟩ := zck_in hF
      refine va_iald hx hb hK.1 hw.1 5 2 rfl rfl hi2 dX5_findSteps_74 ?_
      refine lv_iload hx hb dX5_findSteps_75 (lv_at hl 4 rfl) ?_
      obtain ⟨u3, hq4, hF⟩ := zbd_t hF
      refine zgoI (w' := (zM ad k thrown now saved hist kept reason detail isSaved comes queue far isInText ahead roomAt rooms text length at_ errorPosition toldFrom toldTo isWrong before)) hw hA [] rfl (zS (As := [.int (queue x3.toNatClampNeg), .int x4]) (rest := []) ⟨hx, hb, hml, hown, hts⟩ (mX5_next l G k  H.size  (queue x3.toNatClampNeg) x4 u3 hq4) (va_cwS 2 hts gX5_findSteps_X5_next rfl rfl rfl kdX5_next ⟨Nat.le_of_ble_eq_true rfl, Nat.le_of_ble_eq_true rfl⟩) hK hA hw [] rfl (by decide) rfl hl.1 rfl (Nat.le_of_ble_eq_true rfl) dX5_findSteps_77 ⟨Nat.le_of_ble_eq_true rfl, Nat.le_of_ble_eq_true rfl⟩) rfl rfl rfl (fun H locs hw => ?_)
      refine lv_istore (lv' := [(5, .int u3), (0, .ref (ad 0)), (1, .int x1), (2, .int x2), (3, .int x3), (4, .int x4)]) hx hb dX5_findSteps_80 hl (by decide) rfl (fun ls hl => ?_)
      refine lv_iload hx hb dX5_findSteps_82 (lv_at hl 0 rfl) ?_
      refine lv_if_lt (tgt := 138) hx hb dX5_findSteps_84 (by decide) (fun hc => ?_) (fun hc => ?_)
      · have hF := zif_t hc hF
        exact wX5_findSteps_138 C0 hK hA hret (fun b0 b1 b2 b3 b4 b5 => fX5_findSteps_63 k55 now n b0 b1 b2 b3 b4 b5) ih  _ _ _ _ _ _ hF _ _ _ hw (lv_sub hl [1, 2, 3, 4, 5] rfl)
      · have hF := zif_f hc hF
        refine lv_aload_n hx hb dX5_findSteps_87 rfl (lv_at hl 1 rfl) ?_
        refine lv_iload_n hx hb dX5_findSteps_88 rfl (lv_at hl 2 rfl) ?_
        refine lv_iload hx hb dX5_findSteps_89 (lv_at hl 0 rfl) ?_
        obtain ⟨u5, hq6, hF⟩ := zbd_t hF
        refine zgoIw (w' := (zM ad k thrown now saved hist kept reason detail isSaved comes queue far isInText ahead roomAt rooms text length at_ errorPosition toldFrom toldTo isWrong before)) hw hA (zVw (As := [.int x1, .int u3]) (rest := []) ⟨hx, hb, hml, hown, hts⟩ (mX5_isOpen l G k ad H.size thrown now saved hist kept reason detail isSaved comes queue far isInText ahead roomAt rooms text length at_ errorPosition toldFrom toldTo isWrong before x1 u3 u5 hq6) (cwV 2 hts gX5_findSteps_X5_isOpen rfl rfl rfl kdX5_isOpen ⟨Nat.le_of_ble_eq_true rfl, Nat.le_of_ble_eq_true rfl⟩) hK hA hw 0 rfl rfl rfl rfl hl.1 rfl (Nat.le_of_ble_eq_true rfl) dX5_findSteps_91 ⟨Nat.le_of_ble_eq_true rfl, Nat.le_of_ble_eq_true rfl⟩) (fun H locs hw => ?_)
        refine lv_if_eq (tgt := 138) hx hb dX5_findSteps_94 (by decide) (fun hc => ?_) (fun hc => ?_)
        · have hF := zif_t hc hF
          exact wX5_findSteps_138 C0 hK hA hret (fun b0 b1 b2 b3 b4 b5 => fX5_findSteps_63 k55 now n b0 b1 b2 b3 b4 b5) ih  _ _ _ _ _ _ hF _ _ _ hw (lv_sub hl [1, 2, 3, 4, 5] rfl)
        · have hF := zif_f hc hF
          refine lv_aload_n hx hb dX5_findSteps_97 rfl (lv_at hl 1 rfl) ?_
          refine va_get (D := G) (ci := 4) (v := .ref (ad 6)) (C := RX5) (T := TX5) (N := 23) hx hb hts inX5_findSteps_X5 hown hK.1 hw.1 0 rfl rfl 10 (by decide) (hts (.fieldLink RX5 28 "SealedBoardModel" "far" "[I") (by decide +kernel)) (fun _ h9 => h9) rfl dX5_findSteps_98 ?_
          refine lv_iload hx hb dX5_findSteps_101 (lv_at hl 0 rfl) ?_
          obtain ⟨hi7, hF⟩ := zck_in hF
          refine va_iald hx hb hK.1 hw.1 6 2 rfl rfl hi7 dX5_findSteps_103 ?_
          refine lv_if_ge (tgt := 138) hx hb dX5_findSteps_104 (by decide) (fun hc => ?_) (fun hc => ?_)
          · have hF := zif_t hc hF
            exact wX5_findSteps_138 C0 hK hA hret (fun b0 b1 b2 b3 b4 b5 => fX5_findSteps_63 k55 now n b0 b1 b2 b3 b4 b5) ih  _ _ _ _ _ _ hF _ _ _ hw (lv_sub hl [1, 2, 3, 4, 5] rfl)
          · have hF := zif_f hc hF
            refine lv_aload_n hx hb dX5_findSteps_107 rfl (lv_at hl 1 rfl) ?_
            refine va_get (D := G) (ci := 4) (v := .ref (ad 6)) (C := RX5) (T := TX5) (N := 23) hx hb hts inX5_findSteps_X5 hown hK.1 hw.1 0 rfl rfl 10 (by decide) (hts (.fieldLink RX5 28 "SealedBoardModel" "far" "[I") (by decide +kernel)) (fun _ h9 => h9) rfl dX5_findSteps_108 ?_
            refine lv_iload hx hb dX5_findSteps_111 (lv_at hl 0 rfl) ?_
            refine lv_aload_n hx hb dX5_findSteps_113 rfl (lv_at hl 1 rfl) ?_
            refine va_get (D := G) (ci := 4) (v := .ref (ad 6)) (C := RX5) (T := TX5) (N := 23) hx hb hts inX5_findSteps_X5 hown hK.1 hw.1 0 rfl rfl 10 (by decide) (hts (.fieldLink RX5 28 "SealedBoardModel" "far" "[I") (by decide +kernel)) (fun _ h9 => h9) rfl dX5_findSteps_114 ?_
            refine lv_aload_n hx hb dX5_findSteps_117 rfl (lv_at hl 1 rfl) ?_
            refine va_get (D := G) (ci := 4) (v := .ref (ad 5)) (C := RX5) (T := TX5) (N := 23) hx hb hts inX5_findSteps_X5 hown hK.1 hw.1 0 rfl rfl 9 (by decide) (hts (.fieldLink RX5 25 "SealedBoardModel" "queue" "[I") (by decide +kernel)) (fun _ h9 => h9) rfl dX5_findSteps_118 ?_
            refine lv_iload_n hx hb dX5_findSteps_121 rfl (lv_at hl 4 rfl) ?_
            obtain ⟨hi8, hF⟩ := zck_in hF
            refine va_iald hx hb hK.1 hw.1 5 2 rfl rfl hi8 dX5_findSteps_122 ?_
            obtain ⟨hi9, hF⟩ := zck_in hF
            refine va_iald hx hb hK.1 hw.1 6 2 rfl rfl hi9 dX5_findSteps_123 ?_
            refine lv_iconst (v := (1 : Int32)) hx hb dX5_findSteps_124 (by decide) ?_
            refine lv_iadd hx hb dX5_findSteps_125 ?_
            obtain ⟨hi10, hF⟩ := zck_in hF
            refine va_iast hx hb hK.1 hw.1 hw.2.1 hw.2.2 6 2 rfl rfl hi10 dX5_findSteps_126 (fun H locs hP hD hS => ?_)
            have hw : zWd G A s (zM ad k thrown now saved hist kept reason detail isSaved comes queue (upd far u3.toNatClampNeg ((far (queue x3.toNatClampNeg).toNatClampNeg) + (1 : Int32))) isInText ahead roomAt rooms text length at_ errorPosition toldFrom toldTo isWrong before) H locs := ⟨hP, hD, hS⟩
            refine lv_aload_n hx hb dX5_findSteps_127 rfl (lv_at hl 1 rfl) ?_
            refine va_get (D := G) (ci := 4) (v := .ref (ad 5)) (C := RX5) (T := TX5) (N := 23) hx hb hts inX5_findSteps_X5 hown hK.1 hw.1 0 rfl rfl 9 (by decide) (hts (.fieldLink RX5 25 "SealedBoardModel" "queue" "[I") (by decide +kernel)) (fun _ h9 => h9) rfl dX5_findSteps_128 ?_
            refine lv_iload_n hx hb dX5_findSteps_131 rfl (lv_at hl 3 rfl) ?_
            refine lv_iload hx hb dX5_findSteps_132 (lv_at hl 0 rfl) ?_
            obtain ⟨hi11, hF⟩ := zck_in hF
            refine va_iast hx hb hK.1 hw.1 hw.2.1 hw.2.2 5 2 rfl rfl hi11 dX5_findSteps_134 (fun H locs hP hD hS => ?_)
            have hw : zWd G A s (zM ad k thrown now saved hist kept reason detail isSaved comes (upd queue x2.toNatClampNeg u3) (upd far u3.toNatClampNeg ((far (queue x3.toNatClampNeg).toNatClampNeg) + (1 : Int32))) isInText ahead roomAt rooms text length at_ errorPosition toldFrom toldTo isWrong before) H locs := ⟨hP, hD, hS⟩
            obtain ⟨a12, ea12⟩ : ∃ z : Int32, z = x2 + (1 : Int32) := ⟨_, rfl⟩
            have hF := zbn_t ea12 hF
            refine lv_iinc (v := a12) (lv' := [(2, .int a12), (5, .int u3), (0, .ref (ad 0)), (1, .int x1), (3, .int x3), (4, .int x4)]) hx hb dX5_findSteps_135 hl (k := 3) rfl (by rw [ea12]; rfl) (by decide) rfl (fun ls hl => ?_)
            exact wX5_findSteps_138 C0 hK hA hret (fun b0 b1 b2 b3 b4 b5 => fX5_findSteps_63 k55 now n b0 b1 b2 b3 b4 b5) ih  _ _ _ _ _ _ hF _ _ _ hw (lv_sub hl [2, 3, 0, 4, 5] rfl)
set_option maxHeartbeats 400000 in
set_option maxRecDepth 100000 in
theorem wX5_findSteps_55 {p : Program} {l : Launch} {e : Env} {s : State} {m : MethodId} {args : Array Value} {below : List Frame} {meth : Method} {c : Code} {A : Nat → Prop} {Q : State → Prop} {G : va_G} {k : Nat → ClassId} {ad : Nat → Nat} {thrown : Int32} {now : Nat → Int32} {saved : Nat → Int32} {hist : Nat → Nat → Int32} {kept : Int32} {reason : Int32} {detail : Int32} {isSaved : Int32} {comes : Nat → Int32} {isInText : Int32} {ahead : Nat → Int32} {roomAt : Nat → Int32} {rooms : Int32} {text : Nat → Int32} {length : Int32} {at_ : Int32} {errorPosition : Int32} {toldFrom : Int32} {toldTo : Int32} {isWrong : Int32} {before : Nat → Int32} {o : (Nat → Int32) × (Nat → Int32)} (C0 : zCx p s m args meth c wsX5_findSteps cX5_findSteps RX5 none 6) (hK : zKK G k A s s.heap) (hA : ∀ q : Nat, s.heap.size ≤ q → A q) (hret : zRV p l e rmX5_findSteps s m args below meth c cX5_findSteps G A 0 0 Q (zM ad k thrown now saved hist kept reason detail isSaved comes o.1 o.2 isInText ahead roomAt rooms text length at_ errorPosition toldFrom toldTo isWrong before))  : ∀ (n : Nat) (queue : Nat → Int32) (far : Nat → Int32) (x1 : Int32) (x2 : Int32) (x3 : Int32), fX5_findSteps_55  now n queue far x1 x2 x3 = some o → ∀ (H : Heap) (locs : List Loc) (ls : Array Slot), zWd G A s (zM ad k thrown now saved hist kept reason detail isSaved comes queue far isInText ahead roomAt rooms text length at_ errorPosition toldFrom toldTo isWrong before) H locs → lv_has ls 6 [(0, .ref (ad 0)), (1, .int x1), (2, .int x2), (3, .int x3)] → W p l e rmX5_findSteps s m args below meth c H locs 0 0 Q (F0 m 55 ls []) := by
  obtain ⟨hx, hb, hr, hml, hown, hts, hlocks⟩ := id C0
  intro n
  induction n with
  | zero => intro queue far x1 x2 x3 hF; exact nomatch hF
  | succ n ih =>
    intro queue far x1 x2 x3 hF H locs ls hw hl
    rw [fX5_findSteps_55] at hF
    refine lv_iload_n hx hb dX5_findSteps_55 rfl (lv_at hl 3 rfl) ?_
    refine lv_iload_n hx hb dX5_findSteps_56 rfl (lv_at hl 2 rfl) ?_
    refine lv_icmp_ge (tgt := 150) hx hb dX5_findSteps_57 (by decide) (fun hc => ?_) (fun hc => ?_)
    · have hF := zif_t hc hF
      obtain rfl := Option.some.inj hF
      exact hret _ _ _ _  hw dX5_findSteps_150
    · have hF := zif_f hc hF
      refine lv_iconst (v := (0 : Int32)) hx hb dX5_findSteps_60 (by decide) ?_
      refine lv_istore (lv' := [(4, .int (0 : Int32)), (0, .ref (ad 0)), (1, .int x1), (2, .int x2), (3, .int x3)]) hx hb dX5_findSteps_61 hl (by decide) rfl (fun ls hl => ?_)
      exact wX5_findSteps_63 C0 hK hA hret (fun b0 b1 b2 b3 b4 => fX5_findSteps_55  now n b0 b1 b2 b3 b4) ih zFu _ _ _ _ _ _ hF _ _ _ hw (lv_sub hl [1, 2, 3, 4, 0] rfl)
set_option maxHeartbeats 400000 in
set_option maxRecDepth 100000 in
theorem wX5_findSteps_47 {p : Program} {l : Launch} {e : Env} {s : State} {m : MethodId} {args : Array Value} {below : List Frame} {meth : Method} {c : Code} {A : Nat → Prop} {Q : State → Prop} {G : va_G} {k : Nat → ClassId} {ad : Nat → Nat} {thrown : Int32} {now : Nat → Int32} {saved : Nat → Int32} {hist : Nat → Nat → Int32} {kept : Int32} {reason : Int32} {detail : Int32} {isSaved : Int32} {comes : Nat → Int32} {isInText : Int32} {ahead : Nat → Int32} {roomAt : Nat → Int32} {rooms : Int32} {text : Nat → Int32} {length : Int32} {at_ : Int32} {errorPosition : Int32} {toldFrom : Int32} {toldTo : Int32} {isWrong : Int32} {before : Nat → Int32} {o : (Nat → Int32) × (Nat → Int32)} (C0 : zCx p s m args meth c wsX5_findSteps cX5_findSteps RX5 none 6) (hK : zKK G k A s s.heap) (hA : ∀ q : Nat, s.heap.size ≤ q → A q) (hret : zRV p l e rmX5_findSteps s m args below meth c cX5_findSteps G A 0 0 Q (zM ad k thrown now saved hist kept reason detail isSaved comes o.1 o.2 isInText ahead roomAt rooms text length at_ errorPosition toldFrom toldTo isWrong before)) (k4 : (Nat → Int32) → (Nat → Int32) → Int32 → Int32 → Int32 → Option ((Nat → Int32) × (Nat → Int32))) (hk4 : ∀ (queue : Nat → Int32) (far : Nat → Int32) (x1 : Int32) (x2 : Int32) (x3 : Int32), k4 queue far x1 x2 x3 = some o → ∀ (H : Heap) (locs : List Loc) (ls : Array Slot), zWd G A s (zM ad k thrown now saved hist kept reason detail isSaved comes queue far isInText ahead roomAt rooms text length at_ errorPosition toldFrom toldTo isWrong before) H locs → lv_has ls 6 [(0, .ref (ad 0)), (1, .int x1), (2, .int x2), (3, .int x3)] → W p l e rmX5_findSteps s m args below meth c H locs 0 0 Q (F0 m 4 ls [])) : ∀ (queue : Nat → Int32) (far : Nat → Int32) (x1 : Int32) (x2 : Int32) (x3 : Int32), fX5_findSteps_47 k4 now queue far x1 x2 x3 = some o → ∀ (H : Heap) (locs : List Loc) (ls : Array Slot), zWd G A s (zM ad k thrown now saved hist kept reason detail isSaved comes queue far isInText ahead roomAt rooms text length at_ errorPosition toldFrom toldTo isWrong before) H locs → lv_has ls 6 [(0, .ref (ad 0)), (1, .int x1), (2, .int x2), (3, .int x3)] → W p l e rmX5_findSteps s m args below meth c H locs 0 0 Q (F0 m 47 ls []) := by
  obtain ⟨hx, hb, hr, hml, hown, hts, hlocks⟩ := id C0
  intro queue far x1 x2 x3 hF H locs ls hw hl
  unfold fX5_findSteps_47 at hF
  obtain ⟨a1, ea1⟩ : ∃ z : Int32, z = x3 + (1 : Int32) := ⟨_, rfl⟩
  have hF := zbn_t ea1 hF
  refine lv_iinc (v := a1) (lv' := [(3, .int a1), (0, .ref (ad 0)), (1, .int x1), (2, .int x2)]) hx hb dX5_findSteps_47 hl (k := 3) rfl (by rw [ea1]; rfl) (by decide) rfl (fun ls hl => ?_)
  refine lv_goto (tgt := 4) hx hb dX5_findSteps_50 (by decide) ?_
  exact hk4 _ _ _ _ _ hF _ _ _ hw (lv_sub hl [1, 2, 3, 0] rfl)
set_option maxHeartbeats 400000 in
set_option maxRecDepth 100000 in
theorem wX5_findSteps_4 {p : Program} {l : Launch} {e : Env} {s : State} {m : MethodId} {args : Array Value} {below : List Frame} {meth : Method} {c : Code} {A : Nat → Prop} {Q : State → Prop} {G : va_G} {k : Nat → ClassId} {ad : Nat → Nat} {thrown : Int32} {now : Nat → Int32} {saved : Nat → Int32} {hist : Nat → Nat → Int32} {kept : Int32} {reason : Int32} {detail : Int32} {isSaved : Int32} {comes : Nat → Int32} {isInText : Int32} {ahead : Nat → Int32} {roomAt : Nat → Int32} {rooms : Int32} {text : Nat → Int32} {length : Int32} {at_ : Int32} {errorPosition : Int32} {toldFrom : Int32} {toldTo : Int32} {isWrong : Int32} {before : Nat → Int32} {o : (Nat → Int32) × (Nat → Int32)} (C0 : zCx p s m args meth c wsX5_findSteps cX5_findSteps RX5 none 6) (hK : zKK G k A s s.heap) (hA : ∀ q : Nat, s.heap.size ≤ q → A q) (hret : zRV p l e rmX5_findSteps s m args below meth c cX5_findSteps G A 0 0 Q (zM ad k thrown now saved hist kept reason detail isSaved comes o.1 o.2 isInText ahead roomAt rooms text length at_ errorPosition toldFrom toldTo isWrong before))  : ∀ (n : Nat) (queue : Nat → Int32) (far : Nat → Int32) (x1 : Int32) (x2 : Int32) (x3 : Int32), fX5_findSteps_4  now n queue far x1 x2 x3 = some o → ∀ (H : Heap) (locs : List Loc) (ls : Array Slot), zWd G A s (zM ad k thrown now saved hist kept reason detail isSaved comes queue far isInText ahead roomAt rooms text length at_ errorPosition toldFrom toldTo isWrong before) H locs → lv_has ls 6 [(0, .ref (ad 0)), (1, .int x1), (2, .int x2), (3, .int x3)] → W p l e rmX5_findSteps s m args below meth c H locs 0 0 Q (F0 m 4 ls []) := by
  obtain ⟨hx, hb, hr, hml, hown, hts, hlocks⟩ := id C0
  intro n
  induction n with
  | zero => intro queue far x1 x2 x3 hF; exact nomatch hF
  | succ n ih =>
    intro queue far x1 x2 x3 hF H locs ls hw hl
    rw [fX5_findSteps_4] at hF
    refine lv_iload_n hx hb dX5_findSteps_4 rfl (lv_at hl 3 rfl) ?_
    refine lv_bipush (v := (36 : Int32)) hx hb dX5_findSteps_5 (by decide) ?_
    refine lv_icmp_ge (tgt := 53) hx hb dX5_findSteps_7 (by decide) (fun hc => ?_) (fun hc => ?_)
    · have hF := zif_t hc hF
      refine lv_iconst (v := (0 : Int32)) hx hb dX5_findSteps_53 (by decide) ?_
      refine lv_istore_n (lv' := [(3, .int (0 : Int32)), (0, .ref (ad 0)), (1, .int x1), (2, .int x2)]) hx hb dX5_findSteps_54 rfl hl (by decide) rfl (fun ls hl => ?_)
      exact wX5_findSteps_55 C0 hK hA hret  zFu _ _ _ _ _ hF _ _ _ hw (lv_sub hl [1, 2, 3, 0] rfl)
    · have hF := zif_f hc hF
      refine lv_aload_n hx hb dX5_findSteps_10 rfl (lv_at hl 0 rfl) ?_
      refine va_get (D := G) (ci := 4) (v := .ref (ad 6)) (C := RX5) (T := TX5) (N := 23) hx hb hts inX5_findSteps_X5 hown hK.1 hw.1 0 rfl rfl 10 (by decide) (hts (.fieldLink RX5 28 "SealedBoardModel" "far" "[I") (by decide +kernel)) (fun _ h9 => h9) rfl dX5_findSteps_11 ?_
      refine lv_iload_n hx hb dX5_findSteps_14 rfl (lv_at hl 3 rfl) ?_
      refine lv_iconst (v := (-1 : Int32)) hx hb dX5_findSteps_15 (by decide) ?_
      obtain ⟨hi1, hF⟩ := zck_in hF
      refine va_iast hx hb hK.1 hw.1 hw.2.1 hw.2.2 6 2 rfl rfl hi1 dX5_findSteps_16 (fun H locs hP hD hS => ?_)
      have hw : zWd G A s (zM ad k thrown now saved hist kept reason detail isSaved comes queue (upd far x3.toNatClampNeg (-1 : Int32)) isInText ahead roomAt rooms text length at_ errorPosition toldFrom toldTo isWrong before) H locs := ⟨hP, hD, hS⟩
      refine lv_aload_n hx hb dX5_findSteps_17 rfl (lv_at hl 0 rfl) ?_
      refine va_get (D := G) (ci := 4) (v := .ref (ad 1)) (C := RX5) (T := TX5) (N := 23) hx hb hts inX5_findSteps_X5 hown hK.1 hw.1 0 rfl rfl 1 (by decide) (hts (.fieldLink RX5 9 "SealedBoardModel" "now" "[I") (by decide +kernel)) (fun _ h9 => h9) rfl dX5_findSteps_18 ?_
      refine lv_iload_n hx hb dX5_findSteps_21 rfl (lv_at hl 3 rfl) ?_
      obtain ⟨hi2, hF⟩ := zck_in hF
      refine va_iald hx hb hK.1 hw.1 1 2 rfl rfl hi2 dX5_findSteps_22 ?_
      obtain ⟨u3, hq4, hF⟩ := zbd_t hF
      refine zgoI (w' := (zM ad k thrown now saved hist kept reason detail isSaved comes queue (upd far x3.toNatClampNeg (-1 : Int32)) isInText ahead roomAt rooms text length at_ errorPosition toldFrom toldTo isWrong before)) hw hA [] rfl (zS (As := [.int (now x3.toNatClampNeg)]) (rest := []) ⟨hx, hb, hml, hown, hts⟩ (mX5_sideOf l G k  H.size  (now x3.toNatClampNeg) u3 hq4) (va_cwS 1 hts gX5_findSteps_X5_sideOf rfl rfl rfl kdX5_sideOf ⟨Nat.le_of_ble_eq_true rfl, Nat.le_of_ble_eq_true rfl⟩) hK hA hw [] rfl (by decide) rfl hl.1 rfl (Nat.le_of_ble_eq_true rfl) dX5_findSteps_23 ⟨Nat.le_of_ble_eq_true rfl, Nat.le_of_ble_eq_true rfl⟩) rfl rfl rfl (fun H locs hw => ?_)
      refine lv_iload_n hx hb dX5_findSteps_26 rfl (lv_at hl 1 rfl) ?_
      refine lv_icmp_ne (tgt := 47) hx hb dX5_findSteps_27 (by decide) (fun hc => ?_) (fun hc => ?_)
      · have hF := zif_f hc hF
        exact wX5_findSteps_47 C0 hK hA hret (fun b0 b1 b2 b3 b4 => fX5_findSteps_4  now n b0 b1 b2 b3 b4) ih  _ _ _ _ _ hF _ _ _ hw (lv_sub hl [0, 1, 2, 3] rfl)
      · have hF := zif_t hc hF
        refine lv_aload_n hx hb dX5_findSteps_30 rfl (lv_at hl 0 rfl) ?_
        refine va_get (D := G) (ci := 4) (v := .ref (ad 6)) (C := RX5) (T := TX5) (N := 23) hx hb hts inX5_findSteps_X5 hown hK.1 hw.1 0 rfl rfl 10 (by decide) (hts (.fieldLink RX5 28 "SealedBoardModel" "far" "[I") (by decide +kernel)) (fun _ h9 => h9) rfl dX5_findSteps_31 ?_
        refine lv_iload_n hx hb dX5_findSteps_34 rfl (lv_at hl 3 rfl) ?_
        refine lv_iconst (v := (0 : Int32)) hx hb dX5_findSteps_35 (by decide) ?_
        obtain ⟨hi5, hF⟩ := zck_in hF
        refine va_iast hx hb hK.1 hw.1 hw.2.1 hw.2.2 6 2 rfl rfl hi5 dX5_findSteps_36 (fun H locs hP hD hS => ?_)
        have hw : zWd G A s (zM ad k thrown now saved hist kept reason detail isSaved comes queue (upd (upd far x3.toNatClampNeg (-1 : Int32)) x3.toNatClampNeg (0 : Int32)) isInText ahead roomAt rooms text length at_ errorPosition toldFrom toldTo isWrong before) H locs := ⟨hP, hD, hS⟩
        refine lv_aload_n hx hb dX5_findSteps_37 rfl (lv_at hl 0 rfl) ?_
        refine va_get (D := G) (ci := 4) (v := .ref (ad 5)) (C := RX5) (T := TX5) (N := 23) hx hb hts inX5_findSteps_X5 hown hK.1 hw.1 0 rfl rfl 9 (by decide) (hts (.fieldLink RX5 25 "SealedBoardModel" "queue" "[I") (by decide +kernel)) (fun _ h9 => h9) rfl dX5_findSteps_38 ?_
        refine lv_iload_n hx hb dX5_findSteps_41 rfl (lv_at hl 2 rfl) ?_
        refine lv_iload_n hx hb dX5_findSteps_42 rfl (lv_at hl 3 rfl) ?_
        obtain ⟨hi6, hF⟩ := zck_in hF
        refine va_iast hx hb hK.1 hw.1 hw.2.1 hw.2.2 5 2 rfl rfl hi6 dX5_findSteps_43 (fun H locs hP hD hS => ?_)
        have hw : zWd G A s (zM ad k thrown now saved hist kept reason detail isSaved comes (upd queue x2.toNatClampNeg x3) (upd (upd far x3.toNatClampNeg (-1 : Int32)) x3.toNatClampNeg (0 : Int32)) isInText ahead roomAt rooms text length at_ errorPosition toldFrom toldTo isWrong before) H locs := ⟨hP, hD, hS⟩
        obtain ⟨a7, ea7⟩ : ∃ z : Int32, z = x2 + (1 : Int32) := ⟨_, rfl⟩
        have hF := zbn_t ea7 hF
        refine lv_iinc (v := a7) (lv' := [(2, .int a7), (0, .ref (ad 0)), (1, .int x1), (3, .int x3)]) hx hb dX5_findSteps_44 hl (k := 2) rfl (by rw [ea7]; rfl) (by decide) rfl (fun ls hl => ?_)
        exact wX5_findSteps_47 C0 hK hA hret (fun b0 b1 b2 b3 b4 => fX5_findSteps_4  now n b0 b1 b2 b3 b4) ih  _ _ _ _ _ hF _ _ _ hw (lv_sub hl [1, 2, 0, 3] rfl)
set_option maxHeartbeats 400000 in
set_option maxRecDepth 100000 in
theorem mX5_findSteps (l : Launch) (G : va_G) (k : Nat → ClassId) (ad : Nat → Nat) (sz : Nat) (thrown : Int32) (now : Nat → Int32) (saved : Nat → Int32) (hist : Nat → Nat → Int32) (kept : Int32) (reason : Int32) (detail : Int32) (isSaved : Int32) (comes : Nat → Int32) (queue : Nat → Int32) (far : Nat → Int32) (isInText : Int32) (ahead : Nat → Int32) (roomAt : Nat → Int32) (rooms : Int32) (text : Nat → Int32) (length : Int32) (at_ : Int32) (errorPosition : Int32) (toldFrom : Int32) (toldTo : Int32) (isWrong : Int32) (before : Nat → Int32) (p0 : Int32) (o : (Nat → Int32) × (Nat → Int32)) (hF : fX5_findSteps now queue far p0 = some o) : zMV l yX5_findSteps wsX5_findSteps rmX5_findSteps G k (zM ad k thrown now saved hist kept reason detail isSaved comes queue far isInText ahead roomAt rooms text length at_ errorPosition toldFrom toldTo isWrong before) sz [.ref (ad 0), .int p0] (zM ad k thrown now saved hist kept reason detail isSaved comes o.1 o.2 isInText ahead roomAt rooms text length at_ errorPosition toldFrom toldTo isWrong before) := by
  refine zof_V (cc := cX5_findSteps) (nL := 6) (own := RX5) (by decide) rfl rfl (Nat.le_of_ble_eq_true rfl) ?_
  intro p e s m args below meth c A Q C0 hK hA hret ls hl hw
  have hl : lv_has ls 6 [(0, .ref (ad 0)), (1, .int p0)] := hl
  obtain ⟨hx, hb, hr, hml, hown, hts, hlocks⟩ := id C0
  obtain ⟨H, hH⟩ : ∃ z, z = s.heap := ⟨_, rfl⟩
  rw [← hH] at hw ⊢
  unfold fX5_findSteps at hF
  refine lv_iconst (v := (0 : Int32)) hx hb dX5_findSteps_0 (by decide) ?_
  refine lv_istore_n (lv' := [(2, .int (0 : Int32)), (0, .ref (ad 0)), (1, .int p0)]) hx hb dX5_findSteps_1 rfl hl (by decide) rfl (fun ls hl => ?_)
  refine lv_iconst (v := (0 : Int32)) hx hb dX5_findSteps_2 (by decide) ?_
  refine lv_istore_n (lv' := [(3, .int (0 : Int32)), (2, .int (0 : Int32)), (0, .ref (ad 0)), (1, .int p0)]) hx hb dX5_findSteps_3 rfl hl (by decide) rfl (fun ls hl => ?_)
  exact wX5_findSteps_4 C0 hK hA hret  zFu _ _ _ _ _ hF _ _ _ hw (lv_sub hl [2, 3, 1, 0] rfl)

/-! SealedBoardModel.countOpen(I)I -/
abbrev rmX5_countOpen : Room := { frames := 2, cells := 0, slots := 0, locals := 43 }
theorem kdX5_countOpen : yX5_countOpen.cls = RX5 ∧ yX5_countOpen.cls ≠ "java/lang/invoke/MethodHandle" ∧ yX5_countOpen.cls ≠ "java/lang/invoke/VarHandle" ∧ (parseMethodDescriptor yX5_countOpen.desc).map (fun d => d.parameters.length) = some 1 := by decide +kernel
def fX5_countOpen_25 (k4 : Int32 → Int32 → Int32 → Option (Int32)) (now : Nat → Int32) (x1 : Int32) (x3 : Int32) (s0 : Int32) (s1 : Int32) : Option (Int32) := (zbn (s1 + s0) (fun a1 => (zbn (x3 + (1 : Int32)) (fun a2 => (k4 x1 a1 a2)))))
def fX5_countOpen_4  (now : Nat → Int32) : Nat → Int32 → Int32 → Int32 → Option (Int32)
  | 0, _, _, _ => none
  | n + 1, x1, x2, x3 => (if (36 : Int32) ≤ x3 then (some (x2)) else (zbd (fX5_isOpen now x1 x3) (fun u1 => (if u1 = 0 then (fX5_countOpen_25 (fun b0 b1 b2 => fX5_countOpen_4  now n b0 b1 b2) now  x1 x3 (0 : Int32) x2) else (fX5_countOpen_25 (fun b0 b1 b2 => fX5_countOpen_4  now n b0 b1 b2) now  x1 x3 (1 : Int32) x2)))))
def fX5_countOpen (now : Nat → Int32) (p0 : Int32) : Option (Int32) := (fX5_countOpen_4  now zFu p0 (0 : Int32) (0 : Int32))
set_option maxHeartbeats 400000 in
set_option maxRecDepth 100000 in
theorem wX5_countOpen_25 {p : Program} {l : Launch} {e : Env} {s : State} {m : MethodId} {args : Array Value} {below : List Frame} {meth : Method} {c : Code} {A : Nat → Prop} {Q : State → Prop} {G : va_G} {k : Nat → ClassId} {ad : Nat → Nat} {thrown : Int32} {now : Nat → Int32} {saved : Nat → Int32} {hist : Nat → Nat → Int32} {kept : Int32} {reason : Int32} {detail : Int32} {isSaved : Int32} {comes : Nat → Int32} {queue : Nat → Int32} {far : Nat → Int32} {isInText : Int32} {ahead : Nat → Int32} {roomAt : Nat → Int32} {rooms : Int32} {text : Nat → Int32} {length : Int32} {at_ : Int32} {errorPosition : Int32} {toldFrom : Int32} {toldTo : Int32} {isWrong : Int32} {before : Nat → Int32} {o : Int32} (C0 : zCx p s m args meth c wsX5_countOpen cX5_countOpen RX5 (some .int) 4) (hK : zKK G k A s s.heap) (hA : ∀ q : Nat, s.heap.size ≤ q → A q) (hret : zRI p l e rmX5_countOpen s m args below meth c cX5_countOpen G A 0 0 Q .int (zM ad k thrown now saved hist kept reason detail isSaved comes queue far isInText ahead roomAt rooms text length at_ errorPosition toldFrom toldTo isWrong before) o) (k4 : Int32 → Int32 → Int32 → Option (Int32)) (hk4 : ∀ (x1 : Int32) (x2 : Int32) (x3 : Int32), k4 x1 x2 x3 = some o → ∀ (H : Heap) (locs : List Loc) (ls : Array Slot), zWd G A s (zM ad k thrown now saved hist kept reason detail isSaved comes queue far isInText ahead roomAt rooms text length at_ errorPosition toldFrom toldTo isWrong before) H locs → lv_has ls 4 [(0, .ref (ad 0)), (1, .int x1), (2, .int x2), (3, .int x3)] → W p l e rmX5_countOpen s m args below meth c H locs 0 0 Q (F0 m 4 ls [])) : ∀ (x1 : Int32) (x3 : Int32) (s0 : Int32) (s1 : Int32), fX5_countOpen_25 k4 now x1 x3 s0 s1 = some o → ∀ (H : Heap) (locs : List Loc) (ls : Array Slot), zWd G A s (zM ad k thrown now saved hist kept reason detail isSaved comes queue far isInText ahead roomAt rooms text length at_ errorPosition toldFrom toldTo isWrong before) H locs → lv_has ls 4 [(0, .ref (ad 0)), (1, .int x1), (3, .int x3)] → W p l e rmX5_countOpen s m args below meth c H locs 0 0 Q (F0 m 25 ls [.int s0, .int s1]) := by
  obtain ⟨hx, hb, hr, hml, hown, hts, hlocks⟩ := id C0
  intro x1 x3 s0 s1 hF H locs ls hw hl
  unfold fX5_countOpen_25 at hF
  refine lv_iadd hx hb dX5_countOpen_25 ?_
  refine lv_topi (fun a1 ea1 => ?_)
  have hF := zbn_t ea1 hF
  refine lv_istore_n (lv' := [(2, .int a1), (0, .ref (ad 0)), (1, .int x1), (3, .int x3)]) hx hb dX5_countOpen_26 rfl hl (by decide) rfl (fun ls hl => ?_)
  obtain ⟨a2, ea2⟩ : ∃ z : Int32, z = x3 + (1 : Int32) := ⟨_, rfl⟩
  have hF := zbn_t ea2 hF
  refine lv_iinc (v := a2) (lv' := [(3, .int a2), (2, .int a1), (0, .ref (ad 0)), (1, .int x1)]) hx hb dX5_countOpen_27 hl (k := 3) rfl (by rw [ea2]; rfl) (by decide) rfl (fun ls hl => ?_)
  refine lv_goto (tgt := 4) hx hb dX5_countOpen_30 (by decide) ?_
  exact hk4 _ _ _ hF _ _ _ hw (lv_sub hl [2, 3, 1, 0] rfl)
set_option maxHeartbeats 400000 in
set_option maxRecDepth 100000 in
theorem wX5_countOpen_4 {p : Program} {l : Launch} {e : Env} {s : State} {m : MethodId} {args : Array Value} {below : List Frame} {meth : Method} {c : Code} {A : Nat → Prop} {Q : State → Prop} {G : va_G} {k : Nat → ClassId} {ad : Nat → Nat} {thrown : Int32} {now : Nat → Int32} {saved : Nat → Int32} {hist : Nat → Nat → Int32} {kept : Int32} {reason : Int32} {detail : Int32} {isSaved : Int32} {comes : Nat → Int32} {queue : Nat → Int32} {far : Nat → Int32} {isInText : Int32} {ahead : Nat → Int32} {roomAt : Nat → Int32} {rooms : Int32} {text : Nat → Int32} {length : Int32} {at_ : Int32} {errorPosition : Int32} {toldFrom : Int32} {toldTo : Int32} {isWrong : Int32} {before : Nat → Int32} {o : Int32} (C0 : zCx p s m args meth c wsX5_countOpen cX5_countOpen RX5 (some .int) 4) (hK : zKK G k A s s.heap) (hA : ∀ q : Nat, s.heap.size ≤ q → A q) (hret : zRI p l e rmX5_countOpen s m args below meth c cX5_countOpen G A 0 0 Q .int (zM ad k thrown now saved hist kept reason detail isSaved comes queue far isInText ahead roomAt rooms text length at_ errorPosition toldFrom toldTo isWrong before) o)  : ∀ (n : Nat) (x1 : Int32) (x2 : Int32) (x3 : Int32), fX5_countOpen_4  now n x1 x2 x3 = some o → ∀ (H : Heap) (locs : List Loc) (ls : Array Slot), zWd G A s (zM ad k thrown now saved hist kept reason detail isSaved comes queue far isInText ahead roomAt rooms text length at_ errorPosition toldFrom toldTo isWrong before) H locs → lv_has ls 4 [(0, .ref (ad 0)), (1, .int x1), (2, .int x2), (3, .int x3)] → W p l e rmX5_countOpen s m args below meth c H locs 0 0 Q (F0 m 4 ls []) := by
  obtain ⟨hx, hb, hr, hml, hown, hts, hlocks⟩ := id C0
  intro n
  induction n with
  | zero => intro x1 x2 x3 hF; exact nomatch hF
  | succ n ih =>
    intro x1 x2 x3 hF H locs ls hw hl
    rw [fX5_countOpen_4] at hF
    refine lv_iload_n hx hb dX5_countOpen_4 rfl (lv_at hl 3 rfl) ?_
    refine lv_bipush (v := (36 : Int32)) hx hb dX5_countOpen_5 (by decide) ?_
    refine lv_icmp_ge (tgt := 33) hx hb dX5_countOpen_7 (by decide) (fun hc => ?_) (fun hc => ?_)
    · have hF := zif_t hc hF
      refine lv_iload_n hx hb dX5_countOpen_33 rfl (lv_at hl 2 rfl) ?_
      obtain rfl := Option.some.inj hF
      exact hret _ _ _ _ rfl hw dX5_countOpen_34
    · have hF := zif_f hc hF
      refine lv_iload_n hx hb dX5_countOpen_10 rfl (lv_at hl 2 rfl) ?_
      refine lv_aload_n hx hb dX5_countOpen_11 rfl (lv_at hl 0 rfl) ?_
      refine lv_iload_n hx hb dX5_countOpen_12 rfl (lv_at hl 1 rfl) ?_
      refine lv_iload_n hx hb dX5_countOpen_13 rfl (lv_at hl 3 rfl) ?_
      obtain ⟨u1, hq2, hF⟩ := zbd_t hF
      refine zgoIw (w' := (zM ad k thrown now saved hist kept reason detail isSaved comes queue far isInText ahead roomAt rooms text length at_ errorPosition toldFrom toldTo isWrong before)) hw hA (zVw (As := [.int x1, .int x3]) (rest := [.int x2]) ⟨hx, hb, hml, hown, hts⟩ (mX5_isOpen l G k ad H.size thrown now saved hist kept reason detail isSaved comes queue far isInText ahead roomAt rooms text length at_ errorPosition toldFrom toldTo isWrong before x1 x3 u1 hq2) (cwV 2 hts gX5_countOpen_X5_isOpen rfl rfl rfl kdX5_isOpen ⟨Nat.le_of_ble_eq_true rfl, Nat.le_of_ble_eq_true rfl⟩) hK hA hw 0 rfl rfl rfl rfl hl.1 rfl (Nat.le_of_ble_eq_true rfl) dX5_countOpen_14 ⟨Nat.le_of_ble_eq_true rfl, Nat.le_of_ble_eq_true rfl⟩) (fun H locs hw => ?_)
      refine lv_if_eq (tgt := 24) hx hb dX5_countOpen_17 (by decide) (fun hc => ?_) (fun hc => ?_)
      · have hF := zif_t hc hF
        refine lv_iconst (v := (0 : Int32)) hx hb dX5_countOpen_24 (by decide) ?_
        exact wX5_countOpen_25 C0 hK hA hret (fun b0 b1 b2 => fX5_countOpen_4  now n b0 b1 b2) ih  _ _ _ _ hF _ _ _ hw (lv_sub hl [0, 1, 3] rfl)
      · have hF := zif_f hc hF
        refine lv_iconst (v := (1 : Int32)) hx hb dX5_countOpen_20 (by decide) ?_
        refine lv_goto (tgt := 25) hx hb dX5_countOpen_21 (by decide) ?_
        exact wX5_countOpen_25 C0 hK hA hret (fun b0 b1 b2 => fX5_countOpen_4  now n b0 b1 b2) ih  _ _ _ _ hF _ _ _ hw (lv_sub hl [0, 1, 3] rfl)
set_option maxHeartbeats 400000 in
set_option maxRecDepth 100000 in
theorem mX5_countOpen (l : Launch) (G : va_G) (k : Nat → ClassId) (ad : Nat → Nat) (sz : Nat) (thrown : Int32) (now : Nat → Int32) (saved : Nat → Int32) (hist : Nat → Nat → Int32) (kept : Int32) (reason : Int32) (detail : Int32) (isSaved : Int32) (comes : Nat → Int32) (queue : Nat → Int32) (far : Nat → Int32) (isInText : Int32) (ahead : Nat → Int32) (roomAt : Nat → Int32) (rooms : Int32) (text : Nat → Int32) (length : Int32) (at_ : Int32) (errorPosition : Int32) (toldFrom : Int32) (toldTo : Int32) (isWrong : Int32) (before : Nat → Int32) (p0 : Int32) (o : Int32) (hF : fX5_countOpen now p0 = some o) : zMI l yX5_countOpen wsX5_countOpen rmX5_countOpen G k (zM ad k thrown now saved hist kept reason detail isSaved comes queue far isInText ahead roomAt rooms text length at_ errorPosition toldFrom toldTo isWrong before) sz [.ref (ad 0), .int p0] o (zM ad k thrown now saved hist kept reason detail isSaved comes queue far isInText ahead roomAt rooms text length at_ errorPosition toldFrom toldTo isWrong before) := by
  refine zof_I (cc := cX5_countOpen) (nL := 4) (own := RX5) (rt := .int) (by decide) rfl rfl (Nat.le_of_ble_eq_true rfl) ?_
  intro p e s m args below meth c A Q C0 hK hA hret ls hl hw
  have hl : lv_has ls 4 [(0, .ref (ad 0)), (1, .int p0)] := hl
  obtain ⟨hx, hb, hr, hml, hown, hts, hlocks⟩ := id C0
  obtain ⟨H, hH⟩ : ∃ z, z = s.heap := ⟨_, rfl⟩
  rw [← hH] at hw ⊢
  unfold fX5_countOpen at hF
  refine lv_iconst (v := (0 : Int32)) hx hb dX5_countOpen_0 (by decide) ?_
  refine lv_istore_n (lv' := [(2, .int (0 : Int32)), (0, .ref (ad 0)), (1, .int p0)]) hx hb dX5_countOpen_1 rfl hl (by decide) rfl (fun ls hl => ?_)
  refine lv_iconst (v := (0 : Int32)) hx hb dX5_countOpen_2 (by decide) ?_
  refine lv_istore_n (lv' := [(3, .int (0 : Int32)), (2, .int (0 : Int32)), (0, .ref (ad 0)), (1, .int p0)]) hx hb dX5_countOpen_3 rfl hl (by decide) rfl (fun ls hl => ?_)
  exact wX5_countOpen_4 C0 hK hA hret  zFu _ _ _ hF _ _ _ hw (lv_sub hl [2, 3, 1, 0] rfl)

/-! SealedBoardModel.sealedAgain(I)I -/
abbrev rmX5_sealedAgain : Room := { frames := 3, cells := 0, slots := 0, locals := 70 }
theorem kdX5_sealedAgain : yX5_sealedAgain.cls = RX5 ∧ yX5_sealedAgain.cls ≠ "java/lang/invoke/MethodHandle" ∧ yX5_sealedAgain.cls ≠ "java/lang/invoke/VarHandle" ∧ (parseMethodDescriptor yX5_sealedAgain.desc).map (fun d => d.parameters.length) = some 1 := by decide +kernel
theorem inX5_sealedAgain_X5 : ∀ w ∈ u_ws RX5 TX5 23, w ∈ wsX5_sealedAgain := by decide +kernel
def fX5_sealedAgain_61 (k31 : Int32 → (Nat → Int32) → (Nat → Int32) → Int32 → Int32 → Int32 → Option (Int32 × Int32 × (Nat → Int32) × (Nat → Int32))) (now : Nat → Int32) (thrown : Int32) (queue : Nat → Int32) (far : Nat → Int32) (x1 : Int32) (x3 : Int32) (s0 : Int32) (s1 : Int32) : Option (Int32 × Int32 × (Nat → Int32) × (Nat → Int32)) := (zbn (s1 + s0) (fun a1 => (zbn (x3 + (1 : Int32)) (fun a2 => (k31 thrown queue far x1 a1 a2)))))
def fX5_sealedAgain_60 (k31 : Int32 → (Nat → Int32) → (Nat → Int32) → Int32 → Int32 → Int32 → Option (Int32 × Int32 × (Nat → Int32) × (Nat → Int32))) (now : Nat → Int32) (thrown : Int32) (queue : Nat → Int32) (far : Nat → Int32) (x1 : Int32) (x3 : Int32) (s0 : Int32) : Option (Int32 × Int32 × (Nat → Int32) × (Nat → Int32)) := (fX5_sealedAgain_61 k31 now  thrown queue far x1 x3 (0 : Int32) s0)
def fX5_sealedAgain_31  (now : Nat → Int32) : Nat → Int32 → (Nat → Int32) → (Nat → Int32) → Int32 → Int32 → Int32 → Option (Int32 × Int32 × (Nat → Int32) × (Nat → Int32))
  | 0, _, _, _, _, _, _ => none
  | n + 1, thrown, queue, far, x1, x2, x3 => (if (36 : Int32) ≤ x3 then (some (x2, thrown, queue, far)) else (zbd (fX5_isOpen now x1 x3) (fun u1 => (if u1 = 0 then (fX5_sealedAgain_60 (fun b0 b1 b2 b3 b4 b5 => fX5_sealedAgain_31  now n b0 b1 b2 b3 b4 b5) now  thrown queue far x1 x3 x2) else (zck (zin x3 36) (if 0 ≤ (far x3.toNatClampNeg) then (fX5_sealedAgain_60 (fun b0 b1 b2 b3 b4 b5 => fX5_sealedAgain_31  now n b0 b1 b2 b3 b4 b5) now  thrown queue far x1 x3 x2) else (fX5_sealedAgain_61 (fun b0 b1 b2 b3 b4 b5 => fX5_sealedAgain_31  now n b0 b1 b2 b3 b4 b5) now  thrown queue far x1 x3 (1 : Int32) x2)))))))
def fX5_sealedAgain_14  (now : Nat → Int32) (thrown : Int32) (queue : Nat → Int32) (far : Nat → Int32) (x1 : Int32) (s0 : Int32) (s1 : Int32) : Option (Int32 × Int32 × (Nat → Int32) × (Nat → Int32)) := (zbd (fX5_fails thrown s1 s0) (fun u1 => (if u1.1 = 0 then (zbd (fX5_findSteps now queue far x1) (fun u3 => (fX5_sealedAgain_31  now zFu u1.2 u3.1 u3.2 x1 (0 : Int32) (0 : Int32)))) else (some ((0 : Int32), u1.2, queue, far)))))
def fX5_sealedAgain (thrown : Int32) (now : Nat → Int32) (queue : Nat → Int32) (far : Nat → Int32) (p0 : Int32) : Option (Int32 × Int32 × (Nat → Int32) × (Nat → Int32)) := (zbd (fX5_isSide p0) (fun u1 => (if u1 = 0 then (fX5_sealedAgain_14  now  thrown queue far p0 (1 : Int32) (1 : Int32)) else (fX5_sealedAgain_14  now  thrown queue far p0 (0 : Int32) (1 : Int32)))))
set_option maxHeartbeats 400000 in
set_option maxRecDepth 100000 in
theorem wX5_sealedAgain_61 {p : Program} {l : Launch} {e : Env} {s : State} {m : MethodId} {args : Array Value} {below : List Frame} {meth : Method} {c : Code} {A : Nat → Prop} {Q : State → Prop} {G : va_G} {k : Nat → ClassId} {ad : Nat → Nat} {now : Nat → Int32} {saved : Nat → Int32} {hist : Nat → Nat → Int32} {kept : Int32} {reason : Int32} {detail : Int32} {isSaved : Int32} {comes : Nat → Int32} {isInText : Int32} {ahead : Nat → Int32} {roomAt : Nat → Int32} {rooms : Int32} {text : Nat → Int32} {length : Int32} {at_ : Int32} {errorPosition : Int32} {toldFrom : Int32} {toldTo : Int32} {isWrong : Int32} {before : Nat → Int32} {o : Int32 × Int32 × (Nat → Int32) × (Nat → Int32)} (C0 : zCx p s m args meth c wsX5_sealedAgain cX5_sealedAgain RX5 (some .int) 4) (hK : zKK G k A s s.heap) (hA : ∀ q : Nat, s.heap.size ≤ q → A q) (hret : zRI p l e rmX5_sealedAgain s m args below meth c cX5_sealedAgain G A 0 0 Q .int (zM ad k o.2.1 now saved hist kept reason detail isSaved comes o.2.2.1 o.2.2.2 isInText ahead roomAt rooms text length at_ errorPosition toldFrom toldTo isWrong before) o.1) (k31 : Int32 → (Nat → Int32) → (Nat → Int32) → Int32 → Int32 → Int32 → Option (Int32 × Int32 × (Nat → Int32) × (Nat → Int32))) (hk31 : ∀ (thrown : Int32) (queue : Nat → Int32) (far : Nat → Int32) (x1 : Int32) (x2 : Int32) (x3 : Int32), k31 thrown queue far x1 x2 x3 = some o → ∀ (H : Heap) (locs : List Loc) (ls : Array Slot), zWd G A s (zM ad k thrown now saved hist kept reason detail isSaved comes queue far isInText ahead roomAt rooms text length at_ errorPosition toldFrom toldTo isWrong before) H locs → lv_has ls 4 [(0, .ref (ad 0)), (1, .int x1), (2, .int x2), (3, .int x3)] → W p l e rmX5_sealedAgain s m args below meth c H locs 0 0 Q (F0 m 31 ls [])) : ∀ (thrown : Int32) (queue : Nat → Int32) (far : Nat → Int32) (x1 : Int32) (x3 : Int32) (s0 : Int32) (s1 : Int32), fX5_sealedAgain_61 k31 now thrown queue far x1 x3 s0 s1 = some o → ∀ (H : Heap) (locs : List Loc) (ls : Array Slot), zWd G A s (zM ad k thrown now saved hist kept reason detail isSaved comes queue far isInText ahead roomAt rooms text length at_ errorPosition toldFrom toldTo isWrong before) H locs → lv_has ls 4 [(0, .ref (ad 0)), (1, .int x1), (3, .int x3)] → W p l e rmX5_sealedAgain s m args below meth c H locs 0 0 Q (F0 m 61 ls [.int s0, .int s1]) := by
  obtain ⟨hx, hb, hr, hml, hown, hts, hlocks⟩ := id C0
  intro thrown queue far x1 x3 s0 s1 hF H locs ls hw hl
  unfold fX5_sealedAgain_61 at hF
  refine lv_iadd hx hb dX5_sealedAgain_61 ?_
  refine lv_topi (fun a1 ea1 => ?_)
  have hF := zbn_t ea1 hF
  refine lv_istore_n (lv' := [(2, .int a1), (0, .ref (ad 0)), (1, .int x1), (3, .int x3)]) hx hb dX5_sealedAgain_62 rfl hl (by decide) rfl (fun ls hl => ?_)
  obtain ⟨a2, ea2⟩ : ∃ z : Int32, z = x3 + (1 : Int32) := ⟨_, rfl⟩
  have hF := zbn_t ea2 hF
  refine lv_iinc (v := a2) (lv' := [(3, .int a2), (2, .int a1), (0, .ref (ad 0)), (1, .int x1)]) hx hb dX5_sealedAgain_63 hl (k := 3) rfl (by rw [ea2]; rfl) (by decide) rfl (fun ls hl => ?_)
  refine lv_goto (tgt := 31) hx hb dX5_sealedAgain_66 (by decide) ?_
  exact hk31 _ _ _ _ _ _ hF _ _ _ hw (lv_sub hl [2, 3, 1, 0] rfl)
set_option maxHeartbeats 400000 in
set_option maxRecDepth 100000 in
theorem wX5_sealedAgain_60 {p : Program} {l : Launch} {e : Env} {s : State} {m : MethodId} {args : Array Value} {below : List Frame} {meth : Method} {c : Code} {A : Nat → Prop} {Q : State → Prop} {G : va_G} {k : Nat → ClassId} {ad : Nat → Nat} {now : Nat → Int32} {saved : Nat → Int32} {hist : Nat → Nat → Int32} {kept : Int32} {reason : Int32} {detail : Int32} {isSaved : Int32} {comes : Nat → Int32} {isInText : Int32} {ahead : Nat → Int32} {roomAt : Nat → Int32} {rooms : Int32} {text : Nat → Int32} {length : Int32} {at_ : Int32} {errorPosition : Int32} {toldFrom : Int32} {toldTo : Int32} {isWrong : Int32} {before : Nat → Int32} {o : Int32 × Int32 × (Nat → Int32) × (Nat → Int32)} (C0 : zCx p s m args meth c wsX5_sealedAgain cX5_sealedAgain RX5 (some .int) 4) (hK : zKK G k A s s.heap) (hA : ∀ q : Nat, s.heap.size ≤ q → A q) (hret : zRI p l e rmX5_sealedAgain s m args below meth c cX5_sealedAgain G A 0 0 Q .int (zM ad k o.2.1 now saved hist kept reason detail isSaved comes o.2.2.1 o.2.2.2 isInText ahead roomAt rooms text length at_ errorPosition toldFrom toldTo isWrong before) o.1) (k31 : Int32 → (Nat → Int32) → (Nat → Int32) → Int32 → Int32 → Int32 → Option (Int32 × Int32 × (Nat → Int32) × (Nat → Int32))) (hk31 : ∀ (thrown : Int32) (queue : Nat → Int32) (far : Nat → Int32) (x1 : Int32) (x2 : Int32) (x3 : Int32), k31 thrown queue far x1 x2 x3 = some o → ∀ (H : Heap) (locs : List Loc) (ls : Array Slot), zWd G A s (zM ad k thrown now saved hist kept reason detail isSaved comes queue far isInText ahead roomAt rooms text length at_ errorPosition toldFrom toldTo isWrong before) H locs → lv_has ls 4 [(0, .ref (ad 0)), (1, .int x1), (2, .int x2), (3, .int x3)] → W p l e rmX5_sealedAgain s m args below meth c H locs 0 0 Q (F0 m 31 ls [])) : ∀ (thrown : Int32) (queue : Nat → Int32) (far : Nat → Int32) (x1 : Int32) (x3 : Int32) (s0 : Int32), fX5_sealedAgain_60 k31 now thrown queue far x1 x3 s0 = some o → ∀ (H : Heap) (locs : List Loc) (ls : Array Slot), zWd G A s (zM ad k thrown now saved hist kept reason detail isSaved comes queue far isInText ahead roomAt rooms text length at_ errorPosition toldFrom toldTo isWrong before) H locs → lv_has ls 4 [(0, .ref (ad 0)), (1, .int x1), (3, .int x3)] → W p l e rmX5_sealedAgain s m args below meth c H locs 0 0 Q (F0 m 60 ls [.int s0]) := by
  obtain ⟨hx, hb, hr, hml, hown, hts, hlocks⟩ := id C0
  intro thrown queue far x1 x3 s0 hF H locs ls hw hl
  unfold fX5_sealedAgain_60 at hF
  refine lv_iconst (v := (0 : Int32)) hx hb dX5_sealedAgain_60 (by decide) ?_
  exact wX5_sealedAgain_61 C0 hK hA hret k31 hk31  _ _ _ _ _ _ _ hF _ _ _ hw (lv_sub hl [0, 1, 2] rfl)
set_option maxHeartbeats 400000 in
set_option maxRecDepth 100000 in
theorem wX5_sealedAgain_31 {p : Program} {l : Launch} {e : Env} {s : State} {m : MethodId} {args : Array Value} {below : List Frame} {meth : Method} {c : Code} {A : Nat → Prop} {Q : State → Prop} {G : va_G} {k : Nat → ClassId} {ad : Nat → Nat} {now : Nat → Int32} {saved : Nat → Int32} {hist : Nat → Nat → Int32} {kept : Int32} {reason : Int32} {detail : Int32} {isSaved : Int32} {comes : Nat → Int32} {isInText : Int32} {ahead : Nat → Int32} {roomAt : Nat → Int32} {rooms : Int32} {text : Nat → Int32} {length : Int32} {at_ : Int32} {errorPosition : Int32} {toldFrom : Int32} {toldTo : Int32} {isWrong : Int32} {before : Nat → Int32} {o : Int32 × Int32 × (Nat → Int32) × (Nat → Int32)} (C0 : zCx p s m args meth c wsX5_sealedAgain cX5_sealedAgain RX5 (some .int) 4) (hK : zKK G k A s s.heap) (hA : ∀ q : Nat, s.heap.size ≤ q → A q) (hret : zRI p l e rmX5_sealedAgain s m args below meth c cX5_sealedAgain G A 0 0 Q .int (zM ad k o.2.1 now saved hist kept reason detail isSaved comes o.2.2.1 o.2.2.2 isInText ahead roomAt rooms text length at_ errorPosition toldFrom toldTo isWrong before) o.1)  : ∀ (n : Nat) (thrown : Int32) (queue : Nat → Int32) (far : Nat → Int32) (x1 : Int32) (x2 : Int32) (x3 : Int32), fX5_sealedAgain_31  now n thrown queue far x1 x2 x3 = some o → ∀ (H : Heap) (locs : List Loc) (ls : Array Slot), zWd G A s (zM ad k thrown now saved hist kept reason detail isSaved comes queue far isInText ahead roomAt rooms text length at_ errorPosition toldFrom toldTo isWrong before) H locs → lv_has ls 4 [(0, .ref (ad 0)), (1, .int x1), (2, .int x2), (3, .int x3)] → W p l e rmX5_sealedAgain s m args below meth c H locs 0 0 Q (F0 m 31 ls []) := by
  obtain ⟨hx, hb, hr, hml, hown, hts, hlocks⟩ := id C0
  intro n
  induction n with
  | zero => intro thrown queue far x1 x2 x3 hF; exact nomatch hF
  | succ n ih =>
    intro thrown queue far x1 x2 x3 hF H locs ls hw hl
    rw [fX5_sealedAgain_31] at hF
    refine lv_iload_n hx hb dX5_sealedAgain_31 rfl (lv_at hl 3 rfl) ?_
    refine lv_bipush (v := (36 : Int32)) hx hb dX5_sealedAgain_32 (by decide) ?_
    refine lv_icmp_ge (tgt := 69) hx hb dX5_sealedAgain_34 (by decide) (fun hc => ?_) (fun hc => ?_)
    · have hF := zif_t hc hF
      refine lv_iload_n hx hb dX5_sealedAgain_69 rfl (lv_at hl 2 rfl) ?_
      obtain rfl := Option.some.inj hF
      exact hret _ _ _ _ rfl hw dX5_sealedAgain_70
    · have hF := zif_f hc hF
      refine lv_iload_n hx hb dX5_sealedAgain_37 rfl (lv_at hl 2 rfl) ?_
      refine lv_aload_n hx hb dX5_sealedAgain_38 rfl (lv_at hl 0 rfl) ?_
      refine lv_iload_n hx hb dX5_sealedAgain_39 rfl (lv_at hl 1 rfl) ?_
      refine lv_iload_n hx hb dX5_sealedAgain_40 rfl (lv_at hl 3 rfl) ?_
      obtain ⟨u1, hq2, hF⟩ := zbd_t hF
      refine zgoIw (w' := (zM ad k thrown now saved hist kept reason detail isSaved comes queue far isInText ahead roomAt rooms text length at_ errorPosition toldFrom toldTo isWrong before)) hw hA (zVw (As := [.int x1, .int x3]) (rest := [.int x2]) ⟨hx, hb, hml, hown, hts⟩ (mX5_isOpen l G k ad H.size thrown now saved hist kept reason detail isSaved comes queue far isInText ahead roomAt rooms text length at_ errorPosition toldFrom toldTo isWrong before x1 x3 u1 hq2) (cwV 2 hts gX5_sealedAgain_X5_isOpen rfl rfl rfl kdX5_isOpen ⟨Nat.le_of_ble_eq_true rfl, Nat.le_of_ble_eq_true rfl⟩) hK hA hw 0 rfl rfl rfl rfl hl.1 rfl (Nat.le_of_ble_eq_true rfl) dX5_sealedAgain_41 ⟨Nat.le_of_ble_eq_true rfl, Nat.le_of_ble_eq_true rfl⟩) (fun H locs hw => ?_)
      refine lv_if_eq (tgt := 60) hx hb dX5_sealedAgain_44 (by decide) (fun hc => ?_) (fun hc => ?_)
      · have hF := zif_t hc hF
        exact wX5_sealedAgain_60 C0 hK hA hret (fun b0 b1 b2 b3 b4 b5 => fX5_sealedAgain_31  now n b0 b1 b2 b3 b4 b5) ih  _ _ _ _ _ _ hF _ _ _ hw (lv_sub hl [0, 1, 3] rfl)
      · have hF := zif_f hc hF
        refine lv_aload_n hx hb dX5_sealedAgain_47 rfl (lv_at hl 0 rfl) ?_
        refine va_get (D := G) (ci := 4) (v := .ref (ad 6)) (C := RX5) (T := TX5) (N := 23) hx hb hts inX5_sealedAgain_X5 hown hK.1 hw.1 0 rfl rfl 10 (by decide) (hts (.fieldLink RX5 28 "SealedBoardModel" "far" "[I") (by decide +kernel)) (fun _ h9 => h9) rfl dX5_sealedAgain_48 ?_
        refine lv_iload_n hx hb dX5_sealedAgain_51 rfl (lv_at hl 3 rfl) ?_
        obtain ⟨hi3, hF⟩ := zck_in hF
        refine va_iald hx hb hK.1 hw.1 6 2 rfl rfl hi3 dX5_sealedAgain_52 ?_
        refine lv_if_ge (tgt := 60) hx hb dX5_sealedAgain_53 (by decide) (fun hc => ?_) (fun hc => ?_)
        · have hF := zif_t hc hF
          exact wX5_sealedAgain_60 C0 hK hA hret (fun b0 b1 b2 b3 b4 b5 => fX5_sealedAgain_31  now n b0 b1 b2 b3 b4 b5) ih  _ _ _ _ _ _ hF _ _ _ hw (lv_sub hl [0, 1, 3] rfl)
        · have hF := zif_f hc hF
          refine lv_iconst (v := (1 : Int32)) hx hb dX5_sealedAgain_56 (by decide) ?_
          refine lv_goto (tgt := 61) hx hb dX5_sealedAgain_57 (by decide) ?_
          exact wX5_sealedAgain_61 C0 hK hA hret (fun b0 b1 b2 b3 b4 b5 => fX5_sealedAgain_31  now n b0 b1 b2 b3 b4 b5) ih  _ _ _ _ _ _ _ hF _ _ _ hw (lv_sub hl [0, 1, 3] rfl)
set_option maxHeartbeats 400000 in
set_option maxRecDepth 100000 in
theorem wX5_sealedAgain_14 {p : Program} {l : Launch} {e : Env} {s : State} {m : MethodId} {args : Array Value} {below : List Frame} {meth : Method} {c : Code} {A : Nat → Prop} {Q : State → Prop} {G : va_G} {k : Nat → ClassId} {ad : Nat → Nat} {now : Nat → Int32} {saved : Nat → Int32} {hist : Nat → Nat → Int32} {kept : Int32} {reason : Int32} {detail : Int32} {isSaved : Int32} {comes : Nat → Int32} {isInText : Int32} {ahead : Nat → Int32} {roomAt : Nat → Int32} {rooms : Int32} {text : Nat → Int32} {length : Int32} {at_ : Int32} {errorPosition : Int32} {toldFrom : Int32} {toldTo : Int32} {isWrong : Int32} {before : Nat → Int32} {o : Int32 × Int32 × (Nat → Int32) × (Nat → Int32)} (C0 : zCx p s m args meth c wsX5_sealedAgain cX5_sealedAgain RX5 (some .int) 4) (hK : zKK G k A s s.heap) (hA : ∀ q : Nat, s.heap.size ≤ q → A q) (hret : zRI p l e rmX5_sealedAgain s m args below meth c cX5_sealedAgain G A 0 0 Q .int (zM ad k o.2.1 now saved hist kept reason detail isSaved comes o.2.2.1 o.2.2.2 isInText ahead roomAt rooms text length at_ errorPosition toldFrom toldTo isWrong before) o.1)  : ∀ (thrown : Int32) (queue : Nat → Int32) (far : Nat → Int32) (x1 : Int32) (s0 : Int32) (s1 : Int32), fX5_sealedAgain_14  now thrown queue far x1 s0 s1 = some o → ∀ (H : Heap) (locs : List Loc) (ls : Array Slot), zWd G A s (zM ad k thrown now saved hist kept reason detail isSaved comes queue far isInText ahead roomAt rooms text length at_ errorPosition toldFrom toldTo isWrong before) H locs → lv_has ls 4 [(0, .ref (ad 0)), (1, .int x1)] → W p l e rmX5_sealedAgain s m args below meth c H locs 0 0 Q (F0 m 14 ls [.int s0, .int s1, .ref (ad 0)]) := by
  obtain ⟨hx, hb, hr, hml, hown, hts, hlocks⟩ := id C0
  intro thrown queue far x1 s0 s1 hF H locs ls hw hl
  unfold fX5_sealedAgain_14 at hF
  obtain ⟨u1, hq2, hF⟩ := zbd_t hF
  refine zgoIw (w' := (zM ad k u1.2 now saved hist kept reason detail isSaved comes queue far isInText ahead roomAt rooms text length at_ errorPosition toldFrom toldTo isWrong before)) hw hA (zVw (As := [.int s1, .int s0]) (rest := []) ⟨hx, hb, hml, hown, hts⟩ (mX5_fails l G k ad H.size thrown now saved hist kept reason detail isSaved comes queue far isInText ahead roomAt rooms text length at_ errorPosition toldFrom toldTo isWrong before s1 s0 u1 hq2) (cwV 2 hts gX5_sealedAgain_X5_fails rfl rfl rfl kdX5_fails ⟨Nat.le_of_ble_eq_true rfl, Nat.le_of_ble_eq_true rfl⟩) hK hA hw 0 rfl rfl rfl rfl hl.1 rfl (Nat.le_of_ble_eq_true rfl) dX5_sealedAgain_14 ⟨Nat.le_of_ble_eq_true rfl, Nat.le_of_ble_eq_true rfl⟩) (fun H locs hw => ?_)
  refine lv_if_eq (tgt := 22) hx hb dX5_sealedAgain_17 (by decide) (fun hc => ?_) (fun hc => ?_)
  · have hF := zif_t hc hF
    refine lv_aload_n hx hb dX5_sealedAgain_22 rfl (lv_at hl 0 rfl) ?_
    refine lv_iload_n hx hb dX5_sealedAgain_23 rfl (lv_at hl 1 rfl) ?_
    obtain ⟨u3, hq4, hF⟩ := zbd_t hF
    refine zgoVw (w' := (zM ad k u1.2 now saved hist kept reason detail isSaved comes u3.1 u3.2 isInText ahead roomAt rooms text length at_ errorPosition toldFrom toldTo isWrong before)) hw hA (zVw (As := [.int x1]) (rest := []) ⟨hx, hb, hml, hown, hts⟩ (mX5_findSteps l G k ad H.size u1.2 now saved hist kept reason detail isSaved comes queue far isInText ahead roomAt rooms text length at_ errorPosition toldFrom toldTo isWrong before x1 u3 hq4) (cwV 1 hts gX5_sealedAgain_X5_findSteps rfl rfl rfl kdX5_findSteps ⟨Nat.le_of_ble_eq_true rfl, Nat.le_of_ble_eq_true rfl⟩) hK hA hw 0 rfl rfl rfl rfl hl.1 rfl (Nat.le_of_ble_eq_true rfl) dX5_sealedAgain_24 ⟨Nat.le_of_ble_eq_true rfl, Nat.le_of_ble_eq_true rfl⟩) (fun H locs hw => ?_)
    refine lv_iconst (v := (0 : Int32)) hx hb dX5_sealedAgain_27 (by decide) ?_
    refine lv_istore_n (lv' := [(2, .int (0 : Int32)), (0, .ref (ad 0)), (1, .int x1)]) hx hb dX5_sealedAgain_28 rfl hl (by decide) rfl (fun ls hl => ?_)
    refine lv_iconst (v := (0 : Int32)) hx hb dX5_sealedAgain_29 (by decide) ?_
    refine lv_istore_n (lv' := [(3, .int (0 : Int32)), (2, .int (0 : Int32)), (0, .ref (ad 0)), (1, .int x1)]) hx hb dX5_sealedAgain_30 rfl hl (by decide) rfl (fun ls hl => ?_)
    exact wX5_sealedAgain_31 C0 hK hA hret  zFu _ _ _ _ _ _ hF _ _ _ hw (lv_sub hl [2, 3, 1, 0] rfl)
  · have hF := zif_f hc hF
    refine lv_iconst (v := (0 : Int32)) hx hb dX5_sealedAgain_20 (by decide) ?_
    obtain rfl := Option.some.inj hF
    exact hret _ _ _ _ rfl hw dX5_sealedAgain_21
set_option maxHeartbeats 400000 in
set_option maxRecDepth 100000 in
theorem mX5_sealedAgain (l : Launch) (G : va_G) (k : Nat → ClassId) (ad : Nat → Nat) (sz : Nat) (thrown : Int32) (now : Nat → Int32) (saved : Nat → Int32) (hist : Nat → Nat → Int32) (kept : Int32) (reason : Int32) (detail : Int32) (isSaved : Int32) (comes : Nat → Int32) (queue : Nat → Int32) (far : Nat → Int32) (isInText : Int32) (ahead : Nat → Int32) (roomAt : Nat → Int32) (rooms : Int32) (text : Nat → Int32) (length : Int32) (at_ : Int32) (errorPosition : Int32) (toldFrom : Int32) (toldTo : Int32) (isWrong : Int32) (before : Nat → Int32) (p0 : Int32) (o : Int32 × Int32 × (Nat → Int32) × (Nat → Int32)) (hF : fX5_sealedAgain thrown now queue far p0 = some o) : zMI l yX5_sealedAgain wsX5_sealedAgain rmX5_sealedAgain G k (zM ad k thrown now saved hist kept reason detail isSaved comes queue far isInText ahead roomAt rooms text length at_ errorPosition toldFrom toldTo isWrong before) sz [.ref (ad 0), .int p0] o.1 (zM ad k o.2.1 now saved hist kept reason detail isSaved comes o.2.2.1 o.2.2.2 isInText ahead roomAt rooms text length at_ errorPosition toldFrom toldTo isWrong before) := by
  refine zof_I (cc := cX5_sealedAgain) (nL := 4) (own := RX5) (rt := .int) (by decide) rfl rfl (Nat.le_of_ble_eq_true rfl) ?_
  intro p e s m args below meth c A Q C0 hK hA hret ls hl hw
  have hl : lv_has ls 4 [(0, .ref (ad 0)), (1, .int p0)] := hl
  obtain ⟨hx, hb, hr, hml, hown, hts, hlocks⟩ := id C0
  obtain ⟨H, hH⟩ : ∃ z, z = s.heap := ⟨_, rfl⟩
  rw [← hH] at hw ⊢
  unfold fX5_sealedAgain at hF
  refine lv_aload_n hx hb dX5_sealedAgain_0 rfl (lv_at hl 0 rfl) ?_
  refine lv_iconst (v := (1 : Int32)) hx hb dX5_sealedAgain_1 (by decide) ?_
  refine lv_iload_n hx hb dX5_sealedAgain_2 rfl (lv_at hl 1 rfl) ?_
  obtain ⟨u1, hq2, hF⟩ := zbd_t hF
  refine zgoI (w' := (zM ad k thrown now saved hist kept reason detail isSaved comes queue far isInText ahead roomAt rooms text length at_ errorPosition toldFrom toldTo isWrong before)) hw hA [] rfl (zS (As := [.int p0]) (rest := [.int (1 : Int32), .ref (ad 0)]) ⟨hx, hb, hml, hown, hts⟩ (mX5_isSide l G k  H.size  p0 u1 hq2) (va_cwS 1 hts gX5_sealedAgain_X5_isSide rfl rfl rfl kdX5_isSide ⟨Nat.le_of_ble_eq_true rfl, Nat.le_of_ble_eq_true rfl⟩) hK hA hw [] rfl (by decide) rfl hl.1 rfl (Nat.le_of_ble_eq_true rfl) dX5_sealedAgain_3 ⟨Nat.le_of_ble_eq_true rfl, Nat.le_of_ble_eq_true rfl⟩) rfl rfl rfl (fun H locs hw => ?_)
  refine lv_if_ne (tgt := 13) hx hb dX5_sealedAgain_6 (by decide) (fun hc => ?_) (fun hc => ?_)
  · have hF := zif_f hc hF
    refine lv_iconst (v := (0 : Int32)) hx hb dX5_sealedAgain_13 (by decide) ?_
    exact wX5_sealedAgain_14 C0 hK hA hret   _ _ _ _ _ _ hF _ _ _ hw (lv_sub hl [0, 1] rfl)
  · have hF := zif_t hc hF
    refine lv_iconst (v := (1 : Int32)) hx hb dX5_sealedAgain_9 (by decide) ?_
    refine lv_goto (tgt := 14) hx hb dX5_sealedAgain_10 (by decide) ?_
    exact wX5_sealedAgain_14 C0 hK hA hret   _ _ _ _ _ _ hF _ _ _ hw (lv_sub hl [0, 1] rfl)

/-! SealedBoardModel.steps(II)I -/
abbrev rmX5_steps : Room := { frames := 3, cells := 0, slots := 0, locals := 70 }
theorem kdX5_steps : yX5_steps.cls = RX5 ∧ yX5_steps.cls ≠ "java/lang/invoke/MethodHandle" ∧ yX5_steps.cls ≠ "java/lang/invoke/VarHandle" ∧ (parseMethodDescriptor yX5_steps.desc).map (fun d => d.parameters.length) = some 2 := by decide +kernel
theorem inX5_steps_X5 : ∀ w ∈ u_ws RX5 TX5 23, w ∈ wsX5_steps := by decide +kernel
def fX5_steps_50  (now : Nat → Int32) (thrown : Int32) (queue : Nat → Int32) (far : Nat → Int32) (x2 : Int32) (s0 : Int32) (s1 : Int32) : Option (Int32 × Int32 × (Nat → Int32) × (Nat → Int32)) := (zbd (fX5_fails thrown s1 s0) (fun u1 => (if u1.1 = 0 then (zck (zin x2 36) (some ((far x2.toNatClampNeg), u1.2, queue, far))) else (some ((0 : Int32), u1.2, queue, far)))))
def fX5_steps_21  (now : Nat → Int32) (thrown : Int32) (queue : Nat → Int32) (far : Nat → Int32) (x1 : Int32) (x2 : Int32) (s0 : Int32) (s1 : Int32) : Option (Int32 × Int32 × (Nat → Int32) × (Nat → Int32)) := (zbd (fX5_fails thrown s1 s0) (fun u1 => (if u1.1 = 0 then (zbd (fX5_findSteps now queue far x1) (fun u3 => (zck (zin x2 36) (if 0 ≤ (u3.2 x2.toNatClampNeg) then (fX5_steps_50  now  u1.2 u3.1 u3.2 x2 (0 : Int32) (2 : Int32)) else (fX5_steps_50  now  u1.2 u3.1 u3.2 x2 (1 : Int32) (2 : Int32)))))) else (some ((0 : Int32), u1.2, queue, far)))))
def fX5_steps_16  (now : Nat → Int32) (thrown : Int32) (queue : Nat → Int32) (far : Nat → Int32) (x1 : Int32) (x2 : Int32) (s0 : Int32) : Option (Int32 × Int32 × (Nat → Int32) × (Nat → Int32)) := (fX5_steps_21  now  thrown queue far x1 x2 (1 : Int32) s0)
def fX5_steps (thrown : Int32) (now : Nat → Int32) (queue : Nat → Int32) (far : Nat → Int32) (p0 : Int32) (p1 : Int32) : Option (Int32 × Int32 × (Nat → Int32) × (Nat → Int32)) := (zbd (fX5_isSide p0) (fun u1 => (if u1 = 0 then (fX5_steps_16  now  thrown queue far p0 p1 (1 : Int32)) else (zbd (fX5_isSquare p1) (fun u3 => (if u3 = 0 then (fX5_steps_16  now  thrown queue far p0 p1 (1 : Int32)) else (fX5_steps_21  now  thrown queue far p0 p1 (0 : Int32) (1 : Int32))))))))
set_option maxHeartbeats 400000 in
set_option maxRecDepth 100000 in
theorem wX5_steps_50 {p : Program} {l : Launch} {e : Env} {s : State} {m : MethodId} {args : Array Value} {below : List Frame} {meth : Method} {c : Code} {A : Nat → Prop} {Q : State → Prop} {G : va_G} {k : Nat → ClassId} {ad : Nat → Nat} {now : Nat → Int32} {saved : Nat → Int32} {hist : Nat → Nat → Int32} {kept : Int32} {reason : Int32} {detail : Int32} {isSaved : Int32} {comes : Nat → Int32} {isInText : Int32} {ahead : Nat → Int32} {roomAt : Nat → Int32} {rooms : Int32} {text : Nat → Int32} {length : Int32} {at_ : Int32} {errorPosition : Int32} {toldFrom : Int32} {toldTo : Int32} {isWrong : Int32} {before : Nat → Int32} {o : Int32 × Int32 × (Nat → Int32) × (Nat → Int32)} (C0 : zCx p s m args meth c wsX5_steps cX5_steps RX5 (some .int) 3) (hK : zKK G k A s s.heap) (hA : ∀ q : Nat, s.heap.size ≤ q → A q) (hret : zRI p l e rmX5_steps s m args below meth c cX5_steps G A 0 0 Q .int (zM ad k o.2.1 now saved hist kept reason detail isSaved comes o.2.2.1 o.2.2.2 isInText ahead roomAt rooms text length at_ errorPosition toldFrom toldTo isWrong before) o.1)  : ∀ (thrown : Int32) (queue : Nat → Int32) (far : Nat → Int32) (x2 : Int32) (s0 : Int32) (s1 : Int32), fX5_steps_50  now thrown queue far x2 s0 s1 = some o → ∀ (H : Heap) (locs : List Loc) (ls : Array Slot), zWd G A s (zM ad k thrown now saved hist kept reason detail isSaved comes queue far isInText ahead roomAt rooms text length at_ errorPosition toldFrom toldTo isWrong before) H locs → lv_has ls 3 [(0, .ref (ad 0)), (2, .int x2)] → W p l e rmX5_steps s m args below meth c H locs 0 0 Q (F0 m 50 ls [.int s0, .int s1, .ref (ad 0)]) := by
  obtain ⟨hx, hb, hr, hml, hown, hts, hlocks⟩ := id C0
  intro thrown queue far x2 s0 s1 hF H locs ls hw hl
  unfold fX5_steps_50 at hF
  obtain ⟨u1, hq2, hF⟩ := zbd_t hF
  refine zgoIw (w' := (zM ad k u1.2 now saved hist kept reason detail isSaved comes queue far isInText ahead roomAt rooms text length at_ errorPosition toldFrom toldTo isWrong before)) hw hA (zVw (As := [.int s1, .int s0]) (rest := []) ⟨hx, hb, hml, hown, hts⟩ (mX5_fails l G k ad H.size thrown now saved hist kept reason detail isSaved comes queue far isInText ahead roomAt rooms text length at_ errorPosition toldFrom toldTo isWrong before s1 s0 u1 hq2) (cwV 2 hts gX5_steps_X5_fails rfl rfl rfl kdX5_fails ⟨Nat.le_of_ble_eq_true rfl, Nat.le_of_ble_eq_true rfl⟩) hK hA hw 0 rfl rfl rfl rfl hl.1 rfl (Nat.le_of_ble_eq_true rfl) dX5_steps_50 ⟨Nat.le_of_ble_eq_true rfl, Nat.le_of_ble_eq_true rfl⟩) (fun H locs hw => ?_)
  refine lv_if_eq (tgt := 60) hx hb dX5_steps_53 (by decide) (fun hc => ?_) (fun hc => ?_)
  · have hF := zif_t hc hF
    refine lv_aload_n hx hb dX5_steps_60 rfl (lv_at hl 0 rfl) ?_
    refine va_get (D := G) (ci := 4) (v := .ref (ad 6)) (C := RX5) (T := TX5) (N := 23) hx hb hts inX5_steps_X5 hown hK.1 hw.1 0 rfl rfl 10 (by decide) (hts (.fieldLink RX5 28 "SealedBoardModel" "far" "[I") (by decide +kernel)) (fun _ h9 => h9) rfl dX5_steps_61 ?_
    refine lv_iload_n hx hb dX5_steps_64 rfl (lv_at hl 1 rfl) ?_
    obtain ⟨hi3, hF⟩ := zck_in hF
    refine va_iald hx hb hK.1 hw.1 6 2 rfl rfl hi3 dX5_steps_65 ?_
    obtain rfl := Option.some.inj hF
    exact hret _ _ _ _ rfl hw dX5_steps_66
  · have hF := zif_f hc hF
    refine lv_iconst (v := (0 : Int32)) hx hb dX5_steps_56 (by decide) ?_
    refine lv_goto (tgt := 66) hx hb dX5_steps_57 (by decide) ?_
    obtain rfl := Option.some.inj hF
    exact hret _ _ _ _ rfl hw dX5_steps_66
set_option maxHeartbeats 400000 in
set_option maxRecDepth 100000 in
theorem wX5_steps_21 {p : Program} {l : Launch} {e : Env} {s : State} {m : MethodId} {args : Array Value} {below : List Frame} {meth : Method} {c : Code} {A : Nat → Prop} {Q : State → Prop} {G : va_G} {k : Nat → ClassId} {ad : Nat → Nat} {now : Nat → Int32} {saved : Nat → Int32} {hist : Nat → Nat → Int32} {kept : Int32} {reason : Int32} {detail : Int32} {isSaved : Int32} {comes : Nat → Int32} {isInText : Int32} {ahead : Nat → Int32} {roomAt : Nat → Int32} {rooms : Int32} {text : Nat → Int32} {length : Int32} {at_ : Int32} {errorPosition : Int32} {toldFrom : Int32} {toldTo : Int32} {isWrong : Int32} {before : Nat → Int32} {o : Int32 × Int32 × (Nat → Int32) × (Nat → Int32)} (C0 : zCx p s m args meth c wsX5_steps cX5_steps RX5 (some .int) 3) (hK : zKK G k A s s.heap) (hA : ∀ q : Nat, s.heap.size ≤ q → A q) (hret : zRI p l e rmX5_steps s m args below meth c cX5_steps G A 0 0 Q .int (zM ad k o.2.1 now saved hist kept reason detail isSaved comes o.2.2.1 o.2.2.2 isInText ahead roomAt rooms text length at_ errorPosition toldFrom toldTo isWrong before) o.1)  : ∀ (thrown : Int32) (queue : Nat → Int32) (far : Nat → Int32) (x1 : Int32) (x2 : Int32) (s0 : Int32) (s1 : Int32), fX5_steps_21  now thrown queue far x1 x2 s0 s1 = some o → ∀ (H : Heap) (locs : List Loc) (ls : Array Slot), zWd G A s (zM ad k thrown now saved hist kept reason detail isSaved comes queue far isInText ahead roomAt rooms text length at_ errorPosition toldFrom toldTo isWrong before) H locs → lv_has ls 3 [(0, .ref (ad 0)), (1, .int x1), (2, .int x2)] → W p l e rmX5_steps s m args below meth c H locs 0 0 Q (F0 m 21 ls [.int s0, .int s1, .ref (ad 0)]) := by
  obtain ⟨hx, hb, hr, hml, hown, hts, hlocks⟩ := id C0
  intro thrown queue far x1 x2 s0 s1 hF H locs ls hw hl
  unfold fX5_steps_21 at hF
  obtain ⟨u1, hq2, hF⟩ := zbd_t hF
  refine zgoIw (w' := (zM ad k u1.2 now saved hist kept reason detail isSaved comes queue far isInText ahead roomAt rooms text length at_ errorPosition toldFrom toldTo isWrong before)) hw hA (zVw (As := [.int s1, .int s0]) (rest := []) ⟨hx, hb, hml, hown, hts⟩ (mX5_fails l G k ad H.size thrown now saved hist kept reason detail isSaved comes queue far isInText ahead roomAt rooms text length at_ errorPosition toldFrom toldTo isWrong before s1 s0 u1 hq2) (cwV 2 hts gX5_steps_X5_fails rfl rfl rfl kdX5_fails ⟨Nat.le_of_ble_eq_true rfl, Nat.le_of_ble_eq_true rfl⟩) hK hA hw 0 rfl rfl rfl rfl hl.1 rfl (Nat.le_of_ble_eq_true rfl) dX5_steps_21 ⟨Nat.le_of_ble_eq_true rfl, Nat.le_of_ble_eq_true rfl⟩) (fun H locs hw => ?_)
  refine lv_if_eq (tgt := 29) hx hb dX5_steps_24 (by decide) (fun hc => ?_) (fun hc => ?_)
  · have hF := zif_t hc hF
    refine lv_aload_n hx hb dX5_steps_29 rfl (lv_at hl 0 rfl) ?_
    refine lv_iload_n hx hb dX5_steps_30 rfl (lv_at hl 1 rfl) ?_
    obtain ⟨u3, hq4, hF⟩ := zbd_t hF
    refine zgoVw (w' := (zM ad k u1.2 now saved hist kept reason detail isSaved comes u3.1 u3.2 isInText ahead roomAt rooms text length at_ errorPosition toldFrom toldTo isWrong before)) hw hA (zVw (As := [.int x1]) (rest := []) ⟨hx, hb, hml, hown, hts⟩ (mX5_findSteps l G k ad H.size u1.2 now saved hist kept reason detail isSaved comes queue far isInText ahead roomAt rooms text length at_ errorPosition toldFrom toldTo isWrong before x1 u3 hq4) (cwV 1 hts gX5_steps_X5_findSteps rfl rfl rfl kdX5_findSteps ⟨Nat.le_of_ble_eq_true rfl, Nat.le_of_ble_eq_true rfl⟩) hK hA hw 0 rfl rfl rfl rfl hl.1 rfl (Nat.le_of_ble_eq_true rfl) dX5_steps_31 ⟨Nat.le_of_ble_eq_true rfl, Nat.le_of_ble_eq_true rfl⟩) (fun H locs hw => ?_)
    refine lv_aload_n hx hb dX5_steps_34 rfl (lv_at hl 0 rfl) ?_
    refine lv_iconst (v := (2 : Int32)) hx hb dX5_steps_35 (by decide) ?_
    refine lv_aload_n hx hb dX5_steps_36 rfl (lv_at hl 0 rfl) ?_
    refine va_get (D := G) (ci := 4) (v := .ref (ad 6)) (C := RX5) (T := TX5) (N := 23) hx hb hts inX5_steps_X5 hown hK.1 hw.1 0 rfl rfl 10 (by decide) (hts (.fieldLink RX5 28 "SealedBoardModel" "far" "[I") (by decide +kernel)) (fun _ h9 => h9) rfl dX5_steps_37 ?_
    refine lv_iload_n hx hb dX5_steps_40 rfl (lv_at hl 2 rfl) ?_
    obtain ⟨hi5, hF⟩ := zck_in hF
    refine va_iald hx hb hK.1 hw.1 6 2 rfl rfl hi5 dX5_steps_41 ?_
    refine lv_if_ge (tgt := 49) hx hb dX5_steps_42 (by decide) (fun hc => ?_) (fun hc => ?_)
    · have hF := zif_t hc hF
      refine lv_iconst (v := (0 : Int32)) hx hb dX5_steps_49 (by decide) ?_
      exact wX5_steps_50 C0 hK hA hret   _ _ _ _ _ _ hF _ _ _ hw (lv_sub hl [0, 2] rfl)
    · have hF := zif_f hc hF
      refine lv_iconst (v := (1 : Int32)) hx hb dX5_steps_45 (by decide) ?_
      refine lv_goto (tgt := 50) hx hb dX5_steps_46 (by decide) ?_
      exact wX5_steps_50 C0 hK hA hret   _ _ _ _ _ _ hF _ _ _ hw (lv_sub hl [0, 2] rfl)
  · have hF := zif_f hc hF
    refine lv_iconst (v := (0 : Int32)) hx hb dX5_steps_27 (by decide) ?_
    obtain rfl := Option.some.inj hF
    exact hret _ _ _ _ rfl hw dX5_steps_28
set_option maxHeartbeats 400000 in
set_option maxRecDepth 100000 in
theorem wX5_steps_16 {p : Program} {l : Launch} {e : Env} {s : State} {m : MethodId} {args : Array Value} {below : List Frame} {meth : Method} {c : Code} {A : Nat → Prop} {Q : State → Prop} {G : va_G} {k : Nat → ClassId} {ad : Nat → Nat} {now : Nat → Int32} {saved : Nat → Int32} {hist : Nat → Nat → Int32} {kept : Int32} {reason : Int32} {detail : Int32} {isSaved : Int32} {comes : Nat → Int32} {isInText : Int32} {ahead : Nat → Int32} {roomAt : Nat → Int32} {rooms : Int32} {text : Nat → Int32} {length : Int32} {at_ : Int32} {errorPosition : Int32} {toldFrom : Int32} {toldTo : Int32} {isWrong : Int32} {before : Nat → Int32} {o : Int32 × Int32 × (Nat → Int32) × (Nat → Int32)} (C0 : zCx p s m args meth c wsX5_steps cX5_steps RX5 (some .int) 3) (hK : zKK G k A s s.heap) (hA : ∀ q : Nat, s.heap.size ≤ q → A q) (hret : zRI p l e rmX5_steps s m args below meth c cX5_steps G A 0 0 Q .int (zM ad k o.2.1 now saved hist kept reason detail isSaved comes o.2.2.1 o.2.2.2 isInText ahead roomAt rooms text length at_ errorPosition toldFrom toldTo isWrong before) o.1)  : ∀ (thrown : Int32) (queue : Nat → Int32) (far : Nat → Int32) (x1 : Int32) (x2 : Int32) (s0 : Int32), fX5_steps_16  now thrown queue far x1 x2 s0 = some o → ∀ (H : Heap) (locs : List Loc) (ls : Array Slot), zWd G A s (zM ad k thrown now saved hist kept reason detail isSaved comes queue far isInText ahead roomAt rooms text length at_ errorPosition toldFrom toldTo isWrong before) H locs → lv_has ls 3 [(0, .ref (ad 0)), (1, .int x1), (2, .int x2)] → W p l e rmX5_steps s m args below meth c H locs 0 0 Q (F0 m 16 ls [.int s0, .ref (ad 0)]) := by
  obtain ⟨hx, hb, hr, hml, hown, hts, hlocks⟩ := id C0
  intro thrown queue far x1 x2 s0 hF H locs ls hw hl
  unfold fX5_steps_16 at hF
  refine lv_iconst (v := (1 : Int32)) hx hb dX5_steps_16 (by decide) ?_
  refine lv_goto (tgt := 21) hx hb dX5_steps_17 (by decide) ?_
  exact wX5_steps_21 C0 hK hA hret   _ _ _ _ _ _ _ hF _ _ _ hw (lv_sub hl [0, 1, 2] rfl)
set_option maxHeartbeats 400000 in
set_option maxRecDepth 100000 in
theorem mX5_steps (l : Launch) (G : va_G) (k : Nat → ClassId) (ad : Nat → Nat) (sz : Nat) (thrown : Int32) (now : Nat → Int32) (saved : Nat → Int32) (hist : Nat → Nat → Int32) (kept : Int32) (reason : Int32) (detail : Int32) (isSaved : Int32) (comes : Nat → Int32) (queue : Nat → Int32) (far : Nat → Int32) (isInText : Int32) (ahead : Nat → Int32) (roomAt : Nat → Int32) (rooms : Int32) (text : Nat → Int32) (length : Int32) (at_ : Int32) (errorPosition : Int32) (toldFrom : Int32) (toldTo : Int32) (isWrong : Int32) (before : Nat → Int32) (p0 : Int32) (p1 : Int32) (o : Int32 × Int32 × (Nat → Int32) × (Nat → Int32)) (hF : fX5_steps thrown now queue far p0 p1 = some o) : zMI l yX5_steps wsX5_steps rmX5_steps G k (zM ad k thrown now saved hist kept reason detail isSaved comes queue far isInText ahead roomAt rooms text length at_ errorPosition toldFrom toldTo isWrong before) sz [.ref (ad 0), .int p0, .int p1] o.1 (zM ad k o.2.1 now saved hist kept reason detail isSaved comes o.2.2.1 o.2.2.2 isInText ahead roomAt rooms text length at_ errorPosition toldFrom toldTo isWrong before) := by
  refine zof_I (cc := cX5_steps) (nL := 3) (own := RX5) (rt := .int) (by decide) rfl rfl (Nat.le_of_ble_eq_true rfl) ?_
  intro p e s m args below meth c A Q C0 hK hA hret ls hl hw
  have hl : lv_has ls 3 [(0, .ref (ad 0)), (1, .int p0), (2, .int p1)] := hl
  obtain ⟨hx, hb, hr, hml, hown, hts, hlocks⟩ := id C0
  obtain ⟨H, hH⟩ : ∃ z, z = s.heap := ⟨_, rfl⟩
  rw [← hH] at hw ⊢
  unfold fX5_steps at hF
  refine lv_aload_n hx hb dX5_steps_0 rfl (lv_at hl 0 rfl) ?_
  refine lv_iconst (v := (1 : Int32)) hx hb dX5_steps_1 (by decide) ?_
  refine lv_iload_n hx hb dX5_steps_2 rfl (lv_at hl 1 rfl) ?_
  obtain ⟨u1, hq2, hF⟩ := zbd_t hF
  refine zgoI (w' := (zM ad k thrown now saved hist kept reason detail isSaved comes queue far isInText ahead roomAt rooms text length at_ errorPosition toldFrom toldTo isWrong before)) hw hA [] rfl (zS (As := [.int p0]) (rest := [.int (1 : Int32), .ref (ad 0)]) ⟨hx, hb, hml, hown, hts⟩ (mX5_isSide l G k  H.size  p0 u1 hq2) (va_cwS 1 hts gX5_steps_X5_isSide rfl rfl rfl kdX5_isSide ⟨Nat.le_of_ble_eq_true rfl, Nat.le_of_ble_eq_true rfl⟩) hK hA hw [] rfl (by decide) rfl hl.1 rfl (Nat.le_of_ble_eq_true rfl) dX5_steps_3 ⟨Nat.le_of_ble_eq_true rfl, Nat.le_of_ble_eq_true rfl⟩) rfl rfl rfl (fun H locs hw => ?_)
  refine lv_if_eq (tgt := 16) hx hb dX5_steps_6 (by decide) (fun hc => ?_) (fun hc => ?_)
  · have hF := zif_t hc hF
    exact wX5_steps_16 C0 hK hA hret   _ _ _ _ _ _ hF _ _ _ hw (lv_sub hl [0, 1, 2] rfl)
  · have hF := zif_f hc hF
    refine lv_iload_n hx hb dX5_steps_9 rfl (lv_at hl 2 rfl) ?_
    obtain ⟨u3, hq4, hF⟩ := zbd_t hF
    refine zgoI (w' := (zM ad k thrown now saved hist kept reason detail isSaved comes queue far isInText ahead roomAt rooms text length at_ errorPosition toldFrom toldTo isWrong before)) hw hA [] rfl (zS (As := [.int p1]) (rest := [.int (1 : Int32), .ref (ad 0)]) ⟨hx, hb, hml, hown, hts⟩ (mX5_isSquare l G k  H.size  p1 u3 hq4) (va_cwS 1 hts gX5_steps_X5_isSquare rfl rfl rfl kdX5_isSquare ⟨Nat.le_of_ble_eq_true rfl, Nat.le_of_ble_eq_true rfl⟩) hK hA hw [] rfl (by decide) rfl hl.1 rfl (Nat.le_of_ble_eq_true rfl) dX5_steps_10 ⟨Nat.le_of_ble_eq_true rfl, Nat.le_of_ble_eq_true rfl⟩) rfl rfl rfl (fun H locs hw => ?_)
    refine lv_if_ne (tgt := 20) hx hb dX5_steps_13 (by decide) (fun hc => ?_) (fun hc => ?_)
    · have hF := zif_f hc hF
      refine lv_iconst (v := (0 : Int32)) hx hb dX5_steps_20 (by decide) ?_
      exact wX5_steps_21 C0 hK hA hret   _ _ _ _ _ _ _ hF _ _ _ hw (lv_sub hl [0, 1, 2] rfl)
    · have hF := zif_t hc hF
      exact wX5_steps_16 C0 hK hA hret   _ _ _ _ _ _ hF _ _ _ hw (lv_sub hl [0, 1, 2] rfl)

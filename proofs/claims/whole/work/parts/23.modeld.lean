/-! SealedBoardModel.isKeeperWall(II)Z -/
abbrev rmX5_isKeeperWall : Room := { frames := 1, cells := 0, slots := 0, locals := 21 }
theorem kdX5_isKeeperWall : yX5_isKeeperWall.cls = RX5 ∧ yX5_isKeeperWall.cls ≠ "java/lang/invoke/MethodHandle" ∧ yX5_isKeeperWall.cls ≠ "java/lang/invoke/VarHandle" ∧ (parseMethodDescriptor yX5_isKeeperWall.desc).map (fun d => d.parameters.length) = some 2 := by decide +kernel
theorem inX5_isKeeperWall_X5 : ∀ w ∈ u_ws RX5 TX5 23, w ∈ wsX5_isKeeperWall := by decide +kernel
def fX5_isKeeperWall (now : Nat → Int32) (p0 : Int32) (p1 : Int32) : Option (Int32) := (zck (zin p0 76) (zbd (fX5_codeOf p1 (3 : Int32)) (fun u2 => (if (now p0.toNatClampNeg) = ((20 : Int32) + u2) then (some ((1 : Int32))) else (some ((0 : Int32)))))))
set_option maxHeartbeats 400000 in
set_option maxRecDepth 100000 in
theorem mX5_isKeeperWall (l : Launch) (G : va_G) (k : Nat → ClassId) (ad : Nat → Nat) (sz : Nat) (thrown : Int32) (now : Nat → Int32) (saved : Nat → Int32) (hist : Nat → Nat → Int32) (kept : Int32) (reason : Int32) (detail : Int32) (isSaved : Int32) (comes : Nat → Int32) (queue : Nat → Int32) (far : Nat → Int32) (isInText : Int32) (ahead : Nat → Int32) (roomAt : Nat → Int32) (rooms : Int32) (text : Nat → Int32) (length : Int32) (at_ : Int32) (errorPosition : Int32) (toldFrom : Int32) (toldTo : Int32) (isWrong : Int32) (before : Nat → Int32) (p0 : Int32) (p1 : Int32) (o : Int32) (hF : fX5_isKeeperWall now p0 p1 = some o) : zMI l yX5_isKeeperWall wsX5_isKeeperWall rmX5_isKeeperWall G k (zM ad k thrown now saved hist kept reason detail isSaved comes queue far isInText ahead roomAt rooms text length at_ errorPosition toldFrom toldTo isWrong before) sz [.ref (ad 0), .int p0, .int p1] o (zM ad k thrown now saved hist kept reason detail isSaved comes queue far isInText ahead roomAt rooms text length at_ errorPosition toldFrom toldTo isWrong before) := by
  refine zof_I (cc := cX5_isKeeperWall) (nL := 3) (own := RX5) (rt := .boolean) (by decide) rfl rfl (Nat.le_of_ble_eq_true rfl) ?_
  intro p e s m args below meth c A Q C0 hK hA hret ls hl hw
  have hl : lv_has ls 3 [(0, .ref (ad 0)), (1, .int p0), (2, .int p1)] := hl
  obtain ⟨hx, hb, hr, hml, hown, hts, hlocks⟩ := id C0
  obtain ⟨H, hH⟩ : ∃ z, z = s.heap := ⟨_, rfl⟩
  rw [← hH] at hw ⊢
  unfold fX5_isKeeperWall at hF
  refine lv_aload_n hx hb dX5_isKeeperWall_0 rfl (lv_at hl 0 rfl) ?_
  refine va_get (D := G) (ci := 4) (v := .ref (ad 1)) (C := RX5) (T := TX5) (N := 23) hx hb hts inX5_isKeeperWall_X5 hown hK.1 hw.1 0 rfl rfl 1 (by decide) (hts (.fieldLink RX5 9 "SealedBoardModel" "now" "[I") (by decide +kernel)) (fun _ h9 => h9) rfl dX5_isKeeperWall_1 ?_
  refine lv_iload_n hx hb dX5_isKeeperWall_4 rfl (lv_at hl 1 rfl) ?_
  obtain ⟨hi1, hF⟩ := zck_in hF
  refine va_iald hx hb hK.1 hw.1 1 2 rfl rfl hi1 dX5_isKeeperWall_5 ?_
  refine lv_bipush (v := (20 : Int32)) hx hb dX5_isKeeperWall_6 (by decide) ?_
  refine lv_iload_n hx hb dX5_isKeeperWall_8 rfl (lv_at hl 2 rfl) ?_
  refine lv_iconst (v := (3 : Int32)) hx hb dX5_isKeeperWall_9 (by decide) ?_
  obtain ⟨u2, hq3, hF⟩ := zbd_t hF
  refine zgoI (w' := (zM ad k thrown now saved hist kept reason detail isSaved comes queue far isInText ahead roomAt rooms text length at_ errorPosition toldFrom toldTo isWrong before)) hw hA [] rfl (zS (As := [.int p1, .int (3 : Int32)]) (rest := [.int (20 : Int32), .int (now p0.toNatClampNeg)]) ⟨hx, hb, hml, hown, hts⟩ (mX5_codeOf l G k  H.size  p1 (3 : Int32) u2 hq3) (va_cwS 2 hts gX5_isKeeperWall_X5_codeOf rfl rfl rfl kdX5_codeOf ⟨Nat.le_of_ble_eq_true rfl, Nat.le_of_ble_eq_true rfl⟩) hK hA hw [] rfl (by decide) rfl hl.1 rfl (Nat.le_of_ble_eq_true rfl) dX5_isKeeperWall_10 ⟨Nat.le_of_ble_eq_true rfl, Nat.le_of_ble_eq_true rfl⟩) rfl rfl rfl (fun H locs hw => ?_)
  refine lv_iadd hx hb dX5_isKeeperWall_13 ?_
  refine lv_icmp_ne (tgt := 21) hx hb dX5_isKeeperWall_14 (by decide) (fun hc => ?_) (fun hc => ?_)
  · have hF := zif_f hc hF
    refine lv_iconst (v := (0 : Int32)) hx hb dX5_isKeeperWall_21 (by decide) ?_
    obtain rfl := Option.some.inj hF
    exact hret _ _ _ _ (zbo_n (x := (0 : Int32)) (by decide)) hw dX5_isKeeperWall_22
  · have hF := zif_t hc hF
    refine lv_iconst (v := (1 : Int32)) hx hb dX5_isKeeperWall_17 (by decide) ?_
    refine lv_goto (tgt := 22) hx hb dX5_isKeeperWall_18 (by decide) ?_
    obtain rfl := Option.some.inj hF
    exact hret _ _ _ _ (zbo_n (x := (1 : Int32)) (by decide)) hw dX5_isKeeperWall_22

/-! SealedBoardModel.countKeeperWalls(I)I -/
abbrev rmX5_countKeeperWalls : Room := { frames := 2, cells := 0, slots := 0, locals := 43 }
theorem kdX5_countKeeperWalls : yX5_countKeeperWalls.cls = RX5 ∧ yX5_countKeeperWalls.cls ≠ "java/lang/invoke/MethodHandle" ∧ yX5_countKeeperWalls.cls ≠ "java/lang/invoke/VarHandle" ∧ (parseMethodDescriptor yX5_countKeeperWalls.desc).map (fun d => d.parameters.length) = some 1 := by decide +kernel
def fX5_countKeeperWalls_25 (k4 : Int32 → Int32 → Int32 → Option (Int32)) (now : Nat → Int32) (x1 : Int32) (x3 : Int32) (s0 : Int32) (s1 : Int32) : Option (Int32) := (zbn (s1 + s0) (fun a1 => (zbn (x3 + (1 : Int32)) (fun a2 => (k4 x1 a1 a2)))))
def fX5_countKeeperWalls_4  (now : Nat → Int32) : Nat → Int32 → Int32 → Int32 → Option (Int32)
  | 0, _, _, _ => none
  | n + 1, x1, x2, x3 => (if (36 : Int32) ≤ x3 then (some (x2)) else (zbd (fX5_isKeeperWall now x3 x1) (fun u1 => (if u1 = 0 then (fX5_countKeeperWalls_25 (fun b0 b1 b2 => fX5_countKeeperWalls_4  now n b0 b1 b2) now  x1 x3 (0 : Int32) x2) else (fX5_countKeeperWalls_25 (fun b0 b1 b2 => fX5_countKeeperWalls_4  now n b0 b1 b2) now  x1 x3 (1 : Int32) x2)))))
def fX5_countKeeperWalls (now : Nat → Int32) (p0 : Int32) : Option (Int32) := (fX5_countKeeperWalls_4  now zFu p0 (0 : Int32) (0 : Int32))
set_option maxHeartbeats 400000 in
set_option maxRecDepth 100000 in
theorem wX5_countKeeperWalls_25 {p : Program} {l : Launch} {e : Env} {s : State} {m : MethodId} {args : Array Value} {below : List Frame} {meth : Method} {c : Code} {A : Nat → Prop} {Q : State → Prop} {G : va_G} {k : Nat → ClassId} {ad : Nat → Nat} {thrown : Int32} {now : Nat → Int32} {saved : Nat → Int32} {hist : Nat → Nat → Int32} {kept : Int32} {reason : Int32} {detail : Int32} {isSaved : Int32} {comes : Nat → Int32} {queue : Nat → Int32} {far : Nat → Int32} {isInText : Int32} {ahead : Nat → Int32} {roomAt : Nat → Int32} {rooms : Int32} {text : Nat → Int32} {length : Int32} {at_ : Int32} {errorPosition : Int32} {toldFrom : Int32} {toldTo : Int32} {isWrong : Int32} {before : Nat → Int32} {o : Int32} (C0 : zCx p s m args meth c wsX5_countKeeperWalls cX5_countKeeperWalls RX5 (some .int) 4) (hK : zKK G k A s s.heap) (hA : ∀ q : Nat, s.heap.size ≤ q → A q) (hret : zRI p l e rmX5_countKeeperWalls s m args below meth c cX5_countKeeperWalls G A 0 0 Q .int (zM ad k thrown now saved hist kept reason detail isSaved comes queue far isInText ahead roomAt rooms text length at_ errorPosition toldFrom toldTo isWrong before) o) (k4 : Int32 → Int32 → Int32 → Option (Int32)) (hk4 : ∀ (x1 : Int32) (x2 : Int32) (x3 : Int32), k4 x1 x2 x3 = some o → ∀ (H : Heap) (locs : List Loc) (ls : Array Slot), zWd G A s (zM ad k thrown now saved hist kept reason detail isSaved comes queue far isInText ahead roomAt rooms text length at_ errorPosition toldFrom toldTo isWrong before) H locs → lv_has ls 4 [(0, .ref (ad 0)), (1, .int x1), (2, .int x2), (3, .int x3)] → W p l e rmX5_countKeeperWalls s m args below meth c H locs 0 0 Q (F0 m 4 ls [])) : ∀ (x1 : Int32) (x3 : Int32) (s0 : Int32) (s1 : Int32), fX5_countKeeperWalls_25 k4 now x1 x3 s0 s1 = some o → ∀ (H : Heap) (locs : List Loc) (ls : Array Slot), zWd G A s (zM ad k thrown now saved hist kept reason detail isSaved comes queue far isInText ahead roomAt rooms text length at_ errorPosition toldFrom toldTo isWrong before) H locs → lv_has ls 4 [(0, .ref (ad 0)), (1, .int x1), (3, .int x3)] → W p l e rmX5_countKeeperWalls s m args below meth c H locs 0 0 Q (F0 m 25 ls [.int s0, .int s1]) := by
  obtain ⟨hx, hb, hr, hml, hown, hts, hlocks⟩ := id C0
  intro x1 x3 s0 s1 hF H locs ls hw hl
  unfold fX5_countKeeperWalls_25 at hF
  refine lv_iadd hx hb dX5_countKeeperWalls_25 ?_
  refine lv_topi (fun a1 ea1 => ?_)
  have hF := zbn_t ea1 hF
  refine lv_istore_n (lv' := [(2, .int a1), (0, .ref (ad 0)), (1, .int x1), (3, .int x3)]) hx hb dX5_countKeeperWalls_26 rfl hl (by decide) rfl (fun ls hl => ?_)
  obtain ⟨a2, ea2⟩ : ∃ z : Int32, z = x3 + (1 : Int32) := ⟨_, rfl⟩
  have hF := zbn_t ea2 hF
  refine lv_iinc (v := a2) (lv' := [(3, .int a2), (2, .int a1), (0, .ref (ad 0)), (1, .int x1)]) hx hb dX5_countKeeperWalls_27 hl (k := 3) rfl (by rw [ea2]; rfl) (by decide) rfl (fun ls hl => ?_)
  refine lv_goto (tgt := 4) hx hb dX5_countKeeperWalls_30 (by decide) ?_
  exact hk4 _ _ _ hF _ _ _ hw (lv_sub hl [2, 3, 1, 0] rfl)
set_option maxHeartbeats 400000 in
set_option maxRecDepth 100000 in
theorem wX5_countKeeperWalls_4 {p : Program} {l : Launch} {e : Env} {s : State} {m : MethodId} {args : Array Value} {below : List Frame} {meth : Method} {c : Code} {A : Nat → Prop} {Q : State → Prop} {G : va_G} {k : Nat → ClassId} {ad : Nat → Nat} {thrown : Int32} {now : Nat → Int32} {saved : Nat → Int32} {hist : Nat → Nat → Int32} {kept : Int32} {reason : Int32} {detail : Int32} {isSaved : Int32} {comes : Nat → Int32} {queue : Nat → Int32} {far : Nat → Int32} {isInText : Int32} {ahead : Nat → Int32} {roomAt : Nat → Int32} {rooms : Int32} {text : Nat → Int32} {length : Int32} {at_ : Int32} {errorPosition : Int32} {toldFrom : Int32} {toldTo : Int32} {isWrong : Int32} {before : Nat → Int32} {o : Int32} (C0 : zCx p s m args meth c wsX5_countKeeperWalls cX5_countKeeperWalls RX5 (some .int) 4) (hK : zKK G k A s s.heap) (hA : ∀ q : Nat, s.heap.size ≤ q → A q) (hret : zRI p l e rmX5_countKeeperWalls s m args below meth c cX5_countKeeperWalls G A 0 0 Q .int (zM ad k thrown now saved hist kept reason detail isSaved comes queue far isInText ahead roomAt rooms text length at_ errorPosition toldFrom toldTo isWrong before) o)  : ∀ (n : Nat) (x1 : Int32) (x2 : Int32) (x3 : Int32), fX5_countKeeperWalls_4  now n x1 x2 x3 = some o → ∀ (H : Heap) (locs : List Loc) (ls : Array Slot), zWd G A s (zM ad k thrown now saved hist kept reason detail isSaved comes queue far isInText ahead roomAt rooms text length at_ errorPosition toldFrom toldTo isWrong before) H locs → lv_has ls 4 [(0, .ref (ad 0)), (1, .int x1), (2, .int x2), (3, .int x3)] → W p l e rmX5_countKeeperWalls s m args below meth c H locs 0 0 Q (F0 m 4 ls []) := by
  obtain ⟨hx, hb, hr, hml, hown, hts, hlocks⟩ := id C0
  intro n
  induction n with
  | zero => intro x1 x2 x3 hF; exact nomatch hF
  | succ n ih =>
    intro x1 x2 x3 hF H locs ls hw hl
    rw [fX5_countKeeperWalls_4] at hF
    refine lv_iload_n hx hb dX5_countKeeperWalls_4 rfl (lv_at hl 3 rfl) ?_
    refine lv_bipush (v := (36 : Int32)) hx hb dX5_countKeeperWalls_5 (by decide) ?_
    refine lv_icmp_ge (tgt := 33) hx hb dX5_countKeeperWalls_7 (by decide) (fun hc => ?_) (fun hc => ?_)
    · have hF := zif_t hc hF
      refine lv_iload_n hx hb dX5_countKeeperWalls_33 rfl (lv_at hl 2 rfl) ?_
      obtain rfl := Option.some.inj hF
      exact hret _ _ _ _ rfl hw dX5_countKeeperWalls_34
    · have hF := zif_f hc hF
      refine lv_iload_n hx hb dX5_countKeeperWalls_10 rfl (lv_at hl 2 rfl) ?_
      refine lv_aload_n hx hb dX5_countKeeperWalls_11 rfl (lv_at hl 0 rfl) ?_
      refine lv_iload_n hx hb dX5_countKeeperWalls_12 rfl (lv_at hl 3 rfl) ?_
      refine lv_iload_n hx hb dX5_countKeeperWalls_13 rfl (lv_at hl 1 rfl) ?_
      obtain ⟨u1, hq2, hF⟩ := zbd_t hF
      refine zgoIw (w' := (zM ad k thrown now saved hist kept reason detail isSaved comes queue far isInText ahead roomAt rooms text length at_ errorPosition toldFrom toldTo isWrong before)) hw hA (zVw (As := [.int x3, .int x1]) (rest := [.int x2]) ⟨hx, hb, hml, hown, hts⟩ (mX5_isKeeperWall l G k ad H.size thrown now saved hist kept reason detail isSaved comes queue far isInText ahead roomAt rooms text length at_ errorPosition toldFrom toldTo isWrong before x3 x1 u1 hq2) (cwV 2 hts gX5_countKeeperWalls_X5_isKeeperWall rfl rfl rfl kdX5_isKeeperWall ⟨Nat.le_of_ble_eq_true rfl, Nat.le_of_ble_eq_true rfl⟩) hK hA hw 0 rfl rfl rfl rfl hl.1 rfl (Nat.le_of_ble_eq_true rfl) dX5_countKeeperWalls_14 ⟨Nat.le_of_ble_eq_true rfl, Nat.le_of_ble_eq_true rfl⟩) (fun H locs hw => ?_)
      refine lv_if_eq (tgt := 24) hx hb dX5_countKeeperWalls_17 (by decide) (fun hc => ?_) (fun hc => ?_)
      · have hF := zif_t hc hF
        refine lv_iconst (v := (0 : Int32)) hx hb dX5_countKeeperWalls_24 (by decide) ?_
        exact wX5_countKeeperWalls_25 C0 hK hA hret (fun b0 b1 b2 => fX5_countKeeperWalls_4  now n b0 b1 b2) ih  _ _ _ _ hF _ _ _ hw (lv_sub hl [0, 1, 3] rfl)
      · have hF := zif_f hc hF
        refine lv_iconst (v := (1 : Int32)) hx hb dX5_countKeeperWalls_20 (by decide) ?_
        refine lv_goto (tgt := 25) hx hb dX5_countKeeperWalls_21 (by decide) ?_
        exact wX5_countKeeperWalls_25 C0 hK hA hret (fun b0 b1 b2 => fX5_countKeeperWalls_4  now n b0 b1 b2) ih  _ _ _ _ hF _ _ _ hw (lv_sub hl [0, 1, 3] rfl)
set_option maxHeartbeats 400000 in
set_option maxRecDepth 100000 in
theorem mX5_countKeeperWalls (l : Launch) (G : va_G) (k : Nat → ClassId) (ad : Nat → Nat) (sz : Nat) (thrown : Int32) (now : Nat → Int32) (saved : Nat → Int32) (hist : Nat → Nat → Int32) (kept : Int32) (reason : Int32) (detail : Int32) (isSaved : Int32) (comes : Nat → Int32) (queue : Nat → Int32) (far : Nat → Int32) (isInText : Int32) (ahead : Nat → Int32) (roomAt : Nat → Int32) (rooms : Int32) (text : Nat → Int32) (length : Int32) (at_ : Int32) (errorPosition : Int32) (toldFrom : Int32) (toldTo : Int32) (isWrong : Int32) (before : Nat → Int32) (p0 : Int32) (o : Int32) (hF : fX5_countKeeperWalls now p0 = some o) : zMI l yX5_countKeeperWalls wsX5_countKeeperWalls rmX5_countKeeperWalls G k (zM ad k thrown now saved hist kept reason detail isSaved comes queue far isInText ahead roomAt rooms text length at_ errorPosition toldFrom toldTo isWrong before) sz [.ref (ad 0), .int p0] o (zM ad k thrown now saved hist kept reason detail isSaved comes queue far isInText ahead roomAt rooms text length at_ errorPosition toldFrom toldTo isWrong before) := by
  refine zof_I (cc := cX5_countKeeperWalls) (nL := 4) (own := RX5) (rt := .int) (by decide) rfl rfl (Nat.le_of_ble_eq_true rfl) ?_
  intro p e s m args below meth c A Q C0 hK hA hret ls hl hw
  have hl : lv_has ls 4 [(0, .ref (ad 0)), (1, .int p0)] := hl
  obtain ⟨hx, hb, hr, hml, hown, hts, hlocks⟩ := id C0
  obtain ⟨H, hH⟩ : ∃ z, z = s.heap := ⟨_, rfl⟩
  rw [← hH] at hw ⊢
  unfold fX5_countKeeperWalls at hF
  refine lv_iconst (v := (0 : Int32)) hx hb dX5_countKeeperWalls_0 (by decide) ?_
  refine lv_istore_n (lv' := [(2, .int (0 : Int32)), (0, .ref (ad 0)), (1, .int p0)]) hx hb dX5_countKeeperWalls_1 rfl hl (by decide) rfl (fun ls hl => ?_)
  refine lv_iconst (v := (0 : Int32)) hx hb dX5_countKeeperWalls_2 (by decide) ?_
  refine lv_istore_n (lv' := [(3, .int (0 : Int32)), (2, .int (0 : Int32)), (0, .ref (ad 0)), (1, .int p0)]) hx hb dX5_countKeeperWalls_3 rfl hl (by decide) rfl (fun ls hl => ?_)
  exact wX5_countKeeperWalls_4 C0 hK hA hret  zFu _ _ _ hF _ _ _ hw (lv_sub hl [2, 3, 1, 0] rfl)

/-! SealedBoardModel.endTurn(IZ)V -/
abbrev rmX5_endTurn : Room := { frames := 7, cells := 0, slots := 0, locals := 159 }
theorem kdX5_endTurn : yX5_endTurn.cls = RX5 ∧ yX5_endTurn.cls ≠ "java/lang/invoke/MethodHandle" ∧ yX5_endTurn.cls ≠ "java/lang/invoke/VarHandle" ∧ (parseMethodDescriptor yX5_endTurn.desc).map (fun d => d.parameters.length) = some 2 := by decide +kernel
theorem inX5_endTurn_X5 : ∀ w ∈ u_ws RX5 TX5 23, w ∈ wsX5_endTurn := by decide +kernel
def fX5_endTurn_25   (now : Nat → Int32) (comes : Nat → Int32) (queue : Nat → Int32) (far : Nat → Int32) (x1 : Int32) : Option ((Nat → Int32) × (Nat → Int32) × (Nat → Int32) × (Nat → Int32)) := (zck (zin (75 : Int32) 76) (some ((upd now (75 : Int32).toNatClampNeg (x1 + (1 : Int32))), comes, queue, far)))
def fX5_endTurn (now : Nat → Int32) (comes : Nat → Int32) (queue : Nat → Int32) (far : Nat → Int32) (p0 : Int32) (p1 : Int32) : Option ((Nat → Int32) × (Nat → Int32) × (Nat → Int32) × (Nat → Int32)) := (zck (zin (74 : Int32) 76) (zck (zin (74 : Int32) 76) (if p1 = 0 then (zbd (fX5_hasMove (upd now (74 : Int32).toNatClampNeg ((now (74 : Int32).toNatClampNeg) + (1 : Int32))) comes queue far ((1 : Int32) - p0)) (fun u3 => (if u3.1 = 0 then (fX5_endTurn_25    (upd now (74 : Int32).toNatClampNeg ((now (74 : Int32).toNatClampNeg) + (1 : Int32))) u3.2.1 u3.2.2.1 u3.2.2.2 p0) else (zck (zin (74 : Int32) 76) (if ((upd now (74 : Int32).toNatClampNeg ((now (74 : Int32).toNatClampNeg) + (1 : Int32))) (74 : Int32).toNatClampNeg) = (60 : Int32) then (zck (zin (75 : Int32) 76) (some ((upd (upd now (74 : Int32).toNatClampNeg ((now (74 : Int32).toNatClampNeg) + (1 : Int32))) (75 : Int32).toNatClampNeg (3 : Int32)), u3.2.1, u3.2.2.1, u3.2.2.2))) else (some ((upd now (74 : Int32).toNatClampNeg ((now (74 : Int32).toNatClampNeg) + (1 : Int32))), u3.2.1, u3.2.2.1, u3.2.2.2))))))) else (fX5_endTurn_25    (upd now (74 : Int32).toNatClampNeg ((now (74 : Int32).toNatClampNeg) + (1 : Int32))) comes queue far p0))))
set_option maxHeartbeats 400000 in
set_option maxRecDepth 100000 in
theorem wX5_endTurn_25 {p : Program} {l : Launch} {e : Env} {s : State} {m : MethodId} {args : Array Value} {below : List Frame} {meth : Method} {c : Code} {A : Nat → Prop} {Q : State → Prop} {G : va_G} {k : Nat → ClassId} {ad : Nat → Nat} {thrown : Int32} {saved : Nat → Int32} {hist : Nat → Nat → Int32} {kept : Int32} {reason : Int32} {detail : Int32} {isSaved : Int32} {isInText : Int32} {ahead : Nat → Int32} {roomAt : Nat → Int32} {rooms : Int32} {text : Nat → Int32} {length : Int32} {at_ : Int32} {errorPosition : Int32} {toldFrom : Int32} {toldTo : Int32} {isWrong : Int32} {before : Nat → Int32} {o : (Nat → Int32) × (Nat → Int32) × (Nat → Int32) × (Nat → Int32)} (C0 : zCx p s m args meth c wsX5_endTurn cX5_endTurn RX5 none 3) (hK : zKK G k A s s.heap) (hA : ∀ q : Nat, s.heap.size ≤ q → A q) (hret : zRV p l e rmX5_endTurn s m args below meth c cX5_endTurn G A 0 0 Q (zM ad k thrown o.1 saved hist kept reason detail isSaved o.2.1 o.2.2.1 o.2.2.2 isInText ahead roomAt rooms text length at_ errorPosition toldFrom toldTo isWrong before))  : ∀ (now : Nat → Int32) (comes : Nat → Int32) (queue : Nat → Int32) (far : Nat → Int32) (x1 : Int32), fX5_endTurn_25   now comes queue far x1 = some o → ∀ (H : Heap) (locs : List Loc) (ls : Array Slot), zWd G A s (zM ad k thrown now saved hist kept reason detail isSaved comes queue far isInText ahead roomAt rooms text length at_ errorPosition toldFrom toldTo isWrong before) H locs → lv_has ls 3 [(0, .ref (ad 0)), (1, .int x1)] → W p l e rmX5_endTurn s m args below meth c H locs 0 0 Q (F0 m 25 ls []) := by
  obtain ⟨hx, hb, hr, hml, hown, hts, hlocks⟩ := id C0
  intro now comes queue far x1 hF H locs ls hw hl
  unfold fX5_endTurn_25 at hF
  refine lv_aload_n hx hb dX5_endTurn_25 rfl (lv_at hl 0 rfl) ?_
  refine va_get (D := G) (ci := 4) (v := .ref (ad 1)) (C := RX5) (T := TX5) (N := 23) hx hb hts inX5_endTurn_X5 hown hK.1 hw.1 0 rfl rfl 1 (by decide) (hts (.fieldLink RX5 9 "SealedBoardModel" "now" "[I") (by decide +kernel)) (fun _ h9 => h9) rfl dX5_endTurn_26 ?_
  refine lv_bipush (v := (75 : Int32)) hx hb dX5_endTurn_29 (by decide) ?_
  refine lv_iload_n hx hb dX5_endTurn_31 rfl (lv_at hl 1 rfl) ?_
  refine lv_iconst (v := (1 : Int32)) hx hb dX5_endTurn_32 (by decide) ?_
  refine lv_iadd hx hb dX5_endTurn_33 ?_
  obtain ⟨hi1, hF⟩ := zck_in hF
  refine va_iast hx hb hK.1 hw.1 hw.2.1 hw.2.2 1 2 rfl rfl hi1 dX5_endTurn_34 (fun H locs hP hD hS => ?_)
  have hw : zWd G A s (zM ad k thrown (upd now (75 : Int32).toNatClampNeg (x1 + (1 : Int32))) saved hist kept reason detail isSaved comes queue far isInText ahead roomAt rooms text length at_ errorPosition toldFrom toldTo isWrong before) H locs := ⟨hP, hD, hS⟩
  refine lv_goto (tgt := 58) hx hb dX5_endTurn_35 (by decide) ?_
  obtain rfl := Option.some.inj hF
  exact hret _ _ _ _  hw dX5_endTurn_58
set_option maxHeartbeats 400000 in
set_option maxRecDepth 100000 in
theorem mX5_endTurn (l : Launch) (G : va_G) (k : Nat → ClassId) (ad : Nat → Nat) (sz : Nat) (thrown : Int32) (now : Nat → Int32) (saved : Nat → Int32) (hist : Nat → Nat → Int32) (kept : Int32) (reason : Int32) (detail : Int32) (isSaved : Int32) (comes : Nat → Int32) (queue : Nat → Int32) (far : Nat → Int32) (isInText : Int32) (ahead : Nat → Int32) (roomAt : Nat → Int32) (rooms : Int32) (text : Nat → Int32) (length : Int32) (at_ : Int32) (errorPosition : Int32) (toldFrom : Int32) (toldTo : Int32) (isWrong : Int32) (before : Nat → Int32) (p0 : Int32) (p1 : Int32) (o : (Nat → Int32) × (Nat → Int32) × (Nat → Int32) × (Nat → Int32)) (hF : fX5_endTurn now comes queue far p0 p1 = some o) : zMV l yX5_endTurn wsX5_endTurn rmX5_endTurn G k (zM ad k thrown now saved hist kept reason detail isSaved comes queue far isInText ahead roomAt rooms text length at_ errorPosition toldFrom toldTo isWrong before) sz [.ref (ad 0), .int p0, .int p1] (zM ad k thrown o.1 saved hist kept reason detail isSaved o.2.1 o.2.2.1 o.2.2.2 isInText ahead roomAt rooms text length at_ errorPosition toldFrom toldTo isWrong before) := by
  refine zof_V (cc := cX5_endTurn) (nL := 3) (own := RX5) (by decide) rfl rfl (Nat.le_of_ble_eq_true rfl) ?_
  intro p e s m args below meth c A Q C0 hK hA hret ls hl hw
  have hl : lv_has ls 3 [(0, .ref (ad 0)), (1, .int p0), (2, .int p1)] := hl
  obtain ⟨hx, hb, hr, hml, hown, hts, hlocks⟩ := id C0
  obtain ⟨H, hH⟩ : ∃ z, z = s.heap := ⟨_, rfl⟩
  rw [← hH] at hw ⊢
  unfold fX5_endTurn at hF
  refine lv_aload_n hx hb dX5_endTurn_0 rfl (lv_at hl 0 rfl) ?_
  refine va_get (D := G) (ci := 4) (v := .ref (ad 1)) (C := RX5) (T := TX5) (N := 23) hx hb hts inX5_endTurn_X5 hown hK.1 hw.1 0 rfl rfl 1 (by decide) (hts (.fieldLink RX5 9 "SealedBoardModel" "now" "[I") (by decide +kernel)) (fun _ h9 => h9) rfl dX5_endTurn_1 ?_
  refine lv_bipush (v := (74 : Int32)) hx hb dX5_endTurn_4 (by decide) ?_
  refine lv_dup2_11 hx hb dX5_endTurn_6 rfl rfl ?_
  obtain ⟨hi1, hF⟩ := zck_in hF
  refine va_iald hx hb hK.1 hw.1 1 2 rfl rfl hi1 dX5_endTurn_7 ?_
  refine lv_iconst (v := (1 : Int32)) hx hb dX5_endTurn_8 (by decide) ?_
  refine lv_iadd hx hb dX5_endTurn_9 ?_
  obtain ⟨hi2, hF⟩ := zck_in hF
  refine va_iast hx hb hK.1 hw.1 hw.2.1 hw.2.2 1 2 rfl rfl hi2 dX5_endTurn_10 (fun H locs hP hD hS => ?_)
  have hw : zWd G A s (zM ad k thrown (upd now (74 : Int32).toNatClampNeg ((now (74 : Int32).toNatClampNeg) + (1 : Int32))) saved hist kept reason detail isSaved comes queue far isInText ahead roomAt rooms text length at_ errorPosition toldFrom toldTo isWrong before) H locs := ⟨hP, hD, hS⟩
  refine lv_iload_n hx hb dX5_endTurn_11 rfl (lv_at hl 2 rfl) ?_
  refine lv_if_ne (tgt := 25) hx hb dX5_endTurn_12 (by decide) (fun hc => ?_) (fun hc => ?_)
  · have hF := zif_f hc hF
    exact wX5_endTurn_25 C0 hK hA hret   _ _ _ _ _ hF _ _ _ hw (lv_sub hl [0, 1] rfl)
  · have hF := zif_t hc hF
    refine lv_aload_n hx hb dX5_endTurn_15 rfl (lv_at hl 0 rfl) ?_
    refine lv_iconst (v := (1 : Int32)) hx hb dX5_endTurn_16 (by decide) ?_
    refine lv_iload_n hx hb dX5_endTurn_17 rfl (lv_at hl 1 rfl) ?_
    refine lv_isub hx hb dX5_endTurn_18 ?_
    obtain ⟨u3, hq4, hF⟩ := zbd_t hF
    refine zgoIw (w' := (zM ad k thrown (upd now (74 : Int32).toNatClampNeg ((now (74 : Int32).toNatClampNeg) + (1 : Int32))) saved hist kept reason detail isSaved u3.2.1 u3.2.2.1 u3.2.2.2 isInText ahead roomAt rooms text length at_ errorPosition toldFrom toldTo isWrong before)) hw hA (zVw (As := [.int ((1 : Int32) - p0)]) (rest := []) ⟨hx, hb, hml, hown, hts⟩ (mX5_hasMove l G k ad H.size thrown (upd now (74 : Int32).toNatClampNeg ((now (74 : Int32).toNatClampNeg) + (1 : Int32))) saved hist kept reason detail isSaved comes queue far isInText ahead roomAt rooms text length at_ errorPosition toldFrom toldTo isWrong before ((1 : Int32) - p0) u3 hq4) (cwV 1 hts gX5_endTurn_X5_hasMove rfl rfl rfl kdX5_hasMove ⟨Nat.le_of_ble_eq_true rfl, Nat.le_of_ble_eq_true rfl⟩) hK hA hw 0 rfl rfl rfl rfl hl.1 rfl (Nat.le_of_ble_eq_true rfl) dX5_endTurn_19 ⟨Nat.le_of_ble_eq_true rfl, Nat.le_of_ble_eq_true rfl⟩) (fun H locs hw => ?_)
    refine lv_if_ne (tgt := 38) hx hb dX5_endTurn_22 (by decide) (fun hc => ?_) (fun hc => ?_)
    · have hF := zif_f hc hF
      refine lv_aload_n hx hb dX5_endTurn_38 rfl (lv_at hl 0 rfl) ?_
      refine va_get (D := G) (ci := 4) (v := .ref (ad 1)) (C := RX5) (T := TX5) (N := 23) hx hb hts inX5_endTurn_X5 hown hK.1 hw.1 0 rfl rfl 1 (by decide) (hts (.fieldLink RX5 9 "SealedBoardModel" "now" "[I") (by decide +kernel)) (fun _ h9 => h9) rfl dX5_endTurn_39 ?_
      refine lv_bipush (v := (74 : Int32)) hx hb dX5_endTurn_42 (by decide) ?_
      obtain ⟨hi5, hF⟩ := zck_in hF
      refine va_iald hx hb hK.1 hw.1 1 2 rfl rfl hi5 dX5_endTurn_44 ?_
      refine lv_bipush (v := (60 : Int32)) hx hb dX5_endTurn_45 (by decide) ?_
      refine lv_icmp_ne (tgt := 58) hx hb dX5_endTurn_47 (by decide) (fun hc => ?_) (fun hc => ?_)
      · have hF := zif_f hc hF
        obtain rfl := Option.some.inj hF
        exact hret _ _ _ _  hw dX5_endTurn_58
      · have hF := zif_t hc hF
        refine lv_aload_n hx hb dX5_endTurn_50 rfl (lv_at hl 0 rfl) ?_
        refine va_get (D := G) (ci := 4) (v := .ref (ad 1)) (C := RX5) (T := TX5) (N := 23) hx hb hts inX5_endTurn_X5 hown hK.1 hw.1 0 rfl rfl 1 (by decide) (hts (.fieldLink RX5 9 "SealedBoardModel" "now" "[I") (by decide +kernel)) (fun _ h9 => h9) rfl dX5_endTurn_51 ?_
        refine lv_bipush (v := (75 : Int32)) hx hb dX5_endTurn_54 (by decide) ?_
        refine lv_iconst (v := (3 : Int32)) hx hb dX5_endTurn_56 (by decide) ?_
        obtain ⟨hi6, hF⟩ := zck_in hF
        refine va_iast hx hb hK.1 hw.1 hw.2.1 hw.2.2 1 2 rfl rfl hi6 dX5_endTurn_57 (fun H locs hP hD hS => ?_)
        have hw : zWd G A s (zM ad k thrown (upd (upd now (74 : Int32).toNatClampNeg ((now (74 : Int32).toNatClampNeg) + (1 : Int32))) (75 : Int32).toNatClampNeg (3 : Int32)) saved hist kept reason detail isSaved u3.2.1 u3.2.2.1 u3.2.2.2 isInText ahead roomAt rooms text length at_ errorPosition toldFrom toldTo isWrong before) H locs := ⟨hP, hD, hS⟩
        obtain rfl := Option.some.inj hF
        exact hret _ _ _ _  hw dX5_endTurn_58
    · have hF := zif_t hc hF
      exact wX5_endTurn_25 C0 hK hA hret   _ _ _ _ _ hF _ _ _ hw (lv_sub hl [0, 1] rfl)

/-! SealedBoardModel.isOver()Z -/
abbrev rmX5_isOver : Room := { frames := 0, cells := 0, slots := 0, locals := 0 }
theorem kdX5_isOver : yX5_isOver.cls = RX5 ∧ yX5_isOver.cls ≠ "java/lang/invoke/MethodHandle" ∧ yX5_isOver.cls ≠ "java/lang/invoke/VarHandle" ∧ (parseMethodDescriptor yX5_isOver.desc).map (fun d => d.parameters.length) = some 0 := by decide +kernel
theorem inX5_isOver_X5 : ∀ w ∈ u_ws RX5 TX5 23, w ∈ wsX5_isOver := by decide +kernel
def fX5_isOver (now : Nat → Int32) : Option (Int32) := (zck (zin (75 : Int32) 76) (if (now (75 : Int32).toNatClampNeg) ≤ 0 then (some ((0 : Int32))) else (some ((1 : Int32)))))
set_option maxHeartbeats 400000 in
set_option maxRecDepth 100000 in
theorem mX5_isOver (l : Launch) (G : va_G) (k : Nat → ClassId) (ad : Nat → Nat) (sz : Nat) (thrown : Int32) (now : Nat → Int32) (saved : Nat → Int32) (hist : Nat → Nat → Int32) (kept : Int32) (reason : Int32) (detail : Int32) (isSaved : Int32) (comes : Nat → Int32) (queue : Nat → Int32) (far : Nat → Int32) (isInText : Int32) (ahead : Nat → Int32) (roomAt : Nat → Int32) (rooms : Int32) (text : Nat → Int32) (length : Int32) (at_ : Int32) (errorPosition : Int32) (toldFrom : Int32) (toldTo : Int32) (isWrong : Int32) (before : Nat → Int32)  (o : Int32) (hF : fX5_isOver now = some o) : zMI l yX5_isOver wsX5_isOver rmX5_isOver G k (zM ad k thrown now saved hist kept reason detail isSaved comes queue far isInText ahead roomAt rooms text length at_ errorPosition toldFrom toldTo isWrong before) sz [.ref (ad 0)] o (zM ad k thrown now saved hist kept reason detail isSaved comes queue far isInText ahead roomAt rooms text length at_ errorPosition toldFrom toldTo isWrong before) := by
  refine zof_I (cc := cX5_isOver) (nL := 1) (own := RX5) (rt := .boolean) (by decide) rfl rfl (Nat.le_of_ble_eq_true rfl) ?_
  intro p e s m args below meth c A Q C0 hK hA hret ls hl hw
  have hl : lv_has ls 1 [(0, .ref (ad 0))] := hl
  obtain ⟨hx, hb, hr, hml, hown, hts, hlocks⟩ := id C0
  obtain ⟨H, hH⟩ : ∃ z, z = s.heap := ⟨_, rfl⟩
  rw [← hH] at hw ⊢
  unfold fX5_isOver at hF
  refine lv_aload_n hx hb dX5_isOver_0 rfl (lv_at hl 0 rfl) ?_
  refine va_get (D := G) (ci := 4) (v := .ref (ad 1)) (C := RX5) (T := TX5) (N := 23) hx hb hts inX5_isOver_X5 hown hK.1 hw.1 0 rfl rfl 1 (by decide) (hts (.fieldLink RX5 9 "SealedBoardModel" "now" "[I") (by decide +kernel)) (fun _ h9 => h9) rfl dX5_isOver_1 ?_
  refine lv_bipush (v := (75 : Int32)) hx hb dX5_isOver_4 (by decide) ?_
  obtain ⟨hi1, hF⟩ := zck_in hF
  refine va_iald hx hb hK.1 hw.1 1 2 rfl rfl hi1 dX5_isOver_6 ?_
  refine lv_if_le (tgt := 14) hx hb dX5_isOver_7 (by decide) (fun hc => ?_) (fun hc => ?_)
  · have hF := zif_t hc hF
    refine lv_iconst (v := (0 : Int32)) hx hb dX5_isOver_14 (by decide) ?_
    obtain rfl := Option.some.inj hF
    exact hret _ _ _ _ (zbo_n (x := (0 : Int32)) (by decide)) hw dX5_isOver_15
  · have hF := zif_f hc hF
    refine lv_iconst (v := (1 : Int32)) hx hb dX5_isOver_10 (by decide) ?_
    refine lv_goto (tgt := 15) hx hb dX5_isOver_11 (by decide) ?_
    obtain rfl := Option.some.inj hF
    exact hret _ _ _ _ (zbo_n (x := (1 : Int32)) (by decide)) hw dX5_isOver_15

/-! SealedBoardModel.isMoveRefused(II)Z -/
abbrev rmX5_isMoveRefused : Room := { frames := 6, cells := 0, slots := 0, locals := 135 }
theorem kdX5_isMoveRefused : yX5_isMoveRefused.cls = RX5 ∧ yX5_isMoveRefused.cls ≠ "java/lang/invoke/MethodHandle" ∧ yX5_isMoveRefused.cls ≠ "java/lang/invoke/VarHandle" ∧ (parseMethodDescriptor yX5_isMoveRefused.desc).map (fun d => d.parameters.length) = some 2 := by decide +kernel
theorem inX5_isMoveRefused_X5 : ∀ w ∈ u_ws RX5 TX5 23, w ∈ wsX5_isMoveRefused := by decide +kernel
def fX5_isMoveRefused_64  (now : Nat → Int32) (reason : Int32) (detail : Int32) (comes : Nat → Int32) (queue : Nat → Int32) (far : Nat → Int32) (x2 : Int32) (s0 : Int32) : Option (Int32 × Int32 × Int32 × (Nat → Int32) × (Nat → Int32) × (Nat → Int32)) := (zbd (fX5_refuse reason detail s0 (3 : Int32) x2) (fun u1 => (if u1.1 = 0 then (some ((0 : Int32), u1.2.1, u1.2.2, comes, queue, far)) else (some ((1 : Int32), u1.2.1, u1.2.2, comes, queue, far)))))
def fX5_isMoveRefused_41  (now : Nat → Int32) (reason : Int32) (detail : Int32) (comes : Nat → Int32) (queue : Nat → Int32) (far : Nat → Int32) (x1 : Int32) (x2 : Int32) (s0 : Int32) : Option (Int32 × Int32 × Int32 × (Nat → Int32) × (Nat → Int32) × (Nat → Int32)) := (zbd (fX5_refuse reason detail s0 (2 : Int32) x1) (fun u1 => (if u1.1 = 0 then (zbd (fX5_can now comes queue far x1 x2) (fun u3 => (if u3.1 = 0 then (fX5_isMoveRefused_64  now  u1.2.1 u1.2.2 u3.2.1 u3.2.2.1 u3.2.2.2 x2 (1 : Int32)) else (fX5_isMoveRefused_64  now  u1.2.1 u1.2.2 u3.2.1 u3.2.2.1 u3.2.2.2 x2 (0 : Int32))))) else (some ((1 : Int32), u1.2.1, u1.2.2, comes, queue, far)))))
def fX5_isMoveRefused (now : Nat → Int32) (reason : Int32) (detail : Int32) (comes : Nat → Int32) (queue : Nat → Int32) (far : Nat → Int32) (p0 : Int32) (p1 : Int32) : Option (Int32 × Int32 × Int32 × (Nat → Int32) × (Nat → Int32) × (Nat → Int32)) := (zbd (fX5_isOver now) (fun u1 => (zck (zin (74 : Int32) 76) (zbd (fX5_refuse reason detail u1 (1 : Int32) (now (74 : Int32).toNatClampNeg)) (fun u4 => (if u4.1 = 0 then (zck (zin p0 76) (zbd (fX5_sideOf (now p0.toNatClampNeg)) (fun u7 => (zbd (fX5_turn now) (fun u9 => (if u7 = u9 then (fX5_isMoveRefused_41  now  u4.2.1 u4.2.2 comes queue far p0 p1 (0 : Int32)) else (fX5_isMoveRefused_41  now  u4.2.1 u4.2.2 comes queue far p0 p1 (1 : Int32)))))))) else (some ((1 : Int32), u4.2.1, u4.2.2, comes, queue, far))))))))
set_option maxHeartbeats 400000 in
set_option maxRecDepth 100000 in
theorem wX5_isMoveRefused_64 {p : Program} {l : Launch} {e : Env} {s : State} {m : MethodId} {args : Array Value} {below : List Frame} {meth : Method} {c : Code} {A : Nat → Prop} {Q : State → Prop} {G : va_G} {k : Nat → ClassId} {ad : Nat → Nat} {thrown : Int32} {now : Nat → Int32} {saved : Nat → Int32} {hist : Nat → Nat → Int32} {kept : Int32} {isSaved : Int32} {isInText : Int32} {ahead : Nat → Int32} {roomAt : Nat → Int32} {rooms : Int32} {text : Nat → Int32} {length : Int32} {at_ : Int32} {errorPosition : Int32} {toldFrom : Int32} {toldTo : Int32} {isWrong : Int32} {before : Nat → Int32} {o : Int32 × Int32 × Int32 × (Nat → Int32) × (Nat → Int32) × (Nat → Int32)} (C0 : zCx p s m args meth c wsX5_isMoveRefused cX5_isMoveRefused RX5 (some .boolean) 3) (hK : zKK G k A s s.heap) (hA : ∀ q : Nat, s.heap.size ≤ q → A q) (hret : zRI p l e rmX5_isMoveRefused s m args below meth c cX5_isMoveRefused G A 0 0 Q .boolean (zM ad k thrown now saved hist kept o.2.1 o.2.2.1 isSaved o.2.2.2.1 o.2.2.2.2.1 o.2.2.2.2.2 isInText ahead roomAt rooms text length at_ errorPosition toldFrom toldTo isWrong before) o.1)  : ∀ (reason : Int32) (detail : Int32) (comes : Nat → Int32) (queue : Nat → Int32) (far : Nat → Int32) (x2 : Int32) (s0 : Int32), fX5_isMoveRefused_64  now reason detail comes queue far x2 s0 = some o → ∀ (H : Heap) (locs : List Loc) (ls : Array Slot), zWd G A s (zM ad k thrown now saved hist kept reason detail isSaved comes queue far isInText ahead roomAt rooms text length at_ errorPosition toldFrom toldTo isWrong before) H locs → lv_has ls 3 [(2, .int x2)] → W p l e rmX5_isMoveRefused s m args below meth c H locs 0 0 Q (F0 m 64 ls [.int s0, .ref (ad 0)]) := by
  obtain ⟨hx, hb, hr, hml, hown, hts, hlocks⟩ := id C0
  intro reason detail comes queue far x2 s0 hF H locs ls hw hl
  unfold fX5_isMoveRefused_64 at hF
  refine lv_iconst (v := (3 : Int32)) hx hb dX5_isMoveRefused_64 (by decide) ?_
  refine lv_iload_n hx hb dX5_isMoveRefused_65 rfl (lv_at hl 0 rfl) ?_
  obtain ⟨u1, hq2, hF⟩ := zbd_t hF
  refine zgoIw (w' := (zM ad k thrown now saved hist kept u1.2.1 u1.2.2 isSaved comes queue far isInText ahead roomAt rooms text length at_ errorPosition toldFrom toldTo isWrong before)) hw hA (zVw (As := [.int s0, .int (3 : Int32), .int x2]) (rest := []) ⟨hx, hb, hml, hown, hts⟩ (mX5_refuse l G k ad H.size thrown now saved hist kept reason detail isSaved comes queue far isInText ahead roomAt rooms text length at_ errorPosition toldFrom toldTo isWrong before s0 (3 : Int32) x2 u1 hq2) (cwV 3 hts gX5_isMoveRefused_X5_refuse rfl rfl rfl kdX5_refuse ⟨Nat.le_of_ble_eq_true rfl, Nat.le_of_ble_eq_true rfl⟩) hK hA hw 0 rfl rfl rfl rfl hl.1 rfl (Nat.le_of_ble_eq_true rfl) dX5_isMoveRefused_66 ⟨Nat.le_of_ble_eq_true rfl, Nat.le_of_ble_eq_true rfl⟩) (fun H locs hw => ?_)
  refine lv_if_eq (tgt := 76) hx hb dX5_isMoveRefused_69 (by decide) (fun hc => ?_) (fun hc => ?_)
  · have hF := zif_t hc hF
    refine lv_iconst (v := (0 : Int32)) hx hb dX5_isMoveRefused_76 (by decide) ?_
    obtain rfl := Option.some.inj hF
    exact hret _ _ _ _ (zbo_n (x := (0 : Int32)) (by decide)) hw dX5_isMoveRefused_77
  · have hF := zif_f hc hF
    refine lv_iconst (v := (1 : Int32)) hx hb dX5_isMoveRefused_72 (by decide) ?_
    refine lv_goto (tgt := 77) hx hb dX5_isMoveRefused_73 (by decide) ?_
    obtain rfl := Option.some.inj hF
    exact hret _ _ _ _ (zbo_n (x := (1 : Int32)) (by decide)) hw dX5_isMoveRefused_77
set_option maxHeartbeats 400000 in
set_option maxRecDepth 100000 in
theorem wX5_isMoveRefused_41 {p : Program} {l : Launch} {e : Env} {s : State} {m : MethodId} {args : Array Value} {below : List Frame} {meth : Method} {c : Code} {A : Nat → Prop} {Q : State → Prop} {G : va_G} {k : Nat → ClassId} {ad : Nat → Nat} {thrown : Int32} {now : Nat → Int32} {saved : Nat → Int32} {hist : Nat → Nat → Int32} {kept : Int32} {isSaved : Int32} {isInText : Int32} {ahead : Nat → Int32} {roomAt : Nat → Int32} {rooms : Int32} {text : Nat → Int32} {length : Int32} {at_ : Int32} {errorPosition : Int32} {toldFrom : Int32} {toldTo : Int32} {isWrong : Int32} {before : Nat → Int32} {o : Int32 × Int32 × Int32 × (Nat → Int32) × (Nat → Int32) × (Nat → Int32)} (C0 : zCx p s m args meth c wsX5_isMoveRefused cX5_isMoveRefused RX5 (some .boolean) 3) (hK : zKK G k A s s.heap) (hA : ∀ q : Nat, s.heap.size ≤ q → A q) (hret : zRI p l e rmX5_isMoveRefused s m args below meth c cX5_isMoveRefused G A 0 0 Q .boolean (zM ad k thrown now saved hist kept o.2.1 o.2.2.1 isSaved o.2.2.2.1 o.2.2.2.2.1 o.2.2.2.2.2 isInText ahead roomAt rooms text length at_ errorPosition toldFrom toldTo isWrong before) o.1)  : ∀ (reason : Int32) (detail : Int32) (comes : Nat → Int32) (queue : Nat → Int32) (far : Nat → Int32) (x1 : Int32) (x2 : Int32) (s0 : Int32), fX5_isMoveRefused_41  now reason detail comes queue far x1 x2 s0 = some o → ∀ (H : Heap) (locs : List Loc) (ls : Array Slot), zWd G A s (zM ad k thrown now saved hist kept reason detail isSaved comes queue far isInText ahead roomAt rooms text length at_ errorPosition toldFrom toldTo isWrong before) H locs → lv_has ls 3 [(0, .ref (ad 0)), (1, .int x1), (2, .int x2)] → W p l e rmX5_isMoveRefused s m args below meth c H locs 0 0 Q (F0 m 41 ls [.int s0, .ref (ad 0)]) := by
  obtain ⟨hx, hb, hr, hml, hown, hts, hlocks⟩ := id C0
  intro reason detail comes queue far x1 x2 s0 hF H locs ls hw hl
  unfold fX5_isMoveRefused_41 at hF
  refine lv_iconst (v := (2 : Int32)) hx hb dX5_isMoveRefused_41 (by decide) ?_
  refine lv_iload_n hx hb dX5_isMoveRefused_42 rfl (lv_at hl 1 rfl) ?_
  obtain ⟨u1, hq2, hF⟩ := zbd_t hF
  refine zgoIw (w' := (zM ad k thrown now saved hist kept u1.2.1 u1.2.2 isSaved comes queue far isInText ahead roomAt rooms text length at_ errorPosition toldFrom toldTo isWrong before)) hw hA (zVw (As := [.int s0, .int (2 : Int32), .int x1]) (rest := []) ⟨hx, hb, hml, hown, hts⟩ (mX5_refuse l G k ad H.size thrown now saved hist kept reason detail isSaved comes queue far isInText ahead roomAt rooms text length at_ errorPosition toldFrom toldTo isWrong before s0 (2 : Int32) x1 u1 hq2) (cwV 3 hts gX5_isMoveRefused_X5_refuse rfl rfl rfl kdX5_refuse ⟨Nat.le_of_ble_eq_true rfl, Nat.le_of_ble_eq_true rfl⟩) hK hA hw 0 rfl rfl rfl rfl hl.1 rfl (Nat.le_of_ble_eq_true rfl) dX5_isMoveRefused_43 ⟨Nat.le_of_ble_eq_true rfl, Nat.le_of_ble_eq_true rfl⟩) (fun H locs hw => ?_)
  refine lv_if_ne (tgt := 72) hx hb dX5_isMoveRefused_46 (by decide) (fun hc => ?_) (fun hc => ?_)
  · have hF := zif_f hc hF
    refine lv_iconst (v := (1 : Int32)) hx hb dX5_isMoveRefused_72 (by decide) ?_
    refine lv_goto (tgt := 77) hx hb dX5_isMoveRefused_73 (by decide) ?_
    obtain rfl := Option.some.inj hF
    exact hret _ _ _ _ (zbo_n (x := (1 : Int32)) (by decide)) hw dX5_isMoveRefused_77
  · have hF := zif_t hc hF
    refine lv_aload_n hx hb dX5_isMoveRefused_49 rfl (lv_at hl 0 rfl) ?_
    refine lv_aload_n hx hb dX5_isMoveRefused_50 rfl (lv_at hl 0 rfl) ?_
    refine lv_iload_n hx hb dX5_isMoveRefused_51 rfl (lv_at hl 1 rfl) ?_
    refine lv_iload_n hx hb dX5_isMoveRefused_52 rfl (lv_at hl 2 rfl) ?_
    obtain ⟨u3, hq4, hF⟩ := zbd_t hF
    refine zgoIw (w' := (zM ad k thrown now saved hist kept u1.2.1 u1.2.2 isSaved u3.2.1 u3.2.2.1 u3.2.2.2 isInText ahead roomAt rooms text length at_ errorPosition toldFrom toldTo isWrong before)) hw hA (zVw (As := [.int x1, .int x2]) (rest := [.ref (ad 0)]) ⟨hx, hb, hml, hown, hts⟩ (mX5_can l G k ad H.size thrown now saved hist kept u1.2.1 u1.2.2 isSaved comes queue far isInText ahead roomAt rooms text length at_ errorPosition toldFrom toldTo isWrong before x1 x2 u3 hq4) (cwV 2 hts gX5_isMoveRefused_X5_can rfl rfl rfl kdX5_can ⟨Nat.le_of_ble_eq_true rfl, Nat.le_of_ble_eq_true rfl⟩) hK hA hw 0 rfl rfl rfl rfl hl.1 rfl (Nat.le_of_ble_eq_true rfl) dX5_isMoveRefused_53 ⟨Nat.le_of_ble_eq_true rfl, Nat.le_of_ble_eq_true rfl⟩) (fun H locs hw => ?_)
    refine lv_if_ne (tgt := 63) hx hb dX5_isMoveRefused_56 (by decide) (fun hc => ?_) (fun hc => ?_)
    · have hF := zif_f hc hF
      refine lv_iconst (v := (0 : Int32)) hx hb dX5_isMoveRefused_63 (by decide) ?_
      exact wX5_isMoveRefused_64 C0 hK hA hret   _ _ _ _ _ _ _ hF _ _ _ hw (lv_sub hl [2] rfl)
    · have hF := zif_t hc hF
      refine lv_iconst (v := (1 : Int32)) hx hb dX5_isMoveRefused_59 (by decide) ?_
      refine lv_goto (tgt := 64) hx hb dX5_isMoveRefused_60 (by decide) ?_
      exact wX5_isMoveRefused_64 C0 hK hA hret   _ _ _ _ _ _ _ hF _ _ _ hw (lv_sub hl [2] rfl)
set_option maxHeartbeats 400000 in
set_option maxRecDepth 100000 in
theorem mX5_isMoveRefused (l : Launch) (G : va_G) (k : Nat → ClassId) (ad : Nat → Nat) (sz : Nat) (thrown : Int32) (now : Nat → Int32) (saved : Nat → Int32) (hist : Nat → Nat → Int32) (kept : Int32) (reason : Int32) (detail : Int32) (isSaved : Int32) (comes : Nat → Int32) (queue : Nat → Int32) (far : Nat → Int32) (isInText : Int32) (ahead : Nat → Int32) (roomAt : Nat → Int32) (rooms : Int32) (text : Nat → Int32) (length : Int32) (at_ : Int32) (errorPosition : Int32) (toldFrom : Int32) (toldTo : Int32) (isWrong : Int32) (before : Nat → Int32) (p0 : Int32) (p1 : Int32) (o : Int32 × Int32 × Int32 × (Nat → Int32) × (Nat → Int32) × (Nat → Int32)) (hF : fX5_isMoveRefused now reason detail comes queue far p0 p1 = some o) : zMI l yX5_isMoveRefused wsX5_isMoveRefused rmX5_isMoveRefused G k (zM ad k thrown now saved hist kept reason detail isSaved comes queue far isInText ahead roomAt rooms text length at_ errorPosition toldFrom toldTo isWrong before) sz [.ref (ad 0), .int p0, .int p1] o.1 (zM ad k thrown now saved hist kept o.2.1 o.2.2.1 isSaved o.2.2.2.1 o.2.2.2.2.1 o.2.2.2.2.2 isInText ahead roomAt rooms text length at_ errorPosition toldFrom toldTo isWrong before) := by
  refine zof_I (cc := cX5_isMoveRefused) (nL := 3) (own := RX5) (rt := .boolean) (by decide) rfl rfl (Nat.le_of_ble_eq_true rfl) ?_
  intro p e s m args below meth c A Q C0 hK hA hret ls hl hw
  have hl : lv_has ls 3 [(0, .ref (ad 0)), (1, .int p0), (2, .int p1)] := hl
  obtain ⟨hx, hb, hr, hml, hown, hts, hlocks⟩ := id C0
  obtain ⟨H, hH⟩ : ∃ z, z = s.heap := ⟨_, rfl⟩
  rw [← hH] at hw ⊢
  unfold fX5_isMoveRefused at hF
  refine lv_aload_n hx hb dX5_isMoveRefused_0 rfl (lv_at hl 0 rfl) ?_
  refine lv_aload_n hx hb dX5_isMoveRefused_1 rfl (lv_at hl 0 rfl) ?_
  obtain ⟨u1, hq2, hF⟩ := zbd_t hF
  refine zgoIw (w' := (zM ad k thrown now saved hist kept reason detail isSaved comes queue far isInText ahead roomAt rooms text length at_ errorPosition toldFrom toldTo isWrong before)) hw hA (zVw (As := []) (rest := [.ref (ad 0)]) ⟨hx, hb, hml, hown, hts⟩ (mX5_isOver l G k ad H.size thrown now saved hist kept reason detail isSaved comes queue far isInText ahead roomAt rooms text length at_ errorPosition toldFrom toldTo isWrong before  u1 hq2) (cwV 0 hts gX5_isMoveRefused_X5_isOver rfl rfl rfl kdX5_isOver ⟨Nat.le_of_ble_eq_true rfl, Nat.le_of_ble_eq_true rfl⟩) hK hA hw 0 rfl rfl rfl rfl hl.1 rfl (Nat.le_of_ble_eq_true rfl) dX5_isMoveRefused_2 ⟨Nat.le_of_ble_eq_true rfl, Nat.le_of_ble_eq_true rfl⟩) (fun H locs hw => ?_)
  refine lv_iconst (v := (1 : Int32)) hx hb dX5_isMoveRefused_5 (by decide) ?_
  refine lv_aload_n hx hb dX5_isMoveRefused_6 rfl (lv_at hl 0 rfl) ?_
  refine va_get (D := G) (ci := 4) (v := .ref (ad 1)) (C := RX5) (T := TX5) (N := 23) hx hb hts inX5_isMoveRefused_X5 hown hK.1 hw.1 0 rfl rfl 1 (by decide) (hts (.fieldLink RX5 9 "SealedBoardModel" "now" "[I") (by decide +kernel)) (fun _ h9 => h9) rfl dX5_isMoveRefused_7 ?_
  refine lv_bipush (v := (74 : Int32)) hx hb dX5_isMoveRefused_10 (by decide) ?_
  obtain ⟨hi3, hF⟩ := zck_in hF
  refine va_iald hx hb hK.1 hw.1 1 2 rfl rfl hi3 dX5_isMoveRefused_12 ?_
  obtain ⟨u4, hq5, hF⟩ := zbd_t hF
  refine zgoIw (w' := (zM ad k thrown now saved hist kept u4.2.1 u4.2.2 isSaved comes queue far isInText ahead roomAt rooms text length at_ errorPosition toldFrom toldTo isWrong before)) hw hA (zVw (As := [.int u1, .int (1 : Int32), .int (now (74 : Int32).toNatClampNeg)]) (rest := []) ⟨hx, hb, hml, hown, hts⟩ (mX5_refuse l G k ad H.size thrown now saved hist kept reason detail isSaved comes queue far isInText ahead roomAt rooms text length at_ errorPosition toldFrom toldTo isWrong before u1 (1 : Int32) (now (74 : Int32).toNatClampNeg) u4 hq5) (cwV 3 hts gX5_isMoveRefused_X5_refuse rfl rfl rfl kdX5_refuse ⟨Nat.le_of_ble_eq_true rfl, Nat.le_of_ble_eq_true rfl⟩) hK hA hw 0 rfl rfl rfl rfl hl.1 rfl (Nat.le_of_ble_eq_true rfl) dX5_isMoveRefused_13 ⟨Nat.le_of_ble_eq_true rfl, Nat.le_of_ble_eq_true rfl⟩) (fun H locs hw => ?_)
  refine lv_if_ne (tgt := 72) hx hb dX5_isMoveRefused_16 (by decide) (fun hc => ?_) (fun hc => ?_)
  · have hF := zif_f hc hF
    refine lv_iconst (v := (1 : Int32)) hx hb dX5_isMoveRefused_72 (by decide) ?_
    refine lv_goto (tgt := 77) hx hb dX5_isMoveRefused_73 (by decide) ?_
    obtain rfl := Option.some.inj hF
    exact hret _ _ _ _ (zbo_n (x := (1 : Int32)) (by decide)) hw dX5_isMoveRefused_77
  · have hF := zif_t hc hF
    refine lv_aload_n hx hb dX5_isMoveRefused_19 rfl (lv_at hl 0 rfl) ?_
    refine lv_aload_n hx hb dX5_isMoveRefused_20 rfl (lv_at hl 0 rfl) ?_
    refine va_get (D := G) (ci := 4) (v := .ref (ad 1)) (C := RX5) (T := TX5) (N := 23) hx hb hts inX5_isMoveRefused_X5 hown hK.1 hw.1 0 rfl rfl 1 (by decide) (hts (.fieldLink RX5 9 "SealedBoardModel" "now" "[I") (by decide +kernel)) (fun _ h9 => h9) rfl dX5_isMoveRefused_21 ?_
    refine lv_iload_n hx hb dX5_isMoveRefused_24 rfl (lv_at hl 1 rfl) ?_
    obtain ⟨hi6, hF⟩ := zck_in hF
    refine va_iald hx hb hK.1 hw.1 1 2 rfl rfl hi6 dX5_isMoveRefused_25 ?_
    obtain ⟨u7, hq8, hF⟩ := zbd_t hF
    refine zgoI (w' := (zM ad k thrown now saved hist kept u4.2.1 u4.2.2 isSaved comes queue far isInText ahead roomAt rooms text length at_ errorPosition toldFrom toldTo isWrong before)) hw hA [] rfl (zS (As := [.int (now p0.toNatClampNeg)]) (rest := [.ref (ad 0)]) ⟨hx, hb, hml, hown, hts⟩ (mX5_sideOf l G k  H.size  (now p0.toNatClampNeg) u7 hq8) (va_cwS 1 hts gX5_isMoveRefused_X5_sideOf rfl rfl rfl kdX5_sideOf ⟨Nat.le_of_ble_eq_true rfl, Nat.le_of_ble_eq_true rfl⟩) hK hA hw [] rfl (by decide) rfl hl.1 rfl (Nat.le_of_ble_eq_true rfl) dX5_isMoveRefused_26 ⟨Nat.le_of_ble_eq_true rfl, Nat.le_of_ble_eq_true rfl⟩) rfl rfl rfl (fun H locs hw => ?_)
    refine lv_aload_n hx hb dX5_isMoveRefused_29 rfl (lv_at hl 0 rfl) ?_
    obtain ⟨u9, hq10, hF⟩ := zbd_t hF
    refine zgoIw (w' := (zM ad k thrown now saved hist kept u4.2.1 u4.2.2 isSaved comes queue far isInText ahead roomAt rooms text length at_ errorPosition toldFrom toldTo isWrong before)) hw hA (zVw (As := []) (rest := [.int u7, .ref (ad 0)]) ⟨hx, hb, hml, hown, hts⟩ (mX5_turn l G k ad H.size thrown now saved hist kept u4.2.1 u4.2.2 isSaved comes queue far isInText ahead roomAt rooms text length at_ errorPosition toldFrom toldTo isWrong before  u9 hq10) (cwV 0 hts gX5_isMoveRefused_X5_turn rfl rfl rfl kdX5_turn ⟨Nat.le_of_ble_eq_true rfl, Nat.le_of_ble_eq_true rfl⟩) hK hA hw 0 rfl rfl rfl rfl hl.1 rfl (Nat.le_of_ble_eq_true rfl) dX5_isMoveRefused_30 ⟨Nat.le_of_ble_eq_true rfl, Nat.le_of_ble_eq_true rfl⟩) (fun H locs hw => ?_)
    refine lv_icmp_eq (tgt := 40) hx hb dX5_isMoveRefused_33 (by decide) (fun hc => ?_) (fun hc => ?_)
    · have hF := zif_t hc hF
      refine lv_iconst (v := (0 : Int32)) hx hb dX5_isMoveRefused_40 (by decide) ?_
      exact wX5_isMoveRefused_41 C0 hK hA hret   _ _ _ _ _ _ _ _ hF _ _ _ hw (lv_sub hl [0, 1, 2] rfl)
    · have hF := zif_f hc hF
      refine lv_iconst (v := (1 : Int32)) hx hb dX5_isMoveRefused_36 (by decide) ?_
      refine lv_goto (tgt := 41) hx hb dX5_isMoveRefused_37 (by decide) ?_
      exact wX5_isMoveRefused_41 C0 hK hA hret   _ _ _ _ _ _ _ _ hF _ _ _ hw (lv_sub hl [0, 1, 2] rfl)

/-! SealedBoardModel.doMove(II)I -/
abbrev rmX5_doMove : Room := { frames := 8, cells := 0, slots := 0, locals := 181 }
theorem kdX5_doMove : yX5_doMove.cls = RX5 ∧ yX5_doMove.cls ≠ "java/lang/invoke/MethodHandle" ∧ yX5_doMove.cls ≠ "java/lang/invoke/VarHandle" ∧ (parseMethodDescriptor yX5_doMove.desc).map (fun d => d.parameters.length) = some 2 := by decide +kernel
theorem inX5_doMove_X5 : ∀ w ∈ u_ws RX5 TX5 23, w ∈ wsX5_doMove := by decide +kernel
def fX5_doMove_57   (now : Nat → Int32) (comes : Nat → Int32) (queue : Nat → Int32) (far : Nat → Int32) (x5 : Int32) (s0 : Int32) (s1 : Int32) : Option (Int32 × (Nat → Int32) × (Nat → Int32) × (Nat → Int32) × (Nat → Int32)) := (zbd (fX5_endTurn now comes queue far s1 s0) (fun u1 => (some (x5, u1.1, u1.2.1, u1.2.2.1, u1.2.2.2))))
def fX5_doMove (now : Nat → Int32) (comes : Nat → Int32) (queue : Nat → Int32) (far : Nat → Int32) (p0 : Int32) (p1 : Int32) : Option (Int32 × (Nat → Int32) × (Nat → Int32) × (Nat → Int32) × (Nat → Int32)) := (zbd (fX5_turn now) (fun u1 => (zbd (fX5_countKeeperWalls now ((1 : Int32) - u1)) (fun u3 => (zbd (fX5_go now p0 p1) (fun u5 => (zbn ((72 : Int32) + u1) (fun a7 => (zck (zin a7 76) (zck (zin a7 76) (zbd (fX5_countKeeperWalls (upd u5.2 a7.toNatClampNeg ((u5.2 a7.toNatClampNeg) + ((2 : Int32) * u5.1))) ((1 : Int32) - u1)) (fun u10 => (if u10 ≤ u3 then (fX5_doMove_57    (upd u5.2 a7.toNatClampNeg ((u5.2 a7.toNatClampNeg) + ((2 : Int32) * u5.1))) comes queue far u5.1 (0 : Int32) u1) else (fX5_doMove_57    (upd u5.2 a7.toNatClampNeg ((u5.2 a7.toNatClampNeg) + ((2 : Int32) * u5.1))) comes queue far u5.1 (1 : Int32) u1))))))))))))))
set_option maxHeartbeats 400000 in
set_option maxRecDepth 100000 in
theorem wX5_doMove_57 {p : Program} {l : Launch} {e : Env} {s : State} {m : MethodId} {args : Array Value} {below : List Frame} {meth : Method} {c : Code} {A : Nat → Prop} {Q : State → Prop} {G : va_G} {k : Nat → ClassId} {ad : Nat → Nat} {thrown : Int32} {saved : Nat → Int32} {hist : Nat → Nat → Int32} {kept : Int32} {reason : Int32} {detail : Int32} {isSaved : Int32} {isInText : Int32} {ahead : Nat → Int32} {roomAt : Nat → Int32} {rooms : Int32} {text : Nat → Int32} {length : Int32} {at_ : Int32} {errorPosition : Int32} {toldFrom : Int32} {toldTo : Int32} {isWrong : Int32} {before : Nat → Int32} {o : Int32 × (Nat → Int32) × (Nat → Int32) × (Nat → Int32) × (Nat → Int32)} (C0 : zCx p s m args meth c wsX5_doMove cX5_doMove RX5 (some .int) 6) (hK : zKK G k A s s.heap) (hA : ∀ q : Nat, s.heap.size ≤ q → A q) (hret : zRI p l e rmX5_doMove s m args below meth c cX5_doMove G A 0 0 Q .int (zM ad k thrown o.2.1 saved hist kept reason detail isSaved o.2.2.1 o.2.2.2.1 o.2.2.2.2 isInText ahead roomAt rooms text length at_ errorPosition toldFrom toldTo isWrong before) o.1)  : ∀ (now : Nat → Int32) (comes : Nat → Int32) (queue : Nat → Int32) (far : Nat → Int32) (x5 : Int32) (s0 : Int32) (s1 : Int32), fX5_doMove_57   now comes queue far x5 s0 s1 = some o → ∀ (H : Heap) (locs : List Loc) (ls : Array Slot), zWd G A s (zM ad k thrown now saved hist kept reason detail isSaved comes queue far isInText ahead roomAt rooms text length at_ errorPosition toldFrom toldTo isWrong before) H locs → lv_has ls 6 [(5, .int x5)] → W p l e rmX5_doMove s m args below meth c H locs 0 0 Q (F0 m 57 ls [.int s0, .int s1, .ref (ad 0)]) := by
  obtain ⟨hx, hb, hr, hml, hown, hts, hlocks⟩ := id C0
  intro now comes queue far x5 s0 s1 hF H locs ls hw hl
  unfold fX5_doMove_57 at hF
  obtain ⟨u1, hq2, hF⟩ := zbd_t hF
  refine zgoVw (w' := (zM ad k thrown u1.1 saved hist kept reason detail isSaved u1.2.1 u1.2.2.1 u1.2.2.2 isInText ahead roomAt rooms text length at_ errorPosition toldFrom toldTo isWrong before)) hw hA (zVw (As := [.int s1, .int s0]) (rest := []) ⟨hx, hb, hml, hown, hts⟩ (mX5_endTurn l G k ad H.size thrown now saved hist kept reason detail isSaved comes queue far isInText ahead roomAt rooms text length at_ errorPosition toldFrom toldTo isWrong before s1 s0 u1 hq2) (cwV 2 hts gX5_doMove_X5_endTurn rfl rfl rfl kdX5_endTurn ⟨Nat.le_of_ble_eq_true rfl, Nat.le_of_ble_eq_true rfl⟩) hK hA hw 0 rfl rfl rfl rfl hl.1 rfl (Nat.le_of_ble_eq_true rfl) dX5_doMove_57 ⟨Nat.le_of_ble_eq_true rfl, Nat.le_of_ble_eq_true rfl⟩) (fun H locs hw => ?_)
  refine lv_iload hx hb dX5_doMove_60 (lv_at hl 0 rfl) ?_
  obtain rfl := Option.some.inj hF
  exact hret _ _ _ _ rfl hw dX5_doMove_62
set_option maxHeartbeats 400000 in
set_option maxRecDepth 100000 in
theorem mX5_doMove (l : Launch) (G : va_G) (k : Nat → ClassId) (ad : Nat → Nat) (sz : Nat) (thrown : Int32) (now : Nat → Int32) (saved : Nat → Int32) (hist : Nat → Nat → Int32) (kept : Int32) (reason : Int32) (detail : Int32) (isSaved : Int32) (comes : Nat → Int32) (queue : Nat → Int32) (far : Nat → Int32) (isInText : Int32) (ahead : Nat → Int32) (roomAt : Nat → Int32) (rooms : Int32) (text : Nat → Int32) (length : Int32) (at_ : Int32) (errorPosition : Int32) (toldFrom : Int32) (toldTo : Int32) (isWrong : Int32) (before : Nat → Int32) (p0 : Int32) (p1 : Int32) (o : Int32 × (Nat → Int32) × (Nat → Int32) × (Nat → Int32) × (Nat → Int32)) (hF : fX5_doMove now comes queue far p0 p1 = some o) : zMI l yX5_doMove wsX5_doMove rmX5_doMove G k (zM ad k thrown now saved hist kept reason detail isSaved comes queue far isInText ahead roomAt rooms text length at_ errorPosition toldFrom toldTo isWrong before) sz [.ref (ad 0), .int p0, .int p1] o.1 (zM ad k thrown o.2.1 saved hist kept reason detail isSaved o.2.2.1 o.2.2.2.1 o.2.2.2.2 isInText ahead roomAt rooms text length at_ errorPosition toldFrom toldTo isWrong before) := by
  refine zof_I (cc := cX5_doMove) (nL := 6) (own := RX5) (rt := .int) (by decide) rfl rfl (Nat.le_of_ble_eq_true rfl) ?_
  intro p e s m args below meth c A Q C0 hK hA hret ls hl hw
  have hl : lv_has ls 6 [(0, .ref (ad 0)), (1, .int p0), (2, .int p1)] := hl
  obtain ⟨hx, hb, hr, hml, hown, hts, hlocks⟩ := id C0
  obtain ⟨H, hH⟩ : ∃ z, z = s.heap := ⟨_, rfl⟩
  rw [← hH] at hw ⊢
  unfold fX5_doMove at hF
  refine lv_aload_n hx hb dX5_doMove_0 rfl (lv_at hl 0 rfl) ?_
  obtain ⟨u1, hq2, hF⟩ := zbd_t hF
  refine zgoIw (w' := (zM ad k thrown now saved hist kept reason detail isSaved comes queue far isInText ahead roomAt rooms text length at_ errorPosition toldFrom toldTo isWrong before)) hw hA (zVw (As := []) (rest := []) ⟨hx, hb, hml, hown, hts⟩ (mX5_turn l G k ad H.size thrown now saved hist kept reason detail isSaved comes queue far isInText ahead roomAt rooms text length at_ errorPosition toldFrom toldTo isWrong before  u1 hq2) (cwV 0 hts gX5_doMove_X5_turn rfl rfl rfl kdX5_turn ⟨Nat.le_of_ble_eq_true rfl, Nat.le_of_ble_eq_true rfl⟩) hK hA hw 0 rfl rfl rfl rfl hl.1 rfl (Nat.le_of_ble_eq_true rfl) dX5_doMove_1 ⟨Nat.le_of_ble_eq_true rfl, Nat.le_of_ble_eq_true rfl⟩) (fun H locs hw => ?_)
  refine lv_istore_n (lv' := [(3, .int u1), (0, .ref (ad 0)), (1, .int p0), (2, .int p1)]) hx hb dX5_doMove_4 rfl hl (by decide) rfl (fun ls hl => ?_)
  refine lv_aload_n hx hb dX5_doMove_5 rfl (lv_at hl 1 rfl) ?_
  refine lv_iconst (v := (1 : Int32)) hx hb dX5_doMove_6 (by decide) ?_
  refine lv_iload_n hx hb dX5_doMove_7 rfl (lv_at hl 0 rfl) ?_
  refine lv_isub hx hb dX5_doMove_8 ?_
  obtain ⟨u3, hq4, hF⟩ := zbd_t hF
  refine zgoIw (w' := (zM ad k thrown now saved hist kept reason detail isSaved comes queue far isInText ahead roomAt rooms text length at_ errorPosition toldFrom toldTo isWrong before)) hw hA (zVw (As := [.int ((1 : Int32) - u1)]) (rest := []) ⟨hx, hb, hml, hown, hts⟩ (mX5_countKeeperWalls l G k ad H.size thrown now saved hist kept reason detail isSaved comes queue far isInText ahead roomAt rooms text length at_ errorPosition toldFrom toldTo isWrong before ((1 : Int32) - u1) u3 hq4) (cwV 1 hts gX5_doMove_X5_countKeeperWalls rfl rfl rfl kdX5_countKeeperWalls ⟨Nat.le_of_ble_eq_true rfl, Nat.le_of_ble_eq_true rfl⟩) hK hA hw 0 rfl rfl rfl rfl hl.1 rfl (Nat.le_of_ble_eq_true rfl) dX5_doMove_9 ⟨Nat.le_of_ble_eq_true rfl, Nat.le_of_ble_eq_true rfl⟩) (fun H locs hw => ?_)
  refine lv_istore (lv' := [(4, .int u3), (3, .int u1), (0, .ref (ad 0)), (1, .int p0), (2, .int p1)]) hx hb dX5_doMove_12 hl (by decide) rfl (fun ls hl => ?_)
  refine lv_aload_n hx hb dX5_doMove_14 rfl (lv_at hl 2 rfl) ?_
  refine lv_iload_n hx hb dX5_doMove_15 rfl (lv_at hl 3 rfl) ?_
  refine lv_iload_n hx hb dX5_doMove_16 rfl (lv_at hl 4 rfl) ?_
  obtain ⟨u5, hq6, hF⟩ := zbd_t hF
  refine zgoIw (w' := (zM ad k thrown u5.2 saved hist kept reason detail isSaved comes queue far isInText ahead roomAt rooms text length at_ errorPosition toldFrom toldTo isWrong before)) hw hA (zVw (As := [.int p0, .int p1]) (rest := []) ⟨hx, hb, hml, hown, hts⟩ (mX5_go l G k ad H.size thrown now saved hist kept reason detail isSaved comes queue far isInText ahead roomAt rooms text length at_ errorPosition toldFrom toldTo isWrong before p0 p1 u5 hq6) (cwV 2 hts gX5_doMove_X5_go rfl rfl rfl kdX5_go ⟨Nat.le_of_ble_eq_true rfl, Nat.le_of_ble_eq_true rfl⟩) hK hA hw 0 rfl rfl rfl rfl hl.1 rfl (Nat.le_of_ble_eq_true rfl) dX5_doMove_17 ⟨Nat.le_of_ble_eq_true rfl, Nat.le_of_ble_eq_true rfl⟩) (fun H locs hw => ?_)
  refine lv_istore (lv' := [(5, .int u5.1), (4, .int u3), (3, .int u1), (0, .ref (ad 0)), (1, .int p0), (2, .int p1)]) hx hb dX5_doMove_20 hl (by decide) rfl (fun ls hl => ?_)
  refine lv_aload_n hx hb dX5_doMove_22 rfl (lv_at hl 3 rfl) ?_
  refine va_get (D := G) (ci := 4) (v := .ref (ad 1)) (C := RX5) (T := TX5) (N := 23) hx hb hts inX5_doMove_X5 hown hK.1 hw.1 0 rfl rfl 1 (by decide) (hts (.fieldLink RX5 9 "SealedBoardModel" "now" "[I") (by decide +kernel)) (fun _ h9 => h9) rfl dX5_doMove_23 ?_
  refine lv_bipush (v := (72 : Int32)) hx hb dX5_doMove_26 (by decide) ?_
  refine lv_iload_n hx hb dX5_doMove_28 rfl (lv_at hl 2 rfl) ?_
  refine lv_iadd hx hb dX5_doMove_29 ?_
  refine lv_topi (fun a7 ea7 => ?_)
  have hF := zbn_t ea7 hF
  refine lv_dup2_11 hx hb dX5_doMove_30 rfl rfl ?_
  obtain ⟨hi8, hF⟩ := zck_in hF
  refine va_iald hx hb hK.1 hw.1 1 2 rfl rfl hi8 dX5_doMove_31 ?_
  refine lv_iconst (v := (2 : Int32)) hx hb dX5_doMove_32 (by decide) ?_
  refine lv_iload hx hb dX5_doMove_33 (lv_at hl 0 rfl) ?_
  refine lv_imul hx hb dX5_doMove_35 ?_
  refine lv_iadd hx hb dX5_doMove_36 ?_
  obtain ⟨hi9, hF⟩ := zck_in hF
  refine va_iast hx hb hK.1 hw.1 hw.2.1 hw.2.2 1 2 rfl rfl hi9 dX5_doMove_37 (fun H locs hP hD hS => ?_)
  have hw : zWd G A s (zM ad k thrown (upd u5.2 a7.toNatClampNeg ((u5.2 a7.toNatClampNeg) + ((2 : Int32) * u5.1))) saved hist kept reason detail isSaved comes queue far isInText ahead roomAt rooms text length at_ errorPosition toldFrom toldTo isWrong before) H locs := ⟨hP, hD, hS⟩
  refine lv_aload_n hx hb dX5_doMove_38 rfl (lv_at hl 3 rfl) ?_
  refine lv_iload_n hx hb dX5_doMove_39 rfl (lv_at hl 2 rfl) ?_
  refine lv_aload_n hx hb dX5_doMove_40 rfl (lv_at hl 3 rfl) ?_
  refine lv_iconst (v := (1 : Int32)) hx hb dX5_doMove_41 (by decide) ?_
  refine lv_iload_n hx hb dX5_doMove_42 rfl (lv_at hl 2 rfl) ?_
  refine lv_isub hx hb dX5_doMove_43 ?_
  obtain ⟨u10, hq11, hF⟩ := zbd_t hF
  refine zgoIw (w' := (zM ad k thrown (upd u5.2 a7.toNatClampNeg ((u5.2 a7.toNatClampNeg) + ((2 : Int32) * u5.1))) saved hist kept reason detail isSaved comes queue far isInText ahead roomAt rooms text length at_ errorPosition toldFrom toldTo isWrong before)) hw hA (zVw (As := [.int ((1 : Int32) - u1)]) (rest := [.int u1, .ref (ad 0)]) ⟨hx, hb, hml, hown, hts⟩ (mX5_countKeeperWalls l G k ad H.size thrown (upd u5.2 a7.toNatClampNeg ((u5.2 a7.toNatClampNeg) + ((2 : Int32) * u5.1))) saved hist kept reason detail isSaved comes queue far isInText ahead roomAt rooms text length at_ errorPosition toldFrom toldTo isWrong before ((1 : Int32) - u1) u10 hq11) (cwV 1 hts gX5_doMove_X5_countKeeperWalls rfl rfl rfl kdX5_countKeeperWalls ⟨Nat.le_of_ble_eq_true rfl, Nat.le_of_ble_eq_true rfl⟩) hK hA hw 0 rfl rfl rfl rfl hl.1 rfl (Nat.le_of_ble_eq_true rfl) dX5_doMove_44 ⟨Nat.le_of_ble_eq_true rfl, Nat.le_of_ble_eq_true rfl⟩) (fun H locs hw => ?_)
  refine lv_iload hx hb dX5_doMove_47 (lv_at hl 1 rfl) ?_
  refine lv_icmp_le (tgt := 56) hx hb dX5_doMove_49 (by decide) (fun hc => ?_) (fun hc => ?_)
  · have hF := zif_t hc hF
    refine lv_iconst (v := (0 : Int32)) hx hb dX5_doMove_56 (by decide) ?_
    exact wX5_doMove_57 C0 hK hA hret   _ _ _ _ _ _ _ hF _ _ _ hw (lv_sub hl [0] rfl)
  · have hF := zif_f hc hF
    refine lv_iconst (v := (1 : Int32)) hx hb dX5_doMove_52 (by decide) ?_
    refine lv_goto (tgt := 57) hx hb dX5_doMove_53 (by decide) ?_
    exact wX5_doMove_57 C0 hK hA hret   _ _ _ _ _ _ _ hF _ _ _ hw (lv_sub hl [0] rfl)

/-! SealedBoardModel.change()V -/
abbrev rmX5_change : Room := { frames := 2, cells := 0, slots := 0, locals := 44 }
theorem kdX5_change : yX5_change.cls = RX5 ∧ yX5_change.cls ≠ "java/lang/invoke/MethodHandle" ∧ yX5_change.cls ≠ "java/lang/invoke/VarHandle" ∧ (parseMethodDescriptor yX5_change.desc).map (fun d => d.parameters.length) = some 0 := by decide +kernel
theorem inX5_change_X5 : ∀ w ∈ u_ws RX5 TX5 23, w ∈ wsX5_change := by decide +kernel
def fX5_change (now : Nat → Int32) (hist : Nat → Nat → Int32) (kept : Int32) (isInText : Int32) : Option ((Nat → Nat → Int32) × Int32) := (if isInText = 0 then (zbd (fX5_remember now hist kept) (fun u1 => (some (u1.1, u1.2)))) else (some (hist, kept)))
set_option maxHeartbeats 400000 in
set_option maxRecDepth 100000 in
theorem mX5_change (l : Launch) (G : va_G) (k : Nat → ClassId) (ad : Nat → Nat) (sz : Nat) (thrown : Int32) (now : Nat → Int32) (saved : Nat → Int32) (hist : Nat → Nat → Int32) (kept : Int32) (reason : Int32) (detail : Int32) (isSaved : Int32) (comes : Nat → Int32) (queue : Nat → Int32) (far : Nat → Int32) (isInText : Int32) (ahead : Nat → Int32) (roomAt : Nat → Int32) (rooms : Int32) (text : Nat → Int32) (length : Int32) (at_ : Int32) (errorPosition : Int32) (toldFrom : Int32) (toldTo : Int32) (isWrong : Int32) (before : Nat → Int32)  (o : (Nat → Nat → Int32) × Int32) (hF : fX5_change now hist kept isInText = some o) : zMV l yX5_change wsX5_change rmX5_change G k (zM ad k thrown now saved hist kept reason detail isSaved comes queue far isInText ahead roomAt rooms text length at_ errorPosition toldFrom toldTo isWrong before) sz [.ref (ad 0)] (zM ad k thrown now saved o.1 o.2 reason detail isSaved comes queue far isInText ahead roomAt rooms text length at_ errorPosition toldFrom toldTo isWrong before) := by
  refine zof_V (cc := cX5_change) (nL := 1) (own := RX5) (by decide) rfl rfl (Nat.le_of_ble_eq_true rfl) ?_
  intro p e s m args below meth c A Q C0 hK hA hret ls hl hw
  have hl : lv_has ls 1 [(0, .ref (ad 0))] := hl
  obtain ⟨hx, hb, hr, hml, hown, hts, hlocks⟩ := id C0
  obtain ⟨H, hH⟩ : ∃ z, z = s.heap := ⟨_, rfl⟩
  rw [← hH] at hw ⊢
  unfold fX5_change at hF
  refine lv_aload_n hx hb dX5_change_0 rfl (lv_at hl 0 rfl) ?_
  refine va_get (D := G) (ci := 4) (v := .int isInText) (C := RX5) (T := TX5) (N := 23) hx hb hts inX5_change_X5 hown hK.1 hw.1 0 rfl rfl 11 (by decide) (hts (.fieldLink RX5 176 "SealedBoardModel" "isInText" "Z") (by decide +kernel)) (fun _ h9 => h9) rfl dX5_change_1 ?_
  refine lv_if_ne (tgt := 15) hx hb dX5_change_4 (by decide) (fun hc => ?_) (fun hc => ?_)
  · have hF := zif_f hc hF
    obtain rfl := Option.some.inj hF
    exact hret _ _ _ _  hw dX5_change_15
  · have hF := zif_t hc hF
    refine lv_aload_n hx hb dX5_change_7 rfl (lv_at hl 0 rfl) ?_
    refine lv_aload_n hx hb dX5_change_8 rfl (lv_at hl 0 rfl) ?_
    refine va_get (D := G) (ci := 4) (v := .ref (ad 1)) (C := RX5) (T := TX5) (N := 23) hx hb hts inX5_change_X5 hown hK.1 hw.1 0 rfl rfl 1 (by decide) (hts (.fieldLink RX5 9 "SealedBoardModel" "now" "[I") (by decide +kernel)) (fun _ h9 => h9) rfl dX5_change_9 ?_
    obtain ⟨u1, hq2, hF⟩ := zbd_t hF
    refine zgoVw (w' := (zM ad k thrown now saved u1.1 u1.2 reason detail isSaved comes queue far isInText ahead roomAt rooms text length at_ errorPosition toldFrom toldTo isWrong before)) hw hA (zVw (As := [.ref (ad 1)]) (rest := []) ⟨hx, hb, hml, hown, hts⟩ (mX5_remember l G k ad H.size thrown now saved hist kept reason detail isSaved comes queue far isInText ahead roomAt rooms text length at_ errorPosition toldFrom toldTo isWrong before  u1 hq2) (cwV 1 hts gX5_change_X5_remember rfl rfl rfl kdX5_remember ⟨Nat.le_of_ble_eq_true rfl, Nat.le_of_ble_eq_true rfl⟩) hK hA hw 0 rfl rfl rfl rfl hl.1 rfl (Nat.le_of_ble_eq_true rfl) dX5_change_12 ⟨Nat.le_of_ble_eq_true rfl, Nat.le_of_ble_eq_true rfl⟩) (fun H locs hw => ?_)
    obtain rfl := Option.some.inj hF
    exact hret _ _ _ _  hw dX5_change_15

/-! SealedBoardModel.move(II)I -/
abbrev rmX5_move : Room := { frames := 9, cells := 0, slots := 0, locals := 206 }
theorem kdX5_move : yX5_move.cls = RX5 ∧ yX5_move.cls ≠ "java/lang/invoke/MethodHandle" ∧ yX5_move.cls ≠ "java/lang/invoke/VarHandle" ∧ (parseMethodDescriptor yX5_move.desc).map (fun d => d.parameters.length) = some 2 := by decide +kernel
def fX5_move_21  (isInText : Int32) (thrown : Int32) (now : Nat → Int32) (hist : Nat → Nat → Int32) (kept : Int32) (reason : Int32) (detail : Int32) (comes : Nat → Int32) (queue : Nat → Int32) (far : Nat → Int32) (x1 : Int32) (x2 : Int32) (s0 : Int32) (s1 : Int32) : Option (Int32 × Int32 × (Nat → Int32) × (Nat → Nat → Int32) × Int32 × Int32 × Int32 × (Nat → Int32) × (Nat → Int32) × (Nat → Int32)) := (zbd (fX5_fails thrown s1 s0) (fun u1 => (if u1.1 = 0 then (zbd (fX5_isMoveRefused now reason detail comes queue far x1 x2) (fun u3 => (zbd (fX5_fails u1.2 (2 : Int32) u3.1) (fun u5 => (if u5.1 = 0 then (zbd (fX5_change now hist kept isInText) (fun u7 => (zbd (fX5_doMove now u3.2.2.2.1 u3.2.2.2.2.1 u3.2.2.2.2.2 x1 x2) (fun u9 => (some (u9.1, u5.2, u9.2.1, u7.1, u7.2, u3.2.1, u3.2.2.1, u9.2.2.1, u9.2.2.2.1, u9.2.2.2.2)))))) else (some ((0 : Int32), u5.2, now, hist, kept, u3.2.1, u3.2.2.1, u3.2.2.2.1, u3.2.2.2.2.1, u3.2.2.2.2.2))))))) else (some ((0 : Int32), u1.2, now, hist, kept, reason, detail, comes, queue, far)))))
def fX5_move_16  (isInText : Int32) (thrown : Int32) (now : Nat → Int32) (hist : Nat → Nat → Int32) (kept : Int32) (reason : Int32) (detail : Int32) (comes : Nat → Int32) (queue : Nat → Int32) (far : Nat → Int32) (x1 : Int32) (x2 : Int32) (s0 : Int32) : Option (Int32 × Int32 × (Nat → Int32) × (Nat → Nat → Int32) × Int32 × Int32 × Int32 × (Nat → Int32) × (Nat → Int32) × (Nat → Int32)) := (fX5_move_21  isInText  thrown now hist kept reason detail comes queue far x1 x2 (1 : Int32) s0)
def fX5_move (thrown : Int32) (now : Nat → Int32) (hist : Nat → Nat → Int32) (kept : Int32) (reason : Int32) (detail : Int32) (comes : Nat → Int32) (queue : Nat → Int32) (far : Nat → Int32) (isInText : Int32) (p0 : Int32) (p1 : Int32) : Option (Int32 × Int32 × (Nat → Int32) × (Nat → Nat → Int32) × Int32 × Int32 × Int32 × (Nat → Int32) × (Nat → Int32) × (Nat → Int32)) := (zbd (fX5_isSquare p0) (fun u1 => (if u1 = 0 then (fX5_move_16  isInText  thrown now hist kept reason detail comes queue far p0 p1 (1 : Int32)) else (zbd (fX5_isSquare p1) (fun u3 => (if u3 = 0 then (fX5_move_16  isInText  thrown now hist kept reason detail comes queue far p0 p1 (1 : Int32)) else (fX5_move_21  isInText  thrown now hist kept reason detail comes queue far p0 p1 (0 : Int32) (1 : Int32))))))))
set_option maxHeartbeats 400000 in
set_option maxRecDepth 100000 in
theorem wX5_move_21 {p : Program} {l : Launch} {e : Env} {s : State} {m : MethodId} {args : Array Value} {below : List Frame} {meth : Method} {c : Code} {A : Nat → Prop} {Q : State → Prop} {G : va_G} {k : Nat → ClassId} {ad : Nat → Nat} {saved : Nat → Int32} {isSaved : Int32} {isInText : Int32} {ahead : Nat → Int32} {roomAt : Nat → Int32} {rooms : Int32} {text : Nat → Int32} {length : Int32} {at_ : Int32} {errorPosition : Int32} {toldFrom : Int32} {toldTo : Int32} {isWrong : Int32} {before : Nat → Int32} {o : Int32 × Int32 × (Nat → Int32) × (Nat → Nat → Int32) × Int32 × Int32 × Int32 × (Nat → Int32) × (Nat → Int32) × (Nat → Int32)} (C0 : zCx p s m args meth c wsX5_move cX5_move RX5 (some .int) 3) (hK : zKK G k A s s.heap) (hA : ∀ q : Nat, s.heap.size ≤ q → A q) (hret : zRI p l e rmX5_move s m args below meth c cX5_move G A 0 0 Q .int (zM ad k o.2.1 o.2.2.1 saved o.2.2.2.1 o.2.2.2.2.1 o.2.2.2.2.2.1 o.2.2.2.2.2.2.1 isSaved o.2.2.2.2.2.2.2.1 o.2.2.2.2.2.2.2.2.1 o.2.2.2.2.2.2.2.2.2 isInText ahead roomAt rooms text length at_ errorPosition toldFrom toldTo isWrong before) o.1)  : ∀ (thrown : Int32) (now : Nat → Int32) (hist : Nat → Nat → Int32) (kept : Int32) (reason : Int32) (detail : Int32) (comes : Nat → Int32) (queue : Nat → Int32) (far : Nat → Int32) (x1 : Int32) (x2 : Int32) (s0 : Int32) (s1 : Int32), fX5_move_21  isInText thrown now hist kept reason detail comes queue far x1 x2 s0 s1 = some o → ∀ (H : Heap) (locs : List Loc) (ls : Array Slot), zWd G A s (zM ad k thrown now saved hist kept reason detail isSaved comes queue far isInText ahead roomAt rooms text length at_ errorPosition toldFrom toldTo isWrong before) H locs → lv_has ls 3 [(0, .ref (ad 0)), (1, .int x1), (2, .int x2)] → W p l e rmX5_move s m args below meth c H locs 0 0 Q (F0 m 21 ls [.int s0, .int s1, .ref (ad 0)]) := by
  obtain ⟨hx, hb, hr, hml, hown, hts, hlocks⟩ := id C0
  intro thrown now hist kept reason detail comes queue far x1 x2 s0 s1 hF H locs ls hw hl
  unfold fX5_move_21 at hF
  obtain ⟨u1, hq2, hF⟩ := zbd_t hF
  refine zgoIw (w' := (zM ad k u1.2 now saved hist kept reason detail isSaved comes queue far isInText ahead roomAt rooms text length at_ errorPosition toldFrom toldTo isWrong before)) hw hA (zVw (As := [.int s1, .int s0]) (rest := []) ⟨hx, hb, hml, hown, hts⟩ (mX5_fails l G k ad H.size thrown now saved hist kept reason detail isSaved comes queue far isInText ahead roomAt rooms text length at_ errorPosition toldFrom toldTo isWrong before s1 s0 u1 hq2) (cwV 2 hts gX5_move_X5_fails rfl rfl rfl kdX5_fails ⟨Nat.le_of_ble_eq_true rfl, Nat.le_of_ble_eq_true rfl⟩) hK hA hw 0 rfl rfl rfl rfl hl.1 rfl (Nat.le_of_ble_eq_true rfl) dX5_move_21 ⟨Nat.le_of_ble_eq_true rfl, Nat.le_of_ble_eq_true rfl⟩) (fun H locs hw => ?_)
  refine lv_if_ne (tgt := 41) hx hb dX5_move_24 (by decide) (fun hc => ?_) (fun hc => ?_)
  · have hF := zif_f hc hF
    refine lv_iconst (v := (0 : Int32)) hx hb dX5_move_41 (by decide) ?_
    obtain rfl := Option.some.inj hF
    exact hret _ _ _ _ rfl hw dX5_move_42
  · have hF := zif_t hc hF
    refine lv_aload_n hx hb dX5_move_27 rfl (lv_at hl 0 rfl) ?_
    refine lv_iconst (v := (2 : Int32)) hx hb dX5_move_28 (by decide) ?_
    refine lv_aload_n hx hb dX5_move_29 rfl (lv_at hl 0 rfl) ?_
    refine lv_iload_n hx hb dX5_move_30 rfl (lv_at hl 1 rfl) ?_
    refine lv_iload_n hx hb dX5_move_31 rfl (lv_at hl 2 rfl) ?_
    obtain ⟨u3, hq4, hF⟩ := zbd_t hF
    refine zgoIw (w' := (zM ad k u1.2 now saved hist kept u3.2.1 u3.2.2.1 isSaved u3.2.2.2.1 u3.2.2.2.2.1 u3.2.2.2.2.2 isInText ahead roomAt rooms text length at_ errorPosition toldFrom toldTo isWrong before)) hw hA (zVw (As := [.int x1, .int x2]) (rest := [.int (2 : Int32), .ref (ad 0)]) ⟨hx, hb, hml, hown, hts⟩ (mX5_isMoveRefused l G k ad H.size u1.2 now saved hist kept reason detail isSaved comes queue far isInText ahead roomAt rooms text length at_ errorPosition toldFrom toldTo isWrong before x1 x2 u3 hq4) (cwV 2 hts gX5_move_X5_isMoveRefused rfl rfl rfl kdX5_isMoveRefused ⟨Nat.le_of_ble_eq_true rfl, Nat.le_of_ble_eq_true rfl⟩) hK hA hw 0 rfl rfl rfl rfl hl.1 rfl (Nat.le_of_ble_eq_true rfl) dX5_move_32 ⟨Nat.le_of_ble_eq_true rfl, Nat.le_of_ble_eq_true rfl⟩) (fun H locs hw => ?_)
    obtain ⟨u5, hq6, hF⟩ := zbd_t hF
    refine zgoIw (w' := (zM ad k u5.2 now saved hist kept u3.2.1 u3.2.2.1 isSaved u3.2.2.2.1 u3.2.2.2.2.1 u3.2.2.2.2.2 isInText ahead roomAt rooms text length at_ errorPosition toldFrom toldTo isWrong before)) hw hA (zVw (As := [.int (2 : Int32), .int u3.1]) (rest := []) ⟨hx, hb, hml, hown, hts⟩ (mX5_fails l G k ad H.size u1.2 now saved hist kept u3.2.1 u3.2.2.1 isSaved u3.2.2.2.1 u3.2.2.2.2.1 u3.2.2.2.2.2 isInText ahead roomAt rooms text length at_ errorPosition toldFrom toldTo isWrong before (2 : Int32) u3.1 u5 hq6) (cwV 2 hts gX5_move_X5_fails rfl rfl rfl kdX5_fails ⟨Nat.le_of_ble_eq_true rfl, Nat.le_of_ble_eq_true rfl⟩) hK hA hw 0 rfl rfl rfl rfl hl.1 rfl (Nat.le_of_ble_eq_true rfl) dX5_move_35 ⟨Nat.le_of_ble_eq_true rfl, Nat.le_of_ble_eq_true rfl⟩) (fun H locs hw => ?_)
    refine lv_if_eq (tgt := 43) hx hb dX5_move_38 (by decide) (fun hc => ?_) (fun hc => ?_)
    · have hF := zif_t hc hF
      refine lv_aload_n hx hb dX5_move_43 rfl (lv_at hl 0 rfl) ?_
      obtain ⟨u7, hq8, hF⟩ := zbd_t hF
      refine zgoVw (w' := (zM ad k u5.2 now saved u7.1 u7.2 u3.2.1 u3.2.2.1 isSaved u3.2.2.2.1 u3.2.2.2.2.1 u3.2.2.2.2.2 isInText ahead roomAt rooms text length at_ errorPosition toldFrom toldTo isWrong before)) hw hA (zVw (As := []) (rest := []) ⟨hx, hb, hml, hown, hts⟩ (mX5_change l G k ad H.size u5.2 now saved hist kept u3.2.1 u3.2.2.1 isSaved u3.2.2.2.1 u3.2.2.2.2.1 u3.2.2.2.2.2 isInText ahead roomAt rooms text length at_ errorPosition toldFrom toldTo isWrong before  u7 hq8) (cwV 0 hts gX5_move_X5_change rfl rfl rfl kdX5_change ⟨Nat.le_of_ble_eq_true rfl, Nat.le_of_ble_eq_true rfl⟩) hK hA hw 0 rfl rfl rfl rfl hl.1 rfl (Nat.le_of_ble_eq_true rfl) dX5_move_44 ⟨Nat.le_of_ble_eq_true rfl, Nat.le_of_ble_eq_true rfl⟩) (fun H locs hw => ?_)
      refine lv_aload_n hx hb dX5_move_47 rfl (lv_at hl 0 rfl) ?_
      refine lv_iload_n hx hb dX5_move_48 rfl (lv_at hl 1 rfl) ?_
      refine lv_iload_n hx hb dX5_move_49 rfl (lv_at hl 2 rfl) ?_
      obtain ⟨u9, hq10, hF⟩ := zbd_t hF
      refine zgoIw (w' := (zM ad k u5.2 u9.2.1 saved u7.1 u7.2 u3.2.1 u3.2.2.1 isSaved u9.2.2.1 u9.2.2.2.1 u9.2.2.2.2 isInText ahead roomAt rooms text length at_ errorPosition toldFrom toldTo isWrong before)) hw hA (zVw (As := [.int x1, .int x2]) (rest := []) ⟨hx, hb, hml, hown, hts⟩ (mX5_doMove l G k ad H.size u5.2 now saved u7.1 u7.2 u3.2.1 u3.2.2.1 isSaved u3.2.2.2.1 u3.2.2.2.2.1 u3.2.2.2.2.2 isInText ahead roomAt rooms text length at_ errorPosition toldFrom toldTo isWrong before x1 x2 u9 hq10) (cwV 2 hts gX5_move_X5_doMove rfl rfl rfl kdX5_doMove ⟨Nat.le_of_ble_eq_true rfl, Nat.le_of_ble_eq_true rfl⟩) hK hA hw 0 rfl rfl rfl rfl hl.1 rfl (Nat.le_of_ble_eq_true rfl) dX5_move_50 ⟨Nat.le_of_ble_eq_true rfl, Nat.le_of_ble_eq_true rfl⟩) (fun H locs hw => ?_)
      obtain rfl := Option.some.inj hF
      exact hret _ _ _ _ rfl hw dX5_move_53
    · have hF := zif_f hc hF
      refine lv_iconst (v := (0 : Int32)) hx hb dX5_move_41 (by decide) ?_
      obtain rfl := Option.some.inj hF
      exact hret _ _ _ _ rfl hw dX5_move_42
set_option maxHeartbeats 400000 in
set_option maxRecDepth 100000 in
theorem wX5_move_16 {p : Program} {l : Launch} {e : Env} {s : State} {m : MethodId} {args : Array Value} {below : List Frame} {meth : Method} {c : Code} {A : Nat → Prop} {Q : State → Prop} {G : va_G} {k : Nat → ClassId} {ad : Nat → Nat} {saved : Nat → Int32} {isSaved : Int32} {isInText : Int32} {ahead : Nat → Int32} {roomAt : Nat → Int32} {rooms : Int32} {text : Nat → Int32} {length : Int32} {at_ : Int32} {errorPosition : Int32} {toldFrom : Int32} {toldTo : Int32} {isWrong : Int32} {before : Nat → Int32} {o : Int32 × Int32 × (Nat → Int32) × (Nat → Nat → Int32) × Int32 × Int32 × Int32 × (Nat → Int32) × (Nat → Int32) × (Nat → Int32)} (C0 : zCx p s m args meth c wsX5_move cX5_move RX5 (some .int) 3) (hK : zKK G k A s s.heap) (hA : ∀ q : Nat, s.heap.size ≤ q → A q) (hret : zRI p l e rmX5_move s m args below meth c cX5_move G A 0 0 Q .int (zM ad k o.2.1 o.2.2.1 saved o.2.2.2.1 o.2.2.2.2.1 o.2.2.2.2.2.1 o.2.2.2.2.2.2.1 isSaved o.2.2.2.2.2.2.2.1 o.2.2.2.2.2.2.2.2.1 o.2.2.2.2.2.2.2.2.2 isInText ahead roomAt rooms text length at_ errorPosition toldFrom toldTo isWrong before) o.1)  : ∀ (thrown : Int32) (now : Nat → Int32) (hist : Nat → Nat → Int32) (kept : Int32) (reason : Int32) (detail : Int32) (comes : Nat → Int32) (queue : Nat → Int32) (far : Nat → Int32) (x1 : Int32) (x2 : Int32) (s0 : Int32), fX5_move_16  isInText thrown now hist kept reason detail comes queue far x1 x2 s0 = some o → ∀ (H : Heap) (locs : List Loc) (ls : Array Slot), zWd G A s (zM ad k thrown now saved hist kept reason detail isSaved comes queue far isInText ahead roomAt rooms text length at_ errorPosition toldFrom toldTo isWrong before) H locs → lv_has ls 3 [(0, .ref (ad 0)), (1, .int x1), (2, .int x2)] → W p l e rmX5_move s m args below meth c H locs 0 0 Q (F0 m 16 ls [.int s0, .ref (ad 0)]) := by
  obtain ⟨hx, hb, hr, hml, hown, hts, hlocks⟩ := id C0
  intro thrown now hist kept reason detail comes queue far x1 x2 s0 hF H locs ls hw hl
  unfold fX5_move_16 at hF
  refine lv_iconst (v := (1 : Int32)) hx hb dX5_move_16 (by decide) ?_
  refine lv_goto (tgt := 21) hx hb dX5_move_17 (by decide) ?_
  exact wX5_move_21 C0 hK hA hret   _ _ _ _ _ _ _ _ _ _ _ _ _ hF _ _ _ hw (lv_sub hl [0, 1, 2] rfl)
set_option maxHeartbeats 400000 in
set_option maxRecDepth 100000 in
theorem mX5_move (l : Launch) (G : va_G) (k : Nat → ClassId) (ad : Nat → Nat) (sz : Nat) (thrown : Int32) (now : Nat → Int32) (saved : Nat → Int32) (hist : Nat → Nat → Int32) (kept : Int32) (reason : Int32) (detail : Int32) (isSaved : Int32) (comes : Nat → Int32) (queue : Nat → Int32) (far : Nat → Int32) (isInText : Int32) (ahead : Nat → Int32) (roomAt : Nat → Int32) (rooms : Int32) (text : Nat → Int32) (length : Int32) (at_ : Int32) (errorPosition : Int32) (toldFrom : Int32) (toldTo : Int32) (isWrong : Int32) (before : Nat → Int32) (p0 : Int32) (p1 : Int32) (o : Int32 × Int32 × (Nat → Int32) × (Nat → Nat → Int32) × Int32 × Int32 × Int32 × (Nat → Int32) × (Nat → Int32) × (Nat → Int32)) (hF : fX5_move thrown now hist kept reason detail comes queue far isInText p0 p1 = some o) : zMI l yX5_move wsX5_move rmX5_move G k (zM ad k thrown now saved hist kept reason detail isSaved comes queue far isInText ahead roomAt rooms text length at_ errorPosition toldFrom toldTo isWrong before) sz [.ref (ad 0), .int p0, .int p1] o.1 (zM ad k o.2.1 o.2.2.1 saved o.2.2.2.1 o.2.2.2.2.1 o.2.2.2.2.2.1 o.2.2.2.2.2.2.1 isSaved o.2.2.2.2.2.2.2.1 o.2.2.2.2.2.2.2.2.1 o.2.2.2.2.2.2.2.2.2 isInText ahead roomAt rooms text length at_ errorPosition toldFrom toldTo isWrong before) := by
  refine zof_I (cc := cX5_move) (nL := 3) (own := RX5) (rt := .int) (by decide) rfl rfl (Nat.le_of_ble_eq_true rfl) ?_
  intro p e s m args below meth c A Q C0 hK hA hret ls hl hw
  have hl : lv_has ls 3 [(0, .ref (ad 0)), (1, .int p0), (2, .int p1)] := hl
  obtain ⟨hx, hb, hr, hml, hown, hts, hlocks⟩ := id C0
  obtain ⟨H, hH⟩ : ∃ z, z = s.heap := ⟨_, rfl⟩
  rw [← hH] at hw ⊢
  unfold fX5_move at hF
  refine lv_aload_n hx hb dX5_move_0 rfl (lv_at hl 0 rfl) ?_
  refine lv_iconst (v := (1 : Int32)) hx hb dX5_move_1 (by decide) ?_
  refine lv_iload_n hx hb dX5_move_2 rfl (lv_at hl 1 rfl) ?_
  obtain ⟨u1, hq2, hF⟩ := zbd_t hF
  refine zgoI (w' := (zM ad k thrown now saved hist kept reason detail isSaved comes queue far isInText ahead roomAt rooms text length at_ errorPosition toldFrom toldTo isWrong before)) hw hA [] rfl (zS (As := [.int p0]) (rest := [.int (1 : Int32), .ref (ad 0)]) ⟨hx, hb, hml, hown, hts⟩ (mX5_isSquare l G k  H.size  p0 u1 hq2) (va_cwS 1 hts gX5_move_X5_isSquare rfl rfl rfl kdX5_isSquare ⟨Nat.le_of_ble_eq_true rfl, Nat.le_of_ble_eq_true rfl⟩) hK hA hw [] rfl (by decide) rfl hl.1 rfl (Nat.le_of_ble_eq_true rfl) dX5_move_3 ⟨Nat.le_of_ble_eq_true rfl, Nat.le_of_ble_eq_true rfl⟩) rfl rfl rfl (fun H locs hw => ?_)
  refine lv_if_eq (tgt := 16) hx hb dX5_move_6 (by decide) (fun hc => ?_) (fun hc => ?_)
  · have hF := zif_t hc hF
    exact wX5_move_16 C0 hK hA hret   _ _ _ _ _ _ _ _ _ _ _ _ hF _ _ _ hw (lv_sub hl [0, 1, 2] rfl)
  · have hF := zif_f hc hF
    refine lv_iload_n hx hb dX5_move_9 rfl (lv_at hl 2 rfl) ?_
    obtain ⟨u3, hq4, hF⟩ := zbd_t hF
    refine zgoI (w' := (zM ad k thrown now saved hist kept reason detail isSaved comes queue far isInText ahead roomAt rooms text length at_ errorPosition toldFrom toldTo isWrong before)) hw hA [] rfl (zS (As := [.int p1]) (rest := [.int (1 : Int32), .ref (ad 0)]) ⟨hx, hb, hml, hown, hts⟩ (mX5_isSquare l G k  H.size  p1 u3 hq4) (va_cwS 1 hts gX5_move_X5_isSquare rfl rfl rfl kdX5_isSquare ⟨Nat.le_of_ble_eq_true rfl, Nat.le_of_ble_eq_true rfl⟩) hK hA hw [] rfl (by decide) rfl hl.1 rfl (Nat.le_of_ble_eq_true rfl) dX5_move_10 ⟨Nat.le_of_ble_eq_true rfl, Nat.le_of_ble_eq_true rfl⟩) rfl rfl rfl (fun H locs hw => ?_)
    refine lv_if_ne (tgt := 20) hx hb dX5_move_13 (by decide) (fun hc => ?_) (fun hc => ?_)
    · have hF := zif_f hc hF
      refine lv_iconst (v := (0 : Int32)) hx hb dX5_move_20 (by decide) ?_
      exact wX5_move_21 C0 hK hA hret   _ _ _ _ _ _ _ _ _ _ _ _ _ hF _ _ _ hw (lv_sub hl [0, 1, 2] rfl)
    · have hF := zif_t hc hF
      exact wX5_move_16 C0 hK hA hret   _ _ _ _ _ _ _ _ _ _ _ _ hF _ _ _ hw (lv_sub hl [0, 1, 2] rfl)

/-! SealedBoardModel.isBeside(II)Z -/
abbrev rmX5_isBeside : Room := { frames := 2, cells := 0, slots := 0, locals := 45 }
theorem kdX5_isBeside : yX5_isBeside.cls = RX5 ∧ yX5_isBeside.cls ≠ "java/lang/invoke/MethodHandle" ∧ yX5_isBeside.cls ≠ "java/lang/invoke/VarHandle" ∧ (parseMethodDescriptor yX5_isBeside.desc).map (fun d => d.parameters.length) = some 2 := by decide +kernel
theorem inX5_isBeside_X5 : ∀ w ∈ u_ws RX5 TX5 23, w ∈ wsX5_isBeside := by decide +kernel
def fX5_isBeside_44 (k5 : Int32 → Int32 → Int32 → Int32 → Option (Int32)) (now : Nat → Int32) (x1 : Int32) (x2 : Int32) (x4 : Int32) (s0 : Int32) (s1 : Int32) : Option (Int32) := (zbn (s1 ||| s0) (fun a1 => (zbn (x4 + (1 : Int32)) (fun a2 => (k5 x1 x2 a1 a2)))))
def fX5_isBeside_43 (k5 : Int32 → Int32 → Int32 → Int32 → Option (Int32)) (now : Nat → Int32) (x1 : Int32) (x2 : Int32) (x4 : Int32) (s0 : Int32) : Option (Int32) := (fX5_isBeside_44 k5 now  x1 x2 x4 (0 : Int32) s0)
def fX5_isBeside_5  (now : Nat → Int32) : Nat → Int32 → Int32 → Int32 → Int32 → Option (Int32)
  | 0, _, _, _, _ => none
  | n + 1, x1, x2, x3, x4 => (if (4 : Int32) ≤ x4 then (zck (zbo x3) (some (x3))) else (zbd (fX5_next x1 x4) (fun u2 => (if u2 < 0 then (fX5_isBeside_43 (fun b0 b1 b2 b3 => fX5_isBeside_5  now n b0 b1 b2 b3) now  x1 x2 x4 x3) else (zck (zin u2 76) (zbd (fX5_sideOf (now u2.toNatClampNeg)) (fun u5 => (if u5 = x2 then (fX5_isBeside_44 (fun b0 b1 b2 b3 => fX5_isBeside_5  now n b0 b1 b2 b3) now  x1 x2 x4 (1 : Int32) x3) else (fX5_isBeside_43 (fun b0 b1 b2 b3 => fX5_isBeside_5  now n b0 b1 b2 b3) now  x1 x2 x4 x3)))))))))
def fX5_isBeside (now : Nat → Int32) (p0 : Int32) (p1 : Int32) : Option (Int32) := (fX5_isBeside_5  now zFu p0 p1 (0 : Int32) (0 : Int32))
set_option maxHeartbeats 400000 in
set_option maxRecDepth 100000 in
theorem wX5_isBeside_44 {p : Program} {l : Launch} {e : Env} {s : State} {m : MethodId} {args : Array Value} {below : List Frame} {meth : Method} {c : Code} {A : Nat → Prop} {Q : State → Prop} {G : va_G} {k : Nat → ClassId} {ad : Nat → Nat} {thrown : Int32} {now : Nat → Int32} {saved : Nat → Int32} {hist : Nat → Nat → Int32} {kept : Int32} {reason : Int32} {detail : Int32} {isSaved : Int32} {comes : Nat → Int32} {queue : Nat → Int32} {far : Nat → Int32} {isInText : Int32} {ahead : Nat → Int32} {roomAt : Nat → Int32} {rooms : Int32} {text : Nat → Int32} {length : Int32} {at_ : Int32} {errorPosition : Int32} {toldFrom : Int32} {toldTo : Int32} {isWrong : Int32} {before : Nat → Int32} {o : Int32} (C0 : zCx p s m args meth c wsX5_isBeside cX5_isBeside RX5 (some .boolean) 6) (hK : zKK G k A s s.heap) (hA : ∀ q : Nat, s.heap.size ≤ q → A q) (hret : zRI p l e rmX5_isBeside s m args below meth c cX5_isBeside G A 0 0 Q .boolean (zM ad k thrown now saved hist kept reason detail isSaved comes queue far isInText ahead roomAt rooms text length at_ errorPosition toldFrom toldTo isWrong before) o) (k5 : Int32 → Int32 → Int32 → Int32 → Option (Int32)) (hk5 : ∀ (x1 : Int32) (x2 : Int32) (x3 : Int32) (x4 : Int32), k5 x1 x2 x3 x4 = some o → ∀ (H : Heap) (locs : List Loc) (ls : Array Slot), zWd G A s (zM ad k thrown now saved hist kept reason detail isSaved comes queue far isInText ahead roomAt rooms text length at_ errorPosition toldFrom toldTo isWrong before) H locs → lv_has ls 6 [(0, .ref (ad 0)), (1, .int x1), (2, .int x2), (3, .int x3), (4, .int x4)] → W p l e rmX5_isBeside s m args below meth c H locs 0 0 Q (F0 m 5 ls [])) : ∀ (x1 : Int32) (x2 : Int32) (x4 : Int32) (s0 : Int32) (s1 : Int32), fX5_isBeside_44 k5 now x1 x2 x4 s0 s1 = some o → ∀ (H : Heap) (locs : List Loc) (ls : Array Slot), zWd G A s (zM ad k thrown now saved hist kept reason detail isSaved comes queue far isInText ahead roomAt rooms text length at_ errorPosition toldFrom toldTo isWrong before) H locs → lv_has ls 6 [(0, .ref (ad 0)), (1, .int x1), (2, .int x2), (4, .int x4)] → W p l e rmX5_isBeside s m args below meth c H locs 0 0 Q (F0 m 44 ls [.int s0, .int s1]) := by
  obtain ⟨hx, hb, hr, hml, hown, hts, hlocks⟩ := id C0
  intro x1 x2 x4 s0 s1 hF H locs ls hw hl
  unfold fX5_isBeside_44 at hF
  refine lv_ior hx hb dX5_isBeside_44 ?_
  refine lv_topi (fun a1 ea1 => ?_)
  have hF := zbn_t ea1 hF
  refine lv_istore_n (lv' := [(3, .int a1), (0, .ref (ad 0)), (1, .int x1), (2, .int x2), (4, .int x4)]) hx hb dX5_isBeside_45 rfl hl (by decide) rfl (fun ls hl => ?_)
  obtain ⟨a2, ea2⟩ : ∃ z : Int32, z = x4 + (1 : Int32) := ⟨_, rfl⟩
  have hF := zbn_t ea2 hF
  refine lv_iinc (v := a2) (lv' := [(4, .int a2), (3, .int a1), (0, .ref (ad 0)), (1, .int x1), (2, .int x2)]) hx hb dX5_isBeside_46 hl (k := 4) rfl (by rw [ea2]; rfl) (by decide) rfl (fun ls hl => ?_)
  refine lv_goto (tgt := 5) hx hb dX5_isBeside_49 (by decide) ?_
  exact hk5 _ _ _ _ hF _ _ _ hw (lv_sub hl [2, 3, 4, 1, 0] rfl)
set_option maxHeartbeats 400000 in
set_option maxRecDepth 100000 in
theorem wX5_isBeside_43 {p : Program} {l : Launch} {e : Env} {s : State} {m : MethodId} {args : Array Value} {below : List Frame} {meth : Method} {c : Code} {A : Nat → Prop} {Q : State → Prop} {G : va_G} {k : Nat → ClassId} {ad : Nat → Nat} {thrown : Int32} {now : Nat → Int32} {saved : Nat → Int32} {hist : Nat → Nat → Int32} {kept : Int32} {reason : Int32} {detail : Int32} {isSaved : Int32} {comes : Nat → Int32} {queue : Nat → Int32} {far : Nat → Int32} {isInText : Int32} {ahead : Nat → Int32} {roomAt : Nat → Int32} {rooms : Int32} {text : Nat → Int32} {length : Int32} {at_ : Int32} {errorPosition : Int32} {toldFrom : Int32} {toldTo : Int32} {isWrong : Int32} {before : Nat → Int32} {o : Int32} (C0 : zCx p s m args meth c wsX5_isBeside cX5_isBeside RX5 (some .boolean) 6) (hK : zKK G k A s s.heap) (hA : ∀ q : Nat, s.heap.size ≤ q → A q) (hret : zRI p l e rmX5_isBeside s m args below meth c cX5_isBeside G A 0 0 Q .boolean (zM ad k thrown now saved hist kept reason detail isSaved comes queue far isInText ahead roomAt rooms text length at_ errorPosition toldFrom toldTo isWrong before) o) (k5 : Int32 → Int32 → Int32 → Int32 → Option (Int32)) (hk5 : ∀ (x1 : Int32) (x2 : Int32) (x3 : Int32) (x4 : Int32), k5 x1 x2 x3 x4 = some o → ∀ (H : Heap) (locs : List Loc) (ls : Array Slot), zWd G A s (zM ad k thrown now saved hist kept reason detail isSaved comes queue far isInText ahead roomAt rooms text length at_ errorPosition toldFrom toldTo isWrong before) H locs → lv_has ls 6 [(0, .ref (ad 0)), (1, .int x1), (2, .int x2), (3, .int x3), (4, .int x4)] → W p l e rmX5_isBeside s m args below meth c H locs 0 0 Q (F0 m 5 ls [])) : ∀ (x1 : Int32) (x2 : Int32) (x4 : Int32) (s0 : Int32), fX5_isBeside_43 k5 now x1 x2 x4 s0 = some o → ∀ (H : Heap) (locs : List Loc) (ls : Array Slot), zWd G A s (zM ad k thrown now saved hist kept reason detail isSaved comes queue far isInText ahead roomAt rooms text length at_ errorPosition toldFrom toldTo isWrong before) H locs → lv_has ls 6 [(0, .ref (ad 0)), (1, .int x1), (2, .int x2), (4, .int x4)] → W p l e rmX5_isBeside s m args below meth c H locs 0 0 Q (F0 m 43 ls [.int s0]) := by
  obtain ⟨hx, hb, hr, hml, hown, hts, hlocks⟩ := id C0
  intro x1 x2 x4 s0 hF H locs ls hw hl
  unfold fX5_isBeside_43 at hF
  refine lv_iconst (v := (0 : Int32)) hx hb dX5_isBeside_43 (by decide) ?_
  exact wX5_isBeside_44 C0 hK hA hret k5 hk5  _ _ _ _ _ hF _ _ _ hw (lv_sub hl [0, 1, 2, 3] rfl)
set_option maxHeartbeats 400000 in
set_option maxRecDepth 100000 in
theorem wX5_isBeside_5 {p : Program} {l : Launch} {e : Env} {s : State} {m : MethodId} {args : Array Value} {below : List Frame} {meth : Method} {c : Code} {A : Nat → Prop} {Q : State → Prop} {G : va_G} {k : Nat → ClassId} {ad : Nat → Nat} {thrown : Int32} {now : Nat → Int32} {saved : Nat → Int32} {hist : Nat → Nat → Int32} {kept : Int32} {reason : Int32} {detail : Int32} {isSaved : Int32} {comes : Nat → Int32} {queue : Nat → Int32} {far : Nat → Int32} {isInText : Int32} {ahead : Nat → Int32} {roomAt : Nat → Int32} {rooms : Int32} {text : Nat → Int32} {length : Int32} {at_ : Int32} {errorPosition : Int32} {toldFrom : Int32} {toldTo : Int32} {isWrong : Int32} {before : Nat → Int32} {o : Int32} (C0 : zCx p s m args meth c wsX5_isBeside cX5_isBeside RX5 (some .boolean) 6) (hK : zKK G k A s s.heap) (hA : ∀ q : Nat, s.heap.size ≤ q → A q) (hret : zRI p l e rmX5_isBeside s m args below meth c cX5_isBeside G A 0 0 Q .boolean (zM ad k thrown now saved hist kept reason detail isSaved comes queue far isInText ahead roomAt rooms text length at_ errorPosition toldFrom toldTo isWrong before) o)  : ∀ (n : Nat) (x1 : Int32) (x2 : Int32) (x3 : Int32) (x4 : Int32), fX5_isBeside_5  now n x1 x2 x3 x4 = some o → ∀ (H : Heap) (locs : List Loc) (ls : Array Slot), zWd G A s (zM ad k thrown now saved hist kept reason detail isSaved comes queue far isInText ahead roomAt rooms text length at_ errorPosition toldFrom toldTo isWrong before) H locs → lv_has ls 6 [(0, .ref (ad 0)), (1, .int x1), (2, .int x2), (3, .int x3), (4, .int x4)] → W p l e rmX5_isBeside s m args below meth c H locs 0 0 Q (F0 m 5 ls []) := by
  obtain ⟨hx, hb, hr, hml, hown, hts, hlocks⟩ := id C0
  intro n
  induction n with
  | zero => intro x1 x2 x3 x4 hF; exact nomatch hF
  | succ n ih =>
    intro x1 x2 x3 x4 hF H locs ls hw hl
    rw [fX5_isBeside_5] at hF
    refine lv_iload hx hb dX5_isBeside_5 (lv_at hl 4 rfl) ?_
    refine lv_iconst (v := (4 : Int32)) hx hb dX5_isBeside_7 (by decide) ?_
    refine lv_icmp_ge (tgt := 52) hx hb dX5_isBeside_8 (by decide) (fun hc => ?_) (fun hc => ?_)
    · have hF := zif_t hc hF
      refine lv_iload_n hx hb dX5_isBeside_52 rfl (lv_at hl 3 rfl) ?_
      obtain ⟨hz1, hF⟩ := zck_t hF
      obtain rfl := Option.some.inj hF
      exact hret _ _ _ _ (zbo_n hz1) hw dX5_isBeside_53
    · have hF := zif_f hc hF
      refine lv_iload_n hx hb dX5_isBeside_11 rfl (lv_at hl 1 rfl) ?_
      refine lv_iload hx hb dX5_isBeside_12 (lv_at hl 4 rfl) ?_
      obtain ⟨u2, hq3, hF⟩ := zbd_t hF
      refine zgoI (w' := (zM ad k thrown now saved hist kept reason detail isSaved comes queue far isInText ahead roomAt rooms text length at_ errorPosition toldFrom toldTo isWrong before)) hw hA [] rfl (zS (As := [.int x1, .int x4]) (rest := []) ⟨hx, hb, hml, hown, hts⟩ (mX5_next l G k  H.size  x1 x4 u2 hq3) (va_cwS 2 hts gX5_isBeside_X5_next rfl rfl rfl kdX5_next ⟨Nat.le_of_ble_eq_true rfl, Nat.le_of_ble_eq_true rfl⟩) hK hA hw [] rfl (by decide) rfl hl.1 rfl (Nat.le_of_ble_eq_true rfl) dX5_isBeside_14 ⟨Nat.le_of_ble_eq_true rfl, Nat.le_of_ble_eq_true rfl⟩) rfl rfl rfl (fun H locs hw => ?_)
      refine lv_istore (lv' := [(5, .int u2), (0, .ref (ad 0)), (1, .int x1), (2, .int x2), (3, .int x3), (4, .int x4)]) hx hb dX5_isBeside_17 hl (by decide) rfl (fun ls hl => ?_)
      refine lv_iload_n hx hb dX5_isBeside_19 rfl (lv_at hl 4 rfl) ?_
      refine lv_iload hx hb dX5_isBeside_20 (lv_at hl 0 rfl) ?_
      refine lv_if_lt (tgt := 43) hx hb dX5_isBeside_22 (by decide) (fun hc => ?_) (fun hc => ?_)
      · have hF := zif_t hc hF
        exact wX5_isBeside_43 C0 hK hA hret (fun b0 b1 b2 b3 => fX5_isBeside_5  now n b0 b1 b2 b3) ih  _ _ _ _ hF _ _ _ hw (lv_sub hl [1, 2, 3, 5] rfl)
      · have hF := zif_f hc hF
        refine lv_aload_n hx hb dX5_isBeside_25 rfl (lv_at hl 1 rfl) ?_
        refine va_get (D := G) (ci := 4) (v := .ref (ad 1)) (C := RX5) (T := TX5) (N := 23) hx hb hts inX5_isBeside_X5 hown hK.1 hw.1 0 rfl rfl 1 (by decide) (hts (.fieldLink RX5 9 "SealedBoardModel" "now" "[I") (by decide +kernel)) (fun _ h9 => h9) rfl dX5_isBeside_26 ?_
        refine lv_iload hx hb dX5_isBeside_29 (lv_at hl 0 rfl) ?_
        obtain ⟨hi4, hF⟩ := zck_in hF
        refine va_iald hx hb hK.1 hw.1 1 2 rfl rfl hi4 dX5_isBeside_31 ?_
        obtain ⟨u5, hq6, hF⟩ := zbd_t hF
        refine zgoI (w' := (zM ad k thrown now saved hist kept reason detail isSaved comes queue far isInText ahead roomAt rooms text length at_ errorPosition toldFrom toldTo isWrong before)) hw hA [] rfl (zS (As := [.int (now u2.toNatClampNeg)]) (rest := [.int x3]) ⟨hx, hb, hml, hown, hts⟩ (mX5_sideOf l G k  H.size  (now u2.toNatClampNeg) u5 hq6) (va_cwS 1 hts gX5_isBeside_X5_sideOf rfl rfl rfl kdX5_sideOf ⟨Nat.le_of_ble_eq_true rfl, Nat.le_of_ble_eq_true rfl⟩) hK hA hw [] rfl (by decide) rfl hl.1 rfl (Nat.le_of_ble_eq_true rfl) dX5_isBeside_32 ⟨Nat.le_of_ble_eq_true rfl, Nat.le_of_ble_eq_true rfl⟩) rfl rfl rfl (fun H locs hw => ?_)
        refine lv_iload_n hx hb dX5_isBeside_35 rfl (lv_at hl 3 rfl) ?_
        refine lv_icmp_ne (tgt := 43) hx hb dX5_isBeside_36 (by decide) (fun hc => ?_) (fun hc => ?_)
        · have hF := zif_f hc hF
          exact wX5_isBeside_43 C0 hK hA hret (fun b0 b1 b2 b3 => fX5_isBeside_5  now n b0 b1 b2 b3) ih  _ _ _ _ hF _ _ _ hw (lv_sub hl [1, 2, 3, 5] rfl)
        · have hF := zif_t hc hF
          refine lv_iconst (v := (1 : Int32)) hx hb dX5_isBeside_39 (by decide) ?_
          refine lv_goto (tgt := 44) hx hb dX5_isBeside_40 (by decide) ?_
          exact wX5_isBeside_44 C0 hK hA hret (fun b0 b1 b2 b3 => fX5_isBeside_5  now n b0 b1 b2 b3) ih  _ _ _ _ _ hF _ _ _ hw (lv_sub hl [1, 2, 3, 5] rfl)
set_option maxHeartbeats 400000 in
set_option maxRecDepth 100000 in
theorem mX5_isBeside (l : Launch) (G : va_G) (k : Nat → ClassId) (ad : Nat → Nat) (sz : Nat) (thrown : Int32) (now : Nat → Int32) (saved : Nat → Int32) (hist : Nat → Nat → Int32) (kept : Int32) (reason : Int32) (detail : Int32) (isSaved : Int32) (comes : Nat → Int32) (queue : Nat → Int32) (far : Nat → Int32) (isInText : Int32) (ahead : Nat → Int32) (roomAt : Nat → Int32) (rooms : Int32) (text : Nat → Int32) (length : Int32) (at_ : Int32) (errorPosition : Int32) (toldFrom : Int32) (toldTo : Int32) (isWrong : Int32) (before : Nat → Int32) (p0 : Int32) (p1 : Int32) (o : Int32) (hF : fX5_isBeside now p0 p1 = some o) : zMI l yX5_isBeside wsX5_isBeside rmX5_isBeside G k (zM ad k thrown now saved hist kept reason detail isSaved comes queue far isInText ahead roomAt rooms text length at_ errorPosition toldFrom toldTo isWrong before) sz [.ref (ad 0), .int p0, .int p1] o (zM ad k thrown now saved hist kept reason detail isSaved comes queue far isInText ahead roomAt rooms text length at_ errorPosition toldFrom toldTo isWrong before) := by
  refine zof_I (cc := cX5_isBeside) (nL := 6) (own := RX5) (rt := .boolean) (by decide) rfl rfl (Nat.le_of_ble_eq_true rfl) ?_
  intro p e s m args below meth c A Q C0 hK hA hret ls hl hw
  have hl : lv_has ls 6 [(0, .ref (ad 0)), (1, .int p0), (2, .int p1)] := hl
  obtain ⟨hx, hb, hr, hml, hown, hts, hlocks⟩ := id C0
  obtain ⟨H, hH⟩ : ∃ z, z = s.heap := ⟨_, rfl⟩
  rw [← hH] at hw ⊢
  unfold fX5_isBeside at hF
  refine lv_iconst (v := (0 : Int32)) hx hb dX5_isBeside_0 (by decide) ?_
  refine lv_istore_n (lv' := [(3, .int (0 : Int32)), (0, .ref (ad 0)), (1, .int p0), (2, .int p1)]) hx hb dX5_isBeside_1 rfl hl (by decide) rfl (fun ls hl => ?_)
  refine lv_iconst (v := (0 : Int32)) hx hb dX5_isBeside_2 (by decide) ?_
  refine lv_istore (lv' := [(4, .int (0 : Int32)), (3, .int (0 : Int32)), (0, .ref (ad 0)), (1, .int p0), (2, .int p1)]) hx hb dX5_isBeside_3 hl (by decide) rfl (fun ls hl => ?_)
  exact wX5_isBeside_5 C0 hK hA hret  zFu _ _ _ _ hF _ _ _ hw (lv_sub hl [2, 3, 4, 1, 0] rfl)

/-! SealedBoardModel.isTooDear(I)Z -/
abbrev rmX5_isTooDear : Room := { frames := 1, cells := 0, slots := 0, locals := 23 }
theorem kdX5_isTooDear : yX5_isTooDear.cls = RX5 ∧ yX5_isTooDear.cls ≠ "java/lang/invoke/MethodHandle" ∧ yX5_isTooDear.cls ≠ "java/lang/invoke/VarHandle" ∧ (parseMethodDescriptor yX5_isTooDear.desc).map (fun d => d.parameters.length) = some 1 := by decide +kernel
theorem inX5_isTooDear_X5 : ∀ w ∈ u_ws RX5 TX5 23, w ∈ wsX5_isTooDear := by decide +kernel
def fX5_isTooDear_24  (now : Nat → Int32) (reason : Int32) (detail : Int32) (x1 : Int32) (x2 : Int32) (s0 : Int32) : Option (Int32 × Int32 × Int32) := (zbd (fX5_refuse reason detail s0 (8 : Int32) (x1 - x2)) (fun u1 => (zck (zbo u1.1) (some (u1.1, u1.2.1, u1.2.2)))))
def fX5_isTooDear (now : Nat → Int32) (reason : Int32) (detail : Int32) (p0 : Int32) : Option (Int32 × Int32 × Int32) := (zbd (fX5_turn now) (fun u1 => (zck (zin ((72 : Int32) + u1) 76) (zbn (now ((72 : Int32) + u1).toNatClampNeg) (fun a4 => (if p0 ≤ a4 then (fX5_isTooDear_24  now  reason detail p0 a4 (0 : Int32)) else (fX5_isTooDear_24  now  reason detail p0 a4 (1 : Int32))))))))
set_option maxHeartbeats 400000 in
set_option maxRecDepth 100000 in
theorem wX5_isTooDear_24 {p : Program} {l : Launch} {e : Env} {s : State} {m : MethodId} {args : Array Value} {below : List Frame} {meth : Method} {c : Code} {A : Nat → Prop} {Q : State → Prop} {G : va_G} {k : Nat → ClassId} {ad : Nat → Nat} {thrown : Int32} {now : Nat → Int32} {saved : Nat → Int32} {hist : Nat → Nat → Int32} {kept : Int32} {isSaved : Int32} {comes : Nat → Int32} {queue : Nat → Int32} {far : Nat → Int32} {isInText : Int32} {ahead : Nat → Int32} {roomAt : Nat → Int32} {rooms : Int32} {text : Nat → Int32} {length : Int32} {at_ : Int32} {errorPosition : Int32} {toldFrom : Int32} {toldTo : Int32} {isWrong : Int32} {before : Nat → Int32} {o : Int32 × Int32 × Int32} (C0 : zCx p s m args meth c wsX5_isTooDear cX5_isTooDear RX5 (some .boolean) 3) (hK : zKK G k A s s.heap) (hA : ∀ q : Nat, s.heap.size ≤ q → A q) (hret : zRI p l e rmX5_isTooDear s m args below meth c cX5_isTooDear G A 0 0 Q .boolean (zM ad k thrown now saved hist kept o.2.1 o.2.2 isSaved comes queue far isInText ahead roomAt rooms text length at_ errorPosition toldFrom toldTo isWrong before) o.1)  : ∀ (reason : Int32) (detail : Int32) (x1 : Int32) (x2 : Int32) (s0 : Int32), fX5_isTooDear_24  now reason detail x1 x2 s0 = some o → ∀ (H : Heap) (locs : List Loc) (ls : Array Slot), zWd G A s (zM ad k thrown now saved hist kept reason detail isSaved comes queue far isInText ahead roomAt rooms text length at_ errorPosition toldFrom toldTo isWrong before) H locs → lv_has ls 3 [(1, .int x1), (2, .int x2)] → W p l e rmX5_isTooDear s m args below meth c H locs 0 0 Q (F0 m 24 ls [.int s0, .ref (ad 0)]) := by
  obtain ⟨hx, hb, hr, hml, hown, hts, hlocks⟩ := id C0
  intro reason detail x1 x2 s0 hF H locs ls hw hl
  unfold fX5_isTooDear_24 at hF
  refine lv_bipush (v := (8 : Int32)) hx hb dX5_isTooDear_24 (by decide) ?_
  refine lv_iload_n hx hb dX5_isTooDear_26 rfl (lv_at hl 0 rfl) ?_
  refine lv_iload_n hx hb dX5_isTooDear_27 rfl (lv_at hl 1 rfl) ?_
  refine lv_isub hx hb dX5_isTooDear_28 ?_
  obtain ⟨u1, hq2, hF⟩ := zbd_t hF
  refine zgoIw (w' := (zM ad k thrown now saved hist kept u1.2.1 u1.2.2 isSaved comes queue far isInText ahead roomAt rooms text length at_ errorPosition toldFrom toldTo isWrong before)) hw hA (zVw (As := [.int s0, .int (8 : Int32), .int (x1 - x2)]) (rest := []) ⟨hx, hb, hml, hown, hts⟩ (mX5_refuse l G k ad H.size thrown now saved hist kept reason detail isSaved comes queue far isInText ahead roomAt rooms text length at_ errorPosition toldFrom toldTo isWrong before s0 (8 : Int32) (x1 - x2) u1 hq2) (cwV 3 hts gX5_isTooDear_X5_refuse rfl rfl rfl kdX5_refuse ⟨Nat.le_of_ble_eq_true rfl, Nat.le_of_ble_eq_true rfl⟩) hK hA hw 0 rfl rfl rfl rfl hl.1 rfl (Nat.le_of_ble_eq_true rfl) dX5_isTooDear_29 ⟨Nat.le_of_ble_eq_true rfl, Nat.le_of_ble_eq_true rfl⟩) (fun H locs hw => ?_)
  obtain ⟨hz3, hF⟩ := zck_t hF
  obtain rfl := Option.some.inj hF
  exact hret _ _ _ _ (zbo_n hz3) hw dX5_isTooDear_32
set_option maxHeartbeats 400000 in
set_option maxRecDepth 100000 in
theorem mX5_isTooDear (l : Launch) (G : va_G) (k : Nat → ClassId) (ad : Nat → Nat) (sz : Nat) (thrown : Int32) (now : Nat → Int32) (saved : Nat → Int32) (hist : Nat → Nat → Int32) (kept : Int32) (reason : Int32) (detail : Int32) (isSaved : Int32) (comes : Nat → Int32) (queue : Nat → Int32) (far : Nat → Int32) (isInText : Int32) (ahead : Nat → Int32) (roomAt : Nat → Int32) (rooms : Int32) (text : Nat → Int32) (length : Int32) (at_ : Int32) (errorPosition : Int32) (toldFrom : Int32) (toldTo : Int32) (isWrong : Int32) (before : Nat → Int32) (p0 : Int32) (o : Int32 × Int32 × Int32) (hF : fX5_isTooDear now reason detail p0 = some o) : zMI l yX5_isTooDear wsX5_isTooDear rmX5_isTooDear G k (zM ad k thrown now saved hist kept reason detail isSaved comes queue far isInText ahead roomAt rooms text length at_ errorPosition toldFrom toldTo isWrong before) sz [.ref (ad 0), .int p0] o.1 (zM ad k thrown now saved hist kept o.2.1 o.2.2 isSaved comes queue far isInText ahead roomAt rooms text length at_ errorPosition toldFrom toldTo isWrong before) := by
  refine zof_I (cc := cX5_isTooDear) (nL := 3) (own := RX5) (rt := .boolean) (by decide) rfl rfl (Nat.le_of_ble_eq_true rfl) ?_
  intro p e s m args below meth c A Q C0 hK hA hret ls hl hw
  have hl : lv_has ls 3 [(0, .ref (ad 0)), (1, .int p0)] := hl
  obtain ⟨hx, hb, hr, hml, hown, hts, hlocks⟩ := id C0
  obtain ⟨H, hH⟩ : ∃ z, z = s.heap := ⟨_, rfl⟩
  rw [← hH] at hw ⊢
  unfold fX5_isTooDear at hF
  refine lv_aload_n hx hb dX5_isTooDear_0 rfl (lv_at hl 0 rfl) ?_
  refine va_get (D := G) (ci := 4) (v := .ref (ad 1)) (C := RX5) (T := TX5) (N := 23) hx hb hts inX5_isTooDear_X5 hown hK.1 hw.1 0 rfl rfl 1 (by decide) (hts (.fieldLink RX5 9 "SealedBoardModel" "now" "[I") (by decide +kernel)) (fun _ h9 => h9) rfl dX5_isTooDear_1 ?_
  refine lv_bipush (v := (72 : Int32)) hx hb dX5_isTooDear_4 (by decide) ?_
  refine lv_aload_n hx hb dX5_isTooDear_6 rfl (lv_at hl 0 rfl) ?_
  obtain ⟨u1, hq2, hF⟩ := zbd_t hF
  refine zgoIw (w' := (zM ad k thrown now saved hist kept reason detail isSaved comes queue far isInText ahead roomAt rooms text length at_ errorPosition toldFrom toldTo isWrong before)) hw hA (zVw (As := []) (rest := [.int (72 : Int32), .ref (ad 1)]) ⟨hx, hb, hml, hown, hts⟩ (mX5_turn l G k ad H.size thrown now saved hist kept reason detail isSaved comes queue far isInText ahead roomAt rooms text length at_ errorPosition toldFrom toldTo isWrong before  u1 hq2) (cwV 0 hts gX5_isTooDear_X5_turn rfl rfl rfl kdX5_turn ⟨Nat.le_of_ble_eq_true rfl, Nat.le_of_ble_eq_true rfl⟩) hK hA hw 0 rfl rfl rfl rfl hl.1 rfl (Nat.le_of_ble_eq_true rfl) dX5_isTooDear_7 ⟨Nat.le_of_ble_eq_true rfl, Nat.le_of_ble_eq_true rfl⟩) (fun H locs hw => ?_)
  refine lv_iadd hx hb dX5_isTooDear_10 ?_
  obtain ⟨hi3, hF⟩ := zck_in hF
  refine va_iald hx hb hK.1 hw.1 1 2 rfl rfl hi3 dX5_isTooDear_11 ?_
  refine lv_topi (fun a4 ea4 => ?_)
  have hF := zbn_t ea4 hF
  refine lv_istore_n (lv' := [(2, .int a4), (0, .ref (ad 0)), (1, .int p0)]) hx hb dX5_isTooDear_12 rfl hl (by decide) rfl (fun ls hl => ?_)
  refine lv_aload_n hx hb dX5_isTooDear_13 rfl (lv_at hl 1 rfl) ?_
  refine lv_iload_n hx hb dX5_isTooDear_14 rfl (lv_at hl 0 rfl) ?_
  refine lv_iload_n hx hb dX5_isTooDear_15 rfl (lv_at hl 2 rfl) ?_
  refine lv_icmp_ge (tgt := 23) hx hb dX5_isTooDear_16 (by decide) (fun hc => ?_) (fun hc => ?_)
  · have hF := zif_t hc hF
    refine lv_iconst (v := (0 : Int32)) hx hb dX5_isTooDear_23 (by decide) ?_
    exact wX5_isTooDear_24 C0 hK hA hret   _ _ _ _ _ hF _ _ _ hw (lv_sub hl [2, 0] rfl)
  · have hF := zif_f hc hF
    refine lv_iconst (v := (1 : Int32)) hx hb dX5_isTooDear_19 (by decide) ?_
    refine lv_goto (tgt := 24) hx hb dX5_isTooDear_20 (by decide) ?_
    exact wX5_isTooDear_24 C0 hK hA hret   _ _ _ _ _ hF _ _ _ hw (lv_sub hl [2, 0] rfl)

/-! SealedBoardModel.door(I)I -/
abbrev rmX5_door : Room := { frames := 8, cells := 0, slots := 0, locals := 181 }
theorem kdX5_door : yX5_door.cls = RX5 ∧ yX5_door.cls ≠ "java/lang/invoke/MethodHandle" ∧ yX5_door.cls ≠ "java/lang/invoke/VarHandle" ∧ (parseMethodDescriptor yX5_door.desc).map (fun d => d.parameters.length) = some 1 := by decide +kernel
theorem inX5_door_X5 : ∀ w ∈ u_ws RX5 TX5 23, w ∈ wsX5_door := by decide +kernel
def fX5_door_103  (isInText : Int32) (thrown : Int32) (now : Nat → Int32) (hist : Nat → Nat → Int32) (kept : Int32) (reason : Int32) (detail : Int32) (comes : Nat → Int32) (queue : Nat → Int32) (far : Nat → Int32) (x1 : Int32) (s0 : Int32) (s1 : Int32) : Option (Int32 × Int32 × (Nat → Int32) × (Nat → Nat → Int32) × Int32 × Int32 × Int32 × (Nat → Int32) × (Nat → Int32) × (Nat → Int32)) := (zbd (fX5_fails thrown s1 s0) (fun u1 => (if u1.1 = 0 then (zbd (fX5_change now hist kept isInText) (fun u3 => (zbd (fX5_turn now) (fun u5 => (zck (zin x1 76) (zck (zin ((36 : Int32) + x1) 76) (zbn ((72 : Int32) + u5) (fun a9 => (zck (zin a9 76) (zck (zin a9 76) (zbd (fX5_endTurn (upd (upd (upd now x1.toNatClampNeg (0 : Int32)) ((36 : Int32) + x1).toNatClampNeg (u5 + (1 : Int32))) a9.toNatClampNeg (((upd (upd now x1.toNatClampNeg (0 : Int32)) ((36 : Int32) + x1).toNatClampNeg (u5 + (1 : Int32))) a9.toNatClampNeg) - (3 : Int32))) comes queue far u5 (0 : Int32)) (fun u12 => (zck (zin ((72 : Int32) + u5) 76) (some ((u12.1 ((72 : Int32) + u5).toNatClampNeg), u1.2, u12.1, u3.1, u3.2, reason, detail, u12.2.1, u12.2.2.1, u12.2.2.2))))))))))))))) else (some ((0 : Int32), u1.2, now, hist, kept, reason, detail, comes, queue, far)))))
def fX5_door_98  (isInText : Int32) (thrown : Int32) (now : Nat → Int32) (hist : Nat → Nat → Int32) (kept : Int32) (reason : Int32) (detail : Int32) (comes : Nat → Int32) (queue : Nat → Int32) (far : Nat → Int32) (x1 : Int32) (s0 : Int32) : Option (Int32 × Int32 × (Nat → Int32) × (Nat → Nat → Int32) × Int32 × Int32 × Int32 × (Nat → Int32) × (Nat → Int32) × (Nat → Int32)) := (fX5_door_103  isInText  thrown now hist kept reason detail comes queue far x1 (1 : Int32) s0)
def fX5_door_81  (isInText : Int32) (thrown : Int32) (now : Nat → Int32) (hist : Nat → Nat → Int32) (kept : Int32) (reason : Int32) (detail : Int32) (comes : Nat → Int32) (queue : Nat → Int32) (far : Nat → Int32) (x1 : Int32) (s0 : Int32) (s2 : Int32) : Option (Int32 × Int32 × (Nat → Int32) × (Nat → Nat → Int32) × Int32 × Int32 × Int32 × (Nat → Int32) × (Nat → Int32) × (Nat → Int32)) := (zbd (fX5_refuse reason detail s0 (6 : Int32) x1) (fun u1 => (if u1.1 = 0 then (zbd (fX5_isTooDear now u1.2.1 u1.2.2 (3 : Int32)) (fun u3 => (if u3.1 = 0 then (fX5_door_103  isInText  thrown now hist kept u3.2.1 u3.2.2 comes queue far x1 (0 : Int32) s2) else (fX5_door_98  isInText  thrown now hist kept u3.2.1 u3.2.2 comes queue far x1 s2)))) else (fX5_door_98  isInText  thrown now hist kept u1.2.1 u1.2.2 comes queue far x1 s2))))
def fX5_door_55  (isInText : Int32) (thrown : Int32) (now : Nat → Int32) (hist : Nat → Nat → Int32) (kept : Int32) (reason : Int32) (detail : Int32) (comes : Nat → Int32) (queue : Nat → Int32) (far : Nat → Int32) (x1 : Int32) (s0 : Int32) (s2 : Int32) : Option (Int32 × Int32 × (Nat → Int32) × (Nat → Nat → Int32) × Int32 × Int32 × Int32 × (Nat → Int32) × (Nat → Int32) × (Nat → Int32)) := (zbd (fX5_refuse reason detail s0 (4 : Int32) x1) (fun u1 => (if u1.1 = 0 then (zbd (fX5_turn now) (fun u3 => (zbd (fX5_isBeside now x1 u3) (fun u5 => (if u5 = 0 then (fX5_door_81  isInText  thrown now hist kept u1.2.1 u1.2.2 comes queue far x1 (1 : Int32) s2) else (fX5_door_81  isInText  thrown now hist kept u1.2.1 u1.2.2 comes queue far x1 (0 : Int32) s2)))))) else (fX5_door_98  isInText  thrown now hist kept u1.2.1 u1.2.2 comes queue far x1 s2))))
def fX5_door_14  (isInText : Int32) (thrown : Int32) (now : Nat → Int32) (hist : Nat → Nat → Int32) (kept : Int32) (reason : Int32) (detail : Int32) (comes : Nat → Int32) (queue : Nat → Int32) (far : Nat → Int32) (x1 : Int32) (s0 : Int32) (s1 : Int32) : Option (Int32 × Int32 × (Nat → Int32) × (Nat → Nat → Int32) × Int32 × Int32 × Int32 × (Nat → Int32) × (Nat → Int32) × (Nat → Int32)) := (zbd (fX5_fails thrown s1 s0) (fun u1 => (if u1.1 = 0 then (zbd (fX5_isOver now) (fun u3 => (zck (zin (74 : Int32) 76) (zbd (fX5_refuse reason detail u3 (1 : Int32) (now (74 : Int32).toNatClampNeg)) (fun u6 => (if u6.1 = 0 then (zbd (fX5_isWall now x1) (fun u8 => (if u8 = 0 then (fX5_door_55  isInText  u1.2 now hist kept u6.2.1 u6.2.2 comes queue far x1 (1 : Int32) (2 : Int32)) else (fX5_door_55  isInText  u1.2 now hist kept u6.2.1 u6.2.2 comes queue far x1 (0 : Int32) (2 : Int32))))) else (fX5_door_98  isInText  u1.2 now hist kept u6.2.1 u6.2.2 comes queue far x1 (2 : Int32)))))))) else (some ((0 : Int32), u1.2, now, hist, kept, reason, detail, comes, queue, far)))))
def fX5_door (thrown : Int32) (now : Nat → Int32) (hist : Nat → Nat → Int32) (kept : Int32) (reason : Int32) (detail : Int32) (comes : Nat → Int32) (queue : Nat → Int32) (far : Nat → Int32) (isInText : Int32) (p0 : Int32) : Option (Int32 × Int32 × (Nat → Int32) × (Nat → Nat → Int32) × Int32 × Int32 × Int32 × (Nat → Int32) × (Nat → Int32) × (Nat → Int32)) := (zbd (fX5_isSquare p0) (fun u1 => (if u1 = 0 then (fX5_door_14  isInText  thrown now hist kept reason detail comes queue far p0 (1 : Int32) (1 : Int32)) else (fX5_door_14  isInText  thrown now hist kept reason detail comes queue far p0 (0 : Int32) (1 : Int32)))))
set_option maxHeartbeats 400000 in
set_option maxRecDepth 100000 in
theorem wX5_door_103 {p : Program} {l : Launch} {e : Env} {s : State} {m : MethodId} {args : Array Value} {below : List Frame} {meth : Method} {c : Code} {A : Nat → Prop} {Q : State → Prop} {G : va_G} {k : Nat → ClassId} {ad : Nat → Nat} {saved : Nat → Int32} {isSaved : Int32} {isInText : Int32} {ahead : Nat → Int32} {roomAt : Nat → Int32} {rooms : Int32} {text : Nat → Int32} {length : Int32} {at_ : Int32} {errorPosition : Int32} {toldFrom : Int32} {toldTo : Int32} {isWrong : Int32} {before : Nat → Int32} {o : Int32 × Int32 × (Nat → Int32) × (Nat → Nat → Int32) × Int32 × Int32 × Int32 × (Nat → Int32) × (Nat → Int32) × (Nat → Int32)} (C0 : zCx p s m args meth c wsX5_door cX5_door RX5 (some .int) 3) (hK : zKK G k A s s.heap) (hA : ∀ q : Nat, s.heap.size ≤ q → A q) (hret : zRI p l e rmX5_door s m args below meth c cX5_door G A 0 0 Q .int (zM ad k o.2.1 o.2.2.1 saved o.2.2.2.1 o.2.2.2.2.1 o.2.2.2.2.2.1 o.2.2.2.2.2.2.1 isSaved o.2.2.2.2.2.2.2.1 o.2.2.2.2.2.2.2.2.1 o.2.2.2.2.2.2.2.2.2 isInText ahead roomAt rooms text length at_ errorPosition toldFrom toldTo isWrong before) o.1)  : ∀ (thrown : Int32) (now : Nat → Int32) (hist : Nat → Nat → Int32) (kept : Int32) (reason : Int32) (detail : Int32) (comes : Nat → Int32) (queue : Nat → Int32) (far : Nat → Int32) (x1 : Int32) (s0 : Int32) (s1 : Int32), fX5_door_103  isInText thrown now hist kept reason detail comes queue far x1 s0 s1 = some o → ∀ (H : Heap) (locs : List Loc) (ls : Array Slot), zWd G A s (zM ad k thrown now saved hist kept reason detail isSaved comes queue far isInText ahead roomAt rooms text length at_ errorPosition toldFrom toldTo isWrong before) H locs → lv_has ls 3 [(0, .ref (ad 0)), (1, .int x1)] → W p l e rmX5_door s m args below meth c H locs 0 0 Q (F0 m 103 ls [.int s0, .int s1, .ref (ad 0)]) := by
  obtain ⟨hx, hb, hr, hml, hown, hts, hlocks⟩ := id C0
  intro thrown now hist kept reason detail comes queue far x1 s0 s1 hF H locs ls hw hl
  unfold fX5_door_103 at hF
  obtain ⟨u1, hq2, hF⟩ := zbd_t hF
  refine zgoIw (w' := (zM ad k u1.2 now saved hist kept reason detail isSaved comes queue far isInText ahead roomAt rooms text length at_ errorPosition toldFrom toldTo isWrong before)) hw hA (zVw (As := [.int s1, .int s0]) (rest := []) ⟨hx, hb, hml, hown, hts⟩ (mX5_fails l G k ad H.size thrown now saved hist kept reason detail isSaved comes queue far isInText ahead roomAt rooms text length at_ errorPosition toldFrom toldTo isWrong before s1 s0 u1 hq2) (cwV 2 hts gX5_door_X5_fails rfl rfl rfl kdX5_fails ⟨Nat.le_of_ble_eq_true rfl, Nat.le_of_ble_eq_true rfl⟩) hK hA hw 0 rfl rfl rfl rfl hl.1 rfl (Nat.le_of_ble_eq_true rfl) dX5_door_103 ⟨Nat.le_of_ble_eq_true rfl, Nat.le_of_ble_eq_true rfl⟩) (fun H locs hw => ?_)
  refine lv_if_eq (tgt := 111) hx hb dX5_door_106 (by decide) (fun hc => ?_) (fun hc => ?_)
  · have hF := zif_t hc hF
    refine lv_aload_n hx hb dX5_door_111 rfl (lv_at hl 0 rfl) ?_
    obtain ⟨u3, hq4, hF⟩ := zbd_t hF
    refine zgoVw (w' := (zM ad k u1.2 now saved u3.1 u3.2 reason detail isSaved comes queue far isInText ahead roomAt rooms text length at_ errorPosition toldFrom toldTo isWrong before)) hw hA (zVw (As := []) (rest := []) ⟨hx, hb, hml, hown, hts⟩ (mX5_change l G k ad H.size u1.2 now saved hist kept reason detail isSaved comes queue far isInText ahead roomAt rooms text length at_ errorPosition toldFrom toldTo isWrong before  u3 hq4) (cwV 0 hts gX5_door_X5_change rfl rfl rfl kdX5_change ⟨Nat.le_of_ble_eq_true rfl, Nat.le_of_ble_eq_true rfl⟩) hK hA hw 0 rfl rfl rfl rfl hl.1 rfl (Nat.le_of_ble_eq_true rfl) dX5_door_112 ⟨Nat.le_of_ble_eq_true rfl, Nat.le_of_ble_eq_true rfl⟩) (fun H locs hw => ?_)
    refine lv_aload_n hx hb dX5_door_115 rfl (lv_at hl 0 rfl) ?_
    obtain ⟨u5, hq6, hF⟩ := zbd_t hF
    refine zgoIw (w' := (zM ad k u1.2 now saved u3.1 u3.2 reason detail isSaved comes queue far isInText ahead roomAt rooms text length at_ errorPosition toldFrom toldTo isWrong before)) hw hA (zVw (As := []) (rest := []) ⟨hx, hb, hml, hown, hts⟩ (mX5_turn l G k ad H.size u1.2 now saved u3.1 u3.2 reason detail isSaved comes queue far isInText ahead roomAt rooms text length at_ errorPosition toldFrom toldTo isWrong before  u5 hq6) (cwV 0 hts gX5_door_X5_turn rfl rfl rfl kdX5_turn ⟨Nat.le_of_ble_eq_true rfl, Nat.le_of_ble_eq_true rfl⟩) hK hA hw 0 rfl rfl rfl rfl hl.1 rfl (Nat.le_of_ble_eq_true rfl) dX5_door_116 ⟨Nat.le_of_ble_eq_true rfl, Nat.le_of_ble_eq_true rfl⟩) (fun H locs hw => ?_)
    refine lv_istore_n (lv' := [(2, .int u5), (0, .ref (ad 0)), (1, .int x1)]) hx hb dX5_door_119 rfl hl (by decide) rfl (fun ls hl => ?_)
    refine lv_aload_n hx hb dX5_door_120 rfl (lv_at hl 1 rfl) ?_
    refine va_get (D := G) (ci := 4) (v := .ref (ad 1)) (C := RX5) (T := TX5) (N := 23) hx hb hts inX5_door_X5 hown hK.1 hw.1 0 rfl rfl 1 (by decide) (hts (.fieldLink RX5 9 "SealedBoardModel" "now" "[I") (by decide +kernel)) (fun _ h9 => h9) rfl dX5_door_121 ?_
    refine lv_iload_n hx hb dX5_door_124 rfl (lv_at hl 2 rfl) ?_
    refine lv_iconst (v := (0 : Int32)) hx hb dX5_door_125 (by decide) ?_
    obtain ⟨hi7, hF⟩ := zck_in hF
    refine va_iast hx hb hK.1 hw.1 hw.2.1 hw.2.2 1 2 rfl rfl hi7 dX5_door_126 (fun H locs hP hD hS => ?_)
    have hw : zWd G A s (zM ad k u1.2 (upd now x1.toNatClampNeg (0 : Int32)) saved u3.1 u3.2 reason detail isSaved comes queue far isInText ahead roomAt rooms text length at_ errorPosition toldFrom toldTo isWrong before) H locs := ⟨hP, hD, hS⟩
    refine lv_aload_n hx hb dX5_door_127 rfl (lv_at hl 1 rfl) ?_
    refine va_get (D := G) (ci := 4) (v := .ref (ad 1)) (C := RX5) (T := TX5) (N := 23) hx hb hts inX5_door_X5 hown hK.1 hw.1 0 rfl rfl 1 (by decide) (hts (.fieldLink RX5 9 "SealedBoardModel" "now" "[I") (by decide +kernel)) (fun _ h9 => h9) rfl dX5_door_128 ?_
    refine lv_bipush (v := (36 : Int32)) hx hb dX5_door_131 (by decide) ?_
    refine lv_iload_n hx hb dX5_door_133 rfl (lv_at hl 2 rfl) ?_
    refine lv_iadd hx hb dX5_door_134 ?_
    refine lv_iload_n hx hb dX5_door_135 rfl (lv_at hl 0 rfl) ?_
    refine lv_iconst (v := (1 : Int32)) hx hb dX5_door_136 (by decide) ?_
    refine lv_iadd hx hb dX5_door_137 ?_
    obtain ⟨hi8, hF⟩ := zck_in hF
    refine va_iast hx hb hK.1 hw.1 hw.2.1 hw.2.2 1 2 rfl rfl hi8 dX5_door_138 (fun H locs hP hD hS => ?_)
    have hw : zWd G A s (zM ad k u1.2 (upd (upd now x1.toNatClampNeg (0 : Int32)) ((36 : Int32) + x1).toNatClampNeg (u5 + (1 : Int32))) saved u3.1 u3.2 reason detail isSaved comes queue far isInText ahead roomAt rooms text length at_ errorPosition toldFrom toldTo isWrong before) H locs := ⟨hP, hD, hS⟩
    refine lv_aload_n hx hb dX5_door_139 rfl (lv_at hl 1 rfl) ?_
    refine va_get (D := G) (ci := 4) (v := .ref (ad 1)) (C := RX5) (T := TX5) (N := 23) hx hb hts inX5_door_X5 hown hK.1 hw.1 0 rfl rfl 1 (by decide) (hts (.fieldLink RX5 9 "SealedBoardModel" "now" "[I") (by decide +kernel)) (fun _ h9 => h9) rfl dX5_door_140 ?_
    refine lv_bipush (v := (72 : Int32)) hx hb dX5_door_143 (by decide) ?_
    refine lv_iload_n hx hb dX5_door_145 rfl (lv_at hl 0 rfl) ?_
    refine lv_iadd hx hb dX5_door_146 ?_
    refine lv_topi (fun a9 ea9 => ?_)
    have hF := zbn_t ea9 hF
    refine lv_dup2_11 hx hb dX5_door_147 rfl rfl ?_
    obtain ⟨hi10, hF⟩ := zck_in hF
    refine va_iald hx hb hK.1 hw.1 1 2 rfl rfl hi10 dX5_door_148 ?_
    refine lv_iconst (v := (3 : Int32)) hx hb dX5_door_149 (by decide) ?_
    refine lv_isub hx hb dX5_door_150 ?_
    obtain ⟨hi11, hF⟩ := zck_in hF
    refine va_iast hx hb hK.1 hw.1 hw.2.1 hw.2.2 1 2 rfl rfl hi11 dX5_door_151 (fun H locs hP hD hS => ?_)
    have hw : zWd G A s (zM ad k u1.2 (upd (upd (upd now x1.toNatClampNeg (0 : Int32)) ((36 : Int32) + x1).toNatClampNeg (u5 + (1 : Int32))) a9.toNatClampNeg (((upd (upd now x1.toNatClampNeg (0 : Int32)) ((36 : Int32) + x1).toNatClampNeg (u5 + (1 : Int32))) a9.toNatClampNeg) - (3 : Int32))) saved u3.1 u3.2 reason detail isSaved comes queue far isInText ahead roomAt rooms text length at_ errorPosition toldFrom toldTo isWrong before) H locs := ⟨hP, hD, hS⟩
    refine lv_aload_n hx hb dX5_door_152 rfl (lv_at hl 1 rfl) ?_
    refine lv_iload_n hx hb dX5_door_153 rfl (lv_at hl 0 rfl) ?_
    refine lv_iconst (v := (0 : Int32)) hx hb dX5_door_154 (by decide) ?_
    obtain ⟨u12, hq13, hF⟩ := zbd_t hF
    refine zgoVw (w' := (zM ad k u1.2 u12.1 saved u3.1 u3.2 reason detail isSaved u12.2.1 u12.2.2.1 u12.2.2.2 isInText ahead roomAt rooms text length at_ errorPosition toldFrom toldTo isWrong before)) hw hA (zVw (As := [.int u5, .int (0 : Int32)]) (rest := []) ⟨hx, hb, hml, hown, hts⟩ (mX5_endTurn l G k ad H.size u1.2 (upd (upd (upd now x1.toNatClampNeg (0 : Int32)) ((36 : Int32) + x1).toNatClampNeg (u5 + (1 : Int32))) a9.toNatClampNeg (((upd (upd now x1.toNatClampNeg (0 : Int32)) ((36 : Int32) + x1).toNatClampNeg (u5 + (1 : Int32))) a9.toNatClampNeg) - (3 : Int32))) saved u3.1 u3.2 reason detail isSaved comes queue far isInText ahead roomAt rooms text length at_ errorPosition toldFrom toldTo isWrong before u5 (0 : Int32) u12 hq13) (cwV 2 hts gX5_door_X5_endTurn rfl rfl rfl kdX5_endTurn ⟨Nat.le_of_ble_eq_true rfl, Nat.le_of_ble_eq_true rfl⟩) hK hA hw 0 rfl rfl rfl rfl hl.1 rfl (Nat.le_of_ble_eq_true rfl) dX5_door_155 ⟨Nat.le_of_ble_eq_true rfl, Nat.le_of_ble_eq_true rfl⟩) (fun H locs hw => ?_)
    refine lv_aload_n hx hb dX5_door_158 rfl (lv_at hl 1 rfl) ?_
    refine va_get (D := G) (ci := 4) (v := .ref (ad 1)) (C := RX5) (T := TX5) (N := 23) hx hb hts inX5_door_X5 hown hK.1 hw.1 0 rfl rfl 1 (by decide) (hts (.fieldLink RX5 9 "SealedBoardModel" "now" "[I") (by decide +kernel)) (fun _ h9 => h9) rfl dX5_door_159 ?_
    refine lv_bipush (v := (72 : Int32)) hx hb dX5_door_162 (by decide) ?_
    refine lv_iload_n hx hb dX5_door_164 rfl (lv_at hl 0 rfl) ?_
    refine lv_iadd hx hb dX5_door_165 ?_
    obtain ⟨hi14, hF⟩ := zck_in hF
    refine va_iald hx hb hK.1 hw.1 1 2 rfl rfl hi14 dX5_door_166 ?_
    obtain rfl := Option.some.inj hF
    exact hret _ _ _ _ rfl hw dX5_door_167
  · have hF := zif_f hc hF
    refine lv_iconst (v := (0 : Int32)) hx hb dX5_door_109 (by decide) ?_
    obtain rfl := Option.some.inj hF
    exact hret _ _ _ _ rfl hw dX5_door_110
set_option maxHeartbeats 400000 in
set_option maxRecDepth 100000 in
theorem wX5_door_98 {p : Program} {l : Launch} {e : Env} {s : State} {m : MethodId} {args : Array Value} {below : List Frame} {meth : Method} {c : Code} {A : Nat → Prop} {Q : State → Prop} {G : va_G} {k : Nat → ClassId} {ad : Nat → Nat} {saved : Nat → Int32} {isSaved : Int32} {isInText : Int32} {ahead : Nat → Int32} {roomAt : Nat → Int32} {rooms : Int32} {text : Nat → Int32} {length : Int32} {at_ : Int32} {errorPosition : Int32} {toldFrom : Int32} {toldTo : Int32} {isWrong : Int32} {before : Nat → Int32} {o : Int32 × Int32 × (Nat → Int32) × (Nat → Nat → Int32) × Int32 × Int32 × Int32 × (Nat → Int32) × (Nat → Int32) × (Nat → Int32)} (C0 : zCx p s m args meth c wsX5_door cX5_door RX5 (some .int) 3) (hK : zKK G k A s s.heap) (hA : ∀ q : Nat, s.heap.size ≤ q → A q) (hret : zRI p l e rmX5_door s m args below meth c cX5_door G A 0 0 Q .int (zM ad k o.2.1 o.2.2.1 saved o.2.2.2.1 o.2.2.2.2.1 o.2.2.2.2.2.1 o.2.2.2.2.2.2.1 isSaved o.2.2.2.2.2.2.2.1 o.2.2.2.2.2.2.2.2.1 o.2.2.2.2.2.2.2.2.2 isInText ahead roomAt rooms text length at_ errorPosition toldFrom toldTo isWrong before) o.1)  : ∀ (thrown : Int32) (now : Nat → Int32) (hist : Nat → Nat → Int32) (kept : Int32) (reason : Int32) (detail : Int32) (comes : Nat → Int32) (queue : Nat → Int32) (far : Nat → Int32) (x1 : Int32) (s0 : Int32), fX5_door_98  isInText thrown now hist kept reason detail comes queue far x1 s0 = some o → ∀ (H : Heap) (locs : List Loc) (ls : Array Slot), zWd G A s (zM ad k thrown now saved hist kept reason detail isSaved comes queue far isInText ahead roomAt rooms text length at_ errorPosition toldFrom toldTo isWrong before) H locs → lv_has ls 3 [(0, .ref (ad 0)), (1, .int x1)] → W p l e rmX5_door s m args below meth c H locs 0 0 Q (F0 m 98 ls [.int s0, .ref (ad 0)]) := by
  obtain ⟨hx, hb, hr, hml, hown, hts, hlocks⟩ := id C0
  intro thrown now hist kept reason detail comes queue far x1 s0 hF H locs ls hw hl
  unfold fX5_door_98 at hF
  refine lv_iconst (v := (1 : Int32)) hx hb dX5_door_98 (by decide) ?_
  refine lv_goto (tgt := 103) hx hb dX5_door_99 (by decide) ?_
  exact wX5_door_103 C0 hK hA hret   _ _ _ _ _ _ _ _ _ _ _ _ hF _ _ _ hw (lv_sub hl [0, 1] rfl)
set_option maxHeartbeats 400000 in
set_option maxRecDepth 100000 in
theorem wX5_door_81 {p : Program} {l : Launch} {e : Env} {s : State} {m : MethodId} {args : Array Value} {below : List Frame} {meth : Method} {c : Code} {A : Nat → Prop} {Q : State → Prop} {G : va_G} {k : Nat → ClassId} {ad : Nat → Nat} {saved : Nat → Int32} {isSaved : Int32} {isInText : Int32} {ahead : Nat → Int32} {roomAt : Nat → Int32} {rooms : Int32} {text : Nat → Int32} {length : Int32} {at_ : Int32} {errorPosition : Int32} {toldFrom : Int32} {toldTo : Int32} {isWrong : Int32} {before : Nat → Int32} {o : Int32 × Int32 × (Nat → Int32) × (Nat → Nat → Int32) × Int32 × Int32 × Int32 × (Nat → Int32) × (Nat → Int32) × (Nat → Int32)} (C0 : zCx p s m args meth c wsX5_door cX5_door RX5 (some .int) 3) (hK : zKK G k A s s.heap) (hA : ∀ q : Nat, s.heap.size ≤ q → A q) (hret : zRI p l e rmX5_door s m args below meth c cX5_door G A 0 0 Q .int (zM ad k o.2.1 o.2.2.1 saved o.2.2.2.1 o.2.2.2.2.1 o.2.2.2.2.2.1 o.2.2.2.2.2.2.1 isSaved o.2.2.2.2.2.2.2.1 o.2.2.2.2.2.2.2.2.1 o.2.2.2.2.2.2.2.2.2 isInText ahead roomAt rooms text length at_ errorPosition toldFrom toldTo isWrong before) o.1)  : ∀ (thrown : Int32) (now : Nat → Int32) (hist : Nat → Nat → Int32) (kept : Int32) (reason : Int32) (detail : Int32) (comes : Nat → Int32) (queue : Nat → Int32) (far : Nat → Int32) (x1 : Int32) (s0 : Int32) (s2 : Int32), fX5_door_81  isInText thrown now hist kept reason detail comes queue far x1 s0 s2 = some o → ∀ (H : Heap) (locs : List Loc) (ls : Array Slot), zWd G A s (zM ad k thrown now saved hist kept reason detail isSaved comes queue far isInText ahead roomAt rooms text length at_ errorPosition toldFrom toldTo isWrong before) H locs → lv_has ls 3 [(0, .ref (ad 0)), (1, .int x1)] → W p l e rmX5_door s m args below meth c H locs 0 0 Q (F0 m 81 ls [.int s0, .ref (ad 0), .int s2, .ref (ad 0)]) := by
  obtain ⟨hx, hb, hr, hml, hown, hts, hlocks⟩ := id C0
  intro thrown now hist kept reason detail comes queue far x1 s0 s2 hF H locs ls hw hl
  unfold fX5_door_81 at hF
  refine lv_bipush (v := (6 : Int32)) hx hb dX5_door_81 (by decide) ?_
  refine lv_iload_n hx hb dX5_door_83 rfl (lv_at hl 1 rfl) ?_
  obtain ⟨u1, hq2, hF⟩ := zbd_t hF
  refine zgoIw (w' := (zM ad k thrown now saved hist kept u1.2.1 u1.2.2 isSaved comes queue far isInText ahead roomAt rooms text length at_ errorPosition toldFrom toldTo isWrong before)) hw hA (zVw (As := [.int s0, .int (6 : Int32), .int x1]) (rest := [.int s2, .ref (ad 0)]) ⟨hx, hb, hml, hown, hts⟩ (mX5_refuse l G k ad H.size thrown now saved hist kept reason detail isSaved comes queue far isInText ahead roomAt rooms text length at_ errorPosition toldFrom toldTo isWrong before s0 (6 : Int32) x1 u1 hq2) (cwV 3 hts gX5_door_X5_refuse rfl rfl rfl kdX5_refuse ⟨Nat.le_of_ble_eq_true rfl, Nat.le_of_ble_eq_true rfl⟩) hK hA hw 0 rfl rfl rfl rfl hl.1 rfl (Nat.le_of_ble_eq_true rfl) dX5_door_84 ⟨Nat.le_of_ble_eq_true rfl, Nat.le_of_ble_eq_true rfl⟩) (fun H locs hw => ?_)
  refine lv_if_ne (tgt := 98) hx hb dX5_door_87 (by decide) (fun hc => ?_) (fun hc => ?_)
  · have hF := zif_f hc hF
    exact wX5_door_98 C0 hK hA hret   _ _ _ _ _ _ _ _ _ _ _ hF _ _ _ hw (lv_sub hl [0, 1] rfl)
  · have hF := zif_t hc hF
    refine lv_aload_n hx hb dX5_door_90 rfl (lv_at hl 0 rfl) ?_
    refine lv_iconst (v := (3 : Int32)) hx hb dX5_door_91 (by decide) ?_
    obtain ⟨u3, hq4, hF⟩ := zbd_t hF
    refine zgoIw (w' := (zM ad k thrown now saved hist kept u3.2.1 u3.2.2 isSaved comes queue far isInText ahead roomAt rooms text length at_ errorPosition toldFrom toldTo isWrong before)) hw hA (zVw (As := [.int (3 : Int32)]) (rest := [.int s2, .ref (ad 0)]) ⟨hx, hb, hml, hown, hts⟩ (mX5_isTooDear l G k ad H.size thrown now saved hist kept u1.2.1 u1.2.2 isSaved comes queue far isInText ahead roomAt rooms text length at_ errorPosition toldFrom toldTo isWrong before (3 : Int32) u3 hq4) (cwV 1 hts gX5_door_X5_isTooDear rfl rfl rfl kdX5_isTooDear ⟨Nat.le_of_ble_eq_true rfl, Nat.le_of_ble_eq_true rfl⟩) hK hA hw 0 rfl rfl rfl rfl hl.1 rfl (Nat.le_of_ble_eq_true rfl) dX5_door_92 ⟨Nat.le_of_ble_eq_true rfl, Nat.le_of_ble_eq_true rfl⟩) (fun H locs hw => ?_)
    refine lv_if_eq (tgt := 102) hx hb dX5_door_95 (by decide) (fun hc => ?_) (fun hc => ?_)
    · have hF := zif_t hc hF
      refine lv_iconst (v := (0 : Int32)) hx hb dX5_door_102 (by decide) ?_
      exact wX5_door_103 C0 hK hA hret   _ _ _ _ _ _ _ _ _ _ _ _ hF _ _ _ hw (lv_sub hl [0, 1] rfl)
    · have hF := zif_f hc hF
      exact wX5_door_98 C0 hK hA hret   _ _ _ _ _ _ _ _ _ _ _ hF _ _ _ hw (lv_sub hl [0, 1] rfl)
set_option maxHeartbeats 400000 in
set_option maxRecDepth 100000 in
theorem wX5_door_55 {p : Program} {l : Launch} {e : Env} {s : State} {m : MethodId} {args : Array Value} {below : List Frame} {meth : Method} {c : Code} {A : Nat → Prop} {Q : State → Prop} {G : va_G} {k : Nat → ClassId} {ad : Nat → Nat} {saved : Nat → Int32} {isSaved : Int32} {isInText : Int32} {ahead : Nat → Int32} {roomAt : Nat → Int32} {rooms : Int32} {text : Nat → Int32} {length : Int32} {at_ : Int32} {errorPosition : Int32} {toldFrom : Int32} {toldTo : Int32} {isWrong : Int32} {before : Nat → Int32} {o : Int32 × Int32 × (Nat → Int32) × (Nat → Nat → Int32) × Int32 × Int32 × Int32 × (Nat → Int32) × (Nat → Int32) × (Nat → Int32)} (C0 : zCx p s m args meth c wsX5_door cX5_door RX5 (some .int) 3) (hK : zKK G k A s s.heap) (hA : ∀ q : Nat, s.heap.size ≤ q → A q) (hret : zRI p l e rmX5_door s m args below meth c cX5_door G A 0 0 Q .int (zM ad k o.2.1 o.2.2.1 saved o.2.2.2.1 o.2.2.2.2.1 o.2.2.2.2.2.1 o.2.2.2.2.2.2.1 isSaved o.2.2.2.2.2.2.2.1 o.2.2.2.2.2.2.2.2.1 o.2.2.2.2.2.2.2.2.2 isInText ahead roomAt rooms text length at_ errorPosition toldFrom toldTo isWrong before) o.1)  : ∀ (thrown : Int32) (now : Nat → Int32) (hist : Nat → Nat → Int32) (kept : Int32) (reason : Int32) (detail : Int32) (comes : Nat → Int32) (queue : Nat → Int32) (far : Nat → Int32) (x1 : Int32) (s0 : Int32) (s2 : Int32), fX5_door_55  isInText thrown now hist kept reason detail comes queue far x1 s0 s2 = some o → ∀ (H : Heap) (locs : List Loc) (ls : Array Slot), zWd G A s (zM ad k thrown now saved hist kept reason detail isSaved comes queue far isInText ahead roomAt rooms text length at_ errorPosition toldFrom toldTo isWrong before) H locs → lv_has ls 3 [(0, .ref (ad 0)), (1, .int x1)] → W p l e rmX5_door s m args below meth c H locs 0 0 Q (F0 m 55 ls [.int s0, .ref (ad 0), .int s2, .ref (ad 0)]) := by
  obtain ⟨hx, hb, hr, hml, hown, hts, hlocks⟩ := id C0
  intro thrown now hist kept reason detail comes queue far x1 s0 s2 hF H locs ls hw hl
  unfold fX5_door_55 at hF
  refine lv_iconst (v := (4 : Int32)) hx hb dX5_door_55 (by decide) ?_
  refine lv_iload_n hx hb dX5_door_56 rfl (lv_at hl 1 rfl) ?_
  obtain ⟨u1, hq2, hF⟩ := zbd_t hF
  refine zgoIw (w' := (zM ad k thrown now saved hist kept u1.2.1 u1.2.2 isSaved comes queue far isInText ahead roomAt rooms text length at_ errorPosition toldFrom toldTo isWrong before)) hw hA (zVw (As := [.int s0, .int (4 : Int32), .int x1]) (rest := [.int s2, .ref (ad 0)]) ⟨hx, hb, hml, hown, hts⟩ (mX5_refuse l G k ad H.size thrown now saved hist kept reason detail isSaved comes queue far isInText ahead roomAt rooms text length at_ errorPosition toldFrom toldTo isWrong before s0 (4 : Int32) x1 u1 hq2) (cwV 3 hts gX5_door_X5_refuse rfl rfl rfl kdX5_refuse ⟨Nat.le_of_ble_eq_true rfl, Nat.le_of_ble_eq_true rfl⟩) hK hA hw 0 rfl rfl rfl rfl hl.1 rfl (Nat.le_of_ble_eq_true rfl) dX5_door_57 ⟨Nat.le_of_ble_eq_true rfl, Nat.le_of_ble_eq_true rfl⟩) (fun H locs hw => ?_)
  refine lv_if_ne (tgt := 98) hx hb dX5_door_60 (by decide) (fun hc => ?_) (fun hc => ?_)
  · have hF := zif_f hc hF
    exact wX5_door_98 C0 hK hA hret   _ _ _ _ _ _ _ _ _ _ _ hF _ _ _ hw (lv_sub hl [0, 1] rfl)
  · have hF := zif_t hc hF
    refine lv_aload_n hx hb dX5_door_63 rfl (lv_at hl 0 rfl) ?_
    refine lv_aload_n hx hb dX5_door_64 rfl (lv_at hl 0 rfl) ?_
    refine lv_iload_n hx hb dX5_door_65 rfl (lv_at hl 1 rfl) ?_
    refine lv_aload_n hx hb dX5_door_66 rfl (lv_at hl 0 rfl) ?_
    obtain ⟨u3, hq4, hF⟩ := zbd_t hF
    refine zgoIw (w' := (zM ad k thrown now saved hist kept u1.2.1 u1.2.2 isSaved comes queue far isInText ahead roomAt rooms text length at_ errorPosition toldFrom toldTo isWrong before)) hw hA (zVw (As := []) (rest := [.int x1, .ref (ad 0), .ref (ad 0), .int s2, .ref (ad 0)]) ⟨hx, hb, hml, hown, hts⟩ (mX5_turn l G k ad H.size thrown now saved hist kept u1.2.1 u1.2.2 isSaved comes queue far isInText ahead roomAt rooms text length at_ errorPosition toldFrom toldTo isWrong before  u3 hq4) (cwV 0 hts gX5_door_X5_turn rfl rfl rfl kdX5_turn ⟨Nat.le_of_ble_eq_true rfl, Nat.le_of_ble_eq_true rfl⟩) hK hA hw 0 rfl rfl rfl rfl hl.1 rfl (Nat.le_of_ble_eq_true rfl) dX5_door_67 ⟨Nat.le_of_ble_eq_true rfl, Nat.le_of_ble_eq_true rfl⟩) (fun H locs hw => ?_)
    obtain ⟨u5, hq6, hF⟩ := zbd_t hF
    refine zgoIw (w' := (zM ad k thrown now saved hist kept u1.2.1 u1.2.2 isSaved comes queue far isInText ahead roomAt rooms text length at_ errorPosition toldFrom toldTo isWrong before)) hw hA (zVw (As := [.int x1, .int u3]) (rest := [.ref (ad 0), .int s2, .ref (ad 0)]) ⟨hx, hb, hml, hown, hts⟩ (mX5_isBeside l G k ad H.size thrown now saved hist kept u1.2.1 u1.2.2 isSaved comes queue far isInText ahead roomAt rooms text length at_ errorPosition toldFrom toldTo isWrong before x1 u3 u5 hq6) (cwV 2 hts gX5_door_X5_isBeside rfl rfl rfl kdX5_isBeside ⟨Nat.le_of_ble_eq_true rfl, Nat.le_of_ble_eq_true rfl⟩) hK hA hw 0 rfl rfl rfl rfl hl.1 rfl (Nat.le_of_ble_eq_true rfl) dX5_door_70 ⟨Nat.le_of_ble_eq_true rfl, Nat.le_of_ble_eq_true rfl⟩) (fun H locs hw => ?_)
    refine lv_if_ne (tgt := 80) hx hb dX5_door_73 (by decide) (fun hc => ?_) (fun hc => ?_)
    · have hF := zif_f hc hF
      refine lv_iconst (v := (0 : Int32)) hx hb dX5_door_80 (by decide) ?_
      exact wX5_door_81 C0 hK hA hret   _ _ _ _ _ _ _ _ _ _ _ _ hF _ _ _ hw (lv_sub hl [0, 1] rfl)
    · have hF := zif_t hc hF
      refine lv_iconst (v := (1 : Int32)) hx hb dX5_door_76 (by decide) ?_
      refine lv_goto (tgt := 81) hx hb dX5_door_77 (by decide) ?_
      exact wX5_door_81 C0 hK hA hret   _ _ _ _ _ _ _ _ _ _ _ _ hF _ _ _ hw (lv_sub hl [0, 1] rfl)
set_option maxHeartbeats 400000 in
set_option maxRecDepth 100000 in
theorem wX5_door_14 {p : Program} {l : Launch} {e : Env} {s : State} {m : MethodId} {args : Array Value} {below : List Frame} {meth : Method} {c : Code} {A : Nat → Prop} {Q : State → Prop} {G : va_G} {k : Nat → ClassId} {ad : Nat → Nat} {saved : Nat → Int32} {isSaved : Int32} {isInText : Int32} {ahead : Nat → Int32} {roomAt : Nat → Int32} {rooms : Int32} {text : Nat → Int32} {length : Int32} {at_ : Int32} {errorPosition : Int32} {toldFrom : Int32} {toldTo : Int32} {isWrong : Int32} {before : Nat → Int32} {o : Int32 × Int32 × (Nat → Int32) × (Nat → Nat → Int32) × Int32 × Int32 × Int32 × (Nat → Int32) × (Nat → Int32) × (Nat → Int32)} (C0 : zCx p s m args meth c wsX5_door cX5_door RX5 (some .int) 3) (hK : zKK G k A s s.heap) (hA : ∀ q : Nat, s.heap.size ≤ q → A q) (hret : zRI p l e rmX5_door s m args below meth c cX5_door G A 0 0 Q .int (zM ad k o.2.1 o.2.2.1 saved o.2.2.2.1 o.2.2.2.2.1 o.2.2.2.2.2.1 o.2.2.2.2.2.2.1 isSaved o.2.2.2.2.2.2.2.1 o.2.2.2.2.2.2.2.2.1 o.2.2.2.2.2.2.2.2.2 isInText ahead roomAt rooms text length at_ errorPosition toldFrom toldTo isWrong before) o.1)  : ∀ (thrown : Int32) (now : Nat → Int32) (hist : Nat → Nat → Int32) (kept : Int32) (reason : Int32) (detail : Int32) (comes : Nat → Int32) (queue : Nat → Int32) (far : Nat → Int32) (x1 : Int32) (s0 : Int32) (s1 : Int32), fX5_door_14  isInText thrown now hist kept reason detail comes queue far x1 s0 s1 = some o → ∀ (H : Heap) (locs : List Loc) (ls : Array Slot), zWd G A s (zM ad k thrown now saved hist kept reason detail isSaved comes queue far isInText ahead roomAt rooms text length at_ errorPosition toldFrom toldTo isWrong before) H locs → lv_has ls 3 [(0, .ref (ad 0)), (1, .int x1)] → W p l e rmX5_door s m args below meth c H locs 0 0 Q (F0 m 14 ls [.int s0, .int s1, .ref (ad 0)]) := by
  obtain ⟨hx, hb, hr, hml, hown, hts, hlocks⟩ := id C0
  intro thrown now hist kept reason detail comes queue far x1 s0 s1 hF H locs ls hw hl
  unfold fX5_door_14 at hF
  obtain ⟨u1, hq2, hF⟩ := zbd_t hF
  refine zgoIw (w' := (zM ad k u1.2 now saved hist kept reason detail isSaved comes queue far isInText ahead roomAt rooms text length at_ errorPosition toldFrom toldTo isWrong before)) hw hA (zVw (As := [.int s1, .int s0]) (rest := []) ⟨hx, hb, hml, hown, hts⟩ (mX5_fails l G k ad H.size thrown now saved hist kept reason detail isSaved comes queue far isInText ahead roomAt rooms text length at_ errorPosition toldFrom toldTo isWrong before s1 s0 u1 hq2) (cwV 2 hts gX5_door_X5_fails rfl rfl rfl kdX5_fails ⟨Nat.le_of_ble_eq_true rfl, Nat.le_of_ble_eq_true rfl⟩) hK hA hw 0 rfl rfl rfl rfl hl.1 rfl (Nat.le_of_ble_eq_true rfl) dX5_door_14 ⟨Nat.le_of_ble_eq_true rfl, Nat.le_of_ble_eq_true rfl⟩) (fun H locs hw => ?_)
  refine lv_if_ne (tgt := 109) hx hb dX5_door_17 (by decide) (fun hc => ?_) (fun hc => ?_)
  · have hF := zif_f hc hF
    refine lv_iconst (v := (0 : Int32)) hx hb dX5_door_109 (by decide) ?_
    obtain rfl := Option.some.inj hF
    exact hret _ _ _ _ rfl hw dX5_door_110
  · have hF := zif_t hc hF
    refine lv_aload_n hx hb dX5_door_20 rfl (lv_at hl 0 rfl) ?_
    refine lv_iconst (v := (2 : Int32)) hx hb dX5_door_21 (by decide) ?_
    refine lv_aload_n hx hb dX5_door_22 rfl (lv_at hl 0 rfl) ?_
    refine lv_aload_n hx hb dX5_door_23 rfl (lv_at hl 0 rfl) ?_
    obtain ⟨u3, hq4, hF⟩ := zbd_t hF
    refine zgoIw (w' := (zM ad k u1.2 now saved hist kept reason detail isSaved comes queue far isInText ahead roomAt rooms text length at_ errorPosition toldFrom toldTo isWrong before)) hw hA (zVw (As := []) (rest := [.ref (ad 0), .int (2 : Int32), .ref (ad 0)]) ⟨hx, hb, hml, hown, hts⟩ (mX5_isOver l G k ad H.size u1.2 now saved hist kept reason detail isSaved comes queue far isInText ahead roomAt rooms text length at_ errorPosition toldFrom toldTo isWrong before  u3 hq4) (cwV 0 hts gX5_door_X5_isOver rfl rfl rfl kdX5_isOver ⟨Nat.le_of_ble_eq_true rfl, Nat.le_of_ble_eq_true rfl⟩) hK hA hw 0 rfl rfl rfl rfl hl.1 rfl (Nat.le_of_ble_eq_true rfl) dX5_door_24 ⟨Nat.le_of_ble_eq_true rfl, Nat.le_of_ble_eq_true rfl⟩) (fun H locs hw => ?_)
    refine lv_iconst (v := (1 : Int32)) hx hb dX5_door_27 (by decide) ?_
    refine lv_aload_n hx hb dX5_door_28 rfl (lv_at hl 0 rfl) ?_
    refine va_get (D := G) (ci := 4) (v := .ref (ad 1)) (C := RX5) (T := TX5) (N := 23) hx hb hts inX5_door_X5 hown hK.1 hw.1 0 rfl rfl 1 (by decide) (hts (.fieldLink RX5 9 "SealedBoardModel" "now" "[I") (by decide +kernel)) (fun _ h9 => h9) rfl dX5_door_29 ?_
    refine lv_bipush (v := (74 : Int32)) hx hb dX5_door_32 (by decide) ?_
    obtain ⟨hi5, hF⟩ := zck_in hF
    refine va_iald hx hb hK.1 hw.1 1 2 rfl rfl hi5 dX5_door_34 ?_
    obtain ⟨u6, hq7, hF⟩ := zbd_t hF
    refine zgoIw (w' := (zM ad k u1.2 now saved hist kept u6.2.1 u6.2.2 isSaved comes queue far isInText ahead roomAt rooms text length at_ errorPosition toldFrom toldTo isWrong before)) hw hA (zVw (As := [.int u3, .int (1 : Int32), .int (now (74 : Int32).toNatClampNeg)]) (rest := [.int (2 : Int32), .ref (ad 0)]) ⟨hx, hb, hml, hown, hts⟩ (mX5_refuse l G k ad H.size u1.2 now saved hist kept reason detail isSaved comes queue far isInText ahead roomAt rooms text length at_ errorPosition toldFrom toldTo isWrong before u3 (1 : Int32) (now (74 : Int32).toNatClampNeg) u6 hq7) (cwV 3 hts gX5_door_X5_refuse rfl rfl rfl kdX5_refuse ⟨Nat.le_of_ble_eq_true rfl, Nat.le_of_ble_eq_true rfl⟩) hK hA hw 0 rfl rfl rfl rfl hl.1 rfl (Nat.le_of_ble_eq_true rfl) dX5_door_35 ⟨Nat.le_of_ble_eq_true rfl, Nat.le_of_ble_eq_true rfl⟩) (fun H locs hw => ?_)
    refine lv_if_ne (tgt := 98) hx hb dX5_door_38 (by decide) (fun hc => ?_) (fun hc => ?_)
    · have hF := zif_f hc hF
      exact wX5_door_98 C0 hK hA hret   _ _ _ _ _ _ _ _ _ _ _ hF _ _ _ hw (lv_sub hl [0, 1] rfl)
    · have hF := zif_t hc hF
      refine lv_aload_n hx hb dX5_door_41 rfl (lv_at hl 0 rfl) ?_
      refine lv_aload_n hx hb dX5_door_42 rfl (lv_at hl 0 rfl) ?_
      refine lv_iload_n hx hb dX5_door_43 rfl (lv_at hl 1 rfl) ?_
      obtain ⟨u8, hq9, hF⟩ := zbd_t hF
      refine zgoIw (w' := (zM ad k u1.2 now saved hist kept u6.2.1 u6.2.2 isSaved comes queue far isInText ahead roomAt rooms text length at_ errorPosition toldFrom toldTo isWrong before)) hw hA (zVw (As := [.int x1]) (rest := [.ref (ad 0), .int (2 : Int32), .ref (ad 0)]) ⟨hx, hb, hml, hown, hts⟩ (mX5_isWall l G k ad H.size u1.2 now saved hist kept u6.2.1 u6.2.2 isSaved comes queue far isInText ahead roomAt rooms text length at_ errorPosition toldFrom toldTo isWrong before x1 u8 hq9) (cwV 1 hts gX5_door_X5_isWall rfl rfl rfl kdX5_isWall ⟨Nat.le_of_ble_eq_true rfl, Nat.le_of_ble_eq_true rfl⟩) hK hA hw 0 rfl rfl rfl rfl hl.1 rfl (Nat.le_of_ble_eq_true rfl) dX5_door_44 ⟨Nat.le_of_ble_eq_true rfl, Nat.le_of_ble_eq_true rfl⟩) (fun H locs hw => ?_)
      refine lv_if_ne (tgt := 54) hx hb dX5_door_47 (by decide) (fun hc => ?_) (fun hc => ?_)
      · have hF := zif_f hc hF
        refine lv_iconst (v := (0 : Int32)) hx hb dX5_door_54 (by decide) ?_
        exact wX5_door_55 C0 hK hA hret   _ _ _ _ _ _ _ _ _ _ _ _ hF _ _ _ hw (lv_sub hl [0, 1] rfl)
      · have hF := zif_t hc hF
        refine lv_iconst (v := (1 : Int32)) hx hb dX5_door_50 (by decide) ?_
        refine lv_goto (tgt := 55) hx hb dX5_door_51 (by decide) ?_
        exact wX5_door_55 C0 hK hA hret   _ _ _ _ _ _ _ _ _ _ _ _ hF _ _ _ hw (lv_sub hl [0, 1] rfl)
set_option maxHeartbeats 400000 in
set_option maxRecDepth 100000 in
theorem mX5_door (l : Launch) (G : va_G) (k : Nat → ClassId) (ad : Nat → Nat) (sz : Nat) (thrown : Int32) (now : Nat → Int32) (saved : Nat → Int32) (hist : Nat → Nat → Int32) (kept : Int32) (reason : Int32) (detail : Int32) (isSaved : Int32) (comes : Nat → Int32) (queue : Nat → Int32) (far : Nat → Int32) (isInText : Int32) (ahead : Nat → Int32) (roomAt : Nat → Int32) (rooms : Int32) (text : Nat → Int32) (length : Int32) (at_ : Int32) (errorPosition : Int32) (toldFrom : Int32) (toldTo : Int32) (isWrong : Int32) (before : Nat → Int32) (p0 : Int32) (o : Int32 × Int32 × (Nat → Int32) × (Nat → Nat → Int32) × Int32 × Int32 × Int32 × (Nat → Int32) × (Nat → Int32) × (Nat → Int32)) (hF : fX5_door thrown now hist kept reason detail comes queue far isInText p0 = some o) : zMI l yX5_door wsX5_door rmX5_door G k (zM ad k thrown now saved hist kept reason detail isSaved comes queue far isInText ahead roomAt rooms text length at_ errorPosition toldFrom toldTo isWrong before) sz [.ref (ad 0), .int p0] o.1 (zM ad k o.2.1 o.2.2.1 saved o.2.2.2.1 o.2.2.2.2.1 o.2.2.2.2.2.1 o.2.2.2.2.2.2.1 isSaved o.2.2.2.2.2.2.2.1 o.2.2.2.2.2.2.2.2.1 o.2.2.2.2.2.2.2.2.2 isInText ahead roomAt rooms text length at_ errorPosition toldFrom toldTo isWrong before) := by
  refine zof_I (cc := cX5_door) (nL := 3) (own := RX5) (rt := .int) (by decide) rfl rfl (Nat.le_of_ble_eq_true rfl) ?_
  intro p e s m args below meth c A Q C0 hK hA hret ls hl hw
  have hl : lv_has ls 3 [(0, .ref (ad 0)), (1, .int p0)] := hl
  obtain ⟨hx, hb, hr, hml, hown, hts, hlocks⟩ := id C0
  obtain ⟨H, hH⟩ : ∃ z, z = s.heap := ⟨_, rfl⟩
  rw [← hH] at hw ⊢
  unfold fX5_door at hF
  refine lv_aload_n hx hb dX5_door_0 rfl (lv_at hl 0 rfl) ?_
  refine lv_iconst (v := (1 : Int32)) hx hb dX5_door_1 (by decide) ?_
  refine lv_iload_n hx hb dX5_door_2 rfl (lv_at hl 1 rfl) ?_
  obtain ⟨u1, hq2, hF⟩ := zbd_t hF
  refine zgoI (w' := (zM ad k thrown now saved hist kept reason detail isSaved comes queue far isInText ahead roomAt rooms text length at_ errorPosition toldFrom toldTo isWrong before)) hw hA [] rfl (zS (As := [.int p0]) (rest := [.int (1 : Int32), .ref (ad 0)]) ⟨hx, hb, hml, hown, hts⟩ (mX5_isSquare l G k  H.size  p0 u1 hq2) (va_cwS 1 hts gX5_door_X5_isSquare rfl rfl rfl kdX5_isSquare ⟨Nat.le_of_ble_eq_true rfl, Nat.le_of_ble_eq_true rfl⟩) hK hA hw [] rfl (by decide) rfl hl.1 rfl (Nat.le_of_ble_eq_true rfl) dX5_door_3 ⟨Nat.le_of_ble_eq_true rfl, Nat.le_of_ble_eq_true rfl⟩) rfl rfl rfl (fun H locs hw => ?_)
  refine lv_if_ne (tgt := 13) hx hb dX5_door_6 (by decide) (fun hc => ?_) (fun hc => ?_)
  · have hF := zif_f hc hF
    refine lv_iconst (v := (0 : Int32)) hx hb dX5_door_13 (by decide) ?_
    exact wX5_door_14 C0 hK hA hret   _ _ _ _ _ _ _ _ _ _ _ _ hF _ _ _ hw (lv_sub hl [0, 1] rfl)
  · have hF := zif_t hc hF
    refine lv_iconst (v := (1 : Int32)) hx hb dX5_door_9 (by decide) ?_
    refine lv_goto (tgt := 14) hx hb dX5_door_10 (by decide) ?_
    exact wX5_door_14 C0 hK hA hret   _ _ _ _ _ _ _ _ _ _ _ _ hF _ _ _ hw (lv_sub hl [0, 1] rfl)

/-! SealedBoardModel.isBuyRefused(I)Z -/
abbrev rmX5_isBuyRefused : Room := { frames := 3, cells := 0, slots := 0, locals := 70 }
theorem kdX5_isBuyRefused : yX5_isBuyRefused.cls = RX5 ∧ yX5_isBuyRefused.cls ≠ "java/lang/invoke/MethodHandle" ∧ yX5_isBuyRefused.cls ≠ "java/lang/invoke/VarHandle" ∧ (parseMethodDescriptor yX5_isBuyRefused.desc).map (fun d => d.parameters.length) = some 1 := by decide +kernel
theorem inX5_isBuyRefused_X5 : ∀ w ∈ u_ws RX5 TX5 23, w ∈ wsX5_isBuyRefused := by decide +kernel
def fX5_isBuyRefused_130  (now : Nat → Int32) (reason : Int32) (detail : Int32) (x3 : Int32) (x4 : Int32) (s0 : Int32) : Option (Int32 × Int32 × Int32) := (zbd (fX5_refuse reason detail s0 (7 : Int32) x4) (fun u1 => (if u1.1 = 0 then (zbd (fX5_kindOf x3) (fun u3 => (zbd (fX5_isTooDear now u1.2.1 u1.2.2 ((2 : Int32) + u3)) (fun u5 => (if u5.1 = 0 then (some ((0 : Int32), u5.2.1, u5.2.2)) else (some ((1 : Int32), u5.2.1, u5.2.2))))))) else (some ((1 : Int32), u1.2.1, u1.2.2)))))
def fX5_isBuyRefused_129  (now : Nat → Int32) (reason : Int32) (detail : Int32) (x3 : Int32) (x4 : Int32) : Option (Int32 × Int32 × Int32) := (fX5_isBuyRefused_130  now  reason detail x3 x4 (0 : Int32))
def fX5_isBuyRefused_102  (now : Nat → Int32) (reason : Int32) (detail : Int32) (x1 : Int32) (x3 : Int32) (x4 : Int32) (s0 : Int32) : Option (Int32 × Int32 × Int32) := (zbd (fX5_refuse reason detail s0 (6 : Int32) x1) (fun u1 => (if u1.1 = 0 then (zbd (fX5_kindOf x3) (fun u3 => (if u3 = (3 : Int32) then (if x4 < 0 then (fX5_isBuyRefused_129  now  u1.2.1 u1.2.2 x3 x4) else (fX5_isBuyRefused_130  now  u1.2.1 u1.2.2 x3 x4 (1 : Int32))) else (fX5_isBuyRefused_129  now  u1.2.1 u1.2.2 x3 x4)))) else (some ((1 : Int32), u1.2.1, u1.2.2)))))
def fX5_isBuyRefused_79  (now : Nat → Int32) (reason : Int32) (detail : Int32) (x1 : Int32) (x2 : Int32) (x3 : Int32) (x4 : Int32) (s0 : Int32) : Option (Int32 × Int32 × Int32) := (zbd (fX5_refuse reason detail s0 (5 : Int32) x1) (fun u1 => (if u1.1 = 0 then (zbd (fX5_isBeside now x1 x2) (fun u3 => (if u3 = 0 then (fX5_isBuyRefused_102  now  u1.2.1 u1.2.2 x1 x3 x4 (1 : Int32)) else (fX5_isBuyRefused_102  now  u1.2.1 u1.2.2 x1 x3 x4 (0 : Int32))))) else (some ((1 : Int32), u1.2.1, u1.2.2)))))
def fX5_isBuyRefused_38  (now : Nat → Int32) (reason : Int32) (detail : Int32) (x1 : Int32) (x2 : Int32) (s0 : Int32) : Option (Int32 × Int32 × Int32) := (zbd (fX5_refuse reason detail s0 (4 : Int32) x1) (fun u1 => (if u1.1 = 0 then (zck (zin x1 76) (zbn ((now x1.toNatClampNeg) - (20 : Int32)) (fun a4 => (zbd (fX5_keeperOf now x2) (fun u5 => (zbd (fX5_sideOf a4) (fun u7 => (if u7 = x2 then (fX5_isBuyRefused_79  now  u1.2.1 u1.2.2 x1 x2 a4 u5 (0 : Int32)) else (fX5_isBuyRefused_79  now  u1.2.1 u1.2.2 x1 x2 a4 u5 (1 : Int32)))))))))) else (some ((1 : Int32), u1.2.1, u1.2.2)))))
def fX5_isBuyRefused (now : Nat → Int32) (reason : Int32) (detail : Int32) (p0 : Int32) : Option (Int32 × Int32 × Int32) := (zbd (fX5_turn now) (fun u1 => (zbd (fX5_isOver now) (fun u3 => (zck (zin (74 : Int32) 76) (zbd (fX5_refuse reason detail u3 (1 : Int32) (now (74 : Int32).toNatClampNeg)) (fun u6 => (if u6.1 = 0 then (zbd (fX5_isWall now p0) (fun u8 => (if u8 = 0 then (fX5_isBuyRefused_38  now  u6.2.1 u6.2.2 p0 u1 (1 : Int32)) else (fX5_isBuyRefused_38  now  u6.2.1 u6.2.2 p0 u1 (0 : Int32))))) else (some ((1 : Int32), u6.2.1, u6.2.2))))))))))
set_option maxHeartbeats 400000 in
set_option maxRecDepth 100000 in
theorem wX5_isBuyRefused_130 {p : Program} {l : Launch} {e : Env} {s : State} {m : MethodId} {args : Array Value} {below : List Frame} {meth : Method} {c : Code} {A : Nat → Prop} {Q : State → Prop} {G : va_G} {k : Nat → ClassId} {ad : Nat → Nat} {thrown : Int32} {now : Nat → Int32} {saved : Nat → Int32} {hist : Nat → Nat → Int32} {kept : Int32} {isSaved : Int32} {comes : Nat → Int32} {queue : Nat → Int32} {far : Nat → Int32} {isInText : Int32} {ahead : Nat → Int32} {roomAt : Nat → Int32} {rooms : Int32} {text : Nat → Int32} {length : Int32} {at_ : Int32} {errorPosition : Int32} {toldFrom : Int32} {toldTo : Int32} {isWrong : Int32} {before : Nat → Int32} {o : Int32 × Int32 × Int32} (C0 : zCx p s m args meth c wsX5_isBuyRefused cX5_isBuyRefused RX5 (some .boolean) 5) (hK : zKK G k A s s.heap) (hA : ∀ q : Nat, s.heap.size ≤ q → A q) (hret : zRI p l e rmX5_isBuyRefused s m args below meth c cX5_isBuyRefused G A 0 0 Q .boolean (zM ad k thrown now saved hist kept o.2.1 o.2.2 isSaved comes queue far isInText ahead roomAt rooms text length at_ errorPosition toldFrom toldTo isWrong before) o.1)  : ∀ (reason : Int32) (detail : Int32) (x3 : Int32) (x4 : Int32) (s0 : Int32), fX5_isBuyRefused_130  now reason detail x3 x4 s0 = some o → ∀ (H : Heap) (locs : List Loc) (ls : Array Slot), zWd G A s (zM ad k thrown now saved hist kept reason detail isSaved comes queue far isInText ahead roomAt rooms text length at_ errorPosition toldFrom toldTo isWrong before) H locs → lv_has ls 5 [(0, .ref (ad 0)), (3, .int x3), (4, .int x4)] → W p l e rmX5_isBuyRefused s m args below meth c H locs 0 0 Q (F0 m 130 ls [.int s0, .ref (ad 0)]) := by
  obtain ⟨hx, hb, hr, hml, hown, hts, hlocks⟩ := id C0
  intro reason detail x3 x4 s0 hF H locs ls hw hl
  unfold fX5_isBuyRefused_130 at hF
  refine lv_bipush (v := (7 : Int32)) hx hb dX5_isBuyRefused_130 (by decide) ?_
  refine lv_iload hx hb dX5_isBuyRefused_132 (lv_at hl 2 rfl) ?_
  obtain ⟨u1, hq2, hF⟩ := zbd_t hF
  refine zgoIw (w' := (zM ad k thrown now saved hist kept u1.2.1 u1.2.2 isSaved comes queue far isInText ahead roomAt rooms text length at_ errorPosition toldFrom toldTo isWrong before)) hw hA (zVw (As := [.int s0, .int (7 : Int32), .int x4]) (rest := []) ⟨hx, hb, hml, hown, hts⟩ (mX5_refuse l G k ad H.size thrown now saved hist kept reason detail isSaved comes queue far isInText ahead roomAt rooms text length at_ errorPosition toldFrom toldTo isWrong before s0 (7 : Int32) x4 u1 hq2) (cwV 3 hts gX5_isBuyRefused_X5_refuse rfl rfl rfl kdX5_refuse ⟨Nat.le_of_ble_eq_true rfl, Nat.le_of_ble_eq_true rfl⟩) hK hA hw 0 rfl rfl rfl rfl hl.1 rfl (Nat.le_of_ble_eq_true rfl) dX5_isBuyRefused_134 ⟨Nat.le_of_ble_eq_true rfl, Nat.le_of_ble_eq_true rfl⟩) (fun H locs hw => ?_)
  refine lv_if_ne (tgt := 153) hx hb dX5_isBuyRefused_137 (by decide) (fun hc => ?_) (fun hc => ?_)
  · have hF := zif_f hc hF
    refine lv_iconst (v := (1 : Int32)) hx hb dX5_isBuyRefused_153 (by decide) ?_
    refine lv_goto (tgt := 158) hx hb dX5_isBuyRefused_154 (by decide) ?_
    obtain rfl := Option.some.inj hF
    exact hret _ _ _ _ (zbo_n (x := (1 : Int32)) (by decide)) hw dX5_isBuyRefused_158
  · have hF := zif_t hc hF
    refine lv_aload_n hx hb dX5_isBuyRefused_140 rfl (lv_at hl 0 rfl) ?_
    refine lv_iconst (v := (2 : Int32)) hx hb dX5_isBuyRefused_141 (by decide) ?_
    refine lv_iload_n hx hb dX5_isBuyRefused_142 rfl (lv_at hl 1 rfl) ?_
    obtain ⟨u3, hq4, hF⟩ := zbd_t hF
    refine zgoI (w' := (zM ad k thrown now saved hist kept u1.2.1 u1.2.2 isSaved comes queue far isInText ahead roomAt rooms text length at_ errorPosition toldFrom toldTo isWrong before)) hw hA [] rfl (zS (As := [.int x3]) (rest := [.int (2 : Int32), .ref (ad 0)]) ⟨hx, hb, hml, hown, hts⟩ (mX5_kindOf l G k  H.size  x3 u3 hq4) (va_cwS 1 hts gX5_isBuyRefused_X5_kindOf rfl rfl rfl kdX5_kindOf ⟨Nat.le_of_ble_eq_true rfl, Nat.le_of_ble_eq_true rfl⟩) hK hA hw [] rfl (by decide) rfl hl.1 rfl (Nat.le_of_ble_eq_true rfl) dX5_isBuyRefused_143 ⟨Nat.le_of_ble_eq_true rfl, Nat.le_of_ble_eq_true rfl⟩) rfl rfl rfl (fun H locs hw => ?_)
    refine lv_iadd hx hb dX5_isBuyRefused_146 ?_
    obtain ⟨u5, hq6, hF⟩ := zbd_t hF
    refine zgoIw (w' := (zM ad k thrown now saved hist kept u5.2.1 u5.2.2 isSaved comes queue far isInText ahead roomAt rooms text length at_ errorPosition toldFrom toldTo isWrong before)) hw hA (zVw (As := [.int ((2 : Int32) + u3)]) (rest := []) ⟨hx, hb, hml, hown, hts⟩ (mX5_isTooDear l G k ad H.size thrown now saved hist kept u1.2.1 u1.2.2 isSaved comes queue far isInText ahead roomAt rooms text length at_ errorPosition toldFrom toldTo isWrong before ((2 : Int32) + u3) u5 hq6) (cwV 1 hts gX5_isBuyRefused_X5_isTooDear rfl rfl rfl kdX5_isTooDear ⟨Nat.le_of_ble_eq_true rfl, Nat.le_of_ble_eq_true rfl⟩) hK hA hw 0 rfl rfl rfl rfl hl.1 rfl (Nat.le_of_ble_eq_true rfl) dX5_isBuyRefused_147 ⟨Nat.le_of_ble_eq_true rfl, Nat.le_of_ble_eq_true rfl⟩) (fun H locs hw => ?_)
    refine lv_if_eq (tgt := 157) hx hb dX5_isBuyRefused_150 (by decide) (fun hc => ?_) (fun hc => ?_)
    · have hF := zif_t hc hF
      refine lv_iconst (v := (0 : Int32)) hx hb dX5_isBuyRefused_157 (by decide) ?_
      obtain rfl := Option.some.inj hF
      exact hret _ _ _ _ (zbo_n (x := (0 : Int32)) (by decide)) hw dX5_isBuyRefused_158
    · have hF := zif_f hc hF
      refine lv_iconst (v := (1 : Int32)) hx hb dX5_isBuyRefused_153 (by decide) ?_
      refine lv_goto (tgt := 158) hx hb dX5_isBuyRefused_154 (by decide) ?_
      obtain rfl := Option.some.inj hF
      exact hret _ _ _ _ (zbo_n (x := (1 : Int32)) (by decide)) hw dX5_isBuyRefused_158
set_option maxHeartbeats 400000 in
set_option maxRecDepth 100000 in
theorem wX5_isBuyRefused_129 {p : Program} {l : Launch} {e : Env} {s : State} {m : MethodId} {args : Array Value} {below : List Frame} {meth : Method} {c : Code} {A : Nat → Prop} {Q : State → Prop} {G : va_G} {k : Nat → ClassId} {ad : Nat → Nat} {thrown : Int32} {now : Nat → Int32} {saved : Nat → Int32} {hist : Nat → Nat → Int32} {kept : Int32} {isSaved : Int32} {comes : Nat → Int32} {queue : Nat → Int32} {far : Nat → Int32} {isInText : Int32} {ahead : Nat → Int32} {roomAt : Nat → Int32} {rooms : Int32} {text : Nat → Int32} {length : Int32} {at_ : Int32} {errorPosition : Int32} {toldFrom : Int32} {toldTo : Int32} {isWrong : Int32} {before : Nat → Int32} {o : Int32 × Int32 × Int32} (C0 : zCx p s m args meth c wsX5_isBuyRefused cX5_isBuyRefused RX5 (some .boolean) 5) (hK : zKK G k A s s.heap) (hA : ∀ q : Nat, s.heap.size ≤ q → A q) (hret : zRI p l e rmX5_isBuyRefused s m args below meth c cX5_isBuyRefused G A 0 0 Q .boolean (zM ad k thrown now saved hist kept o.2.1 o.2.2 isSaved comes queue far isInText ahead roomAt rooms text length at_ errorPosition toldFrom toldTo isWrong before) o.1)  : ∀ (reason : Int32) (detail : Int32) (x3 : Int32) (x4 : Int32), fX5_isBuyRefused_129  now reason detail x3 x4 = some o → ∀ (H : Heap) (locs : List Loc) (ls : Array Slot), zWd G A s (zM ad k thrown now saved hist kept reason detail isSaved comes queue far isInText ahead roomAt rooms text length at_ errorPosition toldFrom toldTo isWrong before) H locs → lv_has ls 5 [(0, .ref (ad 0)), (3, .int x3), (4, .int x4)] → W p l e rmX5_isBuyRefused s m args below meth c H locs 0 0 Q (F0 m 129 ls [.ref (ad 0)]) := by
  obtain ⟨hx, hb, hr, hml, hown, hts, hlocks⟩ := id C0
  intro reason detail x3 x4 hF H locs ls hw hl
  unfold fX5_isBuyRefused_129 at hF
  refine lv_iconst (v := (0 : Int32)) hx hb dX5_isBuyRefused_129 (by decide) ?_
  exact wX5_isBuyRefused_130 C0 hK hA hret   _ _ _ _ _ hF _ _ _ hw (lv_sub hl [0, 1, 2] rfl)
set_option maxHeartbeats 400000 in
set_option maxRecDepth 100000 in
theorem wX5_isBuyRefused_102 {p : Program} {l : Launch} {e : Env} {s : State} {m : MethodId} {args : Array Value} {below : List Frame} {meth : Method} {c : Code} {A : Nat → Prop} {Q : State → Prop} {G : va_G} {k : Nat → ClassId} {ad : Nat → Nat} {thrown : Int32} {now : Nat → Int32} {saved : Nat → Int32} {hist : Nat → Nat → Int32} {kept : Int32} {isSaved : Int32} {comes : Nat → Int32} {queue : Nat → Int32} {far : Nat → Int32} {isInText : Int32} {ahead : Nat → Int32} {roomAt : Nat → Int32} {rooms : Int32} {text : Nat → Int32} {length : Int32} {at_ : Int32} {errorPosition : Int32} {toldFrom : Int32} {toldTo : Int32} {isWrong : Int32} {before : Nat → Int32} {o : Int32 × Int32 × Int32} (C0 : zCx p s m args meth c wsX5_isBuyRefused cX5_isBuyRefused RX5 (some .boolean) 5) (hK : zKK G k A s s.heap) (hA : ∀ q : Nat, s.heap.size ≤ q → A q) (hret : zRI p l e rmX5_isBuyRefused s m args below meth c cX5_isBuyRefused G A 0 0 Q .boolean (zM ad k thrown now saved hist kept o.2.1 o.2.2 isSaved comes queue far isInText ahead roomAt rooms text length at_ errorPosition toldFrom toldTo isWrong before) o.1)  : ∀ (reason : Int32) (detail : Int32) (x1 : Int32) (x3 : Int32) (x4 : Int32) (s0 : Int32), fX5_isBuyRefused_102  now reason detail x1 x3 x4 s0 = some o → ∀ (H : Heap) (locs : List Loc) (ls : Array Slot), zWd G A s (zM ad k thrown now saved hist kept reason detail isSaved comes queue far isInText ahead roomAt rooms text length at_ errorPosition toldFrom toldTo isWrong before) H locs → lv_has ls 5 [(0, .ref (ad 0)), (1, .int x1), (3, .int x3), (4, .int x4)] → W p l e rmX5_isBuyRefused s m args below meth c H locs 0 0 Q (F0 m 102 ls [.int s0, .ref (ad 0)]) := by
  obtain ⟨hx, hb, hr, hml, hown, hts, hlocks⟩ := id C0
  intro reason detail x1 x3 x4 s0 hF H locs ls hw hl
  unfold fX5_isBuyRefused_102 at hF
  refine lv_bipush (v := (6 : Int32)) hx hb dX5_isBuyRefused_102 (by decide) ?_
  refine lv_iload_n hx hb dX5_isBuyRefused_104 rfl (lv_at hl 1 rfl) ?_
  obtain ⟨u1, hq2, hF⟩ := zbd_t hF
  refine zgoIw (w' := (zM ad k thrown now saved hist kept u1.2.1 u1.2.2 isSaved comes queue far isInText ahead roomAt rooms text length at_ errorPosition toldFrom toldTo isWrong before)) hw hA (zVw (As := [.int s0, .int (6 : Int32), .int x1]) (rest := []) ⟨hx, hb, hml, hown, hts⟩ (mX5_refuse l G k ad H.size thrown now saved hist kept reason detail isSaved comes queue far isInText ahead roomAt rooms text length at_ errorPosition toldFrom toldTo isWrong before s0 (6 : Int32) x1 u1 hq2) (cwV 3 hts gX5_isBuyRefused_X5_refuse rfl rfl rfl kdX5_refuse ⟨Nat.le_of_ble_eq_true rfl, Nat.le_of_ble_eq_true rfl⟩) hK hA hw 0 rfl rfl rfl rfl hl.1 rfl (Nat.le_of_ble_eq_true rfl) dX5_isBuyRefused_105 ⟨Nat.le_of_ble_eq_true rfl, Nat.le_of_ble_eq_true rfl⟩) (fun H locs hw => ?_)
  refine lv_if_ne (tgt := 153) hx hb dX5_isBuyRefused_108 (by decide) (fun hc => ?_) (fun hc => ?_)
  · have hF := zif_f hc hF
    refine lv_iconst (v := (1 : Int32)) hx hb dX5_isBuyRefused_153 (by decide) ?_
    refine lv_goto (tgt := 158) hx hb dX5_isBuyRefused_154 (by decide) ?_
    obtain rfl := Option.some.inj hF
    exact hret _ _ _ _ (zbo_n (x := (1 : Int32)) (by decide)) hw dX5_isBuyRefused_158
  · have hF := zif_t hc hF
    refine lv_aload_n hx hb dX5_isBuyRefused_111 rfl (lv_at hl 0 rfl) ?_
    refine lv_iload_n hx hb dX5_isBuyRefused_112 rfl (lv_at hl 2 rfl) ?_
    obtain ⟨u3, hq4, hF⟩ := zbd_t hF
    refine zgoI (w' := (zM ad k thrown now saved hist kept u1.2.1 u1.2.2 isSaved comes queue far isInText ahead roomAt rooms text length at_ errorPosition toldFrom toldTo isWrong before)) hw hA [] rfl (zS (As := [.int x3]) (rest := [.ref (ad 0)]) ⟨hx, hb, hml, hown, hts⟩ (mX5_kindOf l G k  H.size  x3 u3 hq4) (va_cwS 1 hts gX5_isBuyRefused_X5_kindOf rfl rfl rfl kdX5_kindOf ⟨Nat.le_of_ble_eq_true rfl, Nat.le_of_ble_eq_true rfl⟩) hK hA hw [] rfl (by decide) rfl hl.1 rfl (Nat.le_of_ble_eq_true rfl) dX5_isBuyRefused_113 ⟨Nat.le_of_ble_eq_true rfl, Nat.le_of_ble_eq_true rfl⟩) rfl rfl rfl (fun H locs hw => ?_)
    refine lv_iconst (v := (3 : Int32)) hx hb dX5_isBuyRefused_116 (by decide) ?_
    refine lv_icmp_ne (tgt := 129) hx hb dX5_isBuyRefused_117 (by decide) (fun hc => ?_) (fun hc => ?_)
    · have hF := zif_f hc hF
      exact wX5_isBuyRefused_129 C0 hK hA hret   _ _ _ _ hF _ _ _ hw (lv_sub hl [0, 2, 3] rfl)
    · have hF := zif_t hc hF
      refine lv_iload hx hb dX5_isBuyRefused_120 (lv_at hl 3 rfl) ?_
      refine lv_if_lt (tgt := 129) hx hb dX5_isBuyRefused_122 (by decide) (fun hc => ?_) (fun hc => ?_)
      · have hF := zif_t hc hF
        exact wX5_isBuyRefused_129 C0 hK hA hret   _ _ _ _ hF _ _ _ hw (lv_sub hl [0, 2, 3] rfl)
      · have hF := zif_f hc hF
        refine lv_iconst (v := (1 : Int32)) hx hb dX5_isBuyRefused_125 (by decide) ?_
        refine lv_goto (tgt := 130) hx hb dX5_isBuyRefused_126 (by decide) ?_
        exact wX5_isBuyRefused_130 C0 hK hA hret   _ _ _ _ _ hF _ _ _ hw (lv_sub hl [0, 2, 3] rfl)
set_option maxHeartbeats 400000 in
set_option maxRecDepth 100000 in
theorem wX5_isBuyRefused_79 {p : Program} {l : Launch} {e : Env} {s : State} {m : MethodId} {args : Array Value} {below : List Frame} {meth : Method} {c : Code} {A : Nat → Prop} {Q : State → Prop} {G : va_G} {k : Nat → ClassId} {ad : Nat → Nat} {thrown : Int32} {now : Nat → Int32} {saved : Nat → Int32} {hist : Nat → Nat → Int32} {kept : Int32} {isSaved : Int32} {comes : Nat → Int32} {queue : Nat → Int32} {far : Nat → Int32} {isInText : Int32} {ahead : Nat → Int32} {roomAt : Nat → Int32} {rooms : Int32} {text : Nat → Int32} {length : Int32} {at_ : Int32} {errorPosition : Int32} {toldFrom : Int32} {toldTo : Int32} {isWrong : Int32} {before : Nat → Int32} {o : Int32 × Int32 × Int32} (C0 : zCx p s m args meth c wsX5_isBuyRefused cX5_isBuyRefused RX5 (some .boolean) 5) (hK : zKK G k A s s.heap) (hA : ∀ q : Nat, s.heap.size ≤ q → A q) (hret : zRI p l e rmX5_isBuyRefused s m args below meth c cX5_isBuyRefused G A 0 0 Q .boolean (zM ad k thrown now saved hist kept o.2.1 o.2.2 isSaved comes queue far isInText ahead roomAt rooms text length at_ errorPosition toldFrom toldTo isWrong before) o.1)  : ∀ (reason : Int32) (detail : Int32) (x1 : Int32) (x2 : Int32) (x3 : Int32) (x4 : Int32) (s0 : Int32), fX5_isBuyRefused_79  now reason detail x1 x2 x3 x4 s0 = some o → ∀ (H : Heap) (locs : List Loc) (ls : Array Slot), zWd G A s (zM ad k thrown now saved hist kept reason detail isSaved comes queue far isInText ahead roomAt rooms text length at_ errorPosition toldFrom toldTo isWrong before) H locs → lv_has ls 5 [(0, .ref (ad 0)), (1, .int x1), (2, .int x2), (3, .int x3), (4, .int x4)] → W p l e rmX5_isBuyRefused s m args below meth c H locs 0 0 Q (F0 m 79 ls [.int s0, .ref (ad 0)]) := by
  obtain ⟨hx, hb, hr, hml, hown, hts, hlocks⟩ := id C0
  intro reason detail x1 x2 x3 x4 s0 hF H locs ls hw hl
  unfold fX5_isBuyRefused_79 at hF
  refine lv_iconst (v := (5 : Int32)) hx hb dX5_isBuyRefused_79 (by decide) ?_
  refine lv_iload_n hx hb dX5_isBuyRefused_80 rfl (lv_at hl 1 rfl) ?_
  obtain ⟨u1, hq2, hF⟩ := zbd_t hF
  refine zgoIw (w' := (zM ad k thrown now saved hist kept u1.2.1 u1.2.2 isSaved comes queue far isInText ahead roomAt rooms text length at_ errorPosition toldFrom toldTo isWrong before)) hw hA (zVw (As := [.int s0, .int (5 : Int32), .int x1]) (rest := []) ⟨hx, hb, hml, hown, hts⟩ (mX5_refuse l G k ad H.size thrown now saved hist kept reason detail isSaved comes queue far isInText ahead roomAt rooms text length at_ errorPosition toldFrom toldTo isWrong before s0 (5 : Int32) x1 u1 hq2) (cwV 3 hts gX5_isBuyRefused_X5_refuse rfl rfl rfl kdX5_refuse ⟨Nat.le_of_ble_eq_true rfl, Nat.le_of_ble_eq_true rfl⟩) hK hA hw 0 rfl rfl rfl rfl hl.1 rfl (Nat.le_of_ble_eq_true rfl) dX5_isBuyRefused_81 ⟨Nat.le_of_ble_eq_true rfl, Nat.le_of_ble_eq_true rfl⟩) (fun H locs hw => ?_)
  refine lv_if_ne (tgt := 153) hx hb dX5_isBuyRefused_84 (by decide) (fun hc => ?_) (fun hc => ?_)
  · have hF := zif_f hc hF
    refine lv_iconst (v := (1 : Int32)) hx hb dX5_isBuyRefused_153 (by decide) ?_
    refine lv_goto (tgt := 158) hx hb dX5_isBuyRefused_154 (by decide) ?_
    obtain rfl := Option.some.inj hF
    exact hret _ _ _ _ (zbo_n (x := (1 : Int32)) (by decide)) hw dX5_isBuyRefused_158
  · have hF := zif_t hc hF
    refine lv_aload_n hx hb dX5_isBuyRefused_87 rfl (lv_at hl 0 rfl) ?_
    refine lv_aload_n hx hb dX5_isBuyRefused_88 rfl (lv_at hl 0 rfl) ?_
    refine lv_iload_n hx hb dX5_isBuyRefused_89 rfl (lv_at hl 1 rfl) ?_
    refine lv_iload_n hx hb dX5_isBuyRefused_90 rfl (lv_at hl 2 rfl) ?_
    obtain ⟨u3, hq4, hF⟩ := zbd_t hF
    refine zgoIw (w' := (zM ad k thrown now saved hist kept u1.2.1 u1.2.2 isSaved comes queue far isInText ahead roomAt rooms text length at_ errorPosition toldFrom toldTo isWrong before)) hw hA (zVw (As := [.int x1, .int x2]) (rest := [.ref (ad 0)]) ⟨hx, hb, hml, hown, hts⟩ (mX5_isBeside l G k ad H.size thrown now saved hist kept u1.2.1 u1.2.2 isSaved comes queue far isInText ahead roomAt rooms text length at_ errorPosition toldFrom toldTo isWrong before x1 x2 u3 hq4) (cwV 2 hts gX5_isBuyRefused_X5_isBeside rfl rfl rfl kdX5_isBeside ⟨Nat.le_of_ble_eq_true rfl, Nat.le_of_ble_eq_true rfl⟩) hK hA hw 0 rfl rfl rfl rfl hl.1 rfl (Nat.le_of_ble_eq_true rfl) dX5_isBuyRefused_91 ⟨Nat.le_of_ble_eq_true rfl, Nat.le_of_ble_eq_true rfl⟩) (fun H locs hw => ?_)
    refine lv_if_ne (tgt := 101) hx hb dX5_isBuyRefused_94 (by decide) (fun hc => ?_) (fun hc => ?_)
    · have hF := zif_f hc hF
      refine lv_iconst (v := (0 : Int32)) hx hb dX5_isBuyRefused_101 (by decide) ?_
      exact wX5_isBuyRefused_102 C0 hK hA hret   _ _ _ _ _ _ hF _ _ _ hw (lv_sub hl [0, 1, 3, 4] rfl)
    · have hF := zif_t hc hF
      refine lv_iconst (v := (1 : Int32)) hx hb dX5_isBuyRefused_97 (by decide) ?_
      refine lv_goto (tgt := 102) hx hb dX5_isBuyRefused_98 (by decide) ?_
      exact wX5_isBuyRefused_102 C0 hK hA hret   _ _ _ _ _ _ hF _ _ _ hw (lv_sub hl [0, 1, 3, 4] rfl)
set_option maxHeartbeats 400000 in
set_option maxRecDepth 100000 in
theorem wX5_isBuyRefused_38 {p : Program} {l : Launch} {e : Env} {s : State} {m : MethodId} {args : Array Value} {below : List Frame} {meth : Method} {c : Code} {A : Nat → Prop} {Q : State → Prop} {G : va_G} {k : Nat → ClassId} {ad : Nat → Nat} {thrown : Int32} {now : Nat → Int32} {saved : Nat → Int32} {hist : Nat → Nat → Int32} {kept : Int32} {isSaved : Int32} {comes : Nat → Int32} {queue : Nat → Int32} {far : Nat → Int32} {isInText : Int32} {ahead : Nat → Int32} {roomAt : Nat → Int32} {rooms : Int32} {text : Nat → Int32} {length : Int32} {at_ : Int32} {errorPosition : Int32} {toldFrom : Int32} {toldTo : Int32} {isWrong : Int32} {before : Nat → Int32} {o : Int32 × Int32 × Int32} (C0 : zCx p s m args meth c wsX5_isBuyRefused cX5_isBuyRefused RX5 (some .boolean) 5) (hK : zKK G k A s s.heap) (hA : ∀ q : Nat, s.heap.size ≤ q → A q) (hret : zRI p l e rmX5_isBuyRefused s m args below meth c cX5_isBuyRefused G A 0 0 Q .boolean (zM ad k thrown now saved hist kept o.2.1 o.2.2 isSaved comes queue far isInText ahead roomAt rooms text length at_ errorPosition toldFrom toldTo isWrong before) o.1)  : ∀ (reason : Int32) (detail : Int32) (x1 : Int32) (x2 : Int32) (s0 : Int32), fX5_isBuyRefused_38  now reason detail x1 x2 s0 = some o → ∀ (H : Heap) (locs : List Loc) (ls : Array Slot), zWd G A s (zM ad k thrown now saved hist kept reason detail isSaved comes queue far isInText ahead roomAt rooms text length at_ errorPosition toldFrom toldTo isWrong before) H locs → lv_has ls 5 [(0, .ref (ad 0)), (1, .int x1), (2, .int x2)] → W p l e rmX5_isBuyRefused s m args below meth c H locs 0 0 Q (F0 m 38 ls [.int s0, .ref (ad 0)]) := by
  obtain ⟨hx, hb, hr, hml, hown, hts, hlocks⟩ := id C0
  intro reason detail x1 x2 s0 hF H locs ls hw hl
  unfold fX5_isBuyRefused_38 at hF
  refine lv_iconst (v := (4 : Int32)) hx hb dX5_isBuyRefused_38 (by decide) ?_
  refine lv_iload_n hx hb dX5_isBuyRefused_39 rfl (lv_at hl 1 rfl) ?_
  obtain ⟨u1, hq2, hF⟩ := zbd_t hF
  refine zgoIw (w' := (zM ad k thrown now saved hist kept u1.2.1 u1.2.2 isSaved comes queue far isInText ahead roomAt rooms text length at_ errorPosition toldFrom toldTo isWrong before)) hw hA (zVw (As := [.int s0, .int (4 : Int32), .int x1]) (rest := []) ⟨hx, hb, hml, hown, hts⟩ (mX5_refuse l G k ad H.size thrown now saved hist kept reason detail isSaved comes queue far isInText ahead roomAt rooms text length at_ errorPosition toldFrom toldTo isWrong before s0 (4 : Int32) x1 u1 hq2) (cwV 3 hts gX5_isBuyRefused_X5_refuse rfl rfl rfl kdX5_refuse ⟨Nat.le_of_ble_eq_true rfl, Nat.le_of_ble_eq_true rfl⟩) hK hA hw 0 rfl rfl rfl rfl hl.1 rfl (Nat.le_of_ble_eq_true rfl) dX5_isBuyRefused_40 ⟨Nat.le_of_ble_eq_true rfl, Nat.le_of_ble_eq_true rfl⟩) (fun H locs hw => ?_)
  refine lv_if_eq (tgt := 48) hx hb dX5_isBuyRefused_43 (by decide) (fun hc => ?_) (fun hc => ?_)
  · have hF := zif_t hc hF
    refine lv_aload_n hx hb dX5_isBuyRefused_48 rfl (lv_at hl 0 rfl) ?_
    refine va_get (D := G) (ci := 4) (v := .ref (ad 1)) (C := RX5) (T := TX5) (N := 23) hx hb hts inX5_isBuyRefused_X5 hown hK.1 hw.1 0 rfl rfl 1 (by decide) (hts (.fieldLink RX5 9 "SealedBoardModel" "now" "[I") (by decide +kernel)) (fun _ h9 => h9) rfl dX5_isBuyRefused_49 ?_
    refine lv_iload_n hx hb dX5_isBuyRefused_52 rfl (lv_at hl 1 rfl) ?_
    obtain ⟨hi3, hF⟩ := zck_in hF
    refine va_iald hx hb hK.1 hw.1 1 2 rfl rfl hi3 dX5_isBuyRefused_53 ?_
    refine lv_bipush (v := (20 : Int32)) hx hb dX5_isBuyRefused_54 (by decide) ?_
    refine lv_isub hx hb dX5_isBuyRefused_56 ?_
    refine lv_topi (fun a4 ea4 => ?_)
    have hF := zbn_t ea4 hF
    refine lv_istore_n (lv' := [(3, .int a4), (0, .ref (ad 0)), (1, .int x1), (2, .int x2)]) hx hb dX5_isBuyRefused_57 rfl hl (by decide) rfl (fun ls hl => ?_)
    refine lv_aload_n hx hb dX5_isBuyRefused_58 rfl (lv_at hl 1 rfl) ?_
    refine lv_iload_n hx hb dX5_isBuyRefused_59 rfl (lv_at hl 3 rfl) ?_
    obtain ⟨u5, hq6, hF⟩ := zbd_t hF
    refine zgoIw (w' := (zM ad k thrown now saved hist kept u1.2.1 u1.2.2 isSaved comes queue far isInText ahead roomAt rooms text length at_ errorPosition toldFrom toldTo isWrong before)) hw hA (zVw (As := [.int x2]) (rest := []) ⟨hx, hb, hml, hown, hts⟩ (mX5_keeperOf l G k ad H.size thrown now saved hist kept u1.2.1 u1.2.2 isSaved comes queue far isInText ahead roomAt rooms text length at_ errorPosition toldFrom toldTo isWrong before x2 u5 hq6) (cwV 1 hts gX5_isBuyRefused_X5_keeperOf rfl rfl rfl kdX5_keeperOf ⟨Nat.le_of_ble_eq_true rfl, Nat.le_of_ble_eq_true rfl⟩) hK hA hw 0 rfl rfl rfl rfl hl.1 rfl (Nat.le_of_ble_eq_true rfl) dX5_isBuyRefused_60 ⟨Nat.le_of_ble_eq_true rfl, Nat.le_of_ble_eq_true rfl⟩) (fun H locs hw => ?_)
    refine lv_istore (lv' := [(4, .int u5), (3, .int a4), (0, .ref (ad 0)), (1, .int x1), (2, .int x2)]) hx hb dX5_isBuyRefused_63 hl (by decide) rfl (fun ls hl => ?_)
    refine lv_aload_n hx hb dX5_isBuyRefused_65 rfl (lv_at hl 2 rfl) ?_
    refine lv_iload_n hx hb dX5_isBuyRefused_66 rfl (lv_at hl 1 rfl) ?_
    obtain ⟨u7, hq8, hF⟩ := zbd_t hF
    refine zgoI (w' := (zM ad k thrown now saved hist kept u1.2.1 u1.2.2 isSaved comes queue far isInText ahead roomAt rooms text length at_ errorPosition toldFrom toldTo isWrong before)) hw hA [] rfl (zS (As := [.int a4]) (rest := [.ref (ad 0)]) ⟨hx, hb, hml, hown, hts⟩ (mX5_sideOf l G k  H.size  a4 u7 hq8) (va_cwS 1 hts gX5_isBuyRefused_X5_sideOf rfl rfl rfl kdX5_sideOf ⟨Nat.le_of_ble_eq_true rfl, Nat.le_of_ble_eq_true rfl⟩) hK hA hw [] rfl (by decide) rfl hl.1 rfl (Nat.le_of_ble_eq_true rfl) dX5_isBuyRefused_67 ⟨Nat.le_of_ble_eq_true rfl, Nat.le_of_ble_eq_true rfl⟩) rfl rfl rfl (fun H locs hw => ?_)
    refine lv_iload_n hx hb dX5_isBuyRefused_70 rfl (lv_at hl 4 rfl) ?_
    refine lv_icmp_eq (tgt := 78) hx hb dX5_isBuyRefused_71 (by decide) (fun hc => ?_) (fun hc => ?_)
    · have hF := zif_t hc hF
      refine lv_iconst (v := (0 : Int32)) hx hb dX5_isBuyRefused_78 (by decide) ?_
      exact wX5_isBuyRefused_79 C0 hK hA hret   _ _ _ _ _ _ _ hF _ _ _ hw (lv_sub hl [2, 3, 4, 1, 0] rfl)
    · have hF := zif_f hc hF
      refine lv_iconst (v := (1 : Int32)) hx hb dX5_isBuyRefused_74 (by decide) ?_
      refine lv_goto (tgt := 79) hx hb dX5_isBuyRefused_75 (by decide) ?_
      exact wX5_isBuyRefused_79 C0 hK hA hret   _ _ _ _ _ _ _ hF _ _ _ hw (lv_sub hl [2, 3, 4, 1, 0] rfl)
  · have hF := zif_f hc hF
    refine lv_iconst (v := (1 : Int32)) hx hb dX5_isBuyRefused_46 (by decide) ?_
    obtain rfl := Option.some.inj hF
    exact hret _ _ _ _ (zbo_n (x := (1 : Int32)) (by decide)) hw dX5_isBuyRefused_47
set_option maxHeartbeats 400000 in
set_option maxRecDepth 100000 in
theorem mX5_isBuyRefused (l : Launch) (G : va_G) (k : Nat → ClassId) (ad : Nat → Nat) (sz : Nat) (thrown : Int32) (now : Nat → Int32) (saved : Nat → Int32) (hist : Nat → Nat → Int32) (kept : Int32) (reason : Int32) (detail : Int32) (isSaved : Int32) (comes : Nat → Int32) (queue : Nat → Int32) (far : Nat → Int32) (isInText : Int32) (ahead : Nat → Int32) (roomAt : Nat → Int32) (rooms : Int32) (text : Nat → Int32) (length : Int32) (at_ : Int32) (errorPosition : Int32) (toldFrom : Int32) (toldTo : Int32) (isWrong : Int32) (before : Nat → Int32) (p0 : Int32) (o : Int32 × Int32 × Int32) (hF : fX5_isBuyRefused now reason detail p0 = some o) : zMI l yX5_isBuyRefused wsX5_isBuyRefused rmX5_isBuyRefused G k (zM ad k thrown now saved hist kept reason detail isSaved comes queue far isInText ahead roomAt rooms text length at_ errorPosition toldFrom toldTo isWrong before) sz [.ref (ad 0), .int p0] o.1 (zM ad k thrown now saved hist kept o.2.1 o.2.2 isSaved comes queue far isInText ahead roomAt rooms text length at_ errorPosition toldFrom toldTo isWrong before) := by
  refine zof_I (cc := cX5_isBuyRefused) (nL := 5) (own := RX5) (rt := .boolean) (by decide) rfl rfl (Nat.le_of_ble_eq_true rfl) ?_
  intro p e s m args below meth c A Q C0 hK hA hret ls hl hw
  have hl : lv_has ls 5 [(0, .ref (ad 0)), (1, .int p0)] := hl
  obtain ⟨hx, hb, hr, hml, hown, hts, hlocks⟩ := id C0
  obtain ⟨H, hH⟩ : ∃ z, z = s.heap := ⟨_, rfl⟩
  rw [← hH] at hw ⊢
  unfold fX5_isBuyRefused at hF
  refine lv_aload_n hx hb dX5_isBuyRefused_0 rfl (lv_at hl 0 rfl) ?_
  obtain ⟨u1, hq2, hF⟩ := zbd_t hF
  refine zgoIw (w' := (zM ad k thrown now saved hist kept reason detail isSaved comes queue far isInText ahead roomAt rooms text length at_ errorPosition toldFrom toldTo isWrong before)) hw hA (zVw (As := []) (rest := []) ⟨hx, hb, hml, hown, hts⟩ (mX5_turn l G k ad H.size thrown now saved hist kept reason detail isSaved comes queue far isInText ahead roomAt rooms text length at_ errorPosition toldFrom toldTo isWrong before  u1 hq2) (cwV 0 hts gX5_isBuyRefused_X5_turn rfl rfl rfl kdX5_turn ⟨Nat.le_of_ble_eq_true rfl, Nat.le_of_ble_eq_true rfl⟩) hK hA hw 0 rfl rfl rfl rfl hl.1 rfl (Nat.le_of_ble_eq_true rfl) dX5_isBuyRefused_1 ⟨Nat.le_of_ble_eq_true rfl, Nat.le_of_ble_eq_true rfl⟩) (fun H locs hw => ?_)
  refine lv_istore_n (lv' := [(2, .int u1), (0, .ref (ad 0)), (1, .int p0)]) hx hb dX5_isBuyRefused_4 rfl hl (by decide) rfl (fun ls hl => ?_)
  refine lv_aload_n hx hb dX5_isBuyRefused_5 rfl (lv_at hl 1 rfl) ?_
  refine lv_aload_n hx hb dX5_isBuyRefused_6 rfl (lv_at hl 1 rfl) ?_
  obtain ⟨u3, hq4, hF⟩ := zbd_t hF
  refine zgoIw (w' := (zM ad k thrown now saved hist kept reason detail isSaved comes queue far isInText ahead roomAt rooms text length at_ errorPosition toldFrom toldTo isWrong before)) hw hA (zVw (As := []) (rest := [.ref (ad 0)]) ⟨hx, hb, hml, hown, hts⟩ (mX5_isOver l G k ad H.size thrown now saved hist kept reason detail isSaved comes queue far isInText ahead roomAt rooms text length at_ errorPosition toldFrom toldTo isWrong before  u3 hq4) (cwV 0 hts gX5_isBuyRefused_X5_isOver rfl rfl rfl kdX5_isOver ⟨Nat.le_of_ble_eq_true rfl, Nat.le_of_ble_eq_true rfl⟩) hK hA hw 0 rfl rfl rfl rfl hl.1 rfl (Nat.le_of_ble_eq_true rfl) dX5_isBuyRefused_7 ⟨Nat.le_of_ble_eq_true rfl, Nat.le_of_ble_eq_true rfl⟩) (fun H locs hw => ?_)
  refine lv_iconst (v := (1 : Int32)) hx hb dX5_isBuyRefused_10 (by decide) ?_
  refine lv_aload_n hx hb dX5_isBuyRefused_11 rfl (lv_at hl 1 rfl) ?_
  refine va_get (D := G) (ci := 4) (v := .ref (ad 1)) (C := RX5) (T := TX5) (N := 23) hx hb hts inX5_isBuyRefused_X5 hown hK.1 hw.1 0 rfl rfl 1 (by decide) (hts (.fieldLink RX5 9 "SealedBoardModel" "now" "[I") (by decide +kernel)) (fun _ h9 => h9) rfl dX5_isBuyRefused_12 ?_
  refine lv_bipush (v := (74 : Int32)) hx hb dX5_isBuyRefused_15 (by decide) ?_
  obtain ⟨hi5, hF⟩ := zck_in hF
  refine va_iald hx hb hK.1 hw.1 1 2 rfl rfl hi5 dX5_isBuyRefused_17 ?_
  obtain ⟨u6, hq7, hF⟩ := zbd_t hF
  refine zgoIw (w' := (zM ad k thrown now saved hist kept u6.2.1 u6.2.2 isSaved comes queue far isInText ahead roomAt rooms text length at_ errorPosition toldFrom toldTo isWrong before)) hw hA (zVw (As := [.int u3, .int (1 : Int32), .int (now (74 : Int32).toNatClampNeg)]) (rest := []) ⟨hx, hb, hml, hown, hts⟩ (mX5_refuse l G k ad H.size thrown now saved hist kept reason detail isSaved comes queue far isInText ahead roomAt rooms text length at_ errorPosition toldFrom toldTo isWrong before u3 (1 : Int32) (now (74 : Int32).toNatClampNeg) u6 hq7) (cwV 3 hts gX5_isBuyRefused_X5_refuse rfl rfl rfl kdX5_refuse ⟨Nat.le_of_ble_eq_true rfl, Nat.le_of_ble_eq_true rfl⟩) hK hA hw 0 rfl rfl rfl rfl hl.1 rfl (Nat.le_of_ble_eq_true rfl) dX5_isBuyRefused_18 ⟨Nat.le_of_ble_eq_true rfl, Nat.le_of_ble_eq_true rfl⟩) (fun H locs hw => ?_)
  refine lv_if_ne (tgt := 46) hx hb dX5_isBuyRefused_21 (by decide) (fun hc => ?_) (fun hc => ?_)
  · have hF := zif_f hc hF
    refine lv_iconst (v := (1 : Int32)) hx hb dX5_isBuyRefused_46 (by decide) ?_
    obtain rfl := Option.some.inj hF
    exact hret _ _ _ _ (zbo_n (x := (1 : Int32)) (by decide)) hw dX5_isBuyRefused_47
  · have hF := zif_t hc hF
    refine lv_aload_n hx hb dX5_isBuyRefused_24 rfl (lv_at hl 1 rfl) ?_
    refine lv_aload_n hx hb dX5_isBuyRefused_25 rfl (lv_at hl 1 rfl) ?_
    refine lv_iload_n hx hb dX5_isBuyRefused_26 rfl (lv_at hl 2 rfl) ?_
    obtain ⟨u8, hq9, hF⟩ := zbd_t hF
    refine zgoIw (w' := (zM ad k thrown now saved hist kept u6.2.1 u6.2.2 isSaved comes queue far isInText ahead roomAt rooms text length at_ errorPosition toldFrom toldTo isWrong before)) hw hA (zVw (As := [.int p0]) (rest := [.ref (ad 0)]) ⟨hx, hb, hml, hown, hts⟩ (mX5_isWall l G k ad H.size thrown now saved hist kept u6.2.1 u6.2.2 isSaved comes queue far isInText ahead roomAt rooms text length at_ errorPosition toldFrom toldTo isWrong before p0 u8 hq9) (cwV 1 hts gX5_isBuyRefused_X5_isWall rfl rfl rfl kdX5_isWall ⟨Nat.le_of_ble_eq_true rfl, Nat.le_of_ble_eq_true rfl⟩) hK hA hw 0 rfl rfl rfl rfl hl.1 rfl (Nat.le_of_ble_eq_true rfl) dX5_isBuyRefused_27 ⟨Nat.le_of_ble_eq_true rfl, Nat.le_of_ble_eq_true rfl⟩) (fun H locs hw => ?_)
    refine lv_if_ne (tgt := 37) hx hb dX5_isBuyRefused_30 (by decide) (fun hc => ?_) (fun hc => ?_)
    · have hF := zif_f hc hF
      refine lv_iconst (v := (0 : Int32)) hx hb dX5_isBuyRefused_37 (by decide) ?_
      exact wX5_isBuyRefused_38 C0 hK hA hret   _ _ _ _ _ hF _ _ _ hw (lv_sub hl [1, 2, 0] rfl)
    · have hF := zif_t hc hF
      refine lv_iconst (v := (1 : Int32)) hx hb dX5_isBuyRefused_33 (by decide) ?_
      refine lv_goto (tgt := 38) hx hb dX5_isBuyRefused_34 (by decide) ?_
      exact wX5_isBuyRefused_38 C0 hK hA hret   _ _ _ _ _ hF _ _ _ hw (lv_sub hl [1, 2, 0] rfl)

/-! SealedBoardLaw.areRooms(LSealedBoard;I)Z -/
abbrev rmL_areRooms : Room := { frames := 9, cells := 1377, slots := 8262, locals := 151 }
theorem kdL_areRooms : yL_areRooms.cls ≠ "java/lang/invoke/MethodHandle" ∧ yL_areRooms.cls ≠ "java/lang/invoke/VarHandle" ∧ (parseMethodDescriptor yL_areRooms.desc).map (fun d => d.parameters.length) = some 2 := by decide +kernel
def fL_areRooms_421  (fb : Nat → Int64) (ct : Int32) (ln : Int32) (x1 : Int32) (s0 : Int32) (s1 : Int32) : Option (Int32) := (zbn (s1 &&& s0) (fun a1 => (if a1 = 0 then (some ((0 : Int32))) else (zbd (fL_sealedShare fb x1) (fun u2 => (if (zdcl u2 (13830554455654793216 : UInt64)) = 0 then (some ((1 : Int32))) else (zbd (fL_sealedShare fb x1) (fun u4 => (if 0 < (zdcg u4 (4607182418800017408 : UInt64)) then (some ((0 : Int32))) else (some ((1 : Int32))))))))))))
def fL_areRooms_420  (fb : Nat → Int64) (ct : Int32) (ln : Int32) (x1 : Int32) (s0 : Int32) : Option (Int32) := (fL_areRooms_421  fb ct ln  x1 (0 : Int32) s0)
def fL_areRooms_382  (fb : Nat → Int64) (ct : Int32) (ln : Int32) (x1 : Int32) (x2 : Int32) (x3 : Int32) (x4 : Int32) (x6 : Int32) : Option (Int32) := (if x2 = 0 then (zbd (fX4_account fb ct ln x1) (fun u1 => (if u1.1 = 0 then (if x4 = u1.2 then (zbd (fX4_sealed fb x1) (fun u4 => (if u4.1 = 0 then (if x3 = u4.2 then (zbd (fX4_sealedAgain fb x1) (fun u7 => (if u7.1 = 0 then (if x3 = u7.2 then (fL_areRooms_421  fb ct ln  x1 (1 : Int32) x6) else (fL_areRooms_420  fb ct ln  x1 x6)) else none))) else (fL_areRooms_420  fb ct ln  x1 x6)) else none))) else (fL_areRooms_420  fb ct ln  x1 x6)) else none))) else (fL_areRooms_420  fb ct ln  x1 x6))
def fL_areRooms_374 (k179 : Int32 → Int32 → Int32 → Int32 → Int32 → Int32 → Option (Int32)) (fb : Nat → Int64) (ct : Int32) (ln : Int32) (x1 : Int32) (x3 : Int32) (x4 : Int32) (x6 : Int32) (x7 : Int32) (s0 : Int32) (s1 : Int32) : Option (Int32) := (zbn (s1 - s0) (fun a1 => (zbn (x7 + (1 : Int32)) (fun a2 => (k179 x1 a1 x3 x4 x6 a2)))))
def fL_areRooms_360 (k179 : Int32 → Int32 → Int32 → Int32 → Int32 → Int32 → Option (Int32)) (fb : Nat → Int64) (ct : Int32) (ln : Int32) (x1 : Int32) (x2 : Int32) (x3 : Int32) (x4 : Int32) (x6 : Int32) (x7 : Int32) (x8 : Int32) : Option (Int32) := (if x8 = (-1000 : Int32) then (fL_areRooms_374 k179 fb ct ln  x1 x3 x4 x6 x7 (0 : Int32) x2) else (fL_areRooms_374 k179 fb ct ln  x1 x3 x4 x6 x7 (1 : Int32) x2))
def fL_areRooms_358 (k179 : Int32 → Int32 → Int32 → Int32 → Int32 → Int32 → Option (Int32)) (fb : Nat → Int64) (ct : Int32) (ln : Int32) (x1 : Int32) (x2 : Int32) (x3 : Int32) (x4 : Int32) (x7 : Int32) (x8 : Int32) (s0 : Int32) : Option (Int32) := (fL_areRooms_360 k179 fb ct ln  x1 x2 x3 x4 s0 x7 x8)
def fL_areRooms_357 (k179 : Int32 → Int32 → Int32 → Int32 → Int32 → Int32 → Option (Int32)) (fb : Nat → Int64) (ct : Int32) (ln : Int32) (x1 : Int32) (x2 : Int32) (x3 : Int32) (x4 : Int32) (x7 : Int32) (x8 : Int32) : Option (Int32) := (fL_areRooms_358 k179 fb ct ln  x1 x2 x3 x4 x7 x8 (0 : Int32))
def fL_areRooms_271 (k179 : Int32 → Int32 → Int32 → Int32 → Int32 → Int32 → Option (Int32)) (fb : Nat → Int64) (ct : Int32) (ln : Int32) (x1 : Int32) (x2 : Int32) (x3 : Int32) (x4 : Int32) (x7 : Int32) (x8 : Int32) (x9 : Int32) (s0 : Int32) : Option (Int32) := (if s0 = 0 then (fL_areRooms_360 k179 fb ct ln  x1 x2 x3 x4 s0 x7 x8) else (if (5 : Int32) ≤ (x7 - x7 / (6 : Int32) * (6 : Int32)) then (fL_areRooms_360 k179 fb ct ln  x1 x2 x3 x4 s0 x7 x8) else (if x8 = (-1000 : Int32) then (fL_areRooms_360 k179 fb ct ln  x1 x2 x3 x4 s0 x7 x8) else (zbd (fL_room fb x1 (x7 + (1 : Int32))) (fun u1 => (if u1 = (-1000 : Int32) then (fL_areRooms_360 k179 fb ct ln  x1 x2 x3 x4 s0 x7 x8) else (zbd (fL_steps fb x1 (x7 + (1 : Int32))) (fun u3 => (zbd (fL_room fb x1 (x7 + (1 : Int32))) (fun u5 => (if u5 = x8 then (if (1 : Int32) < (u3 - x9) then (fL_areRooms_357 k179 fb ct ln  x1 x2 x3 x4 x7 x8) else (if (1 : Int32) < (x9 - u3) then (fL_areRooms_357 k179 fb ct ln  x1 x2 x3 x4 x7 x8) else (fL_areRooms_358 k179 fb ct ln  x1 x2 x3 x4 x7 x8 (1 : Int32)))) else (fL_areRooms_357 k179 fb ct ln  x1 x2 x3 x4 x7 x8))))))))))))
def fL_areRooms_263 (k179 : Int32 → Int32 → Int32 → Int32 → Int32 → Int32 → Option (Int32)) (fb : Nat → Int64) (ct : Int32) (ln : Int32) (x1 : Int32) (x2 : Int32) (x3 : Int32) (x4 : Int32) (x7 : Int32) (x8 : Int32) (x9 : Int32) (s0 : Int32) (s1 : Int32) : Option (Int32) := (if s1 = s0 then (fL_areRooms_271 k179 fb ct ln  x1 x2 x3 x4 x7 x8 x9 (1 : Int32)) else (fL_areRooms_271 k179 fb ct ln  x1 x2 x3 x4 x7 x8 x9 (0 : Int32)))
def fL_areRooms_246 (k179 : Int32 → Int32 → Int32 → Int32 → Int32 → Int32 → Option (Int32)) (fb : Nat → Int64) (ct : Int32) (ln : Int32) (x1 : Int32) (x2 : Int32) (x3 : Int32) (x4 : Int32) (x7 : Int32) (x8 : Int32) (x9 : Int32) (s0 : Int32) : Option (Int32) := (zbd (fX4_roomOf fb x1 x8 (5 : Int32)) (fun u1 => (if u1.1 = 0 then (if u1.2 = (1 : Int32) then (fL_areRooms_263 k179 fb ct ln  x1 x2 x3 x4 x7 x8 x9 (1 : Int32) s0) else (fL_areRooms_263 k179 fb ct ln  x1 x2 x3 x4 x7 x8 x9 (0 : Int32) s0)) else none)))
def fL_areRooms_179  (fb : Nat → Int64) (ct : Int32) (ln : Int32) : Nat → Int32 → Int32 → Int32 → Int32 → Int32 → Int32 → Option (Int32)
  | 0, _, _, _, _, _, _ => none
  | n + 1, x1, x2, x3, x4, x6, x7 => (if x6 = 0 then (fL_areRooms_382  fb ct ln  x1 x2 x3 x4 x6) else (if (36 : Int32) ≤ x7 then (fL_areRooms_382  fb ct ln  x1 x2 x3 x4 x6) else (zbd (fL_room fb x1 x7) (fun u1 => (zbd (fL_steps fb x1 x7) (fun u3 => (if u1 = (-1000 : Int32) then (if u3 = (-1000 : Int32) then (fL_areRooms_271 (fun z0 z1 z2 z3 z4 z5 => fL_areRooms_179  fb ct ln n z0 z1 z2 z3 z4 z5) fb ct ln  x1 x2 x3 x4 x7 u1 u3 (1 : Int32)) else (fL_areRooms_271 (fun z0 z1 z2 z3 z4 z5 => fL_areRooms_179  fb ct ln n z0 z1 z2 z3 z4 z5) fb ct ln  x1 x2 x3 x4 x7 u1 u3 (0 : Int32))) else (if u3 = (-1000 : Int32) then (fL_areRooms_246 (fun z0 z1 z2 z3 z4 z5 => fL_areRooms_179  fb ct ln n z0 z1 z2 z3 z4 z5) fb ct ln  x1 x2 x3 x4 x7 u1 u3 (1 : Int32)) else (fL_areRooms_246 (fun z0 z1 z2 z3 z4 z5 => fL_areRooms_179  fb ct ln n z0 z1 z2 z3 z4 z5) fb ct ln  x1 x2 x3 x4 x7 u1 u3 (0 : Int32))))))))))
def fL_areRooms_176  (fb : Nat → Int64) (ct : Int32) (ln : Int32) (x1 : Int32) (x2 : Int32) (x3 : Int32) (x4 : Int32) (x6 : Int32) : Option (Int32) := (fL_areRooms_179  fb ct ln 37 x1 x2 x3 x4 x6 (0 : Int32))
def fL_areRooms_167 (k16 : Int32 → Int32 → Int32 → Int32 → Int32 → Int32 → Int32 → Option (Int32)) (fb : Nat → Int64) (ct : Int32) (ln : Int32) (x1 : Int32) (x2 : Int32) (x3 : Int32) (x4 : Int32) (x5 : Int32) (x7 : Int32) (s0 : Int32) (s1 : Int32) : Option (Int32) := (zbn (s1 &&& s0) (fun a1 => (zbn (x7 + (1 : Int32)) (fun a2 => (k16 x1 x2 x3 x4 x5 a1 a2)))))
def fL_areRooms_136 (k16 : Int32 → Int32 → Int32 → Int32 → Int32 → Int32 → Int32 → Option (Int32)) (fb : Nat → Int64) (ct : Int32) (ln : Int32) (x1 : Int32) (x2 : Int32) (x3 : Int32) (x4 : Int32) (x7 : Int32) (s0 : Int32) : Option (Int32) := (zbd (fX4_roomOf fb x1 x7 (4 : Int32)) (fun u1 => (if u1.1 = 0 then (zbd (fL_room fb x1 u1.2) (fun u4 => (if u4 = x7 then (fL_areRooms_167 k16 fb ct ln  x1 x2 x3 x4 u1.2 x7 (1 : Int32) s0) else (fL_areRooms_167 k16 fb ct ln  x1 x2 x3 x4 u1.2 x7 (0 : Int32) s0)))) else none)))
def fL_areRooms_135 (k16 : Int32 → Int32 → Int32 → Int32 → Int32 → Int32 → Int32 → Option (Int32)) (fb : Nat → Int64) (ct : Int32) (ln : Int32) (x1 : Int32) (x2 : Int32) (x3 : Int32) (x4 : Int32) (x7 : Int32) : Option (Int32) := (fL_areRooms_136 k16 fb ct ln  x1 x2 x3 x4 x7 (0 : Int32))
def fL_areRooms_128 (k16 : Int32 → Int32 → Int32 → Int32 → Int32 → Int32 → Int32 → Option (Int32)) (fb : Nat → Int64) (ct : Int32) (ln : Int32) (x1 : Int32) (x2 : Int32) (x3 : Int32) (x4 : Int32) (x7 : Int32) (s0 : Int32) (s1 : Int32) : Option (Int32) := (if s1 = s0 then (fL_areRooms_136 k16 fb ct ln  x1 x2 x3 x4 x7 (1 : Int32)) else (fL_areRooms_135 k16 fb ct ln  x1 x2 x3 x4 x7))
def fL_areRooms_112 (k16 : Int32 → Int32 → Int32 → Int32 → Int32 → Int32 → Int32 → Option (Int32)) (fb : Nat → Int64) (ct : Int32) (ln : Int32) (x1 : Int32) (x2 : Int32) (x3 : Int32) (x4 : Int32) (x7 : Int32) (s0 : Int32) : Option (Int32) := (zbd (fX4_roomOf fb x1 x7 (1 : Int32)) (fun u1 => (if u1.1 = 0 then (if u1.2 = 0 then (fL_areRooms_128 k16 fb ct ln  x1 x2 x3 x4 x7 (1 : Int32) s0) else (fL_areRooms_128 k16 fb ct ln  x1 x2 x3 x4 x7 (0 : Int32) s0)) else none)))
def fL_areRooms_80 (k16 : Int32 → Int32 → Int32 → Int32 → Int32 → Int32 → Int32 → Option (Int32)) (fb : Nat → Int64) (ct : Int32) (ln : Int32) (x1 : Int32) (x2 : Int32) (x4 : Int32) (x5 : Int32) (x7 : Int32) (s0 : Int32) (s1 : Int32) : Option (Int32) := (zbn (s1 + s0) (fun a1 => (zbd (fX4_roomOf fb x1 x7 (4 : Int32)) (fun u2 => (if u2.1 = 0 then (if u2.2 ≤ x5 then (fL_areRooms_135 k16 fb ct ln  x1 x2 a1 x4 x7) else (zbd (fX4_roomOf fb x1 x7 (5 : Int32)) (fun u5 => (if u5.1 = 0 then (if u5.2 = (1 : Int32) then (fL_areRooms_112 k16 fb ct ln  x1 x2 a1 x4 x7 (1 : Int32)) else (fL_areRooms_112 k16 fb ct ln  x1 x2 a1 x4 x7 (0 : Int32))) else none)))) else none)))))
def fL_areRooms_16  (fb : Nat → Int64) (ct : Int32) (ln : Int32) : Nat → Int32 → Int32 → Int32 → Int32 → Int32 → Int32 → Int32 → Option (Int32)
  | 0, _, _, _, _, _, _, _ => none
  | n + 1, x1, x2, x3, x4, x5, x6, x7 => (if x6 = 0 then (fL_areRooms_176  fb ct ln  x1 x2 x3 x4 x6) else (zbd (fX4_rooms fb x1) (fun u1 => (if u1.1 = 0 then (if u1.2 ≤ x7 then (fL_areRooms_176  fb ct ln  x1 x2 x3 x4 x6) else (zbd (fX4_roomOf fb x1 x7 (0 : Int32)) (fun u4 => (if u4.1 = 0 then (zbn (x2 + u4.2) (fun a7 => (zbd (fX4_roomOf fb x1 x7 (1 : Int32)) (fun u8 => (if u8.1 = 0 then (zbn (x4 + u8.2) (fun a11 => (zbd (fX4_roomOf fb x1 x7 (5 : Int32)) (fun u12 => (if u12.1 = 0 then (if u12.2 = (1 : Int32) then (zbd (fX4_roomOf fb x1 x7 (0 : Int32)) (fun u15 => (if u15.1 = 0 then (fL_areRooms_80 (fun z0 z1 z2 z3 z4 z5 z6 => fL_areRooms_16  fb ct ln n z0 z1 z2 z3 z4 z5 z6) fb ct ln  x1 a7 a11 x5 x7 u15.2 x3) else none))) else (fL_areRooms_80 (fun z0 z1 z2 z3 z4 z5 z6 => fL_areRooms_16  fb ct ln n z0 z1 z2 z3 z4 z5 z6) fb ct ln  x1 a7 a11 x5 x7 (0 : Int32) x3)) else none))))) else none))))) else none)))) else none))))
def fL_areRooms (fb : Nat → Int64) (ct : Int32) (ln : Int32) (p1 : Int32) : Option (Int32) := (fL_areRooms_16  fb ct ln 37 p1 (0 : Int32) (0 : Int32) (0 : Int32) (-1 : Int32) (1 : Int32) (0 : Int32))
set_option maxHeartbeats 1000000 in
set_option maxRecDepth 100000 in
theorem wL_areRooms_421 {p : Program} {l : Launch} {e : Env} {s : State} {m : MethodId} {args : Array Value} {below : List Frame} {meth : Method} {c : Code} {A : Nat → Prop} {Q : State → Prop} {G : va_G} {k : Nat → ClassId} {ad : Nat → Nat} {sv : Int32} {kE : Int32} {kR : Int32} {fb : Nat → Int64} {ft : Nat → Int64} {fs : Nat → Int64} {rws : Nat → Int64} {nx : Int32} {ct : Int32} {ch : Nat → Int32} {ln : Int32} {o : Int32} (C0 : zCx p s m args meth c wsL_areRooms cL_areRooms RL (some .boolean) 11) (hl9 : l.stackTraces = false) (hK : zKK G k A s s.heap) (hA : ∀ q : Nat, s.heap.size ≤ q → A q) (hret : zRI p l e rmL_areRooms s m args below meth c cL_areRooms G A 1377 8262 Q .boolean (zC ad k sv kE kR fb ft fs rws nx ct ch ln) o)   : ∀ (x1 : Int32) (s0 : Int32) (s1 : Int32), fL_areRooms_421  fb ct ln x1 s0 s1 = some o → ∀ (ca cb : Nat), ca + (4) ≤ 1377 → cb + (24) ≤ 8262 → ∀ (H : Heap) (locs : List Loc) (ls : Array Slot), zWd G A s (zC ad k sv kE kR fb ft fs rws nx ct ch ln) H locs → lv_has ls 11 [(0, .ref (ad 0)), (1, .int x1)] → W p l e rmL_areRooms s m args below meth c H locs ca cb Q (F0 m 421 ls [.int s0, .int s1]) := by
  obtain ⟨hx, hb, hr, hml, hown, hts, hlocks⟩ := id C0
  intro x1 s0 s1 hF ca cb hca hcb H locs ls hw hl
  unfold fL_areRooms_421 at hF
  refine lv_iand hx hb dL_areRooms_421 ?_
  refine lv_topi (fun a1 ea1 => ?_)
  have hF := zbn_t ea1 hF
  refine lv_istore (lv' := [(6, .int a1), (0, .ref (ad 0)), (1, .int x1)]) hx hb dL_areRooms_422 hl (by decide) rfl (fun ls hl => ?_)
  refine lv_iload hx hb dL_areRooms_424 (lv_at hl 0 rfl) ?_
  refine lv_if_eq (tgt := 455) hx hb dL_areRooms_426 (by decide) (fun hc => ?_) (fun hc => ?_)
  · have hF := zif_t hc hF
    refine lv_iconst (v := (0 : Int32)) hx hb dL_areRooms_455 (by decide) ?_
    obtain rfl := Option.some.inj hF
    refine W.widen (k := 1377) (n := 8262) (by omega) (by omega) ?_
    exact hret _ _ _ _ (zbo_n (x := (0 : Int32)) (by decide)) hw dL_areRooms_456
  · have hF := zif_f hc hF
    refine lv_aload_n hx hb dL_areRooms_429 rfl (lv_at hl 1 rfl) ?_
    refine lv_iload_n hx hb dL_areRooms_430 rfl (lv_at hl 2 rfl) ?_
    obtain ⟨u2, hq3, hF⟩ := zbd_t hF
    refine zgoD4 (w' := (zC ad k sv kE kR fb ft fs rws nx ct ch ln)) (wa := []) (wc := (zC ad k sv kE kR fb ft fs rws nx ct ch ln)) (wc' := (zC ad k sv kE kR fb ft fs rws nx ct ch ln)) (wr := []) hw (zap_nil _) (zap_nil _) hA (zSW4 (wa := []) (wc := (zC ad k sv kE kR fb ft fs rws nx ct ch ln)) (wr := []) (As := [.ref (ad 0), .int x1]) (rest := []) ⟨hx, hb, hml, hown, hts⟩ (mL_sealedShare l hl9 G k ad H.size sv kE kR fb ft fs rws nx ct ch ln x1 u2 hq3) (vx_cwSW 2 hts gL_areRooms_L_sealedShare rfl rfl rfl kdL_sealedShare ⟨Nat.le_of_ble_eq_true rfl, Nat.le_of_ble_eq_true rfl⟩) hK hA hw (zap_nil _) rfl hl.1 rfl (Nat.le_of_ble_eq_true rfl) dL_areRooms_431 ⟨(by show _ ≤ 1377; omega), (by show _ ≤ 8262; omega)⟩) rfl (fun H locs hw => ?_)
    refine lv_ldc2d (v := (13830554455654793216 : UInt64)) hx hb hown (hts (.constantDouble RL 60 (13830554455654793216)) (by decide +kernel)) dL_areRooms_434 ?_
    refine zdcl_row hx hb dL_areRooms_437 ?_
    refine lv_if_eq (tgt := 451) hx hb dL_areRooms_438 (by decide) (fun hc => ?_) (fun hc => ?_)
    · have hF := zif_t hc hF
      refine lv_iconst (v := (1 : Int32)) hx hb dL_areRooms_451 (by decide) ?_
      refine lv_goto (tgt := 456) hx hb dL_areRooms_452 (by decide) ?_
      obtain rfl := Option.some.inj hF
      refine W.widen (k := 1377) (n := 8262) (by omega) (by omega) ?_
      exact hret _ _ _ _ (zbo_n (x := (1 : Int32)) (by decide)) hw dL_areRooms_456
    · have hF := zif_f hc hF
      refine lv_aload_n hx hb dL_areRooms_441 rfl (lv_at hl 1 rfl) ?_
      refine lv_iload_n hx hb dL_areRooms_442 rfl (lv_at hl 2 rfl) ?_
      obtain ⟨u4, hq5, hF⟩ := zbd_t hF
      refine zgoD4 (w' := (zC ad k sv kE kR fb ft fs rws nx ct ch ln)) (wa := []) (wc := (zC ad k sv kE kR fb ft fs rws nx ct ch ln)) (wc' := (zC ad k sv kE kR fb ft fs rws nx ct ch ln)) (wr := []) hw (zap_nil _) (zap_nil _) hA (zSW4 (wa := []) (wc := (zC ad k sv kE kR fb ft fs rws nx ct ch ln)) (wr := []) (As := [.ref (ad 0), .int x1]) (rest := []) ⟨hx, hb, hml, hown, hts⟩ (mL_sealedShare l hl9 G k ad H.size sv kE kR fb ft fs rws nx ct ch ln x1 u4 hq5) (vx_cwSW 2 hts gL_areRooms_L_sealedShare rfl rfl rfl kdL_sealedShare ⟨Nat.le_of_ble_eq_true rfl, Nat.le_of_ble_eq_true rfl⟩) hK hA hw (zap_nil _) rfl hl.1 rfl (Nat.le_of_ble_eq_true rfl) dL_areRooms_443 ⟨(by show _ ≤ 1377; omega), (by show _ ≤ 8262; omega)⟩) rfl (fun H locs hw => ?_)
      refine lv_dconst1 hx hb dL_areRooms_446 ?_
      refine zdcg_row hx hb dL_areRooms_447 ?_
      refine lv_if_gt (tgt := 455) hx hb dL_areRooms_448 (by decide) (fun hc => ?_) (fun hc => ?_)
      · have hF := zif_t hc hF
        refine lv_iconst (v := (0 : Int32)) hx hb dL_areRooms_455 (by decide) ?_
        obtain rfl := Option.some.inj hF
        refine W.widen (k := 1377) (n := 8262) (by omega) (by omega) ?_
        exact hret _ _ _ _ (zbo_n (x := (0 : Int32)) (by decide)) hw dL_areRooms_456
      · have hF := zif_f hc hF
        refine lv_iconst (v := (1 : Int32)) hx hb dL_areRooms_451 (by decide) ?_
        refine lv_goto (tgt := 456) hx hb dL_areRooms_452 (by decide) ?_
        obtain rfl := Option.some.inj hF
        refine W.widen (k := 1377) (n := 8262) (by omega) (by omega) ?_
        exact hret _ _ _ _ (zbo_n (x := (1 : Int32)) (by decide)) hw dL_areRooms_456
set_option maxHeartbeats 1000000 in
set_option maxRecDepth 100000 in
theorem wL_areRooms_420 {p : Program} {l : Launch} {e : Env} {s : State} {m : MethodId} {args : Array Value} {below : List Frame} {meth : Method} {c : Code} {A : Nat → Prop} {Q : State → Prop} {G : va_G} {k : Nat → ClassId} {ad : Nat → Nat} {sv : Int32} {kE : Int32} {kR : Int32} {fb : Nat → Int64} {ft : Nat → Int64} {fs : Nat → Int64} {rws : Nat → Int64} {nx : Int32} {ct : Int32} {ch : Nat → Int32} {ln : Int32} {o : Int32} (C0 : zCx p s m args meth c wsL_areRooms cL_areRooms RL (some .boolean) 11) (hl9 : l.stackTraces = false) (hK : zKK G k A s s.heap) (hA : ∀ q : Nat, s.heap.size ≤ q → A q) (hret : zRI p l e rmL_areRooms s m args below meth c cL_areRooms G A 1377 8262 Q .boolean (zC ad k sv kE kR fb ft fs rws nx ct ch ln) o)   : ∀ (x1 : Int32) (s0 : Int32), fL_areRooms_420  fb ct ln x1 s0 = some o → ∀ (ca cb : Nat), ca + (4) ≤ 1377 → cb + (24) ≤ 8262 → ∀ (H : Heap) (locs : List Loc) (ls : Array Slot), zWd G A s (zC ad k sv kE kR fb ft fs rws nx ct ch ln) H locs → lv_has ls 11 [(0, .ref (ad 0)), (1, .int x1)] → W p l e rmL_areRooms s m args below meth c H locs ca cb Q (F0 m 420 ls [.int s0]) := by
  obtain ⟨hx, hb, hr, hml, hown, hts, hlocks⟩ := id C0
  intro x1 s0 hF ca cb hca hcb H locs ls hw hl
  unfold fL_areRooms_420 at hF
  refine lv_iconst (v := (0 : Int32)) hx hb dL_areRooms_420 (by decide) ?_
  exact wL_areRooms_421 C0 hl9 hK hA hret    _ _ _ hF _ _ (by omega) (by omega) _ _ _ hw (lv_sub hl [0, 1] rfl)
set_option maxHeartbeats 1000000 in
set_option maxRecDepth 100000 in
theorem wL_areRooms_382 {p : Program} {l : Launch} {e : Env} {s : State} {m : MethodId} {args : Array Value} {below : List Frame} {meth : Method} {c : Code} {A : Nat → Prop} {Q : State → Prop} {G : va_G} {k : Nat → ClassId} {ad : Nat → Nat} {sv : Int32} {kE : Int32} {kR : Int32} {fb : Nat → Int64} {ft : Nat → Int64} {fs : Nat → Int64} {rws : Nat → Int64} {nx : Int32} {ct : Int32} {ch : Nat → Int32} {ln : Int32} {o : Int32} (C0 : zCx p s m args meth c wsL_areRooms cL_areRooms RL (some .boolean) 11) (hl9 : l.stackTraces = false) (hK : zKK G k A s s.heap) (hA : ∀ q : Nat, s.heap.size ≤ q → A q) (hret : zRI p l e rmL_areRooms s m args below meth c cL_areRooms G A 1377 8262 Q .boolean (zC ad k sv kE kR fb ft fs rws nx ct ch ln) o)   : ∀ (x1 : Int32) (x2 : Int32) (x3 : Int32) (x4 : Int32) (x6 : Int32), fL_areRooms_382  fb ct ln x1 x2 x3 x4 x6 = some o → ∀ (ca cb : Nat), ca + (7) ≤ 1377 → cb + (42) ≤ 8262 → ∀ (H : Heap) (locs : List Loc) (ls : Array Slot), zWd G A s (zC ad k sv kE kR fb ft fs rws nx ct ch ln) H locs → lv_has ls 11 [(0, .ref (ad 0)), (1, .int x1), (2, .int x2), (3, .int x3), (4, .int x4), (6, .int x6)] → W p l e rmL_areRooms s m args below meth c H locs ca cb Q (F0 m 382 ls []) := by
  obtain ⟨hx, hb, hr, hml, hown, hts, hlocks⟩ := id C0
  intro x1 x2 x3 x4 x6 hF ca cb hca hcb H locs ls hw hl
  unfold fL_areRooms_382 at hF
  refine lv_iload hx hb dL_areRooms_382 (lv_at hl 5 rfl) ?_
  refine lv_iload_n hx hb dL_areRooms_384 rfl (lv_at hl 2 rfl) ?_
  refine lv_if_ne (tgt := 420) hx hb dL_areRooms_385 (by decide) (fun hc => ?_) (fun hc => ?_)
  · have hF := zif_f hc hF
    exact wL_areRooms_420 C0 hl9 hK hA hret    _ _ hF _ _ (by omega) (by omega) _ _ _ hw (lv_sub hl [0, 1] rfl)
  · have hF := zif_t hc hF
    refine lv_iload hx hb dL_areRooms_388 (lv_at hl 4 rfl) ?_
    refine lv_aload_n hx hb dL_areRooms_390 rfl (lv_at hl 0 rfl) ?_
    refine lv_iload_n hx hb dL_areRooms_391 rfl (lv_at hl 1 rfl) ?_
    obtain ⟨u1, hq2, hF⟩ := zbd_t hF
    refine zgoXI4 (o0 := u1.1) (w' := (zC ad k sv kE kR fb ft fs rws nx ct ch ln)) (wa := []) (wc := (zC ad k sv kE kR fb ft fs rws nx ct ch ln)) (wc' := (zC ad k sv kE kR fb ft fs rws nx ct ch ln)) (wr := []) hw (zap_nil _) (zap_nil _) hA (zVx4 (wa := []) (wc := (zC ad k sv kE kR fb ft fs rws nx ct ch ln)) (wr := []) (As := [.int x1]) (rest := [.int x4, .int x6]) ⟨hx, hb, hml, hown, hts⟩ (mX4_account l hl9 G k ad H.size sv kE kR fb ft fs rws nx ct ch ln x1 u1 hq2) (cwV 1 hts gL_areRooms_X4_account rfl rfl rfl kdX4_account ⟨Nat.le_of_ble_eq_true rfl, Nat.le_of_ble_eq_true rfl⟩) hK hA hw (zap_nil _) 0 rfl rfl rfl rfl hl.1 rfl (Nat.le_of_ble_eq_true rfl) dL_areRooms_392 ⟨(by show _ ≤ 1377; omega), (by show _ ≤ 8262; omega)⟩) rfl (fun h03 H locs q9 E9 ce9 hw g1 g2 g3 g4 => ?_) (fun h03 H locs hw => ?_)
    · exact nomatch (zif_f h03 hF)
    have hF := zif_t h03 hF
    refine lv_icmp_ne (tgt := 420) hx hb dL_areRooms_395 (by decide) (fun hc => ?_) (fun hc => ?_)
    · have hF := zif_f hc hF
      exact wL_areRooms_420 C0 hl9 hK hA hret    _ _ hF _ _ (by omega) (by omega) _ _ _ hw (lv_sub hl [0, 1] rfl)
    · have hF := zif_t hc hF
      refine lv_iload_n hx hb dL_areRooms_398 rfl (lv_at hl 3 rfl) ?_
      refine lv_aload_n hx hb dL_areRooms_399 rfl (lv_at hl 0 rfl) ?_
      refine lv_iload_n hx hb dL_areRooms_400 rfl (lv_at hl 1 rfl) ?_
      obtain ⟨u4, hq5, hF⟩ := zbd_t hF
      refine zgoXI4 (o0 := u4.1) (w' := (zC ad k sv kE kR fb ft fs rws nx ct ch ln)) (wa := []) (wc := (zC ad k sv kE kR fb ft fs rws nx ct ch ln)) (wc' := (zC ad k sv kE kR fb ft fs rws nx ct ch ln)) (wr := []) hw (zap_nil _) (zap_nil _) hA (zVx4 (wa := []) (wc := (zC ad k sv kE kR fb ft fs rws nx ct ch ln)) (wr := []) (As := [.int x1]) (rest := [.int x3, .int x6]) ⟨hx, hb, hml, hown, hts⟩ (mX4_sealed l hl9 G k ad H.size sv kE kR fb ft fs rws nx ct ch ln x1 u4 hq5) (cwV 1 hts gL_areRooms_X4_sealed rfl rfl rfl kdX4_sealed ⟨Nat.le_of_ble_eq_true rfl, Nat.le_of_ble_eq_true rfl⟩) hK hA hw (zap_nil _) 0 rfl rfl rfl rfl hl.1 rfl (Nat.le_of_ble_eq_true rfl) dL_areRooms_401 ⟨(by show _ ≤ 1377; omega), (by show _ ≤ 8262; omega)⟩) rfl (fun h06 H locs q9 E9 ce9 hw g1 g2 g3 g4 => ?_) (fun h06 H locs hw => ?_)
      · exact nomatch (zif_f h06 hF)
      have hF := zif_t h06 hF
      refine lv_icmp_ne (tgt := 420) hx hb dL_areRooms_404 (by decide) (fun hc => ?_) (fun hc => ?_)
      · have hF := zif_f hc hF
        exact wL_areRooms_420 C0 hl9 hK hA hret    _ _ hF _ _ (by omega) (by omega) _ _ _ hw (lv_sub hl [0, 1] rfl)
      · have hF := zif_t hc hF
        refine lv_iload_n hx hb dL_areRooms_407 rfl (lv_at hl 3 rfl) ?_
        refine lv_aload_n hx hb dL_areRooms_408 rfl (lv_at hl 0 rfl) ?_
        refine lv_iload_n hx hb dL_areRooms_409 rfl (lv_at hl 1 rfl) ?_
        obtain ⟨u7, hq8, hF⟩ := zbd_t hF
        refine zgoXI4 (o0 := u7.1) (w' := (zC ad k sv kE kR fb ft fs rws nx ct ch ln)) (wa := []) (wc := (zC ad k sv kE kR fb ft fs rws nx ct ch ln)) (wc' := (zC ad k sv kE kR fb ft fs rws nx ct ch ln)) (wr := []) hw (zap_nil _) (zap_nil _) hA (zVx4 (wa := []) (wc := (zC ad k sv kE kR fb ft fs rws nx ct ch ln)) (wr := []) (As := [.int x1]) (rest := [.int x3, .int x6]) ⟨hx, hb, hml, hown, hts⟩ (mX4_sealedAgain l hl9 G k ad H.size sv kE kR fb ft fs rws nx ct ch ln x1 u7 hq8) (cwV 1 hts gL_areRooms_X4_sealedAgain rfl rfl rfl kdX4_sealedAgain ⟨Nat.le_of_ble_eq_true rfl, Nat.le_of_ble_eq_true rfl⟩) hK hA hw (zap_nil _) 0 rfl rfl rfl rfl hl.1 rfl (Nat.le_of_ble_eq_true rfl) dL_areRooms_410 ⟨(by show _ ≤ 1377; omega), (by show _ ≤ 8262; omega)⟩) rfl (fun h09 H locs q9 E9 ce9 hw g1 g2 g3 g4 => ?_) (fun h09 H locs hw => ?_)
        · exact nomatch (zif_f h09 hF)
        have hF := zif_t h09 hF
        refine lv_icmp_ne (tgt := 420) hx hb dL_areRooms_413 (by decide) (fun hc => ?_) (fun hc => ?_)
        · have hF := zif_f hc hF
          exact wL_areRooms_420 C0 hl9 hK hA hret    _ _ hF _ _ (by omega) (by omega) _ _ _ hw (lv_sub hl [0, 1] rfl)
        · have hF := zif_t hc hF
          refine lv_iconst (v := (1 : Int32)) hx hb dL_areRooms_416 (by decide) ?_
          refine lv_goto (tgt := 421) hx hb dL_areRooms_417 (by decide) ?_
          exact wL_areRooms_421 C0 hl9 hK hA hret    _ _ _ hF _ _ (by omega) (by omega) _ _ _ hw (lv_sub hl [0, 1] rfl)
set_option maxHeartbeats 1000000 in
set_option maxRecDepth 100000 in
theorem wL_areRooms_374 {p : Program} {l : Launch} {e : Env} {s : State} {m : MethodId} {args : Array Value} {below : List Frame} {meth : Method} {c : Code} {A : Nat → Prop} {Q : State → Prop} {G : va_G} {k : Nat → ClassId} {ad : Nat → Nat} {sv : Int32} {kE : Int32} {kR : Int32} {fb : Nat → Int64} {ft : Nat → Int64} {fs : Nat → Int64} {rws : Nat → Int64} {nx : Int32} {ct : Int32} {ch : Nat → Int32} {ln : Int32} {o : Int32} (C0 : zCx p s m args meth c wsL_areRooms cL_areRooms RL (some .boolean) 11) (hl9 : l.stackTraces = false) (hK : zKK G k A s s.heap) (hA : ∀ q : Nat, s.heap.size ≤ q → A q) (hret : zRI p l e rmL_areRooms s m args below meth c cL_areRooms G A 1377 8262 Q .boolean (zC ad k sv kE kR fb ft fs rws nx ct ch ln) o)  {d1_179 d2_179 : Nat} (k179 : Int32 → Int32 → Int32 → Int32 → Int32 → Int32 → Option (Int32)) (hk179 : ∀ (x1 : Int32) (x2 : Int32) (x3 : Int32) (x4 : Int32) (x6 : Int32) (x7 : Int32), k179 x1 x2 x3 x4 x6 x7 = some o → ∀ (ca cb : Nat), ca + d1_179 ≤ 1377 → cb + d2_179 ≤ 8262 → ∀ (H : Heap) (locs : List Loc) (ls : Array Slot), zWd G A s (zC ad k sv kE kR fb ft fs rws nx ct ch ln) H locs → lv_has ls 11 [(0, .ref (ad 0)), (1, .int x1), (2, .int x2), (3, .int x3), (4, .int x4), (6, .int x6), (7, .int x7)] → W p l e rmL_areRooms s m args below meth c H locs ca cb Q (F0 m 179 ls [])) : ∀ (x1 : Int32) (x3 : Int32) (x4 : Int32) (x6 : Int32) (x7 : Int32) (s0 : Int32) (s1 : Int32), fL_areRooms_374 k179 fb ct ln x1 x3 x4 x6 x7 s0 s1 = some o → ∀ (ca cb : Nat), ca + (0 + d1_179) ≤ 1377 → cb + (0 + d2_179) ≤ 8262 → ∀ (H : Heap) (locs : List Loc) (ls : Array Slot), zWd G A s (zC ad k sv kE kR fb ft fs rws nx ct ch ln) H locs → lv_has ls 11 [(0, .ref (ad 0)), (1, .int x1), (3, .int x3), (4, .int x4), (6, .int x6), (7, .int x7)] → W p l e rmL_areRooms s m args below meth c H locs ca cb Q (F0 m 374 ls [.int s0, .int s1]) := by
  obtain ⟨hx, hb, hr, hml, hown, hts, hlocks⟩ := id C0
  intro x1 x3 x4 x6 x7 s0 s1 hF ca cb hca hcb H locs ls hw hl
  unfold fL_areRooms_374 at hF
  refine lv_isub hx hb dL_areRooms_374 ?_
  refine lv_topi (fun a1 ea1 => ?_)
  have hF := zbn_t ea1 hF
  refine lv_istore_n (lv' := [(2, .int a1), (0, .ref (ad 0)), (1, .int x1), (3, .int x3), (4, .int x4), (6, .int x6), (7, .int x7)]) hx hb dL_areRooms_375 rfl hl (by decide) rfl (fun ls hl => ?_)
  obtain ⟨a2, ea2⟩ : ∃ z : Int32, z = x7 + (1 : Int32) := ⟨_, rfl⟩
  have hF := zbn_t ea2 hF
  refine lv_iinc (v := a2) (lv' := [(7, .int a2), (2, .int a1), (0, .ref (ad 0)), (1, .int x1), (3, .int x3), (4, .int x4), (6, .int x6)]) hx hb dL_areRooms_376 hl (k := 6) rfl (by rw [ea2]; rfl) (by decide) rfl (fun ls hl => ?_)
  refine lv_goto (tgt := 179) hx hb dL_areRooms_379 (by decide) ?_
  exact hk179 _ _ _ _ _ _ hF _ _ (by omega) (by omega) _ _ _ hw (lv_sub hl [2, 3, 1, 4, 5, 6, 0] rfl)
set_option maxHeartbeats 1000000 in
set_option maxRecDepth 100000 in
theorem wL_areRooms_360 {p : Program} {l : Launch} {e : Env} {s : State} {m : MethodId} {args : Array Value} {below : List Frame} {meth : Method} {c : Code} {A : Nat → Prop} {Q : State → Prop} {G : va_G} {k : Nat → ClassId} {ad : Nat → Nat} {sv : Int32} {kE : Int32} {kR : Int32} {fb : Nat → Int64} {ft : Nat → Int64} {fs : Nat → Int64} {rws : Nat → Int64} {nx : Int32} {ct : Int32} {ch : Nat → Int32} {ln : Int32} {o : Int32} (C0 : zCx p s m args meth c wsL_areRooms cL_areRooms RL (some .boolean) 11) (hl9 : l.stackTraces = false) (hK : zKK G k A s s.heap) (hA : ∀ q : Nat, s.heap.size ≤ q → A q) (hret : zRI p l e rmL_areRooms s m args below meth c cL_areRooms G A 1377 8262 Q .boolean (zC ad k sv kE kR fb ft fs rws nx ct ch ln) o)  {d1_179 d2_179 : Nat} (k179 : Int32 → Int32 → Int32 → Int32 → Int32 → Int32 → Option (Int32)) (hk179 : ∀ (x1 : Int32) (x2 : Int32) (x3 : Int32) (x4 : Int32) (x6 : Int32) (x7 : Int32), k179 x1 x2 x3 x4 x6 x7 = some o → ∀ (ca cb : Nat), ca + d1_179 ≤ 1377 → cb + d2_179 ≤ 8262 → ∀ (H : Heap) (locs : List Loc) (ls : Array Slot), zWd G A s (zC ad k sv kE kR fb ft fs rws nx ct ch ln) H locs → lv_has ls 11 [(0, .ref (ad 0)), (1, .int x1), (2, .int x2), (3, .int x3), (4, .int x4), (6, .int x6), (7, .int x7)] → W p l e rmL_areRooms s m args below meth c H locs ca cb Q (F0 m 179 ls [])) : ∀ (x1 : Int32) (x2 : Int32) (x3 : Int32) (x4 : Int32) (x6 : Int32) (x7 : Int32) (x8 : Int32), fL_areRooms_360 k179 fb ct ln x1 x2 x3 x4 x6 x7 x8 = some o → ∀ (ca cb : Nat), ca + (0 + d1_179) ≤ 1377 → cb + (0 + d2_179) ≤ 8262 → ∀ (H : Heap) (locs : List Loc) (ls : Array Slot), zWd G A s (zC ad k sv kE kR fb ft fs rws nx ct ch ln) H locs → lv_has ls 11 [(0, .ref (ad 0)), (1, .int x1), (2, .int x2), (3, .int x3), (4, .int x4), (6, .int x6), (7, .int x7), (8, .int x8)] → W p l e rmL_areRooms s m args below meth c H locs ca cb Q (F0 m 360 ls []) := by
  obtain ⟨hx, hb, hr, hml, hown, hts, hlocks⟩ := id C0
  intro x1 x2 x3 x4 x6 x7 x8 hF ca cb hca hcb H locs ls hw hl
  unfold fL_areRooms_360 at hF
  refine lv_iload_n hx hb dL_areRooms_360 rfl (lv_at hl 2 rfl) ?_
  refine lv_iload hx hb dL_areRooms_361 (lv_at hl 7 rfl) ?_
  refine lv_sipush (v := (-1000 : Int32)) hx hb dL_areRooms_363 (by decide) ?_
  refine lv_icmp_ne (tgt := 373) hx hb dL_areRooms_366 (by decide) (fun hc => ?_) (fun hc => ?_)
  · have hF := zif_f hc hF
    refine lv_iconst (v := (1 : Int32)) hx hb dL_areRooms_373 (by decide) ?_
    exact wL_areRooms_374 C0 hl9 hK hA hret k179 hk179   _ _ _ _ _ _ _ hF _ _ (by omega) (by omega) _ _ _ hw (lv_sub hl [0, 1, 3, 4, 5, 6] rfl)
  · have hF := zif_t hc hF
    refine lv_iconst (v := (0 : Int32)) hx hb dL_areRooms_369 (by decide) ?_
    refine lv_goto (tgt := 374) hx hb dL_areRooms_370 (by decide) ?_
    exact wL_areRooms_374 C0 hl9 hK hA hret k179 hk179   _ _ _ _ _ _ _ hF _ _ (by omega) (by omega) _ _ _ hw (lv_sub hl [0, 1, 3, 4, 5, 6] rfl)
set_option maxHeartbeats 1000000 in
set_option maxRecDepth 100000 in
theorem wL_areRooms_358 {p : Program} {l : Launch} {e : Env} {s : State} {m : MethodId} {args : Array Value} {below : List Frame} {meth : Method} {c : Code} {A : Nat → Prop} {Q : State → Prop} {G : va_G} {k : Nat → ClassId} {ad : Nat → Nat} {sv : Int32} {kE : Int32} {kR : Int32} {fb : Nat → Int64} {ft : Nat → Int64} {fs : Nat → Int64} {rws : Nat → Int64} {nx : Int32} {ct : Int32} {ch : Nat → Int32} {ln : Int32} {o : Int32} (C0 : zCx p s m args meth c wsL_areRooms cL_areRooms RL (some .boolean) 11) (hl9 : l.stackTraces = false) (hK : zKK G k A s s.heap) (hA : ∀ q : Nat, s.heap.size ≤ q → A q) (hret : zRI p l e rmL_areRooms s m args below meth c cL_areRooms G A 1377 8262 Q .boolean (zC ad k sv kE kR fb ft fs rws nx ct ch ln) o)  {d1_179 d2_179 : Nat} (k179 : Int32 → Int32 → Int32 → Int32 → Int32 → Int32 → Option (Int32)) (hk179 : ∀ (x1 : Int32) (x2 : Int32) (x3 : Int32) (x4 : Int32) (x6 : Int32) (x7 : Int32), k179 x1 x2 x3 x4 x6 x7 = some o → ∀ (ca cb : Nat), ca + d1_179 ≤ 1377 → cb + d2_179 ≤ 8262 → ∀ (H : Heap) (locs : List Loc) (ls : Array Slot), zWd G A s (zC ad k sv kE kR fb ft fs rws nx ct ch ln) H locs → lv_has ls 11 [(0, .ref (ad 0)), (1, .int x1), (2, .int x2), (3, .int x3), (4, .int x4), (6, .int x6), (7, .int x7)] → W p l e rmL_areRooms s m args below meth c H locs ca cb Q (F0 m 179 ls [])) : ∀ (x1 : Int32) (x2 : Int32) (x3 : Int32) (x4 : Int32) (x7 : Int32) (x8 : Int32) (s0 : Int32), fL_areRooms_358 k179 fb ct ln x1 x2 x3 x4 x7 x8 s0 = some o → ∀ (ca cb : Nat), ca + (0 + d1_179) ≤ 1377 → cb + (0 + d2_179) ≤ 8262 → ∀ (H : Heap) (locs : List Loc) (ls : Array Slot), zWd G A s (zC ad k sv kE kR fb ft fs rws nx ct ch ln) H locs → lv_has ls 11 [(0, .ref (ad 0)), (1, .int x1), (2, .int x2), (3, .int x3), (4, .int x4), (7, .int x7), (8, .int x8)] → W p l e rmL_areRooms s m args below meth c H locs ca cb Q (F0 m 358 ls [.int s0]) := by
  obtain ⟨hx, hb, hr, hml, hown, hts, hlocks⟩ := id C0
  intro x1 x2 x3 x4 x7 x8 s0 hF ca cb hca hcb H locs ls hw hl
  unfold fL_areRooms_358 at hF
  refine lv_istore (lv' := [(6, .int s0), (0, .ref (ad 0)), (1, .int x1), (2, .int x2), (3, .int x3), (4, .int x4), (7, .int x7), (8, .int x8)]) hx hb dL_areRooms_358 hl (by decide) rfl (fun ls hl => ?_)
  exact wL_areRooms_360 C0 hl9 hK hA hret k179 hk179   _ _ _ _ _ _ _ hF _ _ (by omega) (by omega) _ _ _ hw (lv_sub hl [1, 2, 3, 4, 5, 0, 6, 7] rfl)
set_option maxHeartbeats 1000000 in
set_option maxRecDepth 100000 in
theorem wL_areRooms_357 {p : Program} {l : Launch} {e : Env} {s : State} {m : MethodId} {args : Array Value} {below : List Frame} {meth : Method} {c : Code} {A : Nat → Prop} {Q : State → Prop} {G : va_G} {k : Nat → ClassId} {ad : Nat → Nat} {sv : Int32} {kE : Int32} {kR : Int32} {fb : Nat → Int64} {ft : Nat → Int64} {fs : Nat → Int64} {rws : Nat → Int64} {nx : Int32} {ct : Int32} {ch : Nat → Int32} {ln : Int32} {o : Int32} (C0 : zCx p s m args meth c wsL_areRooms cL_areRooms RL (some .boolean) 11) (hl9 : l.stackTraces = false) (hK : zKK G k A s s.heap) (hA : ∀ q : Nat, s.heap.size ≤ q → A q) (hret : zRI p l e rmL_areRooms s m args below meth c cL_areRooms G A 1377 8262 Q .boolean (zC ad k sv kE kR fb ft fs rws nx ct ch ln) o)  {d1_179 d2_179 : Nat} (k179 : Int32 → Int32 → Int32 → Int32 → Int32 → Int32 → Option (Int32)) (hk179 : ∀ (x1 : Int32) (x2 : Int32) (x3 : Int32) (x4 : Int32) (x6 : Int32) (x7 : Int32), k179 x1 x2 x3 x4 x6 x7 = some o → ∀ (ca cb : Nat), ca + d1_179 ≤ 1377 → cb + d2_179 ≤ 8262 → ∀ (H : Heap) (locs : List Loc) (ls : Array Slot), zWd G A s (zC ad k sv kE kR fb ft fs rws nx ct ch ln) H locs → lv_has ls 11 [(0, .ref (ad 0)), (1, .int x1), (2, .int x2), (3, .int x3), (4, .int x4), (6, .int x6), (7, .int x7)] → W p l e rmL_areRooms s m args below meth c H locs ca cb Q (F0 m 179 ls [])) : ∀ (x1 : Int32) (x2 : Int32) (x3 : Int32) (x4 : Int32) (x7 : Int32) (x8 : Int32), fL_areRooms_357 k179 fb ct ln x1 x2 x3 x4 x7 x8 = some o → ∀ (ca cb : Nat), ca + (0 + d1_179) ≤ 1377 → cb + (0 + d2_179) ≤ 8262 → ∀ (H : Heap) (locs : List Loc) (ls : Array Slot), zWd G A s (zC ad k sv kE kR fb ft fs rws nx ct ch ln) H locs → lv_has ls 11 [(0, .ref (ad 0)), (1, .int x1), (2, .int x2), (3, .int x3), (4, .int x4), (7, .int x7), (8, .int x8)] → W p l e rmL_areRooms s m args below meth c H locs ca cb Q (F0 m 357 ls []) := by
  obtain ⟨hx, hb, hr, hml, hown, hts, hlocks⟩ := id C0
  intro x1 x2 x3 x4 x7 x8 hF ca cb hca hcb H locs ls hw hl
  unfold fL_areRooms_357 at hF
  refine lv_iconst (v := (0 : Int32)) hx hb dL_areRooms_357 (by decide) ?_
  exact wL_areRooms_358 C0 hl9 hK hA hret k179 hk179   _ _ _ _ _ _ _ hF _ _ (by omega) (by omega) _ _ _ hw (lv_sub hl [0, 1, 2, 3, 4, 5, 6] rfl)
set_option maxHeartbeats 1000000 in
set_option maxRecDepth 100000 in
theorem wL_areRooms_271 {p : Program} {l : Launch} {e : Env} {s : State} {m : MethodId} {args : Array Value} {below : List Frame} {meth : Method} {c : Code} {A : Nat → Prop} {Q : State → Prop} {G : va_G} {k : Nat → ClassId} {ad : Nat → Nat} {sv : Int32} {kE : Int32} {kR : Int32} {fb : Nat → Int64} {ft : Nat → Int64} {fs : Nat → Int64} {rws : Nat → Int64} {nx : Int32} {ct : Int32} {ch : Nat → Int32} {ln : Int32} {o : Int32} (C0 : zCx p s m args meth c wsL_areRooms cL_areRooms RL (some .boolean) 11) (hl9 : l.stackTraces = false) (hK : zKK G k A s s.heap) (hA : ∀ q : Nat, s.heap.size ≤ q → A q) (hret : zRI p l e rmL_areRooms s m args below meth c cL_areRooms G A 1377 8262 Q .boolean (zC ad k sv kE kR fb ft fs rws nx ct ch ln) o)  {d1_179 d2_179 : Nat} (k179 : Int32 → Int32 → Int32 → Int32 → Int32 → Int32 → Option (Int32)) (hk179 : ∀ (x1 : Int32) (x2 : Int32) (x3 : Int32) (x4 : Int32) (x6 : Int32) (x7 : Int32), k179 x1 x2 x3 x4 x6 x7 = some o → ∀ (ca cb : Nat), ca + d1_179 ≤ 1377 → cb + d2_179 ≤ 8262 → ∀ (H : Heap) (locs : List Loc) (ls : Array Slot), zWd G A s (zC ad k sv kE kR fb ft fs rws nx ct ch ln) H locs → lv_has ls 11 [(0, .ref (ad 0)), (1, .int x1), (2, .int x2), (3, .int x3), (4, .int x4), (6, .int x6), (7, .int x7)] → W p l e rmL_areRooms s m args below meth c H locs ca cb Q (F0 m 179 ls [])) : ∀ (x1 : Int32) (x2 : Int32) (x3 : Int32) (x4 : Int32) (x7 : Int32) (x8 : Int32) (x9 : Int32) (s0 : Int32), fL_areRooms_271 k179 fb ct ln x1 x2 x3 x4 x7 x8 x9 s0 = some o → ∀ (ca cb : Nat), ca + (9 + d1_179) ≤ 1377 → cb + (54 + d2_179) ≤ 8262 → ∀ (H : Heap) (locs : List Loc) (ls : Array Slot), zWd G A s (zC ad k sv kE kR fb ft fs rws nx ct ch ln) H locs → lv_has ls 11 [(0, .ref (ad 0)), (1, .int x1), (2, .int x2), (3, .int x3), (4, .int x4), (7, .int x7), (8, .int x8), (9, .int x9)] → W p l e rmL_areRooms s m args below meth c H locs ca cb Q (F0 m 271 ls [.int s0]) := by
  obtain ⟨hx, hb, hr, hml, hown, hts, hlocks⟩ := id C0
  intro x1 x2 x3 x4 x7 x8 x9 s0 hF ca cb hca hcb H locs ls hw hl
  unfold fL_areRooms_271 at hF
  refine lv_istore (lv' := [(6, .int s0), (0, .ref (ad 0)), (1, .int x1), (2, .int x2), (3, .int x3), (4, .int x4), (7, .int x7), (8, .int x8), (9, .int x9)]) hx hb dL_areRooms_271 hl (by decide) rfl (fun ls hl => ?_)
  refine lv_iload hx hb dL_areRooms_273 (lv_at hl 0 rfl) ?_
  refine lv_if_eq (tgt := 360) hx hb dL_areRooms_275 (by decide) (fun hc => ?_) (fun hc => ?_)
  · have hF := zif_t hc hF
    exact wL_areRooms_360 C0 hl9 hK hA hret k179 hk179   _ _ _ _ _ _ _ hF _ _ (by omega) (by omega) _ _ _ hw (lv_sub hl [1, 2, 3, 4, 5, 0, 6, 7] rfl)
  · have hF := zif_f hc hF
    refine lv_iload hx hb dL_areRooms_278 (lv_at hl 6 rfl) ?_
    refine lv_bipush (v := (6 : Int32)) hx hb dL_areRooms_280 (by decide) ?_
    refine lv_irem hx hb dL_areRooms_282 (by decide) ?_
    refine lv_iconst (v := (5 : Int32)) hx hb dL_areRooms_283 (by decide) ?_
    refine lv_icmp_ge (tgt := 360) hx hb dL_areRooms_284 (by decide) (fun hc => ?_) (fun hc => ?_)
    · have hF := zif_t hc hF
      exact wL_areRooms_360 C0 hl9 hK hA hret k179 hk179   _ _ _ _ _ _ _ hF _ _ (by omega) (by omega) _ _ _ hw (lv_sub hl [1, 2, 3, 4, 5, 0, 6, 7] rfl)
    · have hF := zif_f hc hF
      refine lv_iload hx hb dL_areRooms_287 (lv_at hl 7 rfl) ?_
      refine lv_sipush (v := (-1000 : Int32)) hx hb dL_areRooms_289 (by decide) ?_
      refine lv_icmp_eq (tgt := 360) hx hb dL_areRooms_292 (by decide) (fun hc => ?_) (fun hc => ?_)
      · have hF := zif_t hc hF
        exact wL_areRooms_360 C0 hl9 hK hA hret k179 hk179   _ _ _ _ _ _ _ hF _ _ (by omega) (by omega) _ _ _ hw (lv_sub hl [1, 2, 3, 4, 5, 0, 6, 7] rfl)
      · have hF := zif_f hc hF
        refine lv_aload_n hx hb dL_areRooms_295 rfl (lv_at hl 1 rfl) ?_
        refine lv_iload_n hx hb dL_areRooms_296 rfl (lv_at hl 2 rfl) ?_
        refine lv_iload hx hb dL_areRooms_297 (lv_at hl 6 rfl) ?_
        refine lv_iconst (v := (1 : Int32)) hx hb dL_areRooms_299 (by decide) ?_
        refine lv_iadd hx hb dL_areRooms_300 ?_
        obtain ⟨u1, hq2, hF⟩ := zbd_t hF
        refine zgoI4 (w' := (zC ad k sv kE kR fb ft fs rws nx ct ch ln)) (wa := []) (wc := (zC ad k sv kE kR fb ft fs rws nx ct ch ln)) (wc' := (zC ad k sv kE kR fb ft fs rws nx ct ch ln)) (wr := []) hw (zap_nil _) (zap_nil _) hA (zSW4 (wa := []) (wc := (zC ad k sv kE kR fb ft fs rws nx ct ch ln)) (wr := []) (As := [.ref (ad 0), .int x1, .int (x7 + (1 : Int32))]) (rest := []) ⟨hx, hb, hml, hown, hts⟩ (mL_room l hl9 G k ad H.size sv kE kR fb ft fs rws nx ct ch ln x1 (x7 + (1 : Int32)) u1 hq2) (vx_cwSW 3 hts gL_areRooms_L_room rfl rfl rfl kdL_room ⟨Nat.le_of_ble_eq_true rfl, Nat.le_of_ble_eq_true rfl⟩) hK hA hw (zap_nil _) rfl hl.1 rfl (Nat.le_of_ble_eq_true rfl) dL_areRooms_301 ⟨(by show _ ≤ 1377; omega), (by show _ ≤ 8262; omega)⟩) rfl (fun H locs hw => ?_)
        refine lv_sipush (v := (-1000 : Int32)) hx hb dL_areRooms_304 (by decide) ?_
        refine lv_icmp_eq (tgt := 360) hx hb dL_areRooms_307 (by decide) (fun hc => ?_) (fun hc => ?_)
        · have hF := zif_t hc hF
          exact wL_areRooms_360 C0 hl9 hK hA hret k179 hk179   _ _ _ _ _ _ _ hF _ _ (by omega) (by omega) _ _ _ hw (lv_sub hl [1, 2, 3, 4, 5, 0, 6, 7] rfl)
        · have hF := zif_f hc hF
          refine lv_aload_n hx hb dL_areRooms_310 rfl (lv_at hl 1 rfl) ?_
          refine lv_iload_n hx hb dL_areRooms_311 rfl (lv_at hl 2 rfl) ?_
          refine lv_iload hx hb dL_areRooms_312 (lv_at hl 6 rfl) ?_
          refine lv_iconst (v := (1 : Int32)) hx hb dL_areRooms_314 (by decide) ?_
          refine lv_iadd hx hb dL_areRooms_315 ?_
          obtain ⟨u3, hq4, hF⟩ := zbd_t hF
          refine zgoI4 (w' := (zC ad k sv kE kR fb ft fs rws nx ct ch ln)) (wa := []) (wc := (zC ad k sv kE kR fb ft fs rws nx ct ch ln)) (wc' := (zC ad k sv kE kR fb ft fs rws nx ct ch ln)) (wr := []) hw (zap_nil _) (zap_nil _) hA (zSW4 (wa := []) (wc := (zC ad k sv kE kR fb ft fs rws nx ct ch ln)) (wr := []) (As := [.ref (ad 0), .int x1, .int (x7 + (1 : Int32))]) (rest := []) ⟨hx, hb, hml, hown, hts⟩ (mL_steps l hl9 G k ad H.size sv kE kR fb ft fs rws nx ct ch ln x1 (x7 + (1 : Int32)) u3 hq4) (vx_cwSW 3 hts gL_areRooms_L_steps rfl rfl rfl kdL_steps ⟨Nat.le_of_ble_eq_true rfl, Nat.le_of_ble_eq_true rfl⟩) hK hA hw (zap_nil _) rfl hl.1 rfl (Nat.le_of_ble_eq_true rfl) dL_areRooms_316 ⟨(by show _ ≤ 1377; omega), (by show _ ≤ 8262; omega)⟩) rfl (fun H locs hw => ?_)
          refine lv_istore (lv' := [(10, .int u3), (6, .int s0), (0, .ref (ad 0)), (1, .int x1), (2, .int x2), (3, .int x3), (4, .int x4), (7, .int x7), (8, .int x8), (9, .int x9)]) hx hb dL_areRooms_319 hl (by decide) rfl (fun ls hl => ?_)
          refine lv_aload_n hx hb dL_areRooms_321 rfl (lv_at hl 2 rfl) ?_
          refine lv_iload_n hx hb dL_areRooms_322 rfl (lv_at hl 3 rfl) ?_
          refine lv_iload hx hb dL_areRooms_323 (lv_at hl 7 rfl) ?_
          refine lv_iconst (v := (1 : Int32)) hx hb dL_areRooms_325 (by decide) ?_
          refine lv_iadd hx hb dL_areRooms_326 ?_
          obtain ⟨u5, hq6, hF⟩ := zbd_t hF
          refine zgoI4 (w' := (zC ad k sv kE kR fb ft fs rws nx ct ch ln)) (wa := []) (wc := (zC ad k sv kE kR fb ft fs rws nx ct ch ln)) (wc' := (zC ad k sv kE kR fb ft fs rws nx ct ch ln)) (wr := []) hw (zap_nil _) (zap_nil _) hA (zSW4 (wa := []) (wc := (zC ad k sv kE kR fb ft fs rws nx ct ch ln)) (wr := []) (As := [.ref (ad 0), .int x1, .int (x7 + (1 : Int32))]) (rest := []) ⟨hx, hb, hml, hown, hts⟩ (mL_room l hl9 G k ad H.size sv kE kR fb ft fs rws nx ct ch ln x1 (x7 + (1 : Int32)) u5 hq6) (vx_cwSW 3 hts gL_areRooms_L_room rfl rfl rfl kdL_room ⟨Nat.le_of_ble_eq_true rfl, Nat.le_of_ble_eq_true rfl⟩) hK hA hw (zap_nil _) rfl hl.1 rfl (Nat.le_of_ble_eq_true rfl) dL_areRooms_327 ⟨(by show _ ≤ 1377; omega), (by show _ ≤ 8262; omega)⟩) rfl (fun H locs hw => ?_)
          refine lv_iload hx hb dL_areRooms_330 (lv_at hl 8 rfl) ?_
          refine lv_icmp_ne (tgt := 357) hx hb dL_areRooms_332 (by decide) (fun hc => ?_) (fun hc => ?_)
          · have hF := zif_f hc hF
            exact wL_areRooms_357 C0 hl9 hK hA hret k179 hk179   _ _ _ _ _ _ hF _ _ (by omega) (by omega) _ _ _ hw (lv_sub hl [2, 3, 4, 5, 6, 7, 8] rfl)
          · have hF := zif_t hc hF
            refine lv_iload hx hb dL_areRooms_335 (lv_at hl 0 rfl) ?_
            refine lv_iload hx hb dL_areRooms_337 (lv_at hl 9 rfl) ?_
            refine lv_isub hx hb dL_areRooms_339 ?_
            refine lv_iconst (v := (1 : Int32)) hx hb dL_areRooms_340 (by decide) ?_
            refine lv_icmp_gt (tgt := 357) hx hb dL_areRooms_341 (by decide) (fun hc => ?_) (fun hc => ?_)
            · have hF := zif_t hc hF
              exact wL_areRooms_357 C0 hl9 hK hA hret k179 hk179   _ _ _ _ _ _ hF _ _ (by omega) (by omega) _ _ _ hw (lv_sub hl [2, 3, 4, 5, 6, 7, 8] rfl)
            · have hF := zif_f hc hF
              refine lv_iload hx hb dL_areRooms_344 (lv_at hl 9 rfl) ?_
              refine lv_iload hx hb dL_areRooms_346 (lv_at hl 0 rfl) ?_
              refine lv_isub hx hb dL_areRooms_348 ?_
              refine lv_iconst (v := (1 : Int32)) hx hb dL_areRooms_349 (by decide) ?_
              refine lv_icmp_gt (tgt := 357) hx hb dL_areRooms_350 (by decide) (fun hc => ?_) (fun hc => ?_)
              · have hF := zif_t hc hF
                exact wL_areRooms_357 C0 hl9 hK hA hret k179 hk179   _ _ _ _ _ _ hF _ _ (by omega) (by omega) _ _ _ hw (lv_sub hl [2, 3, 4, 5, 6, 7, 8] rfl)
              · have hF := zif_f hc hF
                refine lv_iconst (v := (1 : Int32)) hx hb dL_areRooms_353 (by decide) ?_
                refine lv_goto (tgt := 358) hx hb dL_areRooms_354 (by decide) ?_
                exact wL_areRooms_358 C0 hl9 hK hA hret k179 hk179   _ _ _ _ _ _ _ hF _ _ (by omega) (by omega) _ _ _ hw (lv_sub hl [2, 3, 4, 5, 6, 7, 8] rfl)
set_option maxHeartbeats 1000000 in
set_option maxRecDepth 100000 in
theorem wL_areRooms_263 {p : Program} {l : Launch} {e : Env} {s : State} {m : MethodId} {args : Array Value} {below : List Frame} {meth : Method} {c : Code} {A : Nat → Prop} {Q : State → Prop} {G : va_G} {k : Nat → ClassId} {ad : Nat → Nat} {sv : Int32} {kE : Int32} {kR : Int32} {fb : Nat → Int64} {ft : Nat → Int64} {fs : Nat → Int64} {rws : Nat → Int64} {nx : Int32} {ct : Int32} {ch : Nat → Int32} {ln : Int32} {o : Int32} (C0 : zCx p s m args meth c wsL_areRooms cL_areRooms RL (some .boolean) 11) (hl9 : l.stackTraces = false) (hK : zKK G k A s s.heap) (hA : ∀ q : Nat, s.heap.size ≤ q → A q) (hret : zRI p l e rmL_areRooms s m args below meth c cL_areRooms G A 1377 8262 Q .boolean (zC ad k sv kE kR fb ft fs rws nx ct ch ln) o)  {d1_179 d2_179 : Nat} (k179 : Int32 → Int32 → Int32 → Int32 → Int32 → Int32 → Option (Int32)) (hk179 : ∀ (x1 : Int32) (x2 : Int32) (x3 : Int32) (x4 : Int32) (x6 : Int32) (x7 : Int32), k179 x1 x2 x3 x4 x6 x7 = some o → ∀ (ca cb : Nat), ca + d1_179 ≤ 1377 → cb + d2_179 ≤ 8262 → ∀ (H : Heap) (locs : List Loc) (ls : Array Slot), zWd G A s (zC ad k sv kE kR fb ft fs rws nx ct ch ln) H locs → lv_has ls 11 [(0, .ref (ad 0)), (1, .int x1), (2, .int x2), (3, .int x3), (4, .int x4), (6, .int x6), (7, .int x7)] → W p l e rmL_areRooms s m args below meth c H locs ca cb Q (F0 m 179 ls [])) : ∀ (x1 : Int32) (x2 : Int32) (x3 : Int32) (x4 : Int32) (x7 : Int32) (x8 : Int32) (x9 : Int32) (s0 : Int32) (s1 : Int32), fL_areRooms_263 k179 fb ct ln x1 x2 x3 x4 x7 x8 x9 s0 s1 = some o → ∀ (ca cb : Nat), ca + (9 + d1_179) ≤ 1377 → cb + (54 + d2_179) ≤ 8262 → ∀ (H : Heap) (locs : List Loc) (ls : Array Slot), zWd G A s (zC ad k sv kE kR fb ft fs rws nx ct ch ln) H locs → lv_has ls 11 [(0, .ref (ad 0)), (1, .int x1), (2, .int x2), (3, .int x3), (4, .int x4), (7, .int x7), (8, .int x8), (9, .int x9)] → W p l e rmL_areRooms s m args below meth c H locs ca cb Q (F0 m 263 ls [.int s0, .int s1]) := by
  obtain ⟨hx, hb, hr, hml, hown, hts, hlocks⟩ := id C0
  intro x1 x2 x3 x4 x7 x8 x9 s0 s1 hF ca cb hca hcb H locs ls hw hl
  unfold fL_areRooms_263 at hF
  refine lv_icmp_ne (tgt := 270) hx hb dL_areRooms_263 (by decide) (fun hc => ?_) (fun hc => ?_)
  · have hF := zif_f hc hF
    refine lv_iconst (v := (0 : Int32)) hx hb dL_areRooms_270 (by decide) ?_
    exact wL_areRooms_271 C0 hl9 hK hA hret k179 hk179   _ _ _ _ _ _ _ _ hF _ _ (by omega) (by omega) _ _ _ hw (lv_sub hl [0, 1, 2, 3, 4, 5, 6, 7] rfl)
  · have hF := zif_t hc hF
    refine lv_iconst (v := (1 : Int32)) hx hb dL_areRooms_266 (by decide) ?_
    refine lv_goto (tgt := 271) hx hb dL_areRooms_267 (by decide) ?_
    exact wL_areRooms_271 C0 hl9 hK hA hret k179 hk179   _ _ _ _ _ _ _ _ hF _ _ (by omega) (by omega) _ _ _ hw (lv_sub hl [0, 1, 2, 3, 4, 5, 6, 7] rfl)
set_option maxHeartbeats 1000000 in
set_option maxRecDepth 100000 in
theorem wL_areRooms_246 {p : Program} {l : Launch} {e : Env} {s : State} {m : MethodId} {args : Array Value} {below : List Frame} {meth : Method} {c : Code} {A : Nat → Prop} {Q : State → Prop} {G : va_G} {k : Nat → ClassId} {ad : Nat → Nat} {sv : Int32} {kE : Int32} {kR : Int32} {fb : Nat → Int64} {ft : Nat → Int64} {fs : Nat → Int64} {rws : Nat → Int64} {nx : Int32} {ct : Int32} {ch : Nat → Int32} {ln : Int32} {o : Int32} (C0 : zCx p s m args meth c wsL_areRooms cL_areRooms RL (some .boolean) 11) (hl9 : l.stackTraces = false) (hK : zKK G k A s s.heap) (hA : ∀ q : Nat, s.heap.size ≤ q → A q) (hret : zRI p l e rmL_areRooms s m args below meth c cL_areRooms G A 1377 8262 Q .boolean (zC ad k sv kE kR fb ft fs rws nx ct ch ln) o)  {d1_179 d2_179 : Nat} (k179 : Int32 → Int32 → Int32 → Int32 → Int32 → Int32 → Option (Int32)) (hk179 : ∀ (x1 : Int32) (x2 : Int32) (x3 : Int32) (x4 : Int32) (x6 : Int32) (x7 : Int32), k179 x1 x2 x3 x4 x6 x7 = some o → ∀ (ca cb : Nat), ca + d1_179 ≤ 1377 → cb + d2_179 ≤ 8262 → ∀ (H : Heap) (locs : List Loc) (ls : Array Slot), zWd G A s (zC ad k sv kE kR fb ft fs rws nx ct ch ln) H locs → lv_has ls 11 [(0, .ref (ad 0)), (1, .int x1), (2, .int x2), (3, .int x3), (4, .int x4), (6, .int x6), (7, .int x7)] → W p l e rmL_areRooms s m args below meth c H locs ca cb Q (F0 m 179 ls [])) : ∀ (x1 : Int32) (x2 : Int32) (x3 : Int32) (x4 : Int32) (x7 : Int32) (x8 : Int32) (x9 : Int32) (s0 : Int32), fL_areRooms_246 k179 fb ct ln x1 x2 x3 x4 x7 x8 x9 s0 = some o → ∀ (ca cb : Nat), ca + (11 + d1_179) ≤ 1377 → cb + (66 + d2_179) ≤ 8262 → ∀ (H : Heap) (locs : List Loc) (ls : Array Slot), zWd G A s (zC ad k sv kE kR fb ft fs rws nx ct ch ln) H locs → lv_has ls 11 [(0, .ref (ad 0)), (1, .int x1), (2, .int x2), (3, .int x3), (4, .int x4), (7, .int x7), (8, .int x8), (9, .int x9)] → W p l e rmL_areRooms s m args below meth c H locs ca cb Q (F0 m 246 ls [.int s0]) := by
  obtain ⟨hx, hb, hr, hml, hown, hts, hlocks⟩ := id C0
  intro x1 x2 x3 x4 x7 x8 x9 s0 hF ca cb hca hcb H locs ls hw hl
  unfold fL_areRooms_246 at hF
  refine lv_aload_n hx hb dL_areRooms_246 rfl (lv_at hl 0 rfl) ?_
  refine lv_iload_n hx hb dL_areRooms_247 rfl (lv_at hl 1 rfl) ?_
  refine lv_iload hx hb dL_areRooms_248 (lv_at hl 6 rfl) ?_
  refine lv_iconst (v := (5 : Int32)) hx hb dL_areRooms_250 (by decide) ?_
  obtain ⟨u1, hq2, hF⟩ := zbd_t hF
  refine zgoXI4 (o0 := u1.1) (w' := (zC ad k sv kE kR fb ft fs rws nx ct ch ln)) (wa := []) (wc := (zC ad k sv kE kR fb ft fs rws nx ct ch ln)) (wc' := (zC ad k sv kE kR fb ft fs rws nx ct ch ln)) (wr := []) hw (zap_nil _) (zap_nil _) hA (zVx4 (wa := []) (wc := (zC ad k sv kE kR fb ft fs rws nx ct ch ln)) (wr := []) (As := [.int x1, .int x8, .int (5 : Int32)]) (rest := [.int s0]) ⟨hx, hb, hml, hown, hts⟩ (mX4_roomOf l hl9 G k ad H.size sv kE kR fb ft fs rws nx ct ch ln x1 x8 (5 : Int32) u1 hq2) (cwV 3 hts gL_areRooms_X4_roomOf rfl rfl rfl kdX4_roomOf ⟨Nat.le_of_ble_eq_true rfl, Nat.le_of_ble_eq_true rfl⟩) hK hA hw (zap_nil _) 0 rfl rfl rfl rfl hl.1 rfl (Nat.le_of_ble_eq_true rfl) dL_areRooms_251 ⟨(by show _ ≤ 1377; omega), (by show _ ≤ 8262; omega)⟩) rfl (fun h03 H locs q9 E9 ce9 hw g1 g2 g3 g4 => ?_) (fun h03 H locs hw => ?_)
  · exact nomatch (zif_f h03 hF)
  have hF := zif_t h03 hF
  refine lv_iconst (v := (1 : Int32)) hx hb dL_areRooms_254 (by decide) ?_
  refine lv_icmp_ne (tgt := 262) hx hb dL_areRooms_255 (by decide) (fun hc => ?_) (fun hc => ?_)
  · have hF := zif_f hc hF
    refine lv_iconst (v := (0 : Int32)) hx hb dL_areRooms_262 (by decide) ?_
    exact wL_areRooms_263 C0 hl9 hK hA hret k179 hk179   _ _ _ _ _ _ _ _ _ hF _ _ (by omega) (by omega) _ _ _ hw (lv_sub hl [0, 1, 2, 3, 4, 5, 6, 7] rfl)
  · have hF := zif_t hc hF
    refine lv_iconst (v := (1 : Int32)) hx hb dL_areRooms_258 (by decide) ?_
    refine lv_goto (tgt := 263) hx hb dL_areRooms_259 (by decide) ?_
    exact wL_areRooms_263 C0 hl9 hK hA hret k179 hk179   _ _ _ _ _ _ _ _ _ hF _ _ (by omega) (by omega) _ _ _ hw (lv_sub hl [0, 1, 2, 3, 4, 5, 6, 7] rfl)
set_option maxHeartbeats 1000000 in
set_option maxRecDepth 100000 in
theorem wL_areRooms_179 {p : Program} {l : Launch} {e : Env} {s : State} {m : MethodId} {args : Array Value} {below : List Frame} {meth : Method} {c : Code} {A : Nat → Prop} {Q : State → Prop} {G : va_G} {k : Nat → ClassId} {ad : Nat → Nat} {sv : Int32} {kE : Int32} {kR : Int32} {fb : Nat → Int64} {ft : Nat → Int64} {fs : Nat → Int64} {rws : Nat → Int64} {nx : Int32} {ct : Int32} {ch : Nat → Int32} {ln : Int32} {o : Int32} (C0 : zCx p s m args meth c wsL_areRooms cL_areRooms RL (some .boolean) 11) (hl9 : l.stackTraces = false) (hK : zKK G k A s s.heap) (hA : ∀ q : Nat, s.heap.size ≤ q → A q) (hret : zRI p l e rmL_areRooms s m args below meth c cL_areRooms G A 1377 8262 Q .boolean (zC ad k sv kE kR fb ft fs rws nx ct ch ln) o)   : ∀ (n : Nat) (x1 : Int32) (x2 : Int32) (x3 : Int32) (x4 : Int32) (x6 : Int32) (x7 : Int32), fL_areRooms_179  fb ct ln n x1 x2 x3 x4 x6 x7 = some o → ∀ (ca cb : Nat), ca + (n * 17 + 7) ≤ 1377 → cb + (n * 102 + 42) ≤ 8262 → ∀ (H : Heap) (locs : List Loc) (ls : Array Slot), zWd G A s (zC ad k sv kE kR fb ft fs rws nx ct ch ln) H locs → lv_has ls 11 [(0, .ref (ad 0)), (1, .int x1), (2, .int x2), (3, .int x3), (4, .int x4), (6, .int x6), (7, .int x7)] → W p l e rmL_areRooms s m args below meth c H locs ca cb Q (F0 m 179 ls []) := by
  obtain ⟨hx, hb, hr, hml, hown, hts, hlocks⟩ := id C0
  intro n
  induction n with
  | zero => intro x1 x2 x3 x4 x6 x7 hF; exact nomatch hF
  | succ n ih =>
    intro x1 x2 x3 x4 x6 x7 hF ca cb hca hcb H locs ls hw hl
    rw [fL_areRooms_179] at hF
    refine lv_iload hx hb dL_areRooms_179 (lv_at hl 5 rfl) ?_
    refine lv_if_eq (tgt := 382) hx hb dL_areRooms_181 (by decide) (fun hc => ?_) (fun hc => ?_)
    · have hF := zif_t hc hF
      exact wL_areRooms_382 C0 hl9 hK hA hret    _ _ _ _ _ hF _ _ (by omega) (by omega) _ _ _ hw (lv_sub hl [0, 1, 2, 3, 4, 5] rfl)
    · have hF := zif_f hc hF
      refine lv_iload hx hb dL_areRooms_184 (lv_at hl 6 rfl) ?_
      refine lv_bipush (v := (36 : Int32)) hx hb dL_areRooms_186 (by decide) ?_
      refine lv_icmp_ge (tgt := 382) hx hb dL_areRooms_188 (by decide) (fun hc => ?_) (fun hc => ?_)
      · have hF := zif_t hc hF
        exact wL_areRooms_382 C0 hl9 hK hA hret    _ _ _ _ _ hF _ _ (by omega) (by omega) _ _ _ hw (lv_sub hl [0, 1, 2, 3, 4, 5] rfl)
      · have hF := zif_f hc hF
        refine lv_aload_n hx hb dL_areRooms_191 rfl (lv_at hl 0 rfl) ?_
        refine lv_iload_n hx hb dL_areRooms_192 rfl (lv_at hl 1 rfl) ?_
        refine lv_iload hx hb dL_areRooms_193 (lv_at hl 6 rfl) ?_
        obtain ⟨u1, hq2, hF⟩ := zbd_t hF
        refine zgoI4 (w' := (zC ad k sv kE kR fb ft fs rws nx ct ch ln)) (wa := []) (wc := (zC ad k sv kE kR fb ft fs rws nx ct ch ln)) (wc' := (zC ad k sv kE kR fb ft fs rws nx ct ch ln)) (wr := []) hw (zap_nil _) (zap_nil _) hA (zSW4 (wa := []) (wc := (zC ad k sv kE kR fb ft fs rws nx ct ch ln)) (wr := []) (As := [.ref (ad 0), .int x1, .int x7]) (rest := []) ⟨hx, hb, hml, hown, hts⟩ (mL_room l hl9 G k ad H.size sv kE kR fb ft fs rws nx ct ch ln x1 x7 u1 hq2) (vx_cwSW 3 hts gL_areRooms_L_room rfl rfl rfl kdL_room ⟨Nat.le_of_ble_eq_true rfl, Nat.le_of_ble_eq_true rfl⟩) hK hA hw (zap_nil _) rfl hl.1 rfl (Nat.le_of_ble_eq_true rfl) dL_areRooms_195 ⟨(by show _ ≤ 1377; omega), (by show _ ≤ 8262; omega)⟩) rfl (fun H locs hw => ?_)
        refine lv_istore (lv' := [(8, .int u1), (0, .ref (ad 0)), (1, .int x1), (2, .int x2), (3, .int x3), (4, .int x4), (6, .int x6), (7, .int x7)]) hx hb dL_areRooms_198 hl (by decide) rfl (fun ls hl => ?_)
        refine lv_aload_n hx hb dL_areRooms_200 rfl (lv_at hl 1 rfl) ?_
        refine lv_iload_n hx hb dL_areRooms_201 rfl (lv_at hl 2 rfl) ?_
        refine lv_iload hx hb dL_areRooms_202 (lv_at hl 7 rfl) ?_
        obtain ⟨u3, hq4, hF⟩ := zbd_t hF
        refine zgoI4 (w' := (zC ad k sv kE kR fb ft fs rws nx ct ch ln)) (wa := []) (wc := (zC ad k sv kE kR fb ft fs rws nx ct ch ln)) (wc' := (zC ad k sv kE kR fb ft fs rws nx ct ch ln)) (wr := []) hw (zap_nil _) (zap_nil _) hA (zSW4 (wa := []) (wc := (zC ad k sv kE kR fb ft fs rws nx ct ch ln)) (wr := []) (As := [.ref (ad 0), .int x1, .int x7]) (rest := []) ⟨hx, hb, hml, hown, hts⟩ (mL_steps l hl9 G k ad H.size sv kE kR fb ft fs rws nx ct ch ln x1 x7 u3 hq4) (vx_cwSW 3 hts gL_areRooms_L_steps rfl rfl rfl kdL_steps ⟨Nat.le_of_ble_eq_true rfl, Nat.le_of_ble_eq_true rfl⟩) hK hA hw (zap_nil _) rfl hl.1 rfl (Nat.le_of_ble_eq_true rfl) dL_areRooms_204 ⟨(by show _ ≤ 1377; omega), (by show _ ≤ 8262; omega)⟩) rfl (fun H locs hw => ?_)
        refine lv_istore (lv' := [(9, .int u3), (8, .int u1), (0, .ref (ad 0)), (1, .int x1), (2, .int x2), (3, .int x3), (4, .int x4), (6, .int x6), (7, .int x7)]) hx hb dL_areRooms_207 hl (by decide) rfl (fun ls hl => ?_)
        refine lv_iload hx hb dL_areRooms_209 (lv_at hl 1 rfl) ?_
        refine lv_sipush (v := (-1000 : Int32)) hx hb dL_areRooms_211 (by decide) ?_
        refine lv_icmp_ne (tgt := 233) hx hb dL_areRooms_214 (by decide) (fun hc => ?_) (fun hc => ?_)
        · have hF := zif_f hc hF
          refine lv_iload hx hb dL_areRooms_233 (lv_at hl 0 rfl) ?_
          refine lv_sipush (v := (-1000 : Int32)) hx hb dL_areRooms_235 (by decide) ?_
          refine lv_icmp_ne (tgt := 245) hx hb dL_areRooms_238 (by decide) (fun hc => ?_) (fun hc => ?_)
          · have hF := zif_f hc hF
            refine lv_iconst (v := (0 : Int32)) hx hb dL_areRooms_245 (by decide) ?_
            exact wL_areRooms_246 C0 hl9 hK hA hret (fun z0 z1 z2 z3 z4 z5 => fL_areRooms_179  fb ct ln n z0 z1 z2 z3 z4 z5) ih   _ _ _ _ _ _ _ _ hF _ _ (by omega) (by omega) _ _ _ hw (lv_sub hl [2, 3, 4, 5, 6, 8, 1, 0] rfl)
          · have hF := zif_t hc hF
            refine lv_iconst (v := (1 : Int32)) hx hb dL_areRooms_241 (by decide) ?_
            refine lv_goto (tgt := 246) hx hb dL_areRooms_242 (by decide) ?_
            exact wL_areRooms_246 C0 hl9 hK hA hret (fun z0 z1 z2 z3 z4 z5 => fL_areRooms_179  fb ct ln n z0 z1 z2 z3 z4 z5) ih   _ _ _ _ _ _ _ _ hF _ _ (by omega) (by omega) _ _ _ hw (lv_sub hl [2, 3, 4, 5, 6, 8, 1, 0] rfl)
        · have hF := zif_t hc hF
          refine lv_iload hx hb dL_areRooms_217 (lv_at hl 0 rfl) ?_
          refine lv_sipush (v := (-1000 : Int32)) hx hb dL_areRooms_219 (by decide) ?_
          refine lv_icmp_ne (tgt := 229) hx hb dL_areRooms_222 (by decide) (fun hc => ?_) (fun hc => ?_)
          · have hF := zif_f hc hF
            refine lv_iconst (v := (0 : Int32)) hx hb dL_areRooms_229 (by decide) ?_
            refine lv_goto (tgt := 271) hx hb dL_areRooms_230 (by decide) ?_
            exact wL_areRooms_271 C0 hl9 hK hA hret (fun z0 z1 z2 z3 z4 z5 => fL_areRooms_179  fb ct ln n z0 z1 z2 z3 z4 z5) ih   _ _ _ _ _ _ _ _ hF _ _ (by omega) (by omega) _ _ _ hw (lv_sub hl [2, 3, 4, 5, 6, 8, 1, 0] rfl)
          · have hF := zif_t hc hF
            refine lv_iconst (v := (1 : Int32)) hx hb dL_areRooms_225 (by decide) ?_
            refine lv_goto (tgt := 271) hx hb dL_areRooms_226 (by decide) ?_
            exact wL_areRooms_271 C0 hl9 hK hA hret (fun z0 z1 z2 z3 z4 z5 => fL_areRooms_179  fb ct ln n z0 z1 z2 z3 z4 z5) ih   _ _ _ _ _ _ _ _ hF _ _ (by omega) (by omega) _ _ _ hw (lv_sub hl [2, 3, 4, 5, 6, 8, 1, 0] rfl)
set_option maxHeartbeats 1000000 in
set_option maxRecDepth 100000 in
theorem wL_areRooms_176 {p : Program} {l : Launch} {e : Env} {s : State} {m : MethodId} {args : Array Value} {below : List Frame} {meth : Method} {c : Code} {A : Nat → Prop} {Q : State → Prop} {G : va_G} {k : Nat → ClassId} {ad : Nat → Nat} {sv : Int32} {kE : Int32} {kR : Int32} {fb : Nat → Int64} {ft : Nat → Int64} {fs : Nat → Int64} {rws : Nat → Int64} {nx : Int32} {ct : Int32} {ch : Nat → Int32} {ln : Int32} {o : Int32} (C0 : zCx p s m args meth c wsL_areRooms cL_areRooms RL (some .boolean) 11) (hl9 : l.stackTraces = false) (hK : zKK G k A s s.heap) (hA : ∀ q : Nat, s.heap.size ≤ q → A q) (hret : zRI p l e rmL_areRooms s m args below meth c cL_areRooms G A 1377 8262 Q .boolean (zC ad k sv kE kR fb ft fs rws nx ct ch ln) o)   : ∀ (x1 : Int32) (x2 : Int32) (x3 : Int32) (x4 : Int32) (x6 : Int32), fL_areRooms_176  fb ct ln x1 x2 x3 x4 x6 = some o → ∀ (ca cb : Nat), ca + (636) ≤ 1377 → cb + (3816) ≤ 8262 → ∀ (H : Heap) (locs : List Loc) (ls : Array Slot), zWd G A s (zC ad k sv kE kR fb ft fs rws nx ct ch ln) H locs → lv_has ls 11 [(0, .ref (ad 0)), (1, .int x1), (2, .int x2), (3, .int x3), (4, .int x4), (6, .int x6)] → W p l e rmL_areRooms s m args below meth c H locs ca cb Q (F0 m 176 ls []) := by
  obtain ⟨hx, hb, hr, hml, hown, hts, hlocks⟩ := id C0
  intro x1 x2 x3 x4 x6 hF ca cb hca hcb H locs ls hw hl
  unfold fL_areRooms_176 at hF
  refine lv_iconst (v := (0 : Int32)) hx hb dL_areRooms_176 (by decide) ?_
  refine lv_istore (lv' := [(7, .int (0 : Int32)), (0, .ref (ad 0)), (1, .int x1), (2, .int x2), (3, .int x3), (4, .int x4), (6, .int x6)]) hx hb dL_areRooms_177 hl (by decide) rfl (fun ls hl => ?_)
  exact wL_areRooms_179 C0 hl9 hK hA hret   37 _ _ _ _ _ _ hF _ _ (by omega) (by omega) _ _ _ hw (lv_sub hl [1, 2, 3, 4, 5, 6, 0] rfl)
set_option maxHeartbeats 1000000 in
set_option maxRecDepth 100000 in
theorem wL_areRooms_167 {p : Program} {l : Launch} {e : Env} {s : State} {m : MethodId} {args : Array Value} {below : List Frame} {meth : Method} {c : Code} {A : Nat → Prop} {Q : State → Prop} {G : va_G} {k : Nat → ClassId} {ad : Nat → Nat} {sv : Int32} {kE : Int32} {kR : Int32} {fb : Nat → Int64} {ft : Nat → Int64} {fs : Nat → Int64} {rws : Nat → Int64} {nx : Int32} {ct : Int32} {ch : Nat → Int32} {ln : Int32} {o : Int32} (C0 : zCx p s m args meth c wsL_areRooms cL_areRooms RL (some .boolean) 11) (hl9 : l.stackTraces = false) (hK : zKK G k A s s.heap) (hA : ∀ q : Nat, s.heap.size ≤ q → A q) (hret : zRI p l e rmL_areRooms s m args below meth c cL_areRooms G A 1377 8262 Q .boolean (zC ad k sv kE kR fb ft fs rws nx ct ch ln) o)  {d1_16 d2_16 : Nat} (k16 : Int32 → Int32 → Int32 → Int32 → Int32 → Int32 → Int32 → Option (Int32)) (hk16 : ∀ (x1 : Int32) (x2 : Int32) (x3 : Int32) (x4 : Int32) (x5 : Int32) (x6 : Int32) (x7 : Int32), k16 x1 x2 x3 x4 x5 x6 x7 = some o → ∀ (ca cb : Nat), ca + d1_16 ≤ 1377 → cb + d2_16 ≤ 8262 → ∀ (H : Heap) (locs : List Loc) (ls : Array Slot), zWd G A s (zC ad k sv kE kR fb ft fs rws nx ct ch ln) H locs → lv_has ls 11 [(0, .ref (ad 0)), (1, .int x1), (2, .int x2), (3, .int x3), (4, .int x4), (5, .int x5), (6, .int x6), (7, .int x7)] → W p l e rmL_areRooms s m args below meth c H locs ca cb Q (F0 m 16 ls [])) : ∀ (x1 : Int32) (x2 : Int32) (x3 : Int32) (x4 : Int32) (x5 : Int32) (x7 : Int32) (s0 : Int32) (s1 : Int32), fL_areRooms_167 k16 fb ct ln x1 x2 x3 x4 x5 x7 s0 s1 = some o → ∀ (ca cb : Nat), ca + (0 + d1_16) ≤ 1377 → cb + (0 + d2_16) ≤ 8262 → ∀ (H : Heap) (locs : List Loc) (ls : Array Slot), zWd G A s (zC ad k sv kE kR fb ft fs rws nx ct ch ln) H locs → lv_has ls 11 [(0, .ref (ad 0)), (1, .int x1), (2, .int x2), (3, .int x3), (4, .int x4), (5, .int x5), (7, .int x7)] → W p l e rmL_areRooms s m args below meth c H locs ca cb Q (F0 m 167 ls [.int s0, .int s1]) := by
  obtain ⟨hx, hb, hr, hml, hown, hts, hlocks⟩ := id C0
  intro x1 x2 x3 x4 x5 x7 s0 s1 hF ca cb hca hcb H locs ls hw hl
  unfold fL_areRooms_167 at hF
  refine lv_iand hx hb dL_areRooms_167 ?_
  refine lv_topi (fun a1 ea1 => ?_)
  have hF := zbn_t ea1 hF
  refine lv_istore (lv' := [(6, .int a1), (0, .ref (ad 0)), (1, .int x1), (2, .int x2), (3, .int x3), (4, .int x4), (5, .int x5), (7, .int x7)]) hx hb dL_areRooms_168 hl (by decide) rfl (fun ls hl => ?_)
  obtain ⟨a2, ea2⟩ : ∃ z : Int32, z = x7 + (1 : Int32) := ⟨_, rfl⟩
  have hF := zbn_t ea2 hF
  refine lv_iinc (v := a2) (lv' := [(7, .int a2), (6, .int a1), (0, .ref (ad 0)), (1, .int x1), (2, .int x2), (3, .int x3), (4, .int x4), (5, .int x5)]) hx hb dL_areRooms_170 hl (k := 7) rfl (by rw [ea2]; rfl) (by decide) rfl (fun ls hl => ?_)
  refine lv_goto (tgt := 16) hx hb dL_areRooms_173 (by decide) ?_
  exact hk16 _ _ _ _ _ _ _ hF _ _ (by omega) (by omega) _ _ _ hw (lv_sub hl [2, 3, 4, 5, 6, 7, 1, 0] rfl)
set_option maxHeartbeats 1000000 in
set_option maxRecDepth 100000 in
theorem wL_areRooms_136 {p : Program} {l : Launch} {e : Env} {s : State} {m : MethodId} {args : Array Value} {below : List Frame} {meth : Method} {c : Code} {A : Nat → Prop} {Q : State → Prop} {G : va_G} {k : Nat → ClassId} {ad : Nat → Nat} {sv : Int32} {kE : Int32} {kR : Int32} {fb : Nat → Int64} {ft : Nat → Int64} {fs : Nat → Int64} {rws : Nat → Int64} {nx : Int32} {ct : Int32} {ch : Nat → Int32} {ln : Int32} {o : Int32} (C0 : zCx p s m args meth c wsL_areRooms cL_areRooms RL (some .boolean) 11) (hl9 : l.stackTraces = false) (hK : zKK G k A s s.heap) (hA : ∀ q : Nat, s.heap.size ≤ q → A q) (hret : zRI p l e rmL_areRooms s m args below meth c cL_areRooms G A 1377 8262 Q .boolean (zC ad k sv kE kR fb ft fs rws nx ct ch ln) o)  {d1_16 d2_16 : Nat} (k16 : Int32 → Int32 → Int32 → Int32 → Int32 → Int32 → Int32 → Option (Int32)) (hk16 : ∀ (x1 : Int32) (x2 : Int32) (x3 : Int32) (x4 : Int32) (x5 : Int32) (x6 : Int32) (x7 : Int32), k16 x1 x2 x3 x4 x5 x6 x7 = some o → ∀ (ca cb : Nat), ca + d1_16 ≤ 1377 → cb + d2_16 ≤ 8262 → ∀ (H : Heap) (locs : List Loc) (ls : Array Slot), zWd G A s (zC ad k sv kE kR fb ft fs rws nx ct ch ln) H locs → lv_has ls 11 [(0, .ref (ad 0)), (1, .int x1), (2, .int x2), (3, .int x3), (4, .int x4), (5, .int x5), (6, .int x6), (7, .int x7)] → W p l e rmL_areRooms s m args below meth c H locs ca cb Q (F0 m 16 ls [])) : ∀ (x1 : Int32) (x2 : Int32) (x3 : Int32) (x4 : Int32) (x7 : Int32) (s0 : Int32), fL_areRooms_136 k16 fb ct ln x1 x2 x3 x4 x7 s0 = some o → ∀ (ca cb : Nat), ca + (5 + d1_16) ≤ 1377 → cb + (30 + d2_16) ≤ 8262 → ∀ (H : Heap) (locs : List Loc) (ls : Array Slot), zWd G A s (zC ad k sv kE kR fb ft fs rws nx ct ch ln) H locs → lv_has ls 11 [(0, .ref (ad 0)), (1, .int x1), (2, .int x2), (3, .int x3), (4, .int x4), (7, .int x7)] → W p l e rmL_areRooms s m args below meth c H locs ca cb Q (F0 m 136 ls [.int s0]) := by
  obtain ⟨hx, hb, hr, hml, hown, hts, hlocks⟩ := id C0
  intro x1 x2 x3 x4 x7 s0 hF ca cb hca hcb H locs ls hw hl
  unfold fL_areRooms_136 at hF
  refine lv_istore (lv' := [(6, .int s0), (0, .ref (ad 0)), (1, .int x1), (2, .int x2), (3, .int x3), (4, .int x4), (7, .int x7)]) hx hb dL_areRooms_136 hl (by decide) rfl (fun ls hl => ?_)
  refine lv_aload_n hx hb dL_areRooms_138 rfl (lv_at hl 1 rfl) ?_
  refine lv_iload_n hx hb dL_areRooms_139 rfl (lv_at hl 2 rfl) ?_
  refine lv_iload hx hb dL_areRooms_140 (lv_at hl 6 rfl) ?_
  refine lv_iconst (v := (4 : Int32)) hx hb dL_areRooms_142 (by decide) ?_
  obtain ⟨u1, hq2, hF⟩ := zbd_t hF
  refine zgoXI4 (o0 := u1.1) (w' := (zC ad k sv kE kR fb ft fs rws nx ct ch ln)) (wa := []) (wc := (zC ad k sv kE kR fb ft fs rws nx ct ch ln)) (wc' := (zC ad k sv kE kR fb ft fs rws nx ct ch ln)) (wr := []) hw (zap_nil _) (zap_nil _) hA (zVx4 (wa := []) (wc := (zC ad k sv kE kR fb ft fs rws nx ct ch ln)) (wr := []) (As := [.int x1, .int x7, .int (4 : Int32)]) (rest := []) ⟨hx, hb, hml, hown, hts⟩ (mX4_roomOf l hl9 G k ad H.size sv kE kR fb ft fs rws nx ct ch ln x1 x7 (4 : Int32) u1 hq2) (cwV 3 hts gL_areRooms_X4_roomOf rfl rfl rfl kdX4_roomOf ⟨Nat.le_of_ble_eq_true rfl, Nat.le_of_ble_eq_true rfl⟩) hK hA hw (zap_nil _) 0 rfl rfl rfl rfl hl.1 rfl (Nat.le_of_ble_eq_true rfl) dL_areRooms_143 ⟨(by show _ ≤ 1377; omega), (by show _ ≤ 8262; omega)⟩) rfl (fun h03 H locs q9 E9 ce9 hw g1 g2 g3 g4 => ?_) (fun h03 H locs hw => ?_)
  · exact nomatch (zif_f h03 hF)
  have hF := zif_t h03 hF
  refine lv_istore (lv' := [(5, .int u1.2), (6, .int s0), (0, .ref (ad 0)), (1, .int x1), (2, .int x2), (3, .int x3), (4, .int x4), (7, .int x7)]) hx hb dL_areRooms_146 hl (by decide) rfl (fun ls hl => ?_)
  refine lv_iload hx hb dL_areRooms_148 (lv_at hl 1 rfl) ?_
  refine lv_aload_n hx hb dL_areRooms_150 rfl (lv_at hl 2 rfl) ?_
  refine lv_iload_n hx hb dL_areRooms_151 rfl (lv_at hl 3 rfl) ?_
  refine lv_iload hx hb dL_areRooms_152 (lv_at hl 0 rfl) ?_
  obtain ⟨u4, hq5, hF⟩ := zbd_t hF
  refine zgoI4 (w' := (zC ad k sv kE kR fb ft fs rws nx ct ch ln)) (wa := []) (wc := (zC ad k sv kE kR fb ft fs rws nx ct ch ln)) (wc' := (zC ad k sv kE kR fb ft fs rws nx ct ch ln)) (wr := []) hw (zap_nil _) (zap_nil _) hA (zSW4 (wa := []) (wc := (zC ad k sv kE kR fb ft fs rws nx ct ch ln)) (wr := []) (As := [.ref (ad 0), .int x1, .int u1.2]) (rest := [.int s0]) ⟨hx, hb, hml, hown, hts⟩ (mL_room l hl9 G k ad H.size sv kE kR fb ft fs rws nx ct ch ln x1 u1.2 u4 hq5) (vx_cwSW 3 hts gL_areRooms_L_room rfl rfl rfl kdL_room ⟨Nat.le_of_ble_eq_true rfl, Nat.le_of_ble_eq_true rfl⟩) hK hA hw (zap_nil _) rfl hl.1 rfl (Nat.le_of_ble_eq_true rfl) dL_areRooms_154 ⟨(by show _ ≤ 1377; omega), (by show _ ≤ 8262; omega)⟩) rfl (fun H locs hw => ?_)
  refine lv_iload hx hb dL_areRooms_157 (lv_at hl 7 rfl) ?_
  refine lv_icmp_ne (tgt := 166) hx hb dL_areRooms_159 (by decide) (fun hc => ?_) (fun hc => ?_)
  · have hF := zif_f hc hF
    refine lv_iconst (v := (0 : Int32)) hx hb dL_areRooms_166 (by decide) ?_
    exact wL_areRooms_167 C0 hl9 hK hA hret k16 hk16   _ _ _ _ _ _ _ _ hF _ _ (by omega) (by omega) _ _ _ hw (lv_sub hl [2, 3, 4, 5, 6, 0, 7] rfl)
  · have hF := zif_t hc hF
    refine lv_iconst (v := (1 : Int32)) hx hb dL_areRooms_162 (by decide) ?_
    refine lv_goto (tgt := 167) hx hb dL_areRooms_163 (by decide) ?_
    exact wL_areRooms_167 C0 hl9 hK hA hret k16 hk16   _ _ _ _ _ _ _ _ hF _ _ (by omega) (by omega) _ _ _ hw (lv_sub hl [2, 3, 4, 5, 6, 0, 7] rfl)
set_option maxHeartbeats 1000000 in
set_option maxRecDepth 100000 in
theorem wL_areRooms_135 {p : Program} {l : Launch} {e : Env} {s : State} {m : MethodId} {args : Array Value} {below : List Frame} {meth : Method} {c : Code} {A : Nat → Prop} {Q : State → Prop} {G : va_G} {k : Nat → ClassId} {ad : Nat → Nat} {sv : Int32} {kE : Int32} {kR : Int32} {fb : Nat → Int64} {ft : Nat → Int64} {fs : Nat → Int64} {rws : Nat → Int64} {nx : Int32} {ct : Int32} {ch : Nat → Int32} {ln : Int32} {o : Int32} (C0 : zCx p s m args meth c wsL_areRooms cL_areRooms RL (some .boolean) 11) (hl9 : l.stackTraces = false) (hK : zKK G k A s s.heap) (hA : ∀ q : Nat, s.heap.size ≤ q → A q) (hret : zRI p l e rmL_areRooms s m args below meth c cL_areRooms G A 1377 8262 Q .boolean (zC ad k sv kE kR fb ft fs rws nx ct ch ln) o)  {d1_16 d2_16 : Nat} (k16 : Int32 → Int32 → Int32 → Int32 → Int32 → Int32 → Int32 → Option (Int32)) (hk16 : ∀ (x1 : Int32) (x2 : Int32) (x3 : Int32) (x4 : Int32) (x5 : Int32) (x6 : Int32) (x7 : Int32), k16 x1 x2 x3 x4 x5 x6 x7 = some o → ∀ (ca cb : Nat), ca + d1_16 ≤ 1377 → cb + d2_16 ≤ 8262 → ∀ (H : Heap) (locs : List Loc) (ls : Array Slot), zWd G A s (zC ad k sv kE kR fb ft fs rws nx ct ch ln) H locs → lv_has ls 11 [(0, .ref (ad 0)), (1, .int x1), (2, .int x2), (3, .int x3), (4, .int x4), (5, .int x5), (6, .int x6), (7, .int x7)] → W p l e rmL_areRooms s m args below meth c H locs ca cb Q (F0 m 16 ls [])) : ∀ (x1 : Int32) (x2 : Int32) (x3 : Int32) (x4 : Int32) (x7 : Int32), fL_areRooms_135 k16 fb ct ln x1 x2 x3 x4 x7 = some o → ∀ (ca cb : Nat), ca + (5 + d1_16) ≤ 1377 → cb + (30 + d2_16) ≤ 8262 → ∀ (H : Heap) (locs : List Loc) (ls : Array Slot), zWd G A s (zC ad k sv kE kR fb ft fs rws nx ct ch ln) H locs → lv_has ls 11 [(0, .ref (ad 0)), (1, .int x1), (2, .int x2), (3, .int x3), (4, .int x4), (7, .int x7)] → W p l e rmL_areRooms s m args below meth c H locs ca cb Q (F0 m 135 ls []) := by
  obtain ⟨hx, hb, hr, hml, hown, hts, hlocks⟩ := id C0
  intro x1 x2 x3 x4 x7 hF ca cb hca hcb H locs ls hw hl
  unfold fL_areRooms_135 at hF
  refine lv_iconst (v := (0 : Int32)) hx hb dL_areRooms_135 (by decide) ?_
  exact wL_areRooms_136 C0 hl9 hK hA hret k16 hk16   _ _ _ _ _ _ hF _ _ (by omega) (by omega) _ _ _ hw (lv_sub hl [0, 1, 2, 3, 4, 5] rfl)
set_option maxHeartbeats 1000000 in
set_option maxRecDepth 100000 in
theorem wL_areRooms_128 {p : Program} {l : Launch} {e : Env} {s : State} {m : MethodId} {args : Array Value} {below : List Frame} {meth : Method} {c : Code} {A : Nat → Prop} {Q : State → Prop} {G : va_G} {k : Nat → ClassId} {ad : Nat → Nat} {sv : Int32} {kE : Int32} {kR : Int32} {fb : Nat → Int64} {ft : Nat → Int64} {fs : Nat → Int64} {rws : Nat → Int64} {nx : Int32} {ct : Int32} {ch : Nat → Int32} {ln : Int32} {o : Int32} (C0 : zCx p s m args meth c wsL_areRooms cL_areRooms RL (some .boolean) 11) (hl9 : l.stackTraces = false) (hK : zKK G k A s s.heap) (hA : ∀ q : Nat, s.heap.size ≤ q → A q) (hret : zRI p l e rmL_areRooms s m args below meth c cL_areRooms G A 1377 8262 Q .boolean (zC ad k sv kE kR fb ft fs rws nx ct ch ln) o)  {d1_16 d2_16 : Nat} (k16 : Int32 → Int32 → Int32 → Int32 → Int32 → Int32 → Int32 → Option (Int32)) (hk16 : ∀ (x1 : Int32) (x2 : Int32) (x3 : Int32) (x4 : Int32) (x5 : Int32) (x6 : Int32) (x7 : Int32), k16 x1 x2 x3 x4 x5 x6 x7 = some o → ∀ (ca cb : Nat), ca + d1_16 ≤ 1377 → cb + d2_16 ≤ 8262 → ∀ (H : Heap) (locs : List Loc) (ls : Array Slot), zWd G A s (zC ad k sv kE kR fb ft fs rws nx ct ch ln) H locs → lv_has ls 11 [(0, .ref (ad 0)), (1, .int x1), (2, .int x2), (3, .int x3), (4, .int x4), (5, .int x5), (6, .int x6), (7, .int x7)] → W p l e rmL_areRooms s m args below meth c H locs ca cb Q (F0 m 16 ls [])) : ∀ (x1 : Int32) (x2 : Int32) (x3 : Int32) (x4 : Int32) (x7 : Int32) (s0 : Int32) (s1 : Int32), fL_areRooms_128 k16 fb ct ln x1 x2 x3 x4 x7 s0 s1 = some o → ∀ (ca cb : Nat), ca + (5 + d1_16) ≤ 1377 → cb + (30 + d2_16) ≤ 8262 → ∀ (H : Heap) (locs : List Loc) (ls : Array Slot), zWd G A s (zC ad k sv kE kR fb ft fs rws nx ct ch ln) H locs → lv_has ls 11 [(0, .ref (ad 0)), (1, .int x1), (2, .int x2), (3, .int x3), (4, .int x4), (7, .int x7)] → W p l e rmL_areRooms s m args below meth c H locs ca cb Q (F0 m 128 ls [.int s0, .int s1]) := by
  obtain ⟨hx, hb, hr, hml, hown, hts, hlocks⟩ := id C0
  intro x1 x2 x3 x4 x7 s0 s1 hF ca cb hca hcb H locs ls hw hl
  unfold fL_areRooms_128 at hF
  refine lv_icmp_ne (tgt := 135) hx hb dL_areRooms_128 (by decide) (fun hc => ?_) (fun hc => ?_)
  · have hF := zif_f hc hF
    exact wL_areRooms_135 C0 hl9 hK hA hret k16 hk16   _ _ _ _ _ hF _ _ (by omega) (by omega) _ _ _ hw (lv_sub hl [0, 1, 2, 3, 4, 5] rfl)
  · have hF := zif_t hc hF
    refine lv_iconst (v := (1 : Int32)) hx hb dL_areRooms_131 (by decide) ?_
    refine lv_goto (tgt := 136) hx hb dL_areRooms_132 (by decide) ?_
    exact wL_areRooms_136 C0 hl9 hK hA hret k16 hk16   _ _ _ _ _ _ hF _ _ (by omega) (by omega) _ _ _ hw (lv_sub hl [0, 1, 2, 3, 4, 5] rfl)
set_option maxHeartbeats 1000000 in
set_option maxRecDepth 100000 in
theorem wL_areRooms_112 {p : Program} {l : Launch} {e : Env} {s : State} {m : MethodId} {args : Array Value} {below : List Frame} {meth : Method} {c : Code} {A : Nat → Prop} {Q : State → Prop} {G : va_G} {k : Nat → ClassId} {ad : Nat → Nat} {sv : Int32} {kE : Int32} {kR : Int32} {fb : Nat → Int64} {ft : Nat → Int64} {fs : Nat → Int64} {rws : Nat → Int64} {nx : Int32} {ct : Int32} {ch : Nat → Int32} {ln : Int32} {o : Int32} (C0 : zCx p s m args meth c wsL_areRooms cL_areRooms RL (some .boolean) 11) (hl9 : l.stackTraces = false) (hK : zKK G k A s s.heap) (hA : ∀ q : Nat, s.heap.size ≤ q → A q) (hret : zRI p l e rmL_areRooms s m args below meth c cL_areRooms G A 1377 8262 Q .boolean (zC ad k sv kE kR fb ft fs rws nx ct ch ln) o)  {d1_16 d2_16 : Nat} (k16 : Int32 → Int32 → Int32 → Int32 → Int32 → Int32 → Int32 → Option (Int32)) (hk16 : ∀ (x1 : Int32) (x2 : Int32) (x3 : Int32) (x4 : Int32) (x5 : Int32) (x6 : Int32) (x7 : Int32), k16 x1 x2 x3 x4 x5 x6 x7 = some o → ∀ (ca cb : Nat), ca + d1_16 ≤ 1377 → cb + d2_16 ≤ 8262 → ∀ (H : Heap) (locs : List Loc) (ls : Array Slot), zWd G A s (zC ad k sv kE kR fb ft fs rws nx ct ch ln) H locs → lv_has ls 11 [(0, .ref (ad 0)), (1, .int x1), (2, .int x2), (3, .int x3), (4, .int x4), (5, .int x5), (6, .int x6), (7, .int x7)] → W p l e rmL_areRooms s m args below meth c H locs ca cb Q (F0 m 16 ls [])) : ∀ (x1 : Int32) (x2 : Int32) (x3 : Int32) (x4 : Int32) (x7 : Int32) (s0 : Int32), fL_areRooms_112 k16 fb ct ln x1 x2 x3 x4 x7 s0 = some o → ∀ (ca cb : Nat), ca + (7 + d1_16) ≤ 1377 → cb + (42 + d2_16) ≤ 8262 → ∀ (H : Heap) (locs : List Loc) (ls : Array Slot), zWd G A s (zC ad k sv kE kR fb ft fs rws nx ct ch ln) H locs → lv_has ls 11 [(0, .ref (ad 0)), (1, .int x1), (2, .int x2), (3, .int x3), (4, .int x4), (7, .int x7)] → W p l e rmL_areRooms s m args below meth c H locs ca cb Q (F0 m 112 ls [.int s0]) := by
  obtain ⟨hx, hb, hr, hml, hown, hts, hlocks⟩ := id C0
  intro x1 x2 x3 x4 x7 s0 hF ca cb hca hcb H locs ls hw hl
  unfold fL_areRooms_112 at hF
  refine lv_aload_n hx hb dL_areRooms_112 rfl (lv_at hl 0 rfl) ?_
  refine lv_iload_n hx hb dL_areRooms_113 rfl (lv_at hl 1 rfl) ?_
  refine lv_iload hx hb dL_areRooms_114 (lv_at hl 5 rfl) ?_
  refine lv_iconst (v := (1 : Int32)) hx hb dL_areRooms_116 (by decide) ?_
  obtain ⟨u1, hq2, hF⟩ := zbd_t hF
  refine zgoXI4 (o0 := u1.1) (w' := (zC ad k sv kE kR fb ft fs rws nx ct ch ln)) (wa := []) (wc := (zC ad k sv kE kR fb ft fs rws nx ct ch ln)) (wc' := (zC ad k sv kE kR fb ft fs rws nx ct ch ln)) (wr := []) hw (zap_nil _) (zap_nil _) hA (zVx4 (wa := []) (wc := (zC ad k sv kE kR fb ft fs rws nx ct ch ln)) (wr := []) (As := [.int x1, .int x7, .int (1 : Int32)]) (rest := [.int s0]) ⟨hx, hb, hml, hown, hts⟩ (mX4_roomOf l hl9 G k ad H.size sv kE kR fb ft fs rws nx ct ch ln x1 x7 (1 : Int32) u1 hq2) (cwV 3 hts gL_areRooms_X4_roomOf rfl rfl rfl kdX4_roomOf ⟨Nat.le_of_ble_eq_true rfl, Nat.le_of_ble_eq_true rfl⟩) hK hA hw (zap_nil _) 0 rfl rfl rfl rfl hl.1 rfl (Nat.le_of_ble_eq_true rfl) dL_areRooms_117 ⟨(by show _ ≤ 1377; omega), (by show _ ≤ 8262; omega)⟩) rfl (fun h03 H locs q9 E9 ce9 hw g1 g2 g3 g4 => ?_) (fun h03 H locs hw => ?_)
  · exact nomatch (zif_f h03 hF)
  have hF := zif_t h03 hF
  refine lv_if_ne (tgt := 127) hx hb dL_areRooms_120 (by decide) (fun hc => ?_) (fun hc => ?_)
  · have hF := zif_f hc hF
    refine lv_iconst (v := (0 : Int32)) hx hb dL_areRooms_127 (by decide) ?_
    exact wL_areRooms_128 C0 hl9 hK hA hret k16 hk16   _ _ _ _ _ _ _ hF _ _ (by omega) (by omega) _ _ _ hw (lv_sub hl [0, 1, 2, 3, 4, 5] rfl)
  · have hF := zif_t hc hF
    refine lv_iconst (v := (1 : Int32)) hx hb dL_areRooms_123 (by decide) ?_
    refine lv_goto (tgt := 128) hx hb dL_areRooms_124 (by decide) ?_
    exact wL_areRooms_128 C0 hl9 hK hA hret k16 hk16   _ _ _ _ _ _ _ hF _ _ (by omega) (by omega) _ _ _ hw (lv_sub hl [0, 1, 2, 3, 4, 5] rfl)
set_option maxHeartbeats 1000000 in
set_option maxRecDepth 100000 in
theorem wL_areRooms_80 {p : Program} {l : Launch} {e : Env} {s : State} {m : MethodId} {args : Array Value} {below : List Frame} {meth : Method} {c : Code} {A : Nat → Prop} {Q : State → Prop} {G : va_G} {k : Nat → ClassId} {ad : Nat → Nat} {sv : Int32} {kE : Int32} {kR : Int32} {fb : Nat → Int64} {ft : Nat → Int64} {fs : Nat → Int64} {rws : Nat → Int64} {nx : Int32} {ct : Int32} {ch : Nat → Int32} {ln : Int32} {o : Int32} (C0 : zCx p s m args meth c wsL_areRooms cL_areRooms RL (some .boolean) 11) (hl9 : l.stackTraces = false) (hK : zKK G k A s s.heap) (hA : ∀ q : Nat, s.heap.size ≤ q → A q) (hret : zRI p l e rmL_areRooms s m args below meth c cL_areRooms G A 1377 8262 Q .boolean (zC ad k sv kE kR fb ft fs rws nx ct ch ln) o)  {d1_16 d2_16 : Nat} (k16 : Int32 → Int32 → Int32 → Int32 → Int32 → Int32 → Int32 → Option (Int32)) (hk16 : ∀ (x1 : Int32) (x2 : Int32) (x3 : Int32) (x4 : Int32) (x5 : Int32) (x6 : Int32) (x7 : Int32), k16 x1 x2 x3 x4 x5 x6 x7 = some o → ∀ (ca cb : Nat), ca + d1_16 ≤ 1377 → cb + d2_16 ≤ 8262 → ∀ (H : Heap) (locs : List Loc) (ls : Array Slot), zWd G A s (zC ad k sv kE kR fb ft fs rws nx ct ch ln) H locs → lv_has ls 11 [(0, .ref (ad 0)), (1, .int x1), (2, .int x2), (3, .int x3), (4, .int x4), (5, .int x5), (6, .int x6), (7, .int x7)] → W p l e rmL_areRooms s m args below meth c H locs ca cb Q (F0 m 16 ls [])) : ∀ (x1 : Int32) (x2 : Int32) (x4 : Int32) (x5 : Int32) (x7 : Int32) (s0 : Int32) (s1 : Int32), fL_areRooms_80 k16 fb ct ln x1 x2 x4 x5 x7 s0 s1 = some o → ∀ (ca cb : Nat), ca + (11 + d1_16) ≤ 1377 → cb + (66 + d2_16) ≤ 8262 → ∀ (H : Heap) (locs : List Loc) (ls : Array Slot), zWd G A s (zC ad k sv kE kR fb ft fs rws nx ct ch ln) H locs → lv_has ls 11 [(0, .ref (ad 0)), (1, .int x1), (2, .int x2), (4, .int x4), (5, .int x5), (7, .int x7)] → W p l e rmL_areRooms s m args below meth c H locs ca cb Q (F0 m 80 ls [.int s0, .int s1]) := by
  obtain ⟨hx, hb, hr, hml, hown, hts, hlocks⟩ := id C0
  intro x1 x2 x4 x5 x7 s0 s1 hF ca cb hca hcb H locs ls hw hl
  unfold fL_areRooms_80 at hF
  refine lv_iadd hx hb dL_areRooms_80 ?_
  refine lv_topi (fun a1 ea1 => ?_)
  have hF := zbn_t ea1 hF
  refine lv_istore_n (lv' := [(3, .int a1), (0, .ref (ad 0)), (1, .int x1), (2, .int x2), (4, .int x4), (5, .int x5), (7, .int x7)]) hx hb dL_areRooms_81 rfl hl (by decide) rfl (fun ls hl => ?_)
  refine lv_aload_n hx hb dL_areRooms_82 rfl (lv_at hl 1 rfl) ?_
  refine lv_iload_n hx hb dL_areRooms_83 rfl (lv_at hl 2 rfl) ?_
  refine lv_iload hx hb dL_areRooms_84 (lv_at hl 6 rfl) ?_
  refine lv_iconst (v := (4 : Int32)) hx hb dL_areRooms_86 (by decide) ?_
  obtain ⟨u2, hq3, hF⟩ := zbd_t hF
  refine zgoXI4 (o0 := u2.1) (w' := (zC ad k sv kE kR fb ft fs rws nx ct ch ln)) (wa := []) (wc := (zC ad k sv kE kR fb ft fs rws nx ct ch ln)) (wc' := (zC ad k sv kE kR fb ft fs rws nx ct ch ln)) (wr := []) hw (zap_nil _) (zap_nil _) hA (zVx4 (wa := []) (wc := (zC ad k sv kE kR fb ft fs rws nx ct ch ln)) (wr := []) (As := [.int x1, .int x7, .int (4 : Int32)]) (rest := []) ⟨hx, hb, hml, hown, hts⟩ (mX4_roomOf l hl9 G k ad H.size sv kE kR fb ft fs rws nx ct ch ln x1 x7 (4 : Int32) u2 hq3) (cwV 3 hts gL_areRooms_X4_roomOf rfl rfl rfl kdX4_roomOf ⟨Nat.le_of_ble_eq_true rfl, Nat.le_of_ble_eq_true rfl⟩) hK hA hw (zap_nil _) 0 rfl rfl rfl rfl hl.1 rfl (Nat.le_of_ble_eq_true rfl) dL_areRooms_87 ⟨(by show _ ≤ 1377; omega), (by show _ ≤ 8262; omega)⟩) rfl (fun h04 H locs q9 E9 ce9 hw g1 g2 g3 g4 => ?_) (fun h04 H locs hw => ?_)
  · exact nomatch (zif_f h04 hF)
  have hF := zif_t h04 hF
  refine lv_iload hx hb dL_areRooms_90 (lv_at hl 5 rfl) ?_
  refine lv_icmp_le (tgt := 135) hx hb dL_areRooms_92 (by decide) (fun hc => ?_) (fun hc => ?_)
  · have hF := zif_t hc hF
    exact wL_areRooms_135 C0 hl9 hK hA hret k16 hk16   _ _ _ _ _ hF _ _ (by omega) (by omega) _ _ _ hw (lv_sub hl [1, 2, 3, 0, 4, 6] rfl)
  · have hF := zif_f hc hF
    refine lv_aload_n hx hb dL_areRooms_95 rfl (lv_at hl 1 rfl) ?_
    refine lv_iload_n hx hb dL_areRooms_96 rfl (lv_at hl 2 rfl) ?_
    refine lv_iload hx hb dL_areRooms_97 (lv_at hl 6 rfl) ?_
    refine lv_iconst (v := (5 : Int32)) hx hb dL_areRooms_99 (by decide) ?_
    obtain ⟨u5, hq6, hF⟩ := zbd_t hF
    refine zgoXI4 (o0 := u5.1) (w' := (zC ad k sv kE kR fb ft fs rws nx ct ch ln)) (wa := []) (wc := (zC ad k sv kE kR fb ft fs rws nx ct ch ln)) (wc' := (zC ad k sv kE kR fb ft fs rws nx ct ch ln)) (wr := []) hw (zap_nil _) (zap_nil _) hA (zVx4 (wa := []) (wc := (zC ad k sv kE kR fb ft fs rws nx ct ch ln)) (wr := []) (As := [.int x1, .int x7, .int (5 : Int32)]) (rest := []) ⟨hx, hb, hml, hown, hts⟩ (mX4_roomOf l hl9 G k ad H.size sv kE kR fb ft fs rws nx ct ch ln x1 x7 (5 : Int32) u5 hq6) (cwV 3 hts gL_areRooms_X4_roomOf rfl rfl rfl kdX4_roomOf ⟨Nat.le_of_ble_eq_true rfl, Nat.le_of_ble_eq_true rfl⟩) hK hA hw (zap_nil _) 0 rfl rfl rfl rfl hl.1 rfl (Nat.le_of_ble_eq_true rfl) dL_areRooms_100 ⟨(by show _ ≤ 1377; omega), (by show _ ≤ 8262; omega)⟩) rfl (fun h07 H locs q9 E9 ce9 hw g1 g2 g3 g4 => ?_) (fun h07 H locs hw => ?_)
    · exact nomatch (zif_f h07 hF)
    have hF := zif_t h07 hF
    refine lv_iconst (v := (1 : Int32)) hx hb dL_areRooms_103 (by decide) ?_
    refine lv_icmp_ne (tgt := 111) hx hb dL_areRooms_104 (by decide) (fun hc => ?_) (fun hc => ?_)
    · have hF := zif_f hc hF
      refine lv_iconst (v := (0 : Int32)) hx hb dL_areRooms_111 (by decide) ?_
      exact wL_areRooms_112 C0 hl9 hK hA hret k16 hk16   _ _ _ _ _ _ hF _ _ (by omega) (by omega) _ _ _ hw (lv_sub hl [1, 2, 3, 0, 4, 6] rfl)
    · have hF := zif_t hc hF
      refine lv_iconst (v := (1 : Int32)) hx hb dL_areRooms_107 (by decide) ?_
      refine lv_goto (tgt := 112) hx hb dL_areRooms_108 (by decide) ?_
      exact wL_areRooms_112 C0 hl9 hK hA hret k16 hk16   _ _ _ _ _ _ hF _ _ (by omega) (by omega) _ _ _ hw (lv_sub hl [1, 2, 3, 0, 4, 6] rfl)
set_option maxHeartbeats 1000000 in
set_option maxRecDepth 100000 in
theorem wL_areRooms_16 {p : Program} {l : Launch} {e : Env} {s : State} {m : MethodId} {args : Array Value} {below : List Frame} {meth : Method} {c : Code} {A : Nat → Prop} {Q : State → Prop} {G : va_G} {k : Nat → ClassId} {ad : Nat → Nat} {sv : Int32} {kE : Int32} {kR : Int32} {fb : Nat → Int64} {ft : Nat → Int64} {fs : Nat → Int64} {rws : Nat → Int64} {nx : Int32} {ct : Int32} {ch : Nat → Int32} {ln : Int32} {o : Int32} (C0 : zCx p s m args meth c wsL_areRooms cL_areRooms RL (some .boolean) 11) (hl9 : l.stackTraces = false) (hK : zKK G k A s s.heap) (hA : ∀ q : Nat, s.heap.size ≤ q → A q) (hret : zRI p l e rmL_areRooms s m args below meth c cL_areRooms G A 1377 8262 Q .boolean (zC ad k sv kE kR fb ft fs rws nx ct ch ln) o)   : ∀ (n : Nat) (x1 : Int32) (x2 : Int32) (x3 : Int32) (x4 : Int32) (x5 : Int32) (x6 : Int32) (x7 : Int32), fL_areRooms_16  fb ct ln n x1 x2 x3 x4 x5 x6 x7 = some o → ∀ (ca cb : Nat), ca + (n * 20 + 637) ≤ 1377 → cb + (n * 120 + 3822) ≤ 8262 → ∀ (H : Heap) (locs : List Loc) (ls : Array Slot), zWd G A s (zC ad k sv kE kR fb ft fs rws nx ct ch ln) H locs → lv_has ls 11 [(0, .ref (ad 0)), (1, .int x1), (2, .int x2), (3, .int x3), (4, .int x4), (5, .int x5), (6, .int x6), (7, .int x7)] → W p l e rmL_areRooms s m args below meth c H locs ca cb Q (F0 m 16 ls []) := by
  obtain ⟨hx, hb, hr, hml, hown, hts, hlocks⟩ := id C0
  intro n
  induction n with
  | zero => intro x1 x2 x3 x4 x5 x6 x7 hF; exact nomatch hF
  | succ n ih =>
    intro x1 x2 x3 x4 x5 x6 x7 hF ca cb hca hcb H locs ls hw hl
    rw [fL_areRooms_16] at hF
    refine lv_iload hx hb dL_areRooms_16 (lv_at hl 6 rfl) ?_
    refine lv_if_eq (tgt := 176) hx hb dL_areRooms_18 (by decide) (fun hc => ?_) (fun hc => ?_)
    · have hF := zif_t hc hF
      exact wL_areRooms_176 C0 hl9 hK hA hret    _ _ _ _ _ hF _ _ (by omega) (by omega) _ _ _ hw (lv_sub hl [0, 1, 2, 3, 4, 6] rfl)
    · have hF := zif_f hc hF
      refine lv_iload hx hb dL_areRooms_21 (lv_at hl 7 rfl) ?_
      refine lv_aload_n hx hb dL_areRooms_23 rfl (lv_at hl 0 rfl) ?_
      refine lv_iload_n hx hb dL_areRooms_24 rfl (lv_at hl 1 rfl) ?_
      obtain ⟨u1, hq2, hF⟩ := zbd_t hF
      refine zgoXI4 (o0 := u1.1) (w' := (zC ad k sv kE kR fb ft fs rws nx ct ch ln)) (wa := []) (wc := (zC ad k sv kE kR fb ft fs rws nx ct ch ln)) (wc' := (zC ad k sv kE kR fb ft fs rws nx ct ch ln)) (wr := []) hw (zap_nil _) (zap_nil _) hA (zVx4 (wa := []) (wc := (zC ad k sv kE kR fb ft fs rws nx ct ch ln)) (wr := []) (As := [.int x1]) (rest := [.int x7]) ⟨hx, hb, hml, hown, hts⟩ (mX4_rooms l hl9 G k ad H.size sv kE kR fb ft fs rws nx ct ch ln x1 u1 hq2) (cwV 1 hts gL_areRooms_X4_rooms rfl rfl rfl kdX4_rooms ⟨Nat.le_of_ble_eq_true rfl, Nat.le_of_ble_eq_true rfl⟩) hK hA hw (zap_nil _) 0 rfl rfl rfl rfl hl.1 rfl (Nat.le_of_ble_eq_true rfl) dL_areRooms_25 ⟨(by show _ ≤ 1377; omega), (by show _ ≤ 8262; omega)⟩) rfl (fun h03 H locs q9 E9 ce9 hw g1 g2 g3 g4 => ?_) (fun h03 H locs hw => ?_)
      · exact nomatch (zif_f h03 hF)
      have hF := zif_t h03 hF
      refine lv_icmp_ge (tgt := 176) hx hb dL_areRooms_28 (by decide) (fun hc => ?_) (fun hc => ?_)
      · have hF := zif_t hc hF
        exact wL_areRooms_176 C0 hl9 hK hA hret    _ _ _ _ _ hF _ _ (by omega) (by omega) _ _ _ hw (lv_sub hl [0, 1, 2, 3, 4, 6] rfl)
      · have hF := zif_f hc hF
        refine lv_iload_n hx hb dL_areRooms_31 rfl (lv_at hl 2 rfl) ?_
        refine lv_aload_n hx hb dL_areRooms_32 rfl (lv_at hl 0 rfl) ?_
        refine lv_iload_n hx hb dL_areRooms_33 rfl (lv_at hl 1 rfl) ?_
        refine lv_iload hx hb dL_areRooms_34 (lv_at hl 7 rfl) ?_
        refine lv_iconst (v := (0 : Int32)) hx hb dL_areRooms_36 (by decide) ?_
        obtain ⟨u4, hq5, hF⟩ := zbd_t hF
        refine zgoXI4 (o0 := u4.1) (w' := (zC ad k sv kE kR fb ft fs rws nx ct ch ln)) (wa := []) (wc := (zC ad k sv kE kR fb ft fs rws nx ct ch ln)) (wc' := (zC ad k sv kE kR fb ft fs rws nx ct ch ln)) (wr := []) hw (zap_nil _) (zap_nil _) hA (zVx4 (wa := []) (wc := (zC ad k sv kE kR fb ft fs rws nx ct ch ln)) (wr := []) (As := [.int x1, .int x7, .int (0 : Int32)]) (rest := [.int x2]) ⟨hx, hb, hml, hown, hts⟩ (mX4_roomOf l hl9 G k ad H.size sv kE kR fb ft fs rws nx ct ch ln x1 x7 (0 : Int32) u4 hq5) (cwV 3 hts gL_areRooms_X4_roomOf rfl rfl rfl kdX4_roomOf ⟨Nat.le_of_ble_eq_true rfl, Nat.le_of_ble_eq_true rfl⟩) hK hA hw (zap_nil _) 0 rfl rfl rfl rfl hl.1 rfl (Nat.le_of_ble_eq_true rfl) dL_areRooms_37 ⟨(by show _ ≤ 1377; omega), (by show _ ≤ 8262; omega)⟩) rfl (fun h06 H locs q9 E9 ce9 hw g1 g2 g3 g4 => ?_) (fun h06 H locs hw => ?_)
        · exact nomatch (zif_f h06 hF)
        have hF := zif_t h06 hF
        refine lv_iadd hx hb dL_areRooms_40 ?_
        refine lv_topi (fun a7 ea7 => ?_)
        have hF := zbn_t ea7 hF
        refine lv_istore_n (lv' := [(2, .int a7), (0, .ref (ad 0)), (1, .int x1), (3, .int x3), (4, .int x4), (5, .int x5), (6, .int x6), (7, .int x7)]) hx hb dL_areRooms_41 rfl hl (by decide) rfl (fun ls hl => ?_)
        refine lv_iload hx hb dL_areRooms_42 (lv_at hl 4 rfl) ?_
        refine lv_aload_n hx hb dL_areRooms_44 rfl (lv_at hl 1 rfl) ?_
        refine lv_iload_n hx hb dL_areRooms_45 rfl (lv_at hl 2 rfl) ?_
        refine lv_iload hx hb dL_areRooms_46 (lv_at hl 7 rfl) ?_
        refine lv_iconst (v := (1 : Int32)) hx hb dL_areRooms_48 (by decide) ?_
        obtain ⟨u8, hq9, hF⟩ := zbd_t hF
        refine zgoXI4 (o0 := u8.1) (w' := (zC ad k sv kE kR fb ft fs rws nx ct ch ln)) (wa := []) (wc := (zC ad k sv kE kR fb ft fs rws nx ct ch ln)) (wc' := (zC ad k sv kE kR fb ft fs rws nx ct ch ln)) (wr := []) hw (zap_nil _) (zap_nil _) hA (zVx4 (wa := []) (wc := (zC ad k sv kE kR fb ft fs rws nx ct ch ln)) (wr := []) (As := [.int x1, .int x7, .int (1 : Int32)]) (rest := [.int x4]) ⟨hx, hb, hml, hown, hts⟩ (mX4_roomOf l hl9 G k ad H.size sv kE kR fb ft fs rws nx ct ch ln x1 x7 (1 : Int32) u8 hq9) (cwV 3 hts gL_areRooms_X4_roomOf rfl rfl rfl kdX4_roomOf ⟨Nat.le_of_ble_eq_true rfl, Nat.le_of_ble_eq_true rfl⟩) hK hA hw (zap_nil _) 0 rfl rfl rfl rfl hl.1 rfl (Nat.le_of_ble_eq_true rfl) dL_areRooms_49 ⟨(by show _ ≤ 1377; omega), (by show _ ≤ 8262; omega)⟩) rfl (fun h010 H locs q9 E9 ce9 hw g1 g2 g3 g4 => ?_) (fun h010 H locs hw => ?_)
        · exact nomatch (zif_f h010 hF)
        have hF := zif_t h010 hF
        refine lv_iadd hx hb dL_areRooms_52 ?_
        refine lv_topi (fun a11 ea11 => ?_)
        have hF := zbn_t ea11 hF
        refine lv_istore (lv' := [(4, .int a11), (2, .int a7), (0, .ref (ad 0)), (1, .int x1), (3, .int x3), (5, .int x5), (6, .int x6), (7, .int x7)]) hx hb dL_areRooms_53 hl (by decide) rfl (fun ls hl => ?_)
        refine lv_iload_n hx hb dL_areRooms_55 rfl (lv_at hl 4 rfl) ?_
        refine lv_aload_n hx hb dL_areRooms_56 rfl (lv_at hl 2 rfl) ?_
        refine lv_iload_n hx hb dL_areRooms_57 rfl (lv_at hl 3 rfl) ?_
        refine lv_iload hx hb dL_areRooms_58 (lv_at hl 7 rfl) ?_
        refine lv_iconst (v := (5 : Int32)) hx hb dL_areRooms_60 (by decide) ?_
        obtain ⟨u12, hq13, hF⟩ := zbd_t hF
        refine zgoXI4 (o0 := u12.1) (w' := (zC ad k sv kE kR fb ft fs rws nx ct ch ln)) (wa := []) (wc := (zC ad k sv kE kR fb ft fs rws nx ct ch ln)) (wc' := (zC ad k sv kE kR fb ft fs rws nx ct ch ln)) (wr := []) hw (zap_nil _) (zap_nil _) hA (zVx4 (wa := []) (wc := (zC ad k sv kE kR fb ft fs rws nx ct ch ln)) (wr := []) (As := [.int x1, .int x7, .int (5 : Int32)]) (rest := [.int x3]) ⟨hx, hb, hml, hown, hts⟩ (mX4_roomOf l hl9 G k ad H.size sv kE kR fb ft fs rws nx ct ch ln x1 x7 (5 : Int32) u12 hq13) (cwV 3 hts gL_areRooms_X4_roomOf rfl rfl rfl kdX4_roomOf ⟨Nat.le_of_ble_eq_true rfl, Nat.le_of_ble_eq_true rfl⟩) hK hA hw (zap_nil _) 0 rfl rfl rfl rfl hl.1 rfl (Nat.le_of_ble_eq_true rfl) dL_areRooms_61 ⟨(by show _ ≤ 1377; omega), (by show _ ≤ 8262; omega)⟩) rfl (fun h014 H locs q9 E9 ce9 hw g1 g2 g3 g4 => ?_) (fun h014 H locs hw => ?_)
        · exact nomatch (zif_f h014 hF)
        have hF := zif_t h014 hF
        refine lv_iconst (v := (1 : Int32)) hx hb dL_areRooms_64 (by decide) ?_
        refine lv_icmp_ne (tgt := 79) hx hb dL_areRooms_65 (by decide) (fun hc => ?_) (fun hc => ?_)
        · have hF := zif_f hc hF
          refine lv_iconst (v := (0 : Int32)) hx hb dL_areRooms_79 (by decide) ?_
          exact wL_areRooms_80 C0 hl9 hK hA hret (fun z0 z1 z2 z3 z4 z5 z6 => fL_areRooms_16  fb ct ln n z0 z1 z2 z3 z4 z5 z6) ih   _ _ _ _ _ _ _ hF _ _ (by omega) (by omega) _ _ _ hw (lv_sub hl [2, 3, 1, 0, 5, 7] rfl)
        · have hF := zif_t hc hF
          refine lv_aload_n hx hb dL_areRooms_68 rfl (lv_at hl 2 rfl) ?_
          refine lv_iload_n hx hb dL_areRooms_69 rfl (lv_at hl 3 rfl) ?_
          refine lv_iload hx hb dL_areRooms_70 (lv_at hl 7 rfl) ?_
          refine lv_iconst (v := (0 : Int32)) hx hb dL_areRooms_72 (by decide) ?_
          obtain ⟨u15, hq16, hF⟩ := zbd_t hF
          refine zgoXI4 (o0 := u15.1) (w' := (zC ad k sv kE kR fb ft fs rws nx ct ch ln)) (wa := []) (wc := (zC ad k sv kE kR fb ft fs rws nx ct ch ln)) (wc' := (zC ad k sv kE kR fb ft fs rws nx ct ch ln)) (wr := []) hw (zap_nil _) (zap_nil _) hA (zVx4 (wa := []) (wc := (zC ad k sv kE kR fb ft fs rws nx ct ch ln)) (wr := []) (As := [.int x1, .int x7, .int (0 : Int32)]) (rest := [.int x3]) ⟨hx, hb, hml, hown, hts⟩ (mX4_roomOf l hl9 G k ad H.size sv kE kR fb ft fs rws nx ct ch ln x1 x7 (0 : Int32) u15 hq16) (cwV 3 hts gL_areRooms_X4_roomOf rfl rfl rfl kdX4_roomOf ⟨Nat.le_of_ble_eq_true rfl, Nat.le_of_ble_eq_true rfl⟩) hK hA hw (zap_nil _) 0 rfl rfl rfl rfl hl.1 rfl (Nat.le_of_ble_eq_true rfl) dL_areRooms_73 ⟨(by show _ ≤ 1377; omega), (by show _ ≤ 8262; omega)⟩) rfl (fun h017 H locs q9 E9 ce9 hw g1 g2 g3 g4 => ?_) (fun h017 H locs hw => ?_)
          · exact nomatch (zif_f h017 hF)
          have hF := zif_t h017 hF
          refine lv_goto (tgt := 80) hx hb dL_areRooms_76 (by decide) ?_
          exact wL_areRooms_80 C0 hl9 hK hA hret (fun z0 z1 z2 z3 z4 z5 z6 => fL_areRooms_16  fb ct ln n z0 z1 z2 z3 z4 z5 z6) ih   _ _ _ _ _ _ _ hF _ _ (by omega) (by omega) _ _ _ hw (lv_sub hl [2, 3, 1, 0, 5, 7] rfl)
set_option maxHeartbeats 1000000 in
set_option maxRecDepth 100000 in
theorem mL_areRooms (l : Launch) (hl9 : l.stackTraces = false) (G : va_G) (k : Nat → ClassId) (ad : Nat → Nat) (sz : Nat) (sv : Int32) (kE : Int32) (kR : Int32) (fb : Nat → Int64) (ft : Nat → Int64) (fs : Nat → Int64) (rws : Nat → Int64) (nx : Int32) (ct : Int32) (ch : Nat → Int32) (ln : Int32) (p1 : Int32) (o : Int32) (hF : fL_areRooms fb ct ln p1 = some o) : zMIc l yL_areRooms wsL_areRooms rmL_areRooms G k (zC ad k sv kE kR fb ft fs rws nx ct ch ln) sz [.ref (ad 0), .int p1] 1377 8262 o (zC ad k sv kE kR fb ft fs rws nx ct ch ln) := by
  refine zof_Ic (cc := cL_areRooms) (nL := 11) (own := RL) (rt := .boolean) (by decide) rfl rfl (Nat.le_of_ble_eq_true rfl) ?_
  intro p e s m args below meth c A Q C0 hK hA hret ls hl hw
  have hl : lv_has ls 11 [(0, .ref (ad 0)), (1, .int p1)] := hl
  obtain ⟨hx, hb, hr, hml, hown, hts, hlocks⟩ := id C0
  obtain ⟨H, hH⟩ : ∃ z, z = s.heap := ⟨_, rfl⟩
  rw [← hH] at hw ⊢
  obtain ⟨ca, hca⟩ : ∃ z : Nat, z = 0 := ⟨_, rfl⟩
  obtain ⟨cb, hcb⟩ : ∃ z : Nat, z = 0 := ⟨_, rfl⟩
  refine W.widen (k := ca) (n := cb) (Nat.zero_le _) (Nat.zero_le _) ?_
  unfold fL_areRooms at hF
  refine lv_iconst (v := (0 : Int32)) hx hb dL_areRooms_0 (by decide) ?_
  refine lv_istore_n (lv' := [(2, .int (0 : Int32)), (0, .ref (ad 0)), (1, .int p1)]) hx hb dL_areRooms_1 rfl hl (by decide) rfl (fun ls hl => ?_)
  refine lv_iconst (v := (0 : Int32)) hx hb dL_areRooms_2 (by decide) ?_
  refine lv_istore_n (lv' := [(3, .int (0 : Int32)), (2, .int (0 : Int32)), (0, .ref (ad 0)), (1, .int p1)]) hx hb dL_areRooms_3 rfl hl (by decide) rfl (fun ls hl => ?_)
  refine lv_iconst (v := (0 : Int32)) hx hb dL_areRooms_4 (by decide) ?_
  refine lv_istore (lv' := [(4, .int (0 : Int32)), (3, .int (0 : Int32)), (2, .int (0 : Int32)), (0, .ref (ad 0)), (1, .int p1)]) hx hb dL_areRooms_5 hl (by decide) rfl (fun ls hl => ?_)
  refine lv_iconst (v := (-1 : Int32)) hx hb dL_areRooms_7 (by decide) ?_
  refine lv_istore (lv' := [(5, .int (-1 : Int32)), (4, .int (0 : Int32)), (3, .int (0 : Int32)), (2, .int (0 : Int32)), (0, .ref (ad 0)), (1, .int p1)]) hx hb dL_areRooms_8 hl (by decide) rfl (fun ls hl => ?_)
  refine lv_iconst (v := (1 : Int32)) hx hb dL_areRooms_10 (by decide) ?_
  refine lv_istore (lv' := [(6, .int (1 : Int32)), (5, .int (-1 : Int32)), (4, .int (0 : Int32)), (3, .int (0 : Int32)), (2, .int (0 : Int32)), (0, .ref (ad 0)), (1, .int p1)]) hx hb dL_areRooms_11 hl (by decide) rfl (fun ls hl => ?_)
  refine lv_iconst (v := (0 : Int32)) hx hb dL_areRooms_13 (by decide) ?_
  refine lv_istore (lv' := [(7, .int (0 : Int32)), (6, .int (1 : Int32)), (5, .int (-1 : Int32)), (4, .int (0 : Int32)), (3, .int (0 : Int32)), (2, .int (0 : Int32)), (0, .ref (ad 0)), (1, .int p1)]) hx hb dL_areRooms_14 hl (by decide) rfl (fun ls hl => ?_)
  exact wL_areRooms_16 C0 hl9 hK hA hret   37 _ _ _ _ _ _ _ hF _ _ (by omega) (by omega) _ _ _ hw (lv_sub hl [6, 7, 5, 4, 3, 2, 1, 0] rfl)

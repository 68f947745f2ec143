set_option maxHeartbeats 800000 in
set_option maxRecDepth 100000 in
theorem wCase20 {p : Program} {l : Launch} {e : Env} {s : State} {m : MethodId} {args : Array Value} {below : List Frame} {meth : Method} {c : Code} {A : Nat → Prop} {Q : State → Prop} {G : va_G} {k : Nat → ClassId} {ad : Nat → Nat} {ob od : Nat} {md : Nat → Nat} {b L a1 a2 : Nat} {xs : Nat → Int32} {i : Int32} {sv : Int32} {kE : Int32} {kR : Int32} {fb : Nat → Int64} {ft : Nat → Int64} {fs : Nat → Int64} {rws : Nat → Int64} {nx : Int32} {ct : Int32} {ch : Nat → Int32} {ln : Int32} {oo : Nat → Int64} {od_ : Nat → UInt64} {thrown : Int32} {now : Nat → Int32} {saved : Nat → Int32} {hist : Nat → Nat → Int32} {kept : Int32} {reason : Int32} {detail : Int32} {isSaved : Int32} {comes : Nat → Int32} {queue : Nat → Int32} {far : Nat → Int32} {isInText : Int32} {ahead : Nat → Int32} {roomAt : Nat → Int32} {rooms : Int32} {text : Nat → Int32} {length : Int32} {at_ : Int32} {errorPosition : Int32} {toldFrom : Int32} {toldTo : Int32} {isWrong : Int32} {before : Nat → Int32} {o : zSt} (C0 : zCx p s m args meth c wsL_law code RL ret 9) (hl9 : l.stackTraces = false) (hK : zKK G k A s s.heap) (hA : ∀ q : Nat, s.heap.size ≤ q → A q) (hX : va_X b L xs s s.heap) (hbl : b < s.heap.size) (hbA : ¬ A b) (hr1 : a1 + 8 ≤ 603072) (hr2 : a2 + 48 ≤ 7207018) (hF : fCase20 xs L i sv kE kR fb ft fs rws nx ct ch ln oo od_ thrown now saved hist kept reason detail isSaved comes queue far isInText ahead roomAt rooms text length at_ errorPosition toldFrom toldTo isWrong before = some o) (h1 : o.1 = 1)
    (hk : ∀ (H : Heap) (locs : List Loc) (ls : Array Slot), zWd G A s (zLw ad ob od md k o.2.1 o.2.2.1 o.2.2.2.1 o.2.2.2.2.1 o.2.2.2.2.2.1 o.2.2.2.2.2.2.1 o.2.2.2.2.2.2.2.1 o.2.2.2.2.2.2.2.2.1 o.2.2.2.2.2.2.2.2.2.1 o.2.2.2.2.2.2.2.2.2.2.1 o.2.2.2.2.2.2.2.2.2.2.2.1 o.2.2.2.2.2.2.2.2.2.2.2.2.1 o.2.2.2.2.2.2.2.2.2.2.2.2.2.1 o.2.2.2.2.2.2.2.2.2.2.2.2.2.2.1 o.2.2.2.2.2.2.2.2.2.2.2.2.2.2.2.1 o.2.2.2.2.2.2.2.2.2.2.2.2.2.2.2.2.1 o.2.2.2.2.2.2.2.2.2.2.2.2.2.2.2.2.2.1 o.2.2.2.2.2.2.2.2.2.2.2.2.2.2.2.2.2.2.1 o.2.2.2.2.2.2.2.2.2.2.2.2.2.2.2.2.2.2.2.1 o.2.2.2.2.2.2.2.2.2.2.2.2.2.2.2.2.2.2.2.2.1 o.2.2.2.2.2.2.2.2.2.2.2.2.2.2.2.2.2.2.2.2.2.1 o.2.2.2.2.2.2.2.2.2.2.2.2.2.2.2.2.2.2.2.2.2.2.1 o.2.2.2.2.2.2.2.2.2.2.2.2.2.2.2.2.2.2.2.2.2.2.2.1 o.2.2.2.2.2.2.2.2.2.2.2.2.2.2.2.2.2.2.2.2.2.2.2.2.1 o.2.2.2.2.2.2.2.2.2.2.2.2.2.2.2.2.2.2.2.2.2.2.2.2.2.1 o.2.2.2.2.2.2.2.2.2.2.2.2.2.2.2.2.2.2.2.2.2.2.2.2.2.2.1 o.2.2.2.2.2.2.2.2.2.2.2.2.2.2.2.2.2.2.2.2.2.2.2.2.2.2.2.1 o.2.2.2.2.2.2.2.2.2.2.2.2.2.2.2.2.2.2.2.2.2.2.2.2.2.2.2.2.1 o.2.2.2.2.2.2.2.2.2.2.2.2.2.2.2.2.2.2.2.2.2.2.2.2.2.2.2.2.2.1 o.2.2.2.2.2.2.2.2.2.2.2.2.2.2.2.2.2.2.2.2.2.2.2.2.2.2.2.2.2.2.1 o.2.2.2.2.2.2.2.2.2.2.2.2.2.2.2.2.2.2.2.2.2.2.2.2.2.2.2.2.2.2.2.1 o.2.2.2.2.2.2.2.2.2.2.2.2.2.2.2.2.2.2.2.2.2.2.2.2.2.2.2.2.2.2.2.2.1 o.2.2.2.2.2.2.2.2.2.2.2.2.2.2.2.2.2.2.2.2.2.2.2.2.2.2.2.2.2.2.2.2.2.1 o.2.2.2.2.2.2.2.2.2.2.2.2.2.2.2.2.2.2.2.2.2.2.2.2.2.2.2.2.2.2.2.2.2.2.1 o.2.2.2.2.2.2.2.2.2.2.2.2.2.2.2.2.2.2.2.2.2.2.2.2.2.2.2.2.2.2.2.2.2.2.2.1 o.2.2.2.2.2.2.2.2.2.2.2.2.2.2.2.2.2.2.2.2.2.2.2.2.2.2.2.2.2.2.2.2.2.2.2.2) H locs → lv_has ls 9 [(0, .ref b), (1, .ref (ad 0)), (2, .ref (md 0)), (3, .ref ob), (4, .ref od), (5, .int i)] → W p l e room_1 s m args below meth c H locs (a1 + 8) (a2 + 48) Q (F0 m 1789 ls [])) :
    ∀ (H : Heap) (locs : List Loc) (ls : Array Slot), zWd G A s (zLw ad ob od md k sv kE kR fb ft fs rws nx ct ch ln oo od_ thrown now saved hist kept reason detail isSaved comes queue far isInText ahead roomAt rooms text length at_ errorPosition toldFrom toldTo isWrong before) H locs → lv_has ls 9 [(0, .ref b), (1, .ref (ad 0)), (2, .ref (md 0)), (3, .ref ob), (4, .ref od), (5, .int i)] → W p l e room_1 s m args below meth c H locs a1 a2 Q (F0 m 1358 ls []) := by
  obtain ⟨hx, hb, hr, hml, hown, hts, hlocks⟩ := id C0
  intro H locs ls hw hl
  unfold fCase20 at hF
  refine lv_aload_n hx hb dL_law_1358 rfl (lv_at hl 1 rfl) ?_
  refine lv_aload_n hx hb dL_law_1359 rfl (lv_at hl 0 rfl) ?_
  refine lv_iload hx hb dL_law_1360 (lv_at hl 5 rfl) ?_
  refine lv_iconst (v := (1 : Int32)) hx hb dL_law_1362 (by decide) ?_
  refine lv_iadd hx hb dL_law_1363 ?_
  obtain ⟨hi1, hF⟩ := zck_in hF
  refine va_sld hx hb hX hbl hbA hw.2.2 hi1 dL_law_1364 ?_
  refine lv_i2c hx hb dL_law_1365 rfl ?_
  refine lv_aload_n hx hb dL_law_1366 rfl (lv_at hl 3 rfl) ?_
  obtain ⟨u2, hq3, hF⟩ := zbd_t hF
  refine zgoI4 (w' := (zLw ad ob od md k sv kE kR fb ft fs rws nx ct u2.2.1 u2.2.2.1 u2.2.2.2 od_ thrown now saved hist kept reason detail isSaved comes queue far isInText ahead roomAt rooms text length at_ errorPosition toldFrom toldTo isWrong before)) hw zLw_co zLw_co hA (zSW4 (As := [.ref (ad 0), .int (((xs (i + (1 : Int32)).toNatClampNeg).toUInt32 % 65536).toInt32), .ref ob]) (rest := []) ⟨hx, hb, hml, hown, hts⟩ (mL_append l hl9 G k ad ob H.size sv kE kR fb ft fs rws nx ct ch ln oo (((xs (i + (1 : Int32)).toNatClampNeg).toUInt32 % 65536).toInt32) u2 hq3) (vx_cwSW 3 hts gL_law_L_append rfl rfl rfl kdL_append ⟨Nat.le_of_ble_eq_true rfl, Nat.le_of_ble_eq_true rfl⟩) hK hA hw zLw_co rfl hl.1 rfl (Nat.le_of_ble_eq_true rfl) dL_law_1367 ⟨(by show _ ≤ 603072; omega), (by show _ ≤ 7207018; omega)⟩) rfl (fun H locs hw => ?_)
  refine lv_istore (lv' := [(6, .int u2.1), (0, .ref b), (1, .ref (ad 0)), (2, .ref (md 0)), (3, .ref ob), (4, .ref od), (5, .int i)]) hx hb dL_law_1370 hl (by decide) rfl (fun ls hl => ?_)
  refine lv_aload_n hx hb dL_law_1372 rfl (lv_at hl 3 rfl) ?_
  refine lv_aload_n hx hb dL_law_1373 rfl (lv_at hl 1 rfl) ?_
  refine lv_iload hx hb dL_law_1374 (lv_at hl 6 rfl) ?_
  refine lv_iconst (v := (1 : Int32)) hx hb dL_law_1376 (by decide) ?_
  refine lv_iadd hx hb dL_law_1377 ?_
  obtain ⟨hi4, hF⟩ := zck_in hF
  refine va_sld hx hb hX hbl hbA hw.2.2 hi4 dL_law_1378 ?_
  refine lv_i2c hx hb dL_law_1379 rfl ?_
  obtain ⟨u5, hq6, hF⟩ := zbd_t hF
  refine zgoI4 (w' := (zLw ad ob od md k sv kE kR fb ft fs rws nx ct u2.2.1 u2.2.2.1 u2.2.2.2 od_ u5.2.1 now saved hist kept reason detail isSaved comes queue far isInText ahead roomAt rooms u5.2.2.1 u5.2.2.2 at_ errorPosition toldFrom toldTo isWrong before)) hw zLw_m zLw_m hA (zV4 (As := [.int (((xs (i + (1 : Int32)).toNatClampNeg).toUInt32 % 65536).toInt32)]) (rest := []) ⟨hx, hb, hml, hown, hts⟩ (mX5_append l G k md H.size thrown now saved hist kept reason detail isSaved comes queue far isInText ahead roomAt rooms text length at_ errorPosition toldFrom toldTo isWrong before (((xs (i + (1 : Int32)).toNatClampNeg).toUInt32 % 65536).toInt32) u5 hq6) (cwV 1 hts gL_law_X5_append rfl rfl rfl kdX5_append ⟨Nat.le_of_ble_eq_true rfl, Nat.le_of_ble_eq_true rfl⟩) hK hA hw zLw_m 0 rfl rfl rfl rfl hl.1 rfl (Nat.le_of_ble_eq_true rfl) dL_law_1380 ⟨(by show _ ≤ 603072; omega), (by show _ ≤ 7207018; omega)⟩) rfl (fun H locs hw => ?_)
  refine lv_istore (lv' := [(7, .int u5.1), (6, .int u2.1), (0, .ref b), (1, .ref (ad 0)), (2, .ref (md 0)), (3, .ref ob), (4, .ref od), (5, .int i)]) hx hb dL_law_1383 hl (by decide) rfl (fun ls hl => ?_)
  refine lv_aload_n hx hb dL_law_1385 rfl (lv_at hl 4 rfl) ?_
  obtain ⟨u7, hq8, hF⟩ := zbd_t hF
  refine zgoI4 (w' := (zLw ad ob od md k sv kE kR fb ft fs rws nx ct u2.2.1 u2.2.2.1 u2.2.2.2 od_ u5.2.1 now saved hist kept reason detail isSaved comes queue far isInText ahead roomAt rooms u5.2.2.1 u5.2.2.2 at_ errorPosition toldFrom toldTo isWrong before)) hw zLw_m zLw_m hA (zV4 (As := []) (rest := []) ⟨hx, hb, hml, hown, hts⟩ (mX5_thrown l G k md H.size u5.2.1 now saved hist kept reason detail isSaved comes queue far isInText ahead roomAt rooms u5.2.2.1 u5.2.2.2 at_ errorPosition toldFrom toldTo isWrong before  u7 hq8) (cwV 0 hts gL_law_X5_thrown rfl rfl rfl kdX5_thrown ⟨Nat.le_of_ble_eq_true rfl, Nat.le_of_ble_eq_true rfl⟩) hK hA hw zLw_m 0 rfl rfl rfl rfl hl.1 rfl (Nat.le_of_ble_eq_true rfl) dL_law_1386 ⟨(by show _ ≤ 603072; omega), (by show _ ≤ 7207018; omega)⟩) rfl (fun H locs hw => ?_)
  refine lv_iload hx hb dL_law_1389 (lv_at hl 1 rfl) ?_
  refine lv_icmp_eq (tgt := 1396) hx hb dL_law_1391 (by decide) (fun hc => ?_) (fun hc => ?_)
  · have hF := zif_t hc hF
    refine lv_iload hx hb dL_law_1396 (lv_at hl 1 rfl) ?_
    refine lv_if_ne (tgt := 1413) hx hb dL_law_1398 (by decide) (fun hc => ?_) (fun hc => ?_)
    · have hF := zif_f hc hF
      refine lv_goto (tgt := 1789) hx hb dL_law_1413 (by decide) ?_
      obtain rfl := Option.some.inj hF
      refine W.widen (k := a1 + 8) (n := a2 + 48) (by omega) (by omega) ?_
      exact hk _ _ _ hw (lv_sub hl [2, 3, 4, 5, 6, 7] rfl)
    · have hF := zif_t hc hF
      refine lv_aload_n hx hb dL_law_1401 rfl (lv_at hl 5 rfl) ?_
      refine lv_iconst (v := (0 : Int32)) hx hb dL_law_1402 (by decide) ?_
      obtain ⟨hi9, hF⟩ := zck_in hF
      refine va_lald hx hb hK.1 hw.1 12 0 rfl rfl hi9 dL_law_1403 ?_
      refine lv_iload hx hb dL_law_1404 (lv_at hl 0 rfl) ?_
      refine lv_i2l hx hb dL_law_1406 rfl ?_
      refine W.lcmp hx hb dL_law_1407 ?_
      refine lv_if_eq (tgt := 1413) hx hb dL_law_1408 (by decide) (fun hc => ?_) (fun hc => ?_)
      · have hF := zif_t hc hF
        refine lv_goto (tgt := 1789) hx hb dL_law_1413 (by decide) ?_
        obtain rfl := Option.some.inj hF
        refine W.widen (k := a1 + 8) (n := a2 + 48) (by omega) (by omega) ?_
        exact hk _ _ _ hw (lv_sub hl [2, 3, 4, 5, 6, 7] rfl)
      · have hF := zif_f hc hF
        refine lv_iconst (v := (0 : Int32)) hx hb dL_law_1411 (by decide) ?_
        obtain rfl := Option.some.inj hF
        exact absurd h1 (show ¬ ((0 : Int32)) = 1 by decide)
  · have hF := zif_f hc hF
    refine lv_iconst (v := (0 : Int32)) hx hb dL_law_1394 (by decide) ?_
    obtain rfl := Option.some.inj hF
    exact absurd h1 (show ¬ ((0 : Int32)) = 1 by decide)
set_option maxHeartbeats 800000 in
set_option maxRecDepth 100000 in
theorem wCase21 {p : Program} {l : Launch} {e : Env} {s : State} {m : MethodId} {args : Array Value} {below : List Frame} {meth : Method} {c : Code} {A : Nat → Prop} {Q : State → Prop} {G : va_G} {k : Nat → ClassId} {ad : Nat → Nat} {ob od : Nat} {md : Nat → Nat} {b L a1 a2 : Nat} {xs : Nat → Int32} {i : Int32} {sv : Int32} {kE : Int32} {kR : Int32} {fb : Nat → Int64} {ft : Nat → Int64} {fs : Nat → Int64} {rws : Nat → Int64} {nx : Int32} {ct : Int32} {ch : Nat → Int32} {ln : Int32} {oo : Nat → Int64} {od_ : Nat → UInt64} {thrown : Int32} {now : Nat → Int32} {saved : Nat → Int32} {hist : Nat → Nat → Int32} {kept : Int32} {reason : Int32} {detail : Int32} {isSaved : Int32} {comes : Nat → Int32} {queue : Nat → Int32} {far : Nat → Int32} {isInText : Int32} {ahead : Nat → Int32} {roomAt : Nat → Int32} {rooms : Int32} {text : Nat → Int32} {length : Int32} {at_ : Int32} {errorPosition : Int32} {toldFrom : Int32} {toldTo : Int32} {isWrong : Int32} {before : Nat → Int32} {o : zSt} (C0 : zCx p s m args meth c wsL_law code RL ret 9) (hl9 : l.stackTraces = false) (hK : zKK G k A s s.heap) (hA : ∀ q : Nat, s.heap.size ≤ q → A q) (hX : va_X b L xs s s.heap) (hbl : b < s.heap.size) (hbA : ¬ A b) (hr1 : a1 + 8 ≤ 603072) (hr2 : a2 + 48 ≤ 7207018) (hF : fCase21 xs L i sv kE kR fb ft fs rws nx ct ch ln oo od_ thrown now saved hist kept reason detail isSaved comes queue far isInText ahead roomAt rooms text length at_ errorPosition toldFrom toldTo isWrong before = some o) (h1 : o.1 = 1)
    (hk : ∀ (H : Heap) (locs : List Loc) (ls : Array Slot), zWd G A s (zLw ad ob od md k o.2.1 o.2.2.1 o.2.2.2.1 o.2.2.2.2.1 o.2.2.2.2.2.1 o.2.2.2.2.2.2.1 o.2.2.2.2.2.2.2.1 o.2.2.2.2.2.2.2.2.1 o.2.2.2.2.2.2.2.2.2.1 o.2.2.2.2.2.2.2.2.2.2.1 o.2.2.2.2.2.2.2.2.2.2.2.1 o.2.2.2.2.2.2.2.2.2.2.2.2.1 o.2.2.2.2.2.2.2.2.2.2.2.2.2.1 o.2.2.2.2.2.2.2.2.2.2.2.2.2.2.1 o.2.2.2.2.2.2.2.2.2.2.2.2.2.2.2.1 o.2.2.2.2.2.2.2.2.2.2.2.2.2.2.2.2.1 o.2.2.2.2.2.2.2.2.2.2.2.2.2.2.2.2.2.1 o.2.2.2.2.2.2.2.2.2.2.2.2.2.2.2.2.2.2.1 o.2.2.2.2.2.2.2.2.2.2.2.2.2.2.2.2.2.2.2.1 o.2.2.2.2.2.2.2.2.2.2.2.2.2.2.2.2.2.2.2.2.1 o.2.2.2.2.2.2.2.2.2.2.2.2.2.2.2.2.2.2.2.2.2.1 o.2.2.2.2.2.2.2.2.2.2.2.2.2.2.2.2.2.2.2.2.2.2.1 o.2.2.2.2.2.2.2.2.2.2.2.2.2.2.2.2.2.2.2.2.2.2.2.1 o.2.2.2.2.2.2.2.2.2.2.2.2.2.2.2.2.2.2.2.2.2.2.2.2.1 o.2.2.2.2.2.2.2.2.2.2.2.2.2.2.2.2.2.2.2.2.2.2.2.2.2.1 o.2.2.2.2.2.2.2.2.2.2.2.2.2.2.2.2.2.2.2.2.2.2.2.2.2.2.1 o.2.2.2.2.2.2.2.2.2.2.2.2.2.2.2.2.2.2.2.2.2.2.2.2.2.2.2.1 o.2.2.2.2.2.2.2.2.2.2.2.2.2.2.2.2.2.2.2.2.2.2.2.2.2.2.2.2.1 o.2.2.2.2.2.2.2.2.2.2.2.2.2.2.2.2.2.2.2.2.2.2.2.2.2.2.2.2.2.1 o.2.2.2.2.2.2.2.2.2.2.2.2.2.2.2.2.2.2.2.2.2.2.2.2.2.2.2.2.2.2.1 o.2.2.2.2.2.2.2.2.2.2.2.2.2.2.2.2.2.2.2.2.2.2.2.2.2.2.2.2.2.2.2.1 o.2.2.2.2.2.2.2.2.2.2.2.2.2.2.2.2.2.2.2.2.2.2.2.2.2.2.2.2.2.2.2.2.1 o.2.2.2.2.2.2.2.2.2.2.2.2.2.2.2.2.2.2.2.2.2.2.2.2.2.2.2.2.2.2.2.2.2.1 o.2.2.2.2.2.2.2.2.2.2.2.2.2.2.2.2.2.2.2.2.2.2.2.2.2.2.2.2.2.2.2.2.2.2.1 o.2.2.2.2.2.2.2.2.2.2.2.2.2.2.2.2.2.2.2.2.2.2.2.2.2.2.2.2.2.2.2.2.2.2.2.1 o.2.2.2.2.2.2.2.2.2.2.2.2.2.2.2.2.2.2.2.2.2.2.2.2.2.2.2.2.2.2.2.2.2.2.2.2) H locs → lv_has ls 9 [(0, .ref b), (1, .ref (ad 0)), (2, .ref (md 0)), (3, .ref ob), (4, .ref od), (5, .int i)] → W p l e room_1 s m args below meth c H locs (a1 + 8) (a2 + 48) Q (F0 m 1789 ls [])) :
    ∀ (H : Heap) (locs : List Loc) (ls : Array Slot), zWd G A s (zLw ad ob od md k sv kE kR fb ft fs rws nx ct ch ln oo od_ thrown now saved hist kept reason detail isSaved comes queue far isInText ahead roomAt rooms text length at_ errorPosition toldFrom toldTo isWrong before) H locs → lv_has ls 9 [(0, .ref b), (1, .ref (ad 0)), (2, .ref (md 0)), (3, .ref ob), (4, .ref od), (5, .int i)] → W p l e room_1 s m args below meth c H locs a1 a2 Q (F0 m 1416 ls []) := by
  obtain ⟨hx, hb, hr, hml, hown, hts, hlocks⟩ := id C0
  intro H locs ls hw hl
  unfold fCase21 at hF
  refine lv_aload_n hx hb dL_law_1416 rfl (lv_at hl 1 rfl) ?_
  refine lv_aload_n hx hb dL_law_1417 rfl (lv_at hl 3 rfl) ?_
  obtain ⟨u1, hq2, hF⟩ := zbd_t hF
  refine zgoI4 (w' := (zLw ad ob od md k sv u1.2.1 u1.2.2.1 u1.2.2.2.1 u1.2.2.2.2.1 fs u1.2.2.2.2.2.1 u1.2.2.2.2.2.2.1 u1.2.2.2.2.2.2.2.1 ch u1.2.2.2.2.2.2.2.2.1 u1.2.2.2.2.2.2.2.2.2 od_ thrown now saved hist kept reason detail isSaved comes queue far isInText ahead roomAt rooms text length at_ errorPosition toldFrom toldTo isWrong before)) hw zLw_co zLw_co hA (zSW4 (As := [.ref (ad 0), .ref ob]) (rest := []) ⟨hx, hb, hml, hown, hts⟩ (mL_read l hl9 G k ad ob H.size sv kE kR fb ft fs rws nx ct ch ln oo  u1 hq2) (vx_cwSW 2 hts gL_law_L_read rfl rfl rfl kdL_read ⟨Nat.le_of_ble_eq_true rfl, Nat.le_of_ble_eq_true rfl⟩) hK hA hw zLw_co rfl hl.1 rfl (Nat.le_of_ble_eq_true rfl) dL_law_1418 ⟨(by show _ ≤ 603072; omega), (by show _ ≤ 7207018; omega)⟩) rfl (fun H locs hw => ?_)
  refine lv_istore (lv' := [(6, .int u1.1), (0, .ref b), (1, .ref (ad 0)), (2, .ref (md 0)), (3, .ref ob), (4, .ref od), (5, .int i)]) hx hb dL_law_1421 hl (by decide) rfl (fun ls hl => ?_)
  refine lv_aload_n hx hb dL_law_1423 rfl (lv_at hl 3 rfl) ?_
  obtain ⟨u3, hq4, hF⟩ := zbd_t hF
  refine zgoI4 (w' := (zLw ad ob od md k sv u1.2.1 u1.2.2.1 u1.2.2.2.1 u1.2.2.2.2.1 fs u1.2.2.2.2.2.1 u1.2.2.2.2.2.2.1 u1.2.2.2.2.2.2.2.1 ch u1.2.2.2.2.2.2.2.2.1 u1.2.2.2.2.2.2.2.2.2 od_ u3.2.1 u3.2.2.1 saved u3.2.2.2.1 u3.2.2.2.2.1 u3.2.2.2.2.2.1 u3.2.2.2.2.2.2.1 isSaved u3.2.2.2.2.2.2.2.1 u3.2.2.2.2.2.2.2.2.1 u3.2.2.2.2.2.2.2.2.2.1 u3.2.2.2.2.2.2.2.2.2.2.1 ahead roomAt rooms text u3.2.2.2.2.2.2.2.2.2.2.2.1 u3.2.2.2.2.2.2.2.2.2.2.2.2.1 u3.2.2.2.2.2.2.2.2.2.2.2.2.2.1 u3.2.2.2.2.2.2.2.2.2.2.2.2.2.2.1 u3.2.2.2.2.2.2.2.2.2.2.2.2.2.2.2.1 u3.2.2.2.2.2.2.2.2.2.2.2.2.2.2.2.2.1 u3.2.2.2.2.2.2.2.2.2.2.2.2.2.2.2.2.2)) hw zLw_m zLw_m hA (zV4 (As := []) (rest := []) ⟨hx, hb, hml, hown, hts⟩ (mX5_read l G k md H.size thrown now saved hist kept reason detail isSaved comes queue far isInText ahead roomAt rooms text length at_ errorPosition toldFrom toldTo isWrong before  u3 hq4) (cwV 0 hts gL_law_X5_read rfl rfl rfl kdX5_read ⟨Nat.le_of_ble_eq_true rfl, Nat.le_of_ble_eq_true rfl⟩) hK hA hw zLw_m 0 rfl rfl rfl rfl hl.1 rfl (Nat.le_of_ble_eq_true rfl) dL_law_1424 ⟨(by show _ ≤ 603072; omega), (by show _ ≤ 7207018; omega)⟩) rfl (fun H locs hw => ?_)
  refine lv_istore (lv' := [(7, .int u3.1), (6, .int u1.1), (0, .ref b), (1, .ref (ad 0)), (2, .ref (md 0)), (3, .ref ob), (4, .ref od), (5, .int i)]) hx hb dL_law_1427 hl (by decide) rfl (fun ls hl => ?_)
  refine lv_aload_n hx hb dL_law_1429 rfl (lv_at hl 4 rfl) ?_
  obtain ⟨u5, hq6, hF⟩ := zbd_t hF
  refine zgoI4 (w' := (zLw ad ob od md k sv u1.2.1 u1.2.2.1 u1.2.2.2.1 u1.2.2.2.2.1 fs u1.2.2.2.2.2.1 u1.2.2.2.2.2.2.1 u1.2.2.2.2.2.2.2.1 ch u1.2.2.2.2.2.2.2.2.1 u1.2.2.2.2.2.2.2.2.2 od_ u3.2.1 u3.2.2.1 saved u3.2.2.2.1 u3.2.2.2.2.1 u3.2.2.2.2.2.1 u3.2.2.2.2.2.2.1 isSaved u3.2.2.2.2.2.2.2.1 u3.2.2.2.2.2.2.2.2.1 u3.2.2.2.2.2.2.2.2.2.1 u3.2.2.2.2.2.2.2.2.2.2.1 ahead roomAt rooms text u3.2.2.2.2.2.2.2.2.2.2.2.1 u3.2.2.2.2.2.2.2.2.2.2.2.2.1 u3.2.2.2.2.2.2.2.2.2.2.2.2.2.1 u3.2.2.2.2.2.2.2.2.2.2.2.2.2.2.1 u3.2.2.2.2.2.2.2.2.2.2.2.2.2.2.2.1 u3.2.2.2.2.2.2.2.2.2.2.2.2.2.2.2.2.1 u3.2.2.2.2.2.2.2.2.2.2.2.2.2.2.2.2.2)) hw zLw_m zLw_m hA (zV4 (As := []) (rest := []) ⟨hx, hb, hml, hown, hts⟩ (mX5_thrown l G k md H.size u3.2.1 u3.2.2.1 saved u3.2.2.2.1 u3.2.2.2.2.1 u3.2.2.2.2.2.1 u3.2.2.2.2.2.2.1 isSaved u3.2.2.2.2.2.2.2.1 u3.2.2.2.2.2.2.2.2.1 u3.2.2.2.2.2.2.2.2.2.1 u3.2.2.2.2.2.2.2.2.2.2.1 ahead roomAt rooms text u3.2.2.2.2.2.2.2.2.2.2.2.1 u3.2.2.2.2.2.2.2.2.2.2.2.2.1 u3.2.2.2.2.2.2.2.2.2.2.2.2.2.1 u3.2.2.2.2.2.2.2.2.2.2.2.2.2.2.1 u3.2.2.2.2.2.2.2.2.2.2.2.2.2.2.2.1 u3.2.2.2.2.2.2.2.2.2.2.2.2.2.2.2.2.1 u3.2.2.2.2.2.2.2.2.2.2.2.2.2.2.2.2.2  u5 hq6) (cwV 0 hts gL_law_X5_thrown rfl rfl rfl kdX5_thrown ⟨Nat.le_of_ble_eq_true rfl, Nat.le_of_ble_eq_true rfl⟩) hK hA hw zLw_m 0 rfl rfl rfl rfl hl.1 rfl (Nat.le_of_ble_eq_true rfl) dL_law_1430 ⟨(by show _ ≤ 603072; omega), (by show _ ≤ 7207018; omega)⟩) rfl (fun H locs hw => ?_)
  refine lv_iload hx hb dL_law_1433 (lv_at hl 1 rfl) ?_
  refine lv_icmp_eq (tgt := 1440) hx hb dL_law_1435 (by decide) (fun hc => ?_) (fun hc => ?_)
  · have hF := zif_t hc hF
    refine lv_iload hx hb dL_law_1440 (lv_at hl 1 rfl) ?_
    refine lv_if_ne (tgt := 1457) hx hb dL_law_1442 (by decide) (fun hc => ?_) (fun hc => ?_)
    · have hF := zif_f hc hF
      refine lv_goto (tgt := 1789) hx hb dL_law_1457 (by decide) ?_
      obtain rfl := Option.some.inj hF
      refine W.widen (k := a1 + 8) (n := a2 + 48) (by omega) (by omega) ?_
      exact hk _ _ _ hw (lv_sub hl [2, 3, 4, 5, 6, 7] rfl)
    · have hF := zif_t hc hF
      refine lv_aload_n hx hb dL_law_1445 rfl (lv_at hl 5 rfl) ?_
      refine lv_iconst (v := (0 : Int32)) hx hb dL_law_1446 (by decide) ?_
      obtain ⟨hi7, hF⟩ := zck_in hF
      refine va_lald hx hb hK.1 hw.1 12 0 rfl rfl hi7 dL_law_1447 ?_
      refine lv_iload hx hb dL_law_1448 (lv_at hl 0 rfl) ?_
      refine lv_i2l hx hb dL_law_1450 rfl ?_
      refine W.lcmp hx hb dL_law_1451 ?_
      refine lv_if_eq (tgt := 1457) hx hb dL_law_1452 (by decide) (fun hc => ?_) (fun hc => ?_)
      · have hF := zif_t hc hF
        refine lv_goto (tgt := 1789) hx hb dL_law_1457 (by decide) ?_
        obtain rfl := Option.some.inj hF
        refine W.widen (k := a1 + 8) (n := a2 + 48) (by omega) (by omega) ?_
        exact hk _ _ _ hw (lv_sub hl [2, 3, 4, 5, 6, 7] rfl)
      · have hF := zif_f hc hF
        refine lv_iconst (v := (0 : Int32)) hx hb dL_law_1455 (by decide) ?_
        obtain rfl := Option.some.inj hF
        exact absurd h1 (show ¬ ((0 : Int32)) = 1 by decide)
  · have hF := zif_f hc hF
    refine lv_iconst (v := (0 : Int32)) hx hb dL_law_1438 (by decide) ?_
    obtain rfl := Option.some.inj hF
    exact absurd h1 (show ¬ ((0 : Int32)) = 1 by decide)
set_option maxHeartbeats 800000 in
set_option maxRecDepth 100000 in
theorem wCase22 {p : Program} {l : Launch} {e : Env} {s : State} {m : MethodId} {args : Array Value} {below : List Frame} {meth : Method} {c : Code} {A : Nat → Prop} {Q : State → Prop} {G : va_G} {k : Nat → ClassId} {ad : Nat → Nat} {ob od : Nat} {md : Nat → Nat} {b L a1 a2 : Nat} {xs : Nat → Int32} {i : Int32} {sv : Int32} {kE : Int32} {kR : Int32} {fb : Nat → Int64} {ft : Nat → Int64} {fs : Nat → Int64} {rws : Nat → Int64} {nx : Int32} {ct : Int32} {ch : Nat → Int32} {ln : Int32} {oo : Nat → Int64} {od_ : Nat → UInt64} {thrown : Int32} {now : Nat → Int32} {saved : Nat → Int32} {hist : Nat → Nat → Int32} {kept : Int32} {reason : Int32} {detail : Int32} {isSaved : Int32} {comes : Nat → Int32} {queue : Nat → Int32} {far : Nat → Int32} {isInText : Int32} {ahead : Nat → Int32} {roomAt : Nat → Int32} {rooms : Int32} {text : Nat → Int32} {length : Int32} {at_ : Int32} {errorPosition : Int32} {toldFrom : Int32} {toldTo : Int32} {isWrong : Int32} {before : Nat → Int32} {o : zSt} (C0 : zCx p s m args meth c wsL_law code RL ret 9) (hl9 : l.stackTraces = false) (hK : zKK G k A s s.heap) (hA : ∀ q : Nat, s.heap.size ≤ q → A q) (hX : va_X b L xs s s.heap) (hbl : b < s.heap.size) (hbA : ¬ A b) (hr1 : a1 + 8 ≤ 603072) (hr2 : a2 + 48 ≤ 7207018) (hF : fCase22 xs L i sv kE kR fb ft fs rws nx ct ch ln oo od_ thrown now saved hist kept reason detail isSaved comes queue far isInText ahead roomAt rooms text length at_ errorPosition toldFrom toldTo isWrong before = some o) (h1 : o.1 = 1)
    (hk : ∀ (H : Heap) (locs : List Loc) (ls : Array Slot), zWd G A s (zLw ad ob od md k o.2.1 o.2.2.1 o.2.2.2.1 o.2.2.2.2.1 o.2.2.2.2.2.1 o.2.2.2.2.2.2.1 o.2.2.2.2.2.2.2.1 o.2.2.2.2.2.2.2.2.1 o.2.2.2.2.2.2.2.2.2.1 o.2.2.2.2.2.2.2.2.2.2.1 o.2.2.2.2.2.2.2.2.2.2.2.1 o.2.2.2.2.2.2.2.2.2.2.2.2.1 o.2.2.2.2.2.2.2.2.2.2.2.2.2.1 o.2.2.2.2.2.2.2.2.2.2.2.2.2.2.1 o.2.2.2.2.2.2.2.2.2.2.2.2.2.2.2.1 o.2.2.2.2.2.2.2.2.2.2.2.2.2.2.2.2.1 o.2.2.2.2.2.2.2.2.2.2.2.2.2.2.2.2.2.1 o.2.2.2.2.2.2.2.2.2.2.2.2.2.2.2.2.2.2.1 o.2.2.2.2.2.2.2.2.2.2.2.2.2.2.2.2.2.2.2.1 o.2.2.2.2.2.2.2.2.2.2.2.2.2.2.2.2.2.2.2.2.1 o.2.2.2.2.2.2.2.2.2.2.2.2.2.2.2.2.2.2.2.2.2.1 o.2.2.2.2.2.2.2.2.2.2.2.2.2.2.2.2.2.2.2.2.2.2.1 o.2.2.2.2.2.2.2.2.2.2.2.2.2.2.2.2.2.2.2.2.2.2.2.1 o.2.2.2.2.2.2.2.2.2.2.2.2.2.2.2.2.2.2.2.2.2.2.2.2.1 o.2.2.2.2.2.2.2.2.2.2.2.2.2.2.2.2.2.2.2.2.2.2.2.2.2.1 o.2.2.2.2.2.2.2.2.2.2.2.2.2.2.2.2.2.2.2.2.2.2.2.2.2.2.1 o.2.2.2.2.2.2.2.2.2.2.2.2.2.2.2.2.2.2.2.2.2.2.2.2.2.2.2.1 o.2.2.2.2.2.2.2.2.2.2.2.2.2.2.2.2.2.2.2.2.2.2.2.2.2.2.2.2.1 o.2.2.2.2.2.2.2.2.2.2.2.2.2.2.2.2.2.2.2.2.2.2.2.2.2.2.2.2.2.1 o.2.2.2.2.2.2.2.2.2.2.2.2.2.2.2.2.2.2.2.2.2.2.2.2.2.2.2.2.2.2.1 o.2.2.2.2.2.2.2.2.2.2.2.2.2.2.2.2.2.2.2.2.2.2.2.2.2.2.2.2.2.2.2.1 o.2.2.2.2.2.2.2.2.2.2.2.2.2.2.2.2.2.2.2.2.2.2.2.2.2.2.2.2.2.2.2.2.1 o.2.2.2.2.2.2.2.2.2.2.2.2.2.2.2.2.2.2.2.2.2.2.2.2.2.2.2.2.2.2.2.2.2.1 o.2.2.2.2.2.2.2.2.2.2.2.2.2.2.2.2.2.2.2.2.2.2.2.2.2.2.2.2.2.2.2.2.2.2.1 o.2.2.2.2.2.2.2.2.2.2.2.2.2.2.2.2.2.2.2.2.2.2.2.2.2.2.2.2.2.2.2.2.2.2.2.1 o.2.2.2.2.2.2.2.2.2.2.2.2.2.2.2.2.2.2.2.2.2.2.2.2.2.2.2.2.2.2.2.2.2.2.2.2) H locs → lv_has ls 9 [(0, .ref b), (1, .ref (ad 0)), (2, .ref (md 0)), (3, .ref ob), (4, .ref od), (5, .int i)] → W p l e room_1 s m args below meth c H locs (a1 + 8) (a2 + 48) Q (F0 m 1789 ls [])) :
    ∀ (H : Heap) (locs : List Loc) (ls : Array Slot), zWd G A s (zLw ad ob od md k sv kE kR fb ft fs rws nx ct ch ln oo od_ thrown now saved hist kept reason detail isSaved comes queue far isInText ahead roomAt rooms text length at_ errorPosition toldFrom toldTo isWrong before) H locs → lv_has ls 9 [(0, .ref b), (1, .ref (ad 0)), (2, .ref (md 0)), (3, .ref ob), (4, .ref od), (5, .int i)] → W p l e room_1 s m args below meth c H locs a1 a2 Q (F0 m 1460 ls []) := by
  obtain ⟨hx, hb, hr, hml, hown, hts, hlocks⟩ := id C0
  intro H locs ls hw hl
  unfold fCase22 at hF
  refine lv_aload_n hx hb dL_law_1460 rfl (lv_at hl 1 rfl) ?_
  refine lv_aload_n hx hb dL_law_1461 rfl (lv_at hl 3 rfl) ?_
  obtain ⟨u1, hq2, hF⟩ := zbd_t hF
  refine zgoI4 (w' := (zLw ad ob od md k sv kE kR fb ft fs rws nx ct ch ln u1.2 od_ thrown now saved hist kept reason detail isSaved comes queue far isInText ahead roomAt rooms text length at_ errorPosition toldFrom toldTo isWrong before)) hw zLw_co zLw_co hA (zSW4 (As := [.ref (ad 0), .ref ob]) (rest := []) ⟨hx, hb, hml, hown, hts⟩ (mL_errorPosition l hl9 G k ad ob H.size sv kE kR fb ft fs rws nx ct ch ln oo  u1 hq2) (vx_cwSW 2 hts gL_law_L_errorPosition rfl rfl rfl kdL_errorPosition ⟨Nat.le_of_ble_eq_true rfl, Nat.le_of_ble_eq_true rfl⟩) hK hA hw zLw_co rfl hl.1 rfl (Nat.le_of_ble_eq_true rfl) dL_law_1462 ⟨(by show _ ≤ 603072; omega), (by show _ ≤ 7207018; omega)⟩) rfl (fun H locs hw => ?_)
  refine lv_istore (lv' := [(6, .int u1.1), (0, .ref b), (1, .ref (ad 0)), (2, .ref (md 0)), (3, .ref ob), (4, .ref od), (5, .int i)]) hx hb dL_law_1465 hl (by decide) rfl (fun ls hl => ?_)
  refine lv_aload_n hx hb dL_law_1467 rfl (lv_at hl 3 rfl) ?_
  obtain ⟨u3, hq4, hF⟩ := zbd_t hF
  refine zgoI4 (w' := (zLw ad ob od md k sv kE kR fb ft fs rws nx ct ch ln u1.2 od_ u3.2 now saved hist kept reason detail isSaved comes queue far isInText ahead roomAt rooms text length at_ errorPosition toldFrom toldTo isWrong before)) hw zLw_m zLw_m hA (zV4 (As := []) (rest := []) ⟨hx, hb, hml, hown, hts⟩ (mX5_errorPosition l G k md H.size thrown now saved hist kept reason detail isSaved comes queue far isInText ahead roomAt rooms text length at_ errorPosition toldFrom toldTo isWrong before  u3 hq4) (cwV 0 hts gL_law_X5_errorPosition rfl rfl rfl kdX5_errorPosition ⟨Nat.le_of_ble_eq_true rfl, Nat.le_of_ble_eq_true rfl⟩) hK hA hw zLw_m 0 rfl rfl rfl rfl hl.1 rfl (Nat.le_of_ble_eq_true rfl) dL_law_1468 ⟨(by show _ ≤ 603072; omega), (by show _ ≤ 7207018; omega)⟩) rfl (fun H locs hw => ?_)
  refine lv_istore (lv' := [(7, .int u3.1), (6, .int u1.1), (0, .ref b), (1, .ref (ad 0)), (2, .ref (md 0)), (3, .ref ob), (4, .ref od), (5, .int i)]) hx hb dL_law_1471 hl (by decide) rfl (fun ls hl => ?_)
  refine lv_aload_n hx hb dL_law_1473 rfl (lv_at hl 4 rfl) ?_
  obtain ⟨u5, hq6, hF⟩ := zbd_t hF
  refine zgoI4 (w' := (zLw ad ob od md k sv kE kR fb ft fs rws nx ct ch ln u1.2 od_ u3.2 now saved hist kept reason detail isSaved comes queue far isInText ahead roomAt rooms text length at_ errorPosition toldFrom toldTo isWrong before)) hw zLw_m zLw_m hA (zV4 (As := []) (rest := []) ⟨hx, hb, hml, hown, hts⟩ (mX5_thrown l G k md H.size u3.2 now saved hist kept reason detail isSaved comes queue far isInText ahead roomAt rooms text length at_ errorPosition toldFrom toldTo isWrong before  u5 hq6) (cwV 0 hts gL_law_X5_thrown rfl rfl rfl kdX5_thrown ⟨Nat.le_of_ble_eq_true rfl, Nat.le_of_ble_eq_true rfl⟩) hK hA hw zLw_m 0 rfl rfl rfl rfl hl.1 rfl (Nat.le_of_ble_eq_true rfl) dL_law_1474 ⟨(by show _ ≤ 603072; omega), (by show _ ≤ 7207018; omega)⟩) rfl (fun H locs hw => ?_)
  refine lv_iload hx hb dL_law_1477 (lv_at hl 1 rfl) ?_
  refine lv_icmp_eq (tgt := 1484) hx hb dL_law_1479 (by decide) (fun hc => ?_) (fun hc => ?_)
  · have hF := zif_t hc hF
    refine lv_iload hx hb dL_law_1484 (lv_at hl 1 rfl) ?_
    refine lv_if_ne (tgt := 1501) hx hb dL_law_1486 (by decide) (fun hc => ?_) (fun hc => ?_)
    · have hF := zif_f hc hF
      refine lv_goto (tgt := 1789) hx hb dL_law_1501 (by decide) ?_
      obtain rfl := Option.some.inj hF
      refine W.widen (k := a1 + 8) (n := a2 + 48) (by omega) (by omega) ?_
      exact hk _ _ _ hw (lv_sub hl [2, 3, 4, 5, 6, 7] rfl)
    · have hF := zif_t hc hF
      refine lv_aload_n hx hb dL_law_1489 rfl (lv_at hl 5 rfl) ?_
      refine lv_iconst (v := (0 : Int32)) hx hb dL_law_1490 (by decide) ?_
      obtain ⟨hi7, hF⟩ := zck_in hF
      refine va_lald hx hb hK.1 hw.1 12 0 rfl rfl hi7 dL_law_1491 ?_
      refine lv_iload hx hb dL_law_1492 (lv_at hl 0 rfl) ?_
      refine lv_i2l hx hb dL_law_1494 rfl ?_
      refine W.lcmp hx hb dL_law_1495 ?_
      refine lv_if_eq (tgt := 1501) hx hb dL_law_1496 (by decide) (fun hc => ?_) (fun hc => ?_)
      · have hF := zif_t hc hF
        refine lv_goto (tgt := 1789) hx hb dL_law_1501 (by decide) ?_
        obtain rfl := Option.some.inj hF
        refine W.widen (k := a1 + 8) (n := a2 + 48) (by omega) (by omega) ?_
        exact hk _ _ _ hw (lv_sub hl [2, 3, 4, 5, 6, 7] rfl)
      · have hF := zif_f hc hF
        refine lv_iconst (v := (0 : Int32)) hx hb dL_law_1499 (by decide) ?_
        obtain rfl := Option.some.inj hF
        exact absurd h1 (show ¬ ((0 : Int32)) = 1 by decide)
  · have hF := zif_f hc hF
    refine lv_iconst (v := (0 : Int32)) hx hb dL_law_1482 (by decide) ?_
    obtain rfl := Option.some.inj hF
    exact absurd h1 (show ¬ ((0 : Int32)) = 1 by decide)
set_option maxHeartbeats 800000 in
set_option maxRecDepth 100000 in
theorem wCase23 {p : Program} {l : Launch} {e : Env} {s : State} {m : MethodId} {args : Array Value} {below : List Frame} {meth : Method} {c : Code} {A : Nat → Prop} {Q : State → Prop} {G : va_G} {k : Nat → ClassId} {ad : Nat → Nat} {ob od : Nat} {md : Nat → Nat} {b L a1 a2 : Nat} {xs : Nat → Int32} {i : Int32} {sv : Int32} {kE : Int32} {kR : Int32} {fb : Nat → Int64} {ft : Nat → Int64} {fs : Nat → Int64} {rws : Nat → Int64} {nx : Int32} {ct : Int32} {ch : Nat → Int32} {ln : Int32} {oo : Nat → Int64} {od_ : Nat → UInt64} {thrown : Int32} {now : Nat → Int32} {saved : Nat → Int32} {hist : Nat → Nat → Int32} {kept : Int32} {reason : Int32} {detail : Int32} {isSaved : Int32} {comes : Nat → Int32} {queue : Nat → Int32} {far : Nat → Int32} {isInText : Int32} {ahead : Nat → Int32} {roomAt : Nat → Int32} {rooms : Int32} {text : Nat → Int32} {length : Int32} {at_ : Int32} {errorPosition : Int32} {toldFrom : Int32} {toldTo : Int32} {isWrong : Int32} {before : Nat → Int32} {o : zSt} (C0 : zCx p s m args meth c wsL_law code RL ret 9) (hl9 : l.stackTraces = false) (hK : zKK G k A s s.heap) (hA : ∀ q : Nat, s.heap.size ≤ q → A q) (hX : va_X b L xs s s.heap) (hbl : b < s.heap.size) (hbA : ¬ A b) (hr1 : a1 + 8 ≤ 603072) (hr2 : a2 + 48 ≤ 7207018) (hF : fCase23 xs L i sv kE kR fb ft fs rws nx ct ch ln oo od_ thrown now saved hist kept reason detail isSaved comes queue far isInText ahead roomAt rooms text length at_ errorPosition toldFrom toldTo isWrong before = some o) (h1 : o.1 = 1)
    (hk : ∀ (H : Heap) (locs : List Loc) (ls : Array Slot), zWd G A s (zLw ad ob od md k o.2.1 o.2.2.1 o.2.2.2.1 o.2.2.2.2.1 o.2.2.2.2.2.1 o.2.2.2.2.2.2.1 o.2.2.2.2.2.2.2.1 o.2.2.2.2.2.2.2.2.1 o.2.2.2.2.2.2.2.2.2.1 o.2.2.2.2.2.2.2.2.2.2.1 o.2.2.2.2.2.2.2.2.2.2.2.1 o.2.2.2.2.2.2.2.2.2.2.2.2.1 o.2.2.2.2.2.2.2.2.2.2.2.2.2.1 o.2.2.2.2.2.2.2.2.2.2.2.2.2.2.1 o.2.2.2.2.2.2.2.2.2.2.2.2.2.2.2.1 o.2.2.2.2.2.2.2.2.2.2.2.2.2.2.2.2.1 o.2.2.2.2.2.2.2.2.2.2.2.2.2.2.2.2.2.1 o.2.2.2.2.2.2.2.2.2.2.2.2.2.2.2.2.2.2.1 o.2.2.2.2.2.2.2.2.2.2.2.2.2.2.2.2.2.2.2.1 o.2.2.2.2.2.2.2.2.2.2.2.2.2.2.2.2.2.2.2.2.1 o.2.2.2.2.2.2.2.2.2.2.2.2.2.2.2.2.2.2.2.2.2.1 o.2.2.2.2.2.2.2.2.2.2.2.2.2.2.2.2.2.2.2.2.2.2.1 o.2.2.2.2.2.2.2.2.2.2.2.2.2.2.2.2.2.2.2.2.2.2.2.1 o.2.2.2.2.2.2.2.2.2.2.2.2.2.2.2.2.2.2.2.2.2.2.2.2.1 o.2.2.2.2.2.2.2.2.2.2.2.2.2.2.2.2.2.2.2.2.2.2.2.2.2.1 o.2.2.2.2.2.2.2.2.2.2.2.2.2.2.2.2.2.2.2.2.2.2.2.2.2.2.1 o.2.2.2.2.2.2.2.2.2.2.2.2.2.2.2.2.2.2.2.2.2.2.2.2.2.2.2.1 o.2.2.2.2.2.2.2.2.2.2.2.2.2.2.2.2.2.2.2.2.2.2.2.2.2.2.2.2.1 o.2.2.2.2.2.2.2.2.2.2.2.2.2.2.2.2.2.2.2.2.2.2.2.2.2.2.2.2.2.1 o.2.2.2.2.2.2.2.2.2.2.2.2.2.2.2.2.2.2.2.2.2.2.2.2.2.2.2.2.2.2.1 o.2.2.2.2.2.2.2.2.2.2.2.2.2.2.2.2.2.2.2.2.2.2.2.2.2.2.2.2.2.2.2.1 o.2.2.2.2.2.2.2.2.2.2.2.2.2.2.2.2.2.2.2.2.2.2.2.2.2.2.2.2.2.2.2.2.1 o.2.2.2.2.2.2.2.2.2.2.2.2.2.2.2.2.2.2.2.2.2.2.2.2.2.2.2.2.2.2.2.2.2.1 o.2.2.2.2.2.2.2.2.2.2.2.2.2.2.2.2.2.2.2.2.2.2.2.2.2.2.2.2.2.2.2.2.2.2.1 o.2.2.2.2.2.2.2.2.2.2.2.2.2.2.2.2.2.2.2.2.2.2.2.2.2.2.2.2.2.2.2.2.2.2.2.1 o.2.2.2.2.2.2.2.2.2.2.2.2.2.2.2.2.2.2.2.2.2.2.2.2.2.2.2.2.2.2.2.2.2.2.2.2) H locs → lv_has ls 9 [(0, .ref b), (1, .ref (ad 0)), (2, .ref (md 0)), (3, .ref ob), (4, .ref od), (5, .int i)] → W p l e room_1 s m args below meth c H locs (a1 + 8) (a2 + 48) Q (F0 m 1789 ls [])) :
    ∀ (H : Heap) (locs : List Loc) (ls : Array Slot), zWd G A s (zLw ad ob od md k sv kE kR fb ft fs rws nx ct ch ln oo od_ thrown now saved hist kept reason detail isSaved comes queue far isInText ahead roomAt rooms text length at_ errorPosition toldFrom toldTo isWrong before) H locs → lv_has ls 9 [(0, .ref b), (1, .ref (ad 0)), (2, .ref (md 0)), (3, .ref ob), (4, .ref od), (5, .int i)] → W p l e room_1 s m args below meth c H locs a1 a2 Q (F0 m 1504 ls []) := by
  obtain ⟨hx, hb, hr, hml, hown, hts, hlocks⟩ := id C0
  intro H locs ls hw hl
  unfold fCase23 at hF
  refine lv_aload_n hx hb dL_law_1504 rfl (lv_at hl 1 rfl) ?_
  refine lv_aload_n hx hb dL_law_1505 rfl (lv_at hl 0 rfl) ?_
  refine lv_iload hx hb dL_law_1506 (lv_at hl 5 rfl) ?_
  refine lv_iconst (v := (1 : Int32)) hx hb dL_law_1508 (by decide) ?_
  refine lv_iadd hx hb dL_law_1509 ?_
  obtain ⟨hi1, hF⟩ := zck_in hF
  refine va_sld hx hb hX hbl hbA hw.2.2 hi1 dL_law_1510 ?_
  refine lv_if_eq (tgt := 1518) hx hb dL_law_1511 (by decide) (fun hc => ?_) (fun hc => ?_)
  · have hF := zif_t hc hF
    refine lv_iconst (v := (0 : Int32)) hx hb dL_law_1518 (by decide) ?_
    refine lv_aload_n hx hb dL_law_1519 rfl (lv_at hl 3 rfl) ?_
    obtain ⟨u2, hq3, hF⟩ := zbd_t hF
    refine zgoI4 (w' := (zLw ad ob od md k sv kE kR fb ft fs rws nx ct ch ln u2.2 od_ thrown now saved hist kept reason detail isSaved comes queue far isInText ahead roomAt rooms text length at_ errorPosition toldFrom toldTo isWrong before)) hw zLw_co zLw_co hA (zSW4 (As := [.ref (ad 0), .int (0 : Int32), .ref ob]) (rest := []) ⟨hx, hb, hml, hown, hts⟩ (mL_reason l hl9 G k ad ob H.size sv kE kR fb ft fs rws nx ct ch ln oo (0 : Int32) u2 hq3) (vx_cwSW 3 hts gL_law_L_reason rfl rfl rfl kdL_reason ⟨Nat.le_of_ble_eq_true rfl, Nat.le_of_ble_eq_true rfl⟩) hK hA hw zLw_co rfl hl.1 rfl (Nat.le_of_ble_eq_true rfl) dL_law_1520 ⟨(by show _ ≤ 603072; omega), (by show _ ≤ 7207018; omega)⟩) rfl (fun H locs hw => ?_)
    refine lv_istore (lv' := [(6, .int u2.1), (0, .ref b), (1, .ref (ad 0)), (2, .ref (md 0)), (3, .ref ob), (4, .ref od), (5, .int i)]) hx hb dL_law_1523 hl (by decide) rfl (fun ls hl => ?_)
    refine lv_aload_n hx hb dL_law_1525 rfl (lv_at hl 3 rfl) ?_
    refine lv_aload_n hx hb dL_law_1526 rfl (lv_at hl 1 rfl) ?_
    refine lv_iload hx hb dL_law_1527 (lv_at hl 6 rfl) ?_
    refine lv_iconst (v := (1 : Int32)) hx hb dL_law_1529 (by decide) ?_
    refine lv_iadd hx hb dL_law_1530 ?_
    obtain ⟨hi4, hF⟩ := zck_in hF
    refine va_sld hx hb hX hbl hbA hw.2.2 hi4 dL_law_1531 ?_
    refine lv_if_eq (tgt := 1539) hx hb dL_law_1532 (by decide) (fun hc => ?_) (fun hc => ?_)
    · have hF := zif_t hc hF
      refine lv_iconst (v := (0 : Int32)) hx hb dL_law_1539 (by decide) ?_
      obtain ⟨u5, hq6, hF⟩ := zbd_t hF
      refine zgoI4 (w' := (zLw ad ob od md k sv kE kR fb ft fs rws nx ct ch ln u2.2 od_ u5.2 now saved hist kept reason detail isSaved comes queue far isInText ahead roomAt rooms text length at_ errorPosition toldFrom toldTo isWrong before)) hw zLw_m zLw_m hA (zV4 (As := [.int (0 : Int32)]) (rest := []) ⟨hx, hb, hml, hown, hts⟩ (mX5_reason l G k md H.size thrown now saved hist kept reason detail isSaved comes queue far isInText ahead roomAt rooms text length at_ errorPosition toldFrom toldTo isWrong before (0 : Int32) u5 hq6) (cwV 1 hts gL_law_X5_reason rfl rfl rfl kdX5_reason ⟨Nat.le_of_ble_eq_true rfl, Nat.le_of_ble_eq_true rfl⟩) hK hA hw zLw_m 0 rfl rfl rfl rfl hl.1 rfl (Nat.le_of_ble_eq_true rfl) dL_law_1540 ⟨(by show _ ≤ 603072; omega), (by show _ ≤ 7207018; omega)⟩) rfl (fun H locs hw => ?_)
      refine lv_istore (lv' := [(7, .int u5.1), (6, .int u2.1), (0, .ref b), (1, .ref (ad 0)), (2, .ref (md 0)), (3, .ref ob), (4, .ref od), (5, .int i)]) hx hb dL_law_1543 hl (by decide) rfl (fun ls hl => ?_)
      refine lv_aload_n hx hb dL_law_1545 rfl (lv_at hl 4 rfl) ?_
      obtain ⟨u7, hq8, hF⟩ := zbd_t hF
      refine zgoI4 (w' := (zLw ad ob od md k sv kE kR fb ft fs rws nx ct ch ln u2.2 od_ u5.2 now saved hist kept reason detail isSaved comes queue far isInText ahead roomAt rooms text length at_ errorPosition toldFrom toldTo isWrong before)) hw zLw_m zLw_m hA (zV4 (As := []) (rest := []) ⟨hx, hb, hml, hown, hts⟩ (mX5_thrown l G k md H.size u5.2 now saved hist kept reason detail isSaved comes queue far isInText ahead roomAt rooms text length at_ errorPosition toldFrom toldTo isWrong before  u7 hq8) (cwV 0 hts gL_law_X5_thrown rfl rfl rfl kdX5_thrown ⟨Nat.le_of_ble_eq_true rfl, Nat.le_of_ble_eq_true rfl⟩) hK hA hw zLw_m 0 rfl rfl rfl rfl hl.1 rfl (Nat.le_of_ble_eq_true rfl) dL_law_1546 ⟨(by show _ ≤ 603072; omega), (by show _ ≤ 7207018; omega)⟩) rfl (fun H locs hw => ?_)
      refine lv_iload hx hb dL_law_1549 (lv_at hl 1 rfl) ?_
      refine lv_icmp_eq (tgt := 1556) hx hb dL_law_1551 (by decide) (fun hc => ?_) (fun hc => ?_)
      · have hF := zif_t hc hF
        refine lv_iload hx hb dL_law_1556 (lv_at hl 1 rfl) ?_
        refine lv_if_ne (tgt := 1573) hx hb dL_law_1558 (by decide) (fun hc => ?_) (fun hc => ?_)
        · have hF := zif_f hc hF
          refine lv_goto (tgt := 1789) hx hb dL_law_1573 (by decide) ?_
          obtain rfl := Option.some.inj hF
          refine W.widen (k := a1 + 8) (n := a2 + 48) (by omega) (by omega) ?_
          exact hk _ _ _ hw (lv_sub hl [2, 3, 4, 5, 6, 7] rfl)
        · have hF := zif_t hc hF
          refine lv_aload_n hx hb dL_law_1561 rfl (lv_at hl 5 rfl) ?_
          refine lv_iconst (v := (0 : Int32)) hx hb dL_law_1562 (by decide) ?_
          obtain ⟨hi9, hF⟩ := zck_in hF
          refine va_lald hx hb hK.1 hw.1 12 0 rfl rfl hi9 dL_law_1563 ?_
          refine lv_iload hx hb dL_law_1564 (lv_at hl 0 rfl) ?_
          refine lv_i2l hx hb dL_law_1566 rfl ?_
          refine W.lcmp hx hb dL_law_1567 ?_
          refine lv_if_eq (tgt := 1573) hx hb dL_law_1568 (by decide) (fun hc => ?_) (fun hc => ?_)
          · have hF := zif_t hc hF
            refine lv_goto (tgt := 1789) hx hb dL_law_1573 (by decide) ?_
            obtain rfl := Option.some.inj hF
            refine W.widen (k := a1 + 8) (n := a2 + 48) (by omega) (by omega) ?_
            exact hk _ _ _ hw (lv_sub hl [2, 3, 4, 5, 6, 7] rfl)
          · have hF := zif_f hc hF
            refine lv_iconst (v := (0 : Int32)) hx hb dL_law_1571 (by decide) ?_
            obtain rfl := Option.some.inj hF
            exact absurd h1 (show ¬ ((0 : Int32)) = 1 by decide)
      · have hF := zif_f hc hF
        refine lv_iconst (v := (0 : Int32)) hx hb dL_law_1554 (by decide) ?_
        obtain rfl := Option.some.inj hF
        exact absurd h1 (show ¬ ((0 : Int32)) = 1 by decide)
    · have hF := zif_f hc hF
      refine lv_iconst (v := (1 : Int32)) hx hb dL_law_1535 (by decide) ?_
      refine lv_goto (tgt := 1540) hx hb dL_law_1536 (by decide) ?_
      obtain ⟨u10, hq11, hF⟩ := zbd_t hF
      refine zgoI4 (w' := (zLw ad ob od md k sv kE kR fb ft fs rws nx ct ch ln u2.2 od_ u10.2 now saved hist kept reason detail isSaved comes queue far isInText ahead roomAt rooms text length at_ errorPosition toldFrom toldTo isWrong before)) hw zLw_m zLw_m hA (zV4 (As := [.int (1 : Int32)]) (rest := []) ⟨hx, hb, hml, hown, hts⟩ (mX5_reason l G k md H.size thrown now saved hist kept reason detail isSaved comes queue far isInText ahead roomAt rooms text length at_ errorPosition toldFrom toldTo isWrong before (1 : Int32) u10 hq11) (cwV 1 hts gL_law_X5_reason rfl rfl rfl kdX5_reason ⟨Nat.le_of_ble_eq_true rfl, Nat.le_of_ble_eq_true rfl⟩) hK hA hw zLw_m 0 rfl rfl rfl rfl hl.1 rfl (Nat.le_of_ble_eq_true rfl) dL_law_1540 ⟨(by show _ ≤ 603072; omega), (by show _ ≤ 7207018; omega)⟩) rfl (fun H locs hw => ?_)
      refine lv_istore (lv' := [(7, .int u10.1), (6, .int u2.1), (0, .ref b), (1, .ref (ad 0)), (2, .ref (md 0)), (3, .ref ob), (4, .ref od), (5, .int i)]) hx hb dL_law_1543 hl (by decide) rfl (fun ls hl => ?_)
      refine lv_aload_n hx hb dL_law_1545 rfl (lv_at hl 4 rfl) ?_
      obtain ⟨u12, hq13, hF⟩ := zbd_t hF
      refine zgoI4 (w' := (zLw ad ob od md k sv kE kR fb ft fs rws nx ct ch ln u2.2 od_ u10.2 now saved hist kept reason detail isSaved comes queue far isInText ahead roomAt rooms text length at_ errorPosition toldFrom toldTo isWrong before)) hw zLw_m zLw_m hA (zV4 (As := []) (rest := []) ⟨hx, hb, hml, hown, hts⟩ (mX5_thrown l G k md H.size u10.2 now saved hist kept reason detail isSaved comes queue far isInText ahead roomAt rooms text length at_ errorPosition toldFrom toldTo isWrong before  u12 hq13) (cwV 0 hts gL_law_X5_thrown rfl rfl rfl kdX5_thrown ⟨Nat.le_of_ble_eq_true rfl, Nat.le_of_ble_eq_true rfl⟩) hK hA hw zLw_m 0 rfl rfl rfl rfl hl.1 rfl (Nat.le_of_ble_eq_true rfl) dL_law_1546 ⟨(by show _ ≤ 603072; omega), (by show _ ≤ 7207018; omega)⟩) rfl (fun H locs hw => ?_)
      refine lv_iload hx hb dL_law_1549 (lv_at hl 1 rfl) ?_
      refine lv_icmp_eq (tgt := 1556) hx hb dL_law_1551 (by decide) (fun hc => ?_) (fun hc => ?_)
      · have hF := zif_t hc hF
        refine lv_iload hx hb dL_law_1556 (lv_at hl 1 rfl) ?_
        refine lv_if_ne (tgt := 1573) hx hb dL_law_1558 (by decide) (fun hc => ?_) (fun hc => ?_)
        · have hF := zif_f hc hF
          refine lv_goto (tgt := 1789) hx hb dL_law_1573 (by decide) ?_
          obtain rfl := Option.some.inj hF
          refine W.widen (k := a1 + 8) (n := a2 + 48) (by omega) (by omega) ?_
          exact hk _ _ _ hw (lv_sub hl [2, 3, 4, 5, 6, 7] rfl)
        · have hF := zif_t hc hF
          refine lv_aload_n hx hb dL_law_1561 rfl (lv_at hl 5 rfl) ?_
          refine lv_iconst (v := (0 : Int32)) hx hb dL_law_1562 (by decide) ?_
          obtain ⟨hi14, hF⟩ := zck_in hF
          refine va_lald hx hb hK.1 hw.1 12 0 rfl rfl hi14 dL_law_1563 ?_
          refine lv_iload hx hb dL_law_1564 (lv_at hl 0 rfl) ?_
          refine lv_i2l hx hb dL_law_1566 rfl ?_
          refine W.lcmp hx hb dL_law_1567 ?_
          refine lv_if_eq (tgt := 1573) hx hb dL_law_1568 (by decide) (fun hc => ?_) (fun hc => ?_)
          · have hF := zif_t hc hF
            refine lv_goto (tgt := 1789) hx hb dL_law_1573 (by decide) ?_
            obtain rfl := Option.some.inj hF
            refine W.widen (k := a1 + 8) (n := a2 + 48) (by omega) (by omega) ?_
            exact hk _ _ _ hw (lv_sub hl [2, 3, 4, 5, 6, 7] rfl)
          · have hF := zif_f hc hF
            refine lv_iconst (v := (0 : Int32)) hx hb dL_law_1571 (by decide) ?_
            obtain rfl := Option.some.inj hF
            exact absurd h1 (show ¬ ((0 : Int32)) = 1 by decide)
      · have hF := zif_f hc hF
        refine lv_iconst (v := (0 : Int32)) hx hb dL_law_1554 (by decide) ?_
        obtain rfl := Option.some.inj hF
        exact absurd h1 (show ¬ ((0 : Int32)) = 1 by decide)
  · have hF := zif_f hc hF
    refine lv_iconst (v := (1 : Int32)) hx hb dL_law_1514 (by decide) ?_
    refine lv_goto (tgt := 1519) hx hb dL_law_1515 (by decide) ?_
    refine lv_aload_n hx hb dL_law_1519 rfl (lv_at hl 3 rfl) ?_
    obtain ⟨u15, hq16, hF⟩ := zbd_t hF
    refine zgoI4 (w' := (zLw ad ob od md k sv kE kR fb ft fs rws nx ct ch ln u15.2 od_ thrown now saved hist kept reason detail isSaved comes queue far isInText ahead roomAt rooms text length at_ errorPosition toldFrom toldTo isWrong before)) hw zLw_co zLw_co hA (zSW4 (As := [.ref (ad 0), .int (1 : Int32), .ref ob]) (rest := []) ⟨hx, hb, hml, hown, hts⟩ (mL_reason l hl9 G k ad ob H.size sv kE kR fb ft fs rws nx ct ch ln oo (1 : Int32) u15 hq16) (vx_cwSW 3 hts gL_law_L_reason rfl rfl rfl kdL_reason ⟨Nat.le_of_ble_eq_true rfl, Nat.le_of_ble_eq_true rfl⟩) hK hA hw zLw_co rfl hl.1 rfl (Nat.le_of_ble_eq_true rfl) dL_law_1520 ⟨(by show _ ≤ 603072; omega), (by show _ ≤ 7207018; omega)⟩) rfl (fun H locs hw => ?_)
    refine lv_istore (lv' := [(6, .int u15.1), (0, .ref b), (1, .ref (ad 0)), (2, .ref (md 0)), (3, .ref ob), (4, .ref od), (5, .int i)]) hx hb dL_law_1523 hl (by decide) rfl (fun ls hl => ?_)
    refine lv_aload_n hx hb dL_law_1525 rfl (lv_at hl 3 rfl) ?_
    refine lv_aload_n hx hb dL_law_1526 rfl (lv_at hl 1 rfl) ?_
    refine lv_iload hx hb dL_law_1527 (lv_at hl 6 rfl) ?_
    refine lv_iconst (v := (1 : Int32)) hx hb dL_law_1529 (by decide) ?_
    refine lv_iadd hx hb dL_law_1530 ?_
    obtain ⟨hi17, hF⟩ := zck_in hF
    refine va_sld hx hb hX hbl hbA hw.2.2 hi17 dL_law_1531 ?_
    refine lv_if_eq (tgt := 1539) hx hb dL_law_1532 (by decide) (fun hc => ?_) (fun hc => ?_)
    · have hF := zif_t hc hF
      refine lv_iconst (v := (0 : Int32)) hx hb dL_law_1539 (by decide) ?_
      obtain ⟨u18, hq19, hF⟩ := zbd_t hF
      refine zgoI4 (w' := (zLw ad ob od md k sv kE kR fb ft fs rws nx ct ch ln u15.2 od_ u18.2 now saved hist kept reason detail isSaved comes queue far isInText ahead roomAt rooms text length at_ errorPosition toldFrom toldTo isWrong before)) hw zLw_m zLw_m hA (zV4 (As := [.int (0 : Int32)]) (rest := []) ⟨hx, hb, hml, hown, hts⟩ (mX5_reason l G k md H.size thrown now saved hist kept reason detail isSaved comes queue far isInText ahead roomAt rooms text length at_ errorPosition toldFrom toldTo isWrong before (0 : Int32) u18 hq19) (cwV 1 hts gL_law_X5_reason rfl rfl rfl kdX5_reason ⟨Nat.le_of_ble_eq_true rfl, Nat.le_of_ble_eq_true rfl⟩) hK hA hw zLw_m 0 rfl rfl rfl rfl hl.1 rfl (Nat.le_of_ble_eq_true rfl) dL_law_1540 ⟨(by show _ ≤ 603072; omega), (by show _ ≤ 7207018; omega)⟩) rfl (fun H locs hw => ?_)
      refine lv_istore (lv' := [(7, .int u18.1), (6, .int u15.1), (0, .ref b), (1, .ref (ad 0)), (2, .ref (md 0)), (3, .ref ob), (4, .ref od), (5, .int i)]) hx hb dL_law_1543 hl (by decide) rfl (fun ls hl => ?_)
      refine lv_aload_n hx hb dL_law_1545 rfl (lv_at hl 4 rfl) ?_
      obtain ⟨u20, hq21, hF⟩ := zbd_t hF
      refine zgoI4 (w' := (zLw ad ob od md k sv kE kR fb ft fs rws nx ct ch ln u15.2 od_ u18.2 now saved hist kept reason detail isSaved comes queue far isInText ahead roomAt rooms text length at_ errorPosition toldFrom toldTo isWrong before)) hw zLw_m zLw_m hA (zV4 (As := []) (rest := []) ⟨hx, hb, hml, hown, hts⟩ (mX5_thrown l G k md H.size u18.2 now saved hist kept reason detail isSaved comes queue far isInText ahead roomAt rooms text length at_ errorPosition toldFrom toldTo isWrong before  u20 hq21) (cwV 0 hts gL_law_X5_thrown rfl rfl rfl kdX5_thrown ⟨Nat.le_of_ble_eq_true rfl, Nat.le_of_ble_eq_true rfl⟩) hK hA hw zLw_m 0 rfl rfl rfl rfl hl.1 rfl (Nat.le_of_ble_eq_true rfl) dL_law_1546 ⟨(by show _ ≤ 603072; omega), (by show _ ≤ 7207018; omega)⟩) rfl (fun H locs hw => ?_)
      refine lv_iload hx hb dL_law_1549 (lv_at hl 1 rfl) ?_
      refine lv_icmp_eq (tgt := 1556) hx hb dL_law_1551 (by decide) (fun hc => ?_) (fun hc => ?_)
      · have hF := zif_t hc hF
        refine lv_iload hx hb dL_law_1556 (lv_at hl 1 rfl) ?_
        refine lv_if_ne (tgt := 1573) hx hb dL_law_1558 (by decide) (fun hc => ?_) (fun hc => ?_)
        · have hF := zif_f hc hF
          refine lv_goto (tgt := 1789) hx hb dL_law_1573 (by decide) ?_
          obtain rfl := Option.some.inj hF
          refine W.widen (k := a1 + 8) (n := a2 + 48) (by omega) (by omega) ?_
          exact hk _ _ _ hw (lv_sub hl [2, 3, 4, 5, 6, 7] rfl)
        · have hF := zif_t hc hF
          refine lv_aload_n hx hb dL_law_1561 rfl (lv_at hl 5 rfl) ?_
          refine lv_iconst (v := (0 : Int32)) hx hb dL_law_1562 (by decide) ?_
          obtain ⟨hi22, hF⟩ := zck_in hF
          refine va_lald hx hb hK.1 hw.1 12 0 rfl rfl hi22 dL_law_1563 ?_
          refine lv_iload hx hb dL_law_1564 (lv_at hl 0 rfl) ?_
          refine lv_i2l hx hb dL_law_1566 rfl ?_
          refine W.lcmp hx hb dL_law_1567 ?_
          refine lv_if_eq (tgt := 1573) hx hb dL_law_1568 (by decide) (fun hc => ?_) (fun hc => ?_)
          · have hF := zif_t hc hF
            refine lv_goto (tgt := 1789) hx hb dL_law_1573 (by decide) ?_
            obtain rfl := Option.some.inj hF
            refine W.widen (k := a1 + 8) (n := a2 + 48) (by omega) (by omega) ?_
            exact hk _ _ _ hw (lv_sub hl [2, 3, 4, 5, 6, 7] rfl)
          · have hF := zif_f hc hF
            refine lv_iconst (v := (0 : Int32)) hx hb dL_law_1571 (by decide) ?_
            obtain rfl := Option.some.inj hF
            exact absurd h1 (show ¬ ((0 : Int32)) = 1 by decide)
      · have hF := zif_f hc hF
        refine lv_iconst (v := (0 : Int32)) hx hb dL_law_1554 (by decide) ?_
        obtain rfl := Option.some.inj hF
        exact absurd h1 (show ¬ ((0 : Int32)) = 1 by decide)
    · have hF := zif_f hc hF
      refine lv_iconst (v := (1 : Int32)) hx hb dL_law_1535 (by decide) ?_
      refine lv_goto (tgt := 1540) hx hb dL_law_1536 (by decide) ?_
      obtain ⟨u23, hq24, hF⟩ := zbd_t hF
      refine zgoI4 (w' := (zLw ad ob od md k sv kE kR fb ft fs rws nx ct ch ln u15.2 od_ u23.2 now saved hist kept reason detail isSaved comes queue far isInText ahead roomAt rooms text length at_ errorPosition toldFrom toldTo isWrong before)) hw zLw_m zLw_m hA (zV4 (As := [.int (1 : Int32)]) (rest := []) ⟨hx, hb, hml, hown, hts⟩ (mX5_reason l G k md H.size thrown now saved hist kept reason detail isSaved comes queue far isInText ahead roomAt rooms text length at_ errorPosition toldFrom toldTo isWrong before (1 : Int32) u23 hq24) (cwV 1 hts gL_law_X5_reason rfl rfl rfl kdX5_reason ⟨Nat.le_of_ble_eq_true rfl, Nat.le_of_ble_eq_true rfl⟩) hK hA hw zLw_m 0 rfl rfl rfl rfl hl.1 rfl (Nat.le_of_ble_eq_true rfl) dL_law_1540 ⟨(by show _ ≤ 603072; omega), (by show _ ≤ 7207018; omega)⟩) rfl (fun H locs hw => ?_)
      refine lv_istore (lv' := [(7, .int u23.1), (6, .int u15.1), (0, .ref b), (1, .ref (ad 0)), (2, .ref (md 0)), (3, .ref ob), (4, .ref od), (5, .int i)]) hx hb dL_law_1543 hl (by decide) rfl (fun ls hl => ?_)
      refine lv_aload_n hx hb dL_law_1545 rfl (lv_at hl 4 rfl) ?_
      obtain ⟨u25, hq26, hF⟩ := zbd_t hF
      refine zgoI4 (w' := (zLw ad ob od md k sv kE kR fb ft fs rws nx ct ch ln u15.2 od_ u23.2 now saved hist kept reason detail isSaved comes queue far isInText ahead roomAt rooms text length at_ errorPosition toldFrom toldTo isWrong before)) hw zLw_m zLw_m hA (zV4 (As := []) (rest := []) ⟨hx, hb, hml, hown, hts⟩ (mX5_thrown l G k md H.size u23.2 now saved hist kept reason detail isSaved comes queue far isInText ahead roomAt rooms text length at_ errorPosition toldFrom toldTo isWrong before  u25 hq26) (cwV 0 hts gL_law_X5_thrown rfl rfl rfl kdX5_thrown ⟨Nat.le_of_ble_eq_true rfl, Nat.le_of_ble_eq_true rfl⟩) hK hA hw zLw_m 0 rfl rfl rfl rfl hl.1 rfl (Nat.le_of_ble_eq_true rfl) dL_law_1546 ⟨(by show _ ≤ 603072; omega), (by show _ ≤ 7207018; omega)⟩) rfl (fun H locs hw => ?_)
      refine lv_iload hx hb dL_law_1549 (lv_at hl 1 rfl) ?_
      refine lv_icmp_eq (tgt := 1556) hx hb dL_law_1551 (by decide) (fun hc => ?_) (fun hc => ?_)
      · have hF := zif_t hc hF
        refine lv_iload hx hb dL_law_1556 (lv_at hl 1 rfl) ?_
        refine lv_if_ne (tgt := 1573) hx hb dL_law_1558 (by decide) (fun hc => ?_) (fun hc => ?_)
        · have hF := zif_f hc hF
          refine lv_goto (tgt := 1789) hx hb dL_law_1573 (by decide) ?_
          obtain rfl := Option.some.inj hF
          refine W.widen (k := a1 + 8) (n := a2 + 48) (by omega) (by omega) ?_
          exact hk _ _ _ hw (lv_sub hl [2, 3, 4, 5, 6, 7] rfl)
        · have hF := zif_t hc hF
          refine lv_aload_n hx hb dL_law_1561 rfl (lv_at hl 5 rfl) ?_
          refine lv_iconst (v := (0 : Int32)) hx hb dL_law_1562 (by decide) ?_
          obtain ⟨hi27, hF⟩ := zck_in hF
          refine va_lald hx hb hK.1 hw.1 12 0 rfl rfl hi27 dL_law_1563 ?_
          refine lv_iload hx hb dL_law_1564 (lv_at hl 0 rfl) ?_
          refine lv_i2l hx hb dL_law_1566 rfl ?_
          refine W.lcmp hx hb dL_law_1567 ?_
          refine lv_if_eq (tgt := 1573) hx hb dL_law_1568 (by decide) (fun hc => ?_) (fun hc => ?_)
          · have hF := zif_t hc hF
            refine lv_goto (tgt := 1789) hx hb dL_law_1573 (by decide) ?_
            obtain rfl := Option.some.inj hF
            refine W.widen (k := a1 + 8) (n := a2 + 48) (by omega) (by omega) ?_
            exact hk _ _ _ hw (lv_sub hl [2, 3, 4, 5, 6, 7] rfl)
          · have hF := zif_f hc hF
            refine lv_iconst (v := (0 : Int32)) hx hb dL_law_1571 (by decide) ?_
            obtain rfl := Option.some.inj hF
            exact absurd h1 (show ¬ ((0 : Int32)) = 1 by decide)
      · have hF := zif_f hc hF
        refine lv_iconst (v := (0 : Int32)) hx hb dL_law_1554 (by decide) ?_
        obtain rfl := Option.some.inj hF
        exact absurd h1 (show ¬ ((0 : Int32)) = 1 by decide)
set_option maxHeartbeats 800000 in
set_option maxRecDepth 100000 in
theorem wCase24 {p : Program} {l : Launch} {e : Env} {s : State} {m : MethodId} {args : Array Value} {below : List Frame} {meth : Method} {c : Code} {A : Nat → Prop} {Q : State → Prop} {G : va_G} {k : Nat → ClassId} {ad : Nat → Nat} {ob od : Nat} {md : Nat → Nat} {b L a1 a2 : Nat} {xs : Nat → Int32} {i : Int32} {sv : Int32} {kE : Int32} {kR : Int32} {fb : Nat → Int64} {ft : Nat → Int64} {fs : Nat → Int64} {rws : Nat → Int64} {nx : Int32} {ct : Int32} {ch : Nat → Int32} {ln : Int32} {oo : Nat → Int64} {od_ : Nat → UInt64} {thrown : Int32} {now : Nat → Int32} {saved : Nat → Int32} {hist : Nat → Nat → Int32} {kept : Int32} {reason : Int32} {detail : Int32} {isSaved : Int32} {comes : Nat → Int32} {queue : Nat → Int32} {far : Nat → Int32} {isInText : Int32} {ahead : Nat → Int32} {roomAt : Nat → Int32} {rooms : Int32} {text : Nat → Int32} {length : Int32} {at_ : Int32} {errorPosition : Int32} {toldFrom : Int32} {toldTo : Int32} {isWrong : Int32} {before : Nat → Int32} {o : zSt} (C0 : zCx p s m args meth c wsL_law code RL ret 9) (hl9 : l.stackTraces = false) (hK : zKK G k A s s.heap) (hA : ∀ q : Nat, s.heap.size ≤ q → A q) (hX : va_X b L xs s s.heap) (hbl : b < s.heap.size) (hbA : ¬ A b) (hr1 : a1 + 8 ≤ 603072) (hr2 : a2 + 48 ≤ 7207018) (hF : fCase24 xs L i sv kE kR fb ft fs rws nx ct ch ln oo od_ thrown now saved hist kept reason detail isSaved comes queue far isInText ahead roomAt rooms text length at_ errorPosition toldFrom toldTo isWrong before = some o) (h1 : o.1 = 1)
    (hk : ∀ (H : Heap) (locs : List Loc) (ls : Array Slot), zWd G A s (zLw ad ob od md k o.2.1 o.2.2.1 o.2.2.2.1 o.2.2.2.2.1 o.2.2.2.2.2.1 o.2.2.2.2.2.2.1 o.2.2.2.2.2.2.2.1 o.2.2.2.2.2.2.2.2.1 o.2.2.2.2.2.2.2.2.2.1 o.2.2.2.2.2.2.2.2.2.2.1 o.2.2.2.2.2.2.2.2.2.2.2.1 o.2.2.2.2.2.2.2.2.2.2.2.2.1 o.2.2.2.2.2.2.2.2.2.2.2.2.2.1 o.2.2.2.2.2.2.2.2.2.2.2.2.2.2.1 o.2.2.2.2.2.2.2.2.2.2.2.2.2.2.2.1 o.2.2.2.2.2.2.2.2.2.2.2.2.2.2.2.2.1 o.2.2.2.2.2.2.2.2.2.2.2.2.2.2.2.2.2.1 o.2.2.2.2.2.2.2.2.2.2.2.2.2.2.2.2.2.2.1 o.2.2.2.2.2.2.2.2.2.2.2.2.2.2.2.2.2.2.2.1 o.2.2.2.2.2.2.2.2.2.2.2.2.2.2.2.2.2.2.2.2.1 o.2.2.2.2.2.2.2.2.2.2.2.2.2.2.2.2.2.2.2.2.2.1 o.2.2.2.2.2.2.2.2.2.2.2.2.2.2.2.2.2.2.2.2.2.2.1 o.2.2.2.2.2.2.2.2.2.2.2.2.2.2.2.2.2.2.2.2.2.2.2.1 o.2.2.2.2.2.2.2.2.2.2.2.2.2.2.2.2.2.2.2.2.2.2.2.2.1 o.2.2.2.2.2.2.2.2.2.2.2.2.2.2.2.2.2.2.2.2.2.2.2.2.2.1 o.2.2.2.2.2.2.2.2.2.2.2.2.2.2.2.2.2.2.2.2.2.2.2.2.2.2.1 o.2.2.2.2.2.2.2.2.2.2.2.2.2.2.2.2.2.2.2.2.2.2.2.2.2.2.2.1 o.2.2.2.2.2.2.2.2.2.2.2.2.2.2.2.2.2.2.2.2.2.2.2.2.2.2.2.2.1 o.2.2.2.2.2.2.2.2.2.2.2.2.2.2.2.2.2.2.2.2.2.2.2.2.2.2.2.2.2.1 o.2.2.2.2.2.2.2.2.2.2.2.2.2.2.2.2.2.2.2.2.2.2.2.2.2.2.2.2.2.2.1 o.2.2.2.2.2.2.2.2.2.2.2.2.2.2.2.2.2.2.2.2.2.2.2.2.2.2.2.2.2.2.2.1 o.2.2.2.2.2.2.2.2.2.2.2.2.2.2.2.2.2.2.2.2.2.2.2.2.2.2.2.2.2.2.2.2.1 o.2.2.2.2.2.2.2.2.2.2.2.2.2.2.2.2.2.2.2.2.2.2.2.2.2.2.2.2.2.2.2.2.2.1 o.2.2.2.2.2.2.2.2.2.2.2.2.2.2.2.2.2.2.2.2.2.2.2.2.2.2.2.2.2.2.2.2.2.2.1 o.2.2.2.2.2.2.2.2.2.2.2.2.2.2.2.2.2.2.2.2.2.2.2.2.2.2.2.2.2.2.2.2.2.2.2.1 o.2.2.2.2.2.2.2.2.2.2.2.2.2.2.2.2.2.2.2.2.2.2.2.2.2.2.2.2.2.2.2.2.2.2.2.2) H locs → lv_has ls 9 [(0, .ref b), (1, .ref (ad 0)), (2, .ref (md 0)), (3, .ref ob), (4, .ref od), (5, .int i)] → W p l e room_1 s m args below meth c H locs (a1 + 8) (a2 + 48) Q (F0 m 1789 ls [])) :
    ∀ (H : Heap) (locs : List Loc) (ls : Array Slot), zWd G A s (zLw ad ob od md k sv kE kR fb ft fs rws nx ct ch ln oo od_ thrown now saved hist kept reason detail isSaved comes queue far isInText ahead roomAt rooms text length at_ errorPosition toldFrom toldTo isWrong before) H locs → lv_has ls 9 [(0, .ref b), (1, .ref (ad 0)), (2, .ref (md 0)), (3, .ref ob), (4, .ref od), (5, .int i)] → W p l e room_1 s m args below meth c H locs a1 a2 Q (F0 m 1576 ls []) := by
  obtain ⟨hx, hb, hr, hml, hown, hts, hlocks⟩ := id C0
  intro H locs ls hw hl
  unfold fCase24 at hF
  refine lv_aload_n hx hb dL_law_1576 rfl (lv_at hl 1 rfl) ?_
  refine lv_aload_n hx hb dL_law_1577 rfl (lv_at hl 0 rfl) ?_
  refine lv_iload hx hb dL_law_1578 (lv_at hl 5 rfl) ?_
  refine lv_iconst (v := (1 : Int32)) hx hb dL_law_1580 (by decide) ?_
  refine lv_iadd hx hb dL_law_1581 ?_
  obtain ⟨hi1, hF⟩ := zck_in hF
  refine va_sld hx hb hX hbl hbA hw.2.2 hi1 dL_law_1582 ?_
  refine lv_aload_n hx hb dL_law_1583 rfl (lv_at hl 3 rfl) ?_
  obtain ⟨u2, hq3, hF⟩ := zbd_t hF
  refine zgoI4 (w' := (zLw ad ob od md k sv kE kR fb ft fs rws nx ct ch ln u2.2 od_ thrown now saved hist kept reason detail isSaved comes queue far isInText ahead roomAt rooms text length at_ errorPosition toldFrom toldTo isWrong before)) hw zLw_co zLw_co hA (zSW4 (As := [.ref (ad 0), .int (xs (i + (1 : Int32)).toNatClampNeg), .ref ob]) (rest := []) ⟨hx, hb, hml, hown, hts⟩ (mL_picture l hl9 G k ad ob H.size sv kE kR fb ft fs rws nx ct ch ln oo (xs (i + (1 : Int32)).toNatClampNeg) u2 hq3) (vx_cwSW 3 hts gL_law_L_picture rfl rfl rfl kdL_picture ⟨Nat.le_of_ble_eq_true rfl, Nat.le_of_ble_eq_true rfl⟩) hK hA hw zLw_co rfl hl.1 rfl (Nat.le_of_ble_eq_true rfl) dL_law_1584 ⟨(by show _ ≤ 603072; omega), (by show _ ≤ 7207018; omega)⟩) rfl (fun H locs hw => ?_)
  refine lv_istore (lv' := [(6, .int u2.1), (0, .ref b), (1, .ref (ad 0)), (2, .ref (md 0)), (3, .ref ob), (4, .ref od), (5, .int i)]) hx hb dL_law_1587 hl (by decide) rfl (fun ls hl => ?_)
  refine lv_aload_n hx hb dL_law_1589 rfl (lv_at hl 3 rfl) ?_
  refine lv_aload_n hx hb dL_law_1590 rfl (lv_at hl 1 rfl) ?_
  refine lv_iload hx hb dL_law_1591 (lv_at hl 6 rfl) ?_
  refine lv_iconst (v := (1 : Int32)) hx hb dL_law_1593 (by decide) ?_
  refine lv_iadd hx hb dL_law_1594 ?_
  obtain ⟨hi4, hF⟩ := zck_in hF
  refine va_sld hx hb hX hbl hbA hw.2.2 hi4 dL_law_1595 ?_
  obtain ⟨u5, hq6, hF⟩ := zbd_t hF
  refine zgoI4 (w' := (zLw ad ob od md k sv kE kR fb ft fs rws nx ct ch ln u2.2 od_ u5.2 now saved hist kept reason detail isSaved comes queue far isInText ahead roomAt rooms text length at_ errorPosition toldFrom toldTo isWrong before)) hw zLw_m zLw_m hA (zV4 (As := [.int (xs (i + (1 : Int32)).toNatClampNeg)]) (rest := []) ⟨hx, hb, hml, hown, hts⟩ (mX5_picture l G k md H.size thrown now saved hist kept reason detail isSaved comes queue far isInText ahead roomAt rooms text length at_ errorPosition toldFrom toldTo isWrong before (xs (i + (1 : Int32)).toNatClampNeg) u5 hq6) (cwV 1 hts gL_law_X5_picture rfl rfl rfl kdX5_picture ⟨Nat.le_of_ble_eq_true rfl, Nat.le_of_ble_eq_true rfl⟩) hK hA hw zLw_m 0 rfl rfl rfl rfl hl.1 rfl (Nat.le_of_ble_eq_true rfl) dL_law_1596 ⟨(by show _ ≤ 603072; omega), (by show _ ≤ 7207018; omega)⟩) rfl (fun H locs hw => ?_)
  refine lv_istore (lv' := [(7, .int u5.1), (6, .int u2.1), (0, .ref b), (1, .ref (ad 0)), (2, .ref (md 0)), (3, .ref ob), (4, .ref od), (5, .int i)]) hx hb dL_law_1599 hl (by decide) rfl (fun ls hl => ?_)
  refine lv_aload_n hx hb dL_law_1601 rfl (lv_at hl 4 rfl) ?_
  obtain ⟨u7, hq8, hF⟩ := zbd_t hF
  refine zgoI4 (w' := (zLw ad ob od md k sv kE kR fb ft fs rws nx ct ch ln u2.2 od_ u5.2 now saved hist kept reason detail isSaved comes queue far isInText ahead roomAt rooms text length at_ errorPosition toldFrom toldTo isWrong before)) hw zLw_m zLw_m hA (zV4 (As := []) (rest := []) ⟨hx, hb, hml, hown, hts⟩ (mX5_thrown l G k md H.size u5.2 now saved hist kept reason detail isSaved comes queue far isInText ahead roomAt rooms text length at_ errorPosition toldFrom toldTo isWrong before  u7 hq8) (cwV 0 hts gL_law_X5_thrown rfl rfl rfl kdX5_thrown ⟨Nat.le_of_ble_eq_true rfl, Nat.le_of_ble_eq_true rfl⟩) hK hA hw zLw_m 0 rfl rfl rfl rfl hl.1 rfl (Nat.le_of_ble_eq_true rfl) dL_law_1602 ⟨(by show _ ≤ 603072; omega), (by show _ ≤ 7207018; omega)⟩) rfl (fun H locs hw => ?_)
  refine lv_iload hx hb dL_law_1605 (lv_at hl 1 rfl) ?_
  refine lv_icmp_eq (tgt := 1612) hx hb dL_law_1607 (by decide) (fun hc => ?_) (fun hc => ?_)
  · have hF := zif_t hc hF
    refine lv_iload hx hb dL_law_1612 (lv_at hl 1 rfl) ?_
    refine lv_if_ne (tgt := 1629) hx hb dL_law_1614 (by decide) (fun hc => ?_) (fun hc => ?_)
    · have hF := zif_f hc hF
      refine lv_goto (tgt := 1789) hx hb dL_law_1629 (by decide) ?_
      obtain rfl := Option.some.inj hF
      refine W.widen (k := a1 + 8) (n := a2 + 48) (by omega) (by omega) ?_
      exact hk _ _ _ hw (lv_sub hl [2, 3, 4, 5, 6, 7] rfl)
    · have hF := zif_t hc hF
      refine lv_aload_n hx hb dL_law_1617 rfl (lv_at hl 5 rfl) ?_
      refine lv_iconst (v := (0 : Int32)) hx hb dL_law_1618 (by decide) ?_
      obtain ⟨hi9, hF⟩ := zck_in hF
      refine va_lald hx hb hK.1 hw.1 12 0 rfl rfl hi9 dL_law_1619 ?_
      refine lv_iload hx hb dL_law_1620 (lv_at hl 0 rfl) ?_
      refine lv_i2l hx hb dL_law_1622 rfl ?_
      refine W.lcmp hx hb dL_law_1623 ?_
      refine lv_if_eq (tgt := 1629) hx hb dL_law_1624 (by decide) (fun hc => ?_) (fun hc => ?_)
      · have hF := zif_t hc hF
        refine lv_goto (tgt := 1789) hx hb dL_law_1629 (by decide) ?_
        obtain rfl := Option.some.inj hF
        refine W.widen (k := a1 + 8) (n := a2 + 48) (by omega) (by omega) ?_
        exact hk _ _ _ hw (lv_sub hl [2, 3, 4, 5, 6, 7] rfl)
      · have hF := zif_f hc hF
        refine lv_iconst (v := (0 : Int32)) hx hb dL_law_1627 (by decide) ?_
        obtain rfl := Option.some.inj hF
        exact absurd h1 (show ¬ ((0 : Int32)) = 1 by decide)
  · have hF := zif_f hc hF
    refine lv_iconst (v := (0 : Int32)) hx hb dL_law_1610 (by decide) ?_
    obtain rfl := Option.some.inj hF
    exact absurd h1 (show ¬ ((0 : Int32)) = 1 by decide)
set_option maxHeartbeats 800000 in
set_option maxRecDepth 100000 in
theorem wCase25 {p : Program} {l : Launch} {e : Env} {s : State} {m : MethodId} {args : Array Value} {below : List Frame} {meth : Method} {c : Code} {A : Nat → Prop} {Q : State → Prop} {G : va_G} {k : Nat → ClassId} {ad : Nat → Nat} {ob od : Nat} {md : Nat → Nat} {b L a1 a2 : Nat} {xs : Nat → Int32} {i : Int32} {sv : Int32} {kE : Int32} {kR : Int32} {fb : Nat → Int64} {ft : Nat → Int64} {fs : Nat → Int64} {rws : Nat → Int64} {nx : Int32} {ct : Int32} {ch : Nat → Int32} {ln : Int32} {oo : Nat → Int64} {od_ : Nat → UInt64} {thrown : Int32} {now : Nat → Int32} {saved : Nat → Int32} {hist : Nat → Nat → Int32} {kept : Int32} {reason : Int32} {detail : Int32} {isSaved : Int32} {comes : Nat → Int32} {queue : Nat → Int32} {far : Nat → Int32} {isInText : Int32} {ahead : Nat → Int32} {roomAt : Nat → Int32} {rooms : Int32} {text : Nat → Int32} {length : Int32} {at_ : Int32} {errorPosition : Int32} {toldFrom : Int32} {toldTo : Int32} {isWrong : Int32} {before : Nat → Int32} {o : zSt} (C0 : zCx p s m args meth c wsL_law code RL ret 9) (hl9 : l.stackTraces = false) (hK : zKK G k A s s.heap) (hA : ∀ q : Nat, s.heap.size ≤ q → A q) (hX : va_X b L xs s s.heap) (hbl : b < s.heap.size) (hbA : ¬ A b) (hr1 : a1 + 8 ≤ 603072) (hr2 : a2 + 48 ≤ 7207018) (hF : fCase25 xs L i sv kE kR fb ft fs rws nx ct ch ln oo od_ thrown now saved hist kept reason detail isSaved comes queue far isInText ahead roomAt rooms text length at_ errorPosition toldFrom toldTo isWrong before = some o) (h1 : o.1 = 1)
    (hk : ∀ (H : Heap) (locs : List Loc) (ls : Array Slot), zWd G A s (zLw ad ob od md k o.2.1 o.2.2.1 o.2.2.2.1 o.2.2.2.2.1 o.2.2.2.2.2.1 o.2.2.2.2.2.2.1 o.2.2.2.2.2.2.2.1 o.2.2.2.2.2.2.2.2.1 o.2.2.2.2.2.2.2.2.2.1 o.2.2.2.2.2.2.2.2.2.2.1 o.2.2.2.2.2.2.2.2.2.2.2.1 o.2.2.2.2.2.2.2.2.2.2.2.2.1 o.2.2.2.2.2.2.2.2.2.2.2.2.2.1 o.2.2.2.2.2.2.2.2.2.2.2.2.2.2.1 o.2.2.2.2.2.2.2.2.2.2.2.2.2.2.2.1 o.2.2.2.2.2.2.2.2.2.2.2.2.2.2.2.2.1 o.2.2.2.2.2.2.2.2.2.2.2.2.2.2.2.2.2.1 o.2.2.2.2.2.2.2.2.2.2.2.2.2.2.2.2.2.2.1 o.2.2.2.2.2.2.2.2.2.2.2.2.2.2.2.2.2.2.2.1 o.2.2.2.2.2.2.2.2.2.2.2.2.2.2.2.2.2.2.2.2.1 o.2.2.2.2.2.2.2.2.2.2.2.2.2.2.2.2.2.2.2.2.2.1 o.2.2.2.2.2.2.2.2.2.2.2.2.2.2.2.2.2.2.2.2.2.2.1 o.2.2.2.2.2.2.2.2.2.2.2.2.2.2.2.2.2.2.2.2.2.2.2.1 o.2.2.2.2.2.2.2.2.2.2.2.2.2.2.2.2.2.2.2.2.2.2.2.2.1 o.2.2.2.2.2.2.2.2.2.2.2.2.2.2.2.2.2.2.2.2.2.2.2.2.2.1 o.2.2.2.2.2.2.2.2.2.2.2.2.2.2.2.2.2.2.2.2.2.2.2.2.2.2.1 o.2.2.2.2.2.2.2.2.2.2.2.2.2.2.2.2.2.2.2.2.2.2.2.2.2.2.2.1 o.2.2.2.2.2.2.2.2.2.2.2.2.2.2.2.2.2.2.2.2.2.2.2.2.2.2.2.2.1 o.2.2.2.2.2.2.2.2.2.2.2.2.2.2.2.2.2.2.2.2.2.2.2.2.2.2.2.2.2.1 o.2.2.2.2.2.2.2.2.2.2.2.2.2.2.2.2.2.2.2.2.2.2.2.2.2.2.2.2.2.2.1 o.2.2.2.2.2.2.2.2.2.2.2.2.2.2.2.2.2.2.2.2.2.2.2.2.2.2.2.2.2.2.2.1 o.2.2.2.2.2.2.2.2.2.2.2.2.2.2.2.2.2.2.2.2.2.2.2.2.2.2.2.2.2.2.2.2.1 o.2.2.2.2.2.2.2.2.2.2.2.2.2.2.2.2.2.2.2.2.2.2.2.2.2.2.2.2.2.2.2.2.2.1 o.2.2.2.2.2.2.2.2.2.2.2.2.2.2.2.2.2.2.2.2.2.2.2.2.2.2.2.2.2.2.2.2.2.2.1 o.2.2.2.2.2.2.2.2.2.2.2.2.2.2.2.2.2.2.2.2.2.2.2.2.2.2.2.2.2.2.2.2.2.2.2.1 o.2.2.2.2.2.2.2.2.2.2.2.2.2.2.2.2.2.2.2.2.2.2.2.2.2.2.2.2.2.2.2.2.2.2.2.2) H locs → lv_has ls 9 [(0, .ref b), (1, .ref (ad 0)), (2, .ref (md 0)), (3, .ref ob), (4, .ref od), (5, .int i)] → W p l e room_1 s m args below meth c H locs (a1 + 8) (a2 + 48) Q (F0 m 1789 ls [])) :
    ∀ (H : Heap) (locs : List Loc) (ls : Array Slot), zWd G A s (zLw ad ob od md k sv kE kR fb ft fs rws nx ct ch ln oo od_ thrown now saved hist kept reason detail isSaved comes queue far isInText ahead roomAt rooms text length at_ errorPosition toldFrom toldTo isWrong before) H locs → lv_has ls 9 [(0, .ref b), (1, .ref (ad 0)), (2, .ref (md 0)), (3, .ref ob), (4, .ref od), (5, .int i)] → W p l e room_1 s m args below meth c H locs a1 a2 Q (F0 m 1632 ls []) := by
  obtain ⟨hx, hb, hr, hml, hown, hts, hlocks⟩ := id C0
  intro H locs ls hw hl
  unfold fCase25 at hF
  refine lv_aload_n hx hb dL_law_1632 rfl (lv_at hl 1 rfl) ?_
  refine lv_aload_n hx hb dL_law_1633 rfl (lv_at hl 0 rfl) ?_
  refine lv_iload hx hb dL_law_1634 (lv_at hl 5 rfl) ?_
  refine lv_iconst (v := (1 : Int32)) hx hb dL_law_1636 (by decide) ?_
  refine lv_iadd hx hb dL_law_1637 ?_
  obtain ⟨hi1, hF⟩ := zck_in hF
  refine va_sld hx hb hX hbl hbA hw.2.2 hi1 dL_law_1638 ?_
  refine lv_aload_n hx hb dL_law_1639 rfl (lv_at hl 3 rfl) ?_
  obtain ⟨u2, hq3, hF⟩ := zbd_t hF
  refine zgoI4 (w' := (zLw ad ob od md k sv kE kR fb ft fs rws nx ct ch ln u2.2 od_ thrown now saved hist kept reason detail isSaved comes queue far isInText ahead roomAt rooms text length at_ errorPosition toldFrom toldTo isWrong before)) hw zLw_co zLw_co hA (zSW4 (As := [.ref (ad 0), .int (xs (i + (1 : Int32)).toNatClampNeg), .ref ob]) (rest := []) ⟨hx, hb, hml, hown, hts⟩ (mL_account l hl9 G k ad ob H.size sv kE kR fb ft fs rws nx ct ch ln oo (xs (i + (1 : Int32)).toNatClampNeg) u2 hq3) (vx_cwSW 3 hts gL_law_L_account rfl rfl rfl kdL_account ⟨Nat.le_of_ble_eq_true rfl, Nat.le_of_ble_eq_true rfl⟩) hK hA hw zLw_co rfl hl.1 rfl (Nat.le_of_ble_eq_true rfl) dL_law_1640 ⟨(by show _ ≤ 603072; omega), (by show _ ≤ 7207018; omega)⟩) rfl (fun H locs hw => ?_)
  refine lv_istore (lv' := [(6, .int u2.1), (0, .ref b), (1, .ref (ad 0)), (2, .ref (md 0)), (3, .ref ob), (4, .ref od), (5, .int i)]) hx hb dL_law_1643 hl (by decide) rfl (fun ls hl => ?_)
  refine lv_aload_n hx hb dL_law_1645 rfl (lv_at hl 3 rfl) ?_
  refine lv_aload_n hx hb dL_law_1646 rfl (lv_at hl 1 rfl) ?_
  refine lv_iload hx hb dL_law_1647 (lv_at hl 6 rfl) ?_
  refine lv_iconst (v := (1 : Int32)) hx hb dL_law_1649 (by decide) ?_
  refine lv_iadd hx hb dL_law_1650 ?_
  obtain ⟨hi4, hF⟩ := zck_in hF
  refine va_sld hx hb hX hbl hbA hw.2.2 hi4 dL_law_1651 ?_
  obtain ⟨u5, hq6, hF⟩ := zbd_t hF
  refine zgoI4 (w' := (zLw ad ob od md k sv kE kR fb ft fs rws nx ct ch ln u2.2 od_ u5.2 now saved hist kept reason detail isSaved comes queue far isInText ahead roomAt rooms text length at_ errorPosition toldFrom toldTo isWrong before)) hw zLw_m zLw_m hA (zV4 (As := [.int (xs (i + (1 : Int32)).toNatClampNeg)]) (rest := []) ⟨hx, hb, hml, hown, hts⟩ (mX5_account l G k md H.size thrown now saved hist kept reason detail isSaved comes queue far isInText ahead roomAt rooms text length at_ errorPosition toldFrom toldTo isWrong before (xs (i + (1 : Int32)).toNatClampNeg) u5 hq6) (cwV 1 hts gL_law_X5_account rfl rfl rfl kdX5_account ⟨Nat.le_of_ble_eq_true rfl, Nat.le_of_ble_eq_true rfl⟩) hK hA hw zLw_m 0 rfl rfl rfl rfl hl.1 rfl (Nat.le_of_ble_eq_true rfl) dL_law_1652 ⟨(by show _ ≤ 603072; omega), (by show _ ≤ 7207018; omega)⟩) rfl (fun H locs hw => ?_)
  refine lv_istore (lv' := [(7, .int u5.1), (6, .int u2.1), (0, .ref b), (1, .ref (ad 0)), (2, .ref (md 0)), (3, .ref ob), (4, .ref od), (5, .int i)]) hx hb dL_law_1655 hl (by decide) rfl (fun ls hl => ?_)
  refine lv_aload_n hx hb dL_law_1657 rfl (lv_at hl 4 rfl) ?_
  obtain ⟨u7, hq8, hF⟩ := zbd_t hF
  refine zgoI4 (w' := (zLw ad ob od md k sv kE kR fb ft fs rws nx ct ch ln u2.2 od_ u5.2 now saved hist kept reason detail isSaved comes queue far isInText ahead roomAt rooms text length at_ errorPosition toldFrom toldTo isWrong before)) hw zLw_m zLw_m hA (zV4 (As := []) (rest := []) ⟨hx, hb, hml, hown, hts⟩ (mX5_thrown l G k md H.size u5.2 now saved hist kept reason detail isSaved comes queue far isInText ahead roomAt rooms text length at_ errorPosition toldFrom toldTo isWrong before  u7 hq8) (cwV 0 hts gL_law_X5_thrown rfl rfl rfl kdX5_thrown ⟨Nat.le_of_ble_eq_true rfl, Nat.le_of_ble_eq_true rfl⟩) hK hA hw zLw_m 0 rfl rfl rfl rfl hl.1 rfl (Nat.le_of_ble_eq_true rfl) dL_law_1658 ⟨(by show _ ≤ 603072; omega), (by show _ ≤ 7207018; omega)⟩) rfl (fun H locs hw => ?_)
  refine lv_iload hx hb dL_law_1661 (lv_at hl 1 rfl) ?_
  refine lv_icmp_eq (tgt := 1668) hx hb dL_law_1663 (by decide) (fun hc => ?_) (fun hc => ?_)
  · have hF := zif_t hc hF
    refine lv_iload hx hb dL_law_1668 (lv_at hl 1 rfl) ?_
    refine lv_if_ne (tgt := 1685) hx hb dL_law_1670 (by decide) (fun hc => ?_) (fun hc => ?_)
    · have hF := zif_f hc hF
      refine lv_goto (tgt := 1789) hx hb dL_law_1685 (by decide) ?_
      obtain rfl := Option.some.inj hF
      refine W.widen (k := a1 + 8) (n := a2 + 48) (by omega) (by omega) ?_
      exact hk _ _ _ hw (lv_sub hl [2, 3, 4, 5, 6, 7] rfl)
    · have hF := zif_t hc hF
      refine lv_aload_n hx hb dL_law_1673 rfl (lv_at hl 5 rfl) ?_
      refine lv_iconst (v := (0 : Int32)) hx hb dL_law_1674 (by decide) ?_
      obtain ⟨hi9, hF⟩ := zck_in hF
      refine va_lald hx hb hK.1 hw.1 12 0 rfl rfl hi9 dL_law_1675 ?_
      refine lv_iload hx hb dL_law_1676 (lv_at hl 0 rfl) ?_
      refine lv_i2l hx hb dL_law_1678 rfl ?_
      refine W.lcmp hx hb dL_law_1679 ?_
      refine lv_if_eq (tgt := 1685) hx hb dL_law_1680 (by decide) (fun hc => ?_) (fun hc => ?_)
      · have hF := zif_t hc hF
        refine lv_goto (tgt := 1789) hx hb dL_law_1685 (by decide) ?_
        obtain rfl := Option.some.inj hF
        refine W.widen (k := a1 + 8) (n := a2 + 48) (by omega) (by omega) ?_
        exact hk _ _ _ hw (lv_sub hl [2, 3, 4, 5, 6, 7] rfl)
      · have hF := zif_f hc hF
        refine lv_iconst (v := (0 : Int32)) hx hb dL_law_1683 (by decide) ?_
        obtain rfl := Option.some.inj hF
        exact absurd h1 (show ¬ ((0 : Int32)) = 1 by decide)
  · have hF := zif_f hc hF
    refine lv_iconst (v := (0 : Int32)) hx hb dL_law_1666 (by decide) ?_
    obtain rfl := Option.some.inj hF
    exact absurd h1 (show ¬ ((0 : Int32)) = 1 by decide)
set_option maxHeartbeats 800000 in
set_option maxRecDepth 100000 in
theorem wCase26 {p : Program} {l : Launch} {e : Env} {s : State} {m : MethodId} {args : Array Value} {below : List Frame} {meth : Method} {c : Code} {A : Nat → Prop} {Q : State → Prop} {G : va_G} {k : Nat → ClassId} {ad : Nat → Nat} {ob od : Nat} {md : Nat → Nat} {b L a1 a2 : Nat} {xs : Nat → Int32} {i : Int32} {sv : Int32} {kE : Int32} {kR : Int32} {fb : Nat → Int64} {ft : Nat → Int64} {fs : Nat → Int64} {rws : Nat → Int64} {nx : Int32} {ct : Int32} {ch : Nat → Int32} {ln : Int32} {oo : Nat → Int64} {od_ : Nat → UInt64} {thrown : Int32} {now : Nat → Int32} {saved : Nat → Int32} {hist : Nat → Nat → Int32} {kept : Int32} {reason : Int32} {detail : Int32} {isSaved : Int32} {comes : Nat → Int32} {queue : Nat → Int32} {far : Nat → Int32} {isInText : Int32} {ahead : Nat → Int32} {roomAt : Nat → Int32} {rooms : Int32} {text : Nat → Int32} {length : Int32} {at_ : Int32} {errorPosition : Int32} {toldFrom : Int32} {toldTo : Int32} {isWrong : Int32} {before : Nat → Int32} {o : zSt} (C0 : zCx p s m args meth c wsL_law code RL ret 9) (hl9 : l.stackTraces = false) (hK : zKK G k A s s.heap) (hA : ∀ q : Nat, s.heap.size ≤ q → A q) (hX : va_X b L xs s s.heap) (hbl : b < s.heap.size) (hbA : ¬ A b) (hr1 : a1 + 8 ≤ 603072) (hr2 : a2 + 48 ≤ 7207018) (hF : fCase26 xs L i sv kE kR fb ft fs rws nx ct ch ln oo od_ thrown now saved hist kept reason detail isSaved comes queue far isInText ahead roomAt rooms text length at_ errorPosition toldFrom toldTo isWrong before = some o) (h1 : o.1 = 1)
    (hk : ∀ (H : Heap) (locs : List Loc) (ls : Array Slot), zWd G A s (zLw ad ob od md k o.2.1 o.2.2.1 o.2.2.2.1 o.2.2.2.2.1 o.2.2.2.2.2.1 o.2.2.2.2.2.2.1 o.2.2.2.2.2.2.2.1 o.2.2.2.2.2.2.2.2.1 o.2.2.2.2.2.2.2.2.2.1 o.2.2.2.2.2.2.2.2.2.2.1 o.2.2.2.2.2.2.2.2.2.2.2.1 o.2.2.2.2.2.2.2.2.2.2.2.2.1 o.2.2.2.2.2.2.2.2.2.2.2.2.2.1 o.2.2.2.2.2.2.2.2.2.2.2.2.2.2.1 o.2.2.2.2.2.2.2.2.2.2.2.2.2.2.2.1 o.2.2.2.2.2.2.2.2.2.2.2.2.2.2.2.2.1 o.2.2.2.2.2.2.2.2.2.2.2.2.2.2.2.2.2.1 o.2.2.2.2.2.2.2.2.2.2.2.2.2.2.2.2.2.2.1 o.2.2.2.2.2.2.2.2.2.2.2.2.2.2.2.2.2.2.2.1 o.2.2.2.2.2.2.2.2.2.2.2.2.2.2.2.2.2.2.2.2.1 o.2.2.2.2.2.2.2.2.2.2.2.2.2.2.2.2.2.2.2.2.2.1 o.2.2.2.2.2.2.2.2.2.2.2.2.2.2.2.2.2.2.2.2.2.2.1 o.2.2.2.2.2.2.2.2.2.2.2.2.2.2.2.2.2.2.2.2.2.2.2.1 o.2.2.2.2.2.2.2.2.2.2.2.2.2.2.2.2.2.2.2.2.2.2.2.2.1 o.2.2.2.2.2.2.2.2.2.2.2.2.2.2.2.2.2.2.2.2.2.2.2.2.2.1 o.2.2.2.2.2.2.2.2.2.2.2.2.2.2.2.2.2.2.2.2.2.2.2.2.2.2.1 o.2.2.2.2.2.2.2.2.2.2.2.2.2.2.2.2.2.2.2.2.2.2.2.2.2.2.2.1 o.2.2.2.2.2.2.2.2.2.2.2.2.2.2.2.2.2.2.2.2.2.2.2.2.2.2.2.2.1 o.2.2.2.2.2.2.2.2.2.2.2.2.2.2.2.2.2.2.2.2.2.2.2.2.2.2.2.2.2.1 o.2.2.2.2.2.2.2.2.2.2.2.2.2.2.2.2.2.2.2.2.2.2.2.2.2.2.2.2.2.2.1 o.2.2.2.2.2.2.2.2.2.2.2.2.2.2.2.2.2.2.2.2.2.2.2.2.2.2.2.2.2.2.2.1 o.2.2.2.2.2.2.2.2.2.2.2.2.2.2.2.2.2.2.2.2.2.2.2.2.2.2.2.2.2.2.2.2.1 o.2.2.2.2.2.2.2.2.2.2.2.2.2.2.2.2.2.2.2.2.2.2.2.2.2.2.2.2.2.2.2.2.2.1 o.2.2.2.2.2.2.2.2.2.2.2.2.2.2.2.2.2.2.2.2.2.2.2.2.2.2.2.2.2.2.2.2.2.2.1 o.2.2.2.2.2.2.2.2.2.2.2.2.2.2.2.2.2.2.2.2.2.2.2.2.2.2.2.2.2.2.2.2.2.2.2.1 o.2.2.2.2.2.2.2.2.2.2.2.2.2.2.2.2.2.2.2.2.2.2.2.2.2.2.2.2.2.2.2.2.2.2.2.2) H locs → lv_has ls 9 [(0, .ref b), (1, .ref (ad 0)), (2, .ref (md 0)), (3, .ref ob), (4, .ref od), (5, .int i)] → W p l e room_1 s m args below meth c H locs (a1 + 8) (a2 + 48) Q (F0 m 1789 ls [])) :
    ∀ (H : Heap) (locs : List Loc) (ls : Array Slot), zWd G A s (zLw ad ob od md k sv kE kR fb ft fs rws nx ct ch ln oo od_ thrown now saved hist kept reason detail isSaved comes queue far isInText ahead roomAt rooms text length at_ errorPosition toldFrom toldTo isWrong before) H locs → lv_has ls 9 [(0, .ref b), (1, .ref (ad 0)), (2, .ref (md 0)), (3, .ref ob), (4, .ref od), (5, .int i)] → W p l e room_1 s m args below meth c H locs a1 a2 Q (F0 m 1688 ls []) := by
  obtain ⟨hx, hb, hr, hml, hown, hts, hlocks⟩ := id C0
  intro H locs ls hw hl
  unfold fCase26 at hF
  refine lv_aload_n hx hb dL_law_1688 rfl (lv_at hl 1 rfl) ?_
  refine lv_aload_n hx hb dL_law_1689 rfl (lv_at hl 3 rfl) ?_
  obtain ⟨u1, hq2, hF⟩ := zbd_t hF
  refine zgoI4 (w' := (zLw ad ob od md k sv kE kR u1.2.1 ft fs rws u1.2.2.1 u1.2.2.2.1 ch ln u1.2.2.2.2 od_ thrown now saved hist kept reason detail isSaved comes queue far isInText ahead roomAt rooms text length at_ errorPosition toldFrom toldTo isWrong before)) hw zLw_co zLw_co hA (zSW4 (As := [.ref (ad 0), .ref ob]) (rest := []) ⟨hx, hb, hml, hown, hts⟩ (mL_undo l hl9 G k ad ob H.size sv kE kR fb ft fs rws nx ct ch ln oo  u1 hq2) (vx_cwSW 2 hts gL_law_L_undo rfl rfl rfl kdL_undo ⟨Nat.le_of_ble_eq_true rfl, Nat.le_of_ble_eq_true rfl⟩) hK hA hw zLw_co rfl hl.1 rfl (Nat.le_of_ble_eq_true rfl) dL_law_1690 ⟨(by show _ ≤ 603072; omega), (by show _ ≤ 7207018; omega)⟩) rfl (fun H locs hw => ?_)
  refine lv_istore (lv' := [(6, .int u1.1), (0, .ref b), (1, .ref (ad 0)), (2, .ref (md 0)), (3, .ref ob), (4, .ref od), (5, .int i)]) hx hb dL_law_1693 hl (by decide) rfl (fun ls hl => ?_)
  refine lv_aload_n hx hb dL_law_1695 rfl (lv_at hl 3 rfl) ?_
  obtain ⟨u3, hq4, hF⟩ := zbd_t hF
  refine zgoI4 (w' := (zLw ad ob od md k sv kE kR u1.2.1 ft fs rws u1.2.2.1 u1.2.2.2.1 ch ln u1.2.2.2.2 od_ u3.2.1 u3.2.2.1 saved hist u3.2.2.2 reason detail isSaved comes queue far isInText ahead roomAt rooms text length at_ errorPosition toldFrom toldTo isWrong before)) hw zLw_m zLw_m hA (zV4 (As := []) (rest := []) ⟨hx, hb, hml, hown, hts⟩ (mX5_undo l G k md H.size thrown now saved hist kept reason detail isSaved comes queue far isInText ahead roomAt rooms text length at_ errorPosition toldFrom toldTo isWrong before  u3 hq4) (cwV 0 hts gL_law_X5_undo rfl rfl rfl kdX5_undo ⟨Nat.le_of_ble_eq_true rfl, Nat.le_of_ble_eq_true rfl⟩) hK hA hw zLw_m 0 rfl rfl rfl rfl hl.1 rfl (Nat.le_of_ble_eq_true rfl) dL_law_1696 ⟨(by show _ ≤ 603072; omega), (by show _ ≤ 7207018; omega)⟩) rfl (fun H locs hw => ?_)
  refine lv_istore (lv' := [(7, .int u3.1), (6, .int u1.1), (0, .ref b), (1, .ref (ad 0)), (2, .ref (md 0)), (3, .ref ob), (4, .ref od), (5, .int i)]) hx hb dL_law_1699 hl (by decide) rfl (fun ls hl => ?_)
  refine lv_aload_n hx hb dL_law_1701 rfl (lv_at hl 4 rfl) ?_
  obtain ⟨u5, hq6, hF⟩ := zbd_t hF
  refine zgoI4 (w' := (zLw ad ob od md k sv kE kR u1.2.1 ft fs rws u1.2.2.1 u1.2.2.2.1 ch ln u1.2.2.2.2 od_ u3.2.1 u3.2.2.1 saved hist u3.2.2.2 reason detail isSaved comes queue far isInText ahead roomAt rooms text length at_ errorPosition toldFrom toldTo isWrong before)) hw zLw_m zLw_m hA (zV4 (As := []) (rest := []) ⟨hx, hb, hml, hown, hts⟩ (mX5_thrown l G k md H.size u3.2.1 u3.2.2.1 saved hist u3.2.2.2 reason detail isSaved comes queue far isInText ahead roomAt rooms text length at_ errorPosition toldFrom toldTo isWrong before  u5 hq6) (cwV 0 hts gL_law_X5_thrown rfl rfl rfl kdX5_thrown ⟨Nat.le_of_ble_eq_true rfl, Nat.le_of_ble_eq_true rfl⟩) hK hA hw zLw_m 0 rfl rfl rfl rfl hl.1 rfl (Nat.le_of_ble_eq_true rfl) dL_law_1702 ⟨(by show _ ≤ 603072; omega), (by show _ ≤ 7207018; omega)⟩) rfl (fun H locs hw => ?_)
  refine lv_iload hx hb dL_law_1705 (lv_at hl 1 rfl) ?_
  refine lv_icmp_eq (tgt := 1712) hx hb dL_law_1707 (by decide) (fun hc => ?_) (fun hc => ?_)
  · have hF := zif_t hc hF
    refine lv_iload hx hb dL_law_1712 (lv_at hl 1 rfl) ?_
    refine lv_if_ne (tgt := 1729) hx hb dL_law_1714 (by decide) (fun hc => ?_) (fun hc => ?_)
    · have hF := zif_f hc hF
      refine lv_goto (tgt := 1789) hx hb dL_law_1729 (by decide) ?_
      obtain rfl := Option.some.inj hF
      refine W.widen (k := a1 + 8) (n := a2 + 48) (by omega) (by omega) ?_
      exact hk _ _ _ hw (lv_sub hl [2, 3, 4, 5, 6, 7] rfl)
    · have hF := zif_t hc hF
      refine lv_aload_n hx hb dL_law_1717 rfl (lv_at hl 5 rfl) ?_
      refine lv_iconst (v := (0 : Int32)) hx hb dL_law_1718 (by decide) ?_
      obtain ⟨hi7, hF⟩ := zck_in hF
      refine va_lald hx hb hK.1 hw.1 12 0 rfl rfl hi7 dL_law_1719 ?_
      refine lv_iload hx hb dL_law_1720 (lv_at hl 0 rfl) ?_
      refine lv_i2l hx hb dL_law_1722 rfl ?_
      refine W.lcmp hx hb dL_law_1723 ?_
      refine lv_if_eq (tgt := 1729) hx hb dL_law_1724 (by decide) (fun hc => ?_) (fun hc => ?_)
      · have hF := zif_t hc hF
        refine lv_goto (tgt := 1789) hx hb dL_law_1729 (by decide) ?_
        obtain rfl := Option.some.inj hF
        refine W.widen (k := a1 + 8) (n := a2 + 48) (by omega) (by omega) ?_
        exact hk _ _ _ hw (lv_sub hl [2, 3, 4, 5, 6, 7] rfl)
      · have hF := zif_f hc hF
        refine lv_iconst (v := (0 : Int32)) hx hb dL_law_1727 (by decide) ?_
        obtain rfl := Option.some.inj hF
        exact absurd h1 (show ¬ ((0 : Int32)) = 1 by decide)
  · have hF := zif_f hc hF
    refine lv_iconst (v := (0 : Int32)) hx hb dL_law_1710 (by decide) ?_
    obtain rfl := Option.some.inj hF
    exact absurd h1 (show ¬ ((0 : Int32)) = 1 by decide)
set_option maxHeartbeats 800000 in
set_option maxRecDepth 100000 in
theorem wCase27 {p : Program} {l : Launch} {e : Env} {s : State} {m : MethodId} {args : Array Value} {below : List Frame} {meth : Method} {c : Code} {A : Nat → Prop} {Q : State → Prop} {G : va_G} {k : Nat → ClassId} {ad : Nat → Nat} {ob od : Nat} {md : Nat → Nat} {b L a1 a2 : Nat} {xs : Nat → Int32} {i : Int32} {sv : Int32} {kE : Int32} {kR : Int32} {fb : Nat → Int64} {ft : Nat → Int64} {fs : Nat → Int64} {rws : Nat → Int64} {nx : Int32} {ct : Int32} {ch : Nat → Int32} {ln : Int32} {oo : Nat → Int64} {od_ : Nat → UInt64} {thrown : Int32} {now : Nat → Int32} {saved : Nat → Int32} {hist : Nat → Nat → Int32} {kept : Int32} {reason : Int32} {detail : Int32} {isSaved : Int32} {comes : Nat → Int32} {queue : Nat → Int32} {far : Nat → Int32} {isInText : Int32} {ahead : Nat → Int32} {roomAt : Nat → Int32} {rooms : Int32} {text : Nat → Int32} {length : Int32} {at_ : Int32} {errorPosition : Int32} {toldFrom : Int32} {toldTo : Int32} {isWrong : Int32} {before : Nat → Int32} {o : zSt} (C0 : zCx p s m args meth c wsL_law code RL ret 9) (hl9 : l.stackTraces = false) (hK : zKK G k A s s.heap) (hA : ∀ q : Nat, s.heap.size ≤ q → A q) (hX : va_X b L xs s s.heap) (hbl : b < s.heap.size) (hbA : ¬ A b) (hr1 : a1 + 8 ≤ 603072) (hr2 : a2 + 48 ≤ 7207018) (hF : fCase27 xs L i sv kE kR fb ft fs rws nx ct ch ln oo od_ thrown now saved hist kept reason detail isSaved comes queue far isInText ahead roomAt rooms text length at_ errorPosition toldFrom toldTo isWrong before = some o) (h1 : o.1 = 1)
    (hk : ∀ (H : Heap) (locs : List Loc) (ls : Array Slot), zWd G A s (zLw ad ob od md k o.2.1 o.2.2.1 o.2.2.2.1 o.2.2.2.2.1 o.2.2.2.2.2.1 o.2.2.2.2.2.2.1 o.2.2.2.2.2.2.2.1 o.2.2.2.2.2.2.2.2.1 o.2.2.2.2.2.2.2.2.2.1 o.2.2.2.2.2.2.2.2.2.2.1 o.2.2.2.2.2.2.2.2.2.2.2.1 o.2.2.2.2.2.2.2.2.2.2.2.2.1 o.2.2.2.2.2.2.2.2.2.2.2.2.2.1 o.2.2.2.2.2.2.2.2.2.2.2.2.2.2.1 o.2.2.2.2.2.2.2.2.2.2.2.2.2.2.2.1 o.2.2.2.2.2.2.2.2.2.2.2.2.2.2.2.2.1 o.2.2.2.2.2.2.2.2.2.2.2.2.2.2.2.2.2.1 o.2.2.2.2.2.2.2.2.2.2.2.2.2.2.2.2.2.2.1 o.2.2.2.2.2.2.2.2.2.2.2.2.2.2.2.2.2.2.2.1 o.2.2.2.2.2.2.2.2.2.2.2.2.2.2.2.2.2.2.2.2.1 o.2.2.2.2.2.2.2.2.2.2.2.2.2.2.2.2.2.2.2.2.2.1 o.2.2.2.2.2.2.2.2.2.2.2.2.2.2.2.2.2.2.2.2.2.2.1 o.2.2.2.2.2.2.2.2.2.2.2.2.2.2.2.2.2.2.2.2.2.2.2.1 o.2.2.2.2.2.2.2.2.2.2.2.2.2.2.2.2.2.2.2.2.2.2.2.2.1 o.2.2.2.2.2.2.2.2.2.2.2.2.2.2.2.2.2.2.2.2.2.2.2.2.2.1 o.2.2.2.2.2.2.2.2.2.2.2.2.2.2.2.2.2.2.2.2.2.2.2.2.2.2.1 o.2.2.2.2.2.2.2.2.2.2.2.2.2.2.2.2.2.2.2.2.2.2.2.2.2.2.2.1 o.2.2.2.2.2.2.2.2.2.2.2.2.2.2.2.2.2.2.2.2.2.2.2.2.2.2.2.2.1 o.2.2.2.2.2.2.2.2.2.2.2.2.2.2.2.2.2.2.2.2.2.2.2.2.2.2.2.2.2.1 o.2.2.2.2.2.2.2.2.2.2.2.2.2.2.2.2.2.2.2.2.2.2.2.2.2.2.2.2.2.2.1 o.2.2.2.2.2.2.2.2.2.2.2.2.2.2.2.2.2.2.2.2.2.2.2.2.2.2.2.2.2.2.2.1 o.2.2.2.2.2.2.2.2.2.2.2.2.2.2.2.2.2.2.2.2.2.2.2.2.2.2.2.2.2.2.2.2.1 o.2.2.2.2.2.2.2.2.2.2.2.2.2.2.2.2.2.2.2.2.2.2.2.2.2.2.2.2.2.2.2.2.2.1 o.2.2.2.2.2.2.2.2.2.2.2.2.2.2.2.2.2.2.2.2.2.2.2.2.2.2.2.2.2.2.2.2.2.2.1 o.2.2.2.2.2.2.2.2.2.2.2.2.2.2.2.2.2.2.2.2.2.2.2.2.2.2.2.2.2.2.2.2.2.2.2.1 o.2.2.2.2.2.2.2.2.2.2.2.2.2.2.2.2.2.2.2.2.2.2.2.2.2.2.2.2.2.2.2.2.2.2.2.2) H locs → lv_has ls 9 [(0, .ref b), (1, .ref (ad 0)), (2, .ref (md 0)), (3, .ref ob), (4, .ref od), (5, .int i)] → W p l e room_1 s m args below meth c H locs (a1 + 8) (a2 + 48) Q (F0 m 1789 ls [])) :
    ∀ (H : Heap) (locs : List Loc) (ls : Array Slot), zWd G A s (zLw ad ob od md k sv kE kR fb ft fs rws nx ct ch ln oo od_ thrown now saved hist kept reason detail isSaved comes queue far isInText ahead roomAt rooms text length at_ errorPosition toldFrom toldTo isWrong before) H locs → lv_has ls 9 [(0, .ref b), (1, .ref (ad 0)), (2, .ref (md 0)), (3, .ref ob), (4, .ref od), (5, .int i)] → W p l e room_1 s m args below meth c H locs a1 a2 Q (F0 m 1732 ls []) := by
  obtain ⟨hx, hb, hr, hml, hown, hts, hlocks⟩ := id C0
  intro H locs ls hw hl
  unfold fCase27 at hF
  refine lv_aload_n hx hb dL_law_1732 rfl (lv_at hl 1 rfl) ?_
  obtain ⟨u1, hq2, hF⟩ := zbd_t hF
  refine zgoI4 (w' := (zLw ad ob od md k u1.2.1 kE kR fb ft u1.2.2 rws nx ct ch ln oo od_ thrown now saved hist kept reason detail isSaved comes queue far isInText ahead roomAt rooms text length at_ errorPosition toldFrom toldTo isWrong before)) hw zLw_c zLw_c hA (zV4 (As := []) (rest := []) ⟨hx, hb, hml, hown, hts⟩ (mX4_save l G k ad H.size sv kE kR fb ft fs rws nx ct ch ln  u1 hq2) (cwV 0 hts gL_law_X4_save rfl rfl rfl kdX4_save ⟨Nat.le_of_ble_eq_true rfl, Nat.le_of_ble_eq_true rfl⟩) hK hA hw zLw_c 0 rfl rfl rfl rfl hl.1 rfl (Nat.le_of_ble_eq_true rfl) dL_law_1733 ⟨(by show _ ≤ 603072; omega), (by show _ ≤ 7207018; omega)⟩) rfl (fun H locs hw => ?_)
  refine lv_aload_n hx hb dL_law_1736 rfl (lv_at hl 2 rfl) ?_
  obtain ⟨u3, hq4, hF⟩ := zbd_t hF
  refine zgoI4 (w' := (zLw ad ob od md k u1.2.1 kE kR fb ft u1.2.2 rws nx ct ch ln oo od_ u3.2.1 now u3.2.2.1 hist kept reason detail u3.2.2.2 comes queue far isInText ahead roomAt rooms text length at_ errorPosition toldFrom toldTo isWrong before)) hw zLw_m zLw_m hA (zV4 (As := []) (rest := [.int u1.1]) ⟨hx, hb, hml, hown, hts⟩ (mX5_save l G k md H.size thrown now saved hist kept reason detail isSaved comes queue far isInText ahead roomAt rooms text length at_ errorPosition toldFrom toldTo isWrong before  u3 hq4) (cwV 0 hts gL_law_X5_save rfl rfl rfl kdX5_save ⟨Nat.le_of_ble_eq_true rfl, Nat.le_of_ble_eq_true rfl⟩) hK hA hw zLw_m 0 rfl rfl rfl rfl hl.1 rfl (Nat.le_of_ble_eq_true rfl) dL_law_1737 ⟨(by show _ ≤ 603072; omega), (by show _ ≤ 7207018; omega)⟩) rfl (fun H locs hw => ?_)
  refine lv_icmp_eq (tgt := 1789) hx hb dL_law_1740 (by decide) (fun hc => ?_) (fun hc => ?_)
  · have hF := zif_t hc hF
    obtain rfl := Option.some.inj hF
    refine W.widen (k := a1 + 8) (n := a2 + 48) (by omega) (by omega) ?_
    exact hk _ _ _ hw (lv_sub hl [0, 1, 2, 3, 4, 5] rfl)
  · have hF := zif_f hc hF
    refine lv_iconst (v := (0 : Int32)) hx hb dL_law_1743 (by decide) ?_
    obtain rfl := Option.some.inj hF
    exact absurd h1 (show ¬ ((0 : Int32)) = 1 by decide)
set_option maxHeartbeats 800000 in
set_option maxRecDepth 100000 in
theorem wCase28 {p : Program} {l : Launch} {e : Env} {s : State} {m : MethodId} {args : Array Value} {below : List Frame} {meth : Method} {c : Code} {A : Nat → Prop} {Q : State → Prop} {G : va_G} {k : Nat → ClassId} {ad : Nat → Nat} {ob od : Nat} {md : Nat → Nat} {b L a1 a2 : Nat} {xs : Nat → Int32} {i : Int32} {sv : Int32} {kE : Int32} {kR : Int32} {fb : Nat → Int64} {ft : Nat → Int64} {fs : Nat → Int64} {rws : Nat → Int64} {nx : Int32} {ct : Int32} {ch : Nat → Int32} {ln : Int32} {oo : Nat → Int64} {od_ : Nat → UInt64} {thrown : Int32} {now : Nat → Int32} {saved : Nat → Int32} {hist : Nat → Nat → Int32} {kept : Int32} {reason : Int32} {detail : Int32} {isSaved : Int32} {comes : Nat → Int32} {queue : Nat → Int32} {far : Nat → Int32} {isInText : Int32} {ahead : Nat → Int32} {roomAt : Nat → Int32} {rooms : Int32} {text : Nat → Int32} {length : Int32} {at_ : Int32} {errorPosition : Int32} {toldFrom : Int32} {toldTo : Int32} {isWrong : Int32} {before : Nat → Int32} {o : zSt} (C0 : zCx p s m args meth c wsL_law code RL ret 9) (hl9 : l.stackTraces = false) (hK : zKK G k A s s.heap) (hA : ∀ q : Nat, s.heap.size ≤ q → A q) (hX : va_X b L xs s s.heap) (hbl : b < s.heap.size) (hbA : ¬ A b) (hr1 : a1 + 8 ≤ 603072) (hr2 : a2 + 48 ≤ 7207018) (hF : fCase28 xs L i sv kE kR fb ft fs rws nx ct ch ln oo od_ thrown now saved hist kept reason detail isSaved comes queue far isInText ahead roomAt rooms text length at_ errorPosition toldFrom toldTo isWrong before = some o) (h1 : o.1 = 1)
    (hk : ∀ (H : Heap) (locs : List Loc) (ls : Array Slot), zWd G A s (zLw ad ob od md k o.2.1 o.2.2.1 o.2.2.2.1 o.2.2.2.2.1 o.2.2.2.2.2.1 o.2.2.2.2.2.2.1 o.2.2.2.2.2.2.2.1 o.2.2.2.2.2.2.2.2.1 o.2.2.2.2.2.2.2.2.2.1 o.2.2.2.2.2.2.2.2.2.2.1 o.2.2.2.2.2.2.2.2.2.2.2.1 o.2.2.2.2.2.2.2.2.2.2.2.2.1 o.2.2.2.2.2.2.2.2.2.2.2.2.2.1 o.2.2.2.2.2.2.2.2.2.2.2.2.2.2.1 o.2.2.2.2.2.2.2.2.2.2.2.2.2.2.2.1 o.2.2.2.2.2.2.2.2.2.2.2.2.2.2.2.2.1 o.2.2.2.2.2.2.2.2.2.2.2.2.2.2.2.2.2.1 o.2.2.2.2.2.2.2.2.2.2.2.2.2.2.2.2.2.2.1 o.2.2.2.2.2.2.2.2.2.2.2.2.2.2.2.2.2.2.2.1 o.2.2.2.2.2.2.2.2.2.2.2.2.2.2.2.2.2.2.2.2.1 o.2.2.2.2.2.2.2.2.2.2.2.2.2.2.2.2.2.2.2.2.2.1 o.2.2.2.2.2.2.2.2.2.2.2.2.2.2.2.2.2.2.2.2.2.2.1 o.2.2.2.2.2.2.2.2.2.2.2.2.2.2.2.2.2.2.2.2.2.2.2.1 o.2.2.2.2.2.2.2.2.2.2.2.2.2.2.2.2.2.2.2.2.2.2.2.2.1 o.2.2.2.2.2.2.2.2.2.2.2.2.2.2.2.2.2.2.2.2.2.2.2.2.2.1 o.2.2.2.2.2.2.2.2.2.2.2.2.2.2.2.2.2.2.2.2.2.2.2.2.2.2.1 o.2.2.2.2.2.2.2.2.2.2.2.2.2.2.2.2.2.2.2.2.2.2.2.2.2.2.2.1 o.2.2.2.2.2.2.2.2.2.2.2.2.2.2.2.2.2.2.2.2.2.2.2.2.2.2.2.2.1 o.2.2.2.2.2.2.2.2.2.2.2.2.2.2.2.2.2.2.2.2.2.2.2.2.2.2.2.2.2.1 o.2.2.2.2.2.2.2.2.2.2.2.2.2.2.2.2.2.2.2.2.2.2.2.2.2.2.2.2.2.2.1 o.2.2.2.2.2.2.2.2.2.2.2.2.2.2.2.2.2.2.2.2.2.2.2.2.2.2.2.2.2.2.2.1 o.2.2.2.2.2.2.2.2.2.2.2.2.2.2.2.2.2.2.2.2.2.2.2.2.2.2.2.2.2.2.2.2.1 o.2.2.2.2.2.2.2.2.2.2.2.2.2.2.2.2.2.2.2.2.2.2.2.2.2.2.2.2.2.2.2.2.2.1 o.2.2.2.2.2.2.2.2.2.2.2.2.2.2.2.2.2.2.2.2.2.2.2.2.2.2.2.2.2.2.2.2.2.2.1 o.2.2.2.2.2.2.2.2.2.2.2.2.2.2.2.2.2.2.2.2.2.2.2.2.2.2.2.2.2.2.2.2.2.2.2.1 o.2.2.2.2.2.2.2.2.2.2.2.2.2.2.2.2.2.2.2.2.2.2.2.2.2.2.2.2.2.2.2.2.2.2.2.2) H locs → lv_has ls 9 [(0, .ref b), (1, .ref (ad 0)), (2, .ref (md 0)), (3, .ref ob), (4, .ref od), (5, .int i)] → W p l e room_1 s m args below meth c H locs (a1 + 8) (a2 + 48) Q (F0 m 1789 ls [])) :
    ∀ (H : Heap) (locs : List Loc) (ls : Array Slot), zWd G A s (zLw ad ob od md k sv kE kR fb ft fs rws nx ct ch ln oo od_ thrown now saved hist kept reason detail isSaved comes queue far isInText ahead roomAt rooms text length at_ errorPosition toldFrom toldTo isWrong before) H locs → lv_has ls 9 [(0, .ref b), (1, .ref (ad 0)), (2, .ref (md 0)), (3, .ref ob), (4, .ref od), (5, .int i)] → W p l e room_1 s m args below meth c H locs a1 a2 Q (F0 m 1745 ls []) := by
  obtain ⟨hx, hb, hr, hml, hown, hts, hlocks⟩ := id C0
  intro H locs ls hw hl
  unfold fCase28 at hF
  refine lv_aload_n hx hb dL_law_1745 rfl (lv_at hl 1 rfl) ?_
  refine lv_aload_n hx hb dL_law_1746 rfl (lv_at hl 3 rfl) ?_
  obtain ⟨u1, hq2, hF⟩ := zbd_t hF
  refine zgoI4 (w' := (zLw ad ob od md k sv kE kR u1.2.1 ft fs rws nx u1.2.2.1 ch ln u1.2.2.2 od_ thrown now saved hist kept reason detail isSaved comes queue far isInText ahead roomAt rooms text length at_ errorPosition toldFrom toldTo isWrong before)) hw zLw_co zLw_co hA (zSW4 (As := [.ref (ad 0), .ref ob]) (rest := []) ⟨hx, hb, hml, hown, hts⟩ (mL_restore l hl9 G k ad ob H.size sv kE kR fb ft fs rws nx ct ch ln oo  u1 hq2) (vx_cwSW 2 hts gL_law_L_restore rfl rfl rfl kdL_restore ⟨Nat.le_of_ble_eq_true rfl, Nat.le_of_ble_eq_true rfl⟩) hK hA hw zLw_co rfl hl.1 rfl (Nat.le_of_ble_eq_true rfl) dL_law_1747 ⟨(by show _ ≤ 603072; omega), (by show _ ≤ 7207018; omega)⟩) rfl (fun H locs hw => ?_)
  refine lv_istore (lv' := [(6, .int u1.1), (0, .ref b), (1, .ref (ad 0)), (2, .ref (md 0)), (3, .ref ob), (4, .ref od), (5, .int i)]) hx hb dL_law_1750 hl (by decide) rfl (fun ls hl => ?_)
  refine lv_aload_n hx hb dL_law_1752 rfl (lv_at hl 3 rfl) ?_
  obtain ⟨u3, hq4, hF⟩ := zbd_t hF
  refine zgoI4 (w' := (zLw ad ob od md k sv kE kR u1.2.1 ft fs rws nx u1.2.2.1 ch ln u1.2.2.2 od_ u3.2.1 u3.2.2.1 saved hist u3.2.2.2 reason detail isSaved comes queue far isInText ahead roomAt rooms text length at_ errorPosition toldFrom toldTo isWrong before)) hw zLw_m zLw_m hA (zV4 (As := []) (rest := []) ⟨hx, hb, hml, hown, hts⟩ (mX5_restore l G k md H.size thrown now saved hist kept reason detail isSaved comes queue far isInText ahead roomAt rooms text length at_ errorPosition toldFrom toldTo isWrong before  u3 hq4) (cwV 0 hts gL_law_X5_restore rfl rfl rfl kdX5_restore ⟨Nat.le_of_ble_eq_true rfl, Nat.le_of_ble_eq_true rfl⟩) hK hA hw zLw_m 0 rfl rfl rfl rfl hl.1 rfl (Nat.le_of_ble_eq_true rfl) dL_law_1753 ⟨(by show _ ≤ 603072; omega), (by show _ ≤ 7207018; omega)⟩) rfl (fun H locs hw => ?_)
  refine lv_istore (lv' := [(7, .int u3.1), (6, .int u1.1), (0, .ref b), (1, .ref (ad 0)), (2, .ref (md 0)), (3, .ref ob), (4, .ref od), (5, .int i)]) hx hb dL_law_1756 hl (by decide) rfl (fun ls hl => ?_)
  refine lv_aload_n hx hb dL_law_1758 rfl (lv_at hl 4 rfl) ?_
  obtain ⟨u5, hq6, hF⟩ := zbd_t hF
  refine zgoI4 (w' := (zLw ad ob od md k sv kE kR u1.2.1 ft fs rws nx u1.2.2.1 ch ln u1.2.2.2 od_ u3.2.1 u3.2.2.1 saved hist u3.2.2.2 reason detail isSaved comes queue far isInText ahead roomAt rooms text length at_ errorPosition toldFrom toldTo isWrong before)) hw zLw_m zLw_m hA (zV4 (As := []) (rest := []) ⟨hx, hb, hml, hown, hts⟩ (mX5_thrown l G k md H.size u3.2.1 u3.2.2.1 saved hist u3.2.2.2 reason detail isSaved comes queue far isInText ahead roomAt rooms text length at_ errorPosition toldFrom toldTo isWrong before  u5 hq6) (cwV 0 hts gL_law_X5_thrown rfl rfl rfl kdX5_thrown ⟨Nat.le_of_ble_eq_true rfl, Nat.le_of_ble_eq_true rfl⟩) hK hA hw zLw_m 0 rfl rfl rfl rfl hl.1 rfl (Nat.le_of_ble_eq_true rfl) dL_law_1759 ⟨(by show _ ≤ 603072; omega), (by show _ ≤ 7207018; omega)⟩) rfl (fun H locs hw => ?_)
  refine lv_iload hx hb dL_law_1762 (lv_at hl 1 rfl) ?_
  refine lv_icmp_eq (tgt := 1769) hx hb dL_law_1764 (by decide) (fun hc => ?_) (fun hc => ?_)
  · have hF := zif_t hc hF
    refine lv_iload hx hb dL_law_1769 (lv_at hl 1 rfl) ?_
    refine lv_if_ne (tgt := 1786) hx hb dL_law_1771 (by decide) (fun hc => ?_) (fun hc => ?_)
    · have hF := zif_f hc hF
      refine lv_goto (tgt := 1789) hx hb dL_law_1786 (by decide) ?_
      obtain rfl := Option.some.inj hF
      refine W.widen (k := a1 + 8) (n := a2 + 48) (by omega) (by omega) ?_
      exact hk _ _ _ hw (lv_sub hl [2, 3, 4, 5, 6, 7] rfl)
    · have hF := zif_t hc hF
      refine lv_aload_n hx hb dL_law_1774 rfl (lv_at hl 5 rfl) ?_
      refine lv_iconst (v := (0 : Int32)) hx hb dL_law_1775 (by decide) ?_
      obtain ⟨hi7, hF⟩ := zck_in hF
      refine va_lald hx hb hK.1 hw.1 12 0 rfl rfl hi7 dL_law_1776 ?_
      refine lv_iload hx hb dL_law_1777 (lv_at hl 0 rfl) ?_
      refine lv_i2l hx hb dL_law_1779 rfl ?_
      refine W.lcmp hx hb dL_law_1780 ?_
      refine lv_if_eq (tgt := 1786) hx hb dL_law_1781 (by decide) (fun hc => ?_) (fun hc => ?_)
      · have hF := zif_t hc hF
        refine lv_goto (tgt := 1789) hx hb dL_law_1786 (by decide) ?_
        obtain rfl := Option.some.inj hF
        refine W.widen (k := a1 + 8) (n := a2 + 48) (by omega) (by omega) ?_
        exact hk _ _ _ hw (lv_sub hl [2, 3, 4, 5, 6, 7] rfl)
      · have hF := zif_f hc hF
        refine lv_iconst (v := (0 : Int32)) hx hb dL_law_1784 (by decide) ?_
        obtain rfl := Option.some.inj hF
        exact absurd h1 (show ¬ ((0 : Int32)) = 1 by decide)
  · have hF := zif_f hc hF
    refine lv_iconst (v := (0 : Int32)) hx hb dL_law_1767 (by decide) ?_
    obtain rfl := Option.some.inj hF
    exact absurd h1 (show ¬ ((0 : Int32)) = 1 by decide)

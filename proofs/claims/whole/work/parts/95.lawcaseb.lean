set_option maxHeartbeats 800000 in
set_option maxRecDepth 100000 in
theorem wCase10 {p : Program} {l : Launch} {e : Env} {s : State} {m : MethodId} {args : Array Value} {below : List Frame} {meth : Method} {c : Code} {A : Nat → Prop} {Q : State → Prop} {G : va_G} {k : Nat → ClassId} {ad : Nat → Nat} {ob od : Nat} {md : Nat → Nat} {b L a1 a2 : Nat} {xs : Nat → Int32} {i : Int32} {sv : Int32} {kE : Int32} {kR : Int32} {fb : Nat → Int64} {ft : Nat → Int64} {fs : Nat → Int64} {rws : Nat → Int64} {nx : Int32} {ct : Int32} {ch : Nat → Int32} {ln : Int32} {oo : Nat → Int64} {od_ : Nat → UInt64} {thrown : Int32} {now : Nat → Int32} {saved : Nat → Int32} {hist : Nat → Nat → Int32} {kept : Int32} {reason : Int32} {detail : Int32} {isSaved : Int32} {comes : Nat → Int32} {queue : Nat → Int32} {far : Nat → Int32} {isInText : Int32} {ahead : Nat → Int32} {roomAt : Nat → Int32} {rooms : Int32} {text : Nat → Int32} {length : Int32} {at_ : Int32} {errorPosition : Int32} {toldFrom : Int32} {toldTo : Int32} {isWrong : Int32} {before : Nat → Int32} {o : zSt} (C0 : zCx p s m args meth c wsL_law code RL ret 9) (hl9 : l.stackTraces = false) (hK : zKK G k A s s.heap) (hA : ∀ q : Nat, s.heap.size ≤ q → A q) (hX : va_X b L xs s s.heap) (hbl : b < s.heap.size) (hbA : ¬ A b) (hr1 : a1 + 8 ≤ 603072) (hr2 : a2 + 48 ≤ 7207018) (hF : fCase10 xs L i sv kE kR fb ft fs rws nx ct ch ln oo od_ thrown now saved hist kept reason detail isSaved comes queue far isInText ahead roomAt rooms text length at_ errorPosition toldFrom toldTo isWrong before = some o) (h1 : o.1 = 1)
    (hk : ∀ (H : Heap) (locs : List Loc) (ls : Array Slot), zWd G A s (zLw ad ob od md k o.2.1 o.2.2.1 o.2.2.2.1 o.2.2.2.2.1 o.2.2.2.2.2.1 o.2.2.2.2.2.2.1 o.2.2.2.2.2.2.2.1 o.2.2.2.2.2.2.2.2.1 o.2.2.2.2.2.2.2.2.2.1 o.2.2.2.2.2.2.2.2.2.2.1 o.2.2.2.2.2.2.2.2.2.2.2.1 o.2.2.2.2.2.2.2.2.2.2.2.2.1 o.2.2.2.2.2.2.2.2.2.2.2.2.2.1 o.2.2.2.2.2.2.2.2.2.2.2.2.2.2.1 o.2.2.2.2.2.2.2.2.2.2.2.2.2.2.2.1 o.2.2.2.2.2.2.2.2.2.2.2.2.2.2.2.2.1 o.2.2.2.2.2.2.2.2.2.2.2.2.2.2.2.2.2.1 o.2.2.2.2.2.2.2.2.2.2.2.2.2.2.2.2.2.2.1 o.2.2.2.2.2.2.2.2.2.2.2.2.2.2.2.2.2.2.2.1 o.2.2.2.2.2.2.2.2.2.2.2.2.2.2.2.2.2.2.2.2.1 o.2.2.2.2.2.2.2.2.2.2.2.2.2.2.2.2.2.2.2.2.2.1 o.2.2.2.2.2.2.2.2.2.2.2.2.2.2.2.2.2.2.2.2.2.2.1 o.2.2.2.2.2.2.2.2.2.2.2.2.2.2.2.2.2.2.2.2.2.2.2.1 o.2.2.2.2.2.2.2.2.2.2.2.2.2.2.2.2.2.2.2.2.2.2.2.2.1 o.2.2.2.2.2.2.2.2.2.2.2.2.2.2.2.2.2.2.2.2.2.2.2.2.2.1 o.2.2.2.2.2.2.2.2.2.2.2.2.2.2.2.2.2.2.2.2.2.2.2.2.2.2.1 o.2.2.2.2.2.2.2.2.2.2.2.2.2.2.2.2.2.2.2.2.2.2.2.2.2.2.2.1 o.2.2.2.2.2.2.2.2.2.2.2.2.2.2.2.2.2.2.2.2.2.2.2.2.2.2.2.2.1 o.2.2.2.2.2.2.2.2.2.2.2.2.2.2.2.2.2.2.2.2.2.2.2.2.2.2.2.2.2.1 o.2.2.2.2.2.2.2.2.2.2.2.2.2.2.2.2.2.2.2.2.2.2.2.2.2.2.2.2.2.2.1 o.2.2.2.2.2.2.2.2.2.2.2.2.2.2.2.2.2.2.2.2.2.2.2.2.2.2.2.2.2.2.2.1 o.2.2.2.2.2.2.2.2.2.2.2.2.2.2.2.2.2.2.2.2.2.2.2.2.2.2.2.2.2.2.2.2.1 o.2.2.2.2.2.2.2.2.2.2.2.2.2.2.2.2.2.2.2.2.2.2.2.2.2.2.2.2.2.2.2.2.2.1 o.2.2.2.2.2.2.2.2.2.2.2.2.2.2.2.2.2.2.2.2.2.2.2.2.2.2.2.2.2.2.2.2.2.2.1 o.2.2.2.2.2.2.2.2.2.2.2.2.2.2.2.2.2.2.2.2.2.2.2.2.2.2.2.2.2.2.2.2.2.2.2.1 o.2.2.2.2.2.2.2.2.2.2.2.2.2.2.2.2.2.2.2.2.2.2.2.2.2.2.2.2.2.2.2.2.2.2.2.2) H locs → lv_has ls 9 [(0, .ref b), (1, .ref (ad 0)), (2, .ref (md 0)), (3, .ref ob), (4, .ref od), (5, .int i)] → W p l e room_1 s m args below meth c H locs (a1 + 8) (a2 + 48) Q (F0 m 1789 ls [])) :
    ∀ (H : Heap) (locs : List Loc) (ls : Array Slot), zWd G A s (zLw ad ob od md k sv kE kR fb ft fs rws nx ct ch ln oo od_ thrown now saved hist kept reason detail isSaved comes queue far isInText ahead roomAt rooms text length at_ errorPosition toldFrom toldTo isWrong before) H locs → lv_has ls 9 [(0, .ref b), (1, .ref (ad 0)), (2, .ref (md 0)), (3, .ref ob), (4, .ref od), (5, .int i)] → W p l e room_1 s m args below meth c H locs a1 a2 Q (F0 m 717 ls []) := by
  obtain ⟨hx, hb, hr, hml, hown, hts, hlocks⟩ := id C0
  intro H locs ls hw hl
  unfold fCase10 at hF
  refine lv_aload_n hx hb dL_law_717 rfl (lv_at hl 1 rfl) ?_
  refine lv_aload_n hx hb dL_law_718 rfl (lv_at hl 0 rfl) ?_
  refine lv_iload hx hb dL_law_719 (lv_at hl 5 rfl) ?_
  refine lv_iconst (v := (1 : Int32)) hx hb dL_law_721 (by decide) ?_
  refine lv_iadd hx hb dL_law_722 ?_
  obtain ⟨hi1, hF⟩ := zck_in hF
  refine va_sld hx hb hX hbl hbA hw.2.2 hi1 dL_law_723 ?_
  refine lv_aload_n hx hb dL_law_724 rfl (lv_at hl 0 rfl) ?_
  refine lv_iload hx hb dL_law_725 (lv_at hl 5 rfl) ?_
  refine lv_iconst (v := (2 : Int32)) hx hb dL_law_727 (by decide) ?_
  refine lv_iadd hx hb dL_law_728 ?_
  obtain ⟨hi2, hF⟩ := zck_in hF
  refine va_sld hx hb hX hbl hbA hw.2.2 hi2 dL_law_729 ?_
  refine lv_aload_n hx hb dL_law_730 rfl (lv_at hl 3 rfl) ?_
  obtain ⟨u3, hq4, hF⟩ := zbd_t hF
  refine zgoI4 (w' := (zLw ad ob od md k sv kE kR fb u3.2.1 fs rws nx ct ch ln u3.2.2 od_ thrown now saved hist kept reason detail isSaved comes queue far isInText ahead roomAt rooms text length at_ errorPosition toldFrom toldTo isWrong before)) hw zLw_co zLw_co hA (zSW4 (As := [.ref (ad 0), .int (xs (i + (1 : Int32)).toNatClampNeg), .int (xs (i + (2 : Int32)).toNatClampNeg), .ref ob]) (rest := []) ⟨hx, hb, hml, hown, hts⟩ (mL_captures l hl9 G k ad ob H.size sv kE kR fb ft fs rws nx ct ch ln oo (xs (i + (1 : Int32)).toNatClampNeg) (xs (i + (2 : Int32)).toNatClampNeg) u3 hq4) (vx_cwSW 4 hts gL_law_L_captures rfl rfl rfl kdL_captures ⟨Nat.le_of_ble_eq_true rfl, Nat.le_of_ble_eq_true rfl⟩) hK hA hw zLw_co rfl hl.1 rfl (Nat.le_of_ble_eq_true rfl) dL_law_731 ⟨(by show _ ≤ 603072; omega), (by show _ ≤ 7207018; omega)⟩) rfl (fun H locs hw => ?_)
  refine lv_istore (lv' := [(6, .int u3.1), (0, .ref b), (1, .ref (ad 0)), (2, .ref (md 0)), (3, .ref ob), (4, .ref od), (5, .int i)]) hx hb dL_law_734 hl (by decide) rfl (fun ls hl => ?_)
  refine lv_aload_n hx hb dL_law_736 rfl (lv_at hl 3 rfl) ?_
  refine lv_aload_n hx hb dL_law_737 rfl (lv_at hl 1 rfl) ?_
  refine lv_iload hx hb dL_law_738 (lv_at hl 6 rfl) ?_
  refine lv_iconst (v := (1 : Int32)) hx hb dL_law_740 (by decide) ?_
  refine lv_iadd hx hb dL_law_741 ?_
  obtain ⟨hi5, hF⟩ := zck_in hF
  refine va_sld hx hb hX hbl hbA hw.2.2 hi5 dL_law_742 ?_
  refine lv_aload_n hx hb dL_law_743 rfl (lv_at hl 1 rfl) ?_
  refine lv_iload hx hb dL_law_744 (lv_at hl 6 rfl) ?_
  refine lv_iconst (v := (2 : Int32)) hx hb dL_law_746 (by decide) ?_
  refine lv_iadd hx hb dL_law_747 ?_
  obtain ⟨hi6, hF⟩ := zck_in hF
  refine va_sld hx hb hX hbl hbA hw.2.2 hi6 dL_law_748 ?_
  obtain ⟨u7, hq8, hF⟩ := zbd_t hF
  refine zgoI4 (w' := (zLw ad ob od md k sv kE kR fb u3.2.1 fs rws nx ct ch ln u3.2.2 od_ u7.2.1 u7.2.2.1 saved hist kept reason detail isSaved u7.2.2.2.1 u7.2.2.2.2.1 u7.2.2.2.2.2.1 isInText u7.2.2.2.2.2.2 roomAt rooms text length at_ errorPosition toldFrom toldTo isWrong before)) hw zLw_m zLw_m hA (zV4 (As := [.int (xs (i + (1 : Int32)).toNatClampNeg), .int (xs (i + (2 : Int32)).toNatClampNeg)]) (rest := []) ⟨hx, hb, hml, hown, hts⟩ (mX5_captures l G k md H.size thrown now saved hist kept reason detail isSaved comes queue far isInText ahead roomAt rooms text length at_ errorPosition toldFrom toldTo isWrong before (xs (i + (1 : Int32)).toNatClampNeg) (xs (i + (2 : Int32)).toNatClampNeg) u7 hq8) (cwV 2 hts gL_law_X5_captures rfl rfl rfl kdX5_captures ⟨Nat.le_of_ble_eq_true rfl, Nat.le_of_ble_eq_true rfl⟩) hK hA hw zLw_m 0 rfl rfl rfl rfl hl.1 rfl (Nat.le_of_ble_eq_true rfl) dL_law_749 ⟨(by show _ ≤ 603072; omega), (by show _ ≤ 7207018; omega)⟩) rfl (fun H locs hw => ?_)
  refine lv_istore (lv' := [(7, .int u7.1), (6, .int u3.1), (0, .ref b), (1, .ref (ad 0)), (2, .ref (md 0)), (3, .ref ob), (4, .ref od), (5, .int i)]) hx hb dL_law_752 hl (by decide) rfl (fun ls hl => ?_)
  refine lv_aload_n hx hb dL_law_754 rfl (lv_at hl 4 rfl) ?_
  obtain ⟨u9, hq10, hF⟩ := zbd_t hF
  refine zgoI4 (w' := (zLw ad ob od md k sv kE kR fb u3.2.1 fs rws nx ct ch ln u3.2.2 od_ u7.2.1 u7.2.2.1 saved hist kept reason detail isSaved u7.2.2.2.1 u7.2.2.2.2.1 u7.2.2.2.2.2.1 isInText u7.2.2.2.2.2.2 roomAt rooms text length at_ errorPosition toldFrom toldTo isWrong before)) hw zLw_m zLw_m hA (zV4 (As := []) (rest := []) ⟨hx, hb, hml, hown, hts⟩ (mX5_thrown l G k md H.size u7.2.1 u7.2.2.1 saved hist kept reason detail isSaved u7.2.2.2.1 u7.2.2.2.2.1 u7.2.2.2.2.2.1 isInText u7.2.2.2.2.2.2 roomAt rooms text length at_ errorPosition toldFrom toldTo isWrong before  u9 hq10) (cwV 0 hts gL_law_X5_thrown rfl rfl rfl kdX5_thrown ⟨Nat.le_of_ble_eq_true rfl, Nat.le_of_ble_eq_true rfl⟩) hK hA hw zLw_m 0 rfl rfl rfl rfl hl.1 rfl (Nat.le_of_ble_eq_true rfl) dL_law_755 ⟨(by show _ ≤ 603072; omega), (by show _ ≤ 7207018; omega)⟩) rfl (fun H locs hw => ?_)
  refine lv_iload hx hb dL_law_758 (lv_at hl 1 rfl) ?_
  refine lv_icmp_eq (tgt := 765) hx hb dL_law_760 (by decide) (fun hc => ?_) (fun hc => ?_)
  · have hF := zif_t hc hF
    refine lv_iload hx hb dL_law_765 (lv_at hl 1 rfl) ?_
    refine lv_if_ne (tgt := 782) hx hb dL_law_767 (by decide) (fun hc => ?_) (fun hc => ?_)
    · have hF := zif_f hc hF
      refine lv_goto (tgt := 1789) hx hb dL_law_782 (by decide) ?_
      obtain rfl := Option.some.inj hF
      refine W.widen (k := a1 + 8) (n := a2 + 48) (by omega) (by omega) ?_
      exact hk _ _ _ hw (lv_sub hl [2, 3, 4, 5, 6, 7] rfl)
    · have hF := zif_t hc hF
      refine lv_aload_n hx hb dL_law_770 rfl (lv_at hl 5 rfl) ?_
      refine lv_iconst (v := (0 : Int32)) hx hb dL_law_771 (by decide) ?_
      obtain ⟨hi11, hF⟩ := zck_in hF
      refine va_lald hx hb hK.1 hw.1 12 0 rfl rfl hi11 dL_law_772 ?_
      refine lv_iload hx hb dL_law_773 (lv_at hl 0 rfl) ?_
      refine lv_i2l hx hb dL_law_775 rfl ?_
      refine W.lcmp hx hb dL_law_776 ?_
      refine lv_if_eq (tgt := 782) hx hb dL_law_777 (by decide) (fun hc => ?_) (fun hc => ?_)
      · have hF := zif_t hc hF
        refine lv_goto (tgt := 1789) hx hb dL_law_782 (by decide) ?_
        obtain rfl := Option.some.inj hF
        refine W.widen (k := a1 + 8) (n := a2 + 48) (by omega) (by omega) ?_
        exact hk _ _ _ hw (lv_sub hl [2, 3, 4, 5, 6, 7] rfl)
      · have hF := zif_f hc hF
        refine lv_iconst (v := (0 : Int32)) hx hb dL_law_780 (by decide) ?_
        obtain rfl := Option.some.inj hF
        exact absurd h1 (show ¬ ((0 : Int32)) = 1 by decide)
  · have hF := zif_f hc hF
    refine lv_iconst (v := (0 : Int32)) hx hb dL_law_763 (by decide) ?_
    obtain rfl := Option.some.inj hF
    exact absurd h1 (show ¬ ((0 : Int32)) = 1 by decide)
set_option maxHeartbeats 800000 in
set_option maxRecDepth 100000 in
theorem wCase11 {p : Program} {l : Launch} {e : Env} {s : State} {m : MethodId} {args : Array Value} {below : List Frame} {meth : Method} {c : Code} {A : Nat → Prop} {Q : State → Prop} {G : va_G} {k : Nat → ClassId} {ad : Nat → Nat} {ob od : Nat} {md : Nat → Nat} {b L a1 a2 : Nat} {xs : Nat → Int32} {i : Int32} {sv : Int32} {kE : Int32} {kR : Int32} {fb : Nat → Int64} {ft : Nat → Int64} {fs : Nat → Int64} {rws : Nat → Int64} {nx : Int32} {ct : Int32} {ch : Nat → Int32} {ln : Int32} {oo : Nat → Int64} {od_ : Nat → UInt64} {thrown : Int32} {now : Nat → Int32} {saved : Nat → Int32} {hist : Nat → Nat → Int32} {kept : Int32} {reason : Int32} {detail : Int32} {isSaved : Int32} {comes : Nat → Int32} {queue : Nat → Int32} {far : Nat → Int32} {isInText : Int32} {ahead : Nat → Int32} {roomAt : Nat → Int32} {rooms : Int32} {text : Nat → Int32} {length : Int32} {at_ : Int32} {errorPosition : Int32} {toldFrom : Int32} {toldTo : Int32} {isWrong : Int32} {before : Nat → Int32} {o : zSt} (C0 : zCx p s m args meth c wsL_law code RL ret 9) (hl9 : l.stackTraces = false) (hK : zKK G k A s s.heap) (hA : ∀ q : Nat, s.heap.size ≤ q → A q) (hX : va_X b L xs s s.heap) (hbl : b < s.heap.size) (hbA : ¬ A b) (hr1 : a1 + 8 ≤ 603072) (hr2 : a2 + 48 ≤ 7207018) (hF : fCase11 xs L i sv kE kR fb ft fs rws nx ct ch ln oo od_ thrown now saved hist kept reason detail isSaved comes queue far isInText ahead roomAt rooms text length at_ errorPosition toldFrom toldTo isWrong before = some o) (h1 : o.1 = 1)
    (hk : ∀ (H : Heap) (locs : List Loc) (ls : Array Slot), zWd G A s (zLw ad ob od md k o.2.1 o.2.2.1 o.2.2.2.1 o.2.2.2.2.1 o.2.2.2.2.2.1 o.2.2.2.2.2.2.1 o.2.2.2.2.2.2.2.1 o.2.2.2.2.2.2.2.2.1 o.2.2.2.2.2.2.2.2.2.1 o.2.2.2.2.2.2.2.2.2.2.1 o.2.2.2.2.2.2.2.2.2.2.2.1 o.2.2.2.2.2.2.2.2.2.2.2.2.1 o.2.2.2.2.2.2.2.2.2.2.2.2.2.1 o.2.2.2.2.2.2.2.2.2.2.2.2.2.2.1 o.2.2.2.2.2.2.2.2.2.2.2.2.2.2.2.1 o.2.2.2.2.2.2.2.2.2.2.2.2.2.2.2.2.1 o.2.2.2.2.2.2.2.2.2.2.2.2.2.2.2.2.2.1 o.2.2.2.2.2.2.2.2.2.2.2.2.2.2.2.2.2.2.1 o.2.2.2.2.2.2.2.2.2.2.2.2.2.2.2.2.2.2.2.1 o.2.2.2.2.2.2.2.2.2.2.2.2.2.2.2.2.2.2.2.2.1 o.2.2.2.2.2.2.2.2.2.2.2.2.2.2.2.2.2.2.2.2.2.1 o.2.2.2.2.2.2.2.2.2.2.2.2.2.2.2.2.2.2.2.2.2.2.1 o.2.2.2.2.2.2.2.2.2.2.2.2.2.2.2.2.2.2.2.2.2.2.2.1 o.2.2.2.2.2.2.2.2.2.2.2.2.2.2.2.2.2.2.2.2.2.2.2.2.1 o.2.2.2.2.2.2.2.2.2.2.2.2.2.2.2.2.2.2.2.2.2.2.2.2.2.1 o.2.2.2.2.2.2.2.2.2.2.2.2.2.2.2.2.2.2.2.2.2.2.2.2.2.2.1 o.2.2.2.2.2.2.2.2.2.2.2.2.2.2.2.2.2.2.2.2.2.2.2.2.2.2.2.1 o.2.2.2.2.2.2.2.2.2.2.2.2.2.2.2.2.2.2.2.2.2.2.2.2.2.2.2.2.1 o.2.2.2.2.2.2.2.2.2.2.2.2.2.2.2.2.2.2.2.2.2.2.2.2.2.2.2.2.2.1 o.2.2.2.2.2.2.2.2.2.2.2.2.2.2.2.2.2.2.2.2.2.2.2.2.2.2.2.2.2.2.1 o.2.2.2.2.2.2.2.2.2.2.2.2.2.2.2.2.2.2.2.2.2.2.2.2.2.2.2.2.2.2.2.1 o.2.2.2.2.2.2.2.2.2.2.2.2.2.2.2.2.2.2.2.2.2.2.2.2.2.2.2.2.2.2.2.2.1 o.2.2.2.2.2.2.2.2.2.2.2.2.2.2.2.2.2.2.2.2.2.2.2.2.2.2.2.2.2.2.2.2.2.1 o.2.2.2.2.2.2.2.2.2.2.2.2.2.2.2.2.2.2.2.2.2.2.2.2.2.2.2.2.2.2.2.2.2.2.1 o.2.2.2.2.2.2.2.2.2.2.2.2.2.2.2.2.2.2.2.2.2.2.2.2.2.2.2.2.2.2.2.2.2.2.2.1 o.2.2.2.2.2.2.2.2.2.2.2.2.2.2.2.2.2.2.2.2.2.2.2.2.2.2.2.2.2.2.2.2.2.2.2.2) H locs → lv_has ls 9 [(0, .ref b), (1, .ref (ad 0)), (2, .ref (md 0)), (3, .ref ob), (4, .ref od), (5, .int i)] → W p l e room_1 s m args below meth c H locs (a1 + 8) (a2 + 48) Q (F0 m 1789 ls [])) :
    ∀ (H : Heap) (locs : List Loc) (ls : Array Slot), zWd G A s (zLw ad ob od md k sv kE kR fb ft fs rws nx ct ch ln oo od_ thrown now saved hist kept reason detail isSaved comes queue far isInText ahead roomAt rooms text length at_ errorPosition toldFrom toldTo isWrong before) H locs → lv_has ls 9 [(0, .ref b), (1, .ref (ad 0)), (2, .ref (md 0)), (3, .ref ob), (4, .ref od), (5, .int i)] → W p l e room_1 s m args below meth c H locs a1 a2 Q (F0 m 785 ls []) := by
  obtain ⟨hx, hb, hr, hml, hown, hts, hlocks⟩ := id C0
  intro H locs ls hw hl
  unfold fCase11 at hF
  refine lv_aload_n hx hb dL_law_785 rfl (lv_at hl 1 rfl) ?_
  refine lv_aload_n hx hb dL_law_786 rfl (lv_at hl 3 rfl) ?_
  obtain ⟨u1, hq2, hF⟩ := zbd_t hF
  refine zgoI4 (w' := (zLw ad ob od md k sv kE kR fb u1.2.1 fs rws nx ct ch ln u1.2.2 od_ thrown now saved hist kept reason detail isSaved comes queue far isInText ahead roomAt rooms text length at_ errorPosition toldFrom toldTo isWrong before)) hw zLw_co zLw_co hA (zSW4 (As := [.ref (ad 0), .ref ob]) (rest := []) ⟨hx, hb, hml, hown, hts⟩ (mL_best l hl9 G k ad ob H.size sv kE kR fb ft fs rws nx ct ch ln oo  u1 hq2) (vx_cwSW 2 hts gL_law_L_best rfl rfl rfl kdL_best ⟨Nat.le_of_ble_eq_true rfl, Nat.le_of_ble_eq_true rfl⟩) hK hA hw zLw_co rfl hl.1 rfl (Nat.le_of_ble_eq_true rfl) dL_law_787 ⟨(by show _ ≤ 603072; omega), (by show _ ≤ 7207018; omega)⟩) rfl (fun H locs hw => ?_)
  refine lv_istore (lv' := [(6, .int u1.1), (0, .ref b), (1, .ref (ad 0)), (2, .ref (md 0)), (3, .ref ob), (4, .ref od), (5, .int i)]) hx hb dL_law_790 hl (by decide) rfl (fun ls hl => ?_)
  refine lv_aload_n hx hb dL_law_792 rfl (lv_at hl 3 rfl) ?_
  obtain ⟨u3, hq4, hF⟩ := zbd_t hF
  refine zgoI4 (w' := (zLw ad ob od md k sv kE kR fb u1.2.1 fs rws nx ct ch ln u1.2.2 od_ u3.2.1 u3.2.2.1 saved hist kept reason detail isSaved u3.2.2.2.1 u3.2.2.2.2.1 u3.2.2.2.2.2.1 isInText u3.2.2.2.2.2.2.1 u3.2.2.2.2.2.2.2.1 u3.2.2.2.2.2.2.2.2 text length at_ errorPosition toldFrom toldTo isWrong before)) hw zLw_m zLw_m hA (zV4 (As := []) (rest := []) ⟨hx, hb, hml, hown, hts⟩ (mX5_best l G k md H.size thrown now saved hist kept reason detail isSaved comes queue far isInText ahead roomAt rooms text length at_ errorPosition toldFrom toldTo isWrong before  u3 hq4) (cwV 0 hts gL_law_X5_best rfl rfl rfl kdX5_best ⟨Nat.le_of_ble_eq_true rfl, Nat.le_of_ble_eq_true rfl⟩) hK hA hw zLw_m 0 rfl rfl rfl rfl hl.1 rfl (Nat.le_of_ble_eq_true rfl) dL_law_793 ⟨(by show _ ≤ 603072; omega), (by show _ ≤ 7207018; omega)⟩) rfl (fun H locs hw => ?_)
  refine lv_istore (lv' := [(7, .int u3.1), (6, .int u1.1), (0, .ref b), (1, .ref (ad 0)), (2, .ref (md 0)), (3, .ref ob), (4, .ref od), (5, .int i)]) hx hb dL_law_796 hl (by decide) rfl (fun ls hl => ?_)
  refine lv_aload_n hx hb dL_law_798 rfl (lv_at hl 4 rfl) ?_
  obtain ⟨u5, hq6, hF⟩ := zbd_t hF
  refine zgoI4 (w' := (zLw ad ob od md k sv kE kR fb u1.2.1 fs rws nx ct ch ln u1.2.2 od_ u3.2.1 u3.2.2.1 saved hist kept reason detail isSaved u3.2.2.2.1 u3.2.2.2.2.1 u3.2.2.2.2.2.1 isInText u3.2.2.2.2.2.2.1 u3.2.2.2.2.2.2.2.1 u3.2.2.2.2.2.2.2.2 text length at_ errorPosition toldFrom toldTo isWrong before)) hw zLw_m zLw_m hA (zV4 (As := []) (rest := []) ⟨hx, hb, hml, hown, hts⟩ (mX5_thrown l G k md H.size u3.2.1 u3.2.2.1 saved hist kept reason detail isSaved u3.2.2.2.1 u3.2.2.2.2.1 u3.2.2.2.2.2.1 isInText u3.2.2.2.2.2.2.1 u3.2.2.2.2.2.2.2.1 u3.2.2.2.2.2.2.2.2 text length at_ errorPosition toldFrom toldTo isWrong before  u5 hq6) (cwV 0 hts gL_law_X5_thrown rfl rfl rfl kdX5_thrown ⟨Nat.le_of_ble_eq_true rfl, Nat.le_of_ble_eq_true rfl⟩) hK hA hw zLw_m 0 rfl rfl rfl rfl hl.1 rfl (Nat.le_of_ble_eq_true rfl) dL_law_799 ⟨(by show _ ≤ 603072; omega), (by show _ ≤ 7207018; omega)⟩) rfl (fun H locs hw => ?_)
  refine lv_iload hx hb dL_law_802 (lv_at hl 1 rfl) ?_
  refine lv_icmp_eq (tgt := 809) hx hb dL_law_804 (by decide) (fun hc => ?_) (fun hc => ?_)
  · have hF := zif_t hc hF
    refine lv_iload hx hb dL_law_809 (lv_at hl 1 rfl) ?_
    refine lv_if_ne (tgt := 826) hx hb dL_law_811 (by decide) (fun hc => ?_) (fun hc => ?_)
    · have hF := zif_f hc hF
      refine lv_goto (tgt := 1789) hx hb dL_law_826 (by decide) ?_
      obtain rfl := Option.some.inj hF
      refine W.widen (k := a1 + 8) (n := a2 + 48) (by omega) (by omega) ?_
      exact hk _ _ _ hw (lv_sub hl [2, 3, 4, 5, 6, 7] rfl)
    · have hF := zif_t hc hF
      refine lv_aload_n hx hb dL_law_814 rfl (lv_at hl 5 rfl) ?_
      refine lv_iconst (v := (0 : Int32)) hx hb dL_law_815 (by decide) ?_
      obtain ⟨hi7, hF⟩ := zck_in hF
      refine va_lald hx hb hK.1 hw.1 12 0 rfl rfl hi7 dL_law_816 ?_
      refine lv_iload hx hb dL_law_817 (lv_at hl 0 rfl) ?_
      refine lv_i2l hx hb dL_law_819 rfl ?_
      refine W.lcmp hx hb dL_law_820 ?_
      refine lv_if_eq (tgt := 826) hx hb dL_law_821 (by decide) (fun hc => ?_) (fun hc => ?_)
      · have hF := zif_t hc hF
        refine lv_goto (tgt := 1789) hx hb dL_law_826 (by decide) ?_
        obtain rfl := Option.some.inj hF
        refine W.widen (k := a1 + 8) (n := a2 + 48) (by omega) (by omega) ?_
        exact hk _ _ _ hw (lv_sub hl [2, 3, 4, 5, 6, 7] rfl)
      · have hF := zif_f hc hF
        refine lv_iconst (v := (0 : Int32)) hx hb dL_law_824 (by decide) ?_
        obtain rfl := Option.some.inj hF
        exact absurd h1 (show ¬ ((0 : Int32)) = 1 by decide)
  · have hF := zif_f hc hF
    refine lv_iconst (v := (0 : Int32)) hx hb dL_law_807 (by decide) ?_
    obtain rfl := Option.some.inj hF
    exact absurd h1 (show ¬ ((0 : Int32)) = 1 by decide)
set_option maxHeartbeats 800000 in
set_option maxRecDepth 100000 in
theorem wCase12 {p : Program} {l : Launch} {e : Env} {s : State} {m : MethodId} {args : Array Value} {below : List Frame} {meth : Method} {c : Code} {A : Nat → Prop} {Q : State → Prop} {G : va_G} {k : Nat → ClassId} {ad : Nat → Nat} {ob od : Nat} {md : Nat → Nat} {b L a1 a2 : Nat} {xs : Nat → Int32} {i : Int32} {sv : Int32} {kE : Int32} {kR : Int32} {fb : Nat → Int64} {ft : Nat → Int64} {fs : Nat → Int64} {rws : Nat → Int64} {nx : Int32} {ct : Int32} {ch : Nat → Int32} {ln : Int32} {oo : Nat → Int64} {od_ : Nat → UInt64} {thrown : Int32} {now : Nat → Int32} {saved : Nat → Int32} {hist : Nat → Nat → Int32} {kept : Int32} {reason : Int32} {detail : Int32} {isSaved : Int32} {comes : Nat → Int32} {queue : Nat → Int32} {far : Nat → Int32} {isInText : Int32} {ahead : Nat → Int32} {roomAt : Nat → Int32} {rooms : Int32} {text : Nat → Int32} {length : Int32} {at_ : Int32} {errorPosition : Int32} {toldFrom : Int32} {toldTo : Int32} {isWrong : Int32} {before : Nat → Int32} {o : zSt} (C0 : zCx p s m args meth c wsL_law code RL ret 9) (hl9 : l.stackTraces = false) (hK : zKK G k A s s.heap) (hA : ∀ q : Nat, s.heap.size ≤ q → A q) (hX : va_X b L xs s s.heap) (hbl : b < s.heap.size) (hbA : ¬ A b) (hr1 : a1 + 8 ≤ 603072) (hr2 : a2 + 48 ≤ 7207018) (hF : fCase12 xs L i sv kE kR fb ft fs rws nx ct ch ln oo od_ thrown now saved hist kept reason detail isSaved comes queue far isInText ahead roomAt rooms text length at_ errorPosition toldFrom toldTo isWrong before = some o) (h1 : o.1 = 1)
    (hk : ∀ (H : Heap) (locs : List Loc) (ls : Array Slot), zWd G A s (zLw ad ob od md k o.2.1 o.2.2.1 o.2.2.2.1 o.2.2.2.2.1 o.2.2.2.2.2.1 o.2.2.2.2.2.2.1 o.2.2.2.2.2.2.2.1 o.2.2.2.2.2.2.2.2.1 o.2.2.2.2.2.2.2.2.2.1 o.2.2.2.2.2.2.2.2.2.2.1 o.2.2.2.2.2.2.2.2.2.2.2.1 o.2.2.2.2.2.2.2.2.2.2.2.2.1 o.2.2.2.2.2.2.2.2.2.2.2.2.2.1 o.2.2.2.2.2.2.2.2.2.2.2.2.2.2.1 o.2.2.2.2.2.2.2.2.2.2.2.2.2.2.2.1 o.2.2.2.2.2.2.2.2.2.2.2.2.2.2.2.2.1 o.2.2.2.2.2.2.2.2.2.2.2.2.2.2.2.2.2.1 o.2.2.2.2.2.2.2.2.2.2.2.2.2.2.2.2.2.2.1 o.2.2.2.2.2.2.2.2.2.2.2.2.2.2.2.2.2.2.2.1 o.2.2.2.2.2.2.2.2.2.2.2.2.2.2.2.2.2.2.2.2.1 o.2.2.2.2.2.2.2.2.2.2.2.2.2.2.2.2.2.2.2.2.2.1 o.2.2.2.2.2.2.2.2.2.2.2.2.2.2.2.2.2.2.2.2.2.2.1 o.2.2.2.2.2.2.2.2.2.2.2.2.2.2.2.2.2.2.2.2.2.2.2.1 o.2.2.2.2.2.2.2.2.2.2.2.2.2.2.2.2.2.2.2.2.2.2.2.2.1 o.2.2.2.2.2.2.2.2.2.2.2.2.2.2.2.2.2.2.2.2.2.2.2.2.2.1 o.2.2.2.2.2.2.2.2.2.2.2.2.2.2.2.2.2.2.2.2.2.2.2.2.2.2.1 o.2.2.2.2.2.2.2.2.2.2.2.2.2.2.2.2.2.2.2.2.2.2.2.2.2.2.2.1 o.2.2.2.2.2.2.2.2.2.2.2.2.2.2.2.2.2.2.2.2.2.2.2.2.2.2.2.2.1 o.2.2.2.2.2.2.2.2.2.2.2.2.2.2.2.2.2.2.2.2.2.2.2.2.2.2.2.2.2.1 o.2.2.2.2.2.2.2.2.2.2.2.2.2.2.2.2.2.2.2.2.2.2.2.2.2.2.2.2.2.2.1 o.2.2.2.2.2.2.2.2.2.2.2.2.2.2.2.2.2.2.2.2.2.2.2.2.2.2.2.2.2.2.2.1 o.2.2.2.2.2.2.2.2.2.2.2.2.2.2.2.2.2.2.2.2.2.2.2.2.2.2.2.2.2.2.2.2.1 o.2.2.2.2.2.2.2.2.2.2.2.2.2.2.2.2.2.2.2.2.2.2.2.2.2.2.2.2.2.2.2.2.2.1 o.2.2.2.2.2.2.2.2.2.2.2.2.2.2.2.2.2.2.2.2.2.2.2.2.2.2.2.2.2.2.2.2.2.2.1 o.2.2.2.2.2.2.2.2.2.2.2.2.2.2.2.2.2.2.2.2.2.2.2.2.2.2.2.2.2.2.2.2.2.2.2.1 o.2.2.2.2.2.2.2.2.2.2.2.2.2.2.2.2.2.2.2.2.2.2.2.2.2.2.2.2.2.2.2.2.2.2.2.2) H locs → lv_has ls 9 [(0, .ref b), (1, .ref (ad 0)), (2, .ref (md 0)), (3, .ref ob), (4, .ref od), (5, .int i)] → W p l e room_1 s m args below meth c H locs (a1 + 8) (a2 + 48) Q (F0 m 1789 ls [])) :
    ∀ (H : Heap) (locs : List Loc) (ls : Array Slot), zWd G A s (zLw ad ob od md k sv kE kR fb ft fs rws nx ct ch ln oo od_ thrown now saved hist kept reason detail isSaved comes queue far isInText ahead roomAt rooms text length at_ errorPosition toldFrom toldTo isWrong before) H locs → lv_has ls 9 [(0, .ref b), (1, .ref (ad 0)), (2, .ref (md 0)), (3, .ref ob), (4, .ref od), (5, .int i)] → W p l e room_1 s m args below meth c H locs a1 a2 Q (F0 m 829 ls []) := by
  obtain ⟨hx, hb, hr, hml, hown, hts, hlocks⟩ := id C0
  intro H locs ls hw hl
  unfold fCase12 at hF
  refine lv_aload_n hx hb dL_law_829 rfl (lv_at hl 1 rfl) ?_
  refine lv_aload_n hx hb dL_law_830 rfl (lv_at hl 0 rfl) ?_
  refine lv_iload hx hb dL_law_831 (lv_at hl 5 rfl) ?_
  refine lv_iconst (v := (1 : Int32)) hx hb dL_law_833 (by decide) ?_
  refine lv_iadd hx hb dL_law_834 ?_
  obtain ⟨hi1, hF⟩ := zck_in hF
  refine va_sld hx hb hX hbl hbA hw.2.2 hi1 dL_law_835 ?_
  refine lv_aload_n hx hb dL_law_836 rfl (lv_at hl 0 rfl) ?_
  refine lv_iload hx hb dL_law_837 (lv_at hl 5 rfl) ?_
  refine lv_iconst (v := (2 : Int32)) hx hb dL_law_839 (by decide) ?_
  refine lv_iadd hx hb dL_law_840 ?_
  obtain ⟨hi2, hF⟩ := zck_in hF
  refine va_sld hx hb hX hbl hbA hw.2.2 hi2 dL_law_841 ?_
  refine lv_aload_n hx hb dL_law_842 rfl (lv_at hl 3 rfl) ?_
  obtain ⟨u3, hq4, hF⟩ := zbd_t hF
  refine zgoI4 (w' := (zLw ad ob od md k sv kE kR fb u3.2.1 fs rws nx ct ch ln u3.2.2 od_ thrown now saved hist kept reason detail isSaved comes queue far isInText ahead roomAt rooms text length at_ errorPosition toldFrom toldTo isWrong before)) hw zLw_co zLw_co hA (zSW4 (As := [.ref (ad 0), .int (xs (i + (1 : Int32)).toNatClampNeg), .int (xs (i + (2 : Int32)).toNatClampNeg), .ref ob]) (rest := []) ⟨hx, hb, hml, hown, hts⟩ (mL_worth l hl9 G k ad ob H.size sv kE kR fb ft fs rws nx ct ch ln oo (xs (i + (1 : Int32)).toNatClampNeg) (xs (i + (2 : Int32)).toNatClampNeg) u3 hq4) (vx_cwSW 4 hts gL_law_L_worth rfl rfl rfl kdL_worth ⟨Nat.le_of_ble_eq_true rfl, Nat.le_of_ble_eq_true rfl⟩) hK hA hw zLw_co rfl hl.1 rfl (Nat.le_of_ble_eq_true rfl) dL_law_843 ⟨(by show _ ≤ 603072; omega), (by show _ ≤ 7207018; omega)⟩) rfl (fun H locs hw => ?_)
  refine lv_istore (lv' := [(6, .int u3.1), (0, .ref b), (1, .ref (ad 0)), (2, .ref (md 0)), (3, .ref ob), (4, .ref od), (5, .int i)]) hx hb dL_law_846 hl (by decide) rfl (fun ls hl => ?_)
  refine lv_aload_n hx hb dL_law_848 rfl (lv_at hl 3 rfl) ?_
  refine lv_aload_n hx hb dL_law_849 rfl (lv_at hl 1 rfl) ?_
  refine lv_iload hx hb dL_law_850 (lv_at hl 6 rfl) ?_
  refine lv_iconst (v := (1 : Int32)) hx hb dL_law_852 (by decide) ?_
  refine lv_iadd hx hb dL_law_853 ?_
  obtain ⟨hi5, hF⟩ := zck_in hF
  refine va_sld hx hb hX hbl hbA hw.2.2 hi5 dL_law_854 ?_
  refine lv_aload_n hx hb dL_law_855 rfl (lv_at hl 1 rfl) ?_
  refine lv_iload hx hb dL_law_856 (lv_at hl 6 rfl) ?_
  refine lv_iconst (v := (2 : Int32)) hx hb dL_law_858 (by decide) ?_
  refine lv_iadd hx hb dL_law_859 ?_
  obtain ⟨hi6, hF⟩ := zck_in hF
  refine va_sld hx hb hX hbl hbA hw.2.2 hi6 dL_law_860 ?_
  obtain ⟨u7, hq8, hF⟩ := zbd_t hF
  refine zgoI4 (w' := (zLw ad ob od md k sv kE kR fb u3.2.1 fs rws nx ct ch ln u3.2.2 od_ u7.2.1 u7.2.2.1 saved hist kept reason detail isSaved u7.2.2.2.1 u7.2.2.2.2.1 u7.2.2.2.2.2.1 isInText u7.2.2.2.2.2.2.1 u7.2.2.2.2.2.2.2.1 u7.2.2.2.2.2.2.2.2 text length at_ errorPosition toldFrom toldTo isWrong before)) hw zLw_m zLw_m hA (zV4 (As := [.int (xs (i + (1 : Int32)).toNatClampNeg), .int (xs (i + (2 : Int32)).toNatClampNeg)]) (rest := []) ⟨hx, hb, hml, hown, hts⟩ (mX5_worth l G k md H.size thrown now saved hist kept reason detail isSaved comes queue far isInText ahead roomAt rooms text length at_ errorPosition toldFrom toldTo isWrong before (xs (i + (1 : Int32)).toNatClampNeg) (xs (i + (2 : Int32)).toNatClampNeg) u7 hq8) (cwV 2 hts gL_law_X5_worth rfl rfl rfl kdX5_worth ⟨Nat.le_of_ble_eq_true rfl, Nat.le_of_ble_eq_true rfl⟩) hK hA hw zLw_m 0 rfl rfl rfl rfl hl.1 rfl (Nat.le_of_ble_eq_true rfl) dL_law_861 ⟨(by show _ ≤ 603072; omega), (by show _ ≤ 7207018; omega)⟩) rfl (fun H locs hw => ?_)
  refine lv_istore (lv' := [(7, .int u7.1), (6, .int u3.1), (0, .ref b), (1, .ref (ad 0)), (2, .ref (md 0)), (3, .ref ob), (4, .ref od), (5, .int i)]) hx hb dL_law_864 hl (by decide) rfl (fun ls hl => ?_)
  refine lv_aload_n hx hb dL_law_866 rfl (lv_at hl 4 rfl) ?_
  obtain ⟨u9, hq10, hF⟩ := zbd_t hF
  refine zgoI4 (w' := (zLw ad ob od md k sv kE kR fb u3.2.1 fs rws nx ct ch ln u3.2.2 od_ u7.2.1 u7.2.2.1 saved hist kept reason detail isSaved u7.2.2.2.1 u7.2.2.2.2.1 u7.2.2.2.2.2.1 isInText u7.2.2.2.2.2.2.1 u7.2.2.2.2.2.2.2.1 u7.2.2.2.2.2.2.2.2 text length at_ errorPosition toldFrom toldTo isWrong before)) hw zLw_m zLw_m hA (zV4 (As := []) (rest := []) ⟨hx, hb, hml, hown, hts⟩ (mX5_thrown l G k md H.size u7.2.1 u7.2.2.1 saved hist kept reason detail isSaved u7.2.2.2.1 u7.2.2.2.2.1 u7.2.2.2.2.2.1 isInText u7.2.2.2.2.2.2.1 u7.2.2.2.2.2.2.2.1 u7.2.2.2.2.2.2.2.2 text length at_ errorPosition toldFrom toldTo isWrong before  u9 hq10) (cwV 0 hts gL_law_X5_thrown rfl rfl rfl kdX5_thrown ⟨Nat.le_of_ble_eq_true rfl, Nat.le_of_ble_eq_true rfl⟩) hK hA hw zLw_m 0 rfl rfl rfl rfl hl.1 rfl (Nat.le_of_ble_eq_true rfl) dL_law_867 ⟨(by show _ ≤ 603072; omega), (by show _ ≤ 7207018; omega)⟩) rfl (fun H locs hw => ?_)
  refine lv_iload hx hb dL_law_870 (lv_at hl 1 rfl) ?_
  refine lv_icmp_eq (tgt := 877) hx hb dL_law_872 (by decide) (fun hc => ?_) (fun hc => ?_)
  · have hF := zif_t hc hF
    refine lv_iload hx hb dL_law_877 (lv_at hl 1 rfl) ?_
    refine lv_if_ne (tgt := 894) hx hb dL_law_879 (by decide) (fun hc => ?_) (fun hc => ?_)
    · have hF := zif_f hc hF
      refine lv_goto (tgt := 1789) hx hb dL_law_894 (by decide) ?_
      obtain rfl := Option.some.inj hF
      refine W.widen (k := a1 + 8) (n := a2 + 48) (by omega) (by omega) ?_
      exact hk _ _ _ hw (lv_sub hl [2, 3, 4, 5, 6, 7] rfl)
    · have hF := zif_t hc hF
      refine lv_aload_n hx hb dL_law_882 rfl (lv_at hl 5 rfl) ?_
      refine lv_iconst (v := (0 : Int32)) hx hb dL_law_883 (by decide) ?_
      obtain ⟨hi11, hF⟩ := zck_in hF
      refine va_lald hx hb hK.1 hw.1 12 0 rfl rfl hi11 dL_law_884 ?_
      refine lv_iload hx hb dL_law_885 (lv_at hl 0 rfl) ?_
      refine lv_i2l hx hb dL_law_887 rfl ?_
      refine W.lcmp hx hb dL_law_888 ?_
      refine lv_if_eq (tgt := 894) hx hb dL_law_889 (by decide) (fun hc => ?_) (fun hc => ?_)
      · have hF := zif_t hc hF
        refine lv_goto (tgt := 1789) hx hb dL_law_894 (by decide) ?_
        obtain rfl := Option.some.inj hF
        refine W.widen (k := a1 + 8) (n := a2 + 48) (by omega) (by omega) ?_
        exact hk _ _ _ hw (lv_sub hl [2, 3, 4, 5, 6, 7] rfl)
      · have hF := zif_f hc hF
        refine lv_iconst (v := (0 : Int32)) hx hb dL_law_892 (by decide) ?_
        obtain rfl := Option.some.inj hF
        exact absurd h1 (show ¬ ((0 : Int32)) = 1 by decide)
  · have hF := zif_f hc hF
    refine lv_iconst (v := (0 : Int32)) hx hb dL_law_875 (by decide) ?_
    obtain rfl := Option.some.inj hF
    exact absurd h1 (show ¬ ((0 : Int32)) = 1 by decide)
set_option maxHeartbeats 800000 in
set_option maxRecDepth 100000 in
theorem wCase13 {p : Program} {l : Launch} {e : Env} {s : State} {m : MethodId} {args : Array Value} {below : List Frame} {meth : Method} {c : Code} {A : Nat → Prop} {Q : State → Prop} {G : va_G} {k : Nat → ClassId} {ad : Nat → Nat} {ob od : Nat} {md : Nat → Nat} {b L a1 a2 : Nat} {xs : Nat → Int32} {i : Int32} {sv : Int32} {kE : Int32} {kR : Int32} {fb : Nat → Int64} {ft : Nat → Int64} {fs : Nat → Int64} {rws : Nat → Int64} {nx : Int32} {ct : Int32} {ch : Nat → Int32} {ln : Int32} {oo : Nat → Int64} {od_ : Nat → UInt64} {thrown : Int32} {now : Nat → Int32} {saved : Nat → Int32} {hist : Nat → Nat → Int32} {kept : Int32} {reason : Int32} {detail : Int32} {isSaved : Int32} {comes : Nat → Int32} {queue : Nat → Int32} {far : Nat → Int32} {isInText : Int32} {ahead : Nat → Int32} {roomAt : Nat → Int32} {rooms : Int32} {text : Nat → Int32} {length : Int32} {at_ : Int32} {errorPosition : Int32} {toldFrom : Int32} {toldTo : Int32} {isWrong : Int32} {before : Nat → Int32} {o : zSt} (C0 : zCx p s m args meth c wsL_law code RL ret 9) (hl9 : l.stackTraces = false) (hK : zKK G k A s s.heap) (hA : ∀ q : Nat, s.heap.size ≤ q → A q) (hX : va_X b L xs s s.heap) (hbl : b < s.heap.size) (hbA : ¬ A b) (hr1 : a1 + 8 ≤ 603072) (hr2 : a2 + 48 ≤ 7207018) (hF : fCase13 xs L i sv kE kR fb ft fs rws nx ct ch ln oo od_ thrown now saved hist kept reason detail isSaved comes queue far isInText ahead roomAt rooms text length at_ errorPosition toldFrom toldTo isWrong before = some o) (h1 : o.1 = 1)
    (hk : ∀ (H : Heap) (locs : List Loc) (ls : Array Slot), zWd G A s (zLw ad ob od md k o.2.1 o.2.2.1 o.2.2.2.1 o.2.2.2.2.1 o.2.2.2.2.2.1 o.2.2.2.2.2.2.1 o.2.2.2.2.2.2.2.1 o.2.2.2.2.2.2.2.2.1 o.2.2.2.2.2.2.2.2.2.1 o.2.2.2.2.2.2.2.2.2.2.1 o.2.2.2.2.2.2.2.2.2.2.2.1 o.2.2.2.2.2.2.2.2.2.2.2.2.1 o.2.2.2.2.2.2.2.2.2.2.2.2.2.1 o.2.2.2.2.2.2.2.2.2.2.2.2.2.2.1 o.2.2.2.2.2.2.2.2.2.2.2.2.2.2.2.1 o.2.2.2.2.2.2.2.2.2.2.2.2.2.2.2.2.1 o.2.2.2.2.2.2.2.2.2.2.2.2.2.2.2.2.2.1 o.2.2.2.2.2.2.2.2.2.2.2.2.2.2.2.2.2.2.1 o.2.2.2.2.2.2.2.2.2.2.2.2.2.2.2.2.2.2.2.1 o.2.2.2.2.2.2.2.2.2.2.2.2.2.2.2.2.2.2.2.2.1 o.2.2.2.2.2.2.2.2.2.2.2.2.2.2.2.2.2.2.2.2.2.1 o.2.2.2.2.2.2.2.2.2.2.2.2.2.2.2.2.2.2.2.2.2.2.1 o.2.2.2.2.2.2.2.2.2.2.2.2.2.2.2.2.2.2.2.2.2.2.2.1 o.2.2.2.2.2.2.2.2.2.2.2.2.2.2.2.2.2.2.2.2.2.2.2.2.1 o.2.2.2.2.2.2.2.2.2.2.2.2.2.2.2.2.2.2.2.2.2.2.2.2.2.1 o.2.2.2.2.2.2.2.2.2.2.2.2.2.2.2.2.2.2.2.2.2.2.2.2.2.2.1 o.2.2.2.2.2.2.2.2.2.2.2.2.2.2.2.2.2.2.2.2.2.2.2.2.2.2.2.1 o.2.2.2.2.2.2.2.2.2.2.2.2.2.2.2.2.2.2.2.2.2.2.2.2.2.2.2.2.1 o.2.2.2.2.2.2.2.2.2.2.2.2.2.2.2.2.2.2.2.2.2.2.2.2.2.2.2.2.2.1 o.2.2.2.2.2.2.2.2.2.2.2.2.2.2.2.2.2.2.2.2.2.2.2.2.2.2.2.2.2.2.1 o.2.2.2.2.2.2.2.2.2.2.2.2.2.2.2.2.2.2.2.2.2.2.2.2.2.2.2.2.2.2.2.1 o.2.2.2.2.2.2.2.2.2.2.2.2.2.2.2.2.2.2.2.2.2.2.2.2.2.2.2.2.2.2.2.2.1 o.2.2.2.2.2.2.2.2.2.2.2.2.2.2.2.2.2.2.2.2.2.2.2.2.2.2.2.2.2.2.2.2.2.1 o.2.2.2.2.2.2.2.2.2.2.2.2.2.2.2.2.2.2.2.2.2.2.2.2.2.2.2.2.2.2.2.2.2.2.1 o.2.2.2.2.2.2.2.2.2.2.2.2.2.2.2.2.2.2.2.2.2.2.2.2.2.2.2.2.2.2.2.2.2.2.2.1 o.2.2.2.2.2.2.2.2.2.2.2.2.2.2.2.2.2.2.2.2.2.2.2.2.2.2.2.2.2.2.2.2.2.2.2.2) H locs → lv_has ls 9 [(0, .ref b), (1, .ref (ad 0)), (2, .ref (md 0)), (3, .ref ob), (4, .ref od), (5, .int i)] → W p l e room_1 s m args below meth c H locs (a1 + 8) (a2 + 48) Q (F0 m 1789 ls [])) :
    ∀ (H : Heap) (locs : List Loc) (ls : Array Slot), zWd G A s (zLw ad ob od md k sv kE kR fb ft fs rws nx ct ch ln oo od_ thrown now saved hist kept reason detail isSaved comes queue far isInText ahead roomAt rooms text length at_ errorPosition toldFrom toldTo isWrong before) H locs → lv_has ls 9 [(0, .ref b), (1, .ref (ad 0)), (2, .ref (md 0)), (3, .ref ob), (4, .ref od), (5, .int i)] → W p l e room_1 s m args below meth c H locs a1 a2 Q (F0 m 897 ls []) := by
  obtain ⟨hx, hb, hr, hml, hown, hts, hlocks⟩ := id C0
  intro H locs ls hw hl
  unfold fCase13 at hF
  refine lv_aload_n hx hb dL_law_897 rfl (lv_at hl 1 rfl) ?_
  refine lv_aload_n hx hb dL_law_898 rfl (lv_at hl 0 rfl) ?_
  refine lv_iload hx hb dL_law_899 (lv_at hl 5 rfl) ?_
  refine lv_iconst (v := (1 : Int32)) hx hb dL_law_901 (by decide) ?_
  refine lv_iadd hx hb dL_law_902 ?_
  obtain ⟨hi1, hF⟩ := zck_in hF
  refine va_sld hx hb hX hbl hbA hw.2.2 hi1 dL_law_903 ?_
  refine lv_aload_n hx hb dL_law_904 rfl (lv_at hl 3 rfl) ?_
  obtain ⟨u2, hq3, hF⟩ := zbd_t hF
  refine zgoI4 (w' := (zLw ad ob od md k sv kE kR fb ft fs rws nx ct ch ln u2.2 od_ thrown now saved hist kept reason detail isSaved comes queue far isInText ahead roomAt rooms text length at_ errorPosition toldFrom toldTo isWrong before)) hw zLw_co zLw_co hA (zSW4 (As := [.ref (ad 0), .int (xs (i + (1 : Int32)).toNatClampNeg), .ref ob]) (rest := []) ⟨hx, hb, hml, hown, hts⟩ (mL_rooms l hl9 G k ad ob H.size sv kE kR fb ft fs rws nx ct ch ln oo (xs (i + (1 : Int32)).toNatClampNeg) u2 hq3) (vx_cwSW 3 hts gL_law_L_rooms rfl rfl rfl kdL_rooms ⟨Nat.le_of_ble_eq_true rfl, Nat.le_of_ble_eq_true rfl⟩) hK hA hw zLw_co rfl hl.1 rfl (Nat.le_of_ble_eq_true rfl) dL_law_905 ⟨(by show _ ≤ 603072; omega), (by show _ ≤ 7207018; omega)⟩) rfl (fun H locs hw => ?_)
  refine lv_istore (lv' := [(6, .int u2.1), (0, .ref b), (1, .ref (ad 0)), (2, .ref (md 0)), (3, .ref ob), (4, .ref od), (5, .int i)]) hx hb dL_law_908 hl (by decide) rfl (fun ls hl => ?_)
  refine lv_aload_n hx hb dL_law_910 rfl (lv_at hl 3 rfl) ?_
  refine lv_aload_n hx hb dL_law_911 rfl (lv_at hl 1 rfl) ?_
  refine lv_iload hx hb dL_law_912 (lv_at hl 6 rfl) ?_
  refine lv_iconst (v := (1 : Int32)) hx hb dL_law_914 (by decide) ?_
  refine lv_iadd hx hb dL_law_915 ?_
  obtain ⟨hi4, hF⟩ := zck_in hF
  refine va_sld hx hb hX hbl hbA hw.2.2 hi4 dL_law_916 ?_
  obtain ⟨u5, hq6, hF⟩ := zbd_t hF
  refine zgoI4 (w' := (zLw ad ob od md k sv kE kR fb ft fs rws nx ct ch ln u2.2 od_ u5.2.1 now saved hist kept reason detail isSaved comes u5.2.2.1 far isInText ahead u5.2.2.2.1 u5.2.2.2.2 text length at_ errorPosition toldFrom toldTo isWrong before)) hw zLw_m zLw_m hA (zV4 (As := [.int (xs (i + (1 : Int32)).toNatClampNeg)]) (rest := []) ⟨hx, hb, hml, hown, hts⟩ (mX5_rooms l G k md H.size thrown now saved hist kept reason detail isSaved comes queue far isInText ahead roomAt rooms text length at_ errorPosition toldFrom toldTo isWrong before (xs (i + (1 : Int32)).toNatClampNeg) u5 hq6) (cwV 1 hts gL_law_X5_rooms rfl rfl rfl kdX5_rooms ⟨Nat.le_of_ble_eq_true rfl, Nat.le_of_ble_eq_true rfl⟩) hK hA hw zLw_m 0 rfl rfl rfl rfl hl.1 rfl (Nat.le_of_ble_eq_true rfl) dL_law_917 ⟨(by show _ ≤ 603072; omega), (by show _ ≤ 7207018; omega)⟩) rfl (fun H locs hw => ?_)
  refine lv_istore (lv' := [(7, .int u5.1), (6, .int u2.1), (0, .ref b), (1, .ref (ad 0)), (2, .ref (md 0)), (3, .ref ob), (4, .ref od), (5, .int i)]) hx hb dL_law_920 hl (by decide) rfl (fun ls hl => ?_)
  refine lv_aload_n hx hb dL_law_922 rfl (lv_at hl 4 rfl) ?_
  obtain ⟨u7, hq8, hF⟩ := zbd_t hF
  refine zgoI4 (w' := (zLw ad ob od md k sv kE kR fb ft fs rws nx ct ch ln u2.2 od_ u5.2.1 now saved hist kept reason detail isSaved comes u5.2.2.1 far isInText ahead u5.2.2.2.1 u5.2.2.2.2 text length at_ errorPosition toldFrom toldTo isWrong before)) hw zLw_m zLw_m hA (zV4 (As := []) (rest := []) ⟨hx, hb, hml, hown, hts⟩ (mX5_thrown l G k md H.size u5.2.1 now saved hist kept reason detail isSaved comes u5.2.2.1 far isInText ahead u5.2.2.2.1 u5.2.2.2.2 text length at_ errorPosition toldFrom toldTo isWrong before  u7 hq8) (cwV 0 hts gL_law_X5_thrown rfl rfl rfl kdX5_thrown ⟨Nat.le_of_ble_eq_true rfl, Nat.le_of_ble_eq_true rfl⟩) hK hA hw zLw_m 0 rfl rfl rfl rfl hl.1 rfl (Nat.le_of_ble_eq_true rfl) dL_law_923 ⟨(by show _ ≤ 603072; omega), (by show _ ≤ 7207018; omega)⟩) rfl (fun H locs hw => ?_)
  refine lv_iload hx hb dL_law_926 (lv_at hl 1 rfl) ?_
  refine lv_icmp_eq (tgt := 933) hx hb dL_law_928 (by decide) (fun hc => ?_) (fun hc => ?_)
  · have hF := zif_t hc hF
    refine lv_iload hx hb dL_law_933 (lv_at hl 1 rfl) ?_
    refine lv_if_ne (tgt := 950) hx hb dL_law_935 (by decide) (fun hc => ?_) (fun hc => ?_)
    · have hF := zif_f hc hF
      refine lv_goto (tgt := 1789) hx hb dL_law_950 (by decide) ?_
      obtain rfl := Option.some.inj hF
      refine W.widen (k := a1 + 8) (n := a2 + 48) (by omega) (by omega) ?_
      exact hk _ _ _ hw (lv_sub hl [2, 3, 4, 5, 6, 7] rfl)
    · have hF := zif_t hc hF
      refine lv_aload_n hx hb dL_law_938 rfl (lv_at hl 5 rfl) ?_
      refine lv_iconst (v := (0 : Int32)) hx hb dL_law_939 (by decide) ?_
      obtain ⟨hi9, hF⟩ := zck_in hF
      refine va_lald hx hb hK.1 hw.1 12 0 rfl rfl hi9 dL_law_940 ?_
      refine lv_iload hx hb dL_law_941 (lv_at hl 0 rfl) ?_
      refine lv_i2l hx hb dL_law_943 rfl ?_
      refine W.lcmp hx hb dL_law_944 ?_
      refine lv_if_eq (tgt := 950) hx hb dL_law_945 (by decide) (fun hc => ?_) (fun hc => ?_)
      · have hF := zif_t hc hF
        refine lv_goto (tgt := 1789) hx hb dL_law_950 (by decide) ?_
        obtain rfl := Option.some.inj hF
        refine W.widen (k := a1 + 8) (n := a2 + 48) (by omega) (by omega) ?_
        exact hk _ _ _ hw (lv_sub hl [2, 3, 4, 5, 6, 7] rfl)
      · have hF := zif_f hc hF
        refine lv_iconst (v := (0 : Int32)) hx hb dL_law_948 (by decide) ?_
        obtain rfl := Option.some.inj hF
        exact absurd h1 (show ¬ ((0 : Int32)) = 1 by decide)
  · have hF := zif_f hc hF
    refine lv_iconst (v := (0 : Int32)) hx hb dL_law_931 (by decide) ?_
    obtain rfl := Option.some.inj hF
    exact absurd h1 (show ¬ ((0 : Int32)) = 1 by decide)
set_option maxHeartbeats 800000 in
set_option maxRecDepth 100000 in
theorem wCase14 {p : Program} {l : Launch} {e : Env} {s : State} {m : MethodId} {args : Array Value} {below : List Frame} {meth : Method} {c : Code} {A : Nat → Prop} {Q : State → Prop} {G : va_G} {k : Nat → ClassId} {ad : Nat → Nat} {ob od : Nat} {md : Nat → Nat} {b L a1 a2 : Nat} {xs : Nat → Int32} {i : Int32} {sv : Int32} {kE : Int32} {kR : Int32} {fb : Nat → Int64} {ft : Nat → Int64} {fs : Nat → Int64} {rws : Nat → Int64} {nx : Int32} {ct : Int32} {ch : Nat → Int32} {ln : Int32} {oo : Nat → Int64} {od_ : Nat → UInt64} {thrown : Int32} {now : Nat → Int32} {saved : Nat → Int32} {hist : Nat → Nat → Int32} {kept : Int32} {reason : Int32} {detail : Int32} {isSaved : Int32} {comes : Nat → Int32} {queue : Nat → Int32} {far : Nat → Int32} {isInText : Int32} {ahead : Nat → Int32} {roomAt : Nat → Int32} {rooms : Int32} {text : Nat → Int32} {length : Int32} {at_ : Int32} {errorPosition : Int32} {toldFrom : Int32} {toldTo : Int32} {isWrong : Int32} {before : Nat → Int32} {o : zSt} (C0 : zCx p s m args meth c wsL_law code RL ret 9) (hl9 : l.stackTraces = false) (hK : zKK G k A s s.heap) (hA : ∀ q : Nat, s.heap.size ≤ q → A q) (hX : va_X b L xs s s.heap) (hbl : b < s.heap.size) (hbA : ¬ A b) (hr1 : a1 + 8 ≤ 603072) (hr2 : a2 + 48 ≤ 7207018) (hF : fCase14 xs L i sv kE kR fb ft fs rws nx ct ch ln oo od_ thrown now saved hist kept reason detail isSaved comes queue far isInText ahead roomAt rooms text length at_ errorPosition toldFrom toldTo isWrong before = some o) (h1 : o.1 = 1)
    (hk : ∀ (H : Heap) (locs : List Loc) (ls : Array Slot), zWd G A s (zLw ad ob od md k o.2.1 o.2.2.1 o.2.2.2.1 o.2.2.2.2.1 o.2.2.2.2.2.1 o.2.2.2.2.2.2.1 o.2.2.2.2.2.2.2.1 o.2.2.2.2.2.2.2.2.1 o.2.2.2.2.2.2.2.2.2.1 o.2.2.2.2.2.2.2.2.2.2.1 o.2.2.2.2.2.2.2.2.2.2.2.1 o.2.2.2.2.2.2.2.2.2.2.2.2.1 o.2.2.2.2.2.2.2.2.2.2.2.2.2.1 o.2.2.2.2.2.2.2.2.2.2.2.2.2.2.1 o.2.2.2.2.2.2.2.2.2.2.2.2.2.2.2.1 o.2.2.2.2.2.2.2.2.2.2.2.2.2.2.2.2.1 o.2.2.2.2.2.2.2.2.2.2.2.2.2.2.2.2.2.1 o.2.2.2.2.2.2.2.2.2.2.2.2.2.2.2.2.2.2.1 o.2.2.2.2.2.2.2.2.2.2.2.2.2.2.2.2.2.2.2.1 o.2.2.2.2.2.2.2.2.2.2.2.2.2.2.2.2.2.2.2.2.1 o.2.2.2.2.2.2.2.2.2.2.2.2.2.2.2.2.2.2.2.2.2.1 o.2.2.2.2.2.2.2.2.2.2.2.2.2.2.2.2.2.2.2.2.2.2.1 o.2.2.2.2.2.2.2.2.2.2.2.2.2.2.2.2.2.2.2.2.2.2.2.1 o.2.2.2.2.2.2.2.2.2.2.2.2.2.2.2.2.2.2.2.2.2.2.2.2.1 o.2.2.2.2.2.2.2.2.2.2.2.2.2.2.2.2.2.2.2.2.2.2.2.2.2.1 o.2.2.2.2.2.2.2.2.2.2.2.2.2.2.2.2.2.2.2.2.2.2.2.2.2.2.1 o.2.2.2.2.2.2.2.2.2.2.2.2.2.2.2.2.2.2.2.2.2.2.2.2.2.2.2.1 o.2.2.2.2.2.2.2.2.2.2.2.2.2.2.2.2.2.2.2.2.2.2.2.2.2.2.2.2.1 o.2.2.2.2.2.2.2.2.2.2.2.2.2.2.2.2.2.2.2.2.2.2.2.2.2.2.2.2.2.1 o.2.2.2.2.2.2.2.2.2.2.2.2.2.2.2.2.2.2.2.2.2.2.2.2.2.2.2.2.2.2.1 o.2.2.2.2.2.2.2.2.2.2.2.2.2.2.2.2.2.2.2.2.2.2.2.2.2.2.2.2.2.2.2.1 o.2.2.2.2.2.2.2.2.2.2.2.2.2.2.2.2.2.2.2.2.2.2.2.2.2.2.2.2.2.2.2.2.1 o.2.2.2.2.2.2.2.2.2.2.2.2.2.2.2.2.2.2.2.2.2.2.2.2.2.2.2.2.2.2.2.2.2.1 o.2.2.2.2.2.2.2.2.2.2.2.2.2.2.2.2.2.2.2.2.2.2.2.2.2.2.2.2.2.2.2.2.2.2.1 o.2.2.2.2.2.2.2.2.2.2.2.2.2.2.2.2.2.2.2.2.2.2.2.2.2.2.2.2.2.2.2.2.2.2.2.1 o.2.2.2.2.2.2.2.2.2.2.2.2.2.2.2.2.2.2.2.2.2.2.2.2.2.2.2.2.2.2.2.2.2.2.2.2) H locs → lv_has ls 9 [(0, .ref b), (1, .ref (ad 0)), (2, .ref (md 0)), (3, .ref ob), (4, .ref od), (5, .int i)] → W p l e room_1 s m args below meth c H locs (a1 + 8) (a2 + 48) Q (F0 m 1789 ls [])) :
    ∀ (H : Heap) (locs : List Loc) (ls : Array Slot), zWd G A s (zLw ad ob od md k sv kE kR fb ft fs rws nx ct ch ln oo od_ thrown now saved hist kept reason detail isSaved comes queue far isInText ahead roomAt rooms text length at_ errorPosition toldFrom toldTo isWrong before) H locs → lv_has ls 9 [(0, .ref b), (1, .ref (ad 0)), (2, .ref (md 0)), (3, .ref ob), (4, .ref od), (5, .int i)] → W p l e room_1 s m args below meth c H locs a1 a2 Q (F0 m 953 ls []) := by
  obtain ⟨hx, hb, hr, hml, hown, hts, hlocks⟩ := id C0
  intro H locs ls hw hl
  unfold fCase14 at hF
  refine lv_aload_n hx hb dL_law_953 rfl (lv_at hl 1 rfl) ?_
  refine lv_aload_n hx hb dL_law_954 rfl (lv_at hl 0 rfl) ?_
  refine lv_iload hx hb dL_law_955 (lv_at hl 5 rfl) ?_
  refine lv_iconst (v := (1 : Int32)) hx hb dL_law_957 (by decide) ?_
  refine lv_iadd hx hb dL_law_958 ?_
  obtain ⟨hi1, hF⟩ := zck_in hF
  refine va_sld hx hb hX hbl hbA hw.2.2 hi1 dL_law_959 ?_
  refine lv_aload_n hx hb dL_law_960 rfl (lv_at hl 0 rfl) ?_
  refine lv_iload hx hb dL_law_961 (lv_at hl 5 rfl) ?_
  refine lv_iconst (v := (2 : Int32)) hx hb dL_law_963 (by decide) ?_
  refine lv_iadd hx hb dL_law_964 ?_
  obtain ⟨hi2, hF⟩ := zck_in hF
  refine va_sld hx hb hX hbl hbA hw.2.2 hi2 dL_law_965 ?_
  refine lv_aload_n hx hb dL_law_966 rfl (lv_at hl 3 rfl) ?_
  obtain ⟨u3, hq4, hF⟩ := zbd_t hF
  refine zgoI4 (w' := (zLw ad ob od md k sv kE kR fb ft fs rws nx ct ch ln u3.2 od_ thrown now saved hist kept reason detail isSaved comes queue far isInText ahead roomAt rooms text length at_ errorPosition toldFrom toldTo isWrong before)) hw zLw_co zLw_co hA (zSW4 (As := [.ref (ad 0), .int (xs (i + (1 : Int32)).toNatClampNeg), .int (xs (i + (2 : Int32)).toNatClampNeg), .ref ob]) (rest := []) ⟨hx, hb, hml, hown, hts⟩ (mL_room l hl9 G k ad ob H.size sv kE kR fb ft fs rws nx ct ch ln oo (xs (i + (1 : Int32)).toNatClampNeg) (xs (i + (2 : Int32)).toNatClampNeg) u3 hq4) (vx_cwSW 4 hts gL_law_L_room rfl rfl rfl kdL_room ⟨Nat.le_of_ble_eq_true rfl, Nat.le_of_ble_eq_true rfl⟩) hK hA hw zLw_co rfl hl.1 rfl (Nat.le_of_ble_eq_true rfl) dL_law_967 ⟨(by show _ ≤ 603072; omega), (by show _ ≤ 7207018; omega)⟩) rfl (fun H locs hw => ?_)
  refine lv_istore (lv' := [(6, .int u3.1), (0, .ref b), (1, .ref (ad 0)), (2, .ref (md 0)), (3, .ref ob), (4, .ref od), (5, .int i)]) hx hb dL_law_970 hl (by decide) rfl (fun ls hl => ?_)
  refine lv_aload_n hx hb dL_law_972 rfl (lv_at hl 3 rfl) ?_
  refine lv_aload_n hx hb dL_law_973 rfl (lv_at hl 1 rfl) ?_
  refine lv_iload hx hb dL_law_974 (lv_at hl 6 rfl) ?_
  refine lv_iconst (v := (1 : Int32)) hx hb dL_law_976 (by decide) ?_
  refine lv_iadd hx hb dL_law_977 ?_
  obtain ⟨hi5, hF⟩ := zck_in hF
  refine va_sld hx hb hX hbl hbA hw.2.2 hi5 dL_law_978 ?_
  refine lv_aload_n hx hb dL_law_979 rfl (lv_at hl 1 rfl) ?_
  refine lv_iload hx hb dL_law_980 (lv_at hl 6 rfl) ?_
  refine lv_iconst (v := (2 : Int32)) hx hb dL_law_982 (by decide) ?_
  refine lv_iadd hx hb dL_law_983 ?_
  obtain ⟨hi6, hF⟩ := zck_in hF
  refine va_sld hx hb hX hbl hbA hw.2.2 hi6 dL_law_984 ?_
  obtain ⟨u7, hq8, hF⟩ := zbd_t hF
  refine zgoI4 (w' := (zLw ad ob od md k sv kE kR fb ft fs rws nx ct ch ln u3.2 od_ u7.2.1 now saved hist kept reason detail isSaved comes u7.2.2.1 far isInText ahead u7.2.2.2.1 u7.2.2.2.2 text length at_ errorPosition toldFrom toldTo isWrong before)) hw zLw_m zLw_m hA (zV4 (As := [.int (xs (i + (1 : Int32)).toNatClampNeg), .int (xs (i + (2 : Int32)).toNatClampNeg)]) (rest := []) ⟨hx, hb, hml, hown, hts⟩ (mX5_room l G k md H.size thrown now saved hist kept reason detail isSaved comes queue far isInText ahead roomAt rooms text length at_ errorPosition toldFrom toldTo isWrong before (xs (i + (1 : Int32)).toNatClampNeg) (xs (i + (2 : Int32)).toNatClampNeg) u7 hq8) (cwV 2 hts gL_law_X5_room rfl rfl rfl kdX5_room ⟨Nat.le_of_ble_eq_true rfl, Nat.le_of_ble_eq_true rfl⟩) hK hA hw zLw_m 0 rfl rfl rfl rfl hl.1 rfl (Nat.le_of_ble_eq_true rfl) dL_law_985 ⟨(by show _ ≤ 603072; omega), (by show _ ≤ 7207018; omega)⟩) rfl (fun H locs hw => ?_)
  refine lv_istore (lv' := [(7, .int u7.1), (6, .int u3.1), (0, .ref b), (1, .ref (ad 0)), (2, .ref (md 0)), (3, .ref ob), (4, .ref od), (5, .int i)]) hx hb dL_law_988 hl (by decide) rfl (fun ls hl => ?_)
  refine lv_aload_n hx hb dL_law_990 rfl (lv_at hl 4 rfl) ?_
  obtain ⟨u9, hq10, hF⟩ := zbd_t hF
  refine zgoI4 (w' := (zLw ad ob od md k sv kE kR fb ft fs rws nx ct ch ln u3.2 od_ u7.2.1 now saved hist kept reason detail isSaved comes u7.2.2.1 far isInText ahead u7.2.2.2.1 u7.2.2.2.2 text length at_ errorPosition toldFrom toldTo isWrong before)) hw zLw_m zLw_m hA (zV4 (As := []) (rest := []) ⟨hx, hb, hml, hown, hts⟩ (mX5_thrown l G k md H.size u7.2.1 now saved hist kept reason detail isSaved comes u7.2.2.1 far isInText ahead u7.2.2.2.1 u7.2.2.2.2 text length at_ errorPosition toldFrom toldTo isWrong before  u9 hq10) (cwV 0 hts gL_law_X5_thrown rfl rfl rfl kdX5_thrown ⟨Nat.le_of_ble_eq_true rfl, Nat.le_of_ble_eq_true rfl⟩) hK hA hw zLw_m 0 rfl rfl rfl rfl hl.1 rfl (Nat.le_of_ble_eq_true rfl) dL_law_991 ⟨(by show _ ≤ 603072; omega), (by show _ ≤ 7207018; omega)⟩) rfl (fun H locs hw => ?_)
  refine lv_iload hx hb dL_law_994 (lv_at hl 1 rfl) ?_
  refine lv_icmp_eq (tgt := 1001) hx hb dL_law_996 (by decide) (fun hc => ?_) (fun hc => ?_)
  · have hF := zif_t hc hF
    refine lv_iload hx hb dL_law_1001 (lv_at hl 1 rfl) ?_
    refine lv_if_ne (tgt := 1018) hx hb dL_law_1003 (by decide) (fun hc => ?_) (fun hc => ?_)
    · have hF := zif_f hc hF
      refine lv_goto (tgt := 1789) hx hb dL_law_1018 (by decide) ?_
      obtain rfl := Option.some.inj hF
      refine W.widen (k := a1 + 8) (n := a2 + 48) (by omega) (by omega) ?_
      exact hk _ _ _ hw (lv_sub hl [2, 3, 4, 5, 6, 7] rfl)
    · have hF := zif_t hc hF
      refine lv_aload_n hx hb dL_law_1006 rfl (lv_at hl 5 rfl) ?_
      refine lv_iconst (v := (0 : Int32)) hx hb dL_law_1007 (by decide) ?_
      obtain ⟨hi11, hF⟩ := zck_in hF
      refine va_lald hx hb hK.1 hw.1 12 0 rfl rfl hi11 dL_law_1008 ?_
      refine lv_iload hx hb dL_law_1009 (lv_at hl 0 rfl) ?_
      refine lv_i2l hx hb dL_law_1011 rfl ?_
      refine W.lcmp hx hb dL_law_1012 ?_
      refine lv_if_eq (tgt := 1018) hx hb dL_law_1013 (by decide) (fun hc => ?_) (fun hc => ?_)
      · have hF := zif_t hc hF
        refine lv_goto (tgt := 1789) hx hb dL_law_1018 (by decide) ?_
        obtain rfl := Option.some.inj hF
        refine W.widen (k := a1 + 8) (n := a2 + 48) (by omega) (by omega) ?_
        exact hk _ _ _ hw (lv_sub hl [2, 3, 4, 5, 6, 7] rfl)
      · have hF := zif_f hc hF
        refine lv_iconst (v := (0 : Int32)) hx hb dL_law_1016 (by decide) ?_
        obtain rfl := Option.some.inj hF
        exact absurd h1 (show ¬ ((0 : Int32)) = 1 by decide)
  · have hF := zif_f hc hF
    refine lv_iconst (v := (0 : Int32)) hx hb dL_law_999 (by decide) ?_
    obtain rfl := Option.some.inj hF
    exact absurd h1 (show ¬ ((0 : Int32)) = 1 by decide)
set_option maxHeartbeats 800000 in
set_option maxRecDepth 100000 in
theorem wCase15 {p : Program} {l : Launch} {e : Env} {s : State} {m : MethodId} {args : Array Value} {below : List Frame} {meth : Method} {c : Code} {A : Nat → Prop} {Q : State → Prop} {G : va_G} {k : Nat → ClassId} {ad : Nat → Nat} {ob od : Nat} {md : Nat → Nat} {b L a1 a2 : Nat} {xs : Nat → Int32} {i : Int32} {sv : Int32} {kE : Int32} {kR : Int32} {fb : Nat → Int64} {ft : Nat → Int64} {fs : Nat → Int64} {rws : Nat → Int64} {nx : Int32} {ct : Int32} {ch : Nat → Int32} {ln : Int32} {oo : Nat → Int64} {od_ : Nat → UInt64} {thrown : Int32} {now : Nat → Int32} {saved : Nat → Int32} {hist : Nat → Nat → Int32} {kept : Int32} {reason : Int32} {detail : Int32} {isSaved : Int32} {comes : Nat → Int32} {queue : Nat → Int32} {far : Nat → Int32} {isInText : Int32} {ahead : Nat → Int32} {roomAt : Nat → Int32} {rooms : Int32} {text : Nat → Int32} {length : Int32} {at_ : Int32} {errorPosition : Int32} {toldFrom : Int32} {toldTo : Int32} {isWrong : Int32} {before : Nat → Int32} {o : zSt} (C0 : zCx p s m args meth c wsL_law code RL ret 9) (hl9 : l.stackTraces = false) (hK : zKK G k A s s.heap) (hA : ∀ q : Nat, s.heap.size ≤ q → A q) (hX : va_X b L xs s s.heap) (hbl : b < s.heap.size) (hbA : ¬ A b) (hr1 : a1 + 8 ≤ 603072) (hr2 : a2 + 48 ≤ 7207018) (hF : fCase15 xs L i sv kE kR fb ft fs rws nx ct ch ln oo od_ thrown now saved hist kept reason detail isSaved comes queue far isInText ahead roomAt rooms text length at_ errorPosition toldFrom toldTo isWrong before = some o) (h1 : o.1 = 1)
    (hk : ∀ (H : Heap) (locs : List Loc) (ls : Array Slot), zWd G A s (zLw ad ob od md k o.2.1 o.2.2.1 o.2.2.2.1 o.2.2.2.2.1 o.2.2.2.2.2.1 o.2.2.2.2.2.2.1 o.2.2.2.2.2.2.2.1 o.2.2.2.2.2.2.2.2.1 o.2.2.2.2.2.2.2.2.2.1 o.2.2.2.2.2.2.2.2.2.2.1 o.2.2.2.2.2.2.2.2.2.2.2.1 o.2.2.2.2.2.2.2.2.2.2.2.2.1 o.2.2.2.2.2.2.2.2.2.2.2.2.2.1 o.2.2.2.2.2.2.2.2.2.2.2.2.2.2.1 o.2.2.2.2.2.2.2.2.2.2.2.2.2.2.2.1 o.2.2.2.2.2.2.2.2.2.2.2.2.2.2.2.2.1 o.2.2.2.2.2.2.2.2.2.2.2.2.2.2.2.2.2.1 o.2.2.2.2.2.2.2.2.2.2.2.2.2.2.2.2.2.2.1 o.2.2.2.2.2.2.2.2.2.2.2.2.2.2.2.2.2.2.2.1 o.2.2.2.2.2.2.2.2.2.2.2.2.2.2.2.2.2.2.2.2.1 o.2.2.2.2.2.2.2.2.2.2.2.2.2.2.2.2.2.2.2.2.2.1 o.2.2.2.2.2.2.2.2.2.2.2.2.2.2.2.2.2.2.2.2.2.2.1 o.2.2.2.2.2.2.2.2.2.2.2.2.2.2.2.2.2.2.2.2.2.2.2.1 o.2.2.2.2.2.2.2.2.2.2.2.2.2.2.2.2.2.2.2.2.2.2.2.2.1 o.2.2.2.2.2.2.2.2.2.2.2.2.2.2.2.2.2.2.2.2.2.2.2.2.2.1 o.2.2.2.2.2.2.2.2.2.2.2.2.2.2.2.2.2.2.2.2.2.2.2.2.2.2.1 o.2.2.2.2.2.2.2.2.2.2.2.2.2.2.2.2.2.2.2.2.2.2.2.2.2.2.2.1 o.2.2.2.2.2.2.2.2.2.2.2.2.2.2.2.2.2.2.2.2.2.2.2.2.2.2.2.2.1 o.2.2.2.2.2.2.2.2.2.2.2.2.2.2.2.2.2.2.2.2.2.2.2.2.2.2.2.2.2.1 o.2.2.2.2.2.2.2.2.2.2.2.2.2.2.2.2.2.2.2.2.2.2.2.2.2.2.2.2.2.2.1 o.2.2.2.2.2.2.2.2.2.2.2.2.2.2.2.2.2.2.2.2.2.2.2.2.2.2.2.2.2.2.2.1 o.2.2.2.2.2.2.2.2.2.2.2.2.2.2.2.2.2.2.2.2.2.2.2.2.2.2.2.2.2.2.2.2.1 o.2.2.2.2.2.2.2.2.2.2.2.2.2.2.2.2.2.2.2.2.2.2.2.2.2.2.2.2.2.2.2.2.2.1 o.2.2.2.2.2.2.2.2.2.2.2.2.2.2.2.2.2.2.2.2.2.2.2.2.2.2.2.2.2.2.2.2.2.2.1 o.2.2.2.2.2.2.2.2.2.2.2.2.2.2.2.2.2.2.2.2.2.2.2.2.2.2.2.2.2.2.2.2.2.2.2.1 o.2.2.2.2.2.2.2.2.2.2.2.2.2.2.2.2.2.2.2.2.2.2.2.2.2.2.2.2.2.2.2.2.2.2.2.2) H locs → lv_has ls 9 [(0, .ref b), (1, .ref (ad 0)), (2, .ref (md 0)), (3, .ref ob), (4, .ref od), (5, .int i)] → W p l e room_1 s m args below meth c H locs (a1 + 8) (a2 + 48) Q (F0 m 1789 ls [])) :
    ∀ (H : Heap) (locs : List Loc) (ls : Array Slot), zWd G A s (zLw ad ob od md k sv kE kR fb ft fs rws nx ct ch ln oo od_ thrown now saved hist kept reason detail isSaved comes queue far isInText ahead roomAt rooms text length at_ errorPosition toldFrom toldTo isWrong before) H locs → lv_has ls 9 [(0, .ref b), (1, .ref (ad 0)), (2, .ref (md 0)), (3, .ref ob), (4, .ref od), (5, .int i)] → W p l e room_1 s m args below meth c H locs a1 a2 Q (F0 m 1021 ls []) := by
  obtain ⟨hx, hb, hr, hml, hown, hts, hlocks⟩ := id C0
  intro H locs ls hw hl
  unfold fCase15 at hF
  refine lv_aload_n hx hb dL_law_1021 rfl (lv_at hl 1 rfl) ?_
  refine lv_aload_n hx hb dL_law_1022 rfl (lv_at hl 0 rfl) ?_
  refine lv_iload hx hb dL_law_1023 (lv_at hl 5 rfl) ?_
  refine lv_iconst (v := (1 : Int32)) hx hb dL_law_1025 (by decide) ?_
  refine lv_iadd hx hb dL_law_1026 ?_
  obtain ⟨hi1, hF⟩ := zck_in hF
  refine va_sld hx hb hX hbl hbA hw.2.2 hi1 dL_law_1027 ?_
  refine lv_aload_n hx hb dL_law_1028 rfl (lv_at hl 0 rfl) ?_
  refine lv_iload hx hb dL_law_1029 (lv_at hl 5 rfl) ?_
  refine lv_iconst (v := (2 : Int32)) hx hb dL_law_1031 (by decide) ?_
  refine lv_iadd hx hb dL_law_1032 ?_
  obtain ⟨hi2, hF⟩ := zck_in hF
  refine va_sld hx hb hX hbl hbA hw.2.2 hi2 dL_law_1033 ?_
  refine lv_aload_n hx hb dL_law_1034 rfl (lv_at hl 0 rfl) ?_
  refine lv_iload hx hb dL_law_1035 (lv_at hl 5 rfl) ?_
  refine lv_iconst (v := (3 : Int32)) hx hb dL_law_1037 (by decide) ?_
  refine lv_iadd hx hb dL_law_1038 ?_
  obtain ⟨hi3, hF⟩ := zck_in hF
  refine va_sld hx hb hX hbl hbA hw.2.2 hi3 dL_law_1039 ?_
  refine lv_aload_n hx hb dL_law_1040 rfl (lv_at hl 3 rfl) ?_
  obtain ⟨u4, hq5, hF⟩ := zbd_t hF
  refine zgoI4 (w' := (zLw ad ob od md k sv kE kR fb ft fs rws nx ct ch ln u4.2 od_ thrown now saved hist kept reason detail isSaved comes queue far isInText ahead roomAt rooms text length at_ errorPosition toldFrom toldTo isWrong before)) hw zLw_co zLw_co hA (zSW4 (As := [.ref (ad 0), .int (xs (i + (1 : Int32)).toNatClampNeg), .int (xs (i + (2 : Int32)).toNatClampNeg), .int (xs (i + (3 : Int32)).toNatClampNeg), .ref ob]) (rest := []) ⟨hx, hb, hml, hown, hts⟩ (mL_roomOf l hl9 G k ad ob H.size sv kE kR fb ft fs rws nx ct ch ln oo (xs (i + (1 : Int32)).toNatClampNeg) (xs (i + (2 : Int32)).toNatClampNeg) (xs (i + (3 : Int32)).toNatClampNeg) u4 hq5) (vx_cwSW 5 hts gL_law_L_roomOf rfl rfl rfl kdL_roomOf ⟨Nat.le_of_ble_eq_true rfl, Nat.le_of_ble_eq_true rfl⟩) hK hA hw zLw_co rfl hl.1 rfl (Nat.le_of_ble_eq_true rfl) dL_law_1041 ⟨(by show _ ≤ 603072; omega), (by show _ ≤ 7207018; omega)⟩) rfl (fun H locs hw => ?_)
  refine lv_istore (lv' := [(6, .int u4.1), (0, .ref b), (1, .ref (ad 0)), (2, .ref (md 0)), (3, .ref ob), (4, .ref od), (5, .int i)]) hx hb dL_law_1044 hl (by decide) rfl (fun ls hl => ?_)
  refine lv_aload_n hx hb dL_law_1046 rfl (lv_at hl 3 rfl) ?_
  refine lv_aload_n hx hb dL_law_1047 rfl (lv_at hl 1 rfl) ?_
  refine lv_iload hx hb dL_law_1048 (lv_at hl 6 rfl) ?_
  refine lv_iconst (v := (1 : Int32)) hx hb dL_law_1050 (by decide) ?_
  refine lv_iadd hx hb dL_law_1051 ?_
  obtain ⟨hi6, hF⟩ := zck_in hF
  refine va_sld hx hb hX hbl hbA hw.2.2 hi6 dL_law_1052 ?_
  refine lv_aload_n hx hb dL_law_1053 rfl (lv_at hl 1 rfl) ?_
  refine lv_iload hx hb dL_law_1054 (lv_at hl 6 rfl) ?_
  refine lv_iconst (v := (2 : Int32)) hx hb dL_law_1056 (by decide) ?_
  refine lv_iadd hx hb dL_law_1057 ?_
  obtain ⟨hi7, hF⟩ := zck_in hF
  refine va_sld hx hb hX hbl hbA hw.2.2 hi7 dL_law_1058 ?_
  refine lv_aload_n hx hb dL_law_1059 rfl (lv_at hl 1 rfl) ?_
  refine lv_iload hx hb dL_law_1060 (lv_at hl 6 rfl) ?_
  refine lv_iconst (v := (3 : Int32)) hx hb dL_law_1062 (by decide) ?_
  refine lv_iadd hx hb dL_law_1063 ?_
  obtain ⟨hi8, hF⟩ := zck_in hF
  refine va_sld hx hb hX hbl hbA hw.2.2 hi8 dL_law_1064 ?_
  obtain ⟨u9, hq10, hF⟩ := zbd_t hF
  refine zgoI4 (w' := (zLw ad ob od md k sv kE kR fb ft fs rws nx ct ch ln u4.2 od_ u9.2.1 now saved hist kept reason detail isSaved comes u9.2.2.1 far isInText ahead u9.2.2.2.1 u9.2.2.2.2 text length at_ errorPosition toldFrom toldTo isWrong before)) hw zLw_m zLw_m hA (zV4 (As := [.int (xs (i + (1 : Int32)).toNatClampNeg), .int (xs (i + (2 : Int32)).toNatClampNeg), .int (xs (i + (3 : Int32)).toNatClampNeg)]) (rest := []) ⟨hx, hb, hml, hown, hts⟩ (mX5_roomOf l G k md H.size thrown now saved hist kept reason detail isSaved comes queue far isInText ahead roomAt rooms text length at_ errorPosition toldFrom toldTo isWrong before (xs (i + (1 : Int32)).toNatClampNeg) (xs (i + (2 : Int32)).toNatClampNeg) (xs (i + (3 : Int32)).toNatClampNeg) u9 hq10) (cwV 3 hts gL_law_X5_roomOf rfl rfl rfl kdX5_roomOf ⟨Nat.le_of_ble_eq_true rfl, Nat.le_of_ble_eq_true rfl⟩) hK hA hw zLw_m 0 rfl rfl rfl rfl hl.1 rfl (Nat.le_of_ble_eq_true rfl) dL_law_1065 ⟨(by show _ ≤ 603072; omega), (by show _ ≤ 7207018; omega)⟩) rfl (fun H locs hw => ?_)
  refine lv_istore (lv' := [(7, .int u9.1), (6, .int u4.1), (0, .ref b), (1, .ref (ad 0)), (2, .ref (md 0)), (3, .ref ob), (4, .ref od), (5, .int i)]) hx hb dL_law_1068 hl (by decide) rfl (fun ls hl => ?_)
  refine lv_aload_n hx hb dL_law_1070 rfl (lv_at hl 4 rfl) ?_
  obtain ⟨u11, hq12, hF⟩ := zbd_t hF
  refine zgoI4 (w' := (zLw ad ob od md k sv kE kR fb ft fs rws nx ct ch ln u4.2 od_ u9.2.1 now saved hist kept reason detail isSaved comes u9.2.2.1 far isInText ahead u9.2.2.2.1 u9.2.2.2.2 text length at_ errorPosition toldFrom toldTo isWrong before)) hw zLw_m zLw_m hA (zV4 (As := []) (rest := []) ⟨hx, hb, hml, hown, hts⟩ (mX5_thrown l G k md H.size u9.2.1 now saved hist kept reason detail isSaved comes u9.2.2.1 far isInText ahead u9.2.2.2.1 u9.2.2.2.2 text length at_ errorPosition toldFrom toldTo isWrong before  u11 hq12) (cwV 0 hts gL_law_X5_thrown rfl rfl rfl kdX5_thrown ⟨Nat.le_of_ble_eq_true rfl, Nat.le_of_ble_eq_true rfl⟩) hK hA hw zLw_m 0 rfl rfl rfl rfl hl.1 rfl (Nat.le_of_ble_eq_true rfl) dL_law_1071 ⟨(by show _ ≤ 603072; omega), (by show _ ≤ 7207018; omega)⟩) rfl (fun H locs hw => ?_)
  refine lv_iload hx hb dL_law_1074 (lv_at hl 1 rfl) ?_
  refine lv_icmp_eq (tgt := 1081) hx hb dL_law_1076 (by decide) (fun hc => ?_) (fun hc => ?_)
  · have hF := zif_t hc hF
    refine lv_iload hx hb dL_law_1081 (lv_at hl 1 rfl) ?_
    refine lv_if_ne (tgt := 1098) hx hb dL_law_1083 (by decide) (fun hc => ?_) (fun hc => ?_)
    · have hF := zif_f hc hF
      refine lv_goto (tgt := 1789) hx hb dL_law_1098 (by decide) ?_
      obtain rfl := Option.some.inj hF
      refine W.widen (k := a1 + 8) (n := a2 + 48) (by omega) (by omega) ?_
      exact hk _ _ _ hw (lv_sub hl [2, 3, 4, 5, 6, 7] rfl)
    · have hF := zif_t hc hF
      refine lv_aload_n hx hb dL_law_1086 rfl (lv_at hl 5 rfl) ?_
      refine lv_iconst (v := (0 : Int32)) hx hb dL_law_1087 (by decide) ?_
      obtain ⟨hi13, hF⟩ := zck_in hF
      refine va_lald hx hb hK.1 hw.1 12 0 rfl rfl hi13 dL_law_1088 ?_
      refine lv_iload hx hb dL_law_1089 (lv_at hl 0 rfl) ?_
      refine lv_i2l hx hb dL_law_1091 rfl ?_
      refine W.lcmp hx hb dL_law_1092 ?_
      refine lv_if_eq (tgt := 1098) hx hb dL_law_1093 (by decide) (fun hc => ?_) (fun hc => ?_)
      · have hF := zif_t hc hF
        refine lv_goto (tgt := 1789) hx hb dL_law_1098 (by decide) ?_
        obtain rfl := Option.some.inj hF
        refine W.widen (k := a1 + 8) (n := a2 + 48) (by omega) (by omega) ?_
        exact hk _ _ _ hw (lv_sub hl [2, 3, 4, 5, 6, 7] rfl)
      · have hF := zif_f hc hF
        refine lv_iconst (v := (0 : Int32)) hx hb dL_law_1096 (by decide) ?_
        obtain rfl := Option.some.inj hF
        exact absurd h1 (show ¬ ((0 : Int32)) = 1 by decide)
  · have hF := zif_f hc hF
    refine lv_iconst (v := (0 : Int32)) hx hb dL_law_1079 (by decide) ?_
    obtain rfl := Option.some.inj hF
    exact absurd h1 (show ¬ ((0 : Int32)) = 1 by decide)
set_option maxHeartbeats 800000 in
set_option maxRecDepth 100000 in
theorem wCase16 {p : Program} {l : Launch} {e : Env} {s : State} {m : MethodId} {args : Array Value} {below : List Frame} {meth : Method} {c : Code} {A : Nat → Prop} {Q : State → Prop} {G : va_G} {k : Nat → ClassId} {ad : Nat → Nat} {ob od : Nat} {md : Nat → Nat} {b L a1 a2 : Nat} {xs : Nat → Int32} {i : Int32} {sv : Int32} {kE : Int32} {kR : Int32} {fb : Nat → Int64} {ft : Nat → Int64} {fs : Nat → Int64} {rws : Nat → Int64} {nx : Int32} {ct : Int32} {ch : Nat → Int32} {ln : Int32} {oo : Nat → Int64} {od_ : Nat → UInt64} {thrown : Int32} {now : Nat → Int32} {saved : Nat → Int32} {hist : Nat → Nat → Int32} {kept : Int32} {reason : Int32} {detail : Int32} {isSaved : Int32} {comes : Nat → Int32} {queue : Nat → Int32} {far : Nat → Int32} {isInText : Int32} {ahead : Nat → Int32} {roomAt : Nat → Int32} {rooms : Int32} {text : Nat → Int32} {length : Int32} {at_ : Int32} {errorPosition : Int32} {toldFrom : Int32} {toldTo : Int32} {isWrong : Int32} {before : Nat → Int32} {o : zSt} (C0 : zCx p s m args meth c wsL_law code RL ret 9) (hl9 : l.stackTraces = false) (hK : zKK G k A s s.heap) (hA : ∀ q : Nat, s.heap.size ≤ q → A q) (hX : va_X b L xs s s.heap) (hbl : b < s.heap.size) (hbA : ¬ A b) (hr1 : a1 + 8 ≤ 603072) (hr2 : a2 + 48 ≤ 7207018) (hF : fCase16 xs L i sv kE kR fb ft fs rws nx ct ch ln oo od_ thrown now saved hist kept reason detail isSaved comes queue far isInText ahead roomAt rooms text length at_ errorPosition toldFrom toldTo isWrong before = some o) (h1 : o.1 = 1)
    (hk : ∀ (H : Heap) (locs : List Loc) (ls : Array Slot), zWd G A s (zLw ad ob od md k o.2.1 o.2.2.1 o.2.2.2.1 o.2.2.2.2.1 o.2.2.2.2.2.1 o.2.2.2.2.2.2.1 o.2.2.2.2.2.2.2.1 o.2.2.2.2.2.2.2.2.1 o.2.2.2.2.2.2.2.2.2.1 o.2.2.2.2.2.2.2.2.2.2.1 o.2.2.2.2.2.2.2.2.2.2.2.1 o.2.2.2.2.2.2.2.2.2.2.2.2.1 o.2.2.2.2.2.2.2.2.2.2.2.2.2.1 o.2.2.2.2.2.2.2.2.2.2.2.2.2.2.1 o.2.2.2.2.2.2.2.2.2.2.2.2.2.2.2.1 o.2.2.2.2.2.2.2.2.2.2.2.2.2.2.2.2.1 o.2.2.2.2.2.2.2.2.2.2.2.2.2.2.2.2.2.1 o.2.2.2.2.2.2.2.2.2.2.2.2.2.2.2.2.2.2.1 o.2.2.2.2.2.2.2.2.2.2.2.2.2.2.2.2.2.2.2.1 o.2.2.2.2.2.2.2.2.2.2.2.2.2.2.2.2.2.2.2.2.1 o.2.2.2.2.2.2.2.2.2.2.2.2.2.2.2.2.2.2.2.2.2.1 o.2.2.2.2.2.2.2.2.2.2.2.2.2.2.2.2.2.2.2.2.2.2.1 o.2.2.2.2.2.2.2.2.2.2.2.2.2.2.2.2.2.2.2.2.2.2.2.1 o.2.2.2.2.2.2.2.2.2.2.2.2.2.2.2.2.2.2.2.2.2.2.2.2.1 o.2.2.2.2.2.2.2.2.2.2.2.2.2.2.2.2.2.2.2.2.2.2.2.2.2.1 o.2.2.2.2.2.2.2.2.2.2.2.2.2.2.2.2.2.2.2.2.2.2.2.2.2.2.1 o.2.2.2.2.2.2.2.2.2.2.2.2.2.2.2.2.2.2.2.2.2.2.2.2.2.2.2.1 o.2.2.2.2.2.2.2.2.2.2.2.2.2.2.2.2.2.2.2.2.2.2.2.2.2.2.2.2.1 o.2.2.2.2.2.2.2.2.2.2.2.2.2.2.2.2.2.2.2.2.2.2.2.2.2.2.2.2.2.1 o.2.2.2.2.2.2.2.2.2.2.2.2.2.2.2.2.2.2.2.2.2.2.2.2.2.2.2.2.2.2.1 o.2.2.2.2.2.2.2.2.2.2.2.2.2.2.2.2.2.2.2.2.2.2.2.2.2.2.2.2.2.2.2.1 o.2.2.2.2.2.2.2.2.2.2.2.2.2.2.2.2.2.2.2.2.2.2.2.2.2.2.2.2.2.2.2.2.1 o.2.2.2.2.2.2.2.2.2.2.2.2.2.2.2.2.2.2.2.2.2.2.2.2.2.2.2.2.2.2.2.2.2.1 o.2.2.2.2.2.2.2.2.2.2.2.2.2.2.2.2.2.2.2.2.2.2.2.2.2.2.2.2.2.2.2.2.2.2.1 o.2.2.2.2.2.2.2.2.2.2.2.2.2.2.2.2.2.2.2.2.2.2.2.2.2.2.2.2.2.2.2.2.2.2.2.1 o.2.2.2.2.2.2.2.2.2.2.2.2.2.2.2.2.2.2.2.2.2.2.2.2.2.2.2.2.2.2.2.2.2.2.2.2) H locs → lv_has ls 9 [(0, .ref b), (1, .ref (ad 0)), (2, .ref (md 0)), (3, .ref ob), (4, .ref od), (5, .int i)] → W p l e room_1 s m args below meth c H locs (a1 + 8) (a2 + 48) Q (F0 m 1789 ls [])) :
    ∀ (H : Heap) (locs : List Loc) (ls : Array Slot), zWd G A s (zLw ad ob od md k sv kE kR fb ft fs rws nx ct ch ln oo od_ thrown now saved hist kept reason detail isSaved comes queue far isInText ahead roomAt rooms text length at_ errorPosition toldFrom toldTo isWrong before) H locs → lv_has ls 9 [(0, .ref b), (1, .ref (ad 0)), (2, .ref (md 0)), (3, .ref ob), (4, .ref od), (5, .int i)] → W p l e room_1 s m args below meth c H locs a1 a2 Q (F0 m 1101 ls []) := by
  obtain ⟨hx, hb, hr, hml, hown, hts, hlocks⟩ := id C0
  intro H locs ls hw hl
  unfold fCase16 at hF
  refine lv_aload_n hx hb dL_law_1101 rfl (lv_at hl 1 rfl) ?_
  refine lv_aload_n hx hb dL_law_1102 rfl (lv_at hl 0 rfl) ?_
  refine lv_iload hx hb dL_law_1103 (lv_at hl 5 rfl) ?_
  refine lv_iconst (v := (1 : Int32)) hx hb dL_law_1105 (by decide) ?_
  refine lv_iadd hx hb dL_law_1106 ?_
  obtain ⟨hi1, hF⟩ := zck_in hF
  refine va_sld hx hb hX hbl hbA hw.2.2 hi1 dL_law_1107 ?_
  refine lv_aload_n hx hb dL_law_1108 rfl (lv_at hl 3 rfl) ?_
  obtain ⟨u2, hq3, hF⟩ := zbd_t hF
  refine zgoI4 (w' := (zLw ad ob od md k sv kE kR fb ft fs rws nx ct ch ln u2.2 od_ thrown now saved hist kept reason detail isSaved comes queue far isInText ahead roomAt rooms text length at_ errorPosition toldFrom toldTo isWrong before)) hw zLw_co zLw_co hA (zSW4 (As := [.ref (ad 0), .int (xs (i + (1 : Int32)).toNatClampNeg), .ref ob]) (rest := []) ⟨hx, hb, hml, hown, hts⟩ (mL_sealed l hl9 G k ad ob H.size sv kE kR fb ft fs rws nx ct ch ln oo (xs (i + (1 : Int32)).toNatClampNeg) u2 hq3) (vx_cwSW 3 hts gL_law_L_sealed rfl rfl rfl kdL_sealed ⟨Nat.le_of_ble_eq_true rfl, Nat.le_of_ble_eq_true rfl⟩) hK hA hw zLw_co rfl hl.1 rfl (Nat.le_of_ble_eq_true rfl) dL_law_1109 ⟨(by show _ ≤ 603072; omega), (by show _ ≤ 7207018; omega)⟩) rfl (fun H locs hw => ?_)
  refine lv_istore (lv' := [(6, .int u2.1), (0, .ref b), (1, .ref (ad 0)), (2, .ref (md 0)), (3, .ref ob), (4, .ref od), (5, .int i)]) hx hb dL_law_1112 hl (by decide) rfl (fun ls hl => ?_)
  refine lv_aload_n hx hb dL_law_1114 rfl (lv_at hl 3 rfl) ?_
  refine lv_aload_n hx hb dL_law_1115 rfl (lv_at hl 1 rfl) ?_
  refine lv_iload hx hb dL_law_1116 (lv_at hl 6 rfl) ?_
  refine lv_iconst (v := (1 : Int32)) hx hb dL_law_1118 (by decide) ?_
  refine lv_iadd hx hb dL_law_1119 ?_
  obtain ⟨hi4, hF⟩ := zck_in hF
  refine va_sld hx hb hX hbl hbA hw.2.2 hi4 dL_law_1120 ?_
  obtain ⟨u5, hq6, hF⟩ := zbd_t hF
  refine zgoI4 (w' := (zLw ad ob od md k sv kE kR fb ft fs rws nx ct ch ln u2.2 od_ u5.2.1 now saved hist kept reason detail isSaved comes u5.2.2.1 far isInText ahead u5.2.2.2.1 u5.2.2.2.2 text length at_ errorPosition toldFrom toldTo isWrong before)) hw zLw_m zLw_m hA (zV4 (As := [.int (xs (i + (1 : Int32)).toNatClampNeg)]) (rest := []) ⟨hx, hb, hml, hown, hts⟩ (mX5_sealed l G k md H.size thrown now saved hist kept reason detail isSaved comes queue far isInText ahead roomAt rooms text length at_ errorPosition toldFrom toldTo isWrong before (xs (i + (1 : Int32)).toNatClampNeg) u5 hq6) (cwV 1 hts gL_law_X5_sealed rfl rfl rfl kdX5_sealed ⟨Nat.le_of_ble_eq_true rfl, Nat.le_of_ble_eq_true rfl⟩) hK hA hw zLw_m 0 rfl rfl rfl rfl hl.1 rfl (Nat.le_of_ble_eq_true rfl) dL_law_1121 ⟨(by show _ ≤ 603072; omega), (by show _ ≤ 7207018; omega)⟩) rfl (fun H locs hw => ?_)
  refine lv_istore (lv' := [(7, .int u5.1), (6, .int u2.1), (0, .ref b), (1, .ref (ad 0)), (2, .ref (md 0)), (3, .ref ob), (4, .ref od), (5, .int i)]) hx hb dL_law_1124 hl (by decide) rfl (fun ls hl => ?_)
  refine lv_aload_n hx hb dL_law_1126 rfl (lv_at hl 4 rfl) ?_
  obtain ⟨u7, hq8, hF⟩ := zbd_t hF
  refine zgoI4 (w' := (zLw ad ob od md k sv kE kR fb ft fs rws nx ct ch ln u2.2 od_ u5.2.1 now saved hist kept reason detail isSaved comes u5.2.2.1 far isInText ahead u5.2.2.2.1 u5.2.2.2.2 text length at_ errorPosition toldFrom toldTo isWrong before)) hw zLw_m zLw_m hA (zV4 (As := []) (rest := []) ⟨hx, hb, hml, hown, hts⟩ (mX5_thrown l G k md H.size u5.2.1 now saved hist kept reason detail isSaved comes u5.2.2.1 far isInText ahead u5.2.2.2.1 u5.2.2.2.2 text length at_ errorPosition toldFrom toldTo isWrong before  u7 hq8) (cwV 0 hts gL_law_X5_thrown rfl rfl rfl kdX5_thrown ⟨Nat.le_of_ble_eq_true rfl, Nat.le_of_ble_eq_true rfl⟩) hK hA hw zLw_m 0 rfl rfl rfl rfl hl.1 rfl (Nat.le_of_ble_eq_true rfl) dL_law_1127 ⟨(by show _ ≤ 603072; omega), (by show _ ≤ 7207018; omega)⟩) rfl (fun H locs hw => ?_)
  refine lv_iload hx hb dL_law_1130 (lv_at hl 1 rfl) ?_
  refine lv_icmp_eq (tgt := 1137) hx hb dL_law_1132 (by decide) (fun hc => ?_) (fun hc => ?_)
  · have hF := zif_t hc hF
    refine lv_iload hx hb dL_law_1137 (lv_at hl 1 rfl) ?_
    refine lv_if_ne (tgt := 1154) hx hb dL_law_1139 (by decide) (fun hc => ?_) (fun hc => ?_)
    · have hF := zif_f hc hF
      refine lv_goto (tgt := 1789) hx hb dL_law_1154 (by decide) ?_
      obtain rfl := Option.some.inj hF
      refine W.widen (k := a1 + 8) (n := a2 + 48) (by omega) (by omega) ?_
      exact hk _ _ _ hw (lv_sub hl [2, 3, 4, 5, 6, 7] rfl)
    · have hF := zif_t hc hF
      refine lv_aload_n hx hb dL_law_1142 rfl (lv_at hl 5 rfl) ?_
      refine lv_iconst (v := (0 : Int32)) hx hb dL_law_1143 (by decide) ?_
      obtain ⟨hi9, hF⟩ := zck_in hF
      refine va_lald hx hb hK.1 hw.1 12 0 rfl rfl hi9 dL_law_1144 ?_
      refine lv_iload hx hb dL_law_1145 (lv_at hl 0 rfl) ?_
      refine lv_i2l hx hb dL_law_1147 rfl ?_
      refine W.lcmp hx hb dL_law_1148 ?_
      refine lv_if_eq (tgt := 1154) hx hb dL_law_1149 (by decide) (fun hc => ?_) (fun hc => ?_)
      · have hF := zif_t hc hF
        refine lv_goto (tgt := 1789) hx hb dL_law_1154 (by decide) ?_
        obtain rfl := Option.some.inj hF
        refine W.widen (k := a1 + 8) (n := a2 + 48) (by omega) (by omega) ?_
        exact hk _ _ _ hw (lv_sub hl [2, 3, 4, 5, 6, 7] rfl)
      · have hF := zif_f hc hF
        refine lv_iconst (v := (0 : Int32)) hx hb dL_law_1152 (by decide) ?_
        obtain rfl := Option.some.inj hF
        exact absurd h1 (show ¬ ((0 : Int32)) = 1 by decide)
  · have hF := zif_f hc hF
    refine lv_iconst (v := (0 : Int32)) hx hb dL_law_1135 (by decide) ?_
    obtain rfl := Option.some.inj hF
    exact absurd h1 (show ¬ ((0 : Int32)) = 1 by decide)
set_option maxHeartbeats 800000 in
set_option maxRecDepth 100000 in
theorem wCase17 {p : Program} {l : Launch} {e : Env} {s : State} {m : MethodId} {args : Array Value} {below : List Frame} {meth : Method} {c : Code} {A : Nat → Prop} {Q : State → Prop} {G : va_G} {k : Nat → ClassId} {ad : Nat → Nat} {ob od : Nat} {md : Nat → Nat} {b L a1 a2 : Nat} {xs : Nat → Int32} {i : Int32} {sv : Int32} {kE : Int32} {kR : Int32} {fb : Nat → Int64} {ft : Nat → Int64} {fs : Nat → Int64} {rws : Nat → Int64} {nx : Int32} {ct : Int32} {ch : Nat → Int32} {ln : Int32} {oo : Nat → Int64} {od_ : Nat → UInt64} {thrown : Int32} {now : Nat → Int32} {saved : Nat → Int32} {hist : Nat → Nat → Int32} {kept : Int32} {reason : Int32} {detail : Int32} {isSaved : Int32} {comes : Nat → Int32} {queue : Nat → Int32} {far : Nat → Int32} {isInText : Int32} {ahead : Nat → Int32} {roomAt : Nat → Int32} {rooms : Int32} {text : Nat → Int32} {length : Int32} {at_ : Int32} {errorPosition : Int32} {toldFrom : Int32} {toldTo : Int32} {isWrong : Int32} {before : Nat → Int32} {o : zSt} (C0 : zCx p s m args meth c wsL_law code RL ret 9) (hl9 : l.stackTraces = false) (hK : zKK G k A s s.heap) (hA : ∀ q : Nat, s.heap.size ≤ q → A q) (hX : va_X b L xs s s.heap) (hbl : b < s.heap.size) (hbA : ¬ A b) (hr1 : a1 + 8 ≤ 603072) (hr2 : a2 + 48 ≤ 7207018) (hF : fCase17 xs L i sv kE kR fb ft fs rws nx ct ch ln oo od_ thrown now saved hist kept reason detail isSaved comes queue far isInText ahead roomAt rooms text length at_ errorPosition toldFrom toldTo isWrong before = some o) (h1 : o.1 = 1)
    (hk : ∀ (H : Heap) (locs : List Loc) (ls : Array Slot), zWd G A s (zLw ad ob od md k o.2.1 o.2.2.1 o.2.2.2.1 o.2.2.2.2.1 o.2.2.2.2.2.1 o.2.2.2.2.2.2.1 o.2.2.2.2.2.2.2.1 o.2.2.2.2.2.2.2.2.1 o.2.2.2.2.2.2.2.2.2.1 o.2.2.2.2.2.2.2.2.2.2.1 o.2.2.2.2.2.2.2.2.2.2.2.1 o.2.2.2.2.2.2.2.2.2.2.2.2.1 o.2.2.2.2.2.2.2.2.2.2.2.2.2.1 o.2.2.2.2.2.2.2.2.2.2.2.2.2.2.1 o.2.2.2.2.2.2.2.2.2.2.2.2.2.2.2.1 o.2.2.2.2.2.2.2.2.2.2.2.2.2.2.2.2.1 o.2.2.2.2.2.2.2.2.2.2.2.2.2.2.2.2.2.1 o.2.2.2.2.2.2.2.2.2.2.2.2.2.2.2.2.2.2.1 o.2.2.2.2.2.2.2.2.2.2.2.2.2.2.2.2.2.2.2.1 o.2.2.2.2.2.2.2.2.2.2.2.2.2.2.2.2.2.2.2.2.1 o.2.2.2.2.2.2.2.2.2.2.2.2.2.2.2.2.2.2.2.2.2.1 o.2.2.2.2.2.2.2.2.2.2.2.2.2.2.2.2.2.2.2.2.2.2.1 o.2.2.2.2.2.2.2.2.2.2.2.2.2.2.2.2.2.2.2.2.2.2.2.1 o.2.2.2.2.2.2.2.2.2.2.2.2.2.2.2.2.2.2.2.2.2.2.2.2.1 o.2.2.2.2.2.2.2.2.2.2.2.2.2.2.2.2.2.2.2.2.2.2.2.2.2.1 o.2.2.2.2.2.2.2.2.2.2.2.2.2.2.2.2.2.2.2.2.2.2.2.2.2.2.1 o.2.2.2.2.2.2.2.2.2.2.2.2.2.2.2.2.2.2.2.2.2.2.2.2.2.2.2.1 o.2.2.2.2.2.2.2.2.2.2.2.2.2.2.2.2.2.2.2.2.2.2.2.2.2.2.2.2.1 o.2.2.2.2.2.2.2.2.2.2.2.2.2.2.2.2.2.2.2.2.2.2.2.2.2.2.2.2.2.1 o.2.2.2.2.2.2.2.2.2.2.2.2.2.2.2.2.2.2.2.2.2.2.2.2.2.2.2.2.2.2.1 o.2.2.2.2.2.2.2.2.2.2.2.2.2.2.2.2.2.2.2.2.2.2.2.2.2.2.2.2.2.2.2.1 o.2.2.2.2.2.2.2.2.2.2.2.2.2.2.2.2.2.2.2.2.2.2.2.2.2.2.2.2.2.2.2.2.1 o.2.2.2.2.2.2.2.2.2.2.2.2.2.2.2.2.2.2.2.2.2.2.2.2.2.2.2.2.2.2.2.2.2.1 o.2.2.2.2.2.2.2.2.2.2.2.2.2.2.2.2.2.2.2.2.2.2.2.2.2.2.2.2.2.2.2.2.2.2.1 o.2.2.2.2.2.2.2.2.2.2.2.2.2.2.2.2.2.2.2.2.2.2.2.2.2.2.2.2.2.2.2.2.2.2.2.1 o.2.2.2.2.2.2.2.2.2.2.2.2.2.2.2.2.2.2.2.2.2.2.2.2.2.2.2.2.2.2.2.2.2.2.2.2) H locs → lv_has ls 9 [(0, .ref b), (1, .ref (ad 0)), (2, .ref (md 0)), (3, .ref ob), (4, .ref od), (5, .int i)] → W p l e room_1 s m args below meth c H locs (a1 + 8) (a2 + 48) Q (F0 m 1789 ls [])) :
    ∀ (H : Heap) (locs : List Loc) (ls : Array Slot), zWd G A s (zLw ad ob od md k sv kE kR fb ft fs rws nx ct ch ln oo od_ thrown now saved hist kept reason detail isSaved comes queue far isInText ahead roomAt rooms text length at_ errorPosition toldFrom toldTo isWrong before) H locs → lv_has ls 9 [(0, .ref b), (1, .ref (ad 0)), (2, .ref (md 0)), (3, .ref ob), (4, .ref od), (5, .int i)] → W p l e room_1 s m args below meth c H locs a1 a2 Q (F0 m 1157 ls []) := by
  obtain ⟨hx, hb, hr, hml, hown, hts, hlocks⟩ := id C0
  intro H locs ls hw hl
  unfold fCase17 at hF
  refine lv_aload_n hx hb dL_law_1157 rfl (lv_at hl 1 rfl) ?_
  refine lv_aload_n hx hb dL_law_1158 rfl (lv_at hl 0 rfl) ?_
  refine lv_iload hx hb dL_law_1159 (lv_at hl 5 rfl) ?_
  refine lv_iconst (v := (1 : Int32)) hx hb dL_law_1161 (by decide) ?_
  refine lv_iadd hx hb dL_law_1162 ?_
  obtain ⟨hi1, hF⟩ := zck_in hF
  refine va_sld hx hb hX hbl hbA hw.2.2 hi1 dL_law_1163 ?_
  refine lv_aload_n hx hb dL_law_1164 rfl (lv_at hl 3 rfl) ?_
  obtain ⟨u2, hq3, hF⟩ := zbd_t hF
  refine zgoI4 (w' := (zLw ad ob od md k sv kE kR fb ft fs rws nx ct ch ln u2.2 od_ thrown now saved hist kept reason detail isSaved comes queue far isInText ahead roomAt rooms text length at_ errorPosition toldFrom toldTo isWrong before)) hw zLw_co zLw_co hA (zSW4 (As := [.ref (ad 0), .int (xs (i + (1 : Int32)).toNatClampNeg), .ref ob]) (rest := []) ⟨hx, hb, hml, hown, hts⟩ (mL_sealedAgain l hl9 G k ad ob H.size sv kE kR fb ft fs rws nx ct ch ln oo (xs (i + (1 : Int32)).toNatClampNeg) u2 hq3) (vx_cwSW 3 hts gL_law_L_sealedAgain rfl rfl rfl kdL_sealedAgain ⟨Nat.le_of_ble_eq_true rfl, Nat.le_of_ble_eq_true rfl⟩) hK hA hw zLw_co rfl hl.1 rfl (Nat.le_of_ble_eq_true rfl) dL_law_1165 ⟨(by show _ ≤ 603072; omega), (by show _ ≤ 7207018; omega)⟩) rfl (fun H locs hw => ?_)
  refine lv_istore (lv' := [(6, .int u2.1), (0, .ref b), (1, .ref (ad 0)), (2, .ref (md 0)), (3, .ref ob), (4, .ref od), (5, .int i)]) hx hb dL_law_1168 hl (by decide) rfl (fun ls hl => ?_)
  refine lv_aload_n hx hb dL_law_1170 rfl (lv_at hl 3 rfl) ?_
  refine lv_aload_n hx hb dL_law_1171 rfl (lv_at hl 1 rfl) ?_
  refine lv_iload hx hb dL_law_1172 (lv_at hl 6 rfl) ?_
  refine lv_iconst (v := (1 : Int32)) hx hb dL_law_1174 (by decide) ?_
  refine lv_iadd hx hb dL_law_1175 ?_
  obtain ⟨hi4, hF⟩ := zck_in hF
  refine va_sld hx hb hX hbl hbA hw.2.2 hi4 dL_law_1176 ?_
  obtain ⟨u5, hq6, hF⟩ := zbd_t hF
  refine zgoI4 (w' := (zLw ad ob od md k sv kE kR fb ft fs rws nx ct ch ln u2.2 od_ u5.2.1 now saved hist kept reason detail isSaved comes u5.2.2.1 u5.2.2.2 isInText ahead roomAt rooms text length at_ errorPosition toldFrom toldTo isWrong before)) hw zLw_m zLw_m hA (zV4 (As := [.int (xs (i + (1 : Int32)).toNatClampNeg)]) (rest := []) ⟨hx, hb, hml, hown, hts⟩ (mX5_sealedAgain l G k md H.size thrown now saved hist kept reason detail isSaved comes queue far isInText ahead roomAt rooms text length at_ errorPosition toldFrom toldTo isWrong before (xs (i + (1 : Int32)).toNatClampNeg) u5 hq6) (cwV 1 hts gL_law_X5_sealedAgain rfl rfl rfl kdX5_sealedAgain ⟨Nat.le_of_ble_eq_true rfl, Nat.le_of_ble_eq_true rfl⟩) hK hA hw zLw_m 0 rfl rfl rfl rfl hl.1 rfl (Nat.le_of_ble_eq_true rfl) dL_law_1177 ⟨(by show _ ≤ 603072; omega), (by show _ ≤ 7207018; omega)⟩) rfl (fun H locs hw => ?_)
  refine lv_istore (lv' := [(7, .int u5.1), (6, .int u2.1), (0, .ref b), (1, .ref (ad 0)), (2, .ref (md 0)), (3, .ref ob), (4, .ref od), (5, .int i)]) hx hb dL_law_1180 hl (by decide) rfl (fun ls hl => ?_)
  refine lv_aload_n hx hb dL_law_1182 rfl (lv_at hl 4 rfl) ?_
  obtain ⟨u7, hq8, hF⟩ := zbd_t hF
  refine zgoI4 (w' := (zLw ad ob od md k sv kE kR fb ft fs rws nx ct ch ln u2.2 od_ u5.2.1 now saved hist kept reason detail isSaved comes u5.2.2.1 u5.2.2.2 isInText ahead roomAt rooms text length at_ errorPosition toldFrom toldTo isWrong before)) hw zLw_m zLw_m hA (zV4 (As := []) (rest := []) ⟨hx, hb, hml, hown, hts⟩ (mX5_thrown l G k md H.size u5.2.1 now saved hist kept reason detail isSaved comes u5.2.2.1 u5.2.2.2 isInText ahead roomAt rooms text length at_ errorPosition toldFrom toldTo isWrong before  u7 hq8) (cwV 0 hts gL_law_X5_thrown rfl rfl rfl kdX5_thrown ⟨Nat.le_of_ble_eq_true rfl, Nat.le_of_ble_eq_true rfl⟩) hK hA hw zLw_m 0 rfl rfl rfl rfl hl.1 rfl (Nat.le_of_ble_eq_true rfl) dL_law_1183 ⟨(by show _ ≤ 603072; omega), (by show _ ≤ 7207018; omega)⟩) rfl (fun H locs hw => ?_)
  refine lv_iload hx hb dL_law_1186 (lv_at hl 1 rfl) ?_
  refine lv_icmp_eq (tgt := 1193) hx hb dL_law_1188 (by decide) (fun hc => ?_) (fun hc => ?_)
  · have hF := zif_t hc hF
    refine lv_iload hx hb dL_law_1193 (lv_at hl 1 rfl) ?_
    refine lv_if_ne (tgt := 1210) hx hb dL_law_1195 (by decide) (fun hc => ?_) (fun hc => ?_)
    · have hF := zif_f hc hF
      refine lv_goto (tgt := 1789) hx hb dL_law_1210 (by decide) ?_
      obtain rfl := Option.some.inj hF
      refine W.widen (k := a1 + 8) (n := a2 + 48) (by omega) (by omega) ?_
      exact hk _ _ _ hw (lv_sub hl [2, 3, 4, 5, 6, 7] rfl)
    · have hF := zif_t hc hF
      refine lv_aload_n hx hb dL_law_1198 rfl (lv_at hl 5 rfl) ?_
      refine lv_iconst (v := (0 : Int32)) hx hb dL_law_1199 (by decide) ?_
      obtain ⟨hi9, hF⟩ := zck_in hF
      refine va_lald hx hb hK.1 hw.1 12 0 rfl rfl hi9 dL_law_1200 ?_
      refine lv_iload hx hb dL_law_1201 (lv_at hl 0 rfl) ?_
      refine lv_i2l hx hb dL_law_1203 rfl ?_
      refine W.lcmp hx hb dL_law_1204 ?_
      refine lv_if_eq (tgt := 1210) hx hb dL_law_1205 (by decide) (fun hc => ?_) (fun hc => ?_)
      · have hF := zif_t hc hF
        refine lv_goto (tgt := 1789) hx hb dL_law_1210 (by decide) ?_
        obtain rfl := Option.some.inj hF
        refine W.widen (k := a1 + 8) (n := a2 + 48) (by omega) (by omega) ?_
        exact hk _ _ _ hw (lv_sub hl [2, 3, 4, 5, 6, 7] rfl)
      · have hF := zif_f hc hF
        refine lv_iconst (v := (0 : Int32)) hx hb dL_law_1208 (by decide) ?_
        obtain rfl := Option.some.inj hF
        exact absurd h1 (show ¬ ((0 : Int32)) = 1 by decide)
  · have hF := zif_f hc hF
    refine lv_iconst (v := (0 : Int32)) hx hb dL_law_1191 (by decide) ?_
    obtain rfl := Option.some.inj hF
    exact absurd h1 (show ¬ ((0 : Int32)) = 1 by decide)
set_option maxHeartbeats 800000 in
set_option maxRecDepth 100000 in
theorem wCase18 {p : Program} {l : Launch} {e : Env} {s : State} {m : MethodId} {args : Array Value} {below : List Frame} {meth : Method} {c : Code} {A : Nat → Prop} {Q : State → Prop} {G : va_G} {k : Nat → ClassId} {ad : Nat → Nat} {ob od : Nat} {md : Nat → Nat} {b L a1 a2 : Nat} {xs : Nat → Int32} {i : Int32} {sv : Int32} {kE : Int32} {kR : Int32} {fb : Nat → Int64} {ft : Nat → Int64} {fs : Nat → Int64} {rws : Nat → Int64} {nx : Int32} {ct : Int32} {ch : Nat → Int32} {ln : Int32} {oo : Nat → Int64} {od_ : Nat → UInt64} {thrown : Int32} {now : Nat → Int32} {saved : Nat → Int32} {hist : Nat → Nat → Int32} {kept : Int32} {reason : Int32} {detail : Int32} {isSaved : Int32} {comes : Nat → Int32} {queue : Nat → Int32} {far : Nat → Int32} {isInText : Int32} {ahead : Nat → Int32} {roomAt : Nat → Int32} {rooms : Int32} {text : Nat → Int32} {length : Int32} {at_ : Int32} {errorPosition : Int32} {toldFrom : Int32} {toldTo : Int32} {isWrong : Int32} {before : Nat → Int32} {o : zSt} (C0 : zCx p s m args meth c wsL_law code RL ret 9) (hl9 : l.stackTraces = false) (hK : zKK G k A s s.heap) (hA : ∀ q : Nat, s.heap.size ≤ q → A q) (hX : va_X b L xs s s.heap) (hbl : b < s.heap.size) (hbA : ¬ A b) (hr1 : a1 + 8 ≤ 603072) (hr2 : a2 + 48 ≤ 7207018) (hF : fCase18 xs L i sv kE kR fb ft fs rws nx ct ch ln oo od_ thrown now saved hist kept reason detail isSaved comes queue far isInText ahead roomAt rooms text length at_ errorPosition toldFrom toldTo isWrong before = some o) (h1 : o.1 = 1)
    (hk : ∀ (H : Heap) (locs : List Loc) (ls : Array Slot), zWd G A s (zLw ad ob od md k o.2.1 o.2.2.1 o.2.2.2.1 o.2.2.2.2.1 o.2.2.2.2.2.1 o.2.2.2.2.2.2.1 o.2.2.2.2.2.2.2.1 o.2.2.2.2.2.2.2.2.1 o.2.2.2.2.2.2.2.2.2.1 o.2.2.2.2.2.2.2.2.2.2.1 o.2.2.2.2.2.2.2.2.2.2.2.1 o.2.2.2.2.2.2.2.2.2.2.2.2.1 o.2.2.2.2.2.2.2.2.2.2.2.2.2.1 o.2.2.2.2.2.2.2.2.2.2.2.2.2.2.1 o.2.2.2.2.2.2.2.2.2.2.2.2.2.2.2.1 o.2.2.2.2.2.2.2.2.2.2.2.2.2.2.2.2.1 o.2.2.2.2.2.2.2.2.2.2.2.2.2.2.2.2.2.1 o.2.2.2.2.2.2.2.2.2.2.2.2.2.2.2.2.2.2.1 o.2.2.2.2.2.2.2.2.2.2.2.2.2.2.2.2.2.2.2.1 o.2.2.2.2.2.2.2.2.2.2.2.2.2.2.2.2.2.2.2.2.1 o.2.2.2.2.2.2.2.2.2.2.2.2.2.2.2.2.2.2.2.2.2.1 o.2.2.2.2.2.2.2.2.2.2.2.2.2.2.2.2.2.2.2.2.2.2.1 o.2.2.2.2.2.2.2.2.2.2.2.2.2.2.2.2.2.2.2.2.2.2.2.1 o.2.2.2.2.2.2.2.2.2.2.2.2.2.2.2.2.2.2.2.2.2.2.2.2.1 o.2.2.2.2.2.2.2.2.2.2.2.2.2.2.2.2.2.2.2.2.2.2.2.2.2.1 o.2.2.2.2.2.2.2.2.2.2.2.2.2.2.2.2.2.2.2.2.2.2.2.2.2.2.1 o.2.2.2.2.2.2.2.2.2.2.2.2.2.2.2.2.2.2.2.2.2.2.2.2.2.2.2.1 o.2.2.2.2.2.2.2.2.2.2.2.2.2.2.2.2.2.2.2.2.2.2.2.2.2.2.2.2.1 o.2.2.2.2.2.2.2.2.2.2.2.2.2.2.2.2.2.2.2.2.2.2.2.2.2.2.2.2.2.1 o.2.2.2.2.2.2.2.2.2.2.2.2.2.2.2.2.2.2.2.2.2.2.2.2.2.2.2.2.2.2.1 o.2.2.2.2.2.2.2.2.2.2.2.2.2.2.2.2.2.2.2.2.2.2.2.2.2.2.2.2.2.2.2.1 o.2.2.2.2.2.2.2.2.2.2.2.2.2.2.2.2.2.2.2.2.2.2.2.2.2.2.2.2.2.2.2.2.1 o.2.2.2.2.2.2.2.2.2.2.2.2.2.2.2.2.2.2.2.2.2.2.2.2.2.2.2.2.2.2.2.2.2.1 o.2.2.2.2.2.2.2.2.2.2.2.2.2.2.2.2.2.2.2.2.2.2.2.2.2.2.2.2.2.2.2.2.2.2.1 o.2.2.2.2.2.2.2.2.2.2.2.2.2.2.2.2.2.2.2.2.2.2.2.2.2.2.2.2.2.2.2.2.2.2.2.1 o.2.2.2.2.2.2.2.2.2.2.2.2.2.2.2.2.2.2.2.2.2.2.2.2.2.2.2.2.2.2.2.2.2.2.2.2) H locs → lv_has ls 9 [(0, .ref b), (1, .ref (ad 0)), (2, .ref (md 0)), (3, .ref ob), (4, .ref od), (5, .int i)] → W p l e room_1 s m args below meth c H locs (a1 + 8) (a2 + 48) Q (F0 m 1789 ls [])) :
    ∀ (H : Heap) (locs : List Loc) (ls : Array Slot), zWd G A s (zLw ad ob od md k sv kE kR fb ft fs rws nx ct ch ln oo od_ thrown now saved hist kept reason detail isSaved comes queue far isInText ahead roomAt rooms text length at_ errorPosition toldFrom toldTo isWrong before) H locs → lv_has ls 9 [(0, .ref b), (1, .ref (ad 0)), (2, .ref (md 0)), (3, .ref ob), (4, .ref od), (5, .int i)] → W p l e room_1 s m args below meth c H locs a1 a2 Q (F0 m 1213 ls []) := by
  obtain ⟨hx, hb, hr, hml, hown, hts, hlocks⟩ := id C0
  intro H locs ls hw hl
  unfold fCase18 at hF
  refine lv_aload_n hx hb dL_law_1213 rfl (lv_at hl 1 rfl) ?_
  refine lv_aload_n hx hb dL_law_1214 rfl (lv_at hl 0 rfl) ?_
  refine lv_iload hx hb dL_law_1215 (lv_at hl 5 rfl) ?_
  refine lv_iconst (v := (1 : Int32)) hx hb dL_law_1217 (by decide) ?_
  refine lv_iadd hx hb dL_law_1218 ?_
  obtain ⟨hi1, hF⟩ := zck_in hF
  refine va_sld hx hb hX hbl hbA hw.2.2 hi1 dL_law_1219 ?_
  refine lv_aload_n hx hb dL_law_1220 rfl (lv_at hl 0 rfl) ?_
  refine lv_iload hx hb dL_law_1221 (lv_at hl 5 rfl) ?_
  refine lv_iconst (v := (2 : Int32)) hx hb dL_law_1223 (by decide) ?_
  refine lv_iadd hx hb dL_law_1224 ?_
  obtain ⟨hi2, hF⟩ := zck_in hF
  refine va_sld hx hb hX hbl hbA hw.2.2 hi2 dL_law_1225 ?_
  refine lv_aload_n hx hb dL_law_1226 rfl (lv_at hl 3 rfl) ?_
  obtain ⟨u3, hq4, hF⟩ := zbd_t hF
  refine zgoI4 (w' := (zLw ad ob od md k sv kE kR fb ft fs rws nx ct ch ln u3.2 od_ thrown now saved hist kept reason detail isSaved comes queue far isInText ahead roomAt rooms text length at_ errorPosition toldFrom toldTo isWrong before)) hw zLw_co zLw_co hA (zSW4 (As := [.ref (ad 0), .int (xs (i + (1 : Int32)).toNatClampNeg), .int (xs (i + (2 : Int32)).toNatClampNeg), .ref ob]) (rest := []) ⟨hx, hb, hml, hown, hts⟩ (mL_steps l hl9 G k ad ob H.size sv kE kR fb ft fs rws nx ct ch ln oo (xs (i + (1 : Int32)).toNatClampNeg) (xs (i + (2 : Int32)).toNatClampNeg) u3 hq4) (vx_cwSW 4 hts gL_law_L_steps rfl rfl rfl kdL_steps ⟨Nat.le_of_ble_eq_true rfl, Nat.le_of_ble_eq_true rfl⟩) hK hA hw zLw_co rfl hl.1 rfl (Nat.le_of_ble_eq_true rfl) dL_law_1227 ⟨(by show _ ≤ 603072; omega), (by show _ ≤ 7207018; omega)⟩) rfl (fun H locs hw => ?_)
  refine lv_istore (lv' := [(6, .int u3.1), (0, .ref b), (1, .ref (ad 0)), (2, .ref (md 0)), (3, .ref ob), (4, .ref od), (5, .int i)]) hx hb dL_law_1230 hl (by decide) rfl (fun ls hl => ?_)
  refine lv_aload_n hx hb dL_law_1232 rfl (lv_at hl 3 rfl) ?_
  refine lv_aload_n hx hb dL_law_1233 rfl (lv_at hl 1 rfl) ?_
  refine lv_iload hx hb dL_law_1234 (lv_at hl 6 rfl) ?_
  refine lv_iconst (v := (1 : Int32)) hx hb dL_law_1236 (by decide) ?_
  refine lv_iadd hx hb dL_law_1237 ?_
  obtain ⟨hi5, hF⟩ := zck_in hF
  refine va_sld hx hb hX hbl hbA hw.2.2 hi5 dL_law_1238 ?_
  refine lv_aload_n hx hb dL_law_1239 rfl (lv_at hl 1 rfl) ?_
  refine lv_iload hx hb dL_law_1240 (lv_at hl 6 rfl) ?_
  refine lv_iconst (v := (2 : Int32)) hx hb dL_law_1242 (by decide) ?_
  refine lv_iadd hx hb dL_law_1243 ?_
  obtain ⟨hi6, hF⟩ := zck_in hF
  refine va_sld hx hb hX hbl hbA hw.2.2 hi6 dL_law_1244 ?_
  obtain ⟨u7, hq8, hF⟩ := zbd_t hF
  refine zgoI4 (w' := (zLw ad ob od md k sv kE kR fb ft fs rws nx ct ch ln u3.2 od_ u7.2.1 now saved hist kept reason detail isSaved comes u7.2.2.1 u7.2.2.2 isInText ahead roomAt rooms text length at_ errorPosition toldFrom toldTo isWrong before)) hw zLw_m zLw_m hA (zV4 (As := [.int (xs (i + (1 : Int32)).toNatClampNeg), .int (xs (i + (2 : Int32)).toNatClampNeg)]) (rest := []) ⟨hx, hb, hml, hown, hts⟩ (mX5_steps l G k md H.size thrown now saved hist kept reason detail isSaved comes queue far isInText ahead roomAt rooms text length at_ errorPosition toldFrom toldTo isWrong before (xs (i + (1 : Int32)).toNatClampNeg) (xs (i + (2 : Int32)).toNatClampNeg) u7 hq8) (cwV 2 hts gL_law_X5_steps rfl rfl rfl kdX5_steps ⟨Nat.le_of_ble_eq_true rfl, Nat.le_of_ble_eq_true rfl⟩) hK hA hw zLw_m 0 rfl rfl rfl rfl hl.1 rfl (Nat.le_of_ble_eq_true rfl) dL_law_1245 ⟨(by show _ ≤ 603072; omega), (by show _ ≤ 7207018; omega)⟩) rfl (fun H locs hw => ?_)
  refine lv_istore (lv' := [(7, .int u7.1), (6, .int u3.1), (0, .ref b), (1, .ref (ad 0)), (2, .ref (md 0)), (3, .ref ob), (4, .ref od), (5, .int i)]) hx hb dL_law_1248 hl (by decide) rfl (fun ls hl => ?_)
  refine lv_aload_n hx hb dL_law_1250 rfl (lv_at hl 4 rfl) ?_
  obtain ⟨u9, hq10, hF⟩ := zbd_t hF
  refine zgoI4 (w' := (zLw ad ob od md k sv kE kR fb ft fs rws nx ct ch ln u3.2 od_ u7.2.1 now saved hist kept reason detail isSaved comes u7.2.2.1 u7.2.2.2 isInText ahead roomAt rooms text length at_ errorPosition toldFrom toldTo isWrong before)) hw zLw_m zLw_m hA (zV4 (As := []) (rest := []) ⟨hx, hb, hml, hown, hts⟩ (mX5_thrown l G k md H.size u7.2.1 now saved hist kept reason detail isSaved comes u7.2.2.1 u7.2.2.2 isInText ahead roomAt rooms text length at_ errorPosition toldFrom toldTo isWrong before  u9 hq10) (cwV 0 hts gL_law_X5_thrown rfl rfl rfl kdX5_thrown ⟨Nat.le_of_ble_eq_true rfl, Nat.le_of_ble_eq_true rfl⟩) hK hA hw zLw_m 0 rfl rfl rfl rfl hl.1 rfl (Nat.le_of_ble_eq_true rfl) dL_law_1251 ⟨(by show _ ≤ 603072; omega), (by show _ ≤ 7207018; omega)⟩) rfl (fun H locs hw => ?_)
  refine lv_iload hx hb dL_law_1254 (lv_at hl 1 rfl) ?_
  refine lv_icmp_eq (tgt := 1261) hx hb dL_law_1256 (by decide) (fun hc => ?_) (fun hc => ?_)
  · have hF := zif_t hc hF
    refine lv_iload hx hb dL_law_1261 (lv_at hl 1 rfl) ?_
    refine lv_if_ne (tgt := 1278) hx hb dL_law_1263 (by decide) (fun hc => ?_) (fun hc => ?_)
    · have hF := zif_f hc hF
      refine lv_goto (tgt := 1789) hx hb dL_law_1278 (by decide) ?_
      obtain rfl := Option.some.inj hF
      refine W.widen (k := a1 + 8) (n := a2 + 48) (by omega) (by omega) ?_
      exact hk _ _ _ hw (lv_sub hl [2, 3, 4, 5, 6, 7] rfl)
    · have hF := zif_t hc hF
      refine lv_aload_n hx hb dL_law_1266 rfl (lv_at hl 5 rfl) ?_
      refine lv_iconst (v := (0 : Int32)) hx hb dL_law_1267 (by decide) ?_
      obtain ⟨hi11, hF⟩ := zck_in hF
      refine va_lald hx hb hK.1 hw.1 12 0 rfl rfl hi11 dL_law_1268 ?_
      refine lv_iload hx hb dL_law_1269 (lv_at hl 0 rfl) ?_
      refine lv_i2l hx hb dL_law_1271 rfl ?_
      refine W.lcmp hx hb dL_law_1272 ?_
      refine lv_if_eq (tgt := 1278) hx hb dL_law_1273 (by decide) (fun hc => ?_) (fun hc => ?_)
      · have hF := zif_t hc hF
        refine lv_goto (tgt := 1789) hx hb dL_law_1278 (by decide) ?_
        obtain rfl := Option.some.inj hF
        refine W.widen (k := a1 + 8) (n := a2 + 48) (by omega) (by omega) ?_
        exact hk _ _ _ hw (lv_sub hl [2, 3, 4, 5, 6, 7] rfl)
      · have hF := zif_f hc hF
        refine lv_iconst (v := (0 : Int32)) hx hb dL_law_1276 (by decide) ?_
        obtain rfl := Option.some.inj hF
        exact absurd h1 (show ¬ ((0 : Int32)) = 1 by decide)
  · have hF := zif_f hc hF
    refine lv_iconst (v := (0 : Int32)) hx hb dL_law_1259 (by decide) ?_
    obtain rfl := Option.some.inj hF
    exact absurd h1 (show ¬ ((0 : Int32)) = 1 by decide)
set_option maxHeartbeats 800000 in
set_option maxRecDepth 100000 in
theorem wCase19 {p : Program} {l : Launch} {e : Env} {s : State} {m : MethodId} {args : Array Value} {below : List Frame} {meth : Method} {c : Code} {A : Nat → Prop} {Q : State → Prop} {G : va_G} {k : Nat → ClassId} {ad : Nat → Nat} {ob od : Nat} {md : Nat → Nat} {b L a1 a2 : Nat} {xs : Nat → Int32} {i : Int32} {sv : Int32} {kE : Int32} {kR : Int32} {fb : Nat → Int64} {ft : Nat → Int64} {fs : Nat → Int64} {rws : Nat → Int64} {nx : Int32} {ct : Int32} {ch : Nat → Int32} {ln : Int32} {oo : Nat → Int64} {od_ : Nat → UInt64} {thrown : Int32} {now : Nat → Int32} {saved : Nat → Int32} {hist : Nat → Nat → Int32} {kept : Int32} {reason : Int32} {detail : Int32} {isSaved : Int32} {comes : Nat → Int32} {queue : Nat → Int32} {far : Nat → Int32} {isInText : Int32} {ahead : Nat → Int32} {roomAt : Nat → Int32} {rooms : Int32} {text : Nat → Int32} {length : Int32} {at_ : Int32} {errorPosition : Int32} {toldFrom : Int32} {toldTo : Int32} {isWrong : Int32} {before : Nat → Int32} {o : zSt} (C0 : zCx p s m args meth c wsL_law code RL ret 9) (hl9 : l.stackTraces = false) (hK : zKK G k A s s.heap) (hA : ∀ q : Nat, s.heap.size ≤ q → A q) (hX : va_X b L xs s s.heap) (hbl : b < s.heap.size) (hbA : ¬ A b) (hr1 : a1 + 8 ≤ 603072) (hr2 : a2 + 48 ≤ 7207018) (hF : fCase19 xs L i sv kE kR fb ft fs rws nx ct ch ln oo od_ thrown now saved hist kept reason detail isSaved comes queue far isInText ahead roomAt rooms text length at_ errorPosition toldFrom toldTo isWrong before = some o) (h1 : o.1 = 1)
    (hk : ∀ (H : Heap) (locs : List Loc) (ls : Array Slot), zWd G A s (zLw ad ob od md k o.2.1 o.2.2.1 o.2.2.2.1 o.2.2.2.2.1 o.2.2.2.2.2.1 o.2.2.2.2.2.2.1 o.2.2.2.2.2.2.2.1 o.2.2.2.2.2.2.2.2.1 o.2.2.2.2.2.2.2.2.2.1 o.2.2.2.2.2.2.2.2.2.2.1 o.2.2.2.2.2.2.2.2.2.2.2.1 o.2.2.2.2.2.2.2.2.2.2.2.2.1 o.2.2.2.2.2.2.2.2.2.2.2.2.2.1 o.2.2.2.2.2.2.2.2.2.2.2.2.2.2.1 o.2.2.2.2.2.2.2.2.2.2.2.2.2.2.2.1 o.2.2.2.2.2.2.2.2.2.2.2.2.2.2.2.2.1 o.2.2.2.2.2.2.2.2.2.2.2.2.2.2.2.2.2.1 o.2.2.2.2.2.2.2.2.2.2.2.2.2.2.2.2.2.2.1 o.2.2.2.2.2.2.2.2.2.2.2.2.2.2.2.2.2.2.2.1 o.2.2.2.2.2.2.2.2.2.2.2.2.2.2.2.2.2.2.2.2.1 o.2.2.2.2.2.2.2.2.2.2.2.2.2.2.2.2.2.2.2.2.2.1 o.2.2.2.2.2.2.2.2.2.2.2.2.2.2.2.2.2.2.2.2.2.2.1 o.2.2.2.2.2.2.2.2.2.2.2.2.2.2.2.2.2.2.2.2.2.2.2.1 o.2.2.2.2.2.2.2.2.2.2.2.2.2.2.2.2.2.2.2.2.2.2.2.2.1 o.2.2.2.2.2.2.2.2.2.2.2.2.2.2.2.2.2.2.2.2.2.2.2.2.2.1 o.2.2.2.2.2.2.2.2.2.2.2.2.2.2.2.2.2.2.2.2.2.2.2.2.2.2.1 o.2.2.2.2.2.2.2.2.2.2.2.2.2.2.2.2.2.2.2.2.2.2.2.2.2.2.2.1 o.2.2.2.2.2.2.2.2.2.2.2.2.2.2.2.2.2.2.2.2.2.2.2.2.2.2.2.2.1 o.2.2.2.2.2.2.2.2.2.2.2.2.2.2.2.2.2.2.2.2.2.2.2.2.2.2.2.2.2.1 o.2.2.2.2.2.2.2.2.2.2.2.2.2.2.2.2.2.2.2.2.2.2.2.2.2.2.2.2.2.2.1 o.2.2.2.2.2.2.2.2.2.2.2.2.2.2.2.2.2.2.2.2.2.2.2.2.2.2.2.2.2.2.2.1 o.2.2.2.2.2.2.2.2.2.2.2.2.2.2.2.2.2.2.2.2.2.2.2.2.2.2.2.2.2.2.2.2.1 o.2.2.2.2.2.2.2.2.2.2.2.2.2.2.2.2.2.2.2.2.2.2.2.2.2.2.2.2.2.2.2.2.2.1 o.2.2.2.2.2.2.2.2.2.2.2.2.2.2.2.2.2.2.2.2.2.2.2.2.2.2.2.2.2.2.2.2.2.2.1 o.2.2.2.2.2.2.2.2.2.2.2.2.2.2.2.2.2.2.2.2.2.2.2.2.2.2.2.2.2.2.2.2.2.2.2.1 o.2.2.2.2.2.2.2.2.2.2.2.2.2.2.2.2.2.2.2.2.2.2.2.2.2.2.2.2.2.2.2.2.2.2.2.2) H locs → lv_has ls 9 [(0, .ref b), (1, .ref (ad 0)), (2, .ref (md 0)), (3, .ref ob), (4, .ref od), (5, .int i)] → W p l e room_1 s m args below meth c H locs (a1 + 8) (a2 + 48) Q (F0 m 1789 ls [])) :
    ∀ (H : Heap) (locs : List Loc) (ls : Array Slot), zWd G A s (zLw ad ob od md k sv kE kR fb ft fs rws nx ct ch ln oo od_ thrown now saved hist kept reason detail isSaved comes queue far isInText ahead roomAt rooms text length at_ errorPosition toldFrom toldTo isWrong before) H locs → lv_has ls 9 [(0, .ref b), (1, .ref (ad 0)), (2, .ref (md 0)), (3, .ref ob), (4, .ref od), (5, .int i)] → W p l e room_1 s m args below meth c H locs a1 a2 Q (F0 m 1281 ls []) := by
  obtain ⟨hx, hb, hr, hml, hown, hts, hlocks⟩ := id C0
  intro H locs ls hw hl
  unfold fCase19 at hF
  refine lv_aload_n hx hb dL_law_1281 rfl (lv_at hl 1 rfl) ?_
  refine lv_aload_n hx hb dL_law_1282 rfl (lv_at hl 0 rfl) ?_
  refine lv_iload hx hb dL_law_1283 (lv_at hl 5 rfl) ?_
  refine lv_iconst (v := (1 : Int32)) hx hb dL_law_1285 (by decide) ?_
  refine lv_iadd hx hb dL_law_1286 ?_
  obtain ⟨hi1, hF⟩ := zck_in hF
  refine va_sld hx hb hX hbl hbA hw.2.2 hi1 dL_law_1287 ?_
  refine lv_aload hx hb dL_law_1288 (lv_at hl 4 rfl) ?_
  obtain ⟨u2, hq3, hF⟩ := zbd_t hF
  refine zgoI4 (w' := (zLw ad ob od md k sv kE kR fb ft fs rws nx ct ch ln oo u2.2 thrown now saved hist kept reason detail isSaved comes queue far isInText ahead roomAt rooms text length at_ errorPosition toldFrom toldTo isWrong before)) hw zLw_oc zLw_oc hA (zSW4 (As := [.ref (ad 0), .int (xs (i + (1 : Int32)).toNatClampNeg), .ref od]) (rest := []) ⟨hx, hb, hml, hown, hts⟩ (mL_sealedShare l hl9 G k ad od H.size sv kE kR fb ft fs rws nx ct ch ln od_ (xs (i + (1 : Int32)).toNatClampNeg) u2 hq3) (vx_cwSW 3 hts gL_law_L_sealedShare rfl rfl rfl kdL_sealedShare ⟨Nat.le_of_ble_eq_true rfl, Nat.le_of_ble_eq_true rfl⟩) hK hA hw zLw_oc rfl hl.1 rfl (Nat.le_of_ble_eq_true rfl) dL_law_1290 ⟨(by show _ ≤ 603072; omega), (by show _ ≤ 7207018; omega)⟩) rfl (fun H locs hw => ?_)
  refine lv_istore (lv' := [(6, .int u2.1), (0, .ref b), (1, .ref (ad 0)), (2, .ref (md 0)), (3, .ref ob), (4, .ref od), (5, .int i)]) hx hb dL_law_1293 hl (by decide) rfl (fun ls hl => ?_)
  refine lv_aload_n hx hb dL_law_1295 rfl (lv_at hl 3 rfl) ?_
  refine lv_aload_n hx hb dL_law_1296 rfl (lv_at hl 1 rfl) ?_
  refine lv_iload hx hb dL_law_1297 (lv_at hl 6 rfl) ?_
  refine lv_iconst (v := (1 : Int32)) hx hb dL_law_1299 (by decide) ?_
  refine lv_iadd hx hb dL_law_1300 ?_
  obtain ⟨hi4, hF⟩ := zck_in hF
  refine va_sld hx hb hX hbl hbA hw.2.2 hi4 dL_law_1301 ?_
  obtain ⟨u5, hq6, hF⟩ := zbd_t hF
  refine zgoD4 (w' := (zLw ad ob od md k sv kE kR fb ft fs rws nx ct ch ln oo u2.2 u5.2.1 now saved hist kept reason detail isSaved comes u5.2.2.1 far isInText ahead u5.2.2.2.1 u5.2.2.2.2 text length at_ errorPosition toldFrom toldTo isWrong before)) hw zLw_m zLw_m hA (zV4 (As := [.int (xs (i + (1 : Int32)).toNatClampNeg)]) (rest := []) ⟨hx, hb, hml, hown, hts⟩ (mX5_sealedShare l G k md H.size thrown now saved hist kept reason detail isSaved comes queue far isInText ahead roomAt rooms text length at_ errorPosition toldFrom toldTo isWrong before (xs (i + (1 : Int32)).toNatClampNeg) u5 hq6) (cwV 1 hts gL_law_X5_sealedShare rfl rfl rfl kdX5_sealedShare ⟨Nat.le_of_ble_eq_true rfl, Nat.le_of_ble_eq_true rfl⟩) hK hA hw zLw_m 0 rfl rfl rfl rfl hl.1 rfl (Nat.le_of_ble_eq_true rfl) dL_law_1302 ⟨(by show _ ≤ 603072; omega), (by show _ ≤ 7207018; omega)⟩) rfl (fun H locs hw => ?_)
  refine lv_dstore (lv' := [(7, .double u5.1), (6, .int u2.1), (0, .ref b), (1, .ref (ad 0)), (2, .ref (md 0)), (3, .ref ob), (4, .ref od), (5, .int i)]) hx hb dL_law_1305 hl (by decide) rfl (fun ls hl => ?_)
  refine lv_aload_n hx hb dL_law_1307 rfl (lv_at hl 4 rfl) ?_
  obtain ⟨u7, hq8, hF⟩ := zbd_t hF
  refine zgoI4 (w' := (zLw ad ob od md k sv kE kR fb ft fs rws nx ct ch ln oo u2.2 u5.2.1 now saved hist kept reason detail isSaved comes u5.2.2.1 far isInText ahead u5.2.2.2.1 u5.2.2.2.2 text length at_ errorPosition toldFrom toldTo isWrong before)) hw zLw_m zLw_m hA (zV4 (As := []) (rest := []) ⟨hx, hb, hml, hown, hts⟩ (mX5_thrown l G k md H.size u5.2.1 now saved hist kept reason detail isSaved comes u5.2.2.1 far isInText ahead u5.2.2.2.1 u5.2.2.2.2 text length at_ errorPosition toldFrom toldTo isWrong before  u7 hq8) (cwV 0 hts gL_law_X5_thrown rfl rfl rfl kdX5_thrown ⟨Nat.le_of_ble_eq_true rfl, Nat.le_of_ble_eq_true rfl⟩) hK hA hw zLw_m 0 rfl rfl rfl rfl hl.1 rfl (Nat.le_of_ble_eq_true rfl) dL_law_1308 ⟨(by show _ ≤ 603072; omega), (by show _ ≤ 7207018; omega)⟩) rfl (fun H locs hw => ?_)
  refine lv_iload hx hb dL_law_1311 (lv_at hl 1 rfl) ?_
  refine lv_icmp_eq (tgt := 1318) hx hb dL_law_1313 (by decide) (fun hc => ?_) (fun hc => ?_)
  · have hF := zif_t hc hF
    refine lv_iload hx hb dL_law_1318 (lv_at hl 1 rfl) ?_
    refine lv_if_ne (tgt := 1355) hx hb dL_law_1320 (by decide) (fun hc => ?_) (fun hc => ?_)
    · have hF := zif_f hc hF
      refine lv_goto (tgt := 1789) hx hb dL_law_1355 (by decide) ?_
      obtain rfl := Option.some.inj hF
      refine W.widen (k := a1 + 8) (n := a2 + 48) (by omega) (by omega) ?_
      exact hk _ _ _ hw (lv_sub hl [2, 3, 4, 5, 6, 7] rfl)
    · have hF := zif_t hc hF
      refine lv_aload hx hb dL_law_1323 (lv_at hl 6 rfl) ?_
      refine lv_iconst (v := (0 : Int32)) hx hb dL_law_1325 (by decide) ?_
      obtain ⟨hi9, hF⟩ := zck_in hF
      refine va_dald hx hb hK.1 hw.1 0 5 rfl rfl hi9 dL_law_1326 ?_
      refine lv_dload hx hb dL_law_1327 (lv_at hl 0 rfl) ?_
      refine zdcmp_row hx hb dL_law_1329 ?_
      refine lv_if_eq (tgt := 1355) hx hb dL_law_1330 (by decide) (fun hc => ?_) (fun hc => ?_)
      · have hF := zif_t hc hF
        refine lv_goto (tgt := 1789) hx hb dL_law_1355 (by decide) ?_
        obtain rfl := Option.some.inj hF
        refine W.widen (k := a1 + 8) (n := a2 + 48) (by omega) (by omega) ?_
        exact hk _ _ _ hw (lv_sub hl [2, 3, 4, 5, 6, 7] rfl)
      · have hF := zif_f hc hF
        refine lv_aload hx hb dL_law_1333 (lv_at hl 6 rfl) ?_
        refine lv_iconst (v := (0 : Int32)) hx hb dL_law_1335 (by decide) ?_
        obtain ⟨hi10, hF⟩ := zck_in hF
        refine va_dald hx hb hK.1 hw.1 0 5 rfl rfl hi10 dL_law_1336 ?_
        refine lv_aload hx hb dL_law_1337 (lv_at hl 6 rfl) ?_
        refine lv_iconst (v := (0 : Int32)) hx hb dL_law_1339 (by decide) ?_
        obtain ⟨hi11, hF⟩ := zck_in hF
        refine va_dald hx hb hK.1 hw.1 0 5 rfl rfl hi11 dL_law_1340 ?_
        refine zdcmp_row hx hb dL_law_1341 ?_
        refine lv_if_eq (tgt := 1353) hx hb dL_law_1342 (by decide) (fun hc => ?_) (fun hc => ?_)
        · have hF := zif_t hc hF
          refine lv_iconst (v := (0 : Int32)) hx hb dL_law_1353 (by decide) ?_
          obtain rfl := Option.some.inj hF
          exact absurd h1 (show ¬ ((0 : Int32)) = 1 by decide)
        · have hF := zif_f hc hF
          refine lv_dload hx hb dL_law_1345 (lv_at hl 0 rfl) ?_
          refine lv_dload hx hb dL_law_1347 (lv_at hl 0 rfl) ?_
          refine zdcmp_row hx hb dL_law_1349 ?_
          refine lv_if_ne (tgt := 1355) hx hb dL_law_1350 (by decide) (fun hc => ?_) (fun hc => ?_)
          · have hF := zif_f hc hF
            refine lv_goto (tgt := 1789) hx hb dL_law_1355 (by decide) ?_
            obtain rfl := Option.some.inj hF
            refine W.widen (k := a1 + 8) (n := a2 + 48) (by omega) (by omega) ?_
            exact hk _ _ _ hw (lv_sub hl [2, 3, 4, 5, 6, 7] rfl)
          · have hF := zif_t hc hF
            refine lv_iconst (v := (0 : Int32)) hx hb dL_law_1353 (by decide) ?_
            obtain rfl := Option.some.inj hF
            exact absurd h1 (show ¬ ((0 : Int32)) = 1 by decide)
  · have hF := zif_f hc hF
    refine lv_iconst (v := (0 : Int32)) hx hb dL_law_1316 (by decide) ?_
    obtain rfl := Option.some.inj hF
    exact absurd h1 (show ¬ ((0 : Int32)) = 1 by decide)

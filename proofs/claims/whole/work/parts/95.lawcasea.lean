set_option maxHeartbeats 800000 in
set_option maxRecDepth 100000 in
theorem wCase0 {p : Program} {l : Launch} {e : Env} {s : State} {m : MethodId} {args : Array Value} {below : List Frame} {meth : Method} {c : Code} {A : Nat → Prop} {Q : State → Prop} {G : va_G} {k : Nat → ClassId} {ad : Nat → Nat} {ob od : Nat} {md : Nat → Nat} {b L a1 a2 : Nat} {xs : Nat → Int32} {i : Int32} {sv : Int32} {kE : Int32} {kR : Int32} {fb : Nat → Int64} {ft : Nat → Int64} {fs : Nat → Int64} {rws : Nat → Int64} {nx : Int32} {ct : Int32} {ch : Nat → Int32} {ln : Int32} {oo : Nat → Int64} {od_ : Nat → UInt64} {thrown : Int32} {now : Nat → Int32} {saved : Nat → Int32} {hist : Nat → Nat → Int32} {kept : Int32} {reason : Int32} {detail : Int32} {isSaved : Int32} {comes : Nat → Int32} {queue : Nat → Int32} {far : Nat → Int32} {isInText : Int32} {ahead : Nat → Int32} {roomAt : Nat → Int32} {rooms : Int32} {text : Nat → Int32} {length : Int32} {at_ : Int32} {errorPosition : Int32} {toldFrom : Int32} {toldTo : Int32} {isWrong : Int32} {before : Nat → Int32} {o : zSt} (C0 : zCx p s m args meth c wsL_law code RL ret 9) (hl9 : l.stackTraces = false) (hK : zKK G k A s s.heap) (hA : ∀ q : Nat, s.heap.size ≤ q → A q) (hX : va_X b L xs s s.heap) (hbl : b < s.heap.size) (hbA : ¬ A b) (hr1 : a1 + 8 ≤ 603072) (hr2 : a2 + 48 ≤ 7207018) (hF : fCase0 xs L i sv kE kR fb ft fs rws nx ct ch ln oo od_ thrown now saved hist kept reason detail isSaved comes queue far isInText ahead roomAt rooms text length at_ errorPosition toldFrom toldTo isWrong before = some o) (h1 : o.1 = 1)
    (hk : ∀ (H : Heap) (locs : List Loc) (ls : Array Slot), zWd G A s (zLw ad ob od md k o.2.1 o.2.2.1 o.2.2.2.1 o.2.2.2.2.1 o.2.2.2.2.2.1 o.2.2.2.2.2.2.1 o.2.2.2.2.2.2.2.1 o.2.2.2.2.2.2.2.2.1 o.2.2.2.2.2.2.2.2.2.1 o.2.2.2.2.2.2.2.2.2.2.1 o.2.2.2.2.2.2.2.2.2.2.2.1 o.2.2.2.2.2.2.2.2.2.2.2.2.1 o.2.2.2.2.2.2.2.2.2.2.2.2.2.1 o.2.2.2.2.2.2.2.2.2.2.2.2.2.2.1 o.2.2.2.2.2.2.2.2.2.2.2.2.2.2.2.1 o.2.2.2.2.2.2.2.2.2.2.2.2.2.2.2.2.1 o.2.2.2.2.2.2.2.2.2.2.2.2.2.2.2.2.2.1 o.2.2.2.2.2.2.2.2.2.2.2.2.2.2.2.2.2.2.1 o.2.2.2.2.2.2.2.2.2.2.2.2.2.2.2.2.2.2.2.1 o.2.2.2.2.2.2.2.2.2.2.2.2.2.2.2.2.2.2.2.2.1 o.2.2.2.2.2.2.2.2.2.2.2.2.2.2.2.2.2.2.2.2.2.1 o.2.2.2.2.2.2.2.2.2.2.2.2.2.2.2.2.2.2.2.2.2.2.1 o.2.2.2.2.2.2.2.2.2.2.2.2.2.2.2.2.2.2.2.2.2.2.2.1 o.2.2.2.2.2.2.2.2.2.2.2.2.2.2.2.2.2.2.2.2.2.2.2.2.1 o.2.2.2.2.2.2.2.2.2.2.2.2.2.2.2.2.2.2.2.2.2.2.2.2.2.1 o.2.2.2.2.2.2.2.2.2.2.2.2.2.2.2.2.2.2.2.2.2.2.2.2.2.2.1 o.2.2.2.2.2.2.2.2.2.2.2.2.2.2.2.2.2.2.2.2.2.2.2.2.2.2.2.1 o.2.2.2.2.2.2.2.2.2.2.2.2.2.2.2.2.2.2.2.2.2.2.2.2.2.2.2.2.1 o.2.2.2.2.2.2.2.2.2.2.2.2.2.2.2.2.2.2.2.2.2.2.2.2.2.2.2.2.2.1 o.2.2.2.2.2.2.2.2.2.2.2.2.2.2.2.2.2.2.2.2.2.2.2.2.2.2.2.2.2.2.1 o.2.2.2.2.2.2.2.2.2.2.2.2.2.2.2.2.2.2.2.2.2.2.2.2.2.2.2.2.2.2.2.1 o.2.2.2.2.2.2.2.2.2.2.2.2.2.2.2.2.2.2.2.2.2.2.2.2.2.2.2.2.2.2.2.2.1 o.2.2.2.2.2.2.2.2.2.2.2.2.2.2.2.2.2.2.2.2.2.2.2.2.2.2.2.2.2.2.2.2.2.1 o.2.2.2.2.2.2.2.2.2.2.2.2.2.2.2.2.2.2.2.2.2.2.2.2.2.2.2.2.2.2.2.2.2.2.1 o.2.2.2.2.2.2.2.2.2.2.2.2.2.2.2.2.2.2.2.2.2.2.2.2.2.2.2.2.2.2.2.2.2.2.2.1 o.2.2.2.2.2.2.2.2.2.2.2.2.2.2.2.2.2.2.2.2.2.2.2.2.2.2.2.2.2.2.2.2.2.2.2.2) H locs → lv_has ls 9 [(0, .ref b), (1, .ref (ad 0)), (2, .ref (md 0)), (3, .ref ob), (4, .ref od), (5, .int i)] → W p l e room_1 s m args below meth c H locs (a1 + 8) (a2 + 48) Q (F0 m 1789 ls [])) :
    ∀ (H : Heap) (locs : List Loc) (ls : Array Slot), zWd G A s (zLw ad ob od md k sv kE kR fb ft fs rws nx ct ch ln oo od_ thrown now saved hist kept reason detail isSaved comes queue far isInText ahead roomAt rooms text length at_ errorPosition toldFrom toldTo isWrong before) H locs → lv_has ls 9 [(0, .ref b), (1, .ref (ad 0)), (2, .ref (md 0)), (3, .ref ob), (4, .ref od), (5, .int i)] → W p l e room_1 s m args below meth c H locs a1 a2 Q (F0 m 176 ls []) := by
  obtain ⟨hx, hb, hr, hml, hown, hts, hlocks⟩ := id C0
  intro H locs ls hw hl
  unfold fCase0 at hF
  refine lv_aload_n hx hb dL_law_176 rfl (lv_at hl 1 rfl) ?_
  obtain ⟨u1, hq2, hF⟩ := zbd_t hF
  refine zgoI4 (w' := (zLw ad ob od md k sv kE kR u1.2.1 ft fs u1.2.2.1 u1.2.2.2.1 u1.2.2.2.2 ch ln oo od_ thrown now saved hist kept reason detail isSaved comes queue far isInText ahead roomAt rooms text length at_ errorPosition toldFrom toldTo isWrong before)) hw zLw_c zLw_c hA (zV4 (As := []) (rest := []) ⟨hx, hb, hml, hown, hts⟩ (mX4_start l G k ad H.size sv kE kR fb ft fs rws nx ct ch ln  u1 hq2) (cwV 0 hts gL_law_X4_start rfl rfl rfl kdX4_start ⟨Nat.le_of_ble_eq_true rfl, Nat.le_of_ble_eq_true rfl⟩) hK hA hw zLw_c 0 rfl rfl rfl rfl hl.1 rfl (Nat.le_of_ble_eq_true rfl) dL_law_177 ⟨(by show _ ≤ 603072; omega), (by show _ ≤ 7207018; omega)⟩) rfl (fun H locs hw => ?_)
  refine lv_aload_n hx hb dL_law_180 rfl (lv_at hl 2 rfl) ?_
  obtain ⟨u3, hq4, hF⟩ := zbd_t hF
  refine zgoI4 (w' := (zLw ad ob od md k sv kE kR u1.2.1 ft fs u1.2.2.1 u1.2.2.2.1 u1.2.2.2.2 ch ln oo od_ u3.2.1 u3.2.2.1 saved u3.2.2.2.1 u3.2.2.2.2 reason detail isSaved comes queue far isInText ahead roomAt rooms text length at_ errorPosition toldFrom toldTo isWrong before)) hw zLw_m zLw_m hA (zV4 (As := []) (rest := [.int u1.1]) ⟨hx, hb, hml, hown, hts⟩ (mX5_start l G k md H.size thrown now saved hist kept reason detail isSaved comes queue far isInText ahead roomAt rooms text length at_ errorPosition toldFrom toldTo isWrong before  u3 hq4) (cwV 0 hts gL_law_X5_start rfl rfl rfl kdX5_start ⟨Nat.le_of_ble_eq_true rfl, Nat.le_of_ble_eq_true rfl⟩) hK hA hw zLw_m 0 rfl rfl rfl rfl hl.1 rfl (Nat.le_of_ble_eq_true rfl) dL_law_181 ⟨(by show _ ≤ 603072; omega), (by show _ ≤ 7207018; omega)⟩) rfl (fun H locs hw => ?_)
  refine lv_icmp_eq (tgt := 1789) hx hb dL_law_184 (by decide) (fun hc => ?_) (fun hc => ?_)
  · have hF := zif_t hc hF
    obtain rfl := Option.some.inj hF
    refine W.widen (k := a1 + 8) (n := a2 + 48) (by omega) (by omega) ?_
    exact hk _ _ _ hw (lv_sub hl [0, 1, 2, 3, 4, 5] rfl)
  · have hF := zif_f hc hF
    refine lv_iconst (v := (0 : Int32)) hx hb dL_law_187 (by decide) ?_
    obtain rfl := Option.some.inj hF
    exact absurd h1 (show ¬ ((0 : Int32)) = 1 by decide)
set_option maxHeartbeats 800000 in
set_option maxRecDepth 100000 in
theorem wCase1 {p : Program} {l : Launch} {e : Env} {s : State} {m : MethodId} {args : Array Value} {below : List Frame} {meth : Method} {c : Code} {A : Nat → Prop} {Q : State → Prop} {G : va_G} {k : Nat → ClassId} {ad : Nat → Nat} {ob od : Nat} {md : Nat → Nat} {b L a1 a2 : Nat} {xs : Nat → Int32} {i : Int32} {sv : Int32} {kE : Int32} {kR : Int32} {fb : Nat → Int64} {ft : Nat → Int64} {fs : Nat → Int64} {rws : Nat → Int64} {nx : Int32} {ct : Int32} {ch : Nat → Int32} {ln : Int32} {oo : Nat → Int64} {od_ : Nat → UInt64} {thrown : Int32} {now : Nat → Int32} {saved : Nat → Int32} {hist : Nat → Nat → Int32} {kept : Int32} {reason : Int32} {detail : Int32} {isSaved : Int32} {comes : Nat → Int32} {queue : Nat → Int32} {far : Nat → Int32} {isInText : Int32} {ahead : Nat → Int32} {roomAt : Nat → Int32} {rooms : Int32} {text : Nat → Int32} {length : Int32} {at_ : Int32} {errorPosition : Int32} {toldFrom : Int32} {toldTo : Int32} {isWrong : Int32} {before : Nat → Int32} {o : zSt} (C0 : zCx p s m args meth c wsL_law code RL ret 9) (hl9 : l.stackTraces = false) (hK : zKK G k A s s.heap) (hA : ∀ q : Nat, s.heap.size ≤ q → A q) (hX : va_X b L xs s s.heap) (hbl : b < s.heap.size) (hbA : ¬ A b) (hr1 : a1 + 8 ≤ 603072) (hr2 : a2 + 48 ≤ 7207018) (hF : fCase1 xs L i sv kE kR fb ft fs rws nx ct ch ln oo od_ thrown now saved hist kept reason detail isSaved comes queue far isInText ahead roomAt rooms text length at_ errorPosition toldFrom toldTo isWrong before = some o) (h1 : o.1 = 1)
    (hk : ∀ (H : Heap) (locs : List Loc) (ls : Array Slot), zWd G A s (zLw ad ob od md k o.2.1 o.2.2.1 o.2.2.2.1 o.2.2.2.2.1 o.2.2.2.2.2.1 o.2.2.2.2.2.2.1 o.2.2.2.2.2.2.2.1 o.2.2.2.2.2.2.2.2.1 o.2.2.2.2.2.2.2.2.2.1 o.2.2.2.2.2.2.2.2.2.2.1 o.2.2.2.2.2.2.2.2.2.2.2.1 o.2.2.2.2.2.2.2.2.2.2.2.2.1 o.2.2.2.2.2.2.2.2.2.2.2.2.2.1 o.2.2.2.2.2.2.2.2.2.2.2.2.2.2.1 o.2.2.2.2.2.2.2.2.2.2.2.2.2.2.2.1 o.2.2.2.2.2.2.2.2.2.2.2.2.2.2.2.2.1 o.2.2.2.2.2.2.2.2.2.2.2.2.2.2.2.2.2.1 o.2.2.2.2.2.2.2.2.2.2.2.2.2.2.2.2.2.2.1 o.2.2.2.2.2.2.2.2.2.2.2.2.2.2.2.2.2.2.2.1 o.2.2.2.2.2.2.2.2.2.2.2.2.2.2.2.2.2.2.2.2.1 o.2.2.2.2.2.2.2.2.2.2.2.2.2.2.2.2.2.2.2.2.2.1 o.2.2.2.2.2.2.2.2.2.2.2.2.2.2.2.2.2.2.2.2.2.2.1 o.2.2.2.2.2.2.2.2.2.2.2.2.2.2.2.2.2.2.2.2.2.2.2.1 o.2.2.2.2.2.2.2.2.2.2.2.2.2.2.2.2.2.2.2.2.2.2.2.2.1 o.2.2.2.2.2.2.2.2.2.2.2.2.2.2.2.2.2.2.2.2.2.2.2.2.2.1 o.2.2.2.2.2.2.2.2.2.2.2.2.2.2.2.2.2.2.2.2.2.2.2.2.2.2.1 o.2.2.2.2.2.2.2.2.2.2.2.2.2.2.2.2.2.2.2.2.2.2.2.2.2.2.2.1 o.2.2.2.2.2.2.2.2.2.2.2.2.2.2.2.2.2.2.2.2.2.2.2.2.2.2.2.2.1 o.2.2.2.2.2.2.2.2.2.2.2.2.2.2.2.2.2.2.2.2.2.2.2.2.2.2.2.2.2.1 o.2.2.2.2.2.2.2.2.2.2.2.2.2.2.2.2.2.2.2.2.2.2.2.2.2.2.2.2.2.2.1 o.2.2.2.2.2.2.2.2.2.2.2.2.2.2.2.2.2.2.2.2.2.2.2.2.2.2.2.2.2.2.2.1 o.2.2.2.2.2.2.2.2.2.2.2.2.2.2.2.2.2.2.2.2.2.2.2.2.2.2.2.2.2.2.2.2.1 o.2.2.2.2.2.2.2.2.2.2.2.2.2.2.2.2.2.2.2.2.2.2.2.2.2.2.2.2.2.2.2.2.2.1 o.2.2.2.2.2.2.2.2.2.2.2.2.2.2.2.2.2.2.2.2.2.2.2.2.2.2.2.2.2.2.2.2.2.2.1 o.2.2.2.2.2.2.2.2.2.2.2.2.2.2.2.2.2.2.2.2.2.2.2.2.2.2.2.2.2.2.2.2.2.2.2.1 o.2.2.2.2.2.2.2.2.2.2.2.2.2.2.2.2.2.2.2.2.2.2.2.2.2.2.2.2.2.2.2.2.2.2.2.2) H locs → lv_has ls 9 [(0, .ref b), (1, .ref (ad 0)), (2, .ref (md 0)), (3, .ref ob), (4, .ref od), (5, .int i)] → W p l e room_1 s m args below meth c H locs (a1 + 8) (a2 + 48) Q (F0 m 1789 ls [])) :
    ∀ (H : Heap) (locs : List Loc) (ls : Array Slot), zWd G A s (zLw ad ob od md k sv kE kR fb ft fs rws nx ct ch ln oo od_ thrown now saved hist kept reason detail isSaved comes queue far isInText ahead roomAt rooms text length at_ errorPosition toldFrom toldTo isWrong before) H locs → lv_has ls 9 [(0, .ref b), (1, .ref (ad 0)), (2, .ref (md 0)), (3, .ref ob), (4, .ref od), (5, .int i)] → W p l e room_1 s m args below meth c H locs a1 a2 Q (F0 m 189 ls []) := by
  obtain ⟨hx, hb, hr, hml, hown, hts, hlocks⟩ := id C0
  intro H locs ls hw hl
  unfold fCase1 at hF
  refine lv_aload_n hx hb dL_law_189 rfl (lv_at hl 1 rfl) ?_
  obtain ⟨u1, hq2, hF⟩ := zbd_t hF
  refine zgoI4 (w' := (zLw ad ob od md k sv kE kR u1.2.1 ft fs u1.2.2.1 u1.2.2.2.1 u1.2.2.2.2 ch ln oo od_ thrown now saved hist kept reason detail isSaved comes queue far isInText ahead roomAt rooms text length at_ errorPosition toldFrom toldTo isWrong before)) hw zLw_c zLw_c hA (zV4 (As := []) (rest := []) ⟨hx, hb, hml, hown, hts⟩ (mX4_clear l G k ad H.size sv kE kR fb ft fs rws nx ct ch ln  u1 hq2) (cwV 0 hts gL_law_X4_clear rfl rfl rfl kdX4_clear ⟨Nat.le_of_ble_eq_true rfl, Nat.le_of_ble_eq_true rfl⟩) hK hA hw zLw_c 0 rfl rfl rfl rfl hl.1 rfl (Nat.le_of_ble_eq_true rfl) dL_law_190 ⟨(by show _ ≤ 603072; omega), (by show _ ≤ 7207018; omega)⟩) rfl (fun H locs hw => ?_)
  refine lv_aload_n hx hb dL_law_193 rfl (lv_at hl 2 rfl) ?_
  obtain ⟨u3, hq4, hF⟩ := zbd_t hF
  refine zgoI4 (w' := (zLw ad ob od md k sv kE kR u1.2.1 ft fs u1.2.2.1 u1.2.2.2.1 u1.2.2.2.2 ch ln oo od_ u3.2.1 u3.2.2.1 saved u3.2.2.2.1 u3.2.2.2.2 reason detail isSaved comes queue far isInText ahead roomAt rooms text length at_ errorPosition toldFrom toldTo isWrong before)) hw zLw_m zLw_m hA (zV4 (As := []) (rest := [.int u1.1]) ⟨hx, hb, hml, hown, hts⟩ (mX5_clear l G k md H.size thrown now saved hist kept reason detail isSaved comes queue far isInText ahead roomAt rooms text length at_ errorPosition toldFrom toldTo isWrong before  u3 hq4) (cwV 0 hts gL_law_X5_clear rfl rfl rfl kdX5_clear ⟨Nat.le_of_ble_eq_true rfl, Nat.le_of_ble_eq_true rfl⟩) hK hA hw zLw_m 0 rfl rfl rfl rfl hl.1 rfl (Nat.le_of_ble_eq_true rfl) dL_law_194 ⟨(by show _ ≤ 603072; omega), (by show _ ≤ 7207018; omega)⟩) rfl (fun H locs hw => ?_)
  refine lv_icmp_eq (tgt := 1789) hx hb dL_law_197 (by decide) (fun hc => ?_) (fun hc => ?_)
  · have hF := zif_t hc hF
    obtain rfl := Option.some.inj hF
    refine W.widen (k := a1 + 8) (n := a2 + 48) (by omega) (by omega) ?_
    exact hk _ _ _ hw (lv_sub hl [0, 1, 2, 3, 4, 5] rfl)
  · have hF := zif_f hc hF
    refine lv_iconst (v := (0 : Int32)) hx hb dL_law_200 (by decide) ?_
    obtain rfl := Option.some.inj hF
    exact absurd h1 (show ¬ ((0 : Int32)) = 1 by decide)
set_option maxHeartbeats 800000 in
set_option maxRecDepth 100000 in
theorem wCase2 {p : Program} {l : Launch} {e : Env} {s : State} {m : MethodId} {args : Array Value} {below : List Frame} {meth : Method} {c : Code} {A : Nat → Prop} {Q : State → Prop} {G : va_G} {k : Nat → ClassId} {ad : Nat → Nat} {ob od : Nat} {md : Nat → Nat} {b L a1 a2 : Nat} {xs : Nat → Int32} {i : Int32} {sv : Int32} {kE : Int32} {kR : Int32} {fb : Nat → Int64} {ft : Nat → Int64} {fs : Nat → Int64} {rws : Nat → Int64} {nx : Int32} {ct : Int32} {ch : Nat → Int32} {ln : Int32} {oo : Nat → Int64} {od_ : Nat → UInt64} {thrown : Int32} {now : Nat → Int32} {saved : Nat → Int32} {hist : Nat → Nat → Int32} {kept : Int32} {reason : Int32} {detail : Int32} {isSaved : Int32} {comes : Nat → Int32} {queue : Nat → Int32} {far : Nat → Int32} {isInText : Int32} {ahead : Nat → Int32} {roomAt : Nat → Int32} {rooms : Int32} {text : Nat → Int32} {length : Int32} {at_ : Int32} {errorPosition : Int32} {toldFrom : Int32} {toldTo : Int32} {isWrong : Int32} {before : Nat → Int32} {o : zSt} (C0 : zCx p s m args meth c wsL_law code RL ret 9) (hl9 : l.stackTraces = false) (hK : zKK G k A s s.heap) (hA : ∀ q : Nat, s.heap.size ≤ q → A q) (hX : va_X b L xs s s.heap) (hbl : b < s.heap.size) (hbA : ¬ A b) (hr1 : a1 + 8 ≤ 603072) (hr2 : a2 + 48 ≤ 7207018) (hF : fCase2 xs L i sv kE kR fb ft fs rws nx ct ch ln oo od_ thrown now saved hist kept reason detail isSaved comes queue far isInText ahead roomAt rooms text length at_ errorPosition toldFrom toldTo isWrong before = some o) (h1 : o.1 = 1)
    (hk : ∀ (H : Heap) (locs : List Loc) (ls : Array Slot), zWd G A s (zLw ad ob od md k o.2.1 o.2.2.1 o.2.2.2.1 o.2.2.2.2.1 o.2.2.2.2.2.1 o.2.2.2.2.2.2.1 o.2.2.2.2.2.2.2.1 o.2.2.2.2.2.2.2.2.1 o.2.2.2.2.2.2.2.2.2.1 o.2.2.2.2.2.2.2.2.2.2.1 o.2.2.2.2.2.2.2.2.2.2.2.1 o.2.2.2.2.2.2.2.2.2.2.2.2.1 o.2.2.2.2.2.2.2.2.2.2.2.2.2.1 o.2.2.2.2.2.2.2.2.2.2.2.2.2.2.1 o.2.2.2.2.2.2.2.2.2.2.2.2.2.2.2.1 o.2.2.2.2.2.2.2.2.2.2.2.2.2.2.2.2.1 o.2.2.2.2.2.2.2.2.2.2.2.2.2.2.2.2.2.1 o.2.2.2.2.2.2.2.2.2.2.2.2.2.2.2.2.2.2.1 o.2.2.2.2.2.2.2.2.2.2.2.2.2.2.2.2.2.2.2.1 o.2.2.2.2.2.2.2.2.2.2.2.2.2.2.2.2.2.2.2.2.1 o.2.2.2.2.2.2.2.2.2.2.2.2.2.2.2.2.2.2.2.2.2.1 o.2.2.2.2.2.2.2.2.2.2.2.2.2.2.2.2.2.2.2.2.2.2.1 o.2.2.2.2.2.2.2.2.2.2.2.2.2.2.2.2.2.2.2.2.2.2.2.1 o.2.2.2.2.2.2.2.2.2.2.2.2.2.2.2.2.2.2.2.2.2.2.2.2.1 o.2.2.2.2.2.2.2.2.2.2.2.2.2.2.2.2.2.2.2.2.2.2.2.2.2.1 o.2.2.2.2.2.2.2.2.2.2.2.2.2.2.2.2.2.2.2.2.2.2.2.2.2.2.1 o.2.2.2.2.2.2.2.2.2.2.2.2.2.2.2.2.2.2.2.2.2.2.2.2.2.2.2.1 o.2.2.2.2.2.2.2.2.2.2.2.2.2.2.2.2.2.2.2.2.2.2.2.2.2.2.2.2.1 o.2.2.2.2.2.2.2.2.2.2.2.2.2.2.2.2.2.2.2.2.2.2.2.2.2.2.2.2.2.1 o.2.2.2.2.2.2.2.2.2.2.2.2.2.2.2.2.2.2.2.2.2.2.2.2.2.2.2.2.2.2.1 o.2.2.2.2.2.2.2.2.2.2.2.2.2.2.2.2.2.2.2.2.2.2.2.2.2.2.2.2.2.2.2.1 o.2.2.2.2.2.2.2.2.2.2.2.2.2.2.2.2.2.2.2.2.2.2.2.2.2.2.2.2.2.2.2.2.1 o.2.2.2.2.2.2.2.2.2.2.2.2.2.2.2.2.2.2.2.2.2.2.2.2.2.2.2.2.2.2.2.2.2.1 o.2.2.2.2.2.2.2.2.2.2.2.2.2.2.2.2.2.2.2.2.2.2.2.2.2.2.2.2.2.2.2.2.2.2.1 o.2.2.2.2.2.2.2.2.2.2.2.2.2.2.2.2.2.2.2.2.2.2.2.2.2.2.2.2.2.2.2.2.2.2.2.1 o.2.2.2.2.2.2.2.2.2.2.2.2.2.2.2.2.2.2.2.2.2.2.2.2.2.2.2.2.2.2.2.2.2.2.2.2) H locs → lv_has ls 9 [(0, .ref b), (1, .ref (ad 0)), (2, .ref (md 0)), (3, .ref ob), (4, .ref od), (5, .int i)] → W p l e room_1 s m args below meth c H locs (a1 + 8) (a2 + 48) Q (F0 m 1789 ls [])) :
    ∀ (H : Heap) (locs : List Loc) (ls : Array Slot), zWd G A s (zLw ad ob od md k sv kE kR fb ft fs rws nx ct ch ln oo od_ thrown now saved hist kept reason detail isSaved comes queue far isInText ahead roomAt rooms text length at_ errorPosition toldFrom toldTo isWrong before) H locs → lv_has ls 9 [(0, .ref b), (1, .ref (ad 0)), (2, .ref (md 0)), (3, .ref ob), (4, .ref od), (5, .int i)] → W p l e room_1 s m args below meth c H locs a1 a2 Q (F0 m 202 ls []) := by
  obtain ⟨hx, hb, hr, hml, hown, hts, hlocks⟩ := id C0
  intro H locs ls hw hl
  unfold fCase2 at hF
  refine lv_aload_n hx hb dL_law_202 rfl (lv_at hl 1 rfl) ?_
  refine lv_aload_n hx hb dL_law_203 rfl (lv_at hl 0 rfl) ?_
  refine lv_iload hx hb dL_law_204 (lv_at hl 5 rfl) ?_
  refine lv_iconst (v := (1 : Int32)) hx hb dL_law_206 (by decide) ?_
  refine lv_iadd hx hb dL_law_207 ?_
  obtain ⟨hi1, hF⟩ := zck_in hF
  refine va_sld hx hb hX hbl hbA hw.2.2 hi1 dL_law_208 ?_
  refine lv_aload_n hx hb dL_law_209 rfl (lv_at hl 0 rfl) ?_
  refine lv_iload hx hb dL_law_210 (lv_at hl 5 rfl) ?_
  refine lv_iconst (v := (2 : Int32)) hx hb dL_law_212 (by decide) ?_
  refine lv_iadd hx hb dL_law_213 ?_
  obtain ⟨hi2, hF⟩ := zck_in hF
  refine va_sld hx hb hX hbl hbA hw.2.2 hi2 dL_law_214 ?_
  refine lv_aload_n hx hb dL_law_215 rfl (lv_at hl 0 rfl) ?_
  refine lv_iload hx hb dL_law_216 (lv_at hl 5 rfl) ?_
  refine lv_iconst (v := (3 : Int32)) hx hb dL_law_218 (by decide) ?_
  refine lv_iadd hx hb dL_law_219 ?_
  obtain ⟨hi3, hF⟩ := zck_in hF
  refine va_sld hx hb hX hbl hbA hw.2.2 hi3 dL_law_220 ?_
  refine lv_aload_n hx hb dL_law_221 rfl (lv_at hl 3 rfl) ?_
  obtain ⟨u4, hq5, hF⟩ := zbd_t hF
  refine zgoI4 (w' := (zLw ad ob od md k sv kE kR u4.2.1 ft fs u4.2.2.1 u4.2.2.2.1 u4.2.2.2.2.1 ch ln u4.2.2.2.2.2 od_ thrown now saved hist kept reason detail isSaved comes queue far isInText ahead roomAt rooms text length at_ errorPosition toldFrom toldTo isWrong before)) hw zLw_co zLw_co hA (zSW4 (As := [.ref (ad 0), .int (xs (i + (1 : Int32)).toNatClampNeg), .int (xs (i + (2 : Int32)).toNatClampNeg), .int (xs (i + (3 : Int32)).toNatClampNeg), .ref ob]) (rest := []) ⟨hx, hb, hml, hown, hts⟩ (mL_lay l hl9 G k ad ob H.size sv kE kR fb ft fs rws nx ct ch ln oo (xs (i + (1 : Int32)).toNatClampNeg) (xs (i + (2 : Int32)).toNatClampNeg) (xs (i + (3 : Int32)).toNatClampNeg) u4 hq5) (vx_cwSW 5 hts gL_law_L_lay rfl rfl rfl kdL_lay ⟨Nat.le_of_ble_eq_true rfl, Nat.le_of_ble_eq_true rfl⟩) hK hA hw zLw_co rfl hl.1 rfl (Nat.le_of_ble_eq_true rfl) dL_law_222 ⟨(by show _ ≤ 603072; omega), (by show _ ≤ 7207018; omega)⟩) rfl (fun H locs hw => ?_)
  refine lv_istore (lv' := [(6, .int u4.1), (0, .ref b), (1, .ref (ad 0)), (2, .ref (md 0)), (3, .ref ob), (4, .ref od), (5, .int i)]) hx hb dL_law_225 hl (by decide) rfl (fun ls hl => ?_)
  refine lv_aload_n hx hb dL_law_227 rfl (lv_at hl 3 rfl) ?_
  refine lv_aload_n hx hb dL_law_228 rfl (lv_at hl 1 rfl) ?_
  refine lv_iload hx hb dL_law_229 (lv_at hl 6 rfl) ?_
  refine lv_iconst (v := (1 : Int32)) hx hb dL_law_231 (by decide) ?_
  refine lv_iadd hx hb dL_law_232 ?_
  obtain ⟨hi6, hF⟩ := zck_in hF
  refine va_sld hx hb hX hbl hbA hw.2.2 hi6 dL_law_233 ?_
  refine lv_aload_n hx hb dL_law_234 rfl (lv_at hl 1 rfl) ?_
  refine lv_iload hx hb dL_law_235 (lv_at hl 6 rfl) ?_
  refine lv_iconst (v := (2 : Int32)) hx hb dL_law_237 (by decide) ?_
  refine lv_iadd hx hb dL_law_238 ?_
  obtain ⟨hi7, hF⟩ := zck_in hF
  refine va_sld hx hb hX hbl hbA hw.2.2 hi7 dL_law_239 ?_
  refine lv_aload_n hx hb dL_law_240 rfl (lv_at hl 1 rfl) ?_
  refine lv_iload hx hb dL_law_241 (lv_at hl 6 rfl) ?_
  refine lv_iconst (v := (3 : Int32)) hx hb dL_law_243 (by decide) ?_
  refine lv_iadd hx hb dL_law_244 ?_
  obtain ⟨hi8, hF⟩ := zck_in hF
  refine va_sld hx hb hX hbl hbA hw.2.2 hi8 dL_law_245 ?_
  obtain ⟨u9, hq10, hF⟩ := zbd_t hF
  refine zgoI4 (w' := (zLw ad ob od md k sv kE kR u4.2.1 ft fs u4.2.2.1 u4.2.2.2.1 u4.2.2.2.2.1 ch ln u4.2.2.2.2.2 od_ u9.2.1 u9.2.2.1 saved u9.2.2.2.1 u9.2.2.2.2 reason detail isSaved comes queue far isInText ahead roomAt rooms text length at_ errorPosition toldFrom toldTo isWrong before)) hw zLw_m zLw_m hA (zV4 (As := [.int (xs (i + (1 : Int32)).toNatClampNeg), .int (xs (i + (2 : Int32)).toNatClampNeg), .int (xs (i + (3 : Int32)).toNatClampNeg)]) (rest := []) ⟨hx, hb, hml, hown, hts⟩ (mX5_lay l G k md H.size thrown now saved hist kept reason detail isSaved comes queue far isInText ahead roomAt rooms text length at_ errorPosition toldFrom toldTo isWrong before (xs (i + (1 : Int32)).toNatClampNeg) (xs (i + (2 : Int32)).toNatClampNeg) (xs (i + (3 : Int32)).toNatClampNeg) u9 hq10) (cwV 3 hts gL_law_X5_lay rfl rfl rfl kdX5_lay ⟨Nat.le_of_ble_eq_true rfl, Nat.le_of_ble_eq_true rfl⟩) hK hA hw zLw_m 0 rfl rfl rfl rfl hl.1 rfl (Nat.le_of_ble_eq_true rfl) dL_law_246 ⟨(by show _ ≤ 603072; omega), (by show _ ≤ 7207018; omega)⟩) rfl (fun H locs hw => ?_)
  refine lv_istore (lv' := [(7, .int u9.1), (6, .int u4.1), (0, .ref b), (1, .ref (ad 0)), (2, .ref (md 0)), (3, .ref ob), (4, .ref od), (5, .int i)]) hx hb dL_law_249 hl (by decide) rfl (fun ls hl => ?_)
  refine lv_aload_n hx hb dL_law_251 rfl (lv_at hl 4 rfl) ?_
  obtain ⟨u11, hq12, hF⟩ := zbd_t hF
  refine zgoI4 (w' := (zLw ad ob od md k sv kE kR u4.2.1 ft fs u4.2.2.1 u4.2.2.2.1 u4.2.2.2.2.1 ch ln u4.2.2.2.2.2 od_ u9.2.1 u9.2.2.1 saved u9.2.2.2.1 u9.2.2.2.2 reason detail isSaved comes queue far isInText ahead roomAt rooms text length at_ errorPosition toldFrom toldTo isWrong before)) hw zLw_m zLw_m hA (zV4 (As := []) (rest := []) ⟨hx, hb, hml, hown, hts⟩ (mX5_thrown l G k md H.size u9.2.1 u9.2.2.1 saved u9.2.2.2.1 u9.2.2.2.2 reason detail isSaved comes queue far isInText ahead roomAt rooms text length at_ errorPosition toldFrom toldTo isWrong before  u11 hq12) (cwV 0 hts gL_law_X5_thrown rfl rfl rfl kdX5_thrown ⟨Nat.le_of_ble_eq_true rfl, Nat.le_of_ble_eq_true rfl⟩) hK hA hw zLw_m 0 rfl rfl rfl rfl hl.1 rfl (Nat.le_of_ble_eq_true rfl) dL_law_252 ⟨(by show _ ≤ 603072; omega), (by show _ ≤ 7207018; omega)⟩) rfl (fun H locs hw => ?_)
  refine lv_iload hx hb dL_law_255 (lv_at hl 1 rfl) ?_
  refine lv_icmp_eq (tgt := 262) hx hb dL_law_257 (by decide) (fun hc => ?_) (fun hc => ?_)
  · have hF := zif_t hc hF
    refine lv_iload hx hb dL_law_262 (lv_at hl 1 rfl) ?_
    refine lv_if_ne (tgt := 279) hx hb dL_law_264 (by decide) (fun hc => ?_) (fun hc => ?_)
    · have hF := zif_f hc hF
      refine lv_goto (tgt := 1789) hx hb dL_law_279 (by decide) ?_
      obtain rfl := Option.some.inj hF
      refine W.widen (k := a1 + 8) (n := a2 + 48) (by omega) (by omega) ?_
      exact hk _ _ _ hw (lv_sub hl [2, 3, 4, 5, 6, 7] rfl)
    · have hF := zif_t hc hF
      refine lv_aload_n hx hb dL_law_267 rfl (lv_at hl 5 rfl) ?_
      refine lv_iconst (v := (0 : Int32)) hx hb dL_law_268 (by decide) ?_
      obtain ⟨hi13, hF⟩ := zck_in hF
      refine va_lald hx hb hK.1 hw.1 12 0 rfl rfl hi13 dL_law_269 ?_
      refine lv_iload hx hb dL_law_270 (lv_at hl 0 rfl) ?_
      refine lv_i2l hx hb dL_law_272 rfl ?_
      refine W.lcmp hx hb dL_law_273 ?_
      refine lv_if_eq (tgt := 279) hx hb dL_law_274 (by decide) (fun hc => ?_) (fun hc => ?_)
      · have hF := zif_t hc hF
        refine lv_goto (tgt := 1789) hx hb dL_law_279 (by decide) ?_
        obtain rfl := Option.some.inj hF
        refine W.widen (k := a1 + 8) (n := a2 + 48) (by omega) (by omega) ?_
        exact hk _ _ _ hw (lv_sub hl [2, 3, 4, 5, 6, 7] rfl)
      · have hF := zif_f hc hF
        refine lv_iconst (v := (0 : Int32)) hx hb dL_law_277 (by decide) ?_
        obtain rfl := Option.some.inj hF
        exact absurd h1 (show ¬ ((0 : Int32)) = 1 by decide)
  · have hF := zif_f hc hF
    refine lv_iconst (v := (0 : Int32)) hx hb dL_law_260 (by decide) ?_
    obtain rfl := Option.some.inj hF
    exact absurd h1 (show ¬ ((0 : Int32)) = 1 by decide)
set_option maxHeartbeats 800000 in
set_option maxRecDepth 100000 in
theorem wCase3 {p : Program} {l : Launch} {e : Env} {s : State} {m : MethodId} {args : Array Value} {below : List Frame} {meth : Method} {c : Code} {A : Nat → Prop} {Q : State → Prop} {G : va_G} {k : Nat → ClassId} {ad : Nat → Nat} {ob od : Nat} {md : Nat → Nat} {b L a1 a2 : Nat} {xs : Nat → Int32} {i : Int32} {sv : Int32} {kE : Int32} {kR : Int32} {fb : Nat → Int64} {ft : Nat → Int64} {fs : Nat → Int64} {rws : Nat → Int64} {nx : Int32} {ct : Int32} {ch : Nat → Int32} {ln : Int32} {oo : Nat → Int64} {od_ : Nat → UInt64} {thrown : Int32} {now : Nat → Int32} {saved : Nat → Int32} {hist : Nat → Nat → Int32} {kept : Int32} {reason : Int32} {detail : Int32} {isSaved : Int32} {comes : Nat → Int32} {queue : Nat → Int32} {far : Nat → Int32} {isInText : Int32} {ahead : Nat → Int32} {roomAt : Nat → Int32} {rooms : Int32} {text : Nat → Int32} {length : Int32} {at_ : Int32} {errorPosition : Int32} {toldFrom : Int32} {toldTo : Int32} {isWrong : Int32} {before : Nat → Int32} {o : zSt} (C0 : zCx p s m args meth c wsL_law code RL ret 9) (hl9 : l.stackTraces = false) (hK : zKK G k A s s.heap) (hA : ∀ q : Nat, s.heap.size ≤ q → A q) (hX : va_X b L xs s s.heap) (hbl : b < s.heap.size) (hbA : ¬ A b) (hr1 : a1 + 8 ≤ 603072) (hr2 : a2 + 48 ≤ 7207018) (hF : fCase3 xs L i sv kE kR fb ft fs rws nx ct ch ln oo od_ thrown now saved hist kept reason detail isSaved comes queue far isInText ahead roomAt rooms text length at_ errorPosition toldFrom toldTo isWrong before = some o) (h1 : o.1 = 1)
    (hk : ∀ (H : Heap) (locs : List Loc) (ls : Array Slot), zWd G A s (zLw ad ob od md k o.2.1 o.2.2.1 o.2.2.2.1 o.2.2.2.2.1 o.2.2.2.2.2.1 o.2.2.2.2.2.2.1 o.2.2.2.2.2.2.2.1 o.2.2.2.2.2.2.2.2.1 o.2.2.2.2.2.2.2.2.2.1 o.2.2.2.2.2.2.2.2.2.2.1 o.2.2.2.2.2.2.2.2.2.2.2.1 o.2.2.2.2.2.2.2.2.2.2.2.2.1 o.2.2.2.2.2.2.2.2.2.2.2.2.2.1 o.2.2.2.2.2.2.2.2.2.2.2.2.2.2.1 o.2.2.2.2.2.2.2.2.2.2.2.2.2.2.2.1 o.2.2.2.2.2.2.2.2.2.2.2.2.2.2.2.2.1 o.2.2.2.2.2.2.2.2.2.2.2.2.2.2.2.2.2.1 o.2.2.2.2.2.2.2.2.2.2.2.2.2.2.2.2.2.2.1 o.2.2.2.2.2.2.2.2.2.2.2.2.2.2.2.2.2.2.2.1 o.2.2.2.2.2.2.2.2.2.2.2.2.2.2.2.2.2.2.2.2.1 o.2.2.2.2.2.2.2.2.2.2.2.2.2.2.2.2.2.2.2.2.2.1 o.2.2.2.2.2.2.2.2.2.2.2.2.2.2.2.2.2.2.2.2.2.2.1 o.2.2.2.2.2.2.2.2.2.2.2.2.2.2.2.2.2.2.2.2.2.2.2.1 o.2.2.2.2.2.2.2.2.2.2.2.2.2.2.2.2.2.2.2.2.2.2.2.2.1 o.2.2.2.2.2.2.2.2.2.2.2.2.2.2.2.2.2.2.2.2.2.2.2.2.2.1 o.2.2.2.2.2.2.2.2.2.2.2.2.2.2.2.2.2.2.2.2.2.2.2.2.2.2.1 o.2.2.2.2.2.2.2.2.2.2.2.2.2.2.2.2.2.2.2.2.2.2.2.2.2.2.2.1 o.2.2.2.2.2.2.2.2.2.2.2.2.2.2.2.2.2.2.2.2.2.2.2.2.2.2.2.2.1 o.2.2.2.2.2.2.2.2.2.2.2.2.2.2.2.2.2.2.2.2.2.2.2.2.2.2.2.2.2.1 o.2.2.2.2.2.2.2.2.2.2.2.2.2.2.2.2.2.2.2.2.2.2.2.2.2.2.2.2.2.2.1 o.2.2.2.2.2.2.2.2.2.2.2.2.2.2.2.2.2.2.2.2.2.2.2.2.2.2.2.2.2.2.2.1 o.2.2.2.2.2.2.2.2.2.2.2.2.2.2.2.2.2.2.2.2.2.2.2.2.2.2.2.2.2.2.2.2.1 o.2.2.2.2.2.2.2.2.2.2.2.2.2.2.2.2.2.2.2.2.2.2.2.2.2.2.2.2.2.2.2.2.2.1 o.2.2.2.2.2.2.2.2.2.2.2.2.2.2.2.2.2.2.2.2.2.2.2.2.2.2.2.2.2.2.2.2.2.2.1 o.2.2.2.2.2.2.2.2.2.2.2.2.2.2.2.2.2.2.2.2.2.2.2.2.2.2.2.2.2.2.2.2.2.2.2.1 o.2.2.2.2.2.2.2.2.2.2.2.2.2.2.2.2.2.2.2.2.2.2.2.2.2.2.2.2.2.2.2.2.2.2.2.2) H locs → lv_has ls 9 [(0, .ref b), (1, .ref (ad 0)), (2, .ref (md 0)), (3, .ref ob), (4, .ref od), (5, .int i)] → W p l e room_1 s m args below meth c H locs (a1 + 8) (a2 + 48) Q (F0 m 1789 ls [])) :
    ∀ (H : Heap) (locs : List Loc) (ls : Array Slot), zWd G A s (zLw ad ob od md k sv kE kR fb ft fs rws nx ct ch ln oo od_ thrown now saved hist kept reason detail isSaved comes queue far isInText ahead roomAt rooms text length at_ errorPosition toldFrom toldTo isWrong before) H locs → lv_has ls 9 [(0, .ref b), (1, .ref (ad 0)), (2, .ref (md 0)), (3, .ref ob), (4, .ref od), (5, .int i)] → W p l e room_1 s m args below meth c H locs a1 a2 Q (F0 m 282 ls []) := by
  obtain ⟨hx, hb, hr, hml, hown, hts, hlocks⟩ := id C0
  intro H locs ls hw hl
  unfold fCase3 at hF
  refine lv_aload_n hx hb dL_law_282 rfl (lv_at hl 1 rfl) ?_
  refine lv_aload_n hx hb dL_law_283 rfl (lv_at hl 0 rfl) ?_
  refine lv_iload hx hb dL_law_284 (lv_at hl 5 rfl) ?_
  refine lv_iconst (v := (1 : Int32)) hx hb dL_law_286 (by decide) ?_
  refine lv_iadd hx hb dL_law_287 ?_
  obtain ⟨hi1, hF⟩ := zck_in hF
  refine va_sld hx hb hX hbl hbA hw.2.2 hi1 dL_law_288 ?_
  refine lv_aload_n hx hb dL_law_289 rfl (lv_at hl 3 rfl) ?_
  obtain ⟨u2, hq3, hF⟩ := zbd_t hF
  refine zgoI4 (w' := (zLw ad ob od md k sv kE kR u2.2.1 ft fs u2.2.2.1 u2.2.2.2.1 u2.2.2.2.2.1 ch ln u2.2.2.2.2.2 od_ thrown now saved hist kept reason detail isSaved comes queue far isInText ahead roomAt rooms text length at_ errorPosition toldFrom toldTo isWrong before)) hw zLw_co zLw_co hA (zSW4 (As := [.ref (ad 0), .int (xs (i + (1 : Int32)).toNatClampNeg), .ref ob]) (rest := []) ⟨hx, hb, hml, hown, hts⟩ (mL_wall l hl9 G k ad ob H.size sv kE kR fb ft fs rws nx ct ch ln oo (xs (i + (1 : Int32)).toNatClampNeg) u2 hq3) (vx_cwSW 3 hts gL_law_L_wall rfl rfl rfl kdL_wall ⟨Nat.le_of_ble_eq_true rfl, Nat.le_of_ble_eq_true rfl⟩) hK hA hw zLw_co rfl hl.1 rfl (Nat.le_of_ble_eq_true rfl) dL_law_290 ⟨(by show _ ≤ 603072; omega), (by show _ ≤ 7207018; omega)⟩) rfl (fun H locs hw => ?_)
  refine lv_istore (lv' := [(6, .int u2.1), (0, .ref b), (1, .ref (ad 0)), (2, .ref (md 0)), (3, .ref ob), (4, .ref od), (5, .int i)]) hx hb dL_law_293 hl (by decide) rfl (fun ls hl => ?_)
  refine lv_aload_n hx hb dL_law_295 rfl (lv_at hl 3 rfl) ?_
  refine lv_aload_n hx hb dL_law_296 rfl (lv_at hl 1 rfl) ?_
  refine lv_iload hx hb dL_law_297 (lv_at hl 6 rfl) ?_
  refine lv_iconst (v := (1 : Int32)) hx hb dL_law_299 (by decide) ?_
  refine lv_iadd hx hb dL_law_300 ?_
  obtain ⟨hi4, hF⟩ := zck_in hF
  refine va_sld hx hb hX hbl hbA hw.2.2 hi4 dL_law_301 ?_
  obtain ⟨u5, hq6, hF⟩ := zbd_t hF
  refine zgoI4 (w' := (zLw ad ob od md k sv kE kR u2.2.1 ft fs u2.2.2.1 u2.2.2.2.1 u2.2.2.2.2.1 ch ln u2.2.2.2.2.2 od_ u5.2.1 u5.2.2.1 saved u5.2.2.2.1 u5.2.2.2.2 reason detail isSaved comes queue far isInText ahead roomAt rooms text length at_ errorPosition toldFrom toldTo isWrong before)) hw zLw_m zLw_m hA (zV4 (As := [.int (xs (i + (1 : Int32)).toNatClampNeg)]) (rest := []) ⟨hx, hb, hml, hown, hts⟩ (mX5_wall l G k md H.size thrown now saved hist kept reason detail isSaved comes queue far isInText ahead roomAt rooms text length at_ errorPosition toldFrom toldTo isWrong before (xs (i + (1 : Int32)).toNatClampNeg) u5 hq6) (cwV 1 hts gL_law_X5_wall rfl rfl rfl kdX5_wall ⟨Nat.le_of_ble_eq_true rfl, Nat.le_of_ble_eq_true rfl⟩) hK hA hw zLw_m 0 rfl rfl rfl rfl hl.1 rfl (Nat.le_of_ble_eq_true rfl) dL_law_302 ⟨(by show _ ≤ 603072; omega), (by show _ ≤ 7207018; omega)⟩) rfl (fun H locs hw => ?_)
  refine lv_istore (lv' := [(7, .int u5.1), (6, .int u2.1), (0, .ref b), (1, .ref (ad 0)), (2, .ref (md 0)), (3, .ref ob), (4, .ref od), (5, .int i)]) hx hb dL_law_305 hl (by decide) rfl (fun ls hl => ?_)
  refine lv_aload_n hx hb dL_law_307 rfl (lv_at hl 4 rfl) ?_
  obtain ⟨u7, hq8, hF⟩ := zbd_t hF
  refine zgoI4 (w' := (zLw ad ob od md k sv kE kR u2.2.1 ft fs u2.2.2.1 u2.2.2.2.1 u2.2.2.2.2.1 ch ln u2.2.2.2.2.2 od_ u5.2.1 u5.2.2.1 saved u5.2.2.2.1 u5.2.2.2.2 reason detail isSaved comes queue far isInText ahead roomAt rooms text length at_ errorPosition toldFrom toldTo isWrong before)) hw zLw_m zLw_m hA (zV4 (As := []) (rest := []) ⟨hx, hb, hml, hown, hts⟩ (mX5_thrown l G k md H.size u5.2.1 u5.2.2.1 saved u5.2.2.2.1 u5.2.2.2.2 reason detail isSaved comes queue far isInText ahead roomAt rooms text length at_ errorPosition toldFrom toldTo isWrong before  u7 hq8) (cwV 0 hts gL_law_X5_thrown rfl rfl rfl kdX5_thrown ⟨Nat.le_of_ble_eq_true rfl, Nat.le_of_ble_eq_true rfl⟩) hK hA hw zLw_m 0 rfl rfl rfl rfl hl.1 rfl (Nat.le_of_ble_eq_true rfl) dL_law_308 ⟨(by show _ ≤ 603072; omega), (by show _ ≤ 7207018; omega)⟩) rfl (fun H locs hw => ?_)
  refine lv_iload hx hb dL_law_311 (lv_at hl 1 rfl) ?_
  refine lv_icmp_eq (tgt := 318) hx hb dL_law_313 (by decide) (fun hc => ?_) (fun hc => ?_)
  · have hF := zif_t hc hF
    refine lv_iload hx hb dL_law_318 (lv_at hl 1 rfl) ?_
    refine lv_if_ne (tgt := 335) hx hb dL_law_320 (by decide) (fun hc => ?_) (fun hc => ?_)
    · have hF := zif_f hc hF
      refine lv_goto (tgt := 1789) hx hb dL_law_335 (by decide) ?_
      obtain rfl := Option.some.inj hF
      refine W.widen (k := a1 + 8) (n := a2 + 48) (by omega) (by omega) ?_
      exact hk _ _ _ hw (lv_sub hl [2, 3, 4, 5, 6, 7] rfl)
    · have hF := zif_t hc hF
      refine lv_aload_n hx hb dL_law_323 rfl (lv_at hl 5 rfl) ?_
      refine lv_iconst (v := (0 : Int32)) hx hb dL_law_324 (by decide) ?_
      obtain ⟨hi9, hF⟩ := zck_in hF
      refine va_lald hx hb hK.1 hw.1 12 0 rfl rfl hi9 dL_law_325 ?_
      refine lv_iload hx hb dL_law_326 (lv_at hl 0 rfl) ?_
      refine lv_i2l hx hb dL_law_328 rfl ?_
      refine W.lcmp hx hb dL_law_329 ?_
      refine lv_if_eq (tgt := 335) hx hb dL_law_330 (by decide) (fun hc => ?_) (fun hc => ?_)
      · have hF := zif_t hc hF
        refine lv_goto (tgt := 1789) hx hb dL_law_335 (by decide) ?_
        obtain rfl := Option.some.inj hF
        refine W.widen (k := a1 + 8) (n := a2 + 48) (by omega) (by omega) ?_
        exact hk _ _ _ hw (lv_sub hl [2, 3, 4, 5, 6, 7] rfl)
      · have hF := zif_f hc hF
        refine lv_iconst (v := (0 : Int32)) hx hb dL_law_333 (by decide) ?_
        obtain rfl := Option.some.inj hF
        exact absurd h1 (show ¬ ((0 : Int32)) = 1 by decide)
  · have hF := zif_f hc hF
    refine lv_iconst (v := (0 : Int32)) hx hb dL_law_316 (by decide) ?_
    obtain rfl := Option.some.inj hF
    exact absurd h1 (show ¬ ((0 : Int32)) = 1 by decide)
set_option maxHeartbeats 800000 in
set_option maxRecDepth 100000 in
theorem wCase4 {p : Program} {l : Launch} {e : Env} {s : State} {m : MethodId} {args : Array Value} {below : List Frame} {meth : Method} {c : Code} {A : Nat → Prop} {Q : State → Prop} {G : va_G} {k : Nat → ClassId} {ad : Nat → Nat} {ob od : Nat} {md : Nat → Nat} {b L a1 a2 : Nat} {xs : Nat → Int32} {i : Int32} {sv : Int32} {kE : Int32} {kR : Int32} {fb : Nat → Int64} {ft : Nat → Int64} {fs : Nat → Int64} {rws : Nat → Int64} {nx : Int32} {ct : Int32} {ch : Nat → Int32} {ln : Int32} {oo : Nat → Int64} {od_ : Nat → UInt64} {thrown : Int32} {now : Nat → Int32} {saved : Nat → Int32} {hist : Nat → Nat → Int32} {kept : Int32} {reason : Int32} {detail : Int32} {isSaved : Int32} {comes : Nat → Int32} {queue : Nat → Int32} {far : Nat → Int32} {isInText : Int32} {ahead : Nat → Int32} {roomAt : Nat → Int32} {rooms : Int32} {text : Nat → Int32} {length : Int32} {at_ : Int32} {errorPosition : Int32} {toldFrom : Int32} {toldTo : Int32} {isWrong : Int32} {before : Nat → Int32} {o : zSt} (C0 : zCx p s m args meth c wsL_law code RL ret 9) (hl9 : l.stackTraces = false) (hK : zKK G k A s s.heap) (hA : ∀ q : Nat, s.heap.size ≤ q → A q) (hX : va_X b L xs s s.heap) (hbl : b < s.heap.size) (hbA : ¬ A b) (hr1 : a1 + 8 ≤ 603072) (hr2 : a2 + 48 ≤ 7207018) (hF : fCase4 xs L i sv kE kR fb ft fs rws nx ct ch ln oo od_ thrown now saved hist kept reason detail isSaved comes queue far isInText ahead roomAt rooms text length at_ errorPosition toldFrom toldTo isWrong before = some o) (h1 : o.1 = 1)
    (hk : ∀ (H : Heap) (locs : List Loc) (ls : Array Slot), zWd G A s (zLw ad ob od md k o.2.1 o.2.2.1 o.2.2.2.1 o.2.2.2.2.1 o.2.2.2.2.2.1 o.2.2.2.2.2.2.1 o.2.2.2.2.2.2.2.1 o.2.2.2.2.2.2.2.2.1 o.2.2.2.2.2.2.2.2.2.1 o.2.2.2.2.2.2.2.2.2.2.1 o.2.2.2.2.2.2.2.2.2.2.2.1 o.2.2.2.2.2.2.2.2.2.2.2.2.1 o.2.2.2.2.2.2.2.2.2.2.2.2.2.1 o.2.2.2.2.2.2.2.2.2.2.2.2.2.2.1 o.2.2.2.2.2.2.2.2.2.2.2.2.2.2.2.1 o.2.2.2.2.2.2.2.2.2.2.2.2.2.2.2.2.1 o.2.2.2.2.2.2.2.2.2.2.2.2.2.2.2.2.2.1 o.2.2.2.2.2.2.2.2.2.2.2.2.2.2.2.2.2.2.1 o.2.2.2.2.2.2.2.2.2.2.2.2.2.2.2.2.2.2.2.1 o.2.2.2.2.2.2.2.2.2.2.2.2.2.2.2.2.2.2.2.2.1 o.2.2.2.2.2.2.2.2.2.2.2.2.2.2.2.2.2.2.2.2.2.1 o.2.2.2.2.2.2.2.2.2.2.2.2.2.2.2.2.2.2.2.2.2.2.1 o.2.2.2.2.2.2.2.2.2.2.2.2.2.2.2.2.2.2.2.2.2.2.2.1 o.2.2.2.2.2.2.2.2.2.2.2.2.2.2.2.2.2.2.2.2.2.2.2.2.1 o.2.2.2.2.2.2.2.2.2.2.2.2.2.2.2.2.2.2.2.2.2.2.2.2.2.1 o.2.2.2.2.2.2.2.2.2.2.2.2.2.2.2.2.2.2.2.2.2.2.2.2.2.2.1 o.2.2.2.2.2.2.2.2.2.2.2.2.2.2.2.2.2.2.2.2.2.2.2.2.2.2.2.1 o.2.2.2.2.2.2.2.2.2.2.2.2.2.2.2.2.2.2.2.2.2.2.2.2.2.2.2.2.1 o.2.2.2.2.2.2.2.2.2.2.2.2.2.2.2.2.2.2.2.2.2.2.2.2.2.2.2.2.2.1 o.2.2.2.2.2.2.2.2.2.2.2.2.2.2.2.2.2.2.2.2.2.2.2.2.2.2.2.2.2.2.1 o.2.2.2.2.2.2.2.2.2.2.2.2.2.2.2.2.2.2.2.2.2.2.2.2.2.2.2.2.2.2.2.1 o.2.2.2.2.2.2.2.2.2.2.2.2.2.2.2.2.2.2.2.2.2.2.2.2.2.2.2.2.2.2.2.2.1 o.2.2.2.2.2.2.2.2.2.2.2.2.2.2.2.2.2.2.2.2.2.2.2.2.2.2.2.2.2.2.2.2.2.1 o.2.2.2.2.2.2.2.2.2.2.2.2.2.2.2.2.2.2.2.2.2.2.2.2.2.2.2.2.2.2.2.2.2.2.1 o.2.2.2.2.2.2.2.2.2.2.2.2.2.2.2.2.2.2.2.2.2.2.2.2.2.2.2.2.2.2.2.2.2.2.2.1 o.2.2.2.2.2.2.2.2.2.2.2.2.2.2.2.2.2.2.2.2.2.2.2.2.2.2.2.2.2.2.2.2.2.2.2.2) H locs → lv_has ls 9 [(0, .ref b), (1, .ref (ad 0)), (2, .ref (md 0)), (3, .ref ob), (4, .ref od), (5, .int i)] → W p l e room_1 s m args below meth c H locs (a1 + 8) (a2 + 48) Q (F0 m 1789 ls [])) :
    ∀ (H : Heap) (locs : List Loc) (ls : Array Slot), zWd G A s (zLw ad ob od md k sv kE kR fb ft fs rws nx ct ch ln oo od_ thrown now saved hist kept reason detail isSaved comes queue far isInText ahead roomAt rooms text length at_ errorPosition toldFrom toldTo isWrong before) H locs → lv_has ls 9 [(0, .ref b), (1, .ref (ad 0)), (2, .ref (md 0)), (3, .ref ob), (4, .ref od), (5, .int i)] → W p l e room_1 s m args below meth c H locs a1 a2 Q (F0 m 338 ls []) := by
  obtain ⟨hx, hb, hr, hml, hown, hts, hlocks⟩ := id C0
  intro H locs ls hw hl
  unfold fCase4 at hF
  refine lv_aload_n hx hb dL_law_338 rfl (lv_at hl 1 rfl) ?_
  refine lv_aload_n hx hb dL_law_339 rfl (lv_at hl 0 rfl) ?_
  refine lv_iload hx hb dL_law_340 (lv_at hl 5 rfl) ?_
  refine lv_iconst (v := (1 : Int32)) hx hb dL_law_342 (by decide) ?_
  refine lv_iadd hx hb dL_law_343 ?_
  obtain ⟨hi1, hF⟩ := zck_in hF
  refine va_sld hx hb hX hbl hbA hw.2.2 hi1 dL_law_344 ?_
  refine lv_aload_n hx hb dL_law_345 rfl (lv_at hl 0 rfl) ?_
  refine lv_iload hx hb dL_law_346 (lv_at hl 5 rfl) ?_
  refine lv_iconst (v := (2 : Int32)) hx hb dL_law_348 (by decide) ?_
  refine lv_iadd hx hb dL_law_349 ?_
  obtain ⟨hi2, hF⟩ := zck_in hF
  refine va_sld hx hb hX hbl hbA hw.2.2 hi2 dL_law_350 ?_
  refine lv_aload_n hx hb dL_law_351 rfl (lv_at hl 3 rfl) ?_
  obtain ⟨u3, hq4, hF⟩ := zbd_t hF
  refine zgoI4 (w' := (zLw ad ob od md k sv kE u3.2.1 u3.2.2.1 ft fs u3.2.2.2.1 u3.2.2.2.2.1 u3.2.2.2.2.2.1 ch ln u3.2.2.2.2.2.2 od_ thrown now saved hist kept reason detail isSaved comes queue far isInText ahead roomAt rooms text length at_ errorPosition toldFrom toldTo isWrong before)) hw zLw_co zLw_co hA (zSW4 (As := [.ref (ad 0), .int (xs (i + (1 : Int32)).toNatClampNeg), .int (xs (i + (2 : Int32)).toNatClampNeg), .ref ob]) (rest := []) ⟨hx, hb, hml, hown, hts⟩ (mL_move l hl9 G k ad ob H.size sv kE kR fb ft fs rws nx ct ch ln oo (xs (i + (1 : Int32)).toNatClampNeg) (xs (i + (2 : Int32)).toNatClampNeg) u3 hq4) (vx_cwSW 4 hts gL_law_L_move rfl rfl rfl kdL_move ⟨Nat.le_of_ble_eq_true rfl, Nat.le_of_ble_eq_true rfl⟩) hK hA hw zLw_co rfl hl.1 rfl (Nat.le_of_ble_eq_true rfl) dL_law_352 ⟨(by show _ ≤ 603072; omega), (by show _ ≤ 7207018; omega)⟩) rfl (fun H locs hw => ?_)
  refine lv_istore (lv' := [(6, .int u3.1), (0, .ref b), (1, .ref (ad 0)), (2, .ref (md 0)), (3, .ref ob), (4, .ref od), (5, .int i)]) hx hb dL_law_355 hl (by decide) rfl (fun ls hl => ?_)
  refine lv_aload_n hx hb dL_law_357 rfl (lv_at hl 3 rfl) ?_
  refine lv_aload_n hx hb dL_law_358 rfl (lv_at hl 1 rfl) ?_
  refine lv_iload hx hb dL_law_359 (lv_at hl 6 rfl) ?_
  refine lv_iconst (v := (1 : Int32)) hx hb dL_law_361 (by decide) ?_
  refine lv_iadd hx hb dL_law_362 ?_
  obtain ⟨hi5, hF⟩ := zck_in hF
  refine va_sld hx hb hX hbl hbA hw.2.2 hi5 dL_law_363 ?_
  refine lv_aload_n hx hb dL_law_364 rfl (lv_at hl 1 rfl) ?_
  refine lv_iload hx hb dL_law_365 (lv_at hl 6 rfl) ?_
  refine lv_iconst (v := (2 : Int32)) hx hb dL_law_367 (by decide) ?_
  refine lv_iadd hx hb dL_law_368 ?_
  obtain ⟨hi6, hF⟩ := zck_in hF
  refine va_sld hx hb hX hbl hbA hw.2.2 hi6 dL_law_369 ?_
  obtain ⟨u7, hq8, hF⟩ := zbd_t hF
  refine zgoI4 (w' := (zLw ad ob od md k sv kE u3.2.1 u3.2.2.1 ft fs u3.2.2.2.1 u3.2.2.2.2.1 u3.2.2.2.2.2.1 ch ln u3.2.2.2.2.2.2 od_ u7.2.1 u7.2.2.1 saved u7.2.2.2.1 u7.2.2.2.2.1 u7.2.2.2.2.2.1 u7.2.2.2.2.2.2.1 isSaved u7.2.2.2.2.2.2.2.1 u7.2.2.2.2.2.2.2.2.1 u7.2.2.2.2.2.2.2.2.2 isInText ahead roomAt rooms text length at_ errorPosition toldFrom toldTo isWrong before)) hw zLw_m zLw_m hA (zV4 (As := [.int (xs (i + (1 : Int32)).toNatClampNeg), .int (xs (i + (2 : Int32)).toNatClampNeg)]) (rest := []) ⟨hx, hb, hml, hown, hts⟩ (mX5_move l G k md H.size thrown now saved hist kept reason detail isSaved comes queue far isInText ahead roomAt rooms text length at_ errorPosition toldFrom toldTo isWrong before (xs (i + (1 : Int32)).toNatClampNeg) (xs (i + (2 : Int32)).toNatClampNeg) u7 hq8) (cwV 2 hts gL_law_X5_move rfl rfl rfl kdX5_move ⟨Nat.le_of_ble_eq_true rfl, Nat.le_of_ble_eq_true rfl⟩) hK hA hw zLw_m 0 rfl rfl rfl rfl hl.1 rfl (Nat.le_of_ble_eq_true rfl) dL_law_370 ⟨(by show _ ≤ 603072; omega), (by show _ ≤ 7207018; omega)⟩) rfl (fun H locs hw => ?_)
  refine lv_istore (lv' := [(7, .int u7.1), (6, .int u3.1), (0, .ref b), (1, .ref (ad 0)), (2, .ref (md 0)), (3, .ref ob), (4, .ref od), (5, .int i)]) hx hb dL_law_373 hl (by decide) rfl (fun ls hl => ?_)
  refine lv_aload_n hx hb dL_law_375 rfl (lv_at hl 4 rfl) ?_
  obtain ⟨u9, hq10, hF⟩ := zbd_t hF
  refine zgoI4 (w' := (zLw ad ob od md k sv kE u3.2.1 u3.2.2.1 ft fs u3.2.2.2.1 u3.2.2.2.2.1 u3.2.2.2.2.2.1 ch ln u3.2.2.2.2.2.2 od_ u7.2.1 u7.2.2.1 saved u7.2.2.2.1 u7.2.2.2.2.1 u7.2.2.2.2.2.1 u7.2.2.2.2.2.2.1 isSaved u7.2.2.2.2.2.2.2.1 u7.2.2.2.2.2.2.2.2.1 u7.2.2.2.2.2.2.2.2.2 isInText ahead roomAt rooms text length at_ errorPosition toldFrom toldTo isWrong before)) hw zLw_m zLw_m hA (zV4 (As := []) (rest := []) ⟨hx, hb, hml, hown, hts⟩ (mX5_thrown l G k md H.size u7.2.1 u7.2.2.1 saved u7.2.2.2.1 u7.2.2.2.2.1 u7.2.2.2.2.2.1 u7.2.2.2.2.2.2.1 isSaved u7.2.2.2.2.2.2.2.1 u7.2.2.2.2.2.2.2.2.1 u7.2.2.2.2.2.2.2.2.2 isInText ahead roomAt rooms text length at_ errorPosition toldFrom toldTo isWrong before  u9 hq10) (cwV 0 hts gL_law_X5_thrown rfl rfl rfl kdX5_thrown ⟨Nat.le_of_ble_eq_true rfl, Nat.le_of_ble_eq_true rfl⟩) hK hA hw zLw_m 0 rfl rfl rfl rfl hl.1 rfl (Nat.le_of_ble_eq_true rfl) dL_law_376 ⟨(by show _ ≤ 603072; omega), (by show _ ≤ 7207018; omega)⟩) rfl (fun H locs hw => ?_)
  refine lv_iload hx hb dL_law_379 (lv_at hl 1 rfl) ?_
  refine lv_icmp_eq (tgt := 386) hx hb dL_law_381 (by decide) (fun hc => ?_) (fun hc => ?_)
  · have hF := zif_t hc hF
    refine lv_iload hx hb dL_law_386 (lv_at hl 1 rfl) ?_
    refine lv_if_ne (tgt := 403) hx hb dL_law_388 (by decide) (fun hc => ?_) (fun hc => ?_)
    · have hF := zif_f hc hF
      refine lv_goto (tgt := 1789) hx hb dL_law_403 (by decide) ?_
      obtain rfl := Option.some.inj hF
      refine W.widen (k := a1 + 8) (n := a2 + 48) (by omega) (by omega) ?_
      exact hk _ _ _ hw (lv_sub hl [2, 3, 4, 5, 6, 7] rfl)
    · have hF := zif_t hc hF
      refine lv_aload_n hx hb dL_law_391 rfl (lv_at hl 5 rfl) ?_
      refine lv_iconst (v := (0 : Int32)) hx hb dL_law_392 (by decide) ?_
      obtain ⟨hi11, hF⟩ := zck_in hF
      refine va_lald hx hb hK.1 hw.1 12 0 rfl rfl hi11 dL_law_393 ?_
      refine lv_iload hx hb dL_law_394 (lv_at hl 0 rfl) ?_
      refine lv_i2l hx hb dL_law_396 rfl ?_
      refine W.lcmp hx hb dL_law_397 ?_
      refine lv_if_eq (tgt := 403) hx hb dL_law_398 (by decide) (fun hc => ?_) (fun hc => ?_)
      · have hF := zif_t hc hF
        refine lv_goto (tgt := 1789) hx hb dL_law_403 (by decide) ?_
        obtain rfl := Option.some.inj hF
        refine W.widen (k := a1 + 8) (n := a2 + 48) (by omega) (by omega) ?_
        exact hk _ _ _ hw (lv_sub hl [2, 3, 4, 5, 6, 7] rfl)
      · have hF := zif_f hc hF
        refine lv_iconst (v := (0 : Int32)) hx hb dL_law_401 (by decide) ?_
        obtain rfl := Option.some.inj hF
        exact absurd h1 (show ¬ ((0 : Int32)) = 1 by decide)
  · have hF := zif_f hc hF
    refine lv_iconst (v := (0 : Int32)) hx hb dL_law_384 (by decide) ?_
    obtain rfl := Option.some.inj hF
    exact absurd h1 (show ¬ ((0 : Int32)) = 1 by decide)
set_option maxHeartbeats 800000 in
set_option maxRecDepth 100000 in
theorem wCase5 {p : Program} {l : Launch} {e : Env} {s : State} {m : MethodId} {args : Array Value} {below : List Frame} {meth : Method} {c : Code} {A : Nat → Prop} {Q : State → Prop} {G : va_G} {k : Nat → ClassId} {ad : Nat → Nat} {ob od : Nat} {md : Nat → Nat} {b L a1 a2 : Nat} {xs : Nat → Int32} {i : Int32} {sv : Int32} {kE : Int32} {kR : Int32} {fb : Nat → Int64} {ft : Nat → Int64} {fs : Nat → Int64} {rws : Nat → Int64} {nx : Int32} {ct : Int32} {ch : Nat → Int32} {ln : Int32} {oo : Nat → Int64} {od_ : Nat → UInt64} {thrown : Int32} {now : Nat → Int32} {saved : Nat → Int32} {hist : Nat → Nat → Int32} {kept : Int32} {reason : Int32} {detail : Int32} {isSaved : Int32} {comes : Nat → Int32} {queue : Nat → Int32} {far : Nat → Int32} {isInText : Int32} {ahead : Nat → Int32} {roomAt : Nat → Int32} {rooms : Int32} {text : Nat → Int32} {length : Int32} {at_ : Int32} {errorPosition : Int32} {toldFrom : Int32} {toldTo : Int32} {isWrong : Int32} {before : Nat → Int32} {o : zSt} (C0 : zCx p s m args meth c wsL_law code RL ret 9) (hl9 : l.stackTraces = false) (hK : zKK G k A s s.heap) (hA : ∀ q : Nat, s.heap.size ≤ q → A q) (hX : va_X b L xs s s.heap) (hbl : b < s.heap.size) (hbA : ¬ A b) (hr1 : a1 + 8 ≤ 603072) (hr2 : a2 + 48 ≤ 7207018) (hF : fCase5 xs L i sv kE kR fb ft fs rws nx ct ch ln oo od_ thrown now saved hist kept reason detail isSaved comes queue far isInText ahead roomAt rooms text length at_ errorPosition toldFrom toldTo isWrong before = some o) (h1 : o.1 = 1)
    (hk : ∀ (H : Heap) (locs : List Loc) (ls : Array Slot), zWd G A s (zLw ad ob od md k o.2.1 o.2.2.1 o.2.2.2.1 o.2.2.2.2.1 o.2.2.2.2.2.1 o.2.2.2.2.2.2.1 o.2.2.2.2.2.2.2.1 o.2.2.2.2.2.2.2.2.1 o.2.2.2.2.2.2.2.2.2.1 o.2.2.2.2.2.2.2.2.2.2.1 o.2.2.2.2.2.2.2.2.2.2.2.1 o.2.2.2.2.2.2.2.2.2.2.2.2.1 o.2.2.2.2.2.2.2.2.2.2.2.2.2.1 o.2.2.2.2.2.2.2.2.2.2.2.2.2.2.1 o.2.2.2.2.2.2.2.2.2.2.2.2.2.2.2.1 o.2.2.2.2.2.2.2.2.2.2.2.2.2.2.2.2.1 o.2.2.2.2.2.2.2.2.2.2.2.2.2.2.2.2.2.1 o.2.2.2.2.2.2.2.2.2.2.2.2.2.2.2.2.2.2.1 o.2.2.2.2.2.2.2.2.2.2.2.2.2.2.2.2.2.2.2.1 o.2.2.2.2.2.2.2.2.2.2.2.2.2.2.2.2.2.2.2.2.1 o.2.2.2.2.2.2.2.2.2.2.2.2.2.2.2.2.2.2.2.2.2.1 o.2.2.2.2.2.2.2.2.2.2.2.2.2.2.2.2.2.2.2.2.2.2.1 o.2.2.2.2.2.2.2.2.2.2.2.2.2.2.2.2.2.2.2.2.2.2.2.1 o.2.2.2.2.2.2.2.2.2.2.2.2.2.2.2.2.2.2.2.2.2.2.2.2.1 o.2.2.2.2.2.2.2.2.2.2.2.2.2.2.2.2.2.2.2.2.2.2.2.2.2.1 o.2.2.2.2.2.2.2.2.2.2.2.2.2.2.2.2.2.2.2.2.2.2.2.2.2.2.1 o.2.2.2.2.2.2.2.2.2.2.2.2.2.2.2.2.2.2.2.2.2.2.2.2.2.2.2.1 o.2.2.2.2.2.2.2.2.2.2.2.2.2.2.2.2.2.2.2.2.2.2.2.2.2.2.2.2.1 o.2.2.2.2.2.2.2.2.2.2.2.2.2.2.2.2.2.2.2.2.2.2.2.2.2.2.2.2.2.1 o.2.2.2.2.2.2.2.2.2.2.2.2.2.2.2.2.2.2.2.2.2.2.2.2.2.2.2.2.2.2.1 o.2.2.2.2.2.2.2.2.2.2.2.2.2.2.2.2.2.2.2.2.2.2.2.2.2.2.2.2.2.2.2.1 o.2.2.2.2.2.2.2.2.2.2.2.2.2.2.2.2.2.2.2.2.2.2.2.2.2.2.2.2.2.2.2.2.1 o.2.2.2.2.2.2.2.2.2.2.2.2.2.2.2.2.2.2.2.2.2.2.2.2.2.2.2.2.2.2.2.2.2.1 o.2.2.2.2.2.2.2.2.2.2.2.2.2.2.2.2.2.2.2.2.2.2.2.2.2.2.2.2.2.2.2.2.2.2.1 o.2.2.2.2.2.2.2.2.2.2.2.2.2.2.2.2.2.2.2.2.2.2.2.2.2.2.2.2.2.2.2.2.2.2.2.1 o.2.2.2.2.2.2.2.2.2.2.2.2.2.2.2.2.2.2.2.2.2.2.2.2.2.2.2.2.2.2.2.2.2.2.2.2) H locs → lv_has ls 9 [(0, .ref b), (1, .ref (ad 0)), (2, .ref (md 0)), (3, .ref ob), (4, .ref od), (5, .int i)] → W p l e room_1 s m args below meth c H locs (a1 + 8) (a2 + 48) Q (F0 m 1789 ls [])) :
    ∀ (H : Heap) (locs : List Loc) (ls : Array Slot), zWd G A s (zLw ad ob od md k sv kE kR fb ft fs rws nx ct ch ln oo od_ thrown now saved hist kept reason detail isSaved comes queue far isInText ahead roomAt rooms text length at_ errorPosition toldFrom toldTo isWrong before) H locs → lv_has ls 9 [(0, .ref b), (1, .ref (ad 0)), (2, .ref (md 0)), (3, .ref ob), (4, .ref od), (5, .int i)] → W p l e room_1 s m args below meth c H locs a1 a2 Q (F0 m 406 ls []) := by
  obtain ⟨hx, hb, hr, hml, hown, hts, hlocks⟩ := id C0
  intro H locs ls hw hl
  unfold fCase5 at hF
  refine lv_aload_n hx hb dL_law_406 rfl (lv_at hl 1 rfl) ?_
  refine lv_aload_n hx hb dL_law_407 rfl (lv_at hl 0 rfl) ?_
  refine lv_iload hx hb dL_law_408 (lv_at hl 5 rfl) ?_
  refine lv_iconst (v := (1 : Int32)) hx hb dL_law_410 (by decide) ?_
  refine lv_iadd hx hb dL_law_411 ?_
  obtain ⟨hi1, hF⟩ := zck_in hF
  refine va_sld hx hb hX hbl hbA hw.2.2 hi1 dL_law_412 ?_
  refine lv_aload_n hx hb dL_law_413 rfl (lv_at hl 3 rfl) ?_
  obtain ⟨u2, hq3, hF⟩ := zbd_t hF
  refine zgoI4 (w' := (zLw ad ob od md k sv kE u2.2.1 u2.2.2.1 ft fs u2.2.2.2.1 u2.2.2.2.2.1 u2.2.2.2.2.2.1 ch ln u2.2.2.2.2.2.2 od_ thrown now saved hist kept reason detail isSaved comes queue far isInText ahead roomAt rooms text length at_ errorPosition toldFrom toldTo isWrong before)) hw zLw_co zLw_co hA (zSW4 (As := [.ref (ad 0), .int (xs (i + (1 : Int32)).toNatClampNeg), .ref ob]) (rest := []) ⟨hx, hb, hml, hown, hts⟩ (mL_door l hl9 G k ad ob H.size sv kE kR fb ft fs rws nx ct ch ln oo (xs (i + (1 : Int32)).toNatClampNeg) u2 hq3) (vx_cwSW 3 hts gL_law_L_door rfl rfl rfl kdL_door ⟨Nat.le_of_ble_eq_true rfl, Nat.le_of_ble_eq_true rfl⟩) hK hA hw zLw_co rfl hl.1 rfl (Nat.le_of_ble_eq_true rfl) dL_law_414 ⟨(by show _ ≤ 603072; omega), (by show _ ≤ 7207018; omega)⟩) rfl (fun H locs hw => ?_)
  refine lv_istore (lv' := [(6, .int u2.1), (0, .ref b), (1, .ref (ad 0)), (2, .ref (md 0)), (3, .ref ob), (4, .ref od), (5, .int i)]) hx hb dL_law_417 hl (by decide) rfl (fun ls hl => ?_)
  refine lv_aload_n hx hb dL_law_419 rfl (lv_at hl 3 rfl) ?_
  refine lv_aload_n hx hb dL_law_420 rfl (lv_at hl 1 rfl) ?_
  refine lv_iload hx hb dL_law_421 (lv_at hl 6 rfl) ?_
  refine lv_iconst (v := (1 : Int32)) hx hb dL_law_423 (by decide) ?_
  refine lv_iadd hx hb dL_law_424 ?_
  obtain ⟨hi4, hF⟩ := zck_in hF
  refine va_sld hx hb hX hbl hbA hw.2.2 hi4 dL_law_425 ?_
  obtain ⟨u5, hq6, hF⟩ := zbd_t hF
  refine zgoI4 (w' := (zLw ad ob od md k sv kE u2.2.1 u2.2.2.1 ft fs u2.2.2.2.1 u2.2.2.2.2.1 u2.2.2.2.2.2.1 ch ln u2.2.2.2.2.2.2 od_ u5.2.1 u5.2.2.1 saved u5.2.2.2.1 u5.2.2.2.2.1 u5.2.2.2.2.2.1 u5.2.2.2.2.2.2.1 isSaved u5.2.2.2.2.2.2.2.1 u5.2.2.2.2.2.2.2.2.1 u5.2.2.2.2.2.2.2.2.2 isInText ahead roomAt rooms text length at_ errorPosition toldFrom toldTo isWrong before)) hw zLw_m zLw_m hA (zV4 (As := [.int (xs (i + (1 : Int32)).toNatClampNeg)]) (rest := []) ⟨hx, hb, hml, hown, hts⟩ (mX5_door l G k md H.size thrown now saved hist kept reason detail isSaved comes queue far isInText ahead roomAt rooms text length at_ errorPosition toldFrom toldTo isWrong before (xs (i + (1 : Int32)).toNatClampNeg) u5 hq6) (cwV 1 hts gL_law_X5_door rfl rfl rfl kdX5_door ⟨Nat.le_of_ble_eq_true rfl, Nat.le_of_ble_eq_true rfl⟩) hK hA hw zLw_m 0 rfl rfl rfl rfl hl.1 rfl (Nat.le_of_ble_eq_true rfl) dL_law_426 ⟨(by show _ ≤ 603072; omega), (by show _ ≤ 7207018; omega)⟩) rfl (fun H locs hw => ?_)
  refine lv_istore (lv' := [(7, .int u5.1), (6, .int u2.1), (0, .ref b), (1, .ref (ad 0)), (2, .ref (md 0)), (3, .ref ob), (4, .ref od), (5, .int i)]) hx hb dL_law_429 hl (by decide) rfl (fun ls hl => ?_)
  refine lv_aload_n hx hb dL_law_431 rfl (lv_at hl 4 rfl) ?_
  obtain ⟨u7, hq8, hF⟩ := zbd_t hF
  refine zgoI4 (w' := (zLw ad ob od md k sv kE u2.2.1 u2.2.2.1 ft fs u2.2.2.2.1 u2.2.2.2.2.1 u2.2.2.2.2.2.1 ch ln u2.2.2.2.2.2.2 od_ u5.2.1 u5.2.2.1 saved u5.2.2.2.1 u5.2.2.2.2.1 u5.2.2.2.2.2.1 u5.2.2.2.2.2.2.1 isSaved u5.2.2.2.2.2.2.2.1 u5.2.2.2.2.2.2.2.2.1 u5.2.2.2.2.2.2.2.2.2 isInText ahead roomAt rooms text length at_ errorPosition toldFrom toldTo isWrong before)) hw zLw_m zLw_m hA (zV4 (As := []) (rest := []) ⟨hx, hb, hml, hown, hts⟩ (mX5_thrown l G k md H.size u5.2.1 u5.2.2.1 saved u5.2.2.2.1 u5.2.2.2.2.1 u5.2.2.2.2.2.1 u5.2.2.2.2.2.2.1 isSaved u5.2.2.2.2.2.2.2.1 u5.2.2.2.2.2.2.2.2.1 u5.2.2.2.2.2.2.2.2.2 isInText ahead roomAt rooms text length at_ errorPosition toldFrom toldTo isWrong before  u7 hq8) (cwV 0 hts gL_law_X5_thrown rfl rfl rfl kdX5_thrown ⟨Nat.le_of_ble_eq_true rfl, Nat.le_of_ble_eq_true rfl⟩) hK hA hw zLw_m 0 rfl rfl rfl rfl hl.1 rfl (Nat.le_of_ble_eq_true rfl) dL_law_432 ⟨(by show _ ≤ 603072; omega), (by show _ ≤ 7207018; omega)⟩) rfl (fun H locs hw => ?_)
  refine lv_iload hx hb dL_law_435 (lv_at hl 1 rfl) ?_
  refine lv_icmp_eq (tgt := 442) hx hb dL_law_437 (by decide) (fun hc => ?_) (fun hc => ?_)
  · have hF := zif_t hc hF
    refine lv_iload hx hb dL_law_442 (lv_at hl 1 rfl) ?_
    refine lv_if_ne (tgt := 459) hx hb dL_law_444 (by decide) (fun hc => ?_) (fun hc => ?_)
    · have hF := zif_f hc hF
      refine lv_goto (tgt := 1789) hx hb dL_law_459 (by decide) ?_
      obtain rfl := Option.some.inj hF
      refine W.widen (k := a1 + 8) (n := a2 + 48) (by omega) (by omega) ?_
      exact hk _ _ _ hw (lv_sub hl [2, 3, 4, 5, 6, 7] rfl)
    · have hF := zif_t hc hF
      refine lv_aload_n hx hb dL_law_447 rfl (lv_at hl 5 rfl) ?_
      refine lv_iconst (v := (0 : Int32)) hx hb dL_law_448 (by decide) ?_
      obtain ⟨hi9, hF⟩ := zck_in hF
      refine va_lald hx hb hK.1 hw.1 12 0 rfl rfl hi9 dL_law_449 ?_
      refine lv_iload hx hb dL_law_450 (lv_at hl 0 rfl) ?_
      refine lv_i2l hx hb dL_law_452 rfl ?_
      refine W.lcmp hx hb dL_law_453 ?_
      refine lv_if_eq (tgt := 459) hx hb dL_law_454 (by decide) (fun hc => ?_) (fun hc => ?_)
      · have hF := zif_t hc hF
        refine lv_goto (tgt := 1789) hx hb dL_law_459 (by decide) ?_
        obtain rfl := Option.some.inj hF
        refine W.widen (k := a1 + 8) (n := a2 + 48) (by omega) (by omega) ?_
        exact hk _ _ _ hw (lv_sub hl [2, 3, 4, 5, 6, 7] rfl)
      · have hF := zif_f hc hF
        refine lv_iconst (v := (0 : Int32)) hx hb dL_law_457 (by decide) ?_
        obtain rfl := Option.some.inj hF
        exact absurd h1 (show ¬ ((0 : Int32)) = 1 by decide)
  · have hF := zif_f hc hF
    refine lv_iconst (v := (0 : Int32)) hx hb dL_law_440 (by decide) ?_
    obtain rfl := Option.some.inj hF
    exact absurd h1 (show ¬ ((0 : Int32)) = 1 by decide)
set_option maxHeartbeats 800000 in
set_option maxRecDepth 100000 in
theorem wCase6 {p : Program} {l : Launch} {e : Env} {s : State} {m : MethodId} {args : Array Value} {below : List Frame} {meth : Method} {c : Code} {A : Nat → Prop} {Q : State → Prop} {G : va_G} {k : Nat → ClassId} {ad : Nat → Nat} {ob od : Nat} {md : Nat → Nat} {b L a1 a2 : Nat} {xs : Nat → Int32} {i : Int32} {sv : Int32} {kE : Int32} {kR : Int32} {fb : Nat → Int64} {ft : Nat → Int64} {fs : Nat → Int64} {rws : Nat → Int64} {nx : Int32} {ct : Int32} {ch : Nat → Int32} {ln : Int32} {oo : Nat → Int64} {od_ : Nat → UInt64} {thrown : Int32} {now : Nat → Int32} {saved : Nat → Int32} {hist : Nat → Nat → Int32} {kept : Int32} {reason : Int32} {detail : Int32} {isSaved : Int32} {comes : Nat → Int32} {queue : Nat → Int32} {far : Nat → Int32} {isInText : Int32} {ahead : Nat → Int32} {roomAt : Nat → Int32} {rooms : Int32} {text : Nat → Int32} {length : Int32} {at_ : Int32} {errorPosition : Int32} {toldFrom : Int32} {toldTo : Int32} {isWrong : Int32} {before : Nat → Int32} {o : zSt} (C0 : zCx p s m args meth c wsL_law code RL ret 9) (hl9 : l.stackTraces = false) (hK : zKK G k A s s.heap) (hA : ∀ q : Nat, s.heap.size ≤ q → A q) (hX : va_X b L xs s s.heap) (hbl : b < s.heap.size) (hbA : ¬ A b) (hr1 : a1 + 8 ≤ 603072) (hr2 : a2 + 48 ≤ 7207018) (hF : fCase6 xs L i sv kE kR fb ft fs rws nx ct ch ln oo od_ thrown now saved hist kept reason detail isSaved comes queue far isInText ahead roomAt rooms text length at_ errorPosition toldFrom toldTo isWrong before = some o) (h1 : o.1 = 1)
    (hk : ∀ (H : Heap) (locs : List Loc) (ls : Array Slot), zWd G A s (zLw ad ob od md k o.2.1 o.2.2.1 o.2.2.2.1 o.2.2.2.2.1 o.2.2.2.2.2.1 o.2.2.2.2.2.2.1 o.2.2.2.2.2.2.2.1 o.2.2.2.2.2.2.2.2.1 o.2.2.2.2.2.2.2.2.2.1 o.2.2.2.2.2.2.2.2.2.2.1 o.2.2.2.2.2.2.2.2.2.2.2.1 o.2.2.2.2.2.2.2.2.2.2.2.2.1 o.2.2.2.2.2.2.2.2.2.2.2.2.2.1 o.2.2.2.2.2.2.2.2.2.2.2.2.2.2.1 o.2.2.2.2.2.2.2.2.2.2.2.2.2.2.2.1 o.2.2.2.2.2.2.2.2.2.2.2.2.2.2.2.2.1 o.2.2.2.2.2.2.2.2.2.2.2.2.2.2.2.2.2.1 o.2.2.2.2.2.2.2.2.2.2.2.2.2.2.2.2.2.2.1 o.2.2.2.2.2.2.2.2.2.2.2.2.2.2.2.2.2.2.2.1 o.2.2.2.2.2.2.2.2.2.2.2.2.2.2.2.2.2.2.2.2.1 o.2.2.2.2.2.2.2.2.2.2.2.2.2.2.2.2.2.2.2.2.2.1 o.2.2.2.2.2.2.2.2.2.2.2.2.2.2.2.2.2.2.2.2.2.2.1 o.2.2.2.2.2.2.2.2.2.2.2.2.2.2.2.2.2.2.2.2.2.2.2.1 o.2.2.2.2.2.2.2.2.2.2.2.2.2.2.2.2.2.2.2.2.2.2.2.2.1 o.2.2.2.2.2.2.2.2.2.2.2.2.2.2.2.2.2.2.2.2.2.2.2.2.2.1 o.2.2.2.2.2.2.2.2.2.2.2.2.2.2.2.2.2.2.2.2.2.2.2.2.2.2.1 o.2.2.2.2.2.2.2.2.2.2.2.2.2.2.2.2.2.2.2.2.2.2.2.2.2.2.2.1 o.2.2.2.2.2.2.2.2.2.2.2.2.2.2.2.2.2.2.2.2.2.2.2.2.2.2.2.2.1 o.2.2.2.2.2.2.2.2.2.2.2.2.2.2.2.2.2.2.2.2.2.2.2.2.2.2.2.2.2.1 o.2.2.2.2.2.2.2.2.2.2.2.2.2.2.2.2.2.2.2.2.2.2.2.2.2.2.2.2.2.2.1 o.2.2.2.2.2.2.2.2.2.2.2.2.2.2.2.2.2.2.2.2.2.2.2.2.2.2.2.2.2.2.2.1 o.2.2.2.2.2.2.2.2.2.2.2.2.2.2.2.2.2.2.2.2.2.2.2.2.2.2.2.2.2.2.2.2.1 o.2.2.2.2.2.2.2.2.2.2.2.2.2.2.2.2.2.2.2.2.2.2.2.2.2.2.2.2.2.2.2.2.2.1 o.2.2.2.2.2.2.2.2.2.2.2.2.2.2.2.2.2.2.2.2.2.2.2.2.2.2.2.2.2.2.2.2.2.2.1 o.2.2.2.2.2.2.2.2.2.2.2.2.2.2.2.2.2.2.2.2.2.2.2.2.2.2.2.2.2.2.2.2.2.2.2.1 o.2.2.2.2.2.2.2.2.2.2.2.2.2.2.2.2.2.2.2.2.2.2.2.2.2.2.2.2.2.2.2.2.2.2.2.2) H locs → lv_has ls 9 [(0, .ref b), (1, .ref (ad 0)), (2, .ref (md 0)), (3, .ref ob), (4, .ref od), (5, .int i)] → W p l e room_1 s m args below meth c H locs (a1 + 8) (a2 + 48) Q (F0 m 1789 ls [])) :
    ∀ (H : Heap) (locs : List Loc) (ls : Array Slot), zWd G A s (zLw ad ob od md k sv kE kR fb ft fs rws nx ct ch ln oo od_ thrown now saved hist kept reason detail isSaved comes queue far isInText ahead roomAt rooms text length at_ errorPosition toldFrom toldTo isWrong before) H locs → lv_has ls 9 [(0, .ref b), (1, .ref (ad 0)), (2, .ref (md 0)), (3, .ref ob), (4, .ref od), (5, .int i)] → W p l e room_1 s m args below meth c H locs a1 a2 Q (F0 m 462 ls []) := by
  obtain ⟨hx, hb, hr, hml, hown, hts, hlocks⟩ := id C0
  intro H locs ls hw hl
  unfold fCase6 at hF
  refine lv_aload_n hx hb dL_law_462 rfl (lv_at hl 1 rfl) ?_
  refine lv_aload_n hx hb dL_law_463 rfl (lv_at hl 0 rfl) ?_
  refine lv_iload hx hb dL_law_464 (lv_at hl 5 rfl) ?_
  refine lv_iconst (v := (1 : Int32)) hx hb dL_law_466 (by decide) ?_
  refine lv_iadd hx hb dL_law_467 ?_
  obtain ⟨hi1, hF⟩ := zck_in hF
  refine va_sld hx hb hX hbl hbA hw.2.2 hi1 dL_law_468 ?_
  refine lv_aload_n hx hb dL_law_469 rfl (lv_at hl 3 rfl) ?_
  obtain ⟨u2, hq3, hF⟩ := zbd_t hF
  refine zgoI4 (w' := (zLw ad ob od md k sv kE u2.2.1 u2.2.2.1 ft fs u2.2.2.2.1 u2.2.2.2.2.1 u2.2.2.2.2.2.1 ch ln u2.2.2.2.2.2.2 od_ thrown now saved hist kept reason detail isSaved comes queue far isInText ahead roomAt rooms text length at_ errorPosition toldFrom toldTo isWrong before)) hw zLw_co zLw_co hA (zSW4 (As := [.ref (ad 0), .int (xs (i + (1 : Int32)).toNatClampNeg), .ref ob]) (rest := []) ⟨hx, hb, hml, hown, hts⟩ (mL_buy l hl9 G k ad ob H.size sv kE kR fb ft fs rws nx ct ch ln oo (xs (i + (1 : Int32)).toNatClampNeg) u2 hq3) (vx_cwSW 3 hts gL_law_L_buy rfl rfl rfl kdL_buy ⟨Nat.le_of_ble_eq_true rfl, Nat.le_of_ble_eq_true rfl⟩) hK hA hw zLw_co rfl hl.1 rfl (Nat.le_of_ble_eq_true rfl) dL_law_470 ⟨(by show _ ≤ 603072; omega), (by show _ ≤ 7207018; omega)⟩) rfl (fun H locs hw => ?_)
  refine lv_istore (lv' := [(6, .int u2.1), (0, .ref b), (1, .ref (ad 0)), (2, .ref (md 0)), (3, .ref ob), (4, .ref od), (5, .int i)]) hx hb dL_law_473 hl (by decide) rfl (fun ls hl => ?_)
  refine lv_aload_n hx hb dL_law_475 rfl (lv_at hl 3 rfl) ?_
  refine lv_aload_n hx hb dL_law_476 rfl (lv_at hl 1 rfl) ?_
  refine lv_iload hx hb dL_law_477 (lv_at hl 6 rfl) ?_
  refine lv_iconst (v := (1 : Int32)) hx hb dL_law_479 (by decide) ?_
  refine lv_iadd hx hb dL_law_480 ?_
  obtain ⟨hi4, hF⟩ := zck_in hF
  refine va_sld hx hb hX hbl hbA hw.2.2 hi4 dL_law_481 ?_
  obtain ⟨u5, hq6, hF⟩ := zbd_t hF
  refine zgoI4 (w' := (zLw ad ob od md k sv kE u2.2.1 u2.2.2.1 ft fs u2.2.2.2.1 u2.2.2.2.2.1 u2.2.2.2.2.2.1 ch ln u2.2.2.2.2.2.2 od_ u5.2.1 u5.2.2.1 saved u5.2.2.2.1 u5.2.2.2.2.1 u5.2.2.2.2.2.1 u5.2.2.2.2.2.2.1 isSaved u5.2.2.2.2.2.2.2.1 u5.2.2.2.2.2.2.2.2.1 u5.2.2.2.2.2.2.2.2.2 isInText ahead roomAt rooms text length at_ errorPosition toldFrom toldTo isWrong before)) hw zLw_m zLw_m hA (zV4 (As := [.int (xs (i + (1 : Int32)).toNatClampNeg)]) (rest := []) ⟨hx, hb, hml, hown, hts⟩ (mX5_buy l G k md H.size thrown now saved hist kept reason detail isSaved comes queue far isInText ahead roomAt rooms text length at_ errorPosition toldFrom toldTo isWrong before (xs (i + (1 : Int32)).toNatClampNeg) u5 hq6) (cwV 1 hts gL_law_X5_buy rfl rfl rfl kdX5_buy ⟨Nat.le_of_ble_eq_true rfl, Nat.le_of_ble_eq_true rfl⟩) hK hA hw zLw_m 0 rfl rfl rfl rfl hl.1 rfl (Nat.le_of_ble_eq_true rfl) dL_law_482 ⟨(by show _ ≤ 603072; omega), (by show _ ≤ 7207018; omega)⟩) rfl (fun H locs hw => ?_)
  refine lv_istore (lv' := [(7, .int u5.1), (6, .int u2.1), (0, .ref b), (1, .ref (ad 0)), (2, .ref (md 0)), (3, .ref ob), (4, .ref od), (5, .int i)]) hx hb dL_law_485 hl (by decide) rfl (fun ls hl => ?_)
  refine lv_aload_n hx hb dL_law_487 rfl (lv_at hl 4 rfl) ?_
  obtain ⟨u7, hq8, hF⟩ := zbd_t hF
  refine zgoI4 (w' := (zLw ad ob od md k sv kE u2.2.1 u2.2.2.1 ft fs u2.2.2.2.1 u2.2.2.2.2.1 u2.2.2.2.2.2.1 ch ln u2.2.2.2.2.2.2 od_ u5.2.1 u5.2.2.1 saved u5.2.2.2.1 u5.2.2.2.2.1 u5.2.2.2.2.2.1 u5.2.2.2.2.2.2.1 isSaved u5.2.2.2.2.2.2.2.1 u5.2.2.2.2.2.2.2.2.1 u5.2.2.2.2.2.2.2.2.2 isInText ahead roomAt rooms text length at_ errorPosition toldFrom toldTo isWrong before)) hw zLw_m zLw_m hA (zV4 (As := []) (rest := []) ⟨hx, hb, hml, hown, hts⟩ (mX5_thrown l G k md H.size u5.2.1 u5.2.2.1 saved u5.2.2.2.1 u5.2.2.2.2.1 u5.2.2.2.2.2.1 u5.2.2.2.2.2.2.1 isSaved u5.2.2.2.2.2.2.2.1 u5.2.2.2.2.2.2.2.2.1 u5.2.2.2.2.2.2.2.2.2 isInText ahead roomAt rooms text length at_ errorPosition toldFrom toldTo isWrong before  u7 hq8) (cwV 0 hts gL_law_X5_thrown rfl rfl rfl kdX5_thrown ⟨Nat.le_of_ble_eq_true rfl, Nat.le_of_ble_eq_true rfl⟩) hK hA hw zLw_m 0 rfl rfl rfl rfl hl.1 rfl (Nat.le_of_ble_eq_true rfl) dL_law_488 ⟨(by show _ ≤ 603072; omega), (by show _ ≤ 7207018; omega)⟩) rfl (fun H locs hw => ?_)
  refine lv_iload hx hb dL_law_491 (lv_at hl 1 rfl) ?_
  refine lv_icmp_eq (tgt := 498) hx hb dL_law_493 (by decide) (fun hc => ?_) (fun hc => ?_)
  · have hF := zif_t hc hF
    refine lv_iload hx hb dL_law_498 (lv_at hl 1 rfl) ?_
    refine lv_if_ne (tgt := 515) hx hb dL_law_500 (by decide) (fun hc => ?_) (fun hc => ?_)
    · have hF := zif_f hc hF
      refine lv_goto (tgt := 1789) hx hb dL_law_515 (by decide) ?_
      obtain rfl := Option.some.inj hF
      refine W.widen (k := a1 + 8) (n := a2 + 48) (by omega) (by omega) ?_
      exact hk _ _ _ hw (lv_sub hl [2, 3, 4, 5, 6, 7] rfl)
    · have hF := zif_t hc hF
      refine lv_aload_n hx hb dL_law_503 rfl (lv_at hl 5 rfl) ?_
      refine lv_iconst (v := (0 : Int32)) hx hb dL_law_504 (by decide) ?_
      obtain ⟨hi9, hF⟩ := zck_in hF
      refine va_lald hx hb hK.1 hw.1 12 0 rfl rfl hi9 dL_law_505 ?_
      refine lv_iload hx hb dL_law_506 (lv_at hl 0 rfl) ?_
      refine lv_i2l hx hb dL_law_508 rfl ?_
      refine W.lcmp hx hb dL_law_509 ?_
      refine lv_if_eq (tgt := 515) hx hb dL_law_510 (by decide) (fun hc => ?_) (fun hc => ?_)
      · have hF := zif_t hc hF
        refine lv_goto (tgt := 1789) hx hb dL_law_515 (by decide) ?_
        obtain rfl := Option.some.inj hF
        refine W.widen (k := a1 + 8) (n := a2 + 48) (by omega) (by omega) ?_
        exact hk _ _ _ hw (lv_sub hl [2, 3, 4, 5, 6, 7] rfl)
      · have hF := zif_f hc hF
        refine lv_iconst (v := (0 : Int32)) hx hb dL_law_513 (by decide) ?_
        obtain rfl := Option.some.inj hF
        exact absurd h1 (show ¬ ((0 : Int32)) = 1 by decide)
  · have hF := zif_f hc hF
    refine lv_iconst (v := (0 : Int32)) hx hb dL_law_496 (by decide) ?_
    obtain rfl := Option.some.inj hF
    exact absurd h1 (show ¬ ((0 : Int32)) = 1 by decide)
set_option maxHeartbeats 800000 in
set_option maxRecDepth 100000 in
theorem wCase7 {p : Program} {l : Launch} {e : Env} {s : State} {m : MethodId} {args : Array Value} {below : List Frame} {meth : Method} {c : Code} {A : Nat → Prop} {Q : State → Prop} {G : va_G} {k : Nat → ClassId} {ad : Nat → Nat} {ob od : Nat} {md : Nat → Nat} {b L a1 a2 : Nat} {xs : Nat → Int32} {i : Int32} {sv : Int32} {kE : Int32} {kR : Int32} {fb : Nat → Int64} {ft : Nat → Int64} {fs : Nat → Int64} {rws : Nat → Int64} {nx : Int32} {ct : Int32} {ch : Nat → Int32} {ln : Int32} {oo : Nat → Int64} {od_ : Nat → UInt64} {thrown : Int32} {now : Nat → Int32} {saved : Nat → Int32} {hist : Nat → Nat → Int32} {kept : Int32} {reason : Int32} {detail : Int32} {isSaved : Int32} {comes : Nat → Int32} {queue : Nat → Int32} {far : Nat → Int32} {isInText : Int32} {ahead : Nat → Int32} {roomAt : Nat → Int32} {rooms : Int32} {text : Nat → Int32} {length : Int32} {at_ : Int32} {errorPosition : Int32} {toldFrom : Int32} {toldTo : Int32} {isWrong : Int32} {before : Nat → Int32} {o : zSt} (C0 : zCx p s m args meth c wsL_law code RL ret 9) (hl9 : l.stackTraces = false) (hK : zKK G k A s s.heap) (hA : ∀ q : Nat, s.heap.size ≤ q → A q) (hX : va_X b L xs s s.heap) (hbl : b < s.heap.size) (hbA : ¬ A b) (hr1 : a1 + 8 ≤ 603072) (hr2 : a2 + 48 ≤ 7207018) (hF : fCase7 xs L i sv kE kR fb ft fs rws nx ct ch ln oo od_ thrown now saved hist kept reason detail isSaved comes queue far isInText ahead roomAt rooms text length at_ errorPosition toldFrom toldTo isWrong before = some o) (h1 : o.1 = 1)
    (hk : ∀ (H : Heap) (locs : List Loc) (ls : Array Slot), zWd G A s (zLw ad ob od md k o.2.1 o.2.2.1 o.2.2.2.1 o.2.2.2.2.1 o.2.2.2.2.2.1 o.2.2.2.2.2.2.1 o.2.2.2.2.2.2.2.1 o.2.2.2.2.2.2.2.2.1 o.2.2.2.2.2.2.2.2.2.1 o.2.2.2.2.2.2.2.2.2.2.1 o.2.2.2.2.2.2.2.2.2.2.2.1 o.2.2.2.2.2.2.2.2.2.2.2.2.1 o.2.2.2.2.2.2.2.2.2.2.2.2.2.1 o.2.2.2.2.2.2.2.2.2.2.2.2.2.2.1 o.2.2.2.2.2.2.2.2.2.2.2.2.2.2.2.1 o.2.2.2.2.2.2.2.2.2.2.2.2.2.2.2.2.1 o.2.2.2.2.2.2.2.2.2.2.2.2.2.2.2.2.2.1 o.2.2.2.2.2.2.2.2.2.2.2.2.2.2.2.2.2.2.1 o.2.2.2.2.2.2.2.2.2.2.2.2.2.2.2.2.2.2.2.1 o.2.2.2.2.2.2.2.2.2.2.2.2.2.2.2.2.2.2.2.2.1 o.2.2.2.2.2.2.2.2.2.2.2.2.2.2.2.2.2.2.2.2.2.1 o.2.2.2.2.2.2.2.2.2.2.2.2.2.2.2.2.2.2.2.2.2.2.1 o.2.2.2.2.2.2.2.2.2.2.2.2.2.2.2.2.2.2.2.2.2.2.2.1 o.2.2.2.2.2.2.2.2.2.2.2.2.2.2.2.2.2.2.2.2.2.2.2.2.1 o.2.2.2.2.2.2.2.2.2.2.2.2.2.2.2.2.2.2.2.2.2.2.2.2.2.1 o.2.2.2.2.2.2.2.2.2.2.2.2.2.2.2.2.2.2.2.2.2.2.2.2.2.2.1 o.2.2.2.2.2.2.2.2.2.2.2.2.2.2.2.2.2.2.2.2.2.2.2.2.2.2.2.1 o.2.2.2.2.2.2.2.2.2.2.2.2.2.2.2.2.2.2.2.2.2.2.2.2.2.2.2.2.1 o.2.2.2.2.2.2.2.2.2.2.2.2.2.2.2.2.2.2.2.2.2.2.2.2.2.2.2.2.2.1 o.2.2.2.2.2.2.2.2.2.2.2.2.2.2.2.2.2.2.2.2.2.2.2.2.2.2.2.2.2.2.1 o.2.2.2.2.2.2.2.2.2.2.2.2.2.2.2.2.2.2.2.2.2.2.2.2.2.2.2.2.2.2.2.1 o.2.2.2.2.2.2.2.2.2.2.2.2.2.2.2.2.2.2.2.2.2.2.2.2.2.2.2.2.2.2.2.2.1 o.2.2.2.2.2.2.2.2.2.2.2.2.2.2.2.2.2.2.2.2.2.2.2.2.2.2.2.2.2.2.2.2.2.1 o.2.2.2.2.2.2.2.2.2.2.2.2.2.2.2.2.2.2.2.2.2.2.2.2.2.2.2.2.2.2.2.2.2.2.1 o.2.2.2.2.2.2.2.2.2.2.2.2.2.2.2.2.2.2.2.2.2.2.2.2.2.2.2.2.2.2.2.2.2.2.2.1 o.2.2.2.2.2.2.2.2.2.2.2.2.2.2.2.2.2.2.2.2.2.2.2.2.2.2.2.2.2.2.2.2.2.2.2.2) H locs → lv_has ls 9 [(0, .ref b), (1, .ref (ad 0)), (2, .ref (md 0)), (3, .ref ob), (4, .ref od), (5, .int i)] → W p l e room_1 s m args below meth c H locs (a1 + 8) (a2 + 48) Q (F0 m 1789 ls [])) :
    ∀ (H : Heap) (locs : List Loc) (ls : Array Slot), zWd G A s (zLw ad ob od md k sv kE kR fb ft fs rws nx ct ch ln oo od_ thrown now saved hist kept reason detail isSaved comes queue far isInText ahead roomAt rooms text length at_ errorPosition toldFrom toldTo isWrong before) H locs → lv_has ls 9 [(0, .ref b), (1, .ref (ad 0)), (2, .ref (md 0)), (3, .ref ob), (4, .ref od), (5, .int i)] → W p l e room_1 s m args below meth c H locs a1 a2 Q (F0 m 518 ls []) := by
  obtain ⟨hx, hb, hr, hml, hown, hts, hlocks⟩ := id C0
  intro H locs ls hw hl
  unfold fCase7 at hF
  refine lv_aload_n hx hb dL_law_518 rfl (lv_at hl 1 rfl) ?_
  refine lv_aload_n hx hb dL_law_519 rfl (lv_at hl 0 rfl) ?_
  refine lv_iload hx hb dL_law_520 (lv_at hl 5 rfl) ?_
  refine lv_iconst (v := (1 : Int32)) hx hb dL_law_522 (by decide) ?_
  refine lv_iadd hx hb dL_law_523 ?_
  obtain ⟨hi1, hF⟩ := zck_in hF
  refine va_sld hx hb hX hbl hbA hw.2.2 hi1 dL_law_524 ?_
  refine lv_aload_n hx hb dL_law_525 rfl (lv_at hl 0 rfl) ?_
  refine lv_iload hx hb dL_law_526 (lv_at hl 5 rfl) ?_
  refine lv_iconst (v := (2 : Int32)) hx hb dL_law_528 (by decide) ?_
  refine lv_iadd hx hb dL_law_529 ?_
  obtain ⟨hi2, hF⟩ := zck_in hF
  refine va_sld hx hb hX hbl hbA hw.2.2 hi2 dL_law_530 ?_
  refine lv_aload_n hx hb dL_law_531 rfl (lv_at hl 3 rfl) ?_
  obtain ⟨u3, hq4, hF⟩ := zbd_t hF
  refine zgoI4 (w' := (zLw ad ob od md k sv kE kR fb ft fs rws nx ct ch ln u3.2 od_ thrown now saved hist kept reason detail isSaved comes queue far isInText ahead roomAt rooms text length at_ errorPosition toldFrom toldTo isWrong before)) hw zLw_co zLw_co hA (zSW4 (As := [.ref (ad 0), .int (xs (i + (1 : Int32)).toNatClampNeg), .int (xs (i + (2 : Int32)).toNatClampNeg), .ref ob]) (rest := []) ⟨hx, hb, hml, hown, hts⟩ (mL_square l hl9 G k ad ob H.size sv kE kR fb ft fs rws nx ct ch ln oo (xs (i + (1 : Int32)).toNatClampNeg) (xs (i + (2 : Int32)).toNatClampNeg) u3 hq4) (vx_cwSW 4 hts gL_law_L_square rfl rfl rfl kdL_square ⟨Nat.le_of_ble_eq_true rfl, Nat.le_of_ble_eq_true rfl⟩) hK hA hw zLw_co rfl hl.1 rfl (Nat.le_of_ble_eq_true rfl) dL_law_532 ⟨(by show _ ≤ 603072; omega), (by show _ ≤ 7207018; omega)⟩) rfl (fun H locs hw => ?_)
  refine lv_istore (lv' := [(6, .int u3.1), (0, .ref b), (1, .ref (ad 0)), (2, .ref (md 0)), (3, .ref ob), (4, .ref od), (5, .int i)]) hx hb dL_law_535 hl (by decide) rfl (fun ls hl => ?_)
  refine lv_aload_n hx hb dL_law_537 rfl (lv_at hl 3 rfl) ?_
  refine lv_aload_n hx hb dL_law_538 rfl (lv_at hl 1 rfl) ?_
  refine lv_iload hx hb dL_law_539 (lv_at hl 6 rfl) ?_
  refine lv_iconst (v := (1 : Int32)) hx hb dL_law_541 (by decide) ?_
  refine lv_iadd hx hb dL_law_542 ?_
  obtain ⟨hi5, hF⟩ := zck_in hF
  refine va_sld hx hb hX hbl hbA hw.2.2 hi5 dL_law_543 ?_
  refine lv_aload_n hx hb dL_law_544 rfl (lv_at hl 1 rfl) ?_
  refine lv_iload hx hb dL_law_545 (lv_at hl 6 rfl) ?_
  refine lv_iconst (v := (2 : Int32)) hx hb dL_law_547 (by decide) ?_
  refine lv_iadd hx hb dL_law_548 ?_
  obtain ⟨hi6, hF⟩ := zck_in hF
  refine va_sld hx hb hX hbl hbA hw.2.2 hi6 dL_law_549 ?_
  obtain ⟨u7, hq8, hF⟩ := zbd_t hF
  refine zgoI4 (w' := (zLw ad ob od md k sv kE kR fb ft fs rws nx ct ch ln u3.2 od_ u7.2 now saved hist kept reason detail isSaved comes queue far isInText ahead roomAt rooms text length at_ errorPosition toldFrom toldTo isWrong before)) hw zLw_m zLw_m hA (zV4 (As := [.int (xs (i + (1 : Int32)).toNatClampNeg), .int (xs (i + (2 : Int32)).toNatClampNeg)]) (rest := []) ⟨hx, hb, hml, hown, hts⟩ (mX5_square l G k md H.size thrown now saved hist kept reason detail isSaved comes queue far isInText ahead roomAt rooms text length at_ errorPosition toldFrom toldTo isWrong before (xs (i + (1 : Int32)).toNatClampNeg) (xs (i + (2 : Int32)).toNatClampNeg) u7 hq8) (cwV 2 hts gL_law_X5_square rfl rfl rfl kdX5_square ⟨Nat.le_of_ble_eq_true rfl, Nat.le_of_ble_eq_true rfl⟩) hK hA hw zLw_m 0 rfl rfl rfl rfl hl.1 rfl (Nat.le_of_ble_eq_true rfl) dL_law_550 ⟨(by show _ ≤ 603072; omega), (by show _ ≤ 7207018; omega)⟩) rfl (fun H locs hw => ?_)
  refine lv_istore (lv' := [(7, .int u7.1), (6, .int u3.1), (0, .ref b), (1, .ref (ad 0)), (2, .ref (md 0)), (3, .ref ob), (4, .ref od), (5, .int i)]) hx hb dL_law_553 hl (by decide) rfl (fun ls hl => ?_)
  refine lv_aload_n hx hb dL_law_555 rfl (lv_at hl 4 rfl) ?_
  obtain ⟨u9, hq10, hF⟩ := zbd_t hF
  refine zgoI4 (w' := (zLw ad ob od md k sv kE kR fb ft fs rws nx ct ch ln u3.2 od_ u7.2 now saved hist kept reason detail isSaved comes queue far isInText ahead roomAt rooms text length at_ errorPosition toldFrom toldTo isWrong before)) hw zLw_m zLw_m hA (zV4 (As := []) (rest := []) ⟨hx, hb, hml, hown, hts⟩ (mX5_thrown l G k md H.size u7.2 now saved hist kept reason detail isSaved comes queue far isInText ahead roomAt rooms text length at_ errorPosition toldFrom toldTo isWrong before  u9 hq10) (cwV 0 hts gL_law_X5_thrown rfl rfl rfl kdX5_thrown ⟨Nat.le_of_ble_eq_true rfl, Nat.le_of_ble_eq_true rfl⟩) hK hA hw zLw_m 0 rfl rfl rfl rfl hl.1 rfl (Nat.le_of_ble_eq_true rfl) dL_law_556 ⟨(by show _ ≤ 603072; omega), (by show _ ≤ 7207018; omega)⟩) rfl (fun H locs hw => ?_)
  refine lv_iload hx hb dL_law_559 (lv_at hl 1 rfl) ?_
  refine lv_icmp_eq (tgt := 566) hx hb dL_law_561 (by decide) (fun hc => ?_) (fun hc => ?_)
  · have hF := zif_t hc hF
    refine lv_iload hx hb dL_law_566 (lv_at hl 1 rfl) ?_
    refine lv_if_ne (tgt := 583) hx hb dL_law_568 (by decide) (fun hc => ?_) (fun hc => ?_)
    · have hF := zif_f hc hF
      refine lv_goto (tgt := 1789) hx hb dL_law_583 (by decide) ?_
      obtain rfl := Option.some.inj hF
      refine W.widen (k := a1 + 8) (n := a2 + 48) (by omega) (by omega) ?_
      exact hk _ _ _ hw (lv_sub hl [2, 3, 4, 5, 6, 7] rfl)
    · have hF := zif_t hc hF
      refine lv_aload_n hx hb dL_law_571 rfl (lv_at hl 5 rfl) ?_
      refine lv_iconst (v := (0 : Int32)) hx hb dL_law_572 (by decide) ?_
      obtain ⟨hi11, hF⟩ := zck_in hF
      refine va_lald hx hb hK.1 hw.1 12 0 rfl rfl hi11 dL_law_573 ?_
      refine lv_iload hx hb dL_law_574 (lv_at hl 0 rfl) ?_
      refine lv_i2l hx hb dL_law_576 rfl ?_
      refine W.lcmp hx hb dL_law_577 ?_
      refine lv_if_eq (tgt := 583) hx hb dL_law_578 (by decide) (fun hc => ?_) (fun hc => ?_)
      · have hF := zif_t hc hF
        refine lv_goto (tgt := 1789) hx hb dL_law_583 (by decide) ?_
        obtain rfl := Option.some.inj hF
        refine W.widen (k := a1 + 8) (n := a2 + 48) (by omega) (by omega) ?_
        exact hk _ _ _ hw (lv_sub hl [2, 3, 4, 5, 6, 7] rfl)
      · have hF := zif_f hc hF
        refine lv_iconst (v := (0 : Int32)) hx hb dL_law_581 (by decide) ?_
        obtain rfl := Option.some.inj hF
        exact absurd h1 (show ¬ ((0 : Int32)) = 1 by decide)
  · have hF := zif_f hc hF
    refine lv_iconst (v := (0 : Int32)) hx hb dL_law_564 (by decide) ?_
    obtain rfl := Option.some.inj hF
    exact absurd h1 (show ¬ ((0 : Int32)) = 1 by decide)
set_option maxHeartbeats 800000 in
set_option maxRecDepth 100000 in
theorem wCase8 {p : Program} {l : Launch} {e : Env} {s : State} {m : MethodId} {args : Array Value} {below : List Frame} {meth : Method} {c : Code} {A : Nat → Prop} {Q : State → Prop} {G : va_G} {k : Nat → ClassId} {ad : Nat → Nat} {ob od : Nat} {md : Nat → Nat} {b L a1 a2 : Nat} {xs : Nat → Int32} {i : Int32} {sv : Int32} {kE : Int32} {kR : Int32} {fb : Nat → Int64} {ft : Nat → Int64} {fs : Nat → Int64} {rws : Nat → Int64} {nx : Int32} {ct : Int32} {ch : Nat → Int32} {ln : Int32} {oo : Nat → Int64} {od_ : Nat → UInt64} {thrown : Int32} {now : Nat → Int32} {saved : Nat → Int32} {hist : Nat → Nat → Int32} {kept : Int32} {reason : Int32} {detail : Int32} {isSaved : Int32} {comes : Nat → Int32} {queue : Nat → Int32} {far : Nat → Int32} {isInText : Int32} {ahead : Nat → Int32} {roomAt : Nat → Int32} {rooms : Int32} {text : Nat → Int32} {length : Int32} {at_ : Int32} {errorPosition : Int32} {toldFrom : Int32} {toldTo : Int32} {isWrong : Int32} {before : Nat → Int32} {o : zSt} (C0 : zCx p s m args meth c wsL_law code RL ret 9) (hl9 : l.stackTraces = false) (hK : zKK G k A s s.heap) (hA : ∀ q : Nat, s.heap.size ≤ q → A q) (hX : va_X b L xs s s.heap) (hbl : b < s.heap.size) (hbA : ¬ A b) (hr1 : a1 + 8 ≤ 603072) (hr2 : a2 + 48 ≤ 7207018) (hF : fCase8 xs L i sv kE kR fb ft fs rws nx ct ch ln oo od_ thrown now saved hist kept reason detail isSaved comes queue far isInText ahead roomAt rooms text length at_ errorPosition toldFrom toldTo isWrong before = some o) (h1 : o.1 = 1)
    (hk : ∀ (H : Heap) (locs : List Loc) (ls : Array Slot), zWd G A s (zLw ad ob od md k o.2.1 o.2.2.1 o.2.2.2.1 o.2.2.2.2.1 o.2.2.2.2.2.1 o.2.2.2.2.2.2.1 o.2.2.2.2.2.2.2.1 o.2.2.2.2.2.2.2.2.1 o.2.2.2.2.2.2.2.2.2.1 o.2.2.2.2.2.2.2.2.2.2.1 o.2.2.2.2.2.2.2.2.2.2.2.1 o.2.2.2.2.2.2.2.2.2.2.2.2.1 o.2.2.2.2.2.2.2.2.2.2.2.2.2.1 o.2.2.2.2.2.2.2.2.2.2.2.2.2.2.1 o.2.2.2.2.2.2.2.2.2.2.2.2.2.2.2.1 o.2.2.2.2.2.2.2.2.2.2.2.2.2.2.2.2.1 o.2.2.2.2.2.2.2.2.2.2.2.2.2.2.2.2.2.1 o.2.2.2.2.2.2.2.2.2.2.2.2.2.2.2.2.2.2.1 o.2.2.2.2.2.2.2.2.2.2.2.2.2.2.2.2.2.2.2.1 o.2.2.2.2.2.2.2.2.2.2.2.2.2.2.2.2.2.2.2.2.1 o.2.2.2.2.2.2.2.2.2.2.2.2.2.2.2.2.2.2.2.2.2.1 o.2.2.2.2.2.2.2.2.2.2.2.2.2.2.2.2.2.2.2.2.2.2.1 o.2.2.2.2.2.2.2.2.2.2.2.2.2.2.2.2.2.2.2.2.2.2.2.1 o.2.2.2.2.2.2.2.2.2.2.2.2.2.2.2.2.2.2.2.2.2.2.2.2.1 o.2.2.2.2.2.2.2.2.2.2.2.2.2.2.2.2.2.2.2.2.2.2.2.2.2.1 o.2.2.2.2.2.2.2.2.2.2.2.2.2.2.2.2.2.2.2.2.2.2.2.2.2.2.1 o.2.2.2.2.2.2.2.2.2.2.2.2.2.2.2.2.2.2.2.2.2.2.2.2.2.2.2.1 o.2.2.2.2.2.2.2.2.2.2.2.2.2.2.2.2.2.2.2.2.2.2.2.2.2.2.2.2.1 o.2.2.2.2.2.2.2.2.2.2.2.2.2.2.2.2.2.2.2.2.2.2.2.2.2.2.2.2.2.1 o.2.2.2.2.2.2.2.2.2.2.2.2.2.2.2.2.2.2.2.2.2.2.2.2.2.2.2.2.2.2.1 o.2.2.2.2.2.2.2.2.2.2.2.2.2.2.2.2.2.2.2.2.2.2.2.2.2.2.2.2.2.2.2.1 o.2.2.2.2.2.2.2.2.2.2.2.2.2.2.2.2.2.2.2.2.2.2.2.2.2.2.2.2.2.2.2.2.1 o.2.2.2.2.2.2.2.2.2.2.2.2.2.2.2.2.2.2.2.2.2.2.2.2.2.2.2.2.2.2.2.2.2.1 o.2.2.2.2.2.2.2.2.2.2.2.2.2.2.2.2.2.2.2.2.2.2.2.2.2.2.2.2.2.2.2.2.2.2.1 o.2.2.2.2.2.2.2.2.2.2.2.2.2.2.2.2.2.2.2.2.2.2.2.2.2.2.2.2.2.2.2.2.2.2.2.1 o.2.2.2.2.2.2.2.2.2.2.2.2.2.2.2.2.2.2.2.2.2.2.2.2.2.2.2.2.2.2.2.2.2.2.2.2) H locs → lv_has ls 9 [(0, .ref b), (1, .ref (ad 0)), (2, .ref (md 0)), (3, .ref ob), (4, .ref od), (5, .int i)] → W p l e room_1 s m args below meth c H locs (a1 + 8) (a2 + 48) Q (F0 m 1789 ls [])) :
    ∀ (H : Heap) (locs : List Loc) (ls : Array Slot), zWd G A s (zLw ad ob od md k sv kE kR fb ft fs rws nx ct ch ln oo od_ thrown now saved hist kept reason detail isSaved comes queue far isInText ahead roomAt rooms text length at_ errorPosition toldFrom toldTo isWrong before) H locs → lv_has ls 9 [(0, .ref b), (1, .ref (ad 0)), (2, .ref (md 0)), (3, .ref ob), (4, .ref od), (5, .int i)] → W p l e room_1 s m args below meth c H locs a1 a2 Q (F0 m 586 ls []) := by
  obtain ⟨hx, hb, hr, hml, hown, hts, hlocks⟩ := id C0
  intro H locs ls hw hl
  unfold fCase8 at hF
  refine lv_aload_n hx hb dL_law_586 rfl (lv_at hl 1 rfl) ?_
  refine lv_aload_n hx hb dL_law_587 rfl (lv_at hl 0 rfl) ?_
  refine lv_iload hx hb dL_law_588 (lv_at hl 5 rfl) ?_
  refine lv_iconst (v := (1 : Int32)) hx hb dL_law_590 (by decide) ?_
  refine lv_iadd hx hb dL_law_591 ?_
  obtain ⟨hi1, hF⟩ := zck_in hF
  refine va_sld hx hb hX hbl hbA hw.2.2 hi1 dL_law_592 ?_
  refine lv_aload_n hx hb dL_law_593 rfl (lv_at hl 0 rfl) ?_
  refine lv_iload hx hb dL_law_594 (lv_at hl 5 rfl) ?_
  refine lv_iconst (v := (2 : Int32)) hx hb dL_law_596 (by decide) ?_
  refine lv_iadd hx hb dL_law_597 ?_
  obtain ⟨hi2, hF⟩ := zck_in hF
  refine va_sld hx hb hX hbl hbA hw.2.2 hi2 dL_law_598 ?_
  refine lv_aload_n hx hb dL_law_599 rfl (lv_at hl 3 rfl) ?_
  obtain ⟨u3, hq4, hF⟩ := zbd_t hF
  refine zgoI4 (w' := (zLw ad ob od md k sv kE kR fb ft fs rws nx ct ch ln u3.2 od_ thrown now saved hist kept reason detail isSaved comes queue far isInText ahead roomAt rooms text length at_ errorPosition toldFrom toldTo isWrong before)) hw zLw_co zLw_co hA (zSW4 (As := [.ref (ad 0), .int (xs (i + (1 : Int32)).toNatClampNeg), .int (xs (i + (2 : Int32)).toNatClampNeg), .ref ob]) (rest := []) ⟨hx, hb, hml, hown, hts⟩ (mL_canMove l hl9 G k ad ob H.size sv kE kR fb ft fs rws nx ct ch ln oo (xs (i + (1 : Int32)).toNatClampNeg) (xs (i + (2 : Int32)).toNatClampNeg) u3 hq4) (vx_cwSW 4 hts gL_law_L_canMove rfl rfl rfl kdL_canMove ⟨Nat.le_of_ble_eq_true rfl, Nat.le_of_ble_eq_true rfl⟩) hK hA hw zLw_co rfl hl.1 rfl (Nat.le_of_ble_eq_true rfl) dL_law_600 ⟨(by show _ ≤ 603072; omega), (by show _ ≤ 7207018; omega)⟩) rfl (fun H locs hw => ?_)
  refine lv_istore (lv' := [(6, .int u3.1), (0, .ref b), (1, .ref (ad 0)), (2, .ref (md 0)), (3, .ref ob), (4, .ref od), (5, .int i)]) hx hb dL_law_603 hl (by decide) rfl (fun ls hl => ?_)
  refine lv_aload_n hx hb dL_law_605 rfl (lv_at hl 3 rfl) ?_
  refine lv_aload_n hx hb dL_law_606 rfl (lv_at hl 1 rfl) ?_
  refine lv_iload hx hb dL_law_607 (lv_at hl 6 rfl) ?_
  refine lv_iconst (v := (1 : Int32)) hx hb dL_law_609 (by decide) ?_
  refine lv_iadd hx hb dL_law_610 ?_
  obtain ⟨hi5, hF⟩ := zck_in hF
  refine va_sld hx hb hX hbl hbA hw.2.2 hi5 dL_law_611 ?_
  refine lv_aload_n hx hb dL_law_612 rfl (lv_at hl 1 rfl) ?_
  refine lv_iload hx hb dL_law_613 (lv_at hl 6 rfl) ?_
  refine lv_iconst (v := (2 : Int32)) hx hb dL_law_615 (by decide) ?_
  refine lv_iadd hx hb dL_law_616 ?_
  obtain ⟨hi6, hF⟩ := zck_in hF
  refine va_sld hx hb hX hbl hbA hw.2.2 hi6 dL_law_617 ?_
  obtain ⟨u7, hq8, hF⟩ := zbd_t hF
  refine zgoI4 (w' := (zLw ad ob od md k sv kE kR fb ft fs rws nx ct ch ln u3.2 od_ u7.2.1 now saved hist kept reason detail isSaved u7.2.2.1 u7.2.2.2.1 u7.2.2.2.2 isInText ahead roomAt rooms text length at_ errorPosition toldFrom toldTo isWrong before)) hw zLw_m zLw_m hA (zV4 (As := [.int (xs (i + (1 : Int32)).toNatClampNeg), .int (xs (i + (2 : Int32)).toNatClampNeg)]) (rest := []) ⟨hx, hb, hml, hown, hts⟩ (mX5_canMove l G k md H.size thrown now saved hist kept reason detail isSaved comes queue far isInText ahead roomAt rooms text length at_ errorPosition toldFrom toldTo isWrong before (xs (i + (1 : Int32)).toNatClampNeg) (xs (i + (2 : Int32)).toNatClampNeg) u7 hq8) (cwV 2 hts gL_law_X5_canMove rfl rfl rfl kdX5_canMove ⟨Nat.le_of_ble_eq_true rfl, Nat.le_of_ble_eq_true rfl⟩) hK hA hw zLw_m 0 rfl rfl rfl rfl hl.1 rfl (Nat.le_of_ble_eq_true rfl) dL_law_618 ⟨(by show _ ≤ 603072; omega), (by show _ ≤ 7207018; omega)⟩) rfl (fun H locs hw => ?_)
  refine lv_istore (lv' := [(7, .int u7.1), (6, .int u3.1), (0, .ref b), (1, .ref (ad 0)), (2, .ref (md 0)), (3, .ref ob), (4, .ref od), (5, .int i)]) hx hb dL_law_621 hl (by decide) rfl (fun ls hl => ?_)
  refine lv_aload_n hx hb dL_law_623 rfl (lv_at hl 4 rfl) ?_
  obtain ⟨u9, hq10, hF⟩ := zbd_t hF
  refine zgoI4 (w' := (zLw ad ob od md k sv kE kR fb ft fs rws nx ct ch ln u3.2 od_ u7.2.1 now saved hist kept reason detail isSaved u7.2.2.1 u7.2.2.2.1 u7.2.2.2.2 isInText ahead roomAt rooms text length at_ errorPosition toldFrom toldTo isWrong before)) hw zLw_m zLw_m hA (zV4 (As := []) (rest := []) ⟨hx, hb, hml, hown, hts⟩ (mX5_thrown l G k md H.size u7.2.1 now saved hist kept reason detail isSaved u7.2.2.1 u7.2.2.2.1 u7.2.2.2.2 isInText ahead roomAt rooms text length at_ errorPosition toldFrom toldTo isWrong before  u9 hq10) (cwV 0 hts gL_law_X5_thrown rfl rfl rfl kdX5_thrown ⟨Nat.le_of_ble_eq_true rfl, Nat.le_of_ble_eq_true rfl⟩) hK hA hw zLw_m 0 rfl rfl rfl rfl hl.1 rfl (Nat.le_of_ble_eq_true rfl) dL_law_624 ⟨(by show _ ≤ 603072; omega), (by show _ ≤ 7207018; omega)⟩) rfl (fun H locs hw => ?_)
  refine lv_iload hx hb dL_law_627 (lv_at hl 1 rfl) ?_
  refine lv_icmp_eq (tgt := 634) hx hb dL_law_629 (by decide) (fun hc => ?_) (fun hc => ?_)
  · have hF := zif_t hc hF
    refine lv_iload hx hb dL_law_634 (lv_at hl 1 rfl) ?_
    refine lv_if_ne (tgt := 658) hx hb dL_law_636 (by decide) (fun hc => ?_) (fun hc => ?_)
    · have hF := zif_f hc hF
      refine lv_goto (tgt := 1789) hx hb dL_law_658 (by decide) ?_
      obtain rfl := Option.some.inj hF
      refine W.widen (k := a1 + 8) (n := a2 + 48) (by omega) (by omega) ?_
      exact hk _ _ _ hw (lv_sub hl [2, 3, 4, 5, 6, 7] rfl)
    · have hF := zif_t hc hF
      refine lv_aload_n hx hb dL_law_639 rfl (lv_at hl 5 rfl) ?_
      refine lv_iconst (v := (0 : Int32)) hx hb dL_law_640 (by decide) ?_
      obtain ⟨hi11, hF⟩ := zck_in hF
      refine va_lald hx hb hK.1 hw.1 12 0 rfl rfl hi11 dL_law_641 ?_
      refine lv_iload hx hb dL_law_642 (lv_at hl 0 rfl) ?_
      refine lv_if_eq (tgt := 651) hx hb dL_law_644 (by decide) (fun hc => ?_) (fun hc => ?_)
      · have hF := zif_t hc hF
        refine lv_lconst (v := (0 : Int64)) hx hb dL_law_651 (by decide) ?_
        refine W.lcmp hx hb dL_law_652 ?_
        refine lv_if_eq (tgt := 658) hx hb dL_law_653 (by decide) (fun hc => ?_) (fun hc => ?_)
        · have hF := zif_t hc hF
          refine lv_goto (tgt := 1789) hx hb dL_law_658 (by decide) ?_
          obtain rfl := Option.some.inj hF
          refine W.widen (k := a1 + 8) (n := a2 + 48) (by omega) (by omega) ?_
          exact hk _ _ _ hw (lv_sub hl [2, 3, 4, 5, 6, 7] rfl)
        · have hF := zif_f hc hF
          refine lv_iconst (v := (0 : Int32)) hx hb dL_law_656 (by decide) ?_
          obtain rfl := Option.some.inj hF
          exact absurd h1 (show ¬ ((0 : Int32)) = 1 by decide)
      · have hF := zif_f hc hF
        refine lv_lconst (v := (1 : Int64)) hx hb dL_law_647 (by decide) ?_
        refine lv_goto (tgt := 652) hx hb dL_law_648 (by decide) ?_
        refine W.lcmp hx hb dL_law_652 ?_
        refine lv_if_eq (tgt := 658) hx hb dL_law_653 (by decide) (fun hc => ?_) (fun hc => ?_)
        · have hF := zif_t hc hF
          refine lv_goto (tgt := 1789) hx hb dL_law_658 (by decide) ?_
          obtain rfl := Option.some.inj hF
          refine W.widen (k := a1 + 8) (n := a2 + 48) (by omega) (by omega) ?_
          exact hk _ _ _ hw (lv_sub hl [2, 3, 4, 5, 6, 7] rfl)
        · have hF := zif_f hc hF
          refine lv_iconst (v := (0 : Int32)) hx hb dL_law_656 (by decide) ?_
          obtain rfl := Option.some.inj hF
          exact absurd h1 (show ¬ ((0 : Int32)) = 1 by decide)
  · have hF := zif_f hc hF
    refine lv_iconst (v := (0 : Int32)) hx hb dL_law_632 (by decide) ?_
    obtain rfl := Option.some.inj hF
    exact absurd h1 (show ¬ ((0 : Int32)) = 1 by decide)
set_option maxHeartbeats 800000 in
set_option maxRecDepth 100000 in
theorem wCase9 {p : Program} {l : Launch} {e : Env} {s : State} {m : MethodId} {args : Array Value} {below : List Frame} {meth : Method} {c : Code} {A : Nat → Prop} {Q : State → Prop} {G : va_G} {k : Nat → ClassId} {ad : Nat → Nat} {ob od : Nat} {md : Nat → Nat} {b L a1 a2 : Nat} {xs : Nat → Int32} {i : Int32} {sv : Int32} {kE : Int32} {kR : Int32} {fb : Nat → Int64} {ft : Nat → Int64} {fs : Nat → Int64} {rws : Nat → Int64} {nx : Int32} {ct : Int32} {ch : Nat → Int32} {ln : Int32} {oo : Nat → Int64} {od_ : Nat → UInt64} {thrown : Int32} {now : Nat → Int32} {saved : Nat → Int32} {hist : Nat → Nat → Int32} {kept : Int32} {reason : Int32} {detail : Int32} {isSaved : Int32} {comes : Nat → Int32} {queue : Nat → Int32} {far : Nat → Int32} {isInText : Int32} {ahead : Nat → Int32} {roomAt : Nat → Int32} {rooms : Int32} {text : Nat → Int32} {length : Int32} {at_ : Int32} {errorPosition : Int32} {toldFrom : Int32} {toldTo : Int32} {isWrong : Int32} {before : Nat → Int32} {o : zSt} (C0 : zCx p s m args meth c wsL_law code RL ret 9) (hl9 : l.stackTraces = false) (hK : zKK G k A s s.heap) (hA : ∀ q : Nat, s.heap.size ≤ q → A q) (hX : va_X b L xs s s.heap) (hbl : b < s.heap.size) (hbA : ¬ A b) (hr1 : a1 + 8 ≤ 603072) (hr2 : a2 + 48 ≤ 7207018) (hF : fCase9 xs L i sv kE kR fb ft fs rws nx ct ch ln oo od_ thrown now saved hist kept reason detail isSaved comes queue far isInText ahead roomAt rooms text length at_ errorPosition toldFrom toldTo isWrong before = some o) (h1 : o.1 = 1)
    (hk : ∀ (H : Heap) (locs : List Loc) (ls : Array Slot), zWd G A s (zLw ad ob od md k o.2.1 o.2.2.1 o.2.2.2.1 o.2.2.2.2.1 o.2.2.2.2.2.1 o.2.2.2.2.2.2.1 o.2.2.2.2.2.2.2.1 o.2.2.2.2.2.2.2.2.1 o.2.2.2.2.2.2.2.2.2.1 o.2.2.2.2.2.2.2.2.2.2.1 o.2.2.2.2.2.2.2.2.2.2.2.1 o.2.2.2.2.2.2.2.2.2.2.2.2.1 o.2.2.2.2.2.2.2.2.2.2.2.2.2.1 o.2.2.2.2.2.2.2.2.2.2.2.2.2.2.1 o.2.2.2.2.2.2.2.2.2.2.2.2.2.2.2.1 o.2.2.2.2.2.2.2.2.2.2.2.2.2.2.2.2.1 o.2.2.2.2.2.2.2.2.2.2.2.2.2.2.2.2.2.1 o.2.2.2.2.2.2.2.2.2.2.2.2.2.2.2.2.2.2.1 o.2.2.2.2.2.2.2.2.2.2.2.2.2.2.2.2.2.2.2.1 o.2.2.2.2.2.2.2.2.2.2.2.2.2.2.2.2.2.2.2.2.1 o.2.2.2.2.2.2.2.2.2.2.2.2.2.2.2.2.2.2.2.2.2.1 o.2.2.2.2.2.2.2.2.2.2.2.2.2.2.2.2.2.2.2.2.2.2.1 o.2.2.2.2.2.2.2.2.2.2.2.2.2.2.2.2.2.2.2.2.2.2.2.1 o.2.2.2.2.2.2.2.2.2.2.2.2.2.2.2.2.2.2.2.2.2.2.2.2.1 o.2.2.2.2.2.2.2.2.2.2.2.2.2.2.2.2.2.2.2.2.2.2.2.2.2.1 o.2.2.2.2.2.2.2.2.2.2.2.2.2.2.2.2.2.2.2.2.2.2.2.2.2.2.1 o.2.2.2.2.2.2.2.2.2.2.2.2.2.2.2.2.2.2.2.2.2.2.2.2.2.2.2.1 o.2.2.2.2.2.2.2.2.2.2.2.2.2.2.2.2.2.2.2.2.2.2.2.2.2.2.2.2.1 o.2.2.2.2.2.2.2.2.2.2.2.2.2.2.2.2.2.2.2.2.2.2.2.2.2.2.2.2.2.1 o.2.2.2.2.2.2.2.2.2.2.2.2.2.2.2.2.2.2.2.2.2.2.2.2.2.2.2.2.2.2.1 o.2.2.2.2.2.2.2.2.2.2.2.2.2.2.2.2.2.2.2.2.2.2.2.2.2.2.2.2.2.2.2.1 o.2.2.2.2.2.2.2.2.2.2.2.2.2.2.2.2.2.2.2.2.2.2.2.2.2.2.2.2.2.2.2.2.1 o.2.2.2.2.2.2.2.2.2.2.2.2.2.2.2.2.2.2.2.2.2.2.2.2.2.2.2.2.2.2.2.2.2.1 o.2.2.2.2.2.2.2.2.2.2.2.2.2.2.2.2.2.2.2.2.2.2.2.2.2.2.2.2.2.2.2.2.2.2.1 o.2.2.2.2.2.2.2.2.2.2.2.2.2.2.2.2.2.2.2.2.2.2.2.2.2.2.2.2.2.2.2.2.2.2.2.1 o.2.2.2.2.2.2.2.2.2.2.2.2.2.2.2.2.2.2.2.2.2.2.2.2.2.2.2.2.2.2.2.2.2.2.2.2) H locs → lv_has ls 9 [(0, .ref b), (1, .ref (ad 0)), (2, .ref (md 0)), (3, .ref ob), (4, .ref od), (5, .int i)] → W p l e room_1 s m args below meth c H locs (a1 + 8) (a2 + 48) Q (F0 m 1789 ls [])) :
    ∀ (H : Heap) (locs : List Loc) (ls : Array Slot), zWd G A s (zLw ad ob od md k sv kE kR fb ft fs rws nx ct ch ln oo od_ thrown now saved hist kept reason detail isSaved comes queue far isInText ahead roomAt rooms text length at_ errorPosition toldFrom toldTo isWrong before) H locs → lv_has ls 9 [(0, .ref b), (1, .ref (ad 0)), (2, .ref (md 0)), (3, .ref ob), (4, .ref od), (5, .int i)] → W p l e room_1 s m args below meth c H locs a1 a2 Q (F0 m 661 ls []) := by
  obtain ⟨hx, hb, hr, hml, hown, hts, hlocks⟩ := id C0
  intro H locs ls hw hl
  unfold fCase9 at hF
  refine lv_aload_n hx hb dL_law_661 rfl (lv_at hl 1 rfl) ?_
  refine lv_aload_n hx hb dL_law_662 rfl (lv_at hl 0 rfl) ?_
  refine lv_iload hx hb dL_law_663 (lv_at hl 5 rfl) ?_
  refine lv_iconst (v := (1 : Int32)) hx hb dL_law_665 (by decide) ?_
  refine lv_iadd hx hb dL_law_666 ?_
  obtain ⟨hi1, hF⟩ := zck_in hF
  refine va_sld hx hb hX hbl hbA hw.2.2 hi1 dL_law_667 ?_
  refine lv_aload_n hx hb dL_law_668 rfl (lv_at hl 3 rfl) ?_
  obtain ⟨u2, hq3, hF⟩ := zbd_t hF
  refine zgoI4 (w' := (zLw ad ob od md k sv kE kR fb ft fs rws nx ct ch ln u2.2 od_ thrown now saved hist kept reason detail isSaved comes queue far isInText ahead roomAt rooms text length at_ errorPosition toldFrom toldTo isWrong before)) hw zLw_co zLw_co hA (zSW4 (As := [.ref (ad 0), .int (xs (i + (1 : Int32)).toNatClampNeg), .ref ob]) (rest := []) ⟨hx, hb, hml, hown, hts⟩ (mL_moves l hl9 G k ad ob H.size sv kE kR fb ft fs rws nx ct ch ln oo (xs (i + (1 : Int32)).toNatClampNeg) u2 hq3) (vx_cwSW 3 hts gL_law_L_moves rfl rfl rfl kdL_moves ⟨Nat.le_of_ble_eq_true rfl, Nat.le_of_ble_eq_true rfl⟩) hK hA hw zLw_co rfl hl.1 rfl (Nat.le_of_ble_eq_true rfl) dL_law_669 ⟨(by show _ ≤ 603072; omega), (by show _ ≤ 7207018; omega)⟩) rfl (fun H locs hw => ?_)
  refine lv_istore (lv' := [(6, .int u2.1), (0, .ref b), (1, .ref (ad 0)), (2, .ref (md 0)), (3, .ref ob), (4, .ref od), (5, .int i)]) hx hb dL_law_672 hl (by decide) rfl (fun ls hl => ?_)
  refine lv_aload_n hx hb dL_law_674 rfl (lv_at hl 3 rfl) ?_
  refine lv_aload_n hx hb dL_law_675 rfl (lv_at hl 1 rfl) ?_
  refine lv_iload hx hb dL_law_676 (lv_at hl 6 rfl) ?_
  refine lv_iconst (v := (1 : Int32)) hx hb dL_law_678 (by decide) ?_
  refine lv_iadd hx hb dL_law_679 ?_
  obtain ⟨hi4, hF⟩ := zck_in hF
  refine va_sld hx hb hX hbl hbA hw.2.2 hi4 dL_law_680 ?_
  obtain ⟨u5, hq6, hF⟩ := zbd_t hF
  refine zgoI4 (w' := (zLw ad ob od md k sv kE kR fb ft fs rws nx ct ch ln u2.2 od_ u5.2.1 now saved hist kept reason detail isSaved u5.2.2.1 u5.2.2.2.1 u5.2.2.2.2 isInText ahead roomAt rooms text length at_ errorPosition toldFrom toldTo isWrong before)) hw zLw_m zLw_m hA (zV4 (As := [.int (xs (i + (1 : Int32)).toNatClampNeg)]) (rest := []) ⟨hx, hb, hml, hown, hts⟩ (mX5_moves l G k md H.size thrown now saved hist kept reason detail isSaved comes queue far isInText ahead roomAt rooms text length at_ errorPosition toldFrom toldTo isWrong before (xs (i + (1 : Int32)).toNatClampNeg) u5 hq6) (cwV 1 hts gL_law_X5_moves rfl rfl rfl kdX5_moves ⟨Nat.le_of_ble_eq_true rfl, Nat.le_of_ble_eq_true rfl⟩) hK hA hw zLw_m 0 rfl rfl rfl rfl hl.1 rfl (Nat.le_of_ble_eq_true rfl) dL_law_681 ⟨(by show _ ≤ 603072; omega), (by show _ ≤ 7207018; omega)⟩) rfl (fun H locs hw => ?_)
  refine lv_istore (lv' := [(7, .int u5.1), (6, .int u2.1), (0, .ref b), (1, .ref (ad 0)), (2, .ref (md 0)), (3, .ref ob), (4, .ref od), (5, .int i)]) hx hb dL_law_684 hl (by decide) rfl (fun ls hl => ?_)
  refine lv_aload_n hx hb dL_law_686 rfl (lv_at hl 4 rfl) ?_
  obtain ⟨u7, hq8, hF⟩ := zbd_t hF
  refine zgoI4 (w' := (zLw ad ob od md k sv kE kR fb ft fs rws nx ct ch ln u2.2 od_ u5.2.1 now saved hist kept reason detail isSaved u5.2.2.1 u5.2.2.2.1 u5.2.2.2.2 isInText ahead roomAt rooms text length at_ errorPosition toldFrom toldTo isWrong before)) hw zLw_m zLw_m hA (zV4 (As := []) (rest := []) ⟨hx, hb, hml, hown, hts⟩ (mX5_thrown l G k md H.size u5.2.1 now saved hist kept reason detail isSaved u5.2.2.1 u5.2.2.2.1 u5.2.2.2.2 isInText ahead roomAt rooms text length at_ errorPosition toldFrom toldTo isWrong before  u7 hq8) (cwV 0 hts gL_law_X5_thrown rfl rfl rfl kdX5_thrown ⟨Nat.le_of_ble_eq_true rfl, Nat.le_of_ble_eq_true rfl⟩) hK hA hw zLw_m 0 rfl rfl rfl rfl hl.1 rfl (Nat.le_of_ble_eq_true rfl) dL_law_687 ⟨(by show _ ≤ 603072; omega), (by show _ ≤ 7207018; omega)⟩) rfl (fun H locs hw => ?_)
  refine lv_iload hx hb dL_law_690 (lv_at hl 1 rfl) ?_
  refine lv_icmp_eq (tgt := 697) hx hb dL_law_692 (by decide) (fun hc => ?_) (fun hc => ?_)
  · have hF := zif_t hc hF
    refine lv_iload hx hb dL_law_697 (lv_at hl 1 rfl) ?_
    refine lv_if_ne (tgt := 714) hx hb dL_law_699 (by decide) (fun hc => ?_) (fun hc => ?_)
    · have hF := zif_f hc hF
      refine lv_goto (tgt := 1789) hx hb dL_law_714 (by decide) ?_
      obtain rfl := Option.some.inj hF
      refine W.widen (k := a1 + 8) (n := a2 + 48) (by omega) (by omega) ?_
      exact hk _ _ _ hw (lv_sub hl [2, 3, 4, 5, 6, 7] rfl)
    · have hF := zif_t hc hF
      refine lv_aload_n hx hb dL_law_702 rfl (lv_at hl 5 rfl) ?_
      refine lv_iconst (v := (0 : Int32)) hx hb dL_law_703 (by decide) ?_
      obtain ⟨hi9, hF⟩ := zck_in hF
      refine va_lald hx hb hK.1 hw.1 12 0 rfl rfl hi9 dL_law_704 ?_
      refine lv_iload hx hb dL_law_705 (lv_at hl 0 rfl) ?_
      refine lv_i2l hx hb dL_law_707 rfl ?_
      refine W.lcmp hx hb dL_law_708 ?_
      refine lv_if_eq (tgt := 714) hx hb dL_law_709 (by decide) (fun hc => ?_) (fun hc => ?_)
      · have hF := zif_t hc hF
        refine lv_goto (tgt := 1789) hx hb dL_law_714 (by decide) ?_
        obtain rfl := Option.some.inj hF
        refine W.widen (k := a1 + 8) (n := a2 + 48) (by omega) (by omega) ?_
        exact hk _ _ _ hw (lv_sub hl [2, 3, 4, 5, 6, 7] rfl)
      · have hF := zif_f hc hF
        refine lv_iconst (v := (0 : Int32)) hx hb dL_law_712 (by decide) ?_
        obtain rfl := Option.some.inj hF
        exact absurd h1 (show ¬ ((0 : Int32)) = 1 by decide)
  · have hF := zif_f hc hF
    refine lv_iconst (v := (0 : Int32)) hx hb dL_law_695 (by decide) ?_
    obtain rfl := Option.some.inj hF
    exact absurd h1 (show ¬ ((0 : Int32)) = 1 by decide)
